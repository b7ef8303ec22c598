/-! The start: the two constructors. -/
def z_fu : Nat → Int32 → Nat → Int32
  | 0, _ => fun _ => 0
  | n + 1, x => upd (z_fu n x) n x
def z_sh : Nat → Nat → Option Nat
  | 0 => fun _ => none
  | n + 1 => va_up (z_sh n) n (some (36 + 2 * n))
def z_fo (o : Nat) (x : Int32) (f : Nat → Int32) : Nat → Nat → Int32
  | 0 => f
  | n + 1 => upd (z_fo o x f n) (o + n) x
def z_zi (n : Nat) : zC := .inl (n, .inl (fun _ => 0))
def z_zl (n : Nat) : zC := .inl (n, .inr (.inl (fun _ => 0)))
/-- from here the method comes to this end -/
def zU (X : Nat × (Nat → Int32)) (j pc : Nat) (L : zL) (st : List Value) (h : zH) (r : Option Value × zH) : Prop := ∃ n, z_run (z_hop1 X) z_rcv1 z_P z_rk n j pc L st h = some r
section START
variable {X : Nat × (Nat → Int32)}
theorem us {j pc pc' : Nat} {L L' : zL} {st st' : List Value} {h h' : zH} {r : Option Value × zH} {e : zE} (he : z_P j pc = some e) (hs : z_stp (z_hop1 X) pc e L st h = some (pc', L', st', h')) (hc : z_ctl z_rcv1 (z_rk j) e st h = none) (k : zU X j pc' L' st' h' r) : zU X j pc L st h r := by
  obtain ⟨n, h1⟩ := k
  refine ⟨n + 1, ?_⟩
  rw [z_run, he]
  dsimp only
  rw [hc]
  dsimp only
  rw [hs]
  exact h1
theorem ur {j pc : Nat} {L : zL} {st : List Value} {h : zH} {v : Option Value} {e : zE} (he : z_P j pc = some e) (hc : z_ctl z_rcv1 (z_rk j) e st h = some (.inr v)) : zU X j pc L st h (v, h) := by
  refine ⟨1, ?_⟩
  rw [z_run, he]
  dsimp only
  rw [hc]
theorem uc {j pc c : Nat} {L : zL} {st q args : List Value} {h h1 : zH} {v : Option Value} {r : Option Value × zH} {e : zE} (he : z_P j pc = some e) (hc : z_ctl z_rcv1 (z_rk j) e st h = some (.inl (c, args, q))) (hv : zU X c 0 (z_args 0 args) [] h (v, h1)) (k : zU X j e.2.1 L (z_psh v q) h1 r) : zU X j pc L st h r := by
  obtain ⟨n1, h2⟩ := hv
  obtain ⟨n2, h3⟩ := k
  refine ⟨max n1 n2 + 1, ?_⟩
  rw [z_run, he]
  dsimp only
  rw [hc]
  dsimp only
  rw [z_run_le (Nat.le_max_left n1 n2) h2]
  exact z_run_le (Nat.le_max_right n1 n2) h3
theorem st_fill_2 {c0 c1 c3 c4 c5 c6 c7 c8 c9 : zC} : zU X 230 0 [(0, .ref 2), (1, .int 100)] [] [c0, c1, z_zi 6, c3, c4, c5, c6, c7, c8, c9] (none, [c0, c1, .inl (6, .inl (z_fu 6 100)), c3, c4, c5, c6, c7, c8, c9]) := by
  refine us rfl rfl rfl ?_
  refine us rfl rfl rfl ?_
  refine us rfl rfl rfl ?_
  refine us rfl rfl rfl ?_
  refine us rfl rfl rfl ?_
  show zU X 230 5 [(0, .ref 2), (1, .int 100), (2, .int 0), (3, .int 6)] [] [c0, c1, .inl (6, .inl (z_fu 0 100)), c3, c4, c5, c6, c7, c8, c9] (none, [c0, c1, .inl (6, .inl (z_fu 6 100)), c3, c4, c5, c6, c7, c8, c9])
  refine us rfl rfl rfl ?_
  refine us rfl rfl rfl ?_
  refine us rfl rfl rfl ?_
  refine us rfl rfl rfl ?_
  refine us rfl rfl rfl ?_
  refine us rfl rfl rfl ?_
  refine us rfl rfl rfl ?_
  refine us rfl rfl rfl ?_
  refine us rfl rfl rfl ?_
  show zU X 230 5 [(0, .ref 2), (1, .int 100), (2, .int 1), (3, .int 6)] [] [c0, c1, .inl (6, .inl (z_fu 1 100)), c3, c4, c5, c6, c7, c8, c9] (none, [c0, c1, .inl (6, .inl (z_fu 6 100)), c3, c4, c5, c6, c7, c8, c9])
  refine us rfl rfl rfl ?_
  refine us rfl rfl rfl ?_
  refine us rfl rfl rfl ?_
  refine us rfl rfl rfl ?_
  refine us rfl rfl rfl ?_
  refine us rfl rfl rfl ?_
  refine us rfl rfl rfl ?_
  refine us rfl rfl rfl ?_
  refine us rfl rfl rfl ?_
  show zU X 230 5 [(0, .ref 2), (1, .int 100), (2, .int 2), (3, .int 6)] [] [c0, c1, .inl (6, .inl (z_fu 2 100)), c3, c4, c5, c6, c7, c8, c9] (none, [c0, c1, .inl (6, .inl (z_fu 6 100)), c3, c4, c5, c6, c7, c8, c9])
  refine us rfl rfl rfl ?_
  refine us rfl rfl rfl ?_
  refine us rfl rfl rfl ?_
  refine us rfl rfl rfl ?_
  refine us rfl rfl rfl ?_
  refine us rfl rfl rfl ?_
  refine us rfl rfl rfl ?_
  refine us rfl rfl rfl ?_
  refine us rfl rfl rfl ?_
  show zU X 230 5 [(0, .ref 2), (1, .int 100), (2, .int 3), (3, .int 6)] [] [c0, c1, .inl (6, .inl (z_fu 3 100)), c3, c4, c5, c6, c7, c8, c9] (none, [c0, c1, .inl (6, .inl (z_fu 6 100)), c3, c4, c5, c6, c7, c8, c9])
  refine us rfl rfl rfl ?_
  refine us rfl rfl rfl ?_
  refine us rfl rfl rfl ?_
  refine us rfl rfl rfl ?_
  refine us rfl rfl rfl ?_
  refine us rfl rfl rfl ?_
  refine us rfl rfl rfl ?_
  refine us rfl rfl rfl ?_
  refine us rfl rfl rfl ?_
  show zU X 230 5 [(0, .ref 2), (1, .int 100), (2, .int 4), (3, .int 6)] [] [c0, c1, .inl (6, .inl (z_fu 4 100)), c3, c4, c5, c6, c7, c8, c9] (none, [c0, c1, .inl (6, .inl (z_fu 6 100)), c3, c4, c5, c6, c7, c8, c9])
  refine us rfl rfl rfl ?_
  refine us rfl rfl rfl ?_
  refine us rfl rfl rfl ?_
  refine us rfl rfl rfl ?_
  refine us rfl rfl rfl ?_
  refine us rfl rfl rfl ?_
  refine us rfl rfl rfl ?_
  refine us rfl rfl rfl ?_
  refine us rfl rfl rfl ?_
  show zU X 230 5 [(0, .ref 2), (1, .int 100), (2, .int 5), (3, .int 6)] [] [c0, c1, .inl (6, .inl (z_fu 5 100)), c3, c4, c5, c6, c7, c8, c9] (none, [c0, c1, .inl (6, .inl (z_fu 6 100)), c3, c4, c5, c6, c7, c8, c9])
  refine us rfl rfl rfl ?_
  refine us rfl rfl rfl ?_
  refine us rfl rfl rfl ?_
  refine us rfl rfl rfl ?_
  refine us rfl rfl rfl ?_
  refine us rfl rfl rfl ?_
  refine us rfl rfl rfl ?_
  refine us rfl rfl rfl ?_
  refine us rfl rfl rfl ?_
  show zU X 230 5 [(0, .ref 2), (1, .int 100), (2, .int 6), (3, .int 6)] [] [c0, c1, .inl (6, .inl (z_fu 6 100)), c3, c4, c5, c6, c7, c8, c9] (none, [c0, c1, .inl (6, .inl (z_fu 6 100)), c3, c4, c5, c6, c7, c8, c9])
  refine us rfl rfl rfl ?_
  refine us rfl rfl rfl ?_
  refine us rfl rfl rfl ?_
  exact ur rfl rfl
theorem st_fill_3 {c0 c1 c2 c4 c5 c6 c7 c8 c9 : zC} : zU X 230 0 [(0, .ref 3), (1, .int 1)] [] [c0, c1, c2, z_zi 13, c4, c5, c6, c7, c8, c9] (none, [c0, c1, c2, .inl (13, .inl (z_fu 13 1)), c4, c5, c6, c7, c8, c9]) := by
  refine us rfl rfl rfl ?_
  refine us rfl rfl rfl ?_
  refine us rfl rfl rfl ?_
  refine us rfl rfl rfl ?_
  refine us rfl rfl rfl ?_
  show zU X 230 5 [(0, .ref 3), (1, .int 1), (2, .int 0), (3, .int 13)] [] [c0, c1, c2, .inl (13, .inl (z_fu 0 1)), c4, c5, c6, c7, c8, c9] (none, [c0, c1, c2, .inl (13, .inl (z_fu 13 1)), c4, c5, c6, c7, c8, c9])
  refine us rfl rfl rfl ?_
  refine us rfl rfl rfl ?_
  refine us rfl rfl rfl ?_
  refine us rfl rfl rfl ?_
  refine us rfl rfl rfl ?_
  refine us rfl rfl rfl ?_
  refine us rfl rfl rfl ?_
  refine us rfl rfl rfl ?_
  refine us rfl rfl rfl ?_
  show zU X 230 5 [(0, .ref 3), (1, .int 1), (2, .int 1), (3, .int 13)] [] [c0, c1, c2, .inl (13, .inl (z_fu 1 1)), c4, c5, c6, c7, c8, c9] (none, [c0, c1, c2, .inl (13, .inl (z_fu 13 1)), c4, c5, c6, c7, c8, c9])
  refine us rfl rfl rfl ?_
  refine us rfl rfl rfl ?_
  refine us rfl rfl rfl ?_
  refine us rfl rfl rfl ?_
  refine us rfl rfl rfl ?_
  refine us rfl rfl rfl ?_
  refine us rfl rfl rfl ?_
  refine us rfl rfl rfl ?_
  refine us rfl rfl rfl ?_
  show zU X 230 5 [(0, .ref 3), (1, .int 1), (2, .int 2), (3, .int 13)] [] [c0, c1, c2, .inl (13, .inl (z_fu 2 1)), c4, c5, c6, c7, c8, c9] (none, [c0, c1, c2, .inl (13, .inl (z_fu 13 1)), c4, c5, c6, c7, c8, c9])
  refine us rfl rfl rfl ?_
  refine us rfl rfl rfl ?_
  refine us rfl rfl rfl ?_
  refine us rfl rfl rfl ?_
  refine us rfl rfl rfl ?_
  refine us rfl rfl rfl ?_
  refine us rfl rfl rfl ?_
  refine us rfl rfl rfl ?_
  refine us rfl rfl rfl ?_
  show zU X 230 5 [(0, .ref 3), (1, .int 1), (2, .int 3), (3, .int 13)] [] [c0, c1, c2, .inl (13, .inl (z_fu 3 1)), c4, c5, c6, c7, c8, c9] (none, [c0, c1, c2, .inl (13, .inl (z_fu 13 1)), c4, c5, c6, c7, c8, c9])
  refine us rfl rfl rfl ?_
  refine us rfl rfl rfl ?_
  refine us rfl rfl rfl ?_
  refine us rfl rfl rfl ?_
  refine us rfl rfl rfl ?_
  refine us rfl rfl rfl ?_
  refine us rfl rfl rfl ?_
  refine us rfl rfl rfl ?_
  refine us rfl rfl rfl ?_
  show zU X 230 5 [(0, .ref 3), (1, .int 1), (2, .int 4), (3, .int 13)] [] [c0, c1, c2, .inl (13, .inl (z_fu 4 1)), c4, c5, c6, c7, c8, c9] (none, [c0, c1, c2, .inl (13, .inl (z_fu 13 1)), c4, c5, c6, c7, c8, c9])
  refine us rfl rfl rfl ?_
  refine us rfl rfl rfl ?_
  refine us rfl rfl rfl ?_
  refine us rfl rfl rfl ?_
  refine us rfl rfl rfl ?_
  refine us rfl rfl rfl ?_
  refine us rfl rfl rfl ?_
  refine us rfl rfl rfl ?_
  refine us rfl rfl rfl ?_
  show zU X 230 5 [(0, .ref 3), (1, .int 1), (2, .int 5), (3, .int 13)] [] [c0, c1, c2, .inl (13, .inl (z_fu 5 1)), c4, c5, c6, c7, c8, c9] (none, [c0, c1, c2, .inl (13, .inl (z_fu 13 1)), c4, c5, c6, c7, c8, c9])
  refine us rfl rfl rfl ?_
  refine us rfl rfl rfl ?_
  refine us rfl rfl rfl ?_
  refine us rfl rfl rfl ?_
  refine us rfl rfl rfl ?_
  refine us rfl rfl rfl ?_
  refine us rfl rfl rfl ?_
  refine us rfl rfl rfl ?_
  refine us rfl rfl rfl ?_
  show zU X 230 5 [(0, .ref 3), (1, .int 1), (2, .int 6), (3, .int 13)] [] [c0, c1, c2, .inl (13, .inl (z_fu 6 1)), c4, c5, c6, c7, c8, c9] (none, [c0, c1, c2, .inl (13, .inl (z_fu 13 1)), c4, c5, c6, c7, c8, c9])
  refine us rfl rfl rfl ?_
  refine us rfl rfl rfl ?_
  refine us rfl rfl rfl ?_
  refine us rfl rfl rfl ?_
  refine us rfl rfl rfl ?_
  refine us rfl rfl rfl ?_
  refine us rfl rfl rfl ?_
  refine us rfl rfl rfl ?_
  refine us rfl rfl rfl ?_
  show zU X 230 5 [(0, .ref 3), (1, .int 1), (2, .int 7), (3, .int 13)] [] [c0, c1, c2, .inl (13, .inl (z_fu 7 1)), c4, c5, c6, c7, c8, c9] (none, [c0, c1, c2, .inl (13, .inl (z_fu 13 1)), c4, c5, c6, c7, c8, c9])
  refine us rfl rfl rfl ?_
  refine us rfl rfl rfl ?_
  refine us rfl rfl rfl ?_
  refine us rfl rfl rfl ?_
  refine us rfl rfl rfl ?_
  refine us rfl rfl rfl ?_
  refine us rfl rfl rfl ?_
  refine us rfl rfl rfl ?_
  refine us rfl rfl rfl ?_
  show zU X 230 5 [(0, .ref 3), (1, .int 1), (2, .int 8), (3, .int 13)] [] [c0, c1, c2, .inl (13, .inl (z_fu 8 1)), c4, c5, c6, c7, c8, c9] (none, [c0, c1, c2, .inl (13, .inl (z_fu 13 1)), c4, c5, c6, c7, c8, c9])
  refine us rfl rfl rfl ?_
  refine us rfl rfl rfl ?_
  refine us rfl rfl rfl ?_
  refine us rfl rfl rfl ?_
  refine us rfl rfl rfl ?_
  refine us rfl rfl rfl ?_
  refine us rfl rfl rfl ?_
  refine us rfl rfl rfl ?_
  refine us rfl rfl rfl ?_
  show zU X 230 5 [(0, .ref 3), (1, .int 1), (2, .int 9), (3, .int 13)] [] [c0, c1, c2, .inl (13, .inl (z_fu 9 1)), c4, c5, c6, c7, c8, c9] (none, [c0, c1, c2, .inl (13, .inl (z_fu 13 1)), c4, c5, c6, c7, c8, c9])
  refine us rfl rfl rfl ?_
  refine us rfl rfl rfl ?_
  refine us rfl rfl rfl ?_
  refine us rfl rfl rfl ?_
  refine us rfl rfl rfl ?_
  refine us rfl rfl rfl ?_
  refine us rfl rfl rfl ?_
  refine us rfl rfl rfl ?_
  refine us rfl rfl rfl ?_
  show zU X 230 5 [(0, .ref 3), (1, .int 1), (2, .int 10), (3, .int 13)] [] [c0, c1, c2, .inl (13, .inl (z_fu 10 1)), c4, c5, c6, c7, c8, c9] (none, [c0, c1, c2, .inl (13, .inl (z_fu 13 1)), c4, c5, c6, c7, c8, c9])
  refine us rfl rfl rfl ?_
  refine us rfl rfl rfl ?_
  refine us rfl rfl rfl ?_
  refine us rfl rfl rfl ?_
  refine us rfl rfl rfl ?_
  refine us rfl rfl rfl ?_
  refine us rfl rfl rfl ?_
  refine us rfl rfl rfl ?_
  refine us rfl rfl rfl ?_
  show zU X 230 5 [(0, .ref 3), (1, .int 1), (2, .int 11), (3, .int 13)] [] [c0, c1, c2, .inl (13, .inl (z_fu 11 1)), c4, c5, c6, c7, c8, c9] (none, [c0, c1, c2, .inl (13, .inl (z_fu 13 1)), c4, c5, c6, c7, c8, c9])
  refine us rfl rfl rfl ?_
  refine us rfl rfl rfl ?_
  refine us rfl rfl rfl ?_
  refine us rfl rfl rfl ?_
  refine us rfl rfl rfl ?_
  refine us rfl rfl rfl ?_
  refine us rfl rfl rfl ?_
  refine us rfl rfl rfl ?_
  refine us rfl rfl rfl ?_
  show zU X 230 5 [(0, .ref 3), (1, .int 1), (2, .int 12), (3, .int 13)] [] [c0, c1, c2, .inl (13, .inl (z_fu 12 1)), c4, c5, c6, c7, c8, c9] (none, [c0, c1, c2, .inl (13, .inl (z_fu 13 1)), c4, c5, c6, c7, c8, c9])
  refine us rfl rfl rfl ?_
  refine us rfl rfl rfl ?_
  refine us rfl rfl rfl ?_
  refine us rfl rfl rfl ?_
  refine us rfl rfl rfl ?_
  refine us rfl rfl rfl ?_
  refine us rfl rfl rfl ?_
  refine us rfl rfl rfl ?_
  refine us rfl rfl rfl ?_
  show zU X 230 5 [(0, .ref 3), (1, .int 1), (2, .int 13), (3, .int 13)] [] [c0, c1, c2, .inl (13, .inl (z_fu 13 1)), c4, c5, c6, c7, c8, c9] (none, [c0, c1, c2, .inl (13, .inl (z_fu 13 1)), c4, c5, c6, c7, c8, c9])
  refine us rfl rfl rfl ?_
  refine us rfl rfl rfl ?_
  refine us rfl rfl rfl ?_
  exact ur rfl rfl
theorem st_road_1 {c0 : zC} : zU X 0 0 [(0, .ref 1)] [] [c0, .inr (0, [.null, .null, .null, .null, .null, .null, .null, .null, .int 0, .int 0, .int 0])] (none, [c0, .inr (0, [.ref 2, .ref 3, .ref 4, .ref 5, .ref 6, .ref 7, .ref 8, .ref 9, .int 0, .int 0, .int 0]), .inl (6, .inl (z_fu 6 100)), .inl (13, .inl (z_fu 13 1)), z_zi 12, z_zi 12, z_zi 12, z_zi 12, z_zi 12, z_zi 12]) := by
  refine us rfl rfl rfl ?_
  refine us rfl rfl rfl ?_
  refine us rfl rfl rfl ?_
  refine us rfl rfl rfl ?_
  refine us rfl rfl rfl ?_
  refine us rfl rfl rfl ?_
  show zU X 0 12 [(0, .ref 1)] [] [c0, .inr (0, [.ref 2, .null, .null, .null, .null, .null, .null, .null, .int 0, .int 0, .int 0]), z_zi 6] (none, [c0, .inr (0, [.ref 2, .ref 3, .ref 4, .ref 5, .ref 6, .ref 7, .ref 8, .ref 9, .int 0, .int 0, .int 0]), .inl (6, .inl (z_fu 6 100)), .inl (13, .inl (z_fu 13 1)), z_zi 12, z_zi 12, z_zi 12, z_zi 12, z_zi 12, z_zi 12])
  refine us rfl rfl rfl ?_
  refine us rfl rfl rfl ?_
  refine us rfl rfl rfl ?_
  refine us rfl rfl rfl ?_
  show zU X 0 20 [(0, .ref 1)] [] [c0, .inr (0, [.ref 2, .ref 3, .null, .null, .null, .null, .null, .null, .int 0, .int 0, .int 0]), z_zi 6, z_zi 13] (none, [c0, .inr (0, [.ref 2, .ref 3, .ref 4, .ref 5, .ref 6, .ref 7, .ref 8, .ref 9, .int 0, .int 0, .int 0]), .inl (6, .inl (z_fu 6 100)), .inl (13, .inl (z_fu 13 1)), z_zi 12, z_zi 12, z_zi 12, z_zi 12, z_zi 12, z_zi 12])
  refine us rfl rfl rfl ?_
  refine us rfl rfl rfl ?_
  refine us rfl rfl rfl ?_
  refine us rfl rfl rfl ?_
  show zU X 0 28 [(0, .ref 1)] [] [c0, .inr (0, [.ref 2, .ref 3, .ref 4, .null, .null, .null, .null, .null, .int 0, .int 0, .int 0]), z_zi 6, z_zi 13, z_zi 12] (none, [c0, .inr (0, [.ref 2, .ref 3, .ref 4, .ref 5, .ref 6, .ref 7, .ref 8, .ref 9, .int 0, .int 0, .int 0]), .inl (6, .inl (z_fu 6 100)), .inl (13, .inl (z_fu 13 1)), z_zi 12, z_zi 12, z_zi 12, z_zi 12, z_zi 12, z_zi 12])
  refine us rfl rfl rfl ?_
  refine us rfl rfl rfl ?_
  refine us rfl rfl rfl ?_
  refine us rfl rfl rfl ?_
  show zU X 0 36 [(0, .ref 1)] [] [c0, .inr (0, [.ref 2, .ref 3, .ref 4, .ref 5, .null, .null, .null, .null, .int 0, .int 0, .int 0]), z_zi 6, z_zi 13, z_zi 12, z_zi 12] (none, [c0, .inr (0, [.ref 2, .ref 3, .ref 4, .ref 5, .ref 6, .ref 7, .ref 8, .ref 9, .int 0, .int 0, .int 0]), .inl (6, .inl (z_fu 6 100)), .inl (13, .inl (z_fu 13 1)), z_zi 12, z_zi 12, z_zi 12, z_zi 12, z_zi 12, z_zi 12])
  refine us rfl rfl rfl ?_
  refine us rfl rfl rfl ?_
  refine us rfl rfl rfl ?_
  refine us rfl rfl rfl ?_
  show zU X 0 44 [(0, .ref 1)] [] [c0, .inr (0, [.ref 2, .ref 3, .ref 4, .ref 5, .ref 6, .null, .null, .null, .int 0, .int 0, .int 0]), z_zi 6, z_zi 13, z_zi 12, z_zi 12, z_zi 12] (none, [c0, .inr (0, [.ref 2, .ref 3, .ref 4, .ref 5, .ref 6, .ref 7, .ref 8, .ref 9, .int 0, .int 0, .int 0]), .inl (6, .inl (z_fu 6 100)), .inl (13, .inl (z_fu 13 1)), z_zi 12, z_zi 12, z_zi 12, z_zi 12, z_zi 12, z_zi 12])
  refine us rfl rfl rfl ?_
  refine us rfl rfl rfl ?_
  refine us rfl rfl rfl ?_
  refine us rfl rfl rfl ?_
  show zU X 0 52 [(0, .ref 1)] [] [c0, .inr (0, [.ref 2, .ref 3, .ref 4, .ref 5, .ref 6, .ref 7, .null, .null, .int 0, .int 0, .int 0]), z_zi 6, z_zi 13, z_zi 12, z_zi 12, z_zi 12, z_zi 12] (none, [c0, .inr (0, [.ref 2, .ref 3, .ref 4, .ref 5, .ref 6, .ref 7, .ref 8, .ref 9, .int 0, .int 0, .int 0]), .inl (6, .inl (z_fu 6 100)), .inl (13, .inl (z_fu 13 1)), z_zi 12, z_zi 12, z_zi 12, z_zi 12, z_zi 12, z_zi 12])
  refine us rfl rfl rfl ?_
  refine us rfl rfl rfl ?_
  refine us rfl rfl rfl ?_
  refine us rfl rfl rfl ?_
  show zU X 0 60 [(0, .ref 1)] [] [c0, .inr (0, [.ref 2, .ref 3, .ref 4, .ref 5, .ref 6, .ref 7, .ref 8, .null, .int 0, .int 0, .int 0]), z_zi 6, z_zi 13, z_zi 12, z_zi 12, z_zi 12, z_zi 12, z_zi 12] (none, [c0, .inr (0, [.ref 2, .ref 3, .ref 4, .ref 5, .ref 6, .ref 7, .ref 8, .ref 9, .int 0, .int 0, .int 0]), .inl (6, .inl (z_fu 6 100)), .inl (13, .inl (z_fu 13 1)), z_zi 12, z_zi 12, z_zi 12, z_zi 12, z_zi 12, z_zi 12])
  refine us rfl rfl rfl ?_
  refine us rfl rfl rfl ?_
  refine us rfl rfl rfl ?_
  refine us rfl rfl rfl ?_
  show zU X 0 68 [(0, .ref 1)] [] [c0, .inr (0, [.ref 2, .ref 3, .ref 4, .ref 5, .ref 6, .ref 7, .ref 8, .ref 9, .int 0, .int 0, .int 0]), z_zi 6, z_zi 13, z_zi 12, z_zi 12, z_zi 12, z_zi 12, z_zi 12, z_zi 12] (none, [c0, .inr (0, [.ref 2, .ref 3, .ref 4, .ref 5, .ref 6, .ref 7, .ref 8, .ref 9, .int 0, .int 0, .int 0]), .inl (6, .inl (z_fu 6 100)), .inl (13, .inl (z_fu 13 1)), z_zi 12, z_zi 12, z_zi 12, z_zi 12, z_zi 12, z_zi 12])
  refine us rfl rfl rfl ?_
  refine us rfl rfl rfl ?_
  refine us rfl rfl rfl ?_
  refine us rfl rfl rfl ?_
  refine us rfl rfl rfl ?_
  refine us rfl rfl rfl ?_
  refine us rfl rfl rfl ?_
  refine us rfl rfl rfl ?_
  refine us rfl rfl rfl ?_
  show zU X 0 83 [(0, .ref 1)] [] [c0, .inr (0, [.ref 2, .ref 3, .ref 4, .ref 5, .ref 6, .ref 7, .ref 8, .ref 9, .int 0, .int 0, .int 0]), z_zi 6, z_zi 13, z_zi 12, z_zi 12, z_zi 12, z_zi 12, z_zi 12, z_zi 12] (none, [c0, .inr (0, [.ref 2, .ref 3, .ref 4, .ref 5, .ref 6, .ref 7, .ref 8, .ref 9, .int 0, .int 0, .int 0]), .inl (6, .inl (z_fu 6 100)), .inl (13, .inl (z_fu 13 1)), z_zi 12, z_zi 12, z_zi 12, z_zi 12, z_zi 12, z_zi 12])
  refine us rfl rfl rfl ?_
  refine us rfl rfl rfl ?_
  refine us rfl rfl rfl ?_
  refine uc rfl rfl st_fill_2 ?_
  show zU X 0 92 [(0, .ref 1)] [] [c0, .inr (0, [.ref 2, .ref 3, .ref 4, .ref 5, .ref 6, .ref 7, .ref 8, .ref 9, .int 0, .int 0, .int 0]), .inl (6, .inl (z_fu 6 100)), z_zi 13, z_zi 12, z_zi 12, z_zi 12, z_zi 12, z_zi 12, z_zi 12] (none, [c0, .inr (0, [.ref 2, .ref 3, .ref 4, .ref 5, .ref 6, .ref 7, .ref 8, .ref 9, .int 0, .int 0, .int 0]), .inl (6, .inl (z_fu 6 100)), .inl (13, .inl (z_fu 13 1)), z_zi 12, z_zi 12, z_zi 12, z_zi 12, z_zi 12, z_zi 12])
  refine us rfl rfl rfl ?_
  refine us rfl rfl rfl ?_
  refine us rfl rfl rfl ?_
  refine uc rfl rfl st_fill_3 ?_
  show zU X 0 100 [(0, .ref 1)] [] [c0, .inr (0, [.ref 2, .ref 3, .ref 4, .ref 5, .ref 6, .ref 7, .ref 8, .ref 9, .int 0, .int 0, .int 0]), .inl (6, .inl (z_fu 6 100)), .inl (13, .inl (z_fu 13 1)), z_zi 12, z_zi 12, z_zi 12, z_zi 12, z_zi 12, z_zi 12] (none, [c0, .inr (0, [.ref 2, .ref 3, .ref 4, .ref 5, .ref 6, .ref 7, .ref 8, .ref 9, .int 0, .int 0, .int 0]), .inl (6, .inl (z_fu 6 100)), .inl (13, .inl (z_fu 13 1)), z_zi 12, z_zi 12, z_zi 12, z_zi 12, z_zi 12, z_zi 12])
  exact ur rfl rfl
theorem st_fill_11 {c0 c1 c2 c3 c4 c5 c6 c7 c8 c9 c10 c12 c13 c14 c15 c16 c17 c18 : zC} : zU X 230 0 [(0, .ref 11), (1, .int 100)] [] [c0, c1, c2, c3, c4, c5, c6, c7, c8, c9, c10, z_zi 6, c12, c13, c14, c15, c16, c17, c18] (none, [c0, c1, c2, c3, c4, c5, c6, c7, c8, c9, c10, .inl (6, .inl (z_fu 6 100)), c12, c13, c14, c15, c16, c17, c18]) := by
  refine us rfl rfl rfl ?_
  refine us rfl rfl rfl ?_
  refine us rfl rfl rfl ?_
  refine us rfl rfl rfl ?_
  refine us rfl rfl rfl ?_
  show zU X 230 5 [(0, .ref 11), (1, .int 100), (2, .int 0), (3, .int 6)] [] [c0, c1, c2, c3, c4, c5, c6, c7, c8, c9, c10, .inl (6, .inl (z_fu 0 100)), c12, c13, c14, c15, c16, c17, c18] (none, [c0, c1, c2, c3, c4, c5, c6, c7, c8, c9, c10, .inl (6, .inl (z_fu 6 100)), c12, c13, c14, c15, c16, c17, c18])
  refine us rfl rfl rfl ?_
  refine us rfl rfl rfl ?_
  refine us rfl rfl rfl ?_
  refine us rfl rfl rfl ?_
  refine us rfl rfl rfl ?_
  refine us rfl rfl rfl ?_
  refine us rfl rfl rfl ?_
  refine us rfl rfl rfl ?_
  refine us rfl rfl rfl ?_
  show zU X 230 5 [(0, .ref 11), (1, .int 100), (2, .int 1), (3, .int 6)] [] [c0, c1, c2, c3, c4, c5, c6, c7, c8, c9, c10, .inl (6, .inl (z_fu 1 100)), c12, c13, c14, c15, c16, c17, c18] (none, [c0, c1, c2, c3, c4, c5, c6, c7, c8, c9, c10, .inl (6, .inl (z_fu 6 100)), c12, c13, c14, c15, c16, c17, c18])
  refine us rfl rfl rfl ?_
  refine us rfl rfl rfl ?_
  refine us rfl rfl rfl ?_
  refine us rfl rfl rfl ?_
  refine us rfl rfl rfl ?_
  refine us rfl rfl rfl ?_
  refine us rfl rfl rfl ?_
  refine us rfl rfl rfl ?_
  refine us rfl rfl rfl ?_
  show zU X 230 5 [(0, .ref 11), (1, .int 100), (2, .int 2), (3, .int 6)] [] [c0, c1, c2, c3, c4, c5, c6, c7, c8, c9, c10, .inl (6, .inl (z_fu 2 100)), c12, c13, c14, c15, c16, c17, c18] (none, [c0, c1, c2, c3, c4, c5, c6, c7, c8, c9, c10, .inl (6, .inl (z_fu 6 100)), c12, c13, c14, c15, c16, c17, c18])
  refine us rfl rfl rfl ?_
  refine us rfl rfl rfl ?_
  refine us rfl rfl rfl ?_
  refine us rfl rfl rfl ?_
  refine us rfl rfl rfl ?_
  refine us rfl rfl rfl ?_
  refine us rfl rfl rfl ?_
  refine us rfl rfl rfl ?_
  refine us rfl rfl rfl ?_
  show zU X 230 5 [(0, .ref 11), (1, .int 100), (2, .int 3), (3, .int 6)] [] [c0, c1, c2, c3, c4, c5, c6, c7, c8, c9, c10, .inl (6, .inl (z_fu 3 100)), c12, c13, c14, c15, c16, c17, c18] (none, [c0, c1, c2, c3, c4, c5, c6, c7, c8, c9, c10, .inl (6, .inl (z_fu 6 100)), c12, c13, c14, c15, c16, c17, c18])
  refine us rfl rfl rfl ?_
  refine us rfl rfl rfl ?_
  refine us rfl rfl rfl ?_
  refine us rfl rfl rfl ?_
  refine us rfl rfl rfl ?_
  refine us rfl rfl rfl ?_
  refine us rfl rfl rfl ?_
  refine us rfl rfl rfl ?_
  refine us rfl rfl rfl ?_
  show zU X 230 5 [(0, .ref 11), (1, .int 100), (2, .int 4), (3, .int 6)] [] [c0, c1, c2, c3, c4, c5, c6, c7, c8, c9, c10, .inl (6, .inl (z_fu 4 100)), c12, c13, c14, c15, c16, c17, c18] (none, [c0, c1, c2, c3, c4, c5, c6, c7, c8, c9, c10, .inl (6, .inl (z_fu 6 100)), c12, c13, c14, c15, c16, c17, c18])
  refine us rfl rfl rfl ?_
  refine us rfl rfl rfl ?_
  refine us rfl rfl rfl ?_
  refine us rfl rfl rfl ?_
  refine us rfl rfl rfl ?_
  refine us rfl rfl rfl ?_
  refine us rfl rfl rfl ?_
  refine us rfl rfl rfl ?_
  refine us rfl rfl rfl ?_
  show zU X 230 5 [(0, .ref 11), (1, .int 100), (2, .int 5), (3, .int 6)] [] [c0, c1, c2, c3, c4, c5, c6, c7, c8, c9, c10, .inl (6, .inl (z_fu 5 100)), c12, c13, c14, c15, c16, c17, c18] (none, [c0, c1, c2, c3, c4, c5, c6, c7, c8, c9, c10, .inl (6, .inl (z_fu 6 100)), c12, c13, c14, c15, c16, c17, c18])
  refine us rfl rfl rfl ?_
  refine us rfl rfl rfl ?_
  refine us rfl rfl rfl ?_
  refine us rfl rfl rfl ?_
  refine us rfl rfl rfl ?_
  refine us rfl rfl rfl ?_
  refine us rfl rfl rfl ?_
  refine us rfl rfl rfl ?_
  refine us rfl rfl rfl ?_
  show zU X 230 5 [(0, .ref 11), (1, .int 100), (2, .int 6), (3, .int 6)] [] [c0, c1, c2, c3, c4, c5, c6, c7, c8, c9, c10, .inl (6, .inl (z_fu 6 100)), c12, c13, c14, c15, c16, c17, c18] (none, [c0, c1, c2, c3, c4, c5, c6, c7, c8, c9, c10, .inl (6, .inl (z_fu 6 100)), c12, c13, c14, c15, c16, c17, c18])
  refine us rfl rfl rfl ?_
  refine us rfl rfl rfl ?_
  refine us rfl rfl rfl ?_
  exact ur rfl rfl
theorem st_fill_12 {c0 c1 c2 c3 c4 c5 c6 c7 c8 c9 c10 c11 c13 c14 c15 c16 c17 c18 : zC} : zU X 230 0 [(0, .ref 12), (1, .int 1)] [] [c0, c1, c2, c3, c4, c5, c6, c7, c8, c9, c10, c11, z_zi 13, c13, c14, c15, c16, c17, c18] (none, [c0, c1, c2, c3, c4, c5, c6, c7, c8, c9, c10, c11, .inl (13, .inl (z_fu 13 1)), c13, c14, c15, c16, c17, c18]) := by
  refine us rfl rfl rfl ?_
  refine us rfl rfl rfl ?_
  refine us rfl rfl rfl ?_
  refine us rfl rfl rfl ?_
  refine us rfl rfl rfl ?_
  show zU X 230 5 [(0, .ref 12), (1, .int 1), (2, .int 0), (3, .int 13)] [] [c0, c1, c2, c3, c4, c5, c6, c7, c8, c9, c10, c11, .inl (13, .inl (z_fu 0 1)), c13, c14, c15, c16, c17, c18] (none, [c0, c1, c2, c3, c4, c5, c6, c7, c8, c9, c10, c11, .inl (13, .inl (z_fu 13 1)), c13, c14, c15, c16, c17, c18])
  refine us rfl rfl rfl ?_
  refine us rfl rfl rfl ?_
  refine us rfl rfl rfl ?_
  refine us rfl rfl rfl ?_
  refine us rfl rfl rfl ?_
  refine us rfl rfl rfl ?_
  refine us rfl rfl rfl ?_
  refine us rfl rfl rfl ?_
  refine us rfl rfl rfl ?_
  show zU X 230 5 [(0, .ref 12), (1, .int 1), (2, .int 1), (3, .int 13)] [] [c0, c1, c2, c3, c4, c5, c6, c7, c8, c9, c10, c11, .inl (13, .inl (z_fu 1 1)), c13, c14, c15, c16, c17, c18] (none, [c0, c1, c2, c3, c4, c5, c6, c7, c8, c9, c10, c11, .inl (13, .inl (z_fu 13 1)), c13, c14, c15, c16, c17, c18])
  refine us rfl rfl rfl ?_
  refine us rfl rfl rfl ?_
  refine us rfl rfl rfl ?_
  refine us rfl rfl rfl ?_
  refine us rfl rfl rfl ?_
  refine us rfl rfl rfl ?_
  refine us rfl rfl rfl ?_
  refine us rfl rfl rfl ?_
  refine us rfl rfl rfl ?_
  show zU X 230 5 [(0, .ref 12), (1, .int 1), (2, .int 2), (3, .int 13)] [] [c0, c1, c2, c3, c4, c5, c6, c7, c8, c9, c10, c11, .inl (13, .inl (z_fu 2 1)), c13, c14, c15, c16, c17, c18] (none, [c0, c1, c2, c3, c4, c5, c6, c7, c8, c9, c10, c11, .inl (13, .inl (z_fu 13 1)), c13, c14, c15, c16, c17, c18])
  refine us rfl rfl rfl ?_
  refine us rfl rfl rfl ?_
  refine us rfl rfl rfl ?_
  refine us rfl rfl rfl ?_
  refine us rfl rfl rfl ?_
  refine us rfl rfl rfl ?_
  refine us rfl rfl rfl ?_
  refine us rfl rfl rfl ?_
  refine us rfl rfl rfl ?_
  show zU X 230 5 [(0, .ref 12), (1, .int 1), (2, .int 3), (3, .int 13)] [] [c0, c1, c2, c3, c4, c5, c6, c7, c8, c9, c10, c11, .inl (13, .inl (z_fu 3 1)), c13, c14, c15, c16, c17, c18] (none, [c0, c1, c2, c3, c4, c5, c6, c7, c8, c9, c10, c11, .inl (13, .inl (z_fu 13 1)), c13, c14, c15, c16, c17, c18])
  refine us rfl rfl rfl ?_
  refine us rfl rfl rfl ?_
  refine us rfl rfl rfl ?_
  refine us rfl rfl rfl ?_
  refine us rfl rfl rfl ?_
  refine us rfl rfl rfl ?_
  refine us rfl rfl rfl ?_
  refine us rfl rfl rfl ?_
  refine us rfl rfl rfl ?_
  show zU X 230 5 [(0, .ref 12), (1, .int 1), (2, .int 4), (3, .int 13)] [] [c0, c1, c2, c3, c4, c5, c6, c7, c8, c9, c10, c11, .inl (13, .inl (z_fu 4 1)), c13, c14, c15, c16, c17, c18] (none, [c0, c1, c2, c3, c4, c5, c6, c7, c8, c9, c10, c11, .inl (13, .inl (z_fu 13 1)), c13, c14, c15, c16, c17, c18])
  refine us rfl rfl rfl ?_
  refine us rfl rfl rfl ?_
  refine us rfl rfl rfl ?_
  refine us rfl rfl rfl ?_
  refine us rfl rfl rfl ?_
  refine us rfl rfl rfl ?_
  refine us rfl rfl rfl ?_
  refine us rfl rfl rfl ?_
  refine us rfl rfl rfl ?_
  show zU X 230 5 [(0, .ref 12), (1, .int 1), (2, .int 5), (3, .int 13)] [] [c0, c1, c2, c3, c4, c5, c6, c7, c8, c9, c10, c11, .inl (13, .inl (z_fu 5 1)), c13, c14, c15, c16, c17, c18] (none, [c0, c1, c2, c3, c4, c5, c6, c7, c8, c9, c10, c11, .inl (13, .inl (z_fu 13 1)), c13, c14, c15, c16, c17, c18])
  refine us rfl rfl rfl ?_
  refine us rfl rfl rfl ?_
  refine us rfl rfl rfl ?_
  refine us rfl rfl rfl ?_
  refine us rfl rfl rfl ?_
  refine us rfl rfl rfl ?_
  refine us rfl rfl rfl ?_
  refine us rfl rfl rfl ?_
  refine us rfl rfl rfl ?_
  show zU X 230 5 [(0, .ref 12), (1, .int 1), (2, .int 6), (3, .int 13)] [] [c0, c1, c2, c3, c4, c5, c6, c7, c8, c9, c10, c11, .inl (13, .inl (z_fu 6 1)), c13, c14, c15, c16, c17, c18] (none, [c0, c1, c2, c3, c4, c5, c6, c7, c8, c9, c10, c11, .inl (13, .inl (z_fu 13 1)), c13, c14, c15, c16, c17, c18])
  refine us rfl rfl rfl ?_
  refine us rfl rfl rfl ?_
  refine us rfl rfl rfl ?_
  refine us rfl rfl rfl ?_
  refine us rfl rfl rfl ?_
  refine us rfl rfl rfl ?_
  refine us rfl rfl rfl ?_
  refine us rfl rfl rfl ?_
  refine us rfl rfl rfl ?_
  show zU X 230 5 [(0, .ref 12), (1, .int 1), (2, .int 7), (3, .int 13)] [] [c0, c1, c2, c3, c4, c5, c6, c7, c8, c9, c10, c11, .inl (13, .inl (z_fu 7 1)), c13, c14, c15, c16, c17, c18] (none, [c0, c1, c2, c3, c4, c5, c6, c7, c8, c9, c10, c11, .inl (13, .inl (z_fu 13 1)), c13, c14, c15, c16, c17, c18])
  refine us rfl rfl rfl ?_
  refine us rfl rfl rfl ?_
  refine us rfl rfl rfl ?_
  refine us rfl rfl rfl ?_
  refine us rfl rfl rfl ?_
  refine us rfl rfl rfl ?_
  refine us rfl rfl rfl ?_
  refine us rfl rfl rfl ?_
  refine us rfl rfl rfl ?_
  show zU X 230 5 [(0, .ref 12), (1, .int 1), (2, .int 8), (3, .int 13)] [] [c0, c1, c2, c3, c4, c5, c6, c7, c8, c9, c10, c11, .inl (13, .inl (z_fu 8 1)), c13, c14, c15, c16, c17, c18] (none, [c0, c1, c2, c3, c4, c5, c6, c7, c8, c9, c10, c11, .inl (13, .inl (z_fu 13 1)), c13, c14, c15, c16, c17, c18])
  refine us rfl rfl rfl ?_
  refine us rfl rfl rfl ?_
  refine us rfl rfl rfl ?_
  refine us rfl rfl rfl ?_
  refine us rfl rfl rfl ?_
  refine us rfl rfl rfl ?_
  refine us rfl rfl rfl ?_
  refine us rfl rfl rfl ?_
  refine us rfl rfl rfl ?_
  show zU X 230 5 [(0, .ref 12), (1, .int 1), (2, .int 9), (3, .int 13)] [] [c0, c1, c2, c3, c4, c5, c6, c7, c8, c9, c10, c11, .inl (13, .inl (z_fu 9 1)), c13, c14, c15, c16, c17, c18] (none, [c0, c1, c2, c3, c4, c5, c6, c7, c8, c9, c10, c11, .inl (13, .inl (z_fu 13 1)), c13, c14, c15, c16, c17, c18])
  refine us rfl rfl rfl ?_
  refine us rfl rfl rfl ?_
  refine us rfl rfl rfl ?_
  refine us rfl rfl rfl ?_
  refine us rfl rfl rfl ?_
  refine us rfl rfl rfl ?_
  refine us rfl rfl rfl ?_
  refine us rfl rfl rfl ?_
  refine us rfl rfl rfl ?_
  show zU X 230 5 [(0, .ref 12), (1, .int 1), (2, .int 10), (3, .int 13)] [] [c0, c1, c2, c3, c4, c5, c6, c7, c8, c9, c10, c11, .inl (13, .inl (z_fu 10 1)), c13, c14, c15, c16, c17, c18] (none, [c0, c1, c2, c3, c4, c5, c6, c7, c8, c9, c10, c11, .inl (13, .inl (z_fu 13 1)), c13, c14, c15, c16, c17, c18])
  refine us rfl rfl rfl ?_
  refine us rfl rfl rfl ?_
  refine us rfl rfl rfl ?_
  refine us rfl rfl rfl ?_
  refine us rfl rfl rfl ?_
  refine us rfl rfl rfl ?_
  refine us rfl rfl rfl ?_
  refine us rfl rfl rfl ?_
  refine us rfl rfl rfl ?_
  show zU X 230 5 [(0, .ref 12), (1, .int 1), (2, .int 11), (3, .int 13)] [] [c0, c1, c2, c3, c4, c5, c6, c7, c8, c9, c10, c11, .inl (13, .inl (z_fu 11 1)), c13, c14, c15, c16, c17, c18] (none, [c0, c1, c2, c3, c4, c5, c6, c7, c8, c9, c10, c11, .inl (13, .inl (z_fu 13 1)), c13, c14, c15, c16, c17, c18])
  refine us rfl rfl rfl ?_
  refine us rfl rfl rfl ?_
  refine us rfl rfl rfl ?_
  refine us rfl rfl rfl ?_
  refine us rfl rfl rfl ?_
  refine us rfl rfl rfl ?_
  refine us rfl rfl rfl ?_
  refine us rfl rfl rfl ?_
  refine us rfl rfl rfl ?_
  show zU X 230 5 [(0, .ref 12), (1, .int 1), (2, .int 12), (3, .int 13)] [] [c0, c1, c2, c3, c4, c5, c6, c7, c8, c9, c10, c11, .inl (13, .inl (z_fu 12 1)), c13, c14, c15, c16, c17, c18] (none, [c0, c1, c2, c3, c4, c5, c6, c7, c8, c9, c10, c11, .inl (13, .inl (z_fu 13 1)), c13, c14, c15, c16, c17, c18])
  refine us rfl rfl rfl ?_
  refine us rfl rfl rfl ?_
  refine us rfl rfl rfl ?_
  refine us rfl rfl rfl ?_
  refine us rfl rfl rfl ?_
  refine us rfl rfl rfl ?_
  refine us rfl rfl rfl ?_
  refine us rfl rfl rfl ?_
  refine us rfl rfl rfl ?_
  show zU X 230 5 [(0, .ref 12), (1, .int 1), (2, .int 13), (3, .int 13)] [] [c0, c1, c2, c3, c4, c5, c6, c7, c8, c9, c10, c11, .inl (13, .inl (z_fu 13 1)), c13, c14, c15, c16, c17, c18] (none, [c0, c1, c2, c3, c4, c5, c6, c7, c8, c9, c10, c11, .inl (13, .inl (z_fu 13 1)), c13, c14, c15, c16, c17, c18])
  refine us rfl rfl rfl ?_
  refine us rfl rfl rfl ?_
  refine us rfl rfl rfl ?_
  exact ur rfl rfl
theorem st_road_10 {c0 c1 c2 c3 c4 c5 c6 c7 c8 c9 : zC} : zU X 0 0 [(0, .ref 10)] [] [c0, c1, c2, c3, c4, c5, c6, c7, c8, c9, .inr (0, [.null, .null, .null, .null, .null, .null, .null, .null, .int 0, .int 0, .int 0])] (none, [c0, c1, c2, c3, c4, c5, c6, c7, c8, c9, .inr (0, [.ref 11, .ref 12, .ref 13, .ref 14, .ref 15, .ref 16, .ref 17, .ref 18, .int 0, .int 0, .int 0]), .inl (6, .inl (z_fu 6 100)), .inl (13, .inl (z_fu 13 1)), z_zi 12, z_zi 12, z_zi 12, z_zi 12, z_zi 12, z_zi 12]) := by
  refine us rfl rfl rfl ?_
  refine us rfl rfl rfl ?_
  refine us rfl rfl rfl ?_
  refine us rfl rfl rfl ?_
  refine us rfl rfl rfl ?_
  refine us rfl rfl rfl ?_
  show zU X 0 12 [(0, .ref 10)] [] [c0, c1, c2, c3, c4, c5, c6, c7, c8, c9, .inr (0, [.ref 11, .null, .null, .null, .null, .null, .null, .null, .int 0, .int 0, .int 0]), z_zi 6] (none, [c0, c1, c2, c3, c4, c5, c6, c7, c8, c9, .inr (0, [.ref 11, .ref 12, .ref 13, .ref 14, .ref 15, .ref 16, .ref 17, .ref 18, .int 0, .int 0, .int 0]), .inl (6, .inl (z_fu 6 100)), .inl (13, .inl (z_fu 13 1)), z_zi 12, z_zi 12, z_zi 12, z_zi 12, z_zi 12, z_zi 12])
  refine us rfl rfl rfl ?_
  refine us rfl rfl rfl ?_
  refine us rfl rfl rfl ?_
  refine us rfl rfl rfl ?_
  show zU X 0 20 [(0, .ref 10)] [] [c0, c1, c2, c3, c4, c5, c6, c7, c8, c9, .inr (0, [.ref 11, .ref 12, .null, .null, .null, .null, .null, .null, .int 0, .int 0, .int 0]), z_zi 6, z_zi 13] (none, [c0, c1, c2, c3, c4, c5, c6, c7, c8, c9, .inr (0, [.ref 11, .ref 12, .ref 13, .ref 14, .ref 15, .ref 16, .ref 17, .ref 18, .int 0, .int 0, .int 0]), .inl (6, .inl (z_fu 6 100)), .inl (13, .inl (z_fu 13 1)), z_zi 12, z_zi 12, z_zi 12, z_zi 12, z_zi 12, z_zi 12])
  refine us rfl rfl rfl ?_
  refine us rfl rfl rfl ?_
  refine us rfl rfl rfl ?_
  refine us rfl rfl rfl ?_
  show zU X 0 28 [(0, .ref 10)] [] [c0, c1, c2, c3, c4, c5, c6, c7, c8, c9, .inr (0, [.ref 11, .ref 12, .ref 13, .null, .null, .null, .null, .null, .int 0, .int 0, .int 0]), z_zi 6, z_zi 13, z_zi 12] (none, [c0, c1, c2, c3, c4, c5, c6, c7, c8, c9, .inr (0, [.ref 11, .ref 12, .ref 13, .ref 14, .ref 15, .ref 16, .ref 17, .ref 18, .int 0, .int 0, .int 0]), .inl (6, .inl (z_fu 6 100)), .inl (13, .inl (z_fu 13 1)), z_zi 12, z_zi 12, z_zi 12, z_zi 12, z_zi 12, z_zi 12])
  refine us rfl rfl rfl ?_
  refine us rfl rfl rfl ?_
  refine us rfl rfl rfl ?_
  refine us rfl rfl rfl ?_
  show zU X 0 36 [(0, .ref 10)] [] [c0, c1, c2, c3, c4, c5, c6, c7, c8, c9, .inr (0, [.ref 11, .ref 12, .ref 13, .ref 14, .null, .null, .null, .null, .int 0, .int 0, .int 0]), z_zi 6, z_zi 13, z_zi 12, z_zi 12] (none, [c0, c1, c2, c3, c4, c5, c6, c7, c8, c9, .inr (0, [.ref 11, .ref 12, .ref 13, .ref 14, .ref 15, .ref 16, .ref 17, .ref 18, .int 0, .int 0, .int 0]), .inl (6, .inl (z_fu 6 100)), .inl (13, .inl (z_fu 13 1)), z_zi 12, z_zi 12, z_zi 12, z_zi 12, z_zi 12, z_zi 12])
  refine us rfl rfl rfl ?_
  refine us rfl rfl rfl ?_
  refine us rfl rfl rfl ?_
  refine us rfl rfl rfl ?_
  show zU X 0 44 [(0, .ref 10)] [] [c0, c1, c2, c3, c4, c5, c6, c7, c8, c9, .inr (0, [.ref 11, .ref 12, .ref 13, .ref 14, .ref 15, .null, .null, .null, .int 0, .int 0, .int 0]), z_zi 6, z_zi 13, z_zi 12, z_zi 12, z_zi 12] (none, [c0, c1, c2, c3, c4, c5, c6, c7, c8, c9, .inr (0, [.ref 11, .ref 12, .ref 13, .ref 14, .ref 15, .ref 16, .ref 17, .ref 18, .int 0, .int 0, .int 0]), .inl (6, .inl (z_fu 6 100)), .inl (13, .inl (z_fu 13 1)), z_zi 12, z_zi 12, z_zi 12, z_zi 12, z_zi 12, z_zi 12])
  refine us rfl rfl rfl ?_
  refine us rfl rfl rfl ?_
  refine us rfl rfl rfl ?_
  refine us rfl rfl rfl ?_
  show zU X 0 52 [(0, .ref 10)] [] [c0, c1, c2, c3, c4, c5, c6, c7, c8, c9, .inr (0, [.ref 11, .ref 12, .ref 13, .ref 14, .ref 15, .ref 16, .null, .null, .int 0, .int 0, .int 0]), z_zi 6, z_zi 13, z_zi 12, z_zi 12, z_zi 12, z_zi 12] (none, [c0, c1, c2, c3, c4, c5, c6, c7, c8, c9, .inr (0, [.ref 11, .ref 12, .ref 13, .ref 14, .ref 15, .ref 16, .ref 17, .ref 18, .int 0, .int 0, .int 0]), .inl (6, .inl (z_fu 6 100)), .inl (13, .inl (z_fu 13 1)), z_zi 12, z_zi 12, z_zi 12, z_zi 12, z_zi 12, z_zi 12])
  refine us rfl rfl rfl ?_
  refine us rfl rfl rfl ?_
  refine us rfl rfl rfl ?_
  refine us rfl rfl rfl ?_
  show zU X 0 60 [(0, .ref 10)] [] [c0, c1, c2, c3, c4, c5, c6, c7, c8, c9, .inr (0, [.ref 11, .ref 12, .ref 13, .ref 14, .ref 15, .ref 16, .ref 17, .null, .int 0, .int 0, .int 0]), z_zi 6, z_zi 13, z_zi 12, z_zi 12, z_zi 12, z_zi 12, z_zi 12] (none, [c0, c1, c2, c3, c4, c5, c6, c7, c8, c9, .inr (0, [.ref 11, .ref 12, .ref 13, .ref 14, .ref 15, .ref 16, .ref 17, .ref 18, .int 0, .int 0, .int 0]), .inl (6, .inl (z_fu 6 100)), .inl (13, .inl (z_fu 13 1)), z_zi 12, z_zi 12, z_zi 12, z_zi 12, z_zi 12, z_zi 12])
  refine us rfl rfl rfl ?_
  refine us rfl rfl rfl ?_
  refine us rfl rfl rfl ?_
  refine us rfl rfl rfl ?_
  show zU X 0 68 [(0, .ref 10)] [] [c0, c1, c2, c3, c4, c5, c6, c7, c8, c9, .inr (0, [.ref 11, .ref 12, .ref 13, .ref 14, .ref 15, .ref 16, .ref 17, .ref 18, .int 0, .int 0, .int 0]), z_zi 6, z_zi 13, z_zi 12, z_zi 12, z_zi 12, z_zi 12, z_zi 12, z_zi 12] (none, [c0, c1, c2, c3, c4, c5, c6, c7, c8, c9, .inr (0, [.ref 11, .ref 12, .ref 13, .ref 14, .ref 15, .ref 16, .ref 17, .ref 18, .int 0, .int 0, .int 0]), .inl (6, .inl (z_fu 6 100)), .inl (13, .inl (z_fu 13 1)), z_zi 12, z_zi 12, z_zi 12, z_zi 12, z_zi 12, z_zi 12])
  refine us rfl rfl rfl ?_
  refine us rfl rfl rfl ?_
  refine us rfl rfl rfl ?_
  refine us rfl rfl rfl ?_
  refine us rfl rfl rfl ?_
  refine us rfl rfl rfl ?_
  refine us rfl rfl rfl ?_
  refine us rfl rfl rfl ?_
  refine us rfl rfl rfl ?_
  show zU X 0 83 [(0, .ref 10)] [] [c0, c1, c2, c3, c4, c5, c6, c7, c8, c9, .inr (0, [.ref 11, .ref 12, .ref 13, .ref 14, .ref 15, .ref 16, .ref 17, .ref 18, .int 0, .int 0, .int 0]), z_zi 6, z_zi 13, z_zi 12, z_zi 12, z_zi 12, z_zi 12, z_zi 12, z_zi 12] (none, [c0, c1, c2, c3, c4, c5, c6, c7, c8, c9, .inr (0, [.ref 11, .ref 12, .ref 13, .ref 14, .ref 15, .ref 16, .ref 17, .ref 18, .int 0, .int 0, .int 0]), .inl (6, .inl (z_fu 6 100)), .inl (13, .inl (z_fu 13 1)), z_zi 12, z_zi 12, z_zi 12, z_zi 12, z_zi 12, z_zi 12])
  refine us rfl rfl rfl ?_
  refine us rfl rfl rfl ?_
  refine us rfl rfl rfl ?_
  refine uc rfl rfl st_fill_11 ?_
  show zU X 0 92 [(0, .ref 10)] [] [c0, c1, c2, c3, c4, c5, c6, c7, c8, c9, .inr (0, [.ref 11, .ref 12, .ref 13, .ref 14, .ref 15, .ref 16, .ref 17, .ref 18, .int 0, .int 0, .int 0]), .inl (6, .inl (z_fu 6 100)), z_zi 13, z_zi 12, z_zi 12, z_zi 12, z_zi 12, z_zi 12, z_zi 12] (none, [c0, c1, c2, c3, c4, c5, c6, c7, c8, c9, .inr (0, [.ref 11, .ref 12, .ref 13, .ref 14, .ref 15, .ref 16, .ref 17, .ref 18, .int 0, .int 0, .int 0]), .inl (6, .inl (z_fu 6 100)), .inl (13, .inl (z_fu 13 1)), z_zi 12, z_zi 12, z_zi 12, z_zi 12, z_zi 12, z_zi 12])
  refine us rfl rfl rfl ?_
  refine us rfl rfl rfl ?_
  refine us rfl rfl rfl ?_
  refine uc rfl rfl st_fill_12 ?_
  show zU X 0 100 [(0, .ref 10)] [] [c0, c1, c2, c3, c4, c5, c6, c7, c8, c9, .inr (0, [.ref 11, .ref 12, .ref 13, .ref 14, .ref 15, .ref 16, .ref 17, .ref 18, .int 0, .int 0, .int 0]), .inl (6, .inl (z_fu 6 100)), .inl (13, .inl (z_fu 13 1)), z_zi 12, z_zi 12, z_zi 12, z_zi 12, z_zi 12, z_zi 12] (none, [c0, c1, c2, c3, c4, c5, c6, c7, c8, c9, .inr (0, [.ref 11, .ref 12, .ref 13, .ref 14, .ref 15, .ref 16, .ref 17, .ref 18, .int 0, .int 0, .int 0]), .inl (6, .inl (z_fu 6 100)), .inl (13, .inl (z_fu 13 1)), z_zi 12, z_zi 12, z_zi 12, z_zi 12, z_zi 12, z_zi 12])
  exact ur rfl rfl
theorem st_fill_20 {c0 c1 c2 c3 c4 c5 c6 c7 c8 c9 c10 c11 c12 c13 c14 c15 c16 c17 c18 c19 c21 c22 c23 c24 c25 c26 c27 : zC} : zU X 230 0 [(0, .ref 20), (1, .int 100)] [] [c0, c1, c2, c3, c4, c5, c6, c7, c8, c9, c10, c11, c12, c13, c14, c15, c16, c17, c18, c19, z_zi 6, c21, c22, c23, c24, c25, c26, c27] (none, [c0, c1, c2, c3, c4, c5, c6, c7, c8, c9, c10, c11, c12, c13, c14, c15, c16, c17, c18, c19, .inl (6, .inl (z_fu 6 100)), c21, c22, c23, c24, c25, c26, c27]) := by
  refine us rfl rfl rfl ?_
  refine us rfl rfl rfl ?_
  refine us rfl rfl rfl ?_
  refine us rfl rfl rfl ?_
  refine us rfl rfl rfl ?_
  show zU X 230 5 [(0, .ref 20), (1, .int 100), (2, .int 0), (3, .int 6)] [] [c0, c1, c2, c3, c4, c5, c6, c7, c8, c9, c10, c11, c12, c13, c14, c15, c16, c17, c18, c19, .inl (6, .inl (z_fu 0 100)), c21, c22, c23, c24, c25, c26, c27] (none, [c0, c1, c2, c3, c4, c5, c6, c7, c8, c9, c10, c11, c12, c13, c14, c15, c16, c17, c18, c19, .inl (6, .inl (z_fu 6 100)), c21, c22, c23, c24, c25, c26, c27])
  refine us rfl rfl rfl ?_
  refine us rfl rfl rfl ?_
  refine us rfl rfl rfl ?_
  refine us rfl rfl rfl ?_
  refine us rfl rfl rfl ?_
  refine us rfl rfl rfl ?_
  refine us rfl rfl rfl ?_
  refine us rfl rfl rfl ?_
  refine us rfl rfl rfl ?_
  show zU X 230 5 [(0, .ref 20), (1, .int 100), (2, .int 1), (3, .int 6)] [] [c0, c1, c2, c3, c4, c5, c6, c7, c8, c9, c10, c11, c12, c13, c14, c15, c16, c17, c18, c19, .inl (6, .inl (z_fu 1 100)), c21, c22, c23, c24, c25, c26, c27] (none, [c0, c1, c2, c3, c4, c5, c6, c7, c8, c9, c10, c11, c12, c13, c14, c15, c16, c17, c18, c19, .inl (6, .inl (z_fu 6 100)), c21, c22, c23, c24, c25, c26, c27])
  refine us rfl rfl rfl ?_
  refine us rfl rfl rfl ?_
  refine us rfl rfl rfl ?_
  refine us rfl rfl rfl ?_
  refine us rfl rfl rfl ?_
  refine us rfl rfl rfl ?_
  refine us rfl rfl rfl ?_
  refine us rfl rfl rfl ?_
  refine us rfl rfl rfl ?_
  show zU X 230 5 [(0, .ref 20), (1, .int 100), (2, .int 2), (3, .int 6)] [] [c0, c1, c2, c3, c4, c5, c6, c7, c8, c9, c10, c11, c12, c13, c14, c15, c16, c17, c18, c19, .inl (6, .inl (z_fu 2 100)), c21, c22, c23, c24, c25, c26, c27] (none, [c0, c1, c2, c3, c4, c5, c6, c7, c8, c9, c10, c11, c12, c13, c14, c15, c16, c17, c18, c19, .inl (6, .inl (z_fu 6 100)), c21, c22, c23, c24, c25, c26, c27])
  refine us rfl rfl rfl ?_
  refine us rfl rfl rfl ?_
  refine us rfl rfl rfl ?_
  refine us rfl rfl rfl ?_
  refine us rfl rfl rfl ?_
  refine us rfl rfl rfl ?_
  refine us rfl rfl rfl ?_
  refine us rfl rfl rfl ?_
  refine us rfl rfl rfl ?_
  show zU X 230 5 [(0, .ref 20), (1, .int 100), (2, .int 3), (3, .int 6)] [] [c0, c1, c2, c3, c4, c5, c6, c7, c8, c9, c10, c11, c12, c13, c14, c15, c16, c17, c18, c19, .inl (6, .inl (z_fu 3 100)), c21, c22, c23, c24, c25, c26, c27] (none, [c0, c1, c2, c3, c4, c5, c6, c7, c8, c9, c10, c11, c12, c13, c14, c15, c16, c17, c18, c19, .inl (6, .inl (z_fu 6 100)), c21, c22, c23, c24, c25, c26, c27])
  refine us rfl rfl rfl ?_
  refine us rfl rfl rfl ?_
  refine us rfl rfl rfl ?_
  refine us rfl rfl rfl ?_
  refine us rfl rfl rfl ?_
  refine us rfl rfl rfl ?_
  refine us rfl rfl rfl ?_
  refine us rfl rfl rfl ?_
  refine us rfl rfl rfl ?_
  show zU X 230 5 [(0, .ref 20), (1, .int 100), (2, .int 4), (3, .int 6)] [] [c0, c1, c2, c3, c4, c5, c6, c7, c8, c9, c10, c11, c12, c13, c14, c15, c16, c17, c18, c19, .inl (6, .inl (z_fu 4 100)), c21, c22, c23, c24, c25, c26, c27] (none, [c0, c1, c2, c3, c4, c5, c6, c7, c8, c9, c10, c11, c12, c13, c14, c15, c16, c17, c18, c19, .inl (6, .inl (z_fu 6 100)), c21, c22, c23, c24, c25, c26, c27])
  refine us rfl rfl rfl ?_
  refine us rfl rfl rfl ?_
  refine us rfl rfl rfl ?_
  refine us rfl rfl rfl ?_
  refine us rfl rfl rfl ?_
  refine us rfl rfl rfl ?_
  refine us rfl rfl rfl ?_
  refine us rfl rfl rfl ?_
  refine us rfl rfl rfl ?_
  show zU X 230 5 [(0, .ref 20), (1, .int 100), (2, .int 5), (3, .int 6)] [] [c0, c1, c2, c3, c4, c5, c6, c7, c8, c9, c10, c11, c12, c13, c14, c15, c16, c17, c18, c19, .inl (6, .inl (z_fu 5 100)), c21, c22, c23, c24, c25, c26, c27] (none, [c0, c1, c2, c3, c4, c5, c6, c7, c8, c9, c10, c11, c12, c13, c14, c15, c16, c17, c18, c19, .inl (6, .inl (z_fu 6 100)), c21, c22, c23, c24, c25, c26, c27])
  refine us rfl rfl rfl ?_
  refine us rfl rfl rfl ?_
  refine us rfl rfl rfl ?_
  refine us rfl rfl rfl ?_
  refine us rfl rfl rfl ?_
  refine us rfl rfl rfl ?_
  refine us rfl rfl rfl ?_
  refine us rfl rfl rfl ?_
  refine us rfl rfl rfl ?_
  show zU X 230 5 [(0, .ref 20), (1, .int 100), (2, .int 6), (3, .int 6)] [] [c0, c1, c2, c3, c4, c5, c6, c7, c8, c9, c10, c11, c12, c13, c14, c15, c16, c17, c18, c19, .inl (6, .inl (z_fu 6 100)), c21, c22, c23, c24, c25, c26, c27] (none, [c0, c1, c2, c3, c4, c5, c6, c7, c8, c9, c10, c11, c12, c13, c14, c15, c16, c17, c18, c19, .inl (6, .inl (z_fu 6 100)), c21, c22, c23, c24, c25, c26, c27])
  refine us rfl rfl rfl ?_
  refine us rfl rfl rfl ?_
  refine us rfl rfl rfl ?_
  exact ur rfl rfl
theorem st_fill_21 {c0 c1 c2 c3 c4 c5 c6 c7 c8 c9 c10 c11 c12 c13 c14 c15 c16 c17 c18 c19 c20 c22 c23 c24 c25 c26 c27 : zC} : zU X 230 0 [(0, .ref 21), (1, .int 1)] [] [c0, c1, c2, c3, c4, c5, c6, c7, c8, c9, c10, c11, c12, c13, c14, c15, c16, c17, c18, c19, c20, z_zi 13, c22, c23, c24, c25, c26, c27] (none, [c0, c1, c2, c3, c4, c5, c6, c7, c8, c9, c10, c11, c12, c13, c14, c15, c16, c17, c18, c19, c20, .inl (13, .inl (z_fu 13 1)), c22, c23, c24, c25, c26, c27]) := by
  refine us rfl rfl rfl ?_
  refine us rfl rfl rfl ?_
  refine us rfl rfl rfl ?_
  refine us rfl rfl rfl ?_
  refine us rfl rfl rfl ?_
  show zU X 230 5 [(0, .ref 21), (1, .int 1), (2, .int 0), (3, .int 13)] [] [c0, c1, c2, c3, c4, c5, c6, c7, c8, c9, c10, c11, c12, c13, c14, c15, c16, c17, c18, c19, c20, .inl (13, .inl (z_fu 0 1)), c22, c23, c24, c25, c26, c27] (none, [c0, c1, c2, c3, c4, c5, c6, c7, c8, c9, c10, c11, c12, c13, c14, c15, c16, c17, c18, c19, c20, .inl (13, .inl (z_fu 13 1)), c22, c23, c24, c25, c26, c27])
  refine us rfl rfl rfl ?_
  refine us rfl rfl rfl ?_
  refine us rfl rfl rfl ?_
  refine us rfl rfl rfl ?_
  refine us rfl rfl rfl ?_
  refine us rfl rfl rfl ?_
  refine us rfl rfl rfl ?_
  refine us rfl rfl rfl ?_
  refine us rfl rfl rfl ?_
  show zU X 230 5 [(0, .ref 21), (1, .int 1), (2, .int 1), (3, .int 13)] [] [c0, c1, c2, c3, c4, c5, c6, c7, c8, c9, c10, c11, c12, c13, c14, c15, c16, c17, c18, c19, c20, .inl (13, .inl (z_fu 1 1)), c22, c23, c24, c25, c26, c27] (none, [c0, c1, c2, c3, c4, c5, c6, c7, c8, c9, c10, c11, c12, c13, c14, c15, c16, c17, c18, c19, c20, .inl (13, .inl (z_fu 13 1)), c22, c23, c24, c25, c26, c27])
  refine us rfl rfl rfl ?_
  refine us rfl rfl rfl ?_
  refine us rfl rfl rfl ?_
  refine us rfl rfl rfl ?_
  refine us rfl rfl rfl ?_
  refine us rfl rfl rfl ?_
  refine us rfl rfl rfl ?_
  refine us rfl rfl rfl ?_
  refine us rfl rfl rfl ?_
  show zU X 230 5 [(0, .ref 21), (1, .int 1), (2, .int 2), (3, .int 13)] [] [c0, c1, c2, c3, c4, c5, c6, c7, c8, c9, c10, c11, c12, c13, c14, c15, c16, c17, c18, c19, c20, .inl (13, .inl (z_fu 2 1)), c22, c23, c24, c25, c26, c27] (none, [c0, c1, c2, c3, c4, c5, c6, c7, c8, c9, c10, c11, c12, c13, c14, c15, c16, c17, c18, c19, c20, .inl (13, .inl (z_fu 13 1)), c22, c23, c24, c25, c26, c27])
  refine us rfl rfl rfl ?_
  refine us rfl rfl rfl ?_
  refine us rfl rfl rfl ?_
  refine us rfl rfl rfl ?_
  refine us rfl rfl rfl ?_
  refine us rfl rfl rfl ?_
  refine us rfl rfl rfl ?_
  refine us rfl rfl rfl ?_
  refine us rfl rfl rfl ?_
  show zU X 230 5 [(0, .ref 21), (1, .int 1), (2, .int 3), (3, .int 13)] [] [c0, c1, c2, c3, c4, c5, c6, c7, c8, c9, c10, c11, c12, c13, c14, c15, c16, c17, c18, c19, c20, .inl (13, .inl (z_fu 3 1)), c22, c23, c24, c25, c26, c27] (none, [c0, c1, c2, c3, c4, c5, c6, c7, c8, c9, c10, c11, c12, c13, c14, c15, c16, c17, c18, c19, c20, .inl (13, .inl (z_fu 13 1)), c22, c23, c24, c25, c26, c27])
  refine us rfl rfl rfl ?_
  refine us rfl rfl rfl ?_
  refine us rfl rfl rfl ?_
  refine us rfl rfl rfl ?_
  refine us rfl rfl rfl ?_
  refine us rfl rfl rfl ?_
  refine us rfl rfl rfl ?_
  refine us rfl rfl rfl ?_
  refine us rfl rfl rfl ?_
  show zU X 230 5 [(0, .ref 21), (1, .int 1), (2, .int 4), (3, .int 13)] [] [c0, c1, c2, c3, c4, c5, c6, c7, c8, c9, c10, c11, c12, c13, c14, c15, c16, c17, c18, c19, c20, .inl (13, .inl (z_fu 4 1)), c22, c23, c24, c25, c26, c27] (none, [c0, c1, c2, c3, c4, c5, c6, c7, c8, c9, c10, c11, c12, c13, c14, c15, c16, c17, c18, c19, c20, .inl (13, .inl (z_fu 13 1)), c22, c23, c24, c25, c26, c27])
  refine us rfl rfl rfl ?_
  refine us rfl rfl rfl ?_
  refine us rfl rfl rfl ?_
  refine us rfl rfl rfl ?_
  refine us rfl rfl rfl ?_
  refine us rfl rfl rfl ?_
  refine us rfl rfl rfl ?_
  refine us rfl rfl rfl ?_
  refine us rfl rfl rfl ?_
  show zU X 230 5 [(0, .ref 21), (1, .int 1), (2, .int 5), (3, .int 13)] [] [c0, c1, c2, c3, c4, c5, c6, c7, c8, c9, c10, c11, c12, c13, c14, c15, c16, c17, c18, c19, c20, .inl (13, .inl (z_fu 5 1)), c22, c23, c24, c25, c26, c27] (none, [c0, c1, c2, c3, c4, c5, c6, c7, c8, c9, c10, c11, c12, c13, c14, c15, c16, c17, c18, c19, c20, .inl (13, .inl (z_fu 13 1)), c22, c23, c24, c25, c26, c27])
  refine us rfl rfl rfl ?_
  refine us rfl rfl rfl ?_
  refine us rfl rfl rfl ?_
  refine us rfl rfl rfl ?_
  refine us rfl rfl rfl ?_
  refine us rfl rfl rfl ?_
  refine us rfl rfl rfl ?_
  refine us rfl rfl rfl ?_
  refine us rfl rfl rfl ?_
  show zU X 230 5 [(0, .ref 21), (1, .int 1), (2, .int 6), (3, .int 13)] [] [c0, c1, c2, c3, c4, c5, c6, c7, c8, c9, c10, c11, c12, c13, c14, c15, c16, c17, c18, c19, c20, .inl (13, .inl (z_fu 6 1)), c22, c23, c24, c25, c26, c27] (none, [c0, c1, c2, c3, c4, c5, c6, c7, c8, c9, c10, c11, c12, c13, c14, c15, c16, c17, c18, c19, c20, .inl (13, .inl (z_fu 13 1)), c22, c23, c24, c25, c26, c27])
  refine us rfl rfl rfl ?_
  refine us rfl rfl rfl ?_
  refine us rfl rfl rfl ?_
  refine us rfl rfl rfl ?_
  refine us rfl rfl rfl ?_
  refine us rfl rfl rfl ?_
  refine us rfl rfl rfl ?_
  refine us rfl rfl rfl ?_
  refine us rfl rfl rfl ?_
  show zU X 230 5 [(0, .ref 21), (1, .int 1), (2, .int 7), (3, .int 13)] [] [c0, c1, c2, c3, c4, c5, c6, c7, c8, c9, c10, c11, c12, c13, c14, c15, c16, c17, c18, c19, c20, .inl (13, .inl (z_fu 7 1)), c22, c23, c24, c25, c26, c27] (none, [c0, c1, c2, c3, c4, c5, c6, c7, c8, c9, c10, c11, c12, c13, c14, c15, c16, c17, c18, c19, c20, .inl (13, .inl (z_fu 13 1)), c22, c23, c24, c25, c26, c27])
  refine us rfl rfl rfl ?_
  refine us rfl rfl rfl ?_
  refine us rfl rfl rfl ?_
  refine us rfl rfl rfl ?_
  refine us rfl rfl rfl ?_
  refine us rfl rfl rfl ?_
  refine us rfl rfl rfl ?_
  refine us rfl rfl rfl ?_
  refine us rfl rfl rfl ?_
  show zU X 230 5 [(0, .ref 21), (1, .int 1), (2, .int 8), (3, .int 13)] [] [c0, c1, c2, c3, c4, c5, c6, c7, c8, c9, c10, c11, c12, c13, c14, c15, c16, c17, c18, c19, c20, .inl (13, .inl (z_fu 8 1)), c22, c23, c24, c25, c26, c27] (none, [c0, c1, c2, c3, c4, c5, c6, c7, c8, c9, c10, c11, c12, c13, c14, c15, c16, c17, c18, c19, c20, .inl (13, .inl (z_fu 13 1)), c22, c23, c24, c25, c26, c27])
  refine us rfl rfl rfl ?_
  refine us rfl rfl rfl ?_
  refine us rfl rfl rfl ?_
  refine us rfl rfl rfl ?_
  refine us rfl rfl rfl ?_
  refine us rfl rfl rfl ?_
  refine us rfl rfl rfl ?_
  refine us rfl rfl rfl ?_
  refine us rfl rfl rfl ?_
  show zU X 230 5 [(0, .ref 21), (1, .int 1), (2, .int 9), (3, .int 13)] [] [c0, c1, c2, c3, c4, c5, c6, c7, c8, c9, c10, c11, c12, c13, c14, c15, c16, c17, c18, c19, c20, .inl (13, .inl (z_fu 9 1)), c22, c23, c24, c25, c26, c27] (none, [c0, c1, c2, c3, c4, c5, c6, c7, c8, c9, c10, c11, c12, c13, c14, c15, c16, c17, c18, c19, c20, .inl (13, .inl (z_fu 13 1)), c22, c23, c24, c25, c26, c27])
  refine us rfl rfl rfl ?_
  refine us rfl rfl rfl ?_
  refine us rfl rfl rfl ?_
  refine us rfl rfl rfl ?_
  refine us rfl rfl rfl ?_
  refine us rfl rfl rfl ?_
  refine us rfl rfl rfl ?_
  refine us rfl rfl rfl ?_
  refine us rfl rfl rfl ?_
  show zU X 230 5 [(0, .ref 21), (1, .int 1), (2, .int 10), (3, .int 13)] [] [c0, c1, c2, c3, c4, c5, c6, c7, c8, c9, c10, c11, c12, c13, c14, c15, c16, c17, c18, c19, c20, .inl (13, .inl (z_fu 10 1)), c22, c23, c24, c25, c26, c27] (none, [c0, c1, c2, c3, c4, c5, c6, c7, c8, c9, c10, c11, c12, c13, c14, c15, c16, c17, c18, c19, c20, .inl (13, .inl (z_fu 13 1)), c22, c23, c24, c25, c26, c27])
  refine us rfl rfl rfl ?_
  refine us rfl rfl rfl ?_
  refine us rfl rfl rfl ?_
  refine us rfl rfl rfl ?_
  refine us rfl rfl rfl ?_
  refine us rfl rfl rfl ?_
  refine us rfl rfl rfl ?_
  refine us rfl rfl rfl ?_
  refine us rfl rfl rfl ?_
  show zU X 230 5 [(0, .ref 21), (1, .int 1), (2, .int 11), (3, .int 13)] [] [c0, c1, c2, c3, c4, c5, c6, c7, c8, c9, c10, c11, c12, c13, c14, c15, c16, c17, c18, c19, c20, .inl (13, .inl (z_fu 11 1)), c22, c23, c24, c25, c26, c27] (none, [c0, c1, c2, c3, c4, c5, c6, c7, c8, c9, c10, c11, c12, c13, c14, c15, c16, c17, c18, c19, c20, .inl (13, .inl (z_fu 13 1)), c22, c23, c24, c25, c26, c27])
  refine us rfl rfl rfl ?_
  refine us rfl rfl rfl ?_
  refine us rfl rfl rfl ?_
  refine us rfl rfl rfl ?_
  refine us rfl rfl rfl ?_
  refine us rfl rfl rfl ?_
  refine us rfl rfl rfl ?_
  refine us rfl rfl rfl ?_
  refine us rfl rfl rfl ?_
  show zU X 230 5 [(0, .ref 21), (1, .int 1), (2, .int 12), (3, .int 13)] [] [c0, c1, c2, c3, c4, c5, c6, c7, c8, c9, c10, c11, c12, c13, c14, c15, c16, c17, c18, c19, c20, .inl (13, .inl (z_fu 12 1)), c22, c23, c24, c25, c26, c27] (none, [c0, c1, c2, c3, c4, c5, c6, c7, c8, c9, c10, c11, c12, c13, c14, c15, c16, c17, c18, c19, c20, .inl (13, .inl (z_fu 13 1)), c22, c23, c24, c25, c26, c27])
  refine us rfl rfl rfl ?_
  refine us rfl rfl rfl ?_
  refine us rfl rfl rfl ?_
  refine us rfl rfl rfl ?_
  refine us rfl rfl rfl ?_
  refine us rfl rfl rfl ?_
  refine us rfl rfl rfl ?_
  refine us rfl rfl rfl ?_
  refine us rfl rfl rfl ?_
  show zU X 230 5 [(0, .ref 21), (1, .int 1), (2, .int 13), (3, .int 13)] [] [c0, c1, c2, c3, c4, c5, c6, c7, c8, c9, c10, c11, c12, c13, c14, c15, c16, c17, c18, c19, c20, .inl (13, .inl (z_fu 13 1)), c22, c23, c24, c25, c26, c27] (none, [c0, c1, c2, c3, c4, c5, c6, c7, c8, c9, c10, c11, c12, c13, c14, c15, c16, c17, c18, c19, c20, .inl (13, .inl (z_fu 13 1)), c22, c23, c24, c25, c26, c27])
  refine us rfl rfl rfl ?_
  refine us rfl rfl rfl ?_
  refine us rfl rfl rfl ?_
  exact ur rfl rfl
theorem st_road_19 {c0 c1 c2 c3 c4 c5 c6 c7 c8 c9 c10 c11 c12 c13 c14 c15 c16 c17 c18 : zC} : zU X 0 0 [(0, .ref 19)] [] [c0, c1, c2, c3, c4, c5, c6, c7, c8, c9, c10, c11, c12, c13, c14, c15, c16, c17, c18, .inr (0, [.null, .null, .null, .null, .null, .null, .null, .null, .int 0, .int 0, .int 0])] (none, [c0, c1, c2, c3, c4, c5, c6, c7, c8, c9, c10, c11, c12, c13, c14, c15, c16, c17, c18, .inr (0, [.ref 20, .ref 21, .ref 22, .ref 23, .ref 24, .ref 25, .ref 26, .ref 27, .int 0, .int 0, .int 0]), .inl (6, .inl (z_fu 6 100)), .inl (13, .inl (z_fu 13 1)), z_zi 12, z_zi 12, z_zi 12, z_zi 12, z_zi 12, z_zi 12]) := by
  refine us rfl rfl rfl ?_
  refine us rfl rfl rfl ?_
  refine us rfl rfl rfl ?_
  refine us rfl rfl rfl ?_
  refine us rfl rfl rfl ?_
  refine us rfl rfl rfl ?_
  show zU X 0 12 [(0, .ref 19)] [] [c0, c1, c2, c3, c4, c5, c6, c7, c8, c9, c10, c11, c12, c13, c14, c15, c16, c17, c18, .inr (0, [.ref 20, .null, .null, .null, .null, .null, .null, .null, .int 0, .int 0, .int 0]), z_zi 6] (none, [c0, c1, c2, c3, c4, c5, c6, c7, c8, c9, c10, c11, c12, c13, c14, c15, c16, c17, c18, .inr (0, [.ref 20, .ref 21, .ref 22, .ref 23, .ref 24, .ref 25, .ref 26, .ref 27, .int 0, .int 0, .int 0]), .inl (6, .inl (z_fu 6 100)), .inl (13, .inl (z_fu 13 1)), z_zi 12, z_zi 12, z_zi 12, z_zi 12, z_zi 12, z_zi 12])
  refine us rfl rfl rfl ?_
  refine us rfl rfl rfl ?_
  refine us rfl rfl rfl ?_
  refine us rfl rfl rfl ?_
  show zU X 0 20 [(0, .ref 19)] [] [c0, c1, c2, c3, c4, c5, c6, c7, c8, c9, c10, c11, c12, c13, c14, c15, c16, c17, c18, .inr (0, [.ref 20, .ref 21, .null, .null, .null, .null, .null, .null, .int 0, .int 0, .int 0]), z_zi 6, z_zi 13] (none, [c0, c1, c2, c3, c4, c5, c6, c7, c8, c9, c10, c11, c12, c13, c14, c15, c16, c17, c18, .inr (0, [.ref 20, .ref 21, .ref 22, .ref 23, .ref 24, .ref 25, .ref 26, .ref 27, .int 0, .int 0, .int 0]), .inl (6, .inl (z_fu 6 100)), .inl (13, .inl (z_fu 13 1)), z_zi 12, z_zi 12, z_zi 12, z_zi 12, z_zi 12, z_zi 12])
  refine us rfl rfl rfl ?_
  refine us rfl rfl rfl ?_
  refine us rfl rfl rfl ?_
  refine us rfl rfl rfl ?_
  show zU X 0 28 [(0, .ref 19)] [] [c0, c1, c2, c3, c4, c5, c6, c7, c8, c9, c10, c11, c12, c13, c14, c15, c16, c17, c18, .inr (0, [.ref 20, .ref 21, .ref 22, .null, .null, .null, .null, .null, .int 0, .int 0, .int 0]), z_zi 6, z_zi 13, z_zi 12] (none, [c0, c1, c2, c3, c4, c5, c6, c7, c8, c9, c10, c11, c12, c13, c14, c15, c16, c17, c18, .inr (0, [.ref 20, .ref 21, .ref 22, .ref 23, .ref 24, .ref 25, .ref 26, .ref 27, .int 0, .int 0, .int 0]), .inl (6, .inl (z_fu 6 100)), .inl (13, .inl (z_fu 13 1)), z_zi 12, z_zi 12, z_zi 12, z_zi 12, z_zi 12, z_zi 12])
  refine us rfl rfl rfl ?_
  refine us rfl rfl rfl ?_
  refine us rfl rfl rfl ?_
  refine us rfl rfl rfl ?_
  show zU X 0 36 [(0, .ref 19)] [] [c0, c1, c2, c3, c4, c5, c6, c7, c8, c9, c10, c11, c12, c13, c14, c15, c16, c17, c18, .inr (0, [.ref 20, .ref 21, .ref 22, .ref 23, .null, .null, .null, .null, .int 0, .int 0, .int 0]), z_zi 6, z_zi 13, z_zi 12, z_zi 12] (none, [c0, c1, c2, c3, c4, c5, c6, c7, c8, c9, c10, c11, c12, c13, c14, c15, c16, c17, c18, .inr (0, [.ref 20, .ref 21, .ref 22, .ref 23, .ref 24, .ref 25, .ref 26, .ref 27, .int 0, .int 0, .int 0]), .inl (6, .inl (z_fu 6 100)), .inl (13, .inl (z_fu 13 1)), z_zi 12, z_zi 12, z_zi 12, z_zi 12, z_zi 12, z_zi 12])
  refine us rfl rfl rfl ?_
  refine us rfl rfl rfl ?_
  refine us rfl rfl rfl ?_
  refine us rfl rfl rfl ?_
  show zU X 0 44 [(0, .ref 19)] [] [c0, c1, c2, c3, c4, c5, c6, c7, c8, c9, c10, c11, c12, c13, c14, c15, c16, c17, c18, .inr (0, [.ref 20, .ref 21, .ref 22, .ref 23, .ref 24, .null, .null, .null, .int 0, .int 0, .int 0]), z_zi 6, z_zi 13, z_zi 12, z_zi 12, z_zi 12] (none, [c0, c1, c2, c3, c4, c5, c6, c7, c8, c9, c10, c11, c12, c13, c14, c15, c16, c17, c18, .inr (0, [.ref 20, .ref 21, .ref 22, .ref 23, .ref 24, .ref 25, .ref 26, .ref 27, .int 0, .int 0, .int 0]), .inl (6, .inl (z_fu 6 100)), .inl (13, .inl (z_fu 13 1)), z_zi 12, z_zi 12, z_zi 12, z_zi 12, z_zi 12, z_zi 12])
  refine us rfl rfl rfl ?_
  refine us rfl rfl rfl ?_
  refine us rfl rfl rfl ?_
  refine us rfl rfl rfl ?_
  show zU X 0 52 [(0, .ref 19)] [] [c0, c1, c2, c3, c4, c5, c6, c7, c8, c9, c10, c11, c12, c13, c14, c15, c16, c17, c18, .inr (0, [.ref 20, .ref 21, .ref 22, .ref 23, .ref 24, .ref 25, .null, .null, .int 0, .int 0, .int 0]), z_zi 6, z_zi 13, z_zi 12, z_zi 12, z_zi 12, z_zi 12] (none, [c0, c1, c2, c3, c4, c5, c6, c7, c8, c9, c10, c11, c12, c13, c14, c15, c16, c17, c18, .inr (0, [.ref 20, .ref 21, .ref 22, .ref 23, .ref 24, .ref 25, .ref 26, .ref 27, .int 0, .int 0, .int 0]), .inl (6, .inl (z_fu 6 100)), .inl (13, .inl (z_fu 13 1)), z_zi 12, z_zi 12, z_zi 12, z_zi 12, z_zi 12, z_zi 12])
  refine us rfl rfl rfl ?_
  refine us rfl rfl rfl ?_
  refine us rfl rfl rfl ?_
  refine us rfl rfl rfl ?_
  show zU X 0 60 [(0, .ref 19)] [] [c0, c1, c2, c3, c4, c5, c6, c7, c8, c9, c10, c11, c12, c13, c14, c15, c16, c17, c18, .inr (0, [.ref 20, .ref 21, .ref 22, .ref 23, .ref 24, .ref 25, .ref 26, .null, .int 0, .int 0, .int 0]), z_zi 6, z_zi 13, z_zi 12, z_zi 12, z_zi 12, z_zi 12, z_zi 12] (none, [c0, c1, c2, c3, c4, c5, c6, c7, c8, c9, c10, c11, c12, c13, c14, c15, c16, c17, c18, .inr (0, [.ref 20, .ref 21, .ref 22, .ref 23, .ref 24, .ref 25, .ref 26, .ref 27, .int 0, .int 0, .int 0]), .inl (6, .inl (z_fu 6 100)), .inl (13, .inl (z_fu 13 1)), z_zi 12, z_zi 12, z_zi 12, z_zi 12, z_zi 12, z_zi 12])
  refine us rfl rfl rfl ?_
  refine us rfl rfl rfl ?_
  refine us rfl rfl rfl ?_
  refine us rfl rfl rfl ?_
  show zU X 0 68 [(0, .ref 19)] [] [c0, c1, c2, c3, c4, c5, c6, c7, c8, c9, c10, c11, c12, c13, c14, c15, c16, c17, c18, .inr (0, [.ref 20, .ref 21, .ref 22, .ref 23, .ref 24, .ref 25, .ref 26, .ref 27, .int 0, .int 0, .int 0]), z_zi 6, z_zi 13, z_zi 12, z_zi 12, z_zi 12, z_zi 12, z_zi 12, z_zi 12] (none, [c0, c1, c2, c3, c4, c5, c6, c7, c8, c9, c10, c11, c12, c13, c14, c15, c16, c17, c18, .inr (0, [.ref 20, .ref 21, .ref 22, .ref 23, .ref 24, .ref 25, .ref 26, .ref 27, .int 0, .int 0, .int 0]), .inl (6, .inl (z_fu 6 100)), .inl (13, .inl (z_fu 13 1)), z_zi 12, z_zi 12, z_zi 12, z_zi 12, z_zi 12, z_zi 12])
  refine us rfl rfl rfl ?_
  refine us rfl rfl rfl ?_
  refine us rfl rfl rfl ?_
  refine us rfl rfl rfl ?_
  refine us rfl rfl rfl ?_
  refine us rfl rfl rfl ?_
  refine us rfl rfl rfl ?_
  refine us rfl rfl rfl ?_
  refine us rfl rfl rfl ?_
  show zU X 0 83 [(0, .ref 19)] [] [c0, c1, c2, c3, c4, c5, c6, c7, c8, c9, c10, c11, c12, c13, c14, c15, c16, c17, c18, .inr (0, [.ref 20, .ref 21, .ref 22, .ref 23, .ref 24, .ref 25, .ref 26, .ref 27, .int 0, .int 0, .int 0]), z_zi 6, z_zi 13, z_zi 12, z_zi 12, z_zi 12, z_zi 12, z_zi 12, z_zi 12] (none, [c0, c1, c2, c3, c4, c5, c6, c7, c8, c9, c10, c11, c12, c13, c14, c15, c16, c17, c18, .inr (0, [.ref 20, .ref 21, .ref 22, .ref 23, .ref 24, .ref 25, .ref 26, .ref 27, .int 0, .int 0, .int 0]), .inl (6, .inl (z_fu 6 100)), .inl (13, .inl (z_fu 13 1)), z_zi 12, z_zi 12, z_zi 12, z_zi 12, z_zi 12, z_zi 12])
  refine us rfl rfl rfl ?_
  refine us rfl rfl rfl ?_
  refine us rfl rfl rfl ?_
  refine uc rfl rfl st_fill_20 ?_
  show zU X 0 92 [(0, .ref 19)] [] [c0, c1, c2, c3, c4, c5, c6, c7, c8, c9, c10, c11, c12, c13, c14, c15, c16, c17, c18, .inr (0, [.ref 20, .ref 21, .ref 22, .ref 23, .ref 24, .ref 25, .ref 26, .ref 27, .int 0, .int 0, .int 0]), .inl (6, .inl (z_fu 6 100)), z_zi 13, z_zi 12, z_zi 12, z_zi 12, z_zi 12, z_zi 12, z_zi 12] (none, [c0, c1, c2, c3, c4, c5, c6, c7, c8, c9, c10, c11, c12, c13, c14, c15, c16, c17, c18, .inr (0, [.ref 20, .ref 21, .ref 22, .ref 23, .ref 24, .ref 25, .ref 26, .ref 27, .int 0, .int 0, .int 0]), .inl (6, .inl (z_fu 6 100)), .inl (13, .inl (z_fu 13 1)), z_zi 12, z_zi 12, z_zi 12, z_zi 12, z_zi 12, z_zi 12])
  refine us rfl rfl rfl ?_
  refine us rfl rfl rfl ?_
  refine us rfl rfl rfl ?_
  refine uc rfl rfl st_fill_21 ?_
  show zU X 0 100 [(0, .ref 19)] [] [c0, c1, c2, c3, c4, c5, c6, c7, c8, c9, c10, c11, c12, c13, c14, c15, c16, c17, c18, .inr (0, [.ref 20, .ref 21, .ref 22, .ref 23, .ref 24, .ref 25, .ref 26, .ref 27, .int 0, .int 0, .int 0]), .inl (6, .inl (z_fu 6 100)), .inl (13, .inl (z_fu 13 1)), z_zi 12, z_zi 12, z_zi 12, z_zi 12, z_zi 12, z_zi 12] (none, [c0, c1, c2, c3, c4, c5, c6, c7, c8, c9, c10, c11, c12, c13, c14, c15, c16, c17, c18, .inr (0, [.ref 20, .ref 21, .ref 22, .ref 23, .ref 24, .ref 25, .ref 26, .ref 27, .int 0, .int 0, .int 0]), .inl (6, .inl (z_fu 6 100)), .inl (13, .inl (z_fu 13 1)), z_zi 12, z_zi 12, z_zi 12, z_zi 12, z_zi 12, z_zi 12])
  exact ur rfl rfl
theorem st_sheet_36 {c0 c1 c2 c3 c4 c5 c6 c7 c8 c9 c10 c11 c12 c13 c14 c15 c16 c17 c18 c19 c20 c21 c22 c23 c24 c25 c26 c27 c28 c29 c30 c31 c32 c33 c34 c35 : zC} : zU X 26 0 [(0, .ref 36)] [] [c0, c1, c2, c3, c4, c5, c6, c7, c8, c9, c10, c11, c12, c13, c14, c15, c16, c17, c18, c19, c20, c21, c22, c23, c24, c25, c26, c27, c28, c29, c30, c31, c32, c33, c34, c35, .inr (1, [.null, .int 0, .int 0])] (none, [c0, c1, c2, c3, c4, c5, c6, c7, c8, c9, c10, c11, c12, c13, c14, c15, c16, c17, c18, c19, c20, c21, c22, c23, c24, c25, c26, c27, c28, c29, c30, c31, c32, c33, c34, c35, .inr (1, [.ref 37, .int 0, .int 0]), z_zl 40]) := by
  refine us rfl rfl rfl ?_
  refine us rfl rfl rfl ?_
  refine us rfl rfl rfl ?_
  refine us rfl rfl rfl ?_
  refine us rfl rfl rfl ?_
  refine us rfl rfl rfl ?_
  show zU X 26 12 [(0, .ref 36)] [] [c0, c1, c2, c3, c4, c5, c6, c7, c8, c9, c10, c11, c12, c13, c14, c15, c16, c17, c18, c19, c20, c21, c22, c23, c24, c25, c26, c27, c28, c29, c30, c31, c32, c33, c34, c35, .inr (1, [.ref 37, .int 0, .int 0]), z_zl 40] (none, [c0, c1, c2, c3, c4, c5, c6, c7, c8, c9, c10, c11, c12, c13, c14, c15, c16, c17, c18, c19, c20, c21, c22, c23, c24, c25, c26, c27, c28, c29, c30, c31, c32, c33, c34, c35, .inr (1, [.ref 37, .int 0, .int 0]), z_zl 40])
  refine us rfl rfl rfl ?_
  refine us rfl rfl rfl ?_
  refine us rfl rfl rfl ?_
  refine us rfl rfl rfl ?_
  refine us rfl rfl rfl ?_
  refine us rfl rfl rfl ?_
  show zU X 26 22 [(0, .ref 36)] [] [c0, c1, c2, c3, c4, c5, c6, c7, c8, c9, c10, c11, c12, c13, c14, c15, c16, c17, c18, c19, c20, c21, c22, c23, c24, c25, c26, c27, c28, c29, c30, c31, c32, c33, c34, c35, .inr (1, [.ref 37, .int 0, .int 0]), z_zl 40] (none, [c0, c1, c2, c3, c4, c5, c6, c7, c8, c9, c10, c11, c12, c13, c14, c15, c16, c17, c18, c19, c20, c21, c22, c23, c24, c25, c26, c27, c28, c29, c30, c31, c32, c33, c34, c35, .inr (1, [.ref 37, .int 0, .int 0]), z_zl 40])
  exact ur rfl rfl
theorem st_sheet_38 {c0 c1 c2 c3 c4 c5 c6 c7 c8 c9 c10 c11 c12 c13 c14 c15 c16 c17 c18 c19 c20 c21 c22 c23 c24 c25 c26 c27 c28 c29 c30 c31 c32 c33 c34 c35 c36 c37 : zC} : zU X 26 0 [(0, .ref 38)] [] [c0, c1, c2, c3, c4, c5, c6, c7, c8, c9, c10, c11, c12, c13, c14, c15, c16, c17, c18, c19, c20, c21, c22, c23, c24, c25, c26, c27, c28, c29, c30, c31, c32, c33, c34, c35, c36, c37, .inr (1, [.null, .int 0, .int 0])] (none, [c0, c1, c2, c3, c4, c5, c6, c7, c8, c9, c10, c11, c12, c13, c14, c15, c16, c17, c18, c19, c20, c21, c22, c23, c24, c25, c26, c27, c28, c29, c30, c31, c32, c33, c34, c35, c36, c37, .inr (1, [.ref 39, .int 0, .int 0]), z_zl 40]) := by
  refine us rfl rfl rfl ?_
  refine us rfl rfl rfl ?_
  refine us rfl rfl rfl ?_
  refine us rfl rfl rfl ?_
  refine us rfl rfl rfl ?_
  refine us rfl rfl rfl ?_
  show zU X 26 12 [(0, .ref 38)] [] [c0, c1, c2, c3, c4, c5, c6, c7, c8, c9, c10, c11, c12, c13, c14, c15, c16, c17, c18, c19, c20, c21, c22, c23, c24, c25, c26, c27, c28, c29, c30, c31, c32, c33, c34, c35, c36, c37, .inr (1, [.ref 39, .int 0, .int 0]), z_zl 40] (none, [c0, c1, c2, c3, c4, c5, c6, c7, c8, c9, c10, c11, c12, c13, c14, c15, c16, c17, c18, c19, c20, c21, c22, c23, c24, c25, c26, c27, c28, c29, c30, c31, c32, c33, c34, c35, c36, c37, .inr (1, [.ref 39, .int 0, .int 0]), z_zl 40])
  refine us rfl rfl rfl ?_
  refine us rfl rfl rfl ?_
  refine us rfl rfl rfl ?_
  refine us rfl rfl rfl ?_
  refine us rfl rfl rfl ?_
  refine us rfl rfl rfl ?_
  show zU X 26 22 [(0, .ref 38)] [] [c0, c1, c2, c3, c4, c5, c6, c7, c8, c9, c10, c11, c12, c13, c14, c15, c16, c17, c18, c19, c20, c21, c22, c23, c24, c25, c26, c27, c28, c29, c30, c31, c32, c33, c34, c35, c36, c37, .inr (1, [.ref 39, .int 0, .int 0]), z_zl 40] (none, [c0, c1, c2, c3, c4, c5, c6, c7, c8, c9, c10, c11, c12, c13, c14, c15, c16, c17, c18, c19, c20, c21, c22, c23, c24, c25, c26, c27, c28, c29, c30, c31, c32, c33, c34, c35, c36, c37, .inr (1, [.ref 39, .int 0, .int 0]), z_zl 40])
  exact ur rfl rfl
theorem st_sheet_40 {c0 c1 c2 c3 c4 c5 c6 c7 c8 c9 c10 c11 c12 c13 c14 c15 c16 c17 c18 c19 c20 c21 c22 c23 c24 c25 c26 c27 c28 c29 c30 c31 c32 c33 c34 c35 c36 c37 c38 c39 : zC} : zU X 26 0 [(0, .ref 40)] [] [c0, c1, c2, c3, c4, c5, c6, c7, c8, c9, c10, c11, c12, c13, c14, c15, c16, c17, c18, c19, c20, c21, c22, c23, c24, c25, c26, c27, c28, c29, c30, c31, c32, c33, c34, c35, c36, c37, c38, c39, .inr (1, [.null, .int 0, .int 0])] (none, [c0, c1, c2, c3, c4, c5, c6, c7, c8, c9, c10, c11, c12, c13, c14, c15, c16, c17, c18, c19, c20, c21, c22, c23, c24, c25, c26, c27, c28, c29, c30, c31, c32, c33, c34, c35, c36, c37, c38, c39, .inr (1, [.ref 41, .int 0, .int 0]), z_zl 40]) := by
  refine us rfl rfl rfl ?_
  refine us rfl rfl rfl ?_
  refine us rfl rfl rfl ?_
  refine us rfl rfl rfl ?_
  refine us rfl rfl rfl ?_
  refine us rfl rfl rfl ?_
  show zU X 26 12 [(0, .ref 40)] [] [c0, c1, c2, c3, c4, c5, c6, c7, c8, c9, c10, c11, c12, c13, c14, c15, c16, c17, c18, c19, c20, c21, c22, c23, c24, c25, c26, c27, c28, c29, c30, c31, c32, c33, c34, c35, c36, c37, c38, c39, .inr (1, [.ref 41, .int 0, .int 0]), z_zl 40] (none, [c0, c1, c2, c3, c4, c5, c6, c7, c8, c9, c10, c11, c12, c13, c14, c15, c16, c17, c18, c19, c20, c21, c22, c23, c24, c25, c26, c27, c28, c29, c30, c31, c32, c33, c34, c35, c36, c37, c38, c39, .inr (1, [.ref 41, .int 0, .int 0]), z_zl 40])
  refine us rfl rfl rfl ?_
  refine us rfl rfl rfl ?_
  refine us rfl rfl rfl ?_
  refine us rfl rfl rfl ?_
  refine us rfl rfl rfl ?_
  refine us rfl rfl rfl ?_
  show zU X 26 22 [(0, .ref 40)] [] [c0, c1, c2, c3, c4, c5, c6, c7, c8, c9, c10, c11, c12, c13, c14, c15, c16, c17, c18, c19, c20, c21, c22, c23, c24, c25, c26, c27, c28, c29, c30, c31, c32, c33, c34, c35, c36, c37, c38, c39, .inr (1, [.ref 41, .int 0, .int 0]), z_zl 40] (none, [c0, c1, c2, c3, c4, c5, c6, c7, c8, c9, c10, c11, c12, c13, c14, c15, c16, c17, c18, c19, c20, c21, c22, c23, c24, c25, c26, c27, c28, c29, c30, c31, c32, c33, c34, c35, c36, c37, c38, c39, .inr (1, [.ref 41, .int 0, .int 0]), z_zl 40])
  exact ur rfl rfl
theorem st_sheet_42 {c0 c1 c2 c3 c4 c5 c6 c7 c8 c9 c10 c11 c12 c13 c14 c15 c16 c17 c18 c19 c20 c21 c22 c23 c24 c25 c26 c27 c28 c29 c30 c31 c32 c33 c34 c35 c36 c37 c38 c39 c40 c41 : zC} : zU X 26 0 [(0, .ref 42)] [] [c0, c1, c2, c3, c4, c5, c6, c7, c8, c9, c10, c11, c12, c13, c14, c15, c16, c17, c18, c19, c20, c21, c22, c23, c24, c25, c26, c27, c28, c29, c30, c31, c32, c33, c34, c35, c36, c37, c38, c39, c40, c41, .inr (1, [.null, .int 0, .int 0])] (none, [c0, c1, c2, c3, c4, c5, c6, c7, c8, c9, c10, c11, c12, c13, c14, c15, c16, c17, c18, c19, c20, c21, c22, c23, c24, c25, c26, c27, c28, c29, c30, c31, c32, c33, c34, c35, c36, c37, c38, c39, c40, c41, .inr (1, [.ref 43, .int 0, .int 0]), z_zl 40]) := by
  refine us rfl rfl rfl ?_
  refine us rfl rfl rfl ?_
  refine us rfl rfl rfl ?_
  refine us rfl rfl rfl ?_
  refine us rfl rfl rfl ?_
  refine us rfl rfl rfl ?_
  show zU X 26 12 [(0, .ref 42)] [] [c0, c1, c2, c3, c4, c5, c6, c7, c8, c9, c10, c11, c12, c13, c14, c15, c16, c17, c18, c19, c20, c21, c22, c23, c24, c25, c26, c27, c28, c29, c30, c31, c32, c33, c34, c35, c36, c37, c38, c39, c40, c41, .inr (1, [.ref 43, .int 0, .int 0]), z_zl 40] (none, [c0, c1, c2, c3, c4, c5, c6, c7, c8, c9, c10, c11, c12, c13, c14, c15, c16, c17, c18, c19, c20, c21, c22, c23, c24, c25, c26, c27, c28, c29, c30, c31, c32, c33, c34, c35, c36, c37, c38, c39, c40, c41, .inr (1, [.ref 43, .int 0, .int 0]), z_zl 40])
  refine us rfl rfl rfl ?_
  refine us rfl rfl rfl ?_
  refine us rfl rfl rfl ?_
  refine us rfl rfl rfl ?_
  refine us rfl rfl rfl ?_
  refine us rfl rfl rfl ?_
  show zU X 26 22 [(0, .ref 42)] [] [c0, c1, c2, c3, c4, c5, c6, c7, c8, c9, c10, c11, c12, c13, c14, c15, c16, c17, c18, c19, c20, c21, c22, c23, c24, c25, c26, c27, c28, c29, c30, c31, c32, c33, c34, c35, c36, c37, c38, c39, c40, c41, .inr (1, [.ref 43, .int 0, .int 0]), z_zl 40] (none, [c0, c1, c2, c3, c4, c5, c6, c7, c8, c9, c10, c11, c12, c13, c14, c15, c16, c17, c18, c19, c20, c21, c22, c23, c24, c25, c26, c27, c28, c29, c30, c31, c32, c33, c34, c35, c36, c37, c38, c39, c40, c41, .inr (1, [.ref 43, .int 0, .int 0]), z_zl 40])
  exact ur rfl rfl
theorem st_tape {c0 c1 c2 c3 c4 c5 c6 c7 c8 c9 c10 c11 c12 c13 c14 c15 c16 c17 c18 c19 c20 c21 c22 c23 c24 c25 c26 c27 c28 : zC} : zU X 31 0 [(0, .ref 29)] [] [c0, c1, c2, c3, c4, c5, c6, c7, c8, c9, c10, c11, c12, c13, c14, c15, c16, c17, c18, c19, c20, c21, c22, c23, c24, c25, c26, c27, c28, .inr (2, [.null, .int 0, .null, .null, .null, .int 0])] (none, [c0, c1, c2, c3, c4, c5, c6, c7, c8, c9, c10, c11, c12, c13, c14, c15, c16, c17, c18, c19, c20, c21, c22, c23, c24, c25, c26, c27, c28, .inr (2, [.ref 30, .int 0, .ref 31, .ref 32, .ref 33, .int 0]), z_zi 120, z_zi 121, z_zi 121, z_zi 121]) := by
  refine us rfl rfl rfl ?_
  refine us rfl rfl rfl ?_
  refine us rfl rfl rfl ?_
  refine us rfl rfl rfl ?_
  refine us rfl rfl rfl ?_
  refine us rfl rfl rfl ?_
  show zU X 31 12 [(0, .ref 29)] [] [c0, c1, c2, c3, c4, c5, c6, c7, c8, c9, c10, c11, c12, c13, c14, c15, c16, c17, c18, c19, c20, c21, c22, c23, c24, c25, c26, c27, c28, .inr (2, [.ref 30, .int 0, .null, .null, .null, .int 0]), z_zi 120] (none, [c0, c1, c2, c3, c4, c5, c6, c7, c8, c9, c10, c11, c12, c13, c14, c15, c16, c17, c18, c19, c20, c21, c22, c23, c24, c25, c26, c27, c28, .inr (2, [.ref 30, .int 0, .ref 31, .ref 32, .ref 33, .int 0]), z_zi 120, z_zi 121, z_zi 121, z_zi 121])
  refine us rfl rfl rfl ?_
  refine us rfl rfl rfl ?_
  refine us rfl rfl rfl ?_
  show zU X 31 17 [(0, .ref 29)] [] [c0, c1, c2, c3, c4, c5, c6, c7, c8, c9, c10, c11, c12, c13, c14, c15, c16, c17, c18, c19, c20, c21, c22, c23, c24, c25, c26, c27, c28, .inr (2, [.ref 30, .int 0, .null, .null, .null, .int 0]), z_zi 120] (none, [c0, c1, c2, c3, c4, c5, c6, c7, c8, c9, c10, c11, c12, c13, c14, c15, c16, c17, c18, c19, c20, c21, c22, c23, c24, c25, c26, c27, c28, .inr (2, [.ref 30, .int 0, .ref 31, .ref 32, .ref 33, .int 0]), z_zi 120, z_zi 121, z_zi 121, z_zi 121])
  refine us rfl rfl rfl ?_
  refine us rfl rfl rfl ?_
  refine us rfl rfl rfl ?_
  refine us rfl rfl rfl ?_
  show zU X 31 25 [(0, .ref 29)] [] [c0, c1, c2, c3, c4, c5, c6, c7, c8, c9, c10, c11, c12, c13, c14, c15, c16, c17, c18, c19, c20, c21, c22, c23, c24, c25, c26, c27, c28, .inr (2, [.ref 30, .int 0, .ref 31, .null, .null, .int 0]), z_zi 120, z_zi 121] (none, [c0, c1, c2, c3, c4, c5, c6, c7, c8, c9, c10, c11, c12, c13, c14, c15, c16, c17, c18, c19, c20, c21, c22, c23, c24, c25, c26, c27, c28, .inr (2, [.ref 30, .int 0, .ref 31, .ref 32, .ref 33, .int 0]), z_zi 120, z_zi 121, z_zi 121, z_zi 121])
  refine us rfl rfl rfl ?_
  refine us rfl rfl rfl ?_
  refine us rfl rfl rfl ?_
  refine us rfl rfl rfl ?_
  show zU X 31 33 [(0, .ref 29)] [] [c0, c1, c2, c3, c4, c5, c6, c7, c8, c9, c10, c11, c12, c13, c14, c15, c16, c17, c18, c19, c20, c21, c22, c23, c24, c25, c26, c27, c28, .inr (2, [.ref 30, .int 0, .ref 31, .ref 32, .null, .int 0]), z_zi 120, z_zi 121, z_zi 121] (none, [c0, c1, c2, c3, c4, c5, c6, c7, c8, c9, c10, c11, c12, c13, c14, c15, c16, c17, c18, c19, c20, c21, c22, c23, c24, c25, c26, c27, c28, .inr (2, [.ref 30, .int 0, .ref 31, .ref 32, .ref 33, .int 0]), z_zi 120, z_zi 121, z_zi 121, z_zi 121])
  refine us rfl rfl rfl ?_
  refine us rfl rfl rfl ?_
  refine us rfl rfl rfl ?_
  refine us rfl rfl rfl ?_
  show zU X 31 41 [(0, .ref 29)] [] [c0, c1, c2, c3, c4, c5, c6, c7, c8, c9, c10, c11, c12, c13, c14, c15, c16, c17, c18, c19, c20, c21, c22, c23, c24, c25, c26, c27, c28, .inr (2, [.ref 30, .int 0, .ref 31, .ref 32, .ref 33, .int 0]), z_zi 120, z_zi 121, z_zi 121, z_zi 121] (none, [c0, c1, c2, c3, c4, c5, c6, c7, c8, c9, c10, c11, c12, c13, c14, c15, c16, c17, c18, c19, c20, c21, c22, c23, c24, c25, c26, c27, c28, .inr (2, [.ref 30, .int 0, .ref 31, .ref 32, .ref 33, .int 0]), z_zi 120, z_zi 121, z_zi 121, z_zi 121])
  refine us rfl rfl rfl ?_
  refine us rfl rfl rfl ?_
  refine us rfl rfl rfl ?_
  show zU X 31 46 [(0, .ref 29)] [] [c0, c1, c2, c3, c4, c5, c6, c7, c8, c9, c10, c11, c12, c13, c14, c15, c16, c17, c18, c19, c20, c21, c22, c23, c24, c25, c26, c27, c28, .inr (2, [.ref 30, .int 0, .ref 31, .ref 32, .ref 33, .int 0]), z_zi 120, z_zi 121, z_zi 121, z_zi 121] (none, [c0, c1, c2, c3, c4, c5, c6, c7, c8, c9, c10, c11, c12, c13, c14, c15, c16, c17, c18, c19, c20, c21, c22, c23, c24, c25, c26, c27, c28, .inr (2, [.ref 30, .int 0, .ref 31, .ref 32, .ref 33, .int 0]), z_zi 120, z_zi 121, z_zi 121, z_zi 121])
  exact ur rfl rfl
theorem st_teller {c0 c1 c2 c3 c4 c5 c6 c7 c8 c9 c10 c11 c12 c13 c14 c15 c16 c17 c18 c19 c20 c21 c22 c23 c24 c25 c26 c27 : zC} : zU X 43 0 [(0, .ref 28)] [] [c0, c1, c2, c3, c4, c5, c6, c7, c8, c9, c10, c11, c12, c13, c14, c15, c16, c17, c18, c19, c20, c21, c22, c23, c24, c25, c26, c27, .inr (3, [.null, .int 0, .int 0])] (none, [c0, c1, c2, c3, c4, c5, c6, c7, c8, c9, c10, c11, c12, c13, c14, c15, c16, c17, c18, c19, c20, c21, c22, c23, c24, c25, c26, c27, .inr (3, [.ref 29, .int 0, .int 0]), .inr (2, [.ref 30, .int 0, .ref 31, .ref 32, .ref 33, .int 0]), z_zi 120, z_zi 121, z_zi 121, z_zi 121]) := by
  refine us rfl rfl rfl ?_
  refine us rfl rfl rfl ?_
  refine us rfl rfl rfl ?_
  refine us rfl rfl rfl ?_
  refine us rfl rfl rfl ?_
  refine uc rfl rfl st_tape ?_
  show zU X 43 12 [(0, .ref 28)] [.ref 29, .ref 28] [c0, c1, c2, c3, c4, c5, c6, c7, c8, c9, c10, c11, c12, c13, c14, c15, c16, c17, c18, c19, c20, c21, c22, c23, c24, c25, c26, c27, .inr (3, [.null, .int 0, .int 0]), .inr (2, [.ref 30, .int 0, .ref 31, .ref 32, .ref 33, .int 0]), z_zi 120, z_zi 121, z_zi 121, z_zi 121] (none, [c0, c1, c2, c3, c4, c5, c6, c7, c8, c9, c10, c11, c12, c13, c14, c15, c16, c17, c18, c19, c20, c21, c22, c23, c24, c25, c26, c27, .inr (3, [.ref 29, .int 0, .int 0]), .inr (2, [.ref 30, .int 0, .ref 31, .ref 32, .ref 33, .int 0]), z_zi 120, z_zi 121, z_zi 121, z_zi 121])
  refine us rfl rfl rfl ?_
  show zU X 43 15 [(0, .ref 28)] [] [c0, c1, c2, c3, c4, c5, c6, c7, c8, c9, c10, c11, c12, c13, c14, c15, c16, c17, c18, c19, c20, c21, c22, c23, c24, c25, c26, c27, .inr (3, [.ref 29, .int 0, .int 0]), .inr (2, [.ref 30, .int 0, .ref 31, .ref 32, .ref 33, .int 0]), z_zi 120, z_zi 121, z_zi 121, z_zi 121] (none, [c0, c1, c2, c3, c4, c5, c6, c7, c8, c9, c10, c11, c12, c13, c14, c15, c16, c17, c18, c19, c20, c21, c22, c23, c24, c25, c26, c27, .inr (3, [.ref 29, .int 0, .int 0]), .inr (2, [.ref 30, .int 0, .ref 31, .ref 32, .ref 33, .int 0]), z_zi 120, z_zi 121, z_zi 121, z_zi 121])
  refine us rfl rfl rfl ?_
  refine us rfl rfl rfl ?_
  refine us rfl rfl rfl ?_
  refine us rfl rfl rfl ?_
  refine us rfl rfl rfl ?_
  refine us rfl rfl rfl ?_
  show zU X 43 25 [(0, .ref 28)] [] [c0, c1, c2, c3, c4, c5, c6, c7, c8, c9, c10, c11, c12, c13, c14, c15, c16, c17, c18, c19, c20, c21, c22, c23, c24, c25, c26, c27, .inr (3, [.ref 29, .int 0, .int 0]), .inr (2, [.ref 30, .int 0, .ref 31, .ref 32, .ref 33, .int 0]), z_zi 120, z_zi 121, z_zi 121, z_zi 121] (none, [c0, c1, c2, c3, c4, c5, c6, c7, c8, c9, c10, c11, c12, c13, c14, c15, c16, c17, c18, c19, c20, c21, c22, c23, c24, c25, c26, c27, .inr (3, [.ref 29, .int 0, .int 0]), .inr (2, [.ref 30, .int 0, .ref 31, .ref 32, .ref 33, .int 0]), z_zi 120, z_zi 121, z_zi 121, z_zi 121])
  exact ur rfl rfl
theorem st_class : zU X 55 0 [(0, .ref 0)] [] [.inr (4, [.null, .null, .null, .null, .null, .null, .int 0])] (none, [.inr (4, [.ref 1, .ref 10, .ref 19, .ref 28, .ref 34, .ref 35, .int 0]), .inr (0, [.ref 2, .ref 3, .ref 4, .ref 5, .ref 6, .ref 7, .ref 8, .ref 9, .int 0, .int 0, .int 0]), .inl (6, .inl (z_fu 6 100)), .inl (13, .inl (z_fu 13 1)), z_zi 12, z_zi 12, z_zi 12, z_zi 12, z_zi 12, z_zi 12, .inr (0, [.ref 11, .ref 12, .ref 13, .ref 14, .ref 15, .ref 16, .ref 17, .ref 18, .int 0, .int 0, .int 0]), .inl (6, .inl (z_fu 6 100)), .inl (13, .inl (z_fu 13 1)), z_zi 12, z_zi 12, z_zi 12, z_zi 12, z_zi 12, z_zi 12, .inr (0, [.ref 20, .ref 21, .ref 22, .ref 23, .ref 24, .ref 25, .ref 26, .ref 27, .int 0, .int 0, .int 0]), .inl (6, .inl (z_fu 6 100)), .inl (13, .inl (z_fu 13 1)), z_zi 12, z_zi 12, z_zi 12, z_zi 12, z_zi 12, z_zi 12, .inr (3, [.ref 29, .int 0, .int 0]), .inr (2, [.ref 30, .int 0, .ref 31, .ref 32, .ref 33, .int 0]), z_zi 120, z_zi 121, z_zi 121, z_zi 121, .inl (4, .inr (.inr (z_sh 4))), z_zi 7, .inr (1, [.ref 37, .int 0, .int 0]), z_zl 40, .inr (1, [.ref 39, .int 0, .int 0]), z_zl 40, .inr (1, [.ref 41, .int 0, .int 0]), z_zl 40, .inr (1, [.ref 43, .int 0, .int 0]), z_zl 40]) := by
  refine us rfl rfl rfl ?_
  refine us rfl rfl rfl ?_
  refine us rfl rfl rfl ?_
  refine us rfl rfl rfl ?_
  refine us rfl rfl rfl ?_
  refine uc rfl rfl st_road_1 ?_
  show zU X 55 12 [(0, .ref 0)] [.ref 1, .ref 0] [.inr (4, [.null, .null, .null, .null, .null, .null, .int 0]), .inr (0, [.ref 2, .ref 3, .ref 4, .ref 5, .ref 6, .ref 7, .ref 8, .ref 9, .int 0, .int 0, .int 0]), .inl (6, .inl (z_fu 6 100)), .inl (13, .inl (z_fu 13 1)), z_zi 12, z_zi 12, z_zi 12, z_zi 12, z_zi 12, z_zi 12] (none, [.inr (4, [.ref 1, .ref 10, .ref 19, .ref 28, .ref 34, .ref 35, .int 0]), .inr (0, [.ref 2, .ref 3, .ref 4, .ref 5, .ref 6, .ref 7, .ref 8, .ref 9, .int 0, .int 0, .int 0]), .inl (6, .inl (z_fu 6 100)), .inl (13, .inl (z_fu 13 1)), z_zi 12, z_zi 12, z_zi 12, z_zi 12, z_zi 12, z_zi 12, .inr (0, [.ref 11, .ref 12, .ref 13, .ref 14, .ref 15, .ref 16, .ref 17, .ref 18, .int 0, .int 0, .int 0]), .inl (6, .inl (z_fu 6 100)), .inl (13, .inl (z_fu 13 1)), z_zi 12, z_zi 12, z_zi 12, z_zi 12, z_zi 12, z_zi 12, .inr (0, [.ref 20, .ref 21, .ref 22, .ref 23, .ref 24, .ref 25, .ref 26, .ref 27, .int 0, .int 0, .int 0]), .inl (6, .inl (z_fu 6 100)), .inl (13, .inl (z_fu 13 1)), z_zi 12, z_zi 12, z_zi 12, z_zi 12, z_zi 12, z_zi 12, .inr (3, [.ref 29, .int 0, .int 0]), .inr (2, [.ref 30, .int 0, .ref 31, .ref 32, .ref 33, .int 0]), z_zi 120, z_zi 121, z_zi 121, z_zi 121, .inl (4, .inr (.inr (z_sh 4))), z_zi 7, .inr (1, [.ref 37, .int 0, .int 0]), z_zl 40, .inr (1, [.ref 39, .int 0, .int 0]), z_zl 40, .inr (1, [.ref 41, .int 0, .int 0]), z_zl 40, .inr (1, [.ref 43, .int 0, .int 0]), z_zl 40])
  refine us rfl rfl rfl ?_
  show zU X 55 15 [(0, .ref 0)] [] [.inr (4, [.ref 1, .null, .null, .null, .null, .null, .int 0]), .inr (0, [.ref 2, .ref 3, .ref 4, .ref 5, .ref 6, .ref 7, .ref 8, .ref 9, .int 0, .int 0, .int 0]), .inl (6, .inl (z_fu 6 100)), .inl (13, .inl (z_fu 13 1)), z_zi 12, z_zi 12, z_zi 12, z_zi 12, z_zi 12, z_zi 12] (none, [.inr (4, [.ref 1, .ref 10, .ref 19, .ref 28, .ref 34, .ref 35, .int 0]), .inr (0, [.ref 2, .ref 3, .ref 4, .ref 5, .ref 6, .ref 7, .ref 8, .ref 9, .int 0, .int 0, .int 0]), .inl (6, .inl (z_fu 6 100)), .inl (13, .inl (z_fu 13 1)), z_zi 12, z_zi 12, z_zi 12, z_zi 12, z_zi 12, z_zi 12, .inr (0, [.ref 11, .ref 12, .ref 13, .ref 14, .ref 15, .ref 16, .ref 17, .ref 18, .int 0, .int 0, .int 0]), .inl (6, .inl (z_fu 6 100)), .inl (13, .inl (z_fu 13 1)), z_zi 12, z_zi 12, z_zi 12, z_zi 12, z_zi 12, z_zi 12, .inr (0, [.ref 20, .ref 21, .ref 22, .ref 23, .ref 24, .ref 25, .ref 26, .ref 27, .int 0, .int 0, .int 0]), .inl (6, .inl (z_fu 6 100)), .inl (13, .inl (z_fu 13 1)), z_zi 12, z_zi 12, z_zi 12, z_zi 12, z_zi 12, z_zi 12, .inr (3, [.ref 29, .int 0, .int 0]), .inr (2, [.ref 30, .int 0, .ref 31, .ref 32, .ref 33, .int 0]), z_zi 120, z_zi 121, z_zi 121, z_zi 121, .inl (4, .inr (.inr (z_sh 4))), z_zi 7, .inr (1, [.ref 37, .int 0, .int 0]), z_zl 40, .inr (1, [.ref 39, .int 0, .int 0]), z_zl 40, .inr (1, [.ref 41, .int 0, .int 0]), z_zl 40, .inr (1, [.ref 43, .int 0, .int 0]), z_zl 40])
  refine us rfl rfl rfl ?_
  refine us rfl rfl rfl ?_
  refine us rfl rfl rfl ?_
  refine uc rfl rfl st_road_10 ?_
  show zU X 55 23 [(0, .ref 0)] [.ref 10, .ref 0] [.inr (4, [.ref 1, .null, .null, .null, .null, .null, .int 0]), .inr (0, [.ref 2, .ref 3, .ref 4, .ref 5, .ref 6, .ref 7, .ref 8, .ref 9, .int 0, .int 0, .int 0]), .inl (6, .inl (z_fu 6 100)), .inl (13, .inl (z_fu 13 1)), z_zi 12, z_zi 12, z_zi 12, z_zi 12, z_zi 12, z_zi 12, .inr (0, [.ref 11, .ref 12, .ref 13, .ref 14, .ref 15, .ref 16, .ref 17, .ref 18, .int 0, .int 0, .int 0]), .inl (6, .inl (z_fu 6 100)), .inl (13, .inl (z_fu 13 1)), z_zi 12, z_zi 12, z_zi 12, z_zi 12, z_zi 12, z_zi 12] (none, [.inr (4, [.ref 1, .ref 10, .ref 19, .ref 28, .ref 34, .ref 35, .int 0]), .inr (0, [.ref 2, .ref 3, .ref 4, .ref 5, .ref 6, .ref 7, .ref 8, .ref 9, .int 0, .int 0, .int 0]), .inl (6, .inl (z_fu 6 100)), .inl (13, .inl (z_fu 13 1)), z_zi 12, z_zi 12, z_zi 12, z_zi 12, z_zi 12, z_zi 12, .inr (0, [.ref 11, .ref 12, .ref 13, .ref 14, .ref 15, .ref 16, .ref 17, .ref 18, .int 0, .int 0, .int 0]), .inl (6, .inl (z_fu 6 100)), .inl (13, .inl (z_fu 13 1)), z_zi 12, z_zi 12, z_zi 12, z_zi 12, z_zi 12, z_zi 12, .inr (0, [.ref 20, .ref 21, .ref 22, .ref 23, .ref 24, .ref 25, .ref 26, .ref 27, .int 0, .int 0, .int 0]), .inl (6, .inl (z_fu 6 100)), .inl (13, .inl (z_fu 13 1)), z_zi 12, z_zi 12, z_zi 12, z_zi 12, z_zi 12, z_zi 12, .inr (3, [.ref 29, .int 0, .int 0]), .inr (2, [.ref 30, .int 0, .ref 31, .ref 32, .ref 33, .int 0]), z_zi 120, z_zi 121, z_zi 121, z_zi 121, .inl (4, .inr (.inr (z_sh 4))), z_zi 7, .inr (1, [.ref 37, .int 0, .int 0]), z_zl 40, .inr (1, [.ref 39, .int 0, .int 0]), z_zl 40, .inr (1, [.ref 41, .int 0, .int 0]), z_zl 40, .inr (1, [.ref 43, .int 0, .int 0]), z_zl 40])
  refine us rfl rfl rfl ?_
  show zU X 55 26 [(0, .ref 0)] [] [.inr (4, [.ref 1, .ref 10, .null, .null, .null, .null, .int 0]), .inr (0, [.ref 2, .ref 3, .ref 4, .ref 5, .ref 6, .ref 7, .ref 8, .ref 9, .int 0, .int 0, .int 0]), .inl (6, .inl (z_fu 6 100)), .inl (13, .inl (z_fu 13 1)), z_zi 12, z_zi 12, z_zi 12, z_zi 12, z_zi 12, z_zi 12, .inr (0, [.ref 11, .ref 12, .ref 13, .ref 14, .ref 15, .ref 16, .ref 17, .ref 18, .int 0, .int 0, .int 0]), .inl (6, .inl (z_fu 6 100)), .inl (13, .inl (z_fu 13 1)), z_zi 12, z_zi 12, z_zi 12, z_zi 12, z_zi 12, z_zi 12] (none, [.inr (4, [.ref 1, .ref 10, .ref 19, .ref 28, .ref 34, .ref 35, .int 0]), .inr (0, [.ref 2, .ref 3, .ref 4, .ref 5, .ref 6, .ref 7, .ref 8, .ref 9, .int 0, .int 0, .int 0]), .inl (6, .inl (z_fu 6 100)), .inl (13, .inl (z_fu 13 1)), z_zi 12, z_zi 12, z_zi 12, z_zi 12, z_zi 12, z_zi 12, .inr (0, [.ref 11, .ref 12, .ref 13, .ref 14, .ref 15, .ref 16, .ref 17, .ref 18, .int 0, .int 0, .int 0]), .inl (6, .inl (z_fu 6 100)), .inl (13, .inl (z_fu 13 1)), z_zi 12, z_zi 12, z_zi 12, z_zi 12, z_zi 12, z_zi 12, .inr (0, [.ref 20, .ref 21, .ref 22, .ref 23, .ref 24, .ref 25, .ref 26, .ref 27, .int 0, .int 0, .int 0]), .inl (6, .inl (z_fu 6 100)), .inl (13, .inl (z_fu 13 1)), z_zi 12, z_zi 12, z_zi 12, z_zi 12, z_zi 12, z_zi 12, .inr (3, [.ref 29, .int 0, .int 0]), .inr (2, [.ref 30, .int 0, .ref 31, .ref 32, .ref 33, .int 0]), z_zi 120, z_zi 121, z_zi 121, z_zi 121, .inl (4, .inr (.inr (z_sh 4))), z_zi 7, .inr (1, [.ref 37, .int 0, .int 0]), z_zl 40, .inr (1, [.ref 39, .int 0, .int 0]), z_zl 40, .inr (1, [.ref 41, .int 0, .int 0]), z_zl 40, .inr (1, [.ref 43, .int 0, .int 0]), z_zl 40])
  refine us rfl rfl rfl ?_
  refine us rfl rfl rfl ?_
  refine us rfl rfl rfl ?_
  refine uc rfl rfl st_road_19 ?_
  show zU X 55 34 [(0, .ref 0)] [.ref 19, .ref 0] [.inr (4, [.ref 1, .ref 10, .null, .null, .null, .null, .int 0]), .inr (0, [.ref 2, .ref 3, .ref 4, .ref 5, .ref 6, .ref 7, .ref 8, .ref 9, .int 0, .int 0, .int 0]), .inl (6, .inl (z_fu 6 100)), .inl (13, .inl (z_fu 13 1)), z_zi 12, z_zi 12, z_zi 12, z_zi 12, z_zi 12, z_zi 12, .inr (0, [.ref 11, .ref 12, .ref 13, .ref 14, .ref 15, .ref 16, .ref 17, .ref 18, .int 0, .int 0, .int 0]), .inl (6, .inl (z_fu 6 100)), .inl (13, .inl (z_fu 13 1)), z_zi 12, z_zi 12, z_zi 12, z_zi 12, z_zi 12, z_zi 12, .inr (0, [.ref 20, .ref 21, .ref 22, .ref 23, .ref 24, .ref 25, .ref 26, .ref 27, .int 0, .int 0, .int 0]), .inl (6, .inl (z_fu 6 100)), .inl (13, .inl (z_fu 13 1)), z_zi 12, z_zi 12, z_zi 12, z_zi 12, z_zi 12, z_zi 12] (none, [.inr (4, [.ref 1, .ref 10, .ref 19, .ref 28, .ref 34, .ref 35, .int 0]), .inr (0, [.ref 2, .ref 3, .ref 4, .ref 5, .ref 6, .ref 7, .ref 8, .ref 9, .int 0, .int 0, .int 0]), .inl (6, .inl (z_fu 6 100)), .inl (13, .inl (z_fu 13 1)), z_zi 12, z_zi 12, z_zi 12, z_zi 12, z_zi 12, z_zi 12, .inr (0, [.ref 11, .ref 12, .ref 13, .ref 14, .ref 15, .ref 16, .ref 17, .ref 18, .int 0, .int 0, .int 0]), .inl (6, .inl (z_fu 6 100)), .inl (13, .inl (z_fu 13 1)), z_zi 12, z_zi 12, z_zi 12, z_zi 12, z_zi 12, z_zi 12, .inr (0, [.ref 20, .ref 21, .ref 22, .ref 23, .ref 24, .ref 25, .ref 26, .ref 27, .int 0, .int 0, .int 0]), .inl (6, .inl (z_fu 6 100)), .inl (13, .inl (z_fu 13 1)), z_zi 12, z_zi 12, z_zi 12, z_zi 12, z_zi 12, z_zi 12, .inr (3, [.ref 29, .int 0, .int 0]), .inr (2, [.ref 30, .int 0, .ref 31, .ref 32, .ref 33, .int 0]), z_zi 120, z_zi 121, z_zi 121, z_zi 121, .inl (4, .inr (.inr (z_sh 4))), z_zi 7, .inr (1, [.ref 37, .int 0, .int 0]), z_zl 40, .inr (1, [.ref 39, .int 0, .int 0]), z_zl 40, .inr (1, [.ref 41, .int 0, .int 0]), z_zl 40, .inr (1, [.ref 43, .int 0, .int 0]), z_zl 40])
  refine us rfl rfl rfl ?_
  show zU X 55 37 [(0, .ref 0)] [] [.inr (4, [.ref 1, .ref 10, .ref 19, .null, .null, .null, .int 0]), .inr (0, [.ref 2, .ref 3, .ref 4, .ref 5, .ref 6, .ref 7, .ref 8, .ref 9, .int 0, .int 0, .int 0]), .inl (6, .inl (z_fu 6 100)), .inl (13, .inl (z_fu 13 1)), z_zi 12, z_zi 12, z_zi 12, z_zi 12, z_zi 12, z_zi 12, .inr (0, [.ref 11, .ref 12, .ref 13, .ref 14, .ref 15, .ref 16, .ref 17, .ref 18, .int 0, .int 0, .int 0]), .inl (6, .inl (z_fu 6 100)), .inl (13, .inl (z_fu 13 1)), z_zi 12, z_zi 12, z_zi 12, z_zi 12, z_zi 12, z_zi 12, .inr (0, [.ref 20, .ref 21, .ref 22, .ref 23, .ref 24, .ref 25, .ref 26, .ref 27, .int 0, .int 0, .int 0]), .inl (6, .inl (z_fu 6 100)), .inl (13, .inl (z_fu 13 1)), z_zi 12, z_zi 12, z_zi 12, z_zi 12, z_zi 12, z_zi 12] (none, [.inr (4, [.ref 1, .ref 10, .ref 19, .ref 28, .ref 34, .ref 35, .int 0]), .inr (0, [.ref 2, .ref 3, .ref 4, .ref 5, .ref 6, .ref 7, .ref 8, .ref 9, .int 0, .int 0, .int 0]), .inl (6, .inl (z_fu 6 100)), .inl (13, .inl (z_fu 13 1)), z_zi 12, z_zi 12, z_zi 12, z_zi 12, z_zi 12, z_zi 12, .inr (0, [.ref 11, .ref 12, .ref 13, .ref 14, .ref 15, .ref 16, .ref 17, .ref 18, .int 0, .int 0, .int 0]), .inl (6, .inl (z_fu 6 100)), .inl (13, .inl (z_fu 13 1)), z_zi 12, z_zi 12, z_zi 12, z_zi 12, z_zi 12, z_zi 12, .inr (0, [.ref 20, .ref 21, .ref 22, .ref 23, .ref 24, .ref 25, .ref 26, .ref 27, .int 0, .int 0, .int 0]), .inl (6, .inl (z_fu 6 100)), .inl (13, .inl (z_fu 13 1)), z_zi 12, z_zi 12, z_zi 12, z_zi 12, z_zi 12, z_zi 12, .inr (3, [.ref 29, .int 0, .int 0]), .inr (2, [.ref 30, .int 0, .ref 31, .ref 32, .ref 33, .int 0]), z_zi 120, z_zi 121, z_zi 121, z_zi 121, .inl (4, .inr (.inr (z_sh 4))), z_zi 7, .inr (1, [.ref 37, .int 0, .int 0]), z_zl 40, .inr (1, [.ref 39, .int 0, .int 0]), z_zl 40, .inr (1, [.ref 41, .int 0, .int 0]), z_zl 40, .inr (1, [.ref 43, .int 0, .int 0]), z_zl 40])
  refine us rfl rfl rfl ?_
  refine us rfl rfl rfl ?_
  refine us rfl rfl rfl ?_
  refine uc rfl rfl st_teller ?_
  show zU X 55 45 [(0, .ref 0)] [.ref 28, .ref 0] [.inr (4, [.ref 1, .ref 10, .ref 19, .null, .null, .null, .int 0]), .inr (0, [.ref 2, .ref 3, .ref 4, .ref 5, .ref 6, .ref 7, .ref 8, .ref 9, .int 0, .int 0, .int 0]), .inl (6, .inl (z_fu 6 100)), .inl (13, .inl (z_fu 13 1)), z_zi 12, z_zi 12, z_zi 12, z_zi 12, z_zi 12, z_zi 12, .inr (0, [.ref 11, .ref 12, .ref 13, .ref 14, .ref 15, .ref 16, .ref 17, .ref 18, .int 0, .int 0, .int 0]), .inl (6, .inl (z_fu 6 100)), .inl (13, .inl (z_fu 13 1)), z_zi 12, z_zi 12, z_zi 12, z_zi 12, z_zi 12, z_zi 12, .inr (0, [.ref 20, .ref 21, .ref 22, .ref 23, .ref 24, .ref 25, .ref 26, .ref 27, .int 0, .int 0, .int 0]), .inl (6, .inl (z_fu 6 100)), .inl (13, .inl (z_fu 13 1)), z_zi 12, z_zi 12, z_zi 12, z_zi 12, z_zi 12, z_zi 12, .inr (3, [.ref 29, .int 0, .int 0]), .inr (2, [.ref 30, .int 0, .ref 31, .ref 32, .ref 33, .int 0]), z_zi 120, z_zi 121, z_zi 121, z_zi 121] (none, [.inr (4, [.ref 1, .ref 10, .ref 19, .ref 28, .ref 34, .ref 35, .int 0]), .inr (0, [.ref 2, .ref 3, .ref 4, .ref 5, .ref 6, .ref 7, .ref 8, .ref 9, .int 0, .int 0, .int 0]), .inl (6, .inl (z_fu 6 100)), .inl (13, .inl (z_fu 13 1)), z_zi 12, z_zi 12, z_zi 12, z_zi 12, z_zi 12, z_zi 12, .inr (0, [.ref 11, .ref 12, .ref 13, .ref 14, .ref 15, .ref 16, .ref 17, .ref 18, .int 0, .int 0, .int 0]), .inl (6, .inl (z_fu 6 100)), .inl (13, .inl (z_fu 13 1)), z_zi 12, z_zi 12, z_zi 12, z_zi 12, z_zi 12, z_zi 12, .inr (0, [.ref 20, .ref 21, .ref 22, .ref 23, .ref 24, .ref 25, .ref 26, .ref 27, .int 0, .int 0, .int 0]), .inl (6, .inl (z_fu 6 100)), .inl (13, .inl (z_fu 13 1)), z_zi 12, z_zi 12, z_zi 12, z_zi 12, z_zi 12, z_zi 12, .inr (3, [.ref 29, .int 0, .int 0]), .inr (2, [.ref 30, .int 0, .ref 31, .ref 32, .ref 33, .int 0]), z_zi 120, z_zi 121, z_zi 121, z_zi 121, .inl (4, .inr (.inr (z_sh 4))), z_zi 7, .inr (1, [.ref 37, .int 0, .int 0]), z_zl 40, .inr (1, [.ref 39, .int 0, .int 0]), z_zl 40, .inr (1, [.ref 41, .int 0, .int 0]), z_zl 40, .inr (1, [.ref 43, .int 0, .int 0]), z_zl 40])
  refine us rfl rfl rfl ?_
  show zU X 55 48 [(0, .ref 0)] [] [.inr (4, [.ref 1, .ref 10, .ref 19, .ref 28, .null, .null, .int 0]), .inr (0, [.ref 2, .ref 3, .ref 4, .ref 5, .ref 6, .ref 7, .ref 8, .ref 9, .int 0, .int 0, .int 0]), .inl (6, .inl (z_fu 6 100)), .inl (13, .inl (z_fu 13 1)), z_zi 12, z_zi 12, z_zi 12, z_zi 12, z_zi 12, z_zi 12, .inr (0, [.ref 11, .ref 12, .ref 13, .ref 14, .ref 15, .ref 16, .ref 17, .ref 18, .int 0, .int 0, .int 0]), .inl (6, .inl (z_fu 6 100)), .inl (13, .inl (z_fu 13 1)), z_zi 12, z_zi 12, z_zi 12, z_zi 12, z_zi 12, z_zi 12, .inr (0, [.ref 20, .ref 21, .ref 22, .ref 23, .ref 24, .ref 25, .ref 26, .ref 27, .int 0, .int 0, .int 0]), .inl (6, .inl (z_fu 6 100)), .inl (13, .inl (z_fu 13 1)), z_zi 12, z_zi 12, z_zi 12, z_zi 12, z_zi 12, z_zi 12, .inr (3, [.ref 29, .int 0, .int 0]), .inr (2, [.ref 30, .int 0, .ref 31, .ref 32, .ref 33, .int 0]), z_zi 120, z_zi 121, z_zi 121, z_zi 121] (none, [.inr (4, [.ref 1, .ref 10, .ref 19, .ref 28, .ref 34, .ref 35, .int 0]), .inr (0, [.ref 2, .ref 3, .ref 4, .ref 5, .ref 6, .ref 7, .ref 8, .ref 9, .int 0, .int 0, .int 0]), .inl (6, .inl (z_fu 6 100)), .inl (13, .inl (z_fu 13 1)), z_zi 12, z_zi 12, z_zi 12, z_zi 12, z_zi 12, z_zi 12, .inr (0, [.ref 11, .ref 12, .ref 13, .ref 14, .ref 15, .ref 16, .ref 17, .ref 18, .int 0, .int 0, .int 0]), .inl (6, .inl (z_fu 6 100)), .inl (13, .inl (z_fu 13 1)), z_zi 12, z_zi 12, z_zi 12, z_zi 12, z_zi 12, z_zi 12, .inr (0, [.ref 20, .ref 21, .ref 22, .ref 23, .ref 24, .ref 25, .ref 26, .ref 27, .int 0, .int 0, .int 0]), .inl (6, .inl (z_fu 6 100)), .inl (13, .inl (z_fu 13 1)), z_zi 12, z_zi 12, z_zi 12, z_zi 12, z_zi 12, z_zi 12, .inr (3, [.ref 29, .int 0, .int 0]), .inr (2, [.ref 30, .int 0, .ref 31, .ref 32, .ref 33, .int 0]), z_zi 120, z_zi 121, z_zi 121, z_zi 121, .inl (4, .inr (.inr (z_sh 4))), z_zi 7, .inr (1, [.ref 37, .int 0, .int 0]), z_zl 40, .inr (1, [.ref 39, .int 0, .int 0]), z_zl 40, .inr (1, [.ref 41, .int 0, .int 0]), z_zl 40, .inr (1, [.ref 43, .int 0, .int 0]), z_zl 40])
  refine us rfl rfl rfl ?_
  refine us rfl rfl rfl ?_
  refine us rfl rfl rfl ?_
  refine us rfl rfl rfl ?_
  show zU X 55 56 [(0, .ref 0)] [] [.inr (4, [.ref 1, .ref 10, .ref 19, .ref 28, .ref 34, .null, .int 0]), .inr (0, [.ref 2, .ref 3, .ref 4, .ref 5, .ref 6, .ref 7, .ref 8, .ref 9, .int 0, .int 0, .int 0]), .inl (6, .inl (z_fu 6 100)), .inl (13, .inl (z_fu 13 1)), z_zi 12, z_zi 12, z_zi 12, z_zi 12, z_zi 12, z_zi 12, .inr (0, [.ref 11, .ref 12, .ref 13, .ref 14, .ref 15, .ref 16, .ref 17, .ref 18, .int 0, .int 0, .int 0]), .inl (6, .inl (z_fu 6 100)), .inl (13, .inl (z_fu 13 1)), z_zi 12, z_zi 12, z_zi 12, z_zi 12, z_zi 12, z_zi 12, .inr (0, [.ref 20, .ref 21, .ref 22, .ref 23, .ref 24, .ref 25, .ref 26, .ref 27, .int 0, .int 0, .int 0]), .inl (6, .inl (z_fu 6 100)), .inl (13, .inl (z_fu 13 1)), z_zi 12, z_zi 12, z_zi 12, z_zi 12, z_zi 12, z_zi 12, .inr (3, [.ref 29, .int 0, .int 0]), .inr (2, [.ref 30, .int 0, .ref 31, .ref 32, .ref 33, .int 0]), z_zi 120, z_zi 121, z_zi 121, z_zi 121, .inl (4, .inr (.inr (z_sh 0)))] (none, [.inr (4, [.ref 1, .ref 10, .ref 19, .ref 28, .ref 34, .ref 35, .int 0]), .inr (0, [.ref 2, .ref 3, .ref 4, .ref 5, .ref 6, .ref 7, .ref 8, .ref 9, .int 0, .int 0, .int 0]), .inl (6, .inl (z_fu 6 100)), .inl (13, .inl (z_fu 13 1)), z_zi 12, z_zi 12, z_zi 12, z_zi 12, z_zi 12, z_zi 12, .inr (0, [.ref 11, .ref 12, .ref 13, .ref 14, .ref 15, .ref 16, .ref 17, .ref 18, .int 0, .int 0, .int 0]), .inl (6, .inl (z_fu 6 100)), .inl (13, .inl (z_fu 13 1)), z_zi 12, z_zi 12, z_zi 12, z_zi 12, z_zi 12, z_zi 12, .inr (0, [.ref 20, .ref 21, .ref 22, .ref 23, .ref 24, .ref 25, .ref 26, .ref 27, .int 0, .int 0, .int 0]), .inl (6, .inl (z_fu 6 100)), .inl (13, .inl (z_fu 13 1)), z_zi 12, z_zi 12, z_zi 12, z_zi 12, z_zi 12, z_zi 12, .inr (3, [.ref 29, .int 0, .int 0]), .inr (2, [.ref 30, .int 0, .ref 31, .ref 32, .ref 33, .int 0]), z_zi 120, z_zi 121, z_zi 121, z_zi 121, .inl (4, .inr (.inr (z_sh 4))), z_zi 7, .inr (1, [.ref 37, .int 0, .int 0]), z_zl 40, .inr (1, [.ref 39, .int 0, .int 0]), z_zl 40, .inr (1, [.ref 41, .int 0, .int 0]), z_zl 40, .inr (1, [.ref 43, .int 0, .int 0]), z_zl 40])
  refine us rfl rfl rfl ?_
  refine us rfl rfl rfl ?_
  refine us rfl rfl rfl ?_
  refine us rfl rfl rfl ?_
  show zU X 55 64 [(0, .ref 0)] [] [.inr (4, [.ref 1, .ref 10, .ref 19, .ref 28, .ref 34, .ref 35, .int 0]), .inr (0, [.ref 2, .ref 3, .ref 4, .ref 5, .ref 6, .ref 7, .ref 8, .ref 9, .int 0, .int 0, .int 0]), .inl (6, .inl (z_fu 6 100)), .inl (13, .inl (z_fu 13 1)), z_zi 12, z_zi 12, z_zi 12, z_zi 12, z_zi 12, z_zi 12, .inr (0, [.ref 11, .ref 12, .ref 13, .ref 14, .ref 15, .ref 16, .ref 17, .ref 18, .int 0, .int 0, .int 0]), .inl (6, .inl (z_fu 6 100)), .inl (13, .inl (z_fu 13 1)), z_zi 12, z_zi 12, z_zi 12, z_zi 12, z_zi 12, z_zi 12, .inr (0, [.ref 20, .ref 21, .ref 22, .ref 23, .ref 24, .ref 25, .ref 26, .ref 27, .int 0, .int 0, .int 0]), .inl (6, .inl (z_fu 6 100)), .inl (13, .inl (z_fu 13 1)), z_zi 12, z_zi 12, z_zi 12, z_zi 12, z_zi 12, z_zi 12, .inr (3, [.ref 29, .int 0, .int 0]), .inr (2, [.ref 30, .int 0, .ref 31, .ref 32, .ref 33, .int 0]), z_zi 120, z_zi 121, z_zi 121, z_zi 121, .inl (4, .inr (.inr (z_sh 0))), z_zi 7] (none, [.inr (4, [.ref 1, .ref 10, .ref 19, .ref 28, .ref 34, .ref 35, .int 0]), .inr (0, [.ref 2, .ref 3, .ref 4, .ref 5, .ref 6, .ref 7, .ref 8, .ref 9, .int 0, .int 0, .int 0]), .inl (6, .inl (z_fu 6 100)), .inl (13, .inl (z_fu 13 1)), z_zi 12, z_zi 12, z_zi 12, z_zi 12, z_zi 12, z_zi 12, .inr (0, [.ref 11, .ref 12, .ref 13, .ref 14, .ref 15, .ref 16, .ref 17, .ref 18, .int 0, .int 0, .int 0]), .inl (6, .inl (z_fu 6 100)), .inl (13, .inl (z_fu 13 1)), z_zi 12, z_zi 12, z_zi 12, z_zi 12, z_zi 12, z_zi 12, .inr (0, [.ref 20, .ref 21, .ref 22, .ref 23, .ref 24, .ref 25, .ref 26, .ref 27, .int 0, .int 0, .int 0]), .inl (6, .inl (z_fu 6 100)), .inl (13, .inl (z_fu 13 1)), z_zi 12, z_zi 12, z_zi 12, z_zi 12, z_zi 12, z_zi 12, .inr (3, [.ref 29, .int 0, .int 0]), .inr (2, [.ref 30, .int 0, .ref 31, .ref 32, .ref 33, .int 0]), z_zi 120, z_zi 121, z_zi 121, z_zi 121, .inl (4, .inr (.inr (z_sh 4))), z_zi 7, .inr (1, [.ref 37, .int 0, .int 0]), z_zl 40, .inr (1, [.ref 39, .int 0, .int 0]), z_zl 40, .inr (1, [.ref 41, .int 0, .int 0]), z_zl 40, .inr (1, [.ref 43, .int 0, .int 0]), z_zl 40])
  refine us rfl rfl rfl ?_
  refine us rfl rfl rfl ?_
  refine us rfl rfl rfl ?_
  show zU X 55 69 [(0, .ref 0)] [] [.inr (4, [.ref 1, .ref 10, .ref 19, .ref 28, .ref 34, .ref 35, .int 0]), .inr (0, [.ref 2, .ref 3, .ref 4, .ref 5, .ref 6, .ref 7, .ref 8, .ref 9, .int 0, .int 0, .int 0]), .inl (6, .inl (z_fu 6 100)), .inl (13, .inl (z_fu 13 1)), z_zi 12, z_zi 12, z_zi 12, z_zi 12, z_zi 12, z_zi 12, .inr (0, [.ref 11, .ref 12, .ref 13, .ref 14, .ref 15, .ref 16, .ref 17, .ref 18, .int 0, .int 0, .int 0]), .inl (6, .inl (z_fu 6 100)), .inl (13, .inl (z_fu 13 1)), z_zi 12, z_zi 12, z_zi 12, z_zi 12, z_zi 12, z_zi 12, .inr (0, [.ref 20, .ref 21, .ref 22, .ref 23, .ref 24, .ref 25, .ref 26, .ref 27, .int 0, .int 0, .int 0]), .inl (6, .inl (z_fu 6 100)), .inl (13, .inl (z_fu 13 1)), z_zi 12, z_zi 12, z_zi 12, z_zi 12, z_zi 12, z_zi 12, .inr (3, [.ref 29, .int 0, .int 0]), .inr (2, [.ref 30, .int 0, .ref 31, .ref 32, .ref 33, .int 0]), z_zi 120, z_zi 121, z_zi 121, z_zi 121, .inl (4, .inr (.inr (z_sh 0))), z_zi 7] (none, [.inr (4, [.ref 1, .ref 10, .ref 19, .ref 28, .ref 34, .ref 35, .int 0]), .inr (0, [.ref 2, .ref 3, .ref 4, .ref 5, .ref 6, .ref 7, .ref 8, .ref 9, .int 0, .int 0, .int 0]), .inl (6, .inl (z_fu 6 100)), .inl (13, .inl (z_fu 13 1)), z_zi 12, z_zi 12, z_zi 12, z_zi 12, z_zi 12, z_zi 12, .inr (0, [.ref 11, .ref 12, .ref 13, .ref 14, .ref 15, .ref 16, .ref 17, .ref 18, .int 0, .int 0, .int 0]), .inl (6, .inl (z_fu 6 100)), .inl (13, .inl (z_fu 13 1)), z_zi 12, z_zi 12, z_zi 12, z_zi 12, z_zi 12, z_zi 12, .inr (0, [.ref 20, .ref 21, .ref 22, .ref 23, .ref 24, .ref 25, .ref 26, .ref 27, .int 0, .int 0, .int 0]), .inl (6, .inl (z_fu 6 100)), .inl (13, .inl (z_fu 13 1)), z_zi 12, z_zi 12, z_zi 12, z_zi 12, z_zi 12, z_zi 12, .inr (3, [.ref 29, .int 0, .int 0]), .inr (2, [.ref 30, .int 0, .ref 31, .ref 32, .ref 33, .int 0]), z_zi 120, z_zi 121, z_zi 121, z_zi 121, .inl (4, .inr (.inr (z_sh 4))), z_zi 7, .inr (1, [.ref 37, .int 0, .int 0]), z_zl 40, .inr (1, [.ref 39, .int 0, .int 0]), z_zl 40, .inr (1, [.ref 41, .int 0, .int 0]), z_zl 40, .inr (1, [.ref 43, .int 0, .int 0]), z_zl 40])
  refine us rfl rfl rfl ?_
  refine us rfl rfl rfl ?_
  show zU X 55 71 [(0, .ref 0), (1, .int 0)] [] [.inr (4, [.ref 1, .ref 10, .ref 19, .ref 28, .ref 34, .ref 35, .int 0]), .inr (0, [.ref 2, .ref 3, .ref 4, .ref 5, .ref 6, .ref 7, .ref 8, .ref 9, .int 0, .int 0, .int 0]), .inl (6, .inl (z_fu 6 100)), .inl (13, .inl (z_fu 13 1)), z_zi 12, z_zi 12, z_zi 12, z_zi 12, z_zi 12, z_zi 12, .inr (0, [.ref 11, .ref 12, .ref 13, .ref 14, .ref 15, .ref 16, .ref 17, .ref 18, .int 0, .int 0, .int 0]), .inl (6, .inl (z_fu 6 100)), .inl (13, .inl (z_fu 13 1)), z_zi 12, z_zi 12, z_zi 12, z_zi 12, z_zi 12, z_zi 12, .inr (0, [.ref 20, .ref 21, .ref 22, .ref 23, .ref 24, .ref 25, .ref 26, .ref 27, .int 0, .int 0, .int 0]), .inl (6, .inl (z_fu 6 100)), .inl (13, .inl (z_fu 13 1)), z_zi 12, z_zi 12, z_zi 12, z_zi 12, z_zi 12, z_zi 12, .inr (3, [.ref 29, .int 0, .int 0]), .inr (2, [.ref 30, .int 0, .ref 31, .ref 32, .ref 33, .int 0]), z_zi 120, z_zi 121, z_zi 121, z_zi 121, .inl (4, .inr (.inr (z_sh 0))), z_zi 7] (none, [.inr (4, [.ref 1, .ref 10, .ref 19, .ref 28, .ref 34, .ref 35, .int 0]), .inr (0, [.ref 2, .ref 3, .ref 4, .ref 5, .ref 6, .ref 7, .ref 8, .ref 9, .int 0, .int 0, .int 0]), .inl (6, .inl (z_fu 6 100)), .inl (13, .inl (z_fu 13 1)), z_zi 12, z_zi 12, z_zi 12, z_zi 12, z_zi 12, z_zi 12, .inr (0, [.ref 11, .ref 12, .ref 13, .ref 14, .ref 15, .ref 16, .ref 17, .ref 18, .int 0, .int 0, .int 0]), .inl (6, .inl (z_fu 6 100)), .inl (13, .inl (z_fu 13 1)), z_zi 12, z_zi 12, z_zi 12, z_zi 12, z_zi 12, z_zi 12, .inr (0, [.ref 20, .ref 21, .ref 22, .ref 23, .ref 24, .ref 25, .ref 26, .ref 27, .int 0, .int 0, .int 0]), .inl (6, .inl (z_fu 6 100)), .inl (13, .inl (z_fu 13 1)), z_zi 12, z_zi 12, z_zi 12, z_zi 12, z_zi 12, z_zi 12, .inr (3, [.ref 29, .int 0, .int 0]), .inr (2, [.ref 30, .int 0, .ref 31, .ref 32, .ref 33, .int 0]), z_zi 120, z_zi 121, z_zi 121, z_zi 121, .inl (4, .inr (.inr (z_sh 4))), z_zi 7, .inr (1, [.ref 37, .int 0, .int 0]), z_zl 40, .inr (1, [.ref 39, .int 0, .int 0]), z_zl 40, .inr (1, [.ref 41, .int 0, .int 0]), z_zl 40, .inr (1, [.ref 43, .int 0, .int 0]), z_zl 40])
  refine us rfl rfl rfl ?_
  refine us rfl rfl rfl ?_
  refine us rfl rfl rfl ?_
  refine us rfl rfl rfl ?_
  refine us rfl rfl rfl ?_
  refine us rfl rfl rfl ?_
  refine us rfl rfl rfl ?_
  refine us rfl rfl rfl ?_
  refine uc rfl rfl st_sheet_36 ?_
  show zU X 55 88 [(0, .ref 0), (1, .int 0)] [.ref 36, .int 0, .ref 34] [.inr (4, [.ref 1, .ref 10, .ref 19, .ref 28, .ref 34, .ref 35, .int 0]), .inr (0, [.ref 2, .ref 3, .ref 4, .ref 5, .ref 6, .ref 7, .ref 8, .ref 9, .int 0, .int 0, .int 0]), .inl (6, .inl (z_fu 6 100)), .inl (13, .inl (z_fu 13 1)), z_zi 12, z_zi 12, z_zi 12, z_zi 12, z_zi 12, z_zi 12, .inr (0, [.ref 11, .ref 12, .ref 13, .ref 14, .ref 15, .ref 16, .ref 17, .ref 18, .int 0, .int 0, .int 0]), .inl (6, .inl (z_fu 6 100)), .inl (13, .inl (z_fu 13 1)), z_zi 12, z_zi 12, z_zi 12, z_zi 12, z_zi 12, z_zi 12, .inr (0, [.ref 20, .ref 21, .ref 22, .ref 23, .ref 24, .ref 25, .ref 26, .ref 27, .int 0, .int 0, .int 0]), .inl (6, .inl (z_fu 6 100)), .inl (13, .inl (z_fu 13 1)), z_zi 12, z_zi 12, z_zi 12, z_zi 12, z_zi 12, z_zi 12, .inr (3, [.ref 29, .int 0, .int 0]), .inr (2, [.ref 30, .int 0, .ref 31, .ref 32, .ref 33, .int 0]), z_zi 120, z_zi 121, z_zi 121, z_zi 121, .inl (4, .inr (.inr (z_sh 0))), z_zi 7, .inr (1, [.ref 37, .int 0, .int 0]), z_zl 40] (none, [.inr (4, [.ref 1, .ref 10, .ref 19, .ref 28, .ref 34, .ref 35, .int 0]), .inr (0, [.ref 2, .ref 3, .ref 4, .ref 5, .ref 6, .ref 7, .ref 8, .ref 9, .int 0, .int 0, .int 0]), .inl (6, .inl (z_fu 6 100)), .inl (13, .inl (z_fu 13 1)), z_zi 12, z_zi 12, z_zi 12, z_zi 12, z_zi 12, z_zi 12, .inr (0, [.ref 11, .ref 12, .ref 13, .ref 14, .ref 15, .ref 16, .ref 17, .ref 18, .int 0, .int 0, .int 0]), .inl (6, .inl (z_fu 6 100)), .inl (13, .inl (z_fu 13 1)), z_zi 12, z_zi 12, z_zi 12, z_zi 12, z_zi 12, z_zi 12, .inr (0, [.ref 20, .ref 21, .ref 22, .ref 23, .ref 24, .ref 25, .ref 26, .ref 27, .int 0, .int 0, .int 0]), .inl (6, .inl (z_fu 6 100)), .inl (13, .inl (z_fu 13 1)), z_zi 12, z_zi 12, z_zi 12, z_zi 12, z_zi 12, z_zi 12, .inr (3, [.ref 29, .int 0, .int 0]), .inr (2, [.ref 30, .int 0, .ref 31, .ref 32, .ref 33, .int 0]), z_zi 120, z_zi 121, z_zi 121, z_zi 121, .inl (4, .inr (.inr (z_sh 4))), z_zi 7, .inr (1, [.ref 37, .int 0, .int 0]), z_zl 40, .inr (1, [.ref 39, .int 0, .int 0]), z_zl 40, .inr (1, [.ref 41, .int 0, .int 0]), z_zl 40, .inr (1, [.ref 43, .int 0, .int 0]), z_zl 40])
  refine us rfl rfl rfl ?_
  refine us rfl rfl rfl ?_
  refine us rfl rfl rfl ?_
  show zU X 55 71 [(0, .ref 0), (1, .int 1)] [] [.inr (4, [.ref 1, .ref 10, .ref 19, .ref 28, .ref 34, .ref 35, .int 0]), .inr (0, [.ref 2, .ref 3, .ref 4, .ref 5, .ref 6, .ref 7, .ref 8, .ref 9, .int 0, .int 0, .int 0]), .inl (6, .inl (z_fu 6 100)), .inl (13, .inl (z_fu 13 1)), z_zi 12, z_zi 12, z_zi 12, z_zi 12, z_zi 12, z_zi 12, .inr (0, [.ref 11, .ref 12, .ref 13, .ref 14, .ref 15, .ref 16, .ref 17, .ref 18, .int 0, .int 0, .int 0]), .inl (6, .inl (z_fu 6 100)), .inl (13, .inl (z_fu 13 1)), z_zi 12, z_zi 12, z_zi 12, z_zi 12, z_zi 12, z_zi 12, .inr (0, [.ref 20, .ref 21, .ref 22, .ref 23, .ref 24, .ref 25, .ref 26, .ref 27, .int 0, .int 0, .int 0]), .inl (6, .inl (z_fu 6 100)), .inl (13, .inl (z_fu 13 1)), z_zi 12, z_zi 12, z_zi 12, z_zi 12, z_zi 12, z_zi 12, .inr (3, [.ref 29, .int 0, .int 0]), .inr (2, [.ref 30, .int 0, .ref 31, .ref 32, .ref 33, .int 0]), z_zi 120, z_zi 121, z_zi 121, z_zi 121, .inl (4, .inr (.inr (z_sh 1))), z_zi 7, .inr (1, [.ref 37, .int 0, .int 0]), z_zl 40] (none, [.inr (4, [.ref 1, .ref 10, .ref 19, .ref 28, .ref 34, .ref 35, .int 0]), .inr (0, [.ref 2, .ref 3, .ref 4, .ref 5, .ref 6, .ref 7, .ref 8, .ref 9, .int 0, .int 0, .int 0]), .inl (6, .inl (z_fu 6 100)), .inl (13, .inl (z_fu 13 1)), z_zi 12, z_zi 12, z_zi 12, z_zi 12, z_zi 12, z_zi 12, .inr (0, [.ref 11, .ref 12, .ref 13, .ref 14, .ref 15, .ref 16, .ref 17, .ref 18, .int 0, .int 0, .int 0]), .inl (6, .inl (z_fu 6 100)), .inl (13, .inl (z_fu 13 1)), z_zi 12, z_zi 12, z_zi 12, z_zi 12, z_zi 12, z_zi 12, .inr (0, [.ref 20, .ref 21, .ref 22, .ref 23, .ref 24, .ref 25, .ref 26, .ref 27, .int 0, .int 0, .int 0]), .inl (6, .inl (z_fu 6 100)), .inl (13, .inl (z_fu 13 1)), z_zi 12, z_zi 12, z_zi 12, z_zi 12, z_zi 12, z_zi 12, .inr (3, [.ref 29, .int 0, .int 0]), .inr (2, [.ref 30, .int 0, .ref 31, .ref 32, .ref 33, .int 0]), z_zi 120, z_zi 121, z_zi 121, z_zi 121, .inl (4, .inr (.inr (z_sh 4))), z_zi 7, .inr (1, [.ref 37, .int 0, .int 0]), z_zl 40, .inr (1, [.ref 39, .int 0, .int 0]), z_zl 40, .inr (1, [.ref 41, .int 0, .int 0]), z_zl 40, .inr (1, [.ref 43, .int 0, .int 0]), z_zl 40])
  refine us rfl rfl rfl ?_
  refine us rfl rfl rfl ?_
  refine us rfl rfl rfl ?_
  refine us rfl rfl rfl ?_
  refine us rfl rfl rfl ?_
  refine us rfl rfl rfl ?_
  refine us rfl rfl rfl ?_
  refine us rfl rfl rfl ?_
  refine uc rfl rfl st_sheet_38 ?_
  show zU X 55 88 [(0, .ref 0), (1, .int 1)] [.ref 38, .int 1, .ref 34] [.inr (4, [.ref 1, .ref 10, .ref 19, .ref 28, .ref 34, .ref 35, .int 0]), .inr (0, [.ref 2, .ref 3, .ref 4, .ref 5, .ref 6, .ref 7, .ref 8, .ref 9, .int 0, .int 0, .int 0]), .inl (6, .inl (z_fu 6 100)), .inl (13, .inl (z_fu 13 1)), z_zi 12, z_zi 12, z_zi 12, z_zi 12, z_zi 12, z_zi 12, .inr (0, [.ref 11, .ref 12, .ref 13, .ref 14, .ref 15, .ref 16, .ref 17, .ref 18, .int 0, .int 0, .int 0]), .inl (6, .inl (z_fu 6 100)), .inl (13, .inl (z_fu 13 1)), z_zi 12, z_zi 12, z_zi 12, z_zi 12, z_zi 12, z_zi 12, .inr (0, [.ref 20, .ref 21, .ref 22, .ref 23, .ref 24, .ref 25, .ref 26, .ref 27, .int 0, .int 0, .int 0]), .inl (6, .inl (z_fu 6 100)), .inl (13, .inl (z_fu 13 1)), z_zi 12, z_zi 12, z_zi 12, z_zi 12, z_zi 12, z_zi 12, .inr (3, [.ref 29, .int 0, .int 0]), .inr (2, [.ref 30, .int 0, .ref 31, .ref 32, .ref 33, .int 0]), z_zi 120, z_zi 121, z_zi 121, z_zi 121, .inl (4, .inr (.inr (z_sh 1))), z_zi 7, .inr (1, [.ref 37, .int 0, .int 0]), z_zl 40, .inr (1, [.ref 39, .int 0, .int 0]), z_zl 40] (none, [.inr (4, [.ref 1, .ref 10, .ref 19, .ref 28, .ref 34, .ref 35, .int 0]), .inr (0, [.ref 2, .ref 3, .ref 4, .ref 5, .ref 6, .ref 7, .ref 8, .ref 9, .int 0, .int 0, .int 0]), .inl (6, .inl (z_fu 6 100)), .inl (13, .inl (z_fu 13 1)), z_zi 12, z_zi 12, z_zi 12, z_zi 12, z_zi 12, z_zi 12, .inr (0, [.ref 11, .ref 12, .ref 13, .ref 14, .ref 15, .ref 16, .ref 17, .ref 18, .int 0, .int 0, .int 0]), .inl (6, .inl (z_fu 6 100)), .inl (13, .inl (z_fu 13 1)), z_zi 12, z_zi 12, z_zi 12, z_zi 12, z_zi 12, z_zi 12, .inr (0, [.ref 20, .ref 21, .ref 22, .ref 23, .ref 24, .ref 25, .ref 26, .ref 27, .int 0, .int 0, .int 0]), .inl (6, .inl (z_fu 6 100)), .inl (13, .inl (z_fu 13 1)), z_zi 12, z_zi 12, z_zi 12, z_zi 12, z_zi 12, z_zi 12, .inr (3, [.ref 29, .int 0, .int 0]), .inr (2, [.ref 30, .int 0, .ref 31, .ref 32, .ref 33, .int 0]), z_zi 120, z_zi 121, z_zi 121, z_zi 121, .inl (4, .inr (.inr (z_sh 4))), z_zi 7, .inr (1, [.ref 37, .int 0, .int 0]), z_zl 40, .inr (1, [.ref 39, .int 0, .int 0]), z_zl 40, .inr (1, [.ref 41, .int 0, .int 0]), z_zl 40, .inr (1, [.ref 43, .int 0, .int 0]), z_zl 40])
  refine us rfl rfl rfl ?_
  refine us rfl rfl rfl ?_
  refine us rfl rfl rfl ?_
  show zU X 55 71 [(0, .ref 0), (1, .int 2)] [] [.inr (4, [.ref 1, .ref 10, .ref 19, .ref 28, .ref 34, .ref 35, .int 0]), .inr (0, [.ref 2, .ref 3, .ref 4, .ref 5, .ref 6, .ref 7, .ref 8, .ref 9, .int 0, .int 0, .int 0]), .inl (6, .inl (z_fu 6 100)), .inl (13, .inl (z_fu 13 1)), z_zi 12, z_zi 12, z_zi 12, z_zi 12, z_zi 12, z_zi 12, .inr (0, [.ref 11, .ref 12, .ref 13, .ref 14, .ref 15, .ref 16, .ref 17, .ref 18, .int 0, .int 0, .int 0]), .inl (6, .inl (z_fu 6 100)), .inl (13, .inl (z_fu 13 1)), z_zi 12, z_zi 12, z_zi 12, z_zi 12, z_zi 12, z_zi 12, .inr (0, [.ref 20, .ref 21, .ref 22, .ref 23, .ref 24, .ref 25, .ref 26, .ref 27, .int 0, .int 0, .int 0]), .inl (6, .inl (z_fu 6 100)), .inl (13, .inl (z_fu 13 1)), z_zi 12, z_zi 12, z_zi 12, z_zi 12, z_zi 12, z_zi 12, .inr (3, [.ref 29, .int 0, .int 0]), .inr (2, [.ref 30, .int 0, .ref 31, .ref 32, .ref 33, .int 0]), z_zi 120, z_zi 121, z_zi 121, z_zi 121, .inl (4, .inr (.inr (z_sh 2))), z_zi 7, .inr (1, [.ref 37, .int 0, .int 0]), z_zl 40, .inr (1, [.ref 39, .int 0, .int 0]), z_zl 40] (none, [.inr (4, [.ref 1, .ref 10, .ref 19, .ref 28, .ref 34, .ref 35, .int 0]), .inr (0, [.ref 2, .ref 3, .ref 4, .ref 5, .ref 6, .ref 7, .ref 8, .ref 9, .int 0, .int 0, .int 0]), .inl (6, .inl (z_fu 6 100)), .inl (13, .inl (z_fu 13 1)), z_zi 12, z_zi 12, z_zi 12, z_zi 12, z_zi 12, z_zi 12, .inr (0, [.ref 11, .ref 12, .ref 13, .ref 14, .ref 15, .ref 16, .ref 17, .ref 18, .int 0, .int 0, .int 0]), .inl (6, .inl (z_fu 6 100)), .inl (13, .inl (z_fu 13 1)), z_zi 12, z_zi 12, z_zi 12, z_zi 12, z_zi 12, z_zi 12, .inr (0, [.ref 20, .ref 21, .ref 22, .ref 23, .ref 24, .ref 25, .ref 26, .ref 27, .int 0, .int 0, .int 0]), .inl (6, .inl (z_fu 6 100)), .inl (13, .inl (z_fu 13 1)), z_zi 12, z_zi 12, z_zi 12, z_zi 12, z_zi 12, z_zi 12, .inr (3, [.ref 29, .int 0, .int 0]), .inr (2, [.ref 30, .int 0, .ref 31, .ref 32, .ref 33, .int 0]), z_zi 120, z_zi 121, z_zi 121, z_zi 121, .inl (4, .inr (.inr (z_sh 4))), z_zi 7, .inr (1, [.ref 37, .int 0, .int 0]), z_zl 40, .inr (1, [.ref 39, .int 0, .int 0]), z_zl 40, .inr (1, [.ref 41, .int 0, .int 0]), z_zl 40, .inr (1, [.ref 43, .int 0, .int 0]), z_zl 40])
  refine us rfl rfl rfl ?_
  refine us rfl rfl rfl ?_
  refine us rfl rfl rfl ?_
  refine us rfl rfl rfl ?_
  refine us rfl rfl rfl ?_
  refine us rfl rfl rfl ?_
  refine us rfl rfl rfl ?_
  refine us rfl rfl rfl ?_
  refine uc rfl rfl st_sheet_40 ?_
  show zU X 55 88 [(0, .ref 0), (1, .int 2)] [.ref 40, .int 2, .ref 34] [.inr (4, [.ref 1, .ref 10, .ref 19, .ref 28, .ref 34, .ref 35, .int 0]), .inr (0, [.ref 2, .ref 3, .ref 4, .ref 5, .ref 6, .ref 7, .ref 8, .ref 9, .int 0, .int 0, .int 0]), .inl (6, .inl (z_fu 6 100)), .inl (13, .inl (z_fu 13 1)), z_zi 12, z_zi 12, z_zi 12, z_zi 12, z_zi 12, z_zi 12, .inr (0, [.ref 11, .ref 12, .ref 13, .ref 14, .ref 15, .ref 16, .ref 17, .ref 18, .int 0, .int 0, .int 0]), .inl (6, .inl (z_fu 6 100)), .inl (13, .inl (z_fu 13 1)), z_zi 12, z_zi 12, z_zi 12, z_zi 12, z_zi 12, z_zi 12, .inr (0, [.ref 20, .ref 21, .ref 22, .ref 23, .ref 24, .ref 25, .ref 26, .ref 27, .int 0, .int 0, .int 0]), .inl (6, .inl (z_fu 6 100)), .inl (13, .inl (z_fu 13 1)), z_zi 12, z_zi 12, z_zi 12, z_zi 12, z_zi 12, z_zi 12, .inr (3, [.ref 29, .int 0, .int 0]), .inr (2, [.ref 30, .int 0, .ref 31, .ref 32, .ref 33, .int 0]), z_zi 120, z_zi 121, z_zi 121, z_zi 121, .inl (4, .inr (.inr (z_sh 2))), z_zi 7, .inr (1, [.ref 37, .int 0, .int 0]), z_zl 40, .inr (1, [.ref 39, .int 0, .int 0]), z_zl 40, .inr (1, [.ref 41, .int 0, .int 0]), z_zl 40] (none, [.inr (4, [.ref 1, .ref 10, .ref 19, .ref 28, .ref 34, .ref 35, .int 0]), .inr (0, [.ref 2, .ref 3, .ref 4, .ref 5, .ref 6, .ref 7, .ref 8, .ref 9, .int 0, .int 0, .int 0]), .inl (6, .inl (z_fu 6 100)), .inl (13, .inl (z_fu 13 1)), z_zi 12, z_zi 12, z_zi 12, z_zi 12, z_zi 12, z_zi 12, .inr (0, [.ref 11, .ref 12, .ref 13, .ref 14, .ref 15, .ref 16, .ref 17, .ref 18, .int 0, .int 0, .int 0]), .inl (6, .inl (z_fu 6 100)), .inl (13, .inl (z_fu 13 1)), z_zi 12, z_zi 12, z_zi 12, z_zi 12, z_zi 12, z_zi 12, .inr (0, [.ref 20, .ref 21, .ref 22, .ref 23, .ref 24, .ref 25, .ref 26, .ref 27, .int 0, .int 0, .int 0]), .inl (6, .inl (z_fu 6 100)), .inl (13, .inl (z_fu 13 1)), z_zi 12, z_zi 12, z_zi 12, z_zi 12, z_zi 12, z_zi 12, .inr (3, [.ref 29, .int 0, .int 0]), .inr (2, [.ref 30, .int 0, .ref 31, .ref 32, .ref 33, .int 0]), z_zi 120, z_zi 121, z_zi 121, z_zi 121, .inl (4, .inr (.inr (z_sh 4))), z_zi 7, .inr (1, [.ref 37, .int 0, .int 0]), z_zl 40, .inr (1, [.ref 39, .int 0, .int 0]), z_zl 40, .inr (1, [.ref 41, .int 0, .int 0]), z_zl 40, .inr (1, [.ref 43, .int 0, .int 0]), z_zl 40])
  refine us rfl rfl rfl ?_
  refine us rfl rfl rfl ?_
  refine us rfl rfl rfl ?_
  show zU X 55 71 [(0, .ref 0), (1, .int 3)] [] [.inr (4, [.ref 1, .ref 10, .ref 19, .ref 28, .ref 34, .ref 35, .int 0]), .inr (0, [.ref 2, .ref 3, .ref 4, .ref 5, .ref 6, .ref 7, .ref 8, .ref 9, .int 0, .int 0, .int 0]), .inl (6, .inl (z_fu 6 100)), .inl (13, .inl (z_fu 13 1)), z_zi 12, z_zi 12, z_zi 12, z_zi 12, z_zi 12, z_zi 12, .inr (0, [.ref 11, .ref 12, .ref 13, .ref 14, .ref 15, .ref 16, .ref 17, .ref 18, .int 0, .int 0, .int 0]), .inl (6, .inl (z_fu 6 100)), .inl (13, .inl (z_fu 13 1)), z_zi 12, z_zi 12, z_zi 12, z_zi 12, z_zi 12, z_zi 12, .inr (0, [.ref 20, .ref 21, .ref 22, .ref 23, .ref 24, .ref 25, .ref 26, .ref 27, .int 0, .int 0, .int 0]), .inl (6, .inl (z_fu 6 100)), .inl (13, .inl (z_fu 13 1)), z_zi 12, z_zi 12, z_zi 12, z_zi 12, z_zi 12, z_zi 12, .inr (3, [.ref 29, .int 0, .int 0]), .inr (2, [.ref 30, .int 0, .ref 31, .ref 32, .ref 33, .int 0]), z_zi 120, z_zi 121, z_zi 121, z_zi 121, .inl (4, .inr (.inr (z_sh 3))), z_zi 7, .inr (1, [.ref 37, .int 0, .int 0]), z_zl 40, .inr (1, [.ref 39, .int 0, .int 0]), z_zl 40, .inr (1, [.ref 41, .int 0, .int 0]), z_zl 40] (none, [.inr (4, [.ref 1, .ref 10, .ref 19, .ref 28, .ref 34, .ref 35, .int 0]), .inr (0, [.ref 2, .ref 3, .ref 4, .ref 5, .ref 6, .ref 7, .ref 8, .ref 9, .int 0, .int 0, .int 0]), .inl (6, .inl (z_fu 6 100)), .inl (13, .inl (z_fu 13 1)), z_zi 12, z_zi 12, z_zi 12, z_zi 12, z_zi 12, z_zi 12, .inr (0, [.ref 11, .ref 12, .ref 13, .ref 14, .ref 15, .ref 16, .ref 17, .ref 18, .int 0, .int 0, .int 0]), .inl (6, .inl (z_fu 6 100)), .inl (13, .inl (z_fu 13 1)), z_zi 12, z_zi 12, z_zi 12, z_zi 12, z_zi 12, z_zi 12, .inr (0, [.ref 20, .ref 21, .ref 22, .ref 23, .ref 24, .ref 25, .ref 26, .ref 27, .int 0, .int 0, .int 0]), .inl (6, .inl (z_fu 6 100)), .inl (13, .inl (z_fu 13 1)), z_zi 12, z_zi 12, z_zi 12, z_zi 12, z_zi 12, z_zi 12, .inr (3, [.ref 29, .int 0, .int 0]), .inr (2, [.ref 30, .int 0, .ref 31, .ref 32, .ref 33, .int 0]), z_zi 120, z_zi 121, z_zi 121, z_zi 121, .inl (4, .inr (.inr (z_sh 4))), z_zi 7, .inr (1, [.ref 37, .int 0, .int 0]), z_zl 40, .inr (1, [.ref 39, .int 0, .int 0]), z_zl 40, .inr (1, [.ref 41, .int 0, .int 0]), z_zl 40, .inr (1, [.ref 43, .int 0, .int 0]), z_zl 40])
  refine us rfl rfl rfl ?_
  refine us rfl rfl rfl ?_
  refine us rfl rfl rfl ?_
  refine us rfl rfl rfl ?_
  refine us rfl rfl rfl ?_
  refine us rfl rfl rfl ?_
  refine us rfl rfl rfl ?_
  refine us rfl rfl rfl ?_
  refine uc rfl rfl st_sheet_42 ?_
  show zU X 55 88 [(0, .ref 0), (1, .int 3)] [.ref 42, .int 3, .ref 34] [.inr (4, [.ref 1, .ref 10, .ref 19, .ref 28, .ref 34, .ref 35, .int 0]), .inr (0, [.ref 2, .ref 3, .ref 4, .ref 5, .ref 6, .ref 7, .ref 8, .ref 9, .int 0, .int 0, .int 0]), .inl (6, .inl (z_fu 6 100)), .inl (13, .inl (z_fu 13 1)), z_zi 12, z_zi 12, z_zi 12, z_zi 12, z_zi 12, z_zi 12, .inr (0, [.ref 11, .ref 12, .ref 13, .ref 14, .ref 15, .ref 16, .ref 17, .ref 18, .int 0, .int 0, .int 0]), .inl (6, .inl (z_fu 6 100)), .inl (13, .inl (z_fu 13 1)), z_zi 12, z_zi 12, z_zi 12, z_zi 12, z_zi 12, z_zi 12, .inr (0, [.ref 20, .ref 21, .ref 22, .ref 23, .ref 24, .ref 25, .ref 26, .ref 27, .int 0, .int 0, .int 0]), .inl (6, .inl (z_fu 6 100)), .inl (13, .inl (z_fu 13 1)), z_zi 12, z_zi 12, z_zi 12, z_zi 12, z_zi 12, z_zi 12, .inr (3, [.ref 29, .int 0, .int 0]), .inr (2, [.ref 30, .int 0, .ref 31, .ref 32, .ref 33, .int 0]), z_zi 120, z_zi 121, z_zi 121, z_zi 121, .inl (4, .inr (.inr (z_sh 3))), z_zi 7, .inr (1, [.ref 37, .int 0, .int 0]), z_zl 40, .inr (1, [.ref 39, .int 0, .int 0]), z_zl 40, .inr (1, [.ref 41, .int 0, .int 0]), z_zl 40, .inr (1, [.ref 43, .int 0, .int 0]), z_zl 40] (none, [.inr (4, [.ref 1, .ref 10, .ref 19, .ref 28, .ref 34, .ref 35, .int 0]), .inr (0, [.ref 2, .ref 3, .ref 4, .ref 5, .ref 6, .ref 7, .ref 8, .ref 9, .int 0, .int 0, .int 0]), .inl (6, .inl (z_fu 6 100)), .inl (13, .inl (z_fu 13 1)), z_zi 12, z_zi 12, z_zi 12, z_zi 12, z_zi 12, z_zi 12, .inr (0, [.ref 11, .ref 12, .ref 13, .ref 14, .ref 15, .ref 16, .ref 17, .ref 18, .int 0, .int 0, .int 0]), .inl (6, .inl (z_fu 6 100)), .inl (13, .inl (z_fu 13 1)), z_zi 12, z_zi 12, z_zi 12, z_zi 12, z_zi 12, z_zi 12, .inr (0, [.ref 20, .ref 21, .ref 22, .ref 23, .ref 24, .ref 25, .ref 26, .ref 27, .int 0, .int 0, .int 0]), .inl (6, .inl (z_fu 6 100)), .inl (13, .inl (z_fu 13 1)), z_zi 12, z_zi 12, z_zi 12, z_zi 12, z_zi 12, z_zi 12, .inr (3, [.ref 29, .int 0, .int 0]), .inr (2, [.ref 30, .int 0, .ref 31, .ref 32, .ref 33, .int 0]), z_zi 120, z_zi 121, z_zi 121, z_zi 121, .inl (4, .inr (.inr (z_sh 4))), z_zi 7, .inr (1, [.ref 37, .int 0, .int 0]), z_zl 40, .inr (1, [.ref 39, .int 0, .int 0]), z_zl 40, .inr (1, [.ref 41, .int 0, .int 0]), z_zl 40, .inr (1, [.ref 43, .int 0, .int 0]), z_zl 40])
  refine us rfl rfl rfl ?_
  refine us rfl rfl rfl ?_
  refine us rfl rfl rfl ?_
  show zU X 55 71 [(0, .ref 0), (1, .int 4)] [] [.inr (4, [.ref 1, .ref 10, .ref 19, .ref 28, .ref 34, .ref 35, .int 0]), .inr (0, [.ref 2, .ref 3, .ref 4, .ref 5, .ref 6, .ref 7, .ref 8, .ref 9, .int 0, .int 0, .int 0]), .inl (6, .inl (z_fu 6 100)), .inl (13, .inl (z_fu 13 1)), z_zi 12, z_zi 12, z_zi 12, z_zi 12, z_zi 12, z_zi 12, .inr (0, [.ref 11, .ref 12, .ref 13, .ref 14, .ref 15, .ref 16, .ref 17, .ref 18, .int 0, .int 0, .int 0]), .inl (6, .inl (z_fu 6 100)), .inl (13, .inl (z_fu 13 1)), z_zi 12, z_zi 12, z_zi 12, z_zi 12, z_zi 12, z_zi 12, .inr (0, [.ref 20, .ref 21, .ref 22, .ref 23, .ref 24, .ref 25, .ref 26, .ref 27, .int 0, .int 0, .int 0]), .inl (6, .inl (z_fu 6 100)), .inl (13, .inl (z_fu 13 1)), z_zi 12, z_zi 12, z_zi 12, z_zi 12, z_zi 12, z_zi 12, .inr (3, [.ref 29, .int 0, .int 0]), .inr (2, [.ref 30, .int 0, .ref 31, .ref 32, .ref 33, .int 0]), z_zi 120, z_zi 121, z_zi 121, z_zi 121, .inl (4, .inr (.inr (z_sh 4))), z_zi 7, .inr (1, [.ref 37, .int 0, .int 0]), z_zl 40, .inr (1, [.ref 39, .int 0, .int 0]), z_zl 40, .inr (1, [.ref 41, .int 0, .int 0]), z_zl 40, .inr (1, [.ref 43, .int 0, .int 0]), z_zl 40] (none, [.inr (4, [.ref 1, .ref 10, .ref 19, .ref 28, .ref 34, .ref 35, .int 0]), .inr (0, [.ref 2, .ref 3, .ref 4, .ref 5, .ref 6, .ref 7, .ref 8, .ref 9, .int 0, .int 0, .int 0]), .inl (6, .inl (z_fu 6 100)), .inl (13, .inl (z_fu 13 1)), z_zi 12, z_zi 12, z_zi 12, z_zi 12, z_zi 12, z_zi 12, .inr (0, [.ref 11, .ref 12, .ref 13, .ref 14, .ref 15, .ref 16, .ref 17, .ref 18, .int 0, .int 0, .int 0]), .inl (6, .inl (z_fu 6 100)), .inl (13, .inl (z_fu 13 1)), z_zi 12, z_zi 12, z_zi 12, z_zi 12, z_zi 12, z_zi 12, .inr (0, [.ref 20, .ref 21, .ref 22, .ref 23, .ref 24, .ref 25, .ref 26, .ref 27, .int 0, .int 0, .int 0]), .inl (6, .inl (z_fu 6 100)), .inl (13, .inl (z_fu 13 1)), z_zi 12, z_zi 12, z_zi 12, z_zi 12, z_zi 12, z_zi 12, .inr (3, [.ref 29, .int 0, .int 0]), .inr (2, [.ref 30, .int 0, .ref 31, .ref 32, .ref 33, .int 0]), z_zi 120, z_zi 121, z_zi 121, z_zi 121, .inl (4, .inr (.inr (z_sh 4))), z_zi 7, .inr (1, [.ref 37, .int 0, .int 0]), z_zl 40, .inr (1, [.ref 39, .int 0, .int 0]), z_zl 40, .inr (1, [.ref 41, .int 0, .int 0]), z_zl 40, .inr (1, [.ref 43, .int 0, .int 0]), z_zl 40])
  refine us rfl rfl rfl ?_
  refine us rfl rfl rfl ?_
  refine us rfl rfl rfl ?_
  exact ur rfl rfl
theorem st_model {c0 c1 c2 c3 c4 c5 c6 c7 c8 c9 c10 c11 c12 c13 c14 c15 c16 c17 c18 c19 c20 c21 c22 c23 c24 c25 c26 c27 c28 c29 c30 c31 c32 c33 c34 c35 c36 c37 c38 c39 c40 c41 c42 c43 : zC} : zU X 113 0 [(0, .ref 44)] [] [c0, c1, c2, c3, c4, c5, c6, c7, c8, c9, c10, c11, c12, c13, c14, c15, c16, c17, c18, c19, c20, c21, c22, c23, c24, c25, c26, c27, c28, c29, c30, c31, c32, c33, c34, c35, c36, c37, c38, c39, c40, c41, c42, c43, .inr (5, [.null, .null, .null, .null, .null, .int 0, .null, .null, .int 0, .null, .null, .null, .null, .int 0, .int 0, .int 0, .int 0, .int 0, .int 0])] (none, [c0, c1, c2, c3, c4, c5, c6, c7, c8, c9, c10, c11, c12, c13, c14, c15, c16, c17, c18, c19, c20, c21, c22, c23, c24, c25, c26, c27, c28, c29, c30, c31, c32, c33, c34, c35, c36, c37, c38, c39, c40, c41, c42, c43, .inr (5, [.ref 45, .ref 46, .ref 47, .ref 48, .ref 49, .int 0, .ref 50, .ref 51, .int 0, .ref 52, .ref 53, .ref 54, .ref 55, .int 0, .int 0, .int 0, .int 0, .int 0, .int 0]), .inl (82, .inl (z_fo 9 1 (z_fo 3 100 (fun _ => 0) 6) 13)), z_zi 82, z_zi 82, z_zi 82, z_zi 82, z_zi 8, z_zi 120, .inl (4, .inl (z_fu 4 (-1))), z_zi 4, z_zl 160, z_zi 12]) := by
  refine us rfl rfl rfl ?_
  refine us rfl rfl rfl ?_
  refine us rfl rfl rfl ?_
  refine us rfl rfl rfl ?_
  refine us rfl rfl rfl ?_
  refine us rfl rfl rfl ?_
  show zU X 113 12 [(0, .ref 44)] [] [c0, c1, c2, c3, c4, c5, c6, c7, c8, c9, c10, c11, c12, c13, c14, c15, c16, c17, c18, c19, c20, c21, c22, c23, c24, c25, c26, c27, c28, c29, c30, c31, c32, c33, c34, c35, c36, c37, c38, c39, c40, c41, c42, c43, .inr (5, [.ref 45, .null, .null, .null, .null, .int 0, .null, .null, .int 0, .null, .null, .null, .null, .int 0, .int 0, .int 0, .int 0, .int 0, .int 0]), z_zi 82] (none, [c0, c1, c2, c3, c4, c5, c6, c7, c8, c9, c10, c11, c12, c13, c14, c15, c16, c17, c18, c19, c20, c21, c22, c23, c24, c25, c26, c27, c28, c29, c30, c31, c32, c33, c34, c35, c36, c37, c38, c39, c40, c41, c42, c43, .inr (5, [.ref 45, .ref 46, .ref 47, .ref 48, .ref 49, .int 0, .ref 50, .ref 51, .int 0, .ref 52, .ref 53, .ref 54, .ref 55, .int 0, .int 0, .int 0, .int 0, .int 0, .int 0]), .inl (82, .inl (z_fo 9 1 (z_fo 3 100 (fun _ => 0) 6) 13)), z_zi 82, z_zi 82, z_zi 82, z_zi 82, z_zi 8, z_zi 120, .inl (4, .inl (z_fu 4 (-1))), z_zi 4, z_zl 160, z_zi 12])
  refine us rfl rfl rfl ?_
  refine us rfl rfl rfl ?_
  refine us rfl rfl rfl ?_
  refine us rfl rfl rfl ?_
  show zU X 113 20 [(0, .ref 44)] [] [c0, c1, c2, c3, c4, c5, c6, c7, c8, c9, c10, c11, c12, c13, c14, c15, c16, c17, c18, c19, c20, c21, c22, c23, c24, c25, c26, c27, c28, c29, c30, c31, c32, c33, c34, c35, c36, c37, c38, c39, c40, c41, c42, c43, .inr (5, [.ref 45, .ref 46, .null, .null, .null, .int 0, .null, .null, .int 0, .null, .null, .null, .null, .int 0, .int 0, .int 0, .int 0, .int 0, .int 0]), z_zi 82, z_zi 82] (none, [c0, c1, c2, c3, c4, c5, c6, c7, c8, c9, c10, c11, c12, c13, c14, c15, c16, c17, c18, c19, c20, c21, c22, c23, c24, c25, c26, c27, c28, c29, c30, c31, c32, c33, c34, c35, c36, c37, c38, c39, c40, c41, c42, c43, .inr (5, [.ref 45, .ref 46, .ref 47, .ref 48, .ref 49, .int 0, .ref 50, .ref 51, .int 0, .ref 52, .ref 53, .ref 54, .ref 55, .int 0, .int 0, .int 0, .int 0, .int 0, .int 0]), .inl (82, .inl (z_fo 9 1 (z_fo 3 100 (fun _ => 0) 6) 13)), z_zi 82, z_zi 82, z_zi 82, z_zi 82, z_zi 8, z_zi 120, .inl (4, .inl (z_fu 4 (-1))), z_zi 4, z_zl 160, z_zi 12])
  refine us rfl rfl rfl ?_
  refine us rfl rfl rfl ?_
  refine us rfl rfl rfl ?_
  refine us rfl rfl rfl ?_
  show zU X 113 28 [(0, .ref 44)] [] [c0, c1, c2, c3, c4, c5, c6, c7, c8, c9, c10, c11, c12, c13, c14, c15, c16, c17, c18, c19, c20, c21, c22, c23, c24, c25, c26, c27, c28, c29, c30, c31, c32, c33, c34, c35, c36, c37, c38, c39, c40, c41, c42, c43, .inr (5, [.ref 45, .ref 46, .ref 47, .null, .null, .int 0, .null, .null, .int 0, .null, .null, .null, .null, .int 0, .int 0, .int 0, .int 0, .int 0, .int 0]), z_zi 82, z_zi 82, z_zi 82] (none, [c0, c1, c2, c3, c4, c5, c6, c7, c8, c9, c10, c11, c12, c13, c14, c15, c16, c17, c18, c19, c20, c21, c22, c23, c24, c25, c26, c27, c28, c29, c30, c31, c32, c33, c34, c35, c36, c37, c38, c39, c40, c41, c42, c43, .inr (5, [.ref 45, .ref 46, .ref 47, .ref 48, .ref 49, .int 0, .ref 50, .ref 51, .int 0, .ref 52, .ref 53, .ref 54, .ref 55, .int 0, .int 0, .int 0, .int 0, .int 0, .int 0]), .inl (82, .inl (z_fo 9 1 (z_fo 3 100 (fun _ => 0) 6) 13)), z_zi 82, z_zi 82, z_zi 82, z_zi 82, z_zi 8, z_zi 120, .inl (4, .inl (z_fu 4 (-1))), z_zi 4, z_zl 160, z_zi 12])
  refine us rfl rfl rfl ?_
  refine us rfl rfl rfl ?_
  refine us rfl rfl rfl ?_
  refine us rfl rfl rfl ?_
  show zU X 113 36 [(0, .ref 44)] [] [c0, c1, c2, c3, c4, c5, c6, c7, c8, c9, c10, c11, c12, c13, c14, c15, c16, c17, c18, c19, c20, c21, c22, c23, c24, c25, c26, c27, c28, c29, c30, c31, c32, c33, c34, c35, c36, c37, c38, c39, c40, c41, c42, c43, .inr (5, [.ref 45, .ref 46, .ref 47, .ref 48, .null, .int 0, .null, .null, .int 0, .null, .null, .null, .null, .int 0, .int 0, .int 0, .int 0, .int 0, .int 0]), z_zi 82, z_zi 82, z_zi 82, z_zi 82] (none, [c0, c1, c2, c3, c4, c5, c6, c7, c8, c9, c10, c11, c12, c13, c14, c15, c16, c17, c18, c19, c20, c21, c22, c23, c24, c25, c26, c27, c28, c29, c30, c31, c32, c33, c34, c35, c36, c37, c38, c39, c40, c41, c42, c43, .inr (5, [.ref 45, .ref 46, .ref 47, .ref 48, .ref 49, .int 0, .ref 50, .ref 51, .int 0, .ref 52, .ref 53, .ref 54, .ref 55, .int 0, .int 0, .int 0, .int 0, .int 0, .int 0]), .inl (82, .inl (z_fo 9 1 (z_fo 3 100 (fun _ => 0) 6) 13)), z_zi 82, z_zi 82, z_zi 82, z_zi 82, z_zi 8, z_zi 120, .inl (4, .inl (z_fu 4 (-1))), z_zi 4, z_zl 160, z_zi 12])
  refine us rfl rfl rfl ?_
  refine us rfl rfl rfl ?_
  refine us rfl rfl rfl ?_
  refine us rfl rfl rfl ?_
  show zU X 113 44 [(0, .ref 44)] [] [c0, c1, c2, c3, c4, c5, c6, c7, c8, c9, c10, c11, c12, c13, c14, c15, c16, c17, c18, c19, c20, c21, c22, c23, c24, c25, c26, c27, c28, c29, c30, c31, c32, c33, c34, c35, c36, c37, c38, c39, c40, c41, c42, c43, .inr (5, [.ref 45, .ref 46, .ref 47, .ref 48, .ref 49, .int 0, .null, .null, .int 0, .null, .null, .null, .null, .int 0, .int 0, .int 0, .int 0, .int 0, .int 0]), z_zi 82, z_zi 82, z_zi 82, z_zi 82, z_zi 82] (none, [c0, c1, c2, c3, c4, c5, c6, c7, c8, c9, c10, c11, c12, c13, c14, c15, c16, c17, c18, c19, c20, c21, c22, c23, c24, c25, c26, c27, c28, c29, c30, c31, c32, c33, c34, c35, c36, c37, c38, c39, c40, c41, c42, c43, .inr (5, [.ref 45, .ref 46, .ref 47, .ref 48, .ref 49, .int 0, .ref 50, .ref 51, .int 0, .ref 52, .ref 53, .ref 54, .ref 55, .int 0, .int 0, .int 0, .int 0, .int 0, .int 0]), .inl (82, .inl (z_fo 9 1 (z_fo 3 100 (fun _ => 0) 6) 13)), z_zi 82, z_zi 82, z_zi 82, z_zi 82, z_zi 8, z_zi 120, .inl (4, .inl (z_fu 4 (-1))), z_zi 4, z_zl 160, z_zi 12])
  refine us rfl rfl rfl ?_
  refine us rfl rfl rfl ?_
  refine us rfl rfl rfl ?_
  refine us rfl rfl rfl ?_
  show zU X 113 52 [(0, .ref 44)] [] [c0, c1, c2, c3, c4, c5, c6, c7, c8, c9, c10, c11, c12, c13, c14, c15, c16, c17, c18, c19, c20, c21, c22, c23, c24, c25, c26, c27, c28, c29, c30, c31, c32, c33, c34, c35, c36, c37, c38, c39, c40, c41, c42, c43, .inr (5, [.ref 45, .ref 46, .ref 47, .ref 48, .ref 49, .int 0, .ref 50, .null, .int 0, .null, .null, .null, .null, .int 0, .int 0, .int 0, .int 0, .int 0, .int 0]), z_zi 82, z_zi 82, z_zi 82, z_zi 82, z_zi 82, z_zi 8] (none, [c0, c1, c2, c3, c4, c5, c6, c7, c8, c9, c10, c11, c12, c13, c14, c15, c16, c17, c18, c19, c20, c21, c22, c23, c24, c25, c26, c27, c28, c29, c30, c31, c32, c33, c34, c35, c36, c37, c38, c39, c40, c41, c42, c43, .inr (5, [.ref 45, .ref 46, .ref 47, .ref 48, .ref 49, .int 0, .ref 50, .ref 51, .int 0, .ref 52, .ref 53, .ref 54, .ref 55, .int 0, .int 0, .int 0, .int 0, .int 0, .int 0]), .inl (82, .inl (z_fo 9 1 (z_fo 3 100 (fun _ => 0) 6) 13)), z_zi 82, z_zi 82, z_zi 82, z_zi 82, z_zi 8, z_zi 120, .inl (4, .inl (z_fu 4 (-1))), z_zi 4, z_zl 160, z_zi 12])
  refine us rfl rfl rfl ?_
  refine us rfl rfl rfl ?_
  refine us rfl rfl rfl ?_
  refine us rfl rfl rfl ?_
  show zU X 113 60 [(0, .ref 44)] [] [c0, c1, c2, c3, c4, c5, c6, c7, c8, c9, c10, c11, c12, c13, c14, c15, c16, c17, c18, c19, c20, c21, c22, c23, c24, c25, c26, c27, c28, c29, c30, c31, c32, c33, c34, c35, c36, c37, c38, c39, c40, c41, c42, c43, .inr (5, [.ref 45, .ref 46, .ref 47, .ref 48, .ref 49, .int 0, .ref 50, .ref 51, .int 0, .null, .null, .null, .null, .int 0, .int 0, .int 0, .int 0, .int 0, .int 0]), z_zi 82, z_zi 82, z_zi 82, z_zi 82, z_zi 82, z_zi 8, z_zi 120] (none, [c0, c1, c2, c3, c4, c5, c6, c7, c8, c9, c10, c11, c12, c13, c14, c15, c16, c17, c18, c19, c20, c21, c22, c23, c24, c25, c26, c27, c28, c29, c30, c31, c32, c33, c34, c35, c36, c37, c38, c39, c40, c41, c42, c43, .inr (5, [.ref 45, .ref 46, .ref 47, .ref 48, .ref 49, .int 0, .ref 50, .ref 51, .int 0, .ref 52, .ref 53, .ref 54, .ref 55, .int 0, .int 0, .int 0, .int 0, .int 0, .int 0]), .inl (82, .inl (z_fo 9 1 (z_fo 3 100 (fun _ => 0) 6) 13)), z_zi 82, z_zi 82, z_zi 82, z_zi 82, z_zi 8, z_zi 120, .inl (4, .inl (z_fu 4 (-1))), z_zi 4, z_zl 160, z_zi 12])
  refine us rfl rfl rfl ?_
  refine us rfl rfl rfl ?_
  refine us rfl rfl rfl ?_
  show zU X 113 64 [(0, .ref 44)] [.ref 52, .ref 44] [c0, c1, c2, c3, c4, c5, c6, c7, c8, c9, c10, c11, c12, c13, c14, c15, c16, c17, c18, c19, c20, c21, c22, c23, c24, c25, c26, c27, c28, c29, c30, c31, c32, c33, c34, c35, c36, c37, c38, c39, c40, c41, c42, c43, .inr (5, [.ref 45, .ref 46, .ref 47, .ref 48, .ref 49, .int 0, .ref 50, .ref 51, .int 0, .null, .null, .null, .null, .int 0, .int 0, .int 0, .int 0, .int 0, .int 0]), z_zi 82, z_zi 82, z_zi 82, z_zi 82, z_zi 82, z_zi 8, z_zi 120, .inl (4, .inl (z_fu 0 (-1)))] (none, [c0, c1, c2, c3, c4, c5, c6, c7, c8, c9, c10, c11, c12, c13, c14, c15, c16, c17, c18, c19, c20, c21, c22, c23, c24, c25, c26, c27, c28, c29, c30, c31, c32, c33, c34, c35, c36, c37, c38, c39, c40, c41, c42, c43, .inr (5, [.ref 45, .ref 46, .ref 47, .ref 48, .ref 49, .int 0, .ref 50, .ref 51, .int 0, .ref 52, .ref 53, .ref 54, .ref 55, .int 0, .int 0, .int 0, .int 0, .int 0, .int 0]), .inl (82, .inl (z_fo 9 1 (z_fo 3 100 (fun _ => 0) 6) 13)), z_zi 82, z_zi 82, z_zi 82, z_zi 82, z_zi 8, z_zi 120, .inl (4, .inl (z_fu 4 (-1))), z_zi 4, z_zl 160, z_zi 12])
  refine us rfl rfl rfl ?_
  refine us rfl rfl rfl ?_
  refine us rfl rfl rfl ?_
  refine us rfl rfl rfl ?_
  show zU X 113 68 [(0, .ref 44)] [.ref 52, .ref 44] [c0, c1, c2, c3, c4, c5, c6, c7, c8, c9, c10, c11, c12, c13, c14, c15, c16, c17, c18, c19, c20, c21, c22, c23, c24, c25, c26, c27, c28, c29, c30, c31, c32, c33, c34, c35, c36, c37, c38, c39, c40, c41, c42, c43, .inr (5, [.ref 45, .ref 46, .ref 47, .ref 48, .ref 49, .int 0, .ref 50, .ref 51, .int 0, .null, .null, .null, .null, .int 0, .int 0, .int 0, .int 0, .int 0, .int 0]), z_zi 82, z_zi 82, z_zi 82, z_zi 82, z_zi 82, z_zi 8, z_zi 120, .inl (4, .inl (z_fu 1 (-1)))] (none, [c0, c1, c2, c3, c4, c5, c6, c7, c8, c9, c10, c11, c12, c13, c14, c15, c16, c17, c18, c19, c20, c21, c22, c23, c24, c25, c26, c27, c28, c29, c30, c31, c32, c33, c34, c35, c36, c37, c38, c39, c40, c41, c42, c43, .inr (5, [.ref 45, .ref 46, .ref 47, .ref 48, .ref 49, .int 0, .ref 50, .ref 51, .int 0, .ref 52, .ref 53, .ref 54, .ref 55, .int 0, .int 0, .int 0, .int 0, .int 0, .int 0]), .inl (82, .inl (z_fo 9 1 (z_fo 3 100 (fun _ => 0) 6) 13)), z_zi 82, z_zi 82, z_zi 82, z_zi 82, z_zi 8, z_zi 120, .inl (4, .inl (z_fu 4 (-1))), z_zi 4, z_zl 160, z_zi 12])
  refine us rfl rfl rfl ?_
  refine us rfl rfl rfl ?_
  refine us rfl rfl rfl ?_
  refine us rfl rfl rfl ?_
  show zU X 113 72 [(0, .ref 44)] [.ref 52, .ref 44] [c0, c1, c2, c3, c4, c5, c6, c7, c8, c9, c10, c11, c12, c13, c14, c15, c16, c17, c18, c19, c20, c21, c22, c23, c24, c25, c26, c27, c28, c29, c30, c31, c32, c33, c34, c35, c36, c37, c38, c39, c40, c41, c42, c43, .inr (5, [.ref 45, .ref 46, .ref 47, .ref 48, .ref 49, .int 0, .ref 50, .ref 51, .int 0, .null, .null, .null, .null, .int 0, .int 0, .int 0, .int 0, .int 0, .int 0]), z_zi 82, z_zi 82, z_zi 82, z_zi 82, z_zi 82, z_zi 8, z_zi 120, .inl (4, .inl (z_fu 2 (-1)))] (none, [c0, c1, c2, c3, c4, c5, c6, c7, c8, c9, c10, c11, c12, c13, c14, c15, c16, c17, c18, c19, c20, c21, c22, c23, c24, c25, c26, c27, c28, c29, c30, c31, c32, c33, c34, c35, c36, c37, c38, c39, c40, c41, c42, c43, .inr (5, [.ref 45, .ref 46, .ref 47, .ref 48, .ref 49, .int 0, .ref 50, .ref 51, .int 0, .ref 52, .ref 53, .ref 54, .ref 55, .int 0, .int 0, .int 0, .int 0, .int 0, .int 0]), .inl (82, .inl (z_fo 9 1 (z_fo 3 100 (fun _ => 0) 6) 13)), z_zi 82, z_zi 82, z_zi 82, z_zi 82, z_zi 8, z_zi 120, .inl (4, .inl (z_fu 4 (-1))), z_zi 4, z_zl 160, z_zi 12])
  refine us rfl rfl rfl ?_
  refine us rfl rfl rfl ?_
  refine us rfl rfl rfl ?_
  refine us rfl rfl rfl ?_
  show zU X 113 76 [(0, .ref 44)] [.ref 52, .ref 44] [c0, c1, c2, c3, c4, c5, c6, c7, c8, c9, c10, c11, c12, c13, c14, c15, c16, c17, c18, c19, c20, c21, c22, c23, c24, c25, c26, c27, c28, c29, c30, c31, c32, c33, c34, c35, c36, c37, c38, c39, c40, c41, c42, c43, .inr (5, [.ref 45, .ref 46, .ref 47, .ref 48, .ref 49, .int 0, .ref 50, .ref 51, .int 0, .null, .null, .null, .null, .int 0, .int 0, .int 0, .int 0, .int 0, .int 0]), z_zi 82, z_zi 82, z_zi 82, z_zi 82, z_zi 82, z_zi 8, z_zi 120, .inl (4, .inl (z_fu 3 (-1)))] (none, [c0, c1, c2, c3, c4, c5, c6, c7, c8, c9, c10, c11, c12, c13, c14, c15, c16, c17, c18, c19, c20, c21, c22, c23, c24, c25, c26, c27, c28, c29, c30, c31, c32, c33, c34, c35, c36, c37, c38, c39, c40, c41, c42, c43, .inr (5, [.ref 45, .ref 46, .ref 47, .ref 48, .ref 49, .int 0, .ref 50, .ref 51, .int 0, .ref 52, .ref 53, .ref 54, .ref 55, .int 0, .int 0, .int 0, .int 0, .int 0, .int 0]), .inl (82, .inl (z_fo 9 1 (z_fo 3 100 (fun _ => 0) 6) 13)), z_zi 82, z_zi 82, z_zi 82, z_zi 82, z_zi 8, z_zi 120, .inl (4, .inl (z_fu 4 (-1))), z_zi 4, z_zl 160, z_zi 12])
  refine us rfl rfl rfl ?_
  refine us rfl rfl rfl ?_
  refine us rfl rfl rfl ?_
  refine us rfl rfl rfl ?_
  show zU X 113 80 [(0, .ref 44)] [.ref 52, .ref 44] [c0, c1, c2, c3, c4, c5, c6, c7, c8, c9, c10, c11, c12, c13, c14, c15, c16, c17, c18, c19, c20, c21, c22, c23, c24, c25, c26, c27, c28, c29, c30, c31, c32, c33, c34, c35, c36, c37, c38, c39, c40, c41, c42, c43, .inr (5, [.ref 45, .ref 46, .ref 47, .ref 48, .ref 49, .int 0, .ref 50, .ref 51, .int 0, .null, .null, .null, .null, .int 0, .int 0, .int 0, .int 0, .int 0, .int 0]), z_zi 82, z_zi 82, z_zi 82, z_zi 82, z_zi 82, z_zi 8, z_zi 120, .inl (4, .inl (z_fu 4 (-1)))] (none, [c0, c1, c2, c3, c4, c5, c6, c7, c8, c9, c10, c11, c12, c13, c14, c15, c16, c17, c18, c19, c20, c21, c22, c23, c24, c25, c26, c27, c28, c29, c30, c31, c32, c33, c34, c35, c36, c37, c38, c39, c40, c41, c42, c43, .inr (5, [.ref 45, .ref 46, .ref 47, .ref 48, .ref 49, .int 0, .ref 50, .ref 51, .int 0, .ref 52, .ref 53, .ref 54, .ref 55, .int 0, .int 0, .int 0, .int 0, .int 0, .int 0]), .inl (82, .inl (z_fo 9 1 (z_fo 3 100 (fun _ => 0) 6) 13)), z_zi 82, z_zi 82, z_zi 82, z_zi 82, z_zi 8, z_zi 120, .inl (4, .inl (z_fu 4 (-1))), z_zi 4, z_zl 160, z_zi 12])
  refine us rfl rfl rfl ?_
  show zU X 113 83 [(0, .ref 44)] [] [c0, c1, c2, c3, c4, c5, c6, c7, c8, c9, c10, c11, c12, c13, c14, c15, c16, c17, c18, c19, c20, c21, c22, c23, c24, c25, c26, c27, c28, c29, c30, c31, c32, c33, c34, c35, c36, c37, c38, c39, c40, c41, c42, c43, .inr (5, [.ref 45, .ref 46, .ref 47, .ref 48, .ref 49, .int 0, .ref 50, .ref 51, .int 0, .ref 52, .null, .null, .null, .int 0, .int 0, .int 0, .int 0, .int 0, .int 0]), z_zi 82, z_zi 82, z_zi 82, z_zi 82, z_zi 82, z_zi 8, z_zi 120, .inl (4, .inl (z_fu 4 (-1)))] (none, [c0, c1, c2, c3, c4, c5, c6, c7, c8, c9, c10, c11, c12, c13, c14, c15, c16, c17, c18, c19, c20, c21, c22, c23, c24, c25, c26, c27, c28, c29, c30, c31, c32, c33, c34, c35, c36, c37, c38, c39, c40, c41, c42, c43, .inr (5, [.ref 45, .ref 46, .ref 47, .ref 48, .ref 49, .int 0, .ref 50, .ref 51, .int 0, .ref 52, .ref 53, .ref 54, .ref 55, .int 0, .int 0, .int 0, .int 0, .int 0, .int 0]), .inl (82, .inl (z_fo 9 1 (z_fo 3 100 (fun _ => 0) 6) 13)), z_zi 82, z_zi 82, z_zi 82, z_zi 82, z_zi 8, z_zi 120, .inl (4, .inl (z_fu 4 (-1))), z_zi 4, z_zl 160, z_zi 12])
  refine us rfl rfl rfl ?_
  refine us rfl rfl rfl ?_
  refine us rfl rfl rfl ?_
  refine us rfl rfl rfl ?_
  show zU X 113 90 [(0, .ref 44)] [] [c0, c1, c2, c3, c4, c5, c6, c7, c8, c9, c10, c11, c12, c13, c14, c15, c16, c17, c18, c19, c20, c21, c22, c23, c24, c25, c26, c27, c28, c29, c30, c31, c32, c33, c34, c35, c36, c37, c38, c39, c40, c41, c42, c43, .inr (5, [.ref 45, .ref 46, .ref 47, .ref 48, .ref 49, .int 0, .ref 50, .ref 51, .int 0, .ref 52, .ref 53, .null, .null, .int 0, .int 0, .int 0, .int 0, .int 0, .int 0]), z_zi 82, z_zi 82, z_zi 82, z_zi 82, z_zi 82, z_zi 8, z_zi 120, .inl (4, .inl (z_fu 4 (-1))), z_zi 4] (none, [c0, c1, c2, c3, c4, c5, c6, c7, c8, c9, c10, c11, c12, c13, c14, c15, c16, c17, c18, c19, c20, c21, c22, c23, c24, c25, c26, c27, c28, c29, c30, c31, c32, c33, c34, c35, c36, c37, c38, c39, c40, c41, c42, c43, .inr (5, [.ref 45, .ref 46, .ref 47, .ref 48, .ref 49, .int 0, .ref 50, .ref 51, .int 0, .ref 52, .ref 53, .ref 54, .ref 55, .int 0, .int 0, .int 0, .int 0, .int 0, .int 0]), .inl (82, .inl (z_fo 9 1 (z_fo 3 100 (fun _ => 0) 6) 13)), z_zi 82, z_zi 82, z_zi 82, z_zi 82, z_zi 8, z_zi 120, .inl (4, .inl (z_fu 4 (-1))), z_zi 4, z_zl 160, z_zi 12])
  refine us rfl rfl rfl ?_
  refine us rfl rfl rfl ?_
  refine us rfl rfl rfl ?_
  refine us rfl rfl rfl ?_
  show zU X 113 99 [(0, .ref 44)] [] [c0, c1, c2, c3, c4, c5, c6, c7, c8, c9, c10, c11, c12, c13, c14, c15, c16, c17, c18, c19, c20, c21, c22, c23, c24, c25, c26, c27, c28, c29, c30, c31, c32, c33, c34, c35, c36, c37, c38, c39, c40, c41, c42, c43, .inr (5, [.ref 45, .ref 46, .ref 47, .ref 48, .ref 49, .int 0, .ref 50, .ref 51, .int 0, .ref 52, .ref 53, .ref 54, .null, .int 0, .int 0, .int 0, .int 0, .int 0, .int 0]), z_zi 82, z_zi 82, z_zi 82, z_zi 82, z_zi 82, z_zi 8, z_zi 120, .inl (4, .inl (z_fu 4 (-1))), z_zi 4, z_zl 160] (none, [c0, c1, c2, c3, c4, c5, c6, c7, c8, c9, c10, c11, c12, c13, c14, c15, c16, c17, c18, c19, c20, c21, c22, c23, c24, c25, c26, c27, c28, c29, c30, c31, c32, c33, c34, c35, c36, c37, c38, c39, c40, c41, c42, c43, .inr (5, [.ref 45, .ref 46, .ref 47, .ref 48, .ref 49, .int 0, .ref 50, .ref 51, .int 0, .ref 52, .ref 53, .ref 54, .ref 55, .int 0, .int 0, .int 0, .int 0, .int 0, .int 0]), .inl (82, .inl (z_fo 9 1 (z_fo 3 100 (fun _ => 0) 6) 13)), z_zi 82, z_zi 82, z_zi 82, z_zi 82, z_zi 8, z_zi 120, .inl (4, .inl (z_fu 4 (-1))), z_zi 4, z_zl 160, z_zi 12])
  refine us rfl rfl rfl ?_
  refine us rfl rfl rfl ?_
  refine us rfl rfl rfl ?_
  refine us rfl rfl rfl ?_
  show zU X 113 107 [(0, .ref 44)] [] [c0, c1, c2, c3, c4, c5, c6, c7, c8, c9, c10, c11, c12, c13, c14, c15, c16, c17, c18, c19, c20, c21, c22, c23, c24, c25, c26, c27, c28, c29, c30, c31, c32, c33, c34, c35, c36, c37, c38, c39, c40, c41, c42, c43, .inr (5, [.ref 45, .ref 46, .ref 47, .ref 48, .ref 49, .int 0, .ref 50, .ref 51, .int 0, .ref 52, .ref 53, .ref 54, .ref 55, .int 0, .int 0, .int 0, .int 0, .int 0, .int 0]), z_zi 82, z_zi 82, z_zi 82, z_zi 82, z_zi 82, z_zi 8, z_zi 120, .inl (4, .inl (z_fu 4 (-1))), z_zi 4, z_zl 160, z_zi 12] (none, [c0, c1, c2, c3, c4, c5, c6, c7, c8, c9, c10, c11, c12, c13, c14, c15, c16, c17, c18, c19, c20, c21, c22, c23, c24, c25, c26, c27, c28, c29, c30, c31, c32, c33, c34, c35, c36, c37, c38, c39, c40, c41, c42, c43, .inr (5, [.ref 45, .ref 46, .ref 47, .ref 48, .ref 49, .int 0, .ref 50, .ref 51, .int 0, .ref 52, .ref 53, .ref 54, .ref 55, .int 0, .int 0, .int 0, .int 0, .int 0, .int 0]), .inl (82, .inl (z_fo 9 1 (z_fo 3 100 (fun _ => 0) 6) 13)), z_zi 82, z_zi 82, z_zi 82, z_zi 82, z_zi 8, z_zi 120, .inl (4, .inl (z_fu 4 (-1))), z_zi 4, z_zl 160, z_zi 12])
  refine us rfl rfl rfl ?_
  refine us rfl rfl rfl ?_
  show zU X 113 109 [(0, .ref 44), (1, .int 0)] [] [c0, c1, c2, c3, c4, c5, c6, c7, c8, c9, c10, c11, c12, c13, c14, c15, c16, c17, c18, c19, c20, c21, c22, c23, c24, c25, c26, c27, c28, c29, c30, c31, c32, c33, c34, c35, c36, c37, c38, c39, c40, c41, c42, c43, .inr (5, [.ref 45, .ref 46, .ref 47, .ref 48, .ref 49, .int 0, .ref 50, .ref 51, .int 0, .ref 52, .ref 53, .ref 54, .ref 55, .int 0, .int 0, .int 0, .int 0, .int 0, .int 0]), .inl (82, .inl (z_fo 3 100 (fun _ => 0) 0)), z_zi 82, z_zi 82, z_zi 82, z_zi 82, z_zi 8, z_zi 120, .inl (4, .inl (z_fu 4 (-1))), z_zi 4, z_zl 160, z_zi 12] (none, [c0, c1, c2, c3, c4, c5, c6, c7, c8, c9, c10, c11, c12, c13, c14, c15, c16, c17, c18, c19, c20, c21, c22, c23, c24, c25, c26, c27, c28, c29, c30, c31, c32, c33, c34, c35, c36, c37, c38, c39, c40, c41, c42, c43, .inr (5, [.ref 45, .ref 46, .ref 47, .ref 48, .ref 49, .int 0, .ref 50, .ref 51, .int 0, .ref 52, .ref 53, .ref 54, .ref 55, .int 0, .int 0, .int 0, .int 0, .int 0, .int 0]), .inl (82, .inl (z_fo 9 1 (z_fo 3 100 (fun _ => 0) 6) 13)), z_zi 82, z_zi 82, z_zi 82, z_zi 82, z_zi 8, z_zi 120, .inl (4, .inl (z_fu 4 (-1))), z_zi 4, z_zl 160, z_zi 12])
  refine us rfl rfl rfl ?_
  refine us rfl rfl rfl ?_
  refine us rfl rfl rfl ?_
  refine us rfl rfl rfl ?_
  refine us rfl rfl rfl ?_
  refine us rfl rfl rfl ?_
  refine us rfl rfl rfl ?_
  refine us rfl rfl rfl ?_
  refine us rfl rfl rfl ?_
  refine us rfl rfl rfl ?_
  refine us rfl rfl rfl ?_
  refine us rfl rfl rfl ?_
  show zU X 113 109 [(0, .ref 44), (1, .int 1)] [] [c0, c1, c2, c3, c4, c5, c6, c7, c8, c9, c10, c11, c12, c13, c14, c15, c16, c17, c18, c19, c20, c21, c22, c23, c24, c25, c26, c27, c28, c29, c30, c31, c32, c33, c34, c35, c36, c37, c38, c39, c40, c41, c42, c43, .inr (5, [.ref 45, .ref 46, .ref 47, .ref 48, .ref 49, .int 0, .ref 50, .ref 51, .int 0, .ref 52, .ref 53, .ref 54, .ref 55, .int 0, .int 0, .int 0, .int 0, .int 0, .int 0]), .inl (82, .inl (z_fo 3 100 (fun _ => 0) 1)), z_zi 82, z_zi 82, z_zi 82, z_zi 82, z_zi 8, z_zi 120, .inl (4, .inl (z_fu 4 (-1))), z_zi 4, z_zl 160, z_zi 12] (none, [c0, c1, c2, c3, c4, c5, c6, c7, c8, c9, c10, c11, c12, c13, c14, c15, c16, c17, c18, c19, c20, c21, c22, c23, c24, c25, c26, c27, c28, c29, c30, c31, c32, c33, c34, c35, c36, c37, c38, c39, c40, c41, c42, c43, .inr (5, [.ref 45, .ref 46, .ref 47, .ref 48, .ref 49, .int 0, .ref 50, .ref 51, .int 0, .ref 52, .ref 53, .ref 54, .ref 55, .int 0, .int 0, .int 0, .int 0, .int 0, .int 0]), .inl (82, .inl (z_fo 9 1 (z_fo 3 100 (fun _ => 0) 6) 13)), z_zi 82, z_zi 82, z_zi 82, z_zi 82, z_zi 8, z_zi 120, .inl (4, .inl (z_fu 4 (-1))), z_zi 4, z_zl 160, z_zi 12])
  refine us rfl rfl rfl ?_
  refine us rfl rfl rfl ?_
  refine us rfl rfl rfl ?_
  refine us rfl rfl rfl ?_
  refine us rfl rfl rfl ?_
  refine us rfl rfl rfl ?_
  refine us rfl rfl rfl ?_
  refine us rfl rfl rfl ?_
  refine us rfl rfl rfl ?_
  refine us rfl rfl rfl ?_
  refine us rfl rfl rfl ?_
  refine us rfl rfl rfl ?_
  show zU X 113 109 [(0, .ref 44), (1, .int 2)] [] [c0, c1, c2, c3, c4, c5, c6, c7, c8, c9, c10, c11, c12, c13, c14, c15, c16, c17, c18, c19, c20, c21, c22, c23, c24, c25, c26, c27, c28, c29, c30, c31, c32, c33, c34, c35, c36, c37, c38, c39, c40, c41, c42, c43, .inr (5, [.ref 45, .ref 46, .ref 47, .ref 48, .ref 49, .int 0, .ref 50, .ref 51, .int 0, .ref 52, .ref 53, .ref 54, .ref 55, .int 0, .int 0, .int 0, .int 0, .int 0, .int 0]), .inl (82, .inl (z_fo 3 100 (fun _ => 0) 2)), z_zi 82, z_zi 82, z_zi 82, z_zi 82, z_zi 8, z_zi 120, .inl (4, .inl (z_fu 4 (-1))), z_zi 4, z_zl 160, z_zi 12] (none, [c0, c1, c2, c3, c4, c5, c6, c7, c8, c9, c10, c11, c12, c13, c14, c15, c16, c17, c18, c19, c20, c21, c22, c23, c24, c25, c26, c27, c28, c29, c30, c31, c32, c33, c34, c35, c36, c37, c38, c39, c40, c41, c42, c43, .inr (5, [.ref 45, .ref 46, .ref 47, .ref 48, .ref 49, .int 0, .ref 50, .ref 51, .int 0, .ref 52, .ref 53, .ref 54, .ref 55, .int 0, .int 0, .int 0, .int 0, .int 0, .int 0]), .inl (82, .inl (z_fo 9 1 (z_fo 3 100 (fun _ => 0) 6) 13)), z_zi 82, z_zi 82, z_zi 82, z_zi 82, z_zi 8, z_zi 120, .inl (4, .inl (z_fu 4 (-1))), z_zi 4, z_zl 160, z_zi 12])
  refine us rfl rfl rfl ?_
  refine us rfl rfl rfl ?_
  refine us rfl rfl rfl ?_
  refine us rfl rfl rfl ?_
  refine us rfl rfl rfl ?_
  refine us rfl rfl rfl ?_
  refine us rfl rfl rfl ?_
  refine us rfl rfl rfl ?_
  refine us rfl rfl rfl ?_
  refine us rfl rfl rfl ?_
  refine us rfl rfl rfl ?_
  refine us rfl rfl rfl ?_
  show zU X 113 109 [(0, .ref 44), (1, .int 3)] [] [c0, c1, c2, c3, c4, c5, c6, c7, c8, c9, c10, c11, c12, c13, c14, c15, c16, c17, c18, c19, c20, c21, c22, c23, c24, c25, c26, c27, c28, c29, c30, c31, c32, c33, c34, c35, c36, c37, c38, c39, c40, c41, c42, c43, .inr (5, [.ref 45, .ref 46, .ref 47, .ref 48, .ref 49, .int 0, .ref 50, .ref 51, .int 0, .ref 52, .ref 53, .ref 54, .ref 55, .int 0, .int 0, .int 0, .int 0, .int 0, .int 0]), .inl (82, .inl (z_fo 3 100 (fun _ => 0) 3)), z_zi 82, z_zi 82, z_zi 82, z_zi 82, z_zi 8, z_zi 120, .inl (4, .inl (z_fu 4 (-1))), z_zi 4, z_zl 160, z_zi 12] (none, [c0, c1, c2, c3, c4, c5, c6, c7, c8, c9, c10, c11, c12, c13, c14, c15, c16, c17, c18, c19, c20, c21, c22, c23, c24, c25, c26, c27, c28, c29, c30, c31, c32, c33, c34, c35, c36, c37, c38, c39, c40, c41, c42, c43, .inr (5, [.ref 45, .ref 46, .ref 47, .ref 48, .ref 49, .int 0, .ref 50, .ref 51, .int 0, .ref 52, .ref 53, .ref 54, .ref 55, .int 0, .int 0, .int 0, .int 0, .int 0, .int 0]), .inl (82, .inl (z_fo 9 1 (z_fo 3 100 (fun _ => 0) 6) 13)), z_zi 82, z_zi 82, z_zi 82, z_zi 82, z_zi 8, z_zi 120, .inl (4, .inl (z_fu 4 (-1))), z_zi 4, z_zl 160, z_zi 12])
  refine us rfl rfl rfl ?_
  refine us rfl rfl rfl ?_
  refine us rfl rfl rfl ?_
  refine us rfl rfl rfl ?_
  refine us rfl rfl rfl ?_
  refine us rfl rfl rfl ?_
  refine us rfl rfl rfl ?_
  refine us rfl rfl rfl ?_
  refine us rfl rfl rfl ?_
  refine us rfl rfl rfl ?_
  refine us rfl rfl rfl ?_
  refine us rfl rfl rfl ?_
  show zU X 113 109 [(0, .ref 44), (1, .int 4)] [] [c0, c1, c2, c3, c4, c5, c6, c7, c8, c9, c10, c11, c12, c13, c14, c15, c16, c17, c18, c19, c20, c21, c22, c23, c24, c25, c26, c27, c28, c29, c30, c31, c32, c33, c34, c35, c36, c37, c38, c39, c40, c41, c42, c43, .inr (5, [.ref 45, .ref 46, .ref 47, .ref 48, .ref 49, .int 0, .ref 50, .ref 51, .int 0, .ref 52, .ref 53, .ref 54, .ref 55, .int 0, .int 0, .int 0, .int 0, .int 0, .int 0]), .inl (82, .inl (z_fo 3 100 (fun _ => 0) 4)), z_zi 82, z_zi 82, z_zi 82, z_zi 82, z_zi 8, z_zi 120, .inl (4, .inl (z_fu 4 (-1))), z_zi 4, z_zl 160, z_zi 12] (none, [c0, c1, c2, c3, c4, c5, c6, c7, c8, c9, c10, c11, c12, c13, c14, c15, c16, c17, c18, c19, c20, c21, c22, c23, c24, c25, c26, c27, c28, c29, c30, c31, c32, c33, c34, c35, c36, c37, c38, c39, c40, c41, c42, c43, .inr (5, [.ref 45, .ref 46, .ref 47, .ref 48, .ref 49, .int 0, .ref 50, .ref 51, .int 0, .ref 52, .ref 53, .ref 54, .ref 55, .int 0, .int 0, .int 0, .int 0, .int 0, .int 0]), .inl (82, .inl (z_fo 9 1 (z_fo 3 100 (fun _ => 0) 6) 13)), z_zi 82, z_zi 82, z_zi 82, z_zi 82, z_zi 8, z_zi 120, .inl (4, .inl (z_fu 4 (-1))), z_zi 4, z_zl 160, z_zi 12])
  refine us rfl rfl rfl ?_
  refine us rfl rfl rfl ?_
  refine us rfl rfl rfl ?_
  refine us rfl rfl rfl ?_
  refine us rfl rfl rfl ?_
  refine us rfl rfl rfl ?_
  refine us rfl rfl rfl ?_
  refine us rfl rfl rfl ?_
  refine us rfl rfl rfl ?_
  refine us rfl rfl rfl ?_
  refine us rfl rfl rfl ?_
  refine us rfl rfl rfl ?_
  show zU X 113 109 [(0, .ref 44), (1, .int 5)] [] [c0, c1, c2, c3, c4, c5, c6, c7, c8, c9, c10, c11, c12, c13, c14, c15, c16, c17, c18, c19, c20, c21, c22, c23, c24, c25, c26, c27, c28, c29, c30, c31, c32, c33, c34, c35, c36, c37, c38, c39, c40, c41, c42, c43, .inr (5, [.ref 45, .ref 46, .ref 47, .ref 48, .ref 49, .int 0, .ref 50, .ref 51, .int 0, .ref 52, .ref 53, .ref 54, .ref 55, .int 0, .int 0, .int 0, .int 0, .int 0, .int 0]), .inl (82, .inl (z_fo 3 100 (fun _ => 0) 5)), z_zi 82, z_zi 82, z_zi 82, z_zi 82, z_zi 8, z_zi 120, .inl (4, .inl (z_fu 4 (-1))), z_zi 4, z_zl 160, z_zi 12] (none, [c0, c1, c2, c3, c4, c5, c6, c7, c8, c9, c10, c11, c12, c13, c14, c15, c16, c17, c18, c19, c20, c21, c22, c23, c24, c25, c26, c27, c28, c29, c30, c31, c32, c33, c34, c35, c36, c37, c38, c39, c40, c41, c42, c43, .inr (5, [.ref 45, .ref 46, .ref 47, .ref 48, .ref 49, .int 0, .ref 50, .ref 51, .int 0, .ref 52, .ref 53, .ref 54, .ref 55, .int 0, .int 0, .int 0, .int 0, .int 0, .int 0]), .inl (82, .inl (z_fo 9 1 (z_fo 3 100 (fun _ => 0) 6) 13)), z_zi 82, z_zi 82, z_zi 82, z_zi 82, z_zi 8, z_zi 120, .inl (4, .inl (z_fu 4 (-1))), z_zi 4, z_zl 160, z_zi 12])
  refine us rfl rfl rfl ?_
  refine us rfl rfl rfl ?_
  refine us rfl rfl rfl ?_
  refine us rfl rfl rfl ?_
  refine us rfl rfl rfl ?_
  refine us rfl rfl rfl ?_
  refine us rfl rfl rfl ?_
  refine us rfl rfl rfl ?_
  refine us rfl rfl rfl ?_
  refine us rfl rfl rfl ?_
  refine us rfl rfl rfl ?_
  refine us rfl rfl rfl ?_
  show zU X 113 109 [(0, .ref 44), (1, .int 6)] [] [c0, c1, c2, c3, c4, c5, c6, c7, c8, c9, c10, c11, c12, c13, c14, c15, c16, c17, c18, c19, c20, c21, c22, c23, c24, c25, c26, c27, c28, c29, c30, c31, c32, c33, c34, c35, c36, c37, c38, c39, c40, c41, c42, c43, .inr (5, [.ref 45, .ref 46, .ref 47, .ref 48, .ref 49, .int 0, .ref 50, .ref 51, .int 0, .ref 52, .ref 53, .ref 54, .ref 55, .int 0, .int 0, .int 0, .int 0, .int 0, .int 0]), .inl (82, .inl (z_fo 3 100 (fun _ => 0) 6)), z_zi 82, z_zi 82, z_zi 82, z_zi 82, z_zi 8, z_zi 120, .inl (4, .inl (z_fu 4 (-1))), z_zi 4, z_zl 160, z_zi 12] (none, [c0, c1, c2, c3, c4, c5, c6, c7, c8, c9, c10, c11, c12, c13, c14, c15, c16, c17, c18, c19, c20, c21, c22, c23, c24, c25, c26, c27, c28, c29, c30, c31, c32, c33, c34, c35, c36, c37, c38, c39, c40, c41, c42, c43, .inr (5, [.ref 45, .ref 46, .ref 47, .ref 48, .ref 49, .int 0, .ref 50, .ref 51, .int 0, .ref 52, .ref 53, .ref 54, .ref 55, .int 0, .int 0, .int 0, .int 0, .int 0, .int 0]), .inl (82, .inl (z_fo 9 1 (z_fo 3 100 (fun _ => 0) 6) 13)), z_zi 82, z_zi 82, z_zi 82, z_zi 82, z_zi 8, z_zi 120, .inl (4, .inl (z_fu 4 (-1))), z_zi 4, z_zl 160, z_zi 12])
  refine us rfl rfl rfl ?_
  refine us rfl rfl rfl ?_
  refine us rfl rfl rfl ?_
  refine us rfl rfl rfl ?_
  refine us rfl rfl rfl ?_
  show zU X 113 133 [(0, .ref 44), (1, .int 0)] [] [c0, c1, c2, c3, c4, c5, c6, c7, c8, c9, c10, c11, c12, c13, c14, c15, c16, c17, c18, c19, c20, c21, c22, c23, c24, c25, c26, c27, c28, c29, c30, c31, c32, c33, c34, c35, c36, c37, c38, c39, c40, c41, c42, c43, .inr (5, [.ref 45, .ref 46, .ref 47, .ref 48, .ref 49, .int 0, .ref 50, .ref 51, .int 0, .ref 52, .ref 53, .ref 54, .ref 55, .int 0, .int 0, .int 0, .int 0, .int 0, .int 0]), .inl (82, .inl (z_fo 9 1 (z_fo 3 100 (fun _ => 0) 6) 0)), z_zi 82, z_zi 82, z_zi 82, z_zi 82, z_zi 8, z_zi 120, .inl (4, .inl (z_fu 4 (-1))), z_zi 4, z_zl 160, z_zi 12] (none, [c0, c1, c2, c3, c4, c5, c6, c7, c8, c9, c10, c11, c12, c13, c14, c15, c16, c17, c18, c19, c20, c21, c22, c23, c24, c25, c26, c27, c28, c29, c30, c31, c32, c33, c34, c35, c36, c37, c38, c39, c40, c41, c42, c43, .inr (5, [.ref 45, .ref 46, .ref 47, .ref 48, .ref 49, .int 0, .ref 50, .ref 51, .int 0, .ref 52, .ref 53, .ref 54, .ref 55, .int 0, .int 0, .int 0, .int 0, .int 0, .int 0]), .inl (82, .inl (z_fo 9 1 (z_fo 3 100 (fun _ => 0) 6) 13)), z_zi 82, z_zi 82, z_zi 82, z_zi 82, z_zi 8, z_zi 120, .inl (4, .inl (z_fu 4 (-1))), z_zi 4, z_zl 160, z_zi 12])
  refine us rfl rfl rfl ?_
  refine us rfl rfl rfl ?_
  refine us rfl rfl rfl ?_
  refine us rfl rfl rfl ?_
  refine us rfl rfl rfl ?_
  refine us rfl rfl rfl ?_
  refine us rfl rfl rfl ?_
  refine us rfl rfl rfl ?_
  refine us rfl rfl rfl ?_
  refine us rfl rfl rfl ?_
  refine us rfl rfl rfl ?_
  refine us rfl rfl rfl ?_
  show zU X 113 133 [(0, .ref 44), (1, .int 1)] [] [c0, c1, c2, c3, c4, c5, c6, c7, c8, c9, c10, c11, c12, c13, c14, c15, c16, c17, c18, c19, c20, c21, c22, c23, c24, c25, c26, c27, c28, c29, c30, c31, c32, c33, c34, c35, c36, c37, c38, c39, c40, c41, c42, c43, .inr (5, [.ref 45, .ref 46, .ref 47, .ref 48, .ref 49, .int 0, .ref 50, .ref 51, .int 0, .ref 52, .ref 53, .ref 54, .ref 55, .int 0, .int 0, .int 0, .int 0, .int 0, .int 0]), .inl (82, .inl (z_fo 9 1 (z_fo 3 100 (fun _ => 0) 6) 1)), z_zi 82, z_zi 82, z_zi 82, z_zi 82, z_zi 8, z_zi 120, .inl (4, .inl (z_fu 4 (-1))), z_zi 4, z_zl 160, z_zi 12] (none, [c0, c1, c2, c3, c4, c5, c6, c7, c8, c9, c10, c11, c12, c13, c14, c15, c16, c17, c18, c19, c20, c21, c22, c23, c24, c25, c26, c27, c28, c29, c30, c31, c32, c33, c34, c35, c36, c37, c38, c39, c40, c41, c42, c43, .inr (5, [.ref 45, .ref 46, .ref 47, .ref 48, .ref 49, .int 0, .ref 50, .ref 51, .int 0, .ref 52, .ref 53, .ref 54, .ref 55, .int 0, .int 0, .int 0, .int 0, .int 0, .int 0]), .inl (82, .inl (z_fo 9 1 (z_fo 3 100 (fun _ => 0) 6) 13)), z_zi 82, z_zi 82, z_zi 82, z_zi 82, z_zi 8, z_zi 120, .inl (4, .inl (z_fu 4 (-1))), z_zi 4, z_zl 160, z_zi 12])
  refine us rfl rfl rfl ?_
  refine us rfl rfl rfl ?_
  refine us rfl rfl rfl ?_
  refine us rfl rfl rfl ?_
  refine us rfl rfl rfl ?_
  refine us rfl rfl rfl ?_
  refine us rfl rfl rfl ?_
  refine us rfl rfl rfl ?_
  refine us rfl rfl rfl ?_
  refine us rfl rfl rfl ?_
  refine us rfl rfl rfl ?_
  refine us rfl rfl rfl ?_
  show zU X 113 133 [(0, .ref 44), (1, .int 2)] [] [c0, c1, c2, c3, c4, c5, c6, c7, c8, c9, c10, c11, c12, c13, c14, c15, c16, c17, c18, c19, c20, c21, c22, c23, c24, c25, c26, c27, c28, c29, c30, c31, c32, c33, c34, c35, c36, c37, c38, c39, c40, c41, c42, c43, .inr (5, [.ref 45, .ref 46, .ref 47, .ref 48, .ref 49, .int 0, .ref 50, .ref 51, .int 0, .ref 52, .ref 53, .ref 54, .ref 55, .int 0, .int 0, .int 0, .int 0, .int 0, .int 0]), .inl (82, .inl (z_fo 9 1 (z_fo 3 100 (fun _ => 0) 6) 2)), z_zi 82, z_zi 82, z_zi 82, z_zi 82, z_zi 8, z_zi 120, .inl (4, .inl (z_fu 4 (-1))), z_zi 4, z_zl 160, z_zi 12] (none, [c0, c1, c2, c3, c4, c5, c6, c7, c8, c9, c10, c11, c12, c13, c14, c15, c16, c17, c18, c19, c20, c21, c22, c23, c24, c25, c26, c27, c28, c29, c30, c31, c32, c33, c34, c35, c36, c37, c38, c39, c40, c41, c42, c43, .inr (5, [.ref 45, .ref 46, .ref 47, .ref 48, .ref 49, .int 0, .ref 50, .ref 51, .int 0, .ref 52, .ref 53, .ref 54, .ref 55, .int 0, .int 0, .int 0, .int 0, .int 0, .int 0]), .inl (82, .inl (z_fo 9 1 (z_fo 3 100 (fun _ => 0) 6) 13)), z_zi 82, z_zi 82, z_zi 82, z_zi 82, z_zi 8, z_zi 120, .inl (4, .inl (z_fu 4 (-1))), z_zi 4, z_zl 160, z_zi 12])
  refine us rfl rfl rfl ?_
  refine us rfl rfl rfl ?_
  refine us rfl rfl rfl ?_
  refine us rfl rfl rfl ?_
  refine us rfl rfl rfl ?_
  refine us rfl rfl rfl ?_
  refine us rfl rfl rfl ?_
  refine us rfl rfl rfl ?_
  refine us rfl rfl rfl ?_
  refine us rfl rfl rfl ?_
  refine us rfl rfl rfl ?_
  refine us rfl rfl rfl ?_
  show zU X 113 133 [(0, .ref 44), (1, .int 3)] [] [c0, c1, c2, c3, c4, c5, c6, c7, c8, c9, c10, c11, c12, c13, c14, c15, c16, c17, c18, c19, c20, c21, c22, c23, c24, c25, c26, c27, c28, c29, c30, c31, c32, c33, c34, c35, c36, c37, c38, c39, c40, c41, c42, c43, .inr (5, [.ref 45, .ref 46, .ref 47, .ref 48, .ref 49, .int 0, .ref 50, .ref 51, .int 0, .ref 52, .ref 53, .ref 54, .ref 55, .int 0, .int 0, .int 0, .int 0, .int 0, .int 0]), .inl (82, .inl (z_fo 9 1 (z_fo 3 100 (fun _ => 0) 6) 3)), z_zi 82, z_zi 82, z_zi 82, z_zi 82, z_zi 8, z_zi 120, .inl (4, .inl (z_fu 4 (-1))), z_zi 4, z_zl 160, z_zi 12] (none, [c0, c1, c2, c3, c4, c5, c6, c7, c8, c9, c10, c11, c12, c13, c14, c15, c16, c17, c18, c19, c20, c21, c22, c23, c24, c25, c26, c27, c28, c29, c30, c31, c32, c33, c34, c35, c36, c37, c38, c39, c40, c41, c42, c43, .inr (5, [.ref 45, .ref 46, .ref 47, .ref 48, .ref 49, .int 0, .ref 50, .ref 51, .int 0, .ref 52, .ref 53, .ref 54, .ref 55, .int 0, .int 0, .int 0, .int 0, .int 0, .int 0]), .inl (82, .inl (z_fo 9 1 (z_fo 3 100 (fun _ => 0) 6) 13)), z_zi 82, z_zi 82, z_zi 82, z_zi 82, z_zi 8, z_zi 120, .inl (4, .inl (z_fu 4 (-1))), z_zi 4, z_zl 160, z_zi 12])
  refine us rfl rfl rfl ?_
  refine us rfl rfl rfl ?_
  refine us rfl rfl rfl ?_
  refine us rfl rfl rfl ?_
  refine us rfl rfl rfl ?_
  refine us rfl rfl rfl ?_
  refine us rfl rfl rfl ?_
  refine us rfl rfl rfl ?_
  refine us rfl rfl rfl ?_
  refine us rfl rfl rfl ?_
  refine us rfl rfl rfl ?_
  refine us rfl rfl rfl ?_
  show zU X 113 133 [(0, .ref 44), (1, .int 4)] [] [c0, c1, c2, c3, c4, c5, c6, c7, c8, c9, c10, c11, c12, c13, c14, c15, c16, c17, c18, c19, c20, c21, c22, c23, c24, c25, c26, c27, c28, c29, c30, c31, c32, c33, c34, c35, c36, c37, c38, c39, c40, c41, c42, c43, .inr (5, [.ref 45, .ref 46, .ref 47, .ref 48, .ref 49, .int 0, .ref 50, .ref 51, .int 0, .ref 52, .ref 53, .ref 54, .ref 55, .int 0, .int 0, .int 0, .int 0, .int 0, .int 0]), .inl (82, .inl (z_fo 9 1 (z_fo 3 100 (fun _ => 0) 6) 4)), z_zi 82, z_zi 82, z_zi 82, z_zi 82, z_zi 8, z_zi 120, .inl (4, .inl (z_fu 4 (-1))), z_zi 4, z_zl 160, z_zi 12] (none, [c0, c1, c2, c3, c4, c5, c6, c7, c8, c9, c10, c11, c12, c13, c14, c15, c16, c17, c18, c19, c20, c21, c22, c23, c24, c25, c26, c27, c28, c29, c30, c31, c32, c33, c34, c35, c36, c37, c38, c39, c40, c41, c42, c43, .inr (5, [.ref 45, .ref 46, .ref 47, .ref 48, .ref 49, .int 0, .ref 50, .ref 51, .int 0, .ref 52, .ref 53, .ref 54, .ref 55, .int 0, .int 0, .int 0, .int 0, .int 0, .int 0]), .inl (82, .inl (z_fo 9 1 (z_fo 3 100 (fun _ => 0) 6) 13)), z_zi 82, z_zi 82, z_zi 82, z_zi 82, z_zi 8, z_zi 120, .inl (4, .inl (z_fu 4 (-1))), z_zi 4, z_zl 160, z_zi 12])
  refine us rfl rfl rfl ?_
  refine us rfl rfl rfl ?_
  refine us rfl rfl rfl ?_
  refine us rfl rfl rfl ?_
  refine us rfl rfl rfl ?_
  refine us rfl rfl rfl ?_
  refine us rfl rfl rfl ?_
  refine us rfl rfl rfl ?_
  refine us rfl rfl rfl ?_
  refine us rfl rfl rfl ?_
  refine us rfl rfl rfl ?_
  refine us rfl rfl rfl ?_
  show zU X 113 133 [(0, .ref 44), (1, .int 5)] [] [c0, c1, c2, c3, c4, c5, c6, c7, c8, c9, c10, c11, c12, c13, c14, c15, c16, c17, c18, c19, c20, c21, c22, c23, c24, c25, c26, c27, c28, c29, c30, c31, c32, c33, c34, c35, c36, c37, c38, c39, c40, c41, c42, c43, .inr (5, [.ref 45, .ref 46, .ref 47, .ref 48, .ref 49, .int 0, .ref 50, .ref 51, .int 0, .ref 52, .ref 53, .ref 54, .ref 55, .int 0, .int 0, .int 0, .int 0, .int 0, .int 0]), .inl (82, .inl (z_fo 9 1 (z_fo 3 100 (fun _ => 0) 6) 5)), z_zi 82, z_zi 82, z_zi 82, z_zi 82, z_zi 8, z_zi 120, .inl (4, .inl (z_fu 4 (-1))), z_zi 4, z_zl 160, z_zi 12] (none, [c0, c1, c2, c3, c4, c5, c6, c7, c8, c9, c10, c11, c12, c13, c14, c15, c16, c17, c18, c19, c20, c21, c22, c23, c24, c25, c26, c27, c28, c29, c30, c31, c32, c33, c34, c35, c36, c37, c38, c39, c40, c41, c42, c43, .inr (5, [.ref 45, .ref 46, .ref 47, .ref 48, .ref 49, .int 0, .ref 50, .ref 51, .int 0, .ref 52, .ref 53, .ref 54, .ref 55, .int 0, .int 0, .int 0, .int 0, .int 0, .int 0]), .inl (82, .inl (z_fo 9 1 (z_fo 3 100 (fun _ => 0) 6) 13)), z_zi 82, z_zi 82, z_zi 82, z_zi 82, z_zi 8, z_zi 120, .inl (4, .inl (z_fu 4 (-1))), z_zi 4, z_zl 160, z_zi 12])
  refine us rfl rfl rfl ?_
  refine us rfl rfl rfl ?_
  refine us rfl rfl rfl ?_
  refine us rfl rfl rfl ?_
  refine us rfl rfl rfl ?_
  refine us rfl rfl rfl ?_
  refine us rfl rfl rfl ?_
  refine us rfl rfl rfl ?_
  refine us rfl rfl rfl ?_
  refine us rfl rfl rfl ?_
  refine us rfl rfl rfl ?_
  refine us rfl rfl rfl ?_
  show zU X 113 133 [(0, .ref 44), (1, .int 6)] [] [c0, c1, c2, c3, c4, c5, c6, c7, c8, c9, c10, c11, c12, c13, c14, c15, c16, c17, c18, c19, c20, c21, c22, c23, c24, c25, c26, c27, c28, c29, c30, c31, c32, c33, c34, c35, c36, c37, c38, c39, c40, c41, c42, c43, .inr (5, [.ref 45, .ref 46, .ref 47, .ref 48, .ref 49, .int 0, .ref 50, .ref 51, .int 0, .ref 52, .ref 53, .ref 54, .ref 55, .int 0, .int 0, .int 0, .int 0, .int 0, .int 0]), .inl (82, .inl (z_fo 9 1 (z_fo 3 100 (fun _ => 0) 6) 6)), z_zi 82, z_zi 82, z_zi 82, z_zi 82, z_zi 8, z_zi 120, .inl (4, .inl (z_fu 4 (-1))), z_zi 4, z_zl 160, z_zi 12] (none, [c0, c1, c2, c3, c4, c5, c6, c7, c8, c9, c10, c11, c12, c13, c14, c15, c16, c17, c18, c19, c20, c21, c22, c23, c24, c25, c26, c27, c28, c29, c30, c31, c32, c33, c34, c35, c36, c37, c38, c39, c40, c41, c42, c43, .inr (5, [.ref 45, .ref 46, .ref 47, .ref 48, .ref 49, .int 0, .ref 50, .ref 51, .int 0, .ref 52, .ref 53, .ref 54, .ref 55, .int 0, .int 0, .int 0, .int 0, .int 0, .int 0]), .inl (82, .inl (z_fo 9 1 (z_fo 3 100 (fun _ => 0) 6) 13)), z_zi 82, z_zi 82, z_zi 82, z_zi 82, z_zi 8, z_zi 120, .inl (4, .inl (z_fu 4 (-1))), z_zi 4, z_zl 160, z_zi 12])
  refine us rfl rfl rfl ?_
  refine us rfl rfl rfl ?_
  refine us rfl rfl rfl ?_
  refine us rfl rfl rfl ?_
  refine us rfl rfl rfl ?_
  refine us rfl rfl rfl ?_
  refine us rfl rfl rfl ?_
  refine us rfl rfl rfl ?_
  refine us rfl rfl rfl ?_
  refine us rfl rfl rfl ?_
  refine us rfl rfl rfl ?_
  refine us rfl rfl rfl ?_
  show zU X 113 133 [(0, .ref 44), (1, .int 7)] [] [c0, c1, c2, c3, c4, c5, c6, c7, c8, c9, c10, c11, c12, c13, c14, c15, c16, c17, c18, c19, c20, c21, c22, c23, c24, c25, c26, c27, c28, c29, c30, c31, c32, c33, c34, c35, c36, c37, c38, c39, c40, c41, c42, c43, .inr (5, [.ref 45, .ref 46, .ref 47, .ref 48, .ref 49, .int 0, .ref 50, .ref 51, .int 0, .ref 52, .ref 53, .ref 54, .ref 55, .int 0, .int 0, .int 0, .int 0, .int 0, .int 0]), .inl (82, .inl (z_fo 9 1 (z_fo 3 100 (fun _ => 0) 6) 7)), z_zi 82, z_zi 82, z_zi 82, z_zi 82, z_zi 8, z_zi 120, .inl (4, .inl (z_fu 4 (-1))), z_zi 4, z_zl 160, z_zi 12] (none, [c0, c1, c2, c3, c4, c5, c6, c7, c8, c9, c10, c11, c12, c13, c14, c15, c16, c17, c18, c19, c20, c21, c22, c23, c24, c25, c26, c27, c28, c29, c30, c31, c32, c33, c34, c35, c36, c37, c38, c39, c40, c41, c42, c43, .inr (5, [.ref 45, .ref 46, .ref 47, .ref 48, .ref 49, .int 0, .ref 50, .ref 51, .int 0, .ref 52, .ref 53, .ref 54, .ref 55, .int 0, .int 0, .int 0, .int 0, .int 0, .int 0]), .inl (82, .inl (z_fo 9 1 (z_fo 3 100 (fun _ => 0) 6) 13)), z_zi 82, z_zi 82, z_zi 82, z_zi 82, z_zi 8, z_zi 120, .inl (4, .inl (z_fu 4 (-1))), z_zi 4, z_zl 160, z_zi 12])
  refine us rfl rfl rfl ?_
  refine us rfl rfl rfl ?_
  refine us rfl rfl rfl ?_
  refine us rfl rfl rfl ?_
  refine us rfl rfl rfl ?_
  refine us rfl rfl rfl ?_
  refine us rfl rfl rfl ?_
  refine us rfl rfl rfl ?_
  refine us rfl rfl rfl ?_
  refine us rfl rfl rfl ?_
  refine us rfl rfl rfl ?_
  refine us rfl rfl rfl ?_
  show zU X 113 133 [(0, .ref 44), (1, .int 8)] [] [c0, c1, c2, c3, c4, c5, c6, c7, c8, c9, c10, c11, c12, c13, c14, c15, c16, c17, c18, c19, c20, c21, c22, c23, c24, c25, c26, c27, c28, c29, c30, c31, c32, c33, c34, c35, c36, c37, c38, c39, c40, c41, c42, c43, .inr (5, [.ref 45, .ref 46, .ref 47, .ref 48, .ref 49, .int 0, .ref 50, .ref 51, .int 0, .ref 52, .ref 53, .ref 54, .ref 55, .int 0, .int 0, .int 0, .int 0, .int 0, .int 0]), .inl (82, .inl (z_fo 9 1 (z_fo 3 100 (fun _ => 0) 6) 8)), z_zi 82, z_zi 82, z_zi 82, z_zi 82, z_zi 8, z_zi 120, .inl (4, .inl (z_fu 4 (-1))), z_zi 4, z_zl 160, z_zi 12] (none, [c0, c1, c2, c3, c4, c5, c6, c7, c8, c9, c10, c11, c12, c13, c14, c15, c16, c17, c18, c19, c20, c21, c22, c23, c24, c25, c26, c27, c28, c29, c30, c31, c32, c33, c34, c35, c36, c37, c38, c39, c40, c41, c42, c43, .inr (5, [.ref 45, .ref 46, .ref 47, .ref 48, .ref 49, .int 0, .ref 50, .ref 51, .int 0, .ref 52, .ref 53, .ref 54, .ref 55, .int 0, .int 0, .int 0, .int 0, .int 0, .int 0]), .inl (82, .inl (z_fo 9 1 (z_fo 3 100 (fun _ => 0) 6) 13)), z_zi 82, z_zi 82, z_zi 82, z_zi 82, z_zi 8, z_zi 120, .inl (4, .inl (z_fu 4 (-1))), z_zi 4, z_zl 160, z_zi 12])
  refine us rfl rfl rfl ?_
  refine us rfl rfl rfl ?_
  refine us rfl rfl rfl ?_
  refine us rfl rfl rfl ?_
  refine us rfl rfl rfl ?_
  refine us rfl rfl rfl ?_
  refine us rfl rfl rfl ?_
  refine us rfl rfl rfl ?_
  refine us rfl rfl rfl ?_
  refine us rfl rfl rfl ?_
  refine us rfl rfl rfl ?_
  refine us rfl rfl rfl ?_
  show zU X 113 133 [(0, .ref 44), (1, .int 9)] [] [c0, c1, c2, c3, c4, c5, c6, c7, c8, c9, c10, c11, c12, c13, c14, c15, c16, c17, c18, c19, c20, c21, c22, c23, c24, c25, c26, c27, c28, c29, c30, c31, c32, c33, c34, c35, c36, c37, c38, c39, c40, c41, c42, c43, .inr (5, [.ref 45, .ref 46, .ref 47, .ref 48, .ref 49, .int 0, .ref 50, .ref 51, .int 0, .ref 52, .ref 53, .ref 54, .ref 55, .int 0, .int 0, .int 0, .int 0, .int 0, .int 0]), .inl (82, .inl (z_fo 9 1 (z_fo 3 100 (fun _ => 0) 6) 9)), z_zi 82, z_zi 82, z_zi 82, z_zi 82, z_zi 8, z_zi 120, .inl (4, .inl (z_fu 4 (-1))), z_zi 4, z_zl 160, z_zi 12] (none, [c0, c1, c2, c3, c4, c5, c6, c7, c8, c9, c10, c11, c12, c13, c14, c15, c16, c17, c18, c19, c20, c21, c22, c23, c24, c25, c26, c27, c28, c29, c30, c31, c32, c33, c34, c35, c36, c37, c38, c39, c40, c41, c42, c43, .inr (5, [.ref 45, .ref 46, .ref 47, .ref 48, .ref 49, .int 0, .ref 50, .ref 51, .int 0, .ref 52, .ref 53, .ref 54, .ref 55, .int 0, .int 0, .int 0, .int 0, .int 0, .int 0]), .inl (82, .inl (z_fo 9 1 (z_fo 3 100 (fun _ => 0) 6) 13)), z_zi 82, z_zi 82, z_zi 82, z_zi 82, z_zi 8, z_zi 120, .inl (4, .inl (z_fu 4 (-1))), z_zi 4, z_zl 160, z_zi 12])
  refine us rfl rfl rfl ?_
  refine us rfl rfl rfl ?_
  refine us rfl rfl rfl ?_
  refine us rfl rfl rfl ?_
  refine us rfl rfl rfl ?_
  refine us rfl rfl rfl ?_
  refine us rfl rfl rfl ?_
  refine us rfl rfl rfl ?_
  refine us rfl rfl rfl ?_
  refine us rfl rfl rfl ?_
  refine us rfl rfl rfl ?_
  refine us rfl rfl rfl ?_
  show zU X 113 133 [(0, .ref 44), (1, .int 10)] [] [c0, c1, c2, c3, c4, c5, c6, c7, c8, c9, c10, c11, c12, c13, c14, c15, c16, c17, c18, c19, c20, c21, c22, c23, c24, c25, c26, c27, c28, c29, c30, c31, c32, c33, c34, c35, c36, c37, c38, c39, c40, c41, c42, c43, .inr (5, [.ref 45, .ref 46, .ref 47, .ref 48, .ref 49, .int 0, .ref 50, .ref 51, .int 0, .ref 52, .ref 53, .ref 54, .ref 55, .int 0, .int 0, .int 0, .int 0, .int 0, .int 0]), .inl (82, .inl (z_fo 9 1 (z_fo 3 100 (fun _ => 0) 6) 10)), z_zi 82, z_zi 82, z_zi 82, z_zi 82, z_zi 8, z_zi 120, .inl (4, .inl (z_fu 4 (-1))), z_zi 4, z_zl 160, z_zi 12] (none, [c0, c1, c2, c3, c4, c5, c6, c7, c8, c9, c10, c11, c12, c13, c14, c15, c16, c17, c18, c19, c20, c21, c22, c23, c24, c25, c26, c27, c28, c29, c30, c31, c32, c33, c34, c35, c36, c37, c38, c39, c40, c41, c42, c43, .inr (5, [.ref 45, .ref 46, .ref 47, .ref 48, .ref 49, .int 0, .ref 50, .ref 51, .int 0, .ref 52, .ref 53, .ref 54, .ref 55, .int 0, .int 0, .int 0, .int 0, .int 0, .int 0]), .inl (82, .inl (z_fo 9 1 (z_fo 3 100 (fun _ => 0) 6) 13)), z_zi 82, z_zi 82, z_zi 82, z_zi 82, z_zi 8, z_zi 120, .inl (4, .inl (z_fu 4 (-1))), z_zi 4, z_zl 160, z_zi 12])
  refine us rfl rfl rfl ?_
  refine us rfl rfl rfl ?_
  refine us rfl rfl rfl ?_
  refine us rfl rfl rfl ?_
  refine us rfl rfl rfl ?_
  refine us rfl rfl rfl ?_
  refine us rfl rfl rfl ?_
  refine us rfl rfl rfl ?_
  refine us rfl rfl rfl ?_
  refine us rfl rfl rfl ?_
  refine us rfl rfl rfl ?_
  refine us rfl rfl rfl ?_
  show zU X 113 133 [(0, .ref 44), (1, .int 11)] [] [c0, c1, c2, c3, c4, c5, c6, c7, c8, c9, c10, c11, c12, c13, c14, c15, c16, c17, c18, c19, c20, c21, c22, c23, c24, c25, c26, c27, c28, c29, c30, c31, c32, c33, c34, c35, c36, c37, c38, c39, c40, c41, c42, c43, .inr (5, [.ref 45, .ref 46, .ref 47, .ref 48, .ref 49, .int 0, .ref 50, .ref 51, .int 0, .ref 52, .ref 53, .ref 54, .ref 55, .int 0, .int 0, .int 0, .int 0, .int 0, .int 0]), .inl (82, .inl (z_fo 9 1 (z_fo 3 100 (fun _ => 0) 6) 11)), z_zi 82, z_zi 82, z_zi 82, z_zi 82, z_zi 8, z_zi 120, .inl (4, .inl (z_fu 4 (-1))), z_zi 4, z_zl 160, z_zi 12] (none, [c0, c1, c2, c3, c4, c5, c6, c7, c8, c9, c10, c11, c12, c13, c14, c15, c16, c17, c18, c19, c20, c21, c22, c23, c24, c25, c26, c27, c28, c29, c30, c31, c32, c33, c34, c35, c36, c37, c38, c39, c40, c41, c42, c43, .inr (5, [.ref 45, .ref 46, .ref 47, .ref 48, .ref 49, .int 0, .ref 50, .ref 51, .int 0, .ref 52, .ref 53, .ref 54, .ref 55, .int 0, .int 0, .int 0, .int 0, .int 0, .int 0]), .inl (82, .inl (z_fo 9 1 (z_fo 3 100 (fun _ => 0) 6) 13)), z_zi 82, z_zi 82, z_zi 82, z_zi 82, z_zi 8, z_zi 120, .inl (4, .inl (z_fu 4 (-1))), z_zi 4, z_zl 160, z_zi 12])
  refine us rfl rfl rfl ?_
  refine us rfl rfl rfl ?_
  refine us rfl rfl rfl ?_
  refine us rfl rfl rfl ?_
  refine us rfl rfl rfl ?_
  refine us rfl rfl rfl ?_
  refine us rfl rfl rfl ?_
  refine us rfl rfl rfl ?_
  refine us rfl rfl rfl ?_
  refine us rfl rfl rfl ?_
  refine us rfl rfl rfl ?_
  refine us rfl rfl rfl ?_
  show zU X 113 133 [(0, .ref 44), (1, .int 12)] [] [c0, c1, c2, c3, c4, c5, c6, c7, c8, c9, c10, c11, c12, c13, c14, c15, c16, c17, c18, c19, c20, c21, c22, c23, c24, c25, c26, c27, c28, c29, c30, c31, c32, c33, c34, c35, c36, c37, c38, c39, c40, c41, c42, c43, .inr (5, [.ref 45, .ref 46, .ref 47, .ref 48, .ref 49, .int 0, .ref 50, .ref 51, .int 0, .ref 52, .ref 53, .ref 54, .ref 55, .int 0, .int 0, .int 0, .int 0, .int 0, .int 0]), .inl (82, .inl (z_fo 9 1 (z_fo 3 100 (fun _ => 0) 6) 12)), z_zi 82, z_zi 82, z_zi 82, z_zi 82, z_zi 8, z_zi 120, .inl (4, .inl (z_fu 4 (-1))), z_zi 4, z_zl 160, z_zi 12] (none, [c0, c1, c2, c3, c4, c5, c6, c7, c8, c9, c10, c11, c12, c13, c14, c15, c16, c17, c18, c19, c20, c21, c22, c23, c24, c25, c26, c27, c28, c29, c30, c31, c32, c33, c34, c35, c36, c37, c38, c39, c40, c41, c42, c43, .inr (5, [.ref 45, .ref 46, .ref 47, .ref 48, .ref 49, .int 0, .ref 50, .ref 51, .int 0, .ref 52, .ref 53, .ref 54, .ref 55, .int 0, .int 0, .int 0, .int 0, .int 0, .int 0]), .inl (82, .inl (z_fo 9 1 (z_fo 3 100 (fun _ => 0) 6) 13)), z_zi 82, z_zi 82, z_zi 82, z_zi 82, z_zi 8, z_zi 120, .inl (4, .inl (z_fu 4 (-1))), z_zi 4, z_zl 160, z_zi 12])
  refine us rfl rfl rfl ?_
  refine us rfl rfl rfl ?_
  refine us rfl rfl rfl ?_
  refine us rfl rfl rfl ?_
  refine us rfl rfl rfl ?_
  refine us rfl rfl rfl ?_
  refine us rfl rfl rfl ?_
  refine us rfl rfl rfl ?_
  refine us rfl rfl rfl ?_
  refine us rfl rfl rfl ?_
  refine us rfl rfl rfl ?_
  refine us rfl rfl rfl ?_
  show zU X 113 133 [(0, .ref 44), (1, .int 13)] [] [c0, c1, c2, c3, c4, c5, c6, c7, c8, c9, c10, c11, c12, c13, c14, c15, c16, c17, c18, c19, c20, c21, c22, c23, c24, c25, c26, c27, c28, c29, c30, c31, c32, c33, c34, c35, c36, c37, c38, c39, c40, c41, c42, c43, .inr (5, [.ref 45, .ref 46, .ref 47, .ref 48, .ref 49, .int 0, .ref 50, .ref 51, .int 0, .ref 52, .ref 53, .ref 54, .ref 55, .int 0, .int 0, .int 0, .int 0, .int 0, .int 0]), .inl (82, .inl (z_fo 9 1 (z_fo 3 100 (fun _ => 0) 6) 13)), z_zi 82, z_zi 82, z_zi 82, z_zi 82, z_zi 8, z_zi 120, .inl (4, .inl (z_fu 4 (-1))), z_zi 4, z_zl 160, z_zi 12] (none, [c0, c1, c2, c3, c4, c5, c6, c7, c8, c9, c10, c11, c12, c13, c14, c15, c16, c17, c18, c19, c20, c21, c22, c23, c24, c25, c26, c27, c28, c29, c30, c31, c32, c33, c34, c35, c36, c37, c38, c39, c40, c41, c42, c43, .inr (5, [.ref 45, .ref 46, .ref 47, .ref 48, .ref 49, .int 0, .ref 50, .ref 51, .int 0, .ref 52, .ref 53, .ref 54, .ref 55, .int 0, .int 0, .int 0, .int 0, .int 0, .int 0]), .inl (82, .inl (z_fo 9 1 (z_fo 3 100 (fun _ => 0) 6) 13)), z_zi 82, z_zi 82, z_zi 82, z_zi 82, z_zi 8, z_zi 120, .inl (4, .inl (z_fu 4 (-1))), z_zi 4, z_zl 160, z_zi 12])
  refine us rfl rfl rfl ?_
  refine us rfl rfl rfl ?_
  refine us rfl rfl rfl ?_
  exact ur rfl rfl
def z_h1 (f : Nat → Option Nat) : zH := [.inr (4, [.ref 1, .ref 10, .ref 19, .ref 28, .ref 34, .ref 35, .int 0]), .inr (0, [.ref 2, .ref 3, .ref 4, .ref 5, .ref 6, .ref 7, .ref 8, .ref 9, .int 0, .int 0, .int 0]), .inl (6, .inl (z_fu 6 100)), .inl (13, .inl (z_fu 13 1)), z_zi 12, z_zi 12, z_zi 12, z_zi 12, z_zi 12, z_zi 12, .inr (0, [.ref 11, .ref 12, .ref 13, .ref 14, .ref 15, .ref 16, .ref 17, .ref 18, .int 0, .int 0, .int 0]), .inl (6, .inl (z_fu 6 100)), .inl (13, .inl (z_fu 13 1)), z_zi 12, z_zi 12, z_zi 12, z_zi 12, z_zi 12, z_zi 12, .inr (0, [.ref 20, .ref 21, .ref 22, .ref 23, .ref 24, .ref 25, .ref 26, .ref 27, .int 0, .int 0, .int 0]), .inl (6, .inl (z_fu 6 100)), .inl (13, .inl (z_fu 13 1)), z_zi 12, z_zi 12, z_zi 12, z_zi 12, z_zi 12, z_zi 12, .inr (3, [.ref 29, .int 0, .int 0]), .inr (2, [.ref 30, .int 0, .ref 31, .ref 32, .ref 33, .int 0]), z_zi 120, z_zi 121, z_zi 121, z_zi 121, .inl (4, .inr (.inr f)), z_zi 7, .inr (1, [.ref 37, .int 0, .int 0]), z_zl 40, .inr (1, [.ref 39, .int 0, .int 0]), z_zl 40, .inr (1, [.ref 41, .int 0, .int 0]), z_zl 40, .inr (1, [.ref 43, .int 0, .int 0]), z_zl 40, .inr (5, [.ref 45, .ref 46, .ref 47, .ref 48, .ref 49, .int 0, .ref 50, .ref 51, .int 0, .ref 52, .ref 53, .ref 54, .ref 55, .int 0, .int 0, .int 0, .int 0, .int 0, .int 0]), .inl (82, .inl (z_fo 9 1 (z_fo 3 100 (fun _ => 0) 6) 13)), z_zi 82, z_zi 82, z_zi 82, z_zi 82, z_zi 8, z_zi 120, .inl (4, .inl (z_fu 4 (-1))), z_zi 4, z_zl 160, z_zi 12]
def z_h0 : zH := z_h1 (z_sh 4)
theorem st_law {r : Option Value × zH} (k : zU X 232 16 [(0, .ref 3001), (1, .ref 0), (2, .ref 44)] [] z_h0 r) : zU X 232 0 [(0, .ref 3001)] [] [] r := by
  refine us rfl rfl rfl ?_
  refine us rfl rfl rfl ?_
  refine uc rfl rfl st_class ?_
  show zU X 232 7 [(0, .ref 3001)] [.ref 0] [.inr (4, [.ref 1, .ref 10, .ref 19, .ref 28, .ref 34, .ref 35, .int 0]), .inr (0, [.ref 2, .ref 3, .ref 4, .ref 5, .ref 6, .ref 7, .ref 8, .ref 9, .int 0, .int 0, .int 0]), .inl (6, .inl (z_fu 6 100)), .inl (13, .inl (z_fu 13 1)), z_zi 12, z_zi 12, z_zi 12, z_zi 12, z_zi 12, z_zi 12, .inr (0, [.ref 11, .ref 12, .ref 13, .ref 14, .ref 15, .ref 16, .ref 17, .ref 18, .int 0, .int 0, .int 0]), .inl (6, .inl (z_fu 6 100)), .inl (13, .inl (z_fu 13 1)), z_zi 12, z_zi 12, z_zi 12, z_zi 12, z_zi 12, z_zi 12, .inr (0, [.ref 20, .ref 21, .ref 22, .ref 23, .ref 24, .ref 25, .ref 26, .ref 27, .int 0, .int 0, .int 0]), .inl (6, .inl (z_fu 6 100)), .inl (13, .inl (z_fu 13 1)), z_zi 12, z_zi 12, z_zi 12, z_zi 12, z_zi 12, z_zi 12, .inr (3, [.ref 29, .int 0, .int 0]), .inr (2, [.ref 30, .int 0, .ref 31, .ref 32, .ref 33, .int 0]), z_zi 120, z_zi 121, z_zi 121, z_zi 121, .inl (4, .inr (.inr (z_sh 4))), z_zi 7, .inr (1, [.ref 37, .int 0, .int 0]), z_zl 40, .inr (1, [.ref 39, .int 0, .int 0]), z_zl 40, .inr (1, [.ref 41, .int 0, .int 0]), z_zl 40, .inr (1, [.ref 43, .int 0, .int 0]), z_zl 40] r
  refine us rfl rfl rfl ?_
  refine us rfl rfl rfl ?_
  refine us rfl rfl rfl ?_
  refine uc rfl rfl st_model ?_
  show zU X 232 15 [(0, .ref 3001), (1, .ref 0)] [.ref 44] z_h0 r
  refine us rfl rfl rfl ?_
  exact k
def z_M0 (a k : Nat) : Int32 := match z_h0[a]? with
  | some (.inl (_, .inl f)) => f k
  | some (.inr (_, vs)) => (match vs[k]? with
    | some (.int x) => x
    | _ => 0)
  | _ => 0
def z_N0 (_ _ : Nat) : Int64 := 0
theorem z_sh4 : z_sh 4 = fun i => ([some 36, some 38, some 40, some 42] : List (Option Nat)).getD i none := by
  funext i
  rcases i with _ | _ | _ | _ | i
  · rfl
  · rfl
  · rfl
  · rfl
  · rfl
set_option maxHeartbeats 4000000 in
theorem z_mk0 : z_mk z_M0 z_N0 = z_h0 := by
  show z_mk z_M0 z_N0 = z_h1 (z_sh 4)
  rw [z_sh4]
  rfl
end START
