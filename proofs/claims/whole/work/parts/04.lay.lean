/-! The heap of the second kind: behind the two constructors nothing is made any more: cell a holds M a (ints) or N a (longs), references stay. -/
abbrev zM : Type := Nat → Nat → Int32
abbrev zN : Type := Nat → Nat → Int64
/-- a cell's kind: 0 ints, 1 longs, 2 references, 3 an object; its length or its number; its references -/
abbrev zK : Type := Nat × Nat × List (Option Nat)
def z_road (q : Nat) : List zK := [(3, 0, [some (q + 1), some (q + 2), some (q + 3), some (q + 4), some (q + 5), some (q + 6), some (q + 7), some (q + 8), none, none, none]), (0, 6, []), (0, 13, []), (0, 12, []), (0, 12, []), (0, 12, []), (0, 12, []), (0, 12, []), (0, 12, [])]
noncomputable def z_lay : Lean.RArray zK := .branch 28 (.branch 14 (.branch 7 (.branch 3 (.branch 1 (.leaf (3, 4, [some 1, some 10, some 19, some 28, some 34, some 35, none])) (.branch 2 (.leaf (3, 0, [some 2, some 3, some 4, some 5, some 6, some 7, some 8, some 9, none, none, none])) (.leaf (0, 6, [])))) (.branch 5 (.branch 4 (.leaf (0, 13, [])) (.leaf (0, 12, []))) (.branch 6 (.leaf (0, 12, [])) (.leaf (0, 12, []))))) (.branch 10 (.branch 8 (.leaf (0, 12, [])) (.branch 9 (.leaf (0, 12, [])) (.leaf (0, 12, [])))) (.branch 12 (.branch 11 (.leaf (3, 0, [some 11, some 12, some 13, some 14, some 15, some 16, some 17, some 18, none, none, none])) (.leaf (0, 6, []))) (.branch 13 (.leaf (0, 13, [])) (.leaf (0, 12, [])))))) (.branch 21 (.branch 17 (.branch 15 (.leaf (0, 12, [])) (.branch 16 (.leaf (0, 12, [])) (.leaf (0, 12, [])))) (.branch 19 (.branch 18 (.leaf (0, 12, [])) (.leaf (0, 12, []))) (.branch 20 (.leaf (3, 0, [some 20, some 21, some 22, some 23, some 24, some 25, some 26, some 27, none, none, none])) (.leaf (0, 6, []))))) (.branch 24 (.branch 22 (.leaf (0, 13, [])) (.branch 23 (.leaf (0, 12, [])) (.leaf (0, 12, [])))) (.branch 26 (.branch 25 (.leaf (0, 12, [])) (.leaf (0, 12, []))) (.branch 27 (.leaf (0, 12, [])) (.leaf (0, 12, []))))))) (.branch 42 (.branch 35 (.branch 31 (.branch 29 (.leaf (3, 3, [some 29, none, none])) (.branch 30 (.leaf (3, 2, [some 30, none, some 31, some 32, some 33, none])) (.leaf (0, 120, [])))) (.branch 33 (.branch 32 (.leaf (0, 121, [])) (.leaf (0, 121, []))) (.branch 34 (.leaf (0, 121, [])) (.leaf (2, 4, [some 36, some 38, some 40, some 42]))))) (.branch 38 (.branch 36 (.leaf (0, 7, [])) (.branch 37 (.leaf (3, 1, [some 37, none, none])) (.leaf (1, 40, [])))) (.branch 40 (.branch 39 (.leaf (3, 1, [some 39, none, none])) (.leaf (1, 40, []))) (.branch 41 (.leaf (3, 1, [some 41, none, none])) (.leaf (1, 40, [])))))) (.branch 49 (.branch 45 (.branch 43 (.leaf (3, 1, [some 43, none, none])) (.branch 44 (.leaf (1, 40, [])) (.leaf (3, 5, [some 45, some 46, some 47, some 48, some 49, none, some 50, some 51, none, some 52, some 53, some 54, some 55, none, none, none, none, none, none])))) (.branch 47 (.branch 46 (.leaf (0, 82, [])) (.leaf (0, 82, []))) (.branch 48 (.leaf (0, 82, [])) (.leaf (0, 82, []))))) (.branch 52 (.branch 50 (.leaf (0, 82, [])) (.branch 51 (.leaf (0, 8, [])) (.leaf (0, 120, [])))) (.branch 54 (.branch 53 (.leaf (0, 4, [])) (.leaf (0, 4, []))) (.branch 55 (.leaf (1, 160, [])) (.leaf (0, 12, [])))))))
def z_nc : Nat := 56
/-- a cell of that kind -/
def z_cell (M : zM) (N : zN) (a : Nat) (k : zK) : zC := match k with
  | (0, n, _) => .inl (n, .inl (M a))
  | (1, n, _) => .inl (n, .inr (.inl (N a)))
  | (2, n, rs) => .inl (n, .inr (.inr (fun i => (rs.getD i none))))
  | (_, ci, rs) => .inr (ci, rs.mapIdx (fun i r => match r with
    | some q => Value.ref q
    | none => Value.int (M a i)))
noncomputable def z_mk (M : zM) (N : zN) : zH := (List.range 56).map (fun a => z_cell M N a (z_lay.get a))
/-- cell a, place k becomes x -/
def z_up (M : zM) (a k : Nat) (x : Int32) : zM := fun b j => cond (Nat.beq b a && Nat.beq j k) x (M b j)
def z_upL (N : zN) (a k : Nat) (x : Int64) : zN := fun b j => cond (Nat.beq b a && Nat.beq j k) x (N b j)
/-- cell a holds f -/
def z_row (M : zM) (a : Nat) (f : Nat → Int32) : zM := fun b j => cond (Nat.beq b a) (f j) (M b j)
def z_rowL (N : zN) (a : Nat) (f : Nat → Int64) : zN := fun b j => cond (Nat.beq b a) (f j) (N b j)
noncomputable def z_ints2 (X : Nat × (Nat → Int32)) (q : Nat) (M : zM) : Option (Nat × (Nat → Int32)) := cond (Nat.ble 56 q) (cond (Nat.beq q 3000) (some (6, fun i => z_ka.getD i 0)) (cond (Nat.beq q 3001) (some X) none)) (match z_lay.get q with
  | (0, n, _) => some (n, M q)
  | _ => none)
noncomputable def z_hop2 (X : Nat × (Nat → Int32)) (e : zE) (st : List Value) (h : zM × zN) : Option (List Value × (zM × zN)) :=
  match e, h with
  | (ins, _, _, a, b, v), (M, N) => match ins with
    | .getfield _ => match st with
      | .ref q :: r => cond (Nat.beq a 100) (match z_strf q b with
          | some w => some (w :: r, (M, N))
          | none => none) (cond (Nat.ble 56 q) none (match z_lay.get q with
          | (3, ci, rs) => cond (Nat.beq ci a) (match rs[b]? with
            | some (some p) => some (.ref p :: r, (M, N))
            | some none => some (.int (M q b) :: r, (M, N))
            | none => none) none
          | _ => none))
      | _ => none
    | .putfield _ => match st with
      | .int x :: .ref q :: r => cond (Nat.ble 56 q) none (match z_lay.get q with
        | (3, ci, rs) => cond (Nat.beq ci a) (match rs[b]? with
          | some none => cond (z_fit (z_ft a b) (.int x)) (some (r, (z_up M q b x, N))) none
          | _ => none) none
        | _ => none)
      | _ => none
    | .getstatic _ => some (v :: st, (M, N))
    | .arraylength => match st with
      | .ref q :: r => cond (Nat.ble 56 q) (match z_len X q [] with
        | some n => some (.int (Int32.ofNat n) :: r, (M, N))
        | none => none) (match z_lay.get q with
        | (0, n, _) => some (.int (Int32.ofNat n) :: r, (M, N))
        | (1, n, _) => some (.int (Int32.ofNat n) :: r, (M, N))
        | _ => none)
      | _ => none
    | .iaload => match st with
      | .int i :: .ref q :: r => match z_ints2 X q M with
        | some (n, f) => if i < 0 ∨ n ≤ i.toNatClampNeg then none else some (.int (f i.toNatClampNeg) :: r, (M, N))
        | none => none
      | _ => none
    | .baload => match st with
      | .int i :: .ref q :: r => match z_bytes q with
        | some (n, f) => if i < 0 ∨ n ≤ i.toNatClampNeg then none else some (.int (f i.toNatClampNeg) :: r, (M, N))
        | none => none
      | _ => none
    | .iastore => match st with
      | .int x :: .int i :: .ref q :: r => cond (Nat.ble 56 q) none (match z_lay.get q with
        | (0, n, _) => if i < 0 ∨ n ≤ i.toNatClampNeg then none else some (r, (z_up M q i.toNatClampNeg x, N))
        | _ => none)
      | _ => none
    | .laload => match st with
      | .int i :: .ref q :: r => cond (Nat.ble 56 q) none (match z_lay.get q with
        | (1, n, _) => if i < 0 ∨ n ≤ i.toNatClampNeg then none else some (.long (N q i.toNatClampNeg) :: r, (M, N))
        | _ => none)
      | _ => none
    | .lastore => match st with
      | .long x :: .int i :: .ref q :: r => cond (Nat.ble 56 q) none (match z_lay.get q with
        | (1, n, _) => if i < 0 ∨ n ≤ i.toNatClampNeg then none else some (r, (M, z_upL N q i.toNatClampNeg x))
        | _ => none)
      | _ => none
    | .aaload => match st with
      | .int i :: .ref q :: r => cond (Nat.ble 56 q) none (match z_lay.get q with
        | (2, n, rs) => if i < 0 ∨ n ≤ i.toNatClampNeg then none else (match rs.getD i.toNatClampNeg none with
          | some k => cond (Nat.blt k 1000) (some (.ref k :: r, (M, N))) none
          | none => some (.null :: r, (M, N)))
        | _ => none)
      | _ => none
    | .invokestatic _ => cond (Nat.beq a 996) (match st with
      | .int y :: .int x :: r => cond (Nat.ble (z_sum r) 8) (some (.int (if x < y then y else x) :: r, (M, N))) none
      | _ => none) (cond (Nat.beq a 995) (match st with
      | .int y :: .int x :: r => cond (Nat.ble (z_sum r) 8) (some (.int (if y < x then y else x) :: r, (M, N))) none
      | _ => none) (match st with
      | .int n :: .int dp :: .ref q1 :: .int sp :: .ref q0 :: r => cond (Nat.beq a 999 && Nat.ble (z_sum r) 8 && Nat.blt q0 56 && Nat.blt q1 56) (match z_lay.get q0, z_lay.get q1 with
        | (0, n0, _), (0, n1, _) => if sp < 0 ∨ dp < 0 ∨ n < 0 ∨ n0 < sp.toNatClampNeg + n.toNatClampNeg ∨ n1 < dp.toNatClampNeg + n.toNatClampNeg then none else some (r, (z_row M q1 (va_cpy (M q0) (M q1) sp.toNatClampNeg dp.toNatClampNeg n.toNatClampNeg), N))
        | (1, n0, _), (1, n1, _) => if sp < 0 ∨ dp < 0 ∨ n < 0 ∨ n0 < sp.toNatClampNeg + n.toNatClampNeg ∨ n1 < dp.toNatClampNeg + n.toNatClampNeg then none else some (r, (M, z_rowL N q1 (va_cpy (N q0) (N q1) sp.toNatClampNeg dp.toNatClampNeg n.toNatClampNeg)))
        | _, _ => none) none
      | _ => none))
    | _ => none
noncomputable def z_rcv2 (_ : zM × zN) (q tg : Nat) : Bool := cond (Nat.beq tg 8) (Nat.ble 1000 q && Nat.ble q 1013) (cond (Nat.ble 56 q) false (match z_lay.get q with
  | (3, ci, _) => Nat.beq ci tg
  | _ => false))
/-- what the method answers -/
noncomputable def z_rk (j : Nat) : Option FieldType := (z_mt.get j).2.2
/-- from here the method comes to its end with Q -/
def zW (X : Nat × (Nat → Int32)) (j pc : Nat) (L : zL) (st : List Value) (M : zM) (N : zN) (Q : Option Value → zM → zN → Prop) : Prop :=
  ∃ (n : Nat) (v : Option Value) (h : zM × zN), z_run (z_hop2 X) z_rcv2 z_P z_rk n j pc L st (M, N) = some (v, h) ∧ Q v h.1 h.2
/-- a call of the method with these arguments comes to its end with Q -/
def zV (X : Nat × (Nat → Int32)) (j : Nat) (args : List Value) (M : zM) (N : zN) (Q : Option Value → zM → zN → Prop) : Prop := zW X j 0 (z_args 0 args) [] M N Q
section ZW
variable {X : Nat × (Nat → Int32)} {j pc : Nat} {L : zL} {st : List Value} {M : zM} {N : zN} {Q : Option Value → zM → zN → Prop} {e : zE}
/-- any step that is no call and no return -/
theorem zs {pc' : Nat} {L' : zL} {st' : List Value} {M' : zM} {N' : zN} (he : z_P j pc = some e) (hs : z_stp (z_hop2 X) pc e L st (M, N) = some (pc', L', st', (M', N'))) (hc : z_ctl z_rcv2 (z_rk j) e st (M, N) = none) (k : zW X j pc' L' st' M' N' Q) : zW X j pc L st M N Q := by
  obtain ⟨n, v, h, h1, h2⟩ := k
  refine ⟨n + 1, v, h, ?_, h2⟩
  rw [z_run, he]
  dsimp only
  rw [hc]
  dsimp only
  rw [hs]
  exact h1
theorem zret {v : Option Value} (he : z_P j pc = some e) (hc : z_ctl z_rcv2 (z_rk j) e st (M, N) = some (.inr v)) (k : Q v M N) : zW X j pc L st M N Q := by
  refine ⟨1, v, (M, N), ?_, k⟩
  rw [z_run, he]
  dsimp only
  rw [hc]
theorem zcall {c : Nat} {args r : List Value} {Q1 : Option Value → zM → zN → Prop} (he : z_P j pc = some e) (hc : z_ctl z_rcv2 (z_rk j) e st (M, N) = some (.inl (c, args, r))) (hv : zV X c args M N Q1) (k : ∀ v M' N', Q1 v M' N' → zW X j e.2.1 L (z_psh v r) M' N' Q) : zW X j pc L st M N Q := by
  obtain ⟨n1, v1, ⟨M1, N1⟩, h1, h2⟩ := hv
  obtain ⟨n2, v2, h, h3, h4⟩ := k _ _ _ h2
  refine ⟨max n1 n2 + 1, v2, h, ?_, h4⟩
  rw [z_run, he]
  dsimp only
  rw [hc]
  dsimp only
  rw [z_run_le (Nat.le_max_left n1 n2) h1]
  exact z_run_le (Nat.le_max_right n1 n2) h3
end ZW
