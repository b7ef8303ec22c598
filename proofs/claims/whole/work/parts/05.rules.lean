theorem z_nbeq {a b : Nat} (h : a ≠ b) : Nat.beq a b = false := by
  cases hb : Nat.beq a b with
  | false => rfl
  | true => exact absurd (Nat.eq_of_beq_eq_true hb) h
theorem z_up_same (M : zM) (a k : Nat) (x : Int32) : z_up M a k x a = upd (M a) k x := by
  funext j
  unfold z_up upd
  rw [Nat.beq_refl]
  by_cases h : j = k
  · subst h; simp
  · rw [if_neg h]
    rw [z_nbeq h]; rfl
theorem z_up_ne (M : zM) {a b : Nat} (k : Nat) (x : Int32) (h : b ≠ a) : z_up M a k x b = M b := by
  funext j
  unfold z_up
  rw [z_nbeq h]; rfl
theorem z_upL_same (N : zN) (a k : Nat) (x : Int64) : z_upL N a k x a = vp_updL (N a) k x := by
  funext j
  unfold z_upL vp_updL
  rw [Nat.beq_refl]
  by_cases h : j = k
  · subst h; simp
  · rw [if_neg h, z_nbeq h]; rfl
theorem z_upL_ne (N : zN) {a b : Nat} (k : Nat) (x : Int64) (h : b ≠ a) : z_upL N a k x b = N b := by
  funext j
  unfold z_upL
  rw [z_nbeq h]; rfl
theorem z_row_same (M : zM) (a : Nat) (f : Nat → Int32) : z_row M a f a = f := by
  funext j
  unfold z_row
  rw [Nat.beq_refl]; rfl
theorem z_row_ne (M : zM) {a b : Nat} (f : Nat → Int32) (h : b ≠ a) : z_row M a f b = M b := by
  funext j
  unfold z_row
  rw [z_nbeq h]; rfl
theorem z_rowL_same (N : zN) (a : Nat) (f : Nat → Int64) : z_rowL N a f a = f := by
  funext j
  unfold z_rowL
  rw [Nat.beq_refl]; rfl
theorem z_rowL_ne (N : zN) {a b : Nat} (f : Nat → Int64) (h : b ≠ a) : z_rowL N a f b = N b := by
  funext j
  unfold z_rowL
  rw [z_nbeq h]; rfl
theorem z_up_a (M : zM) (a k : Nat) (x : Int32) (j : Nat) : z_up M a k x a j = if j = k then x else M a j := by
  rw [z_up_same]; rfl
/-! Rows for walks over the second kind of heap. -/
section ZR
variable {X : Nat × (Nat → Int32)} {j pc : Nat} {L : zL} {st r : List Value} {M : zM} {N : zN} {Q : Option Value → zM → zN → Prop}
theorem zW_mono {Q' : Option Value → zM → zN → Prop} (h : zW X j pc L st M N Q') (k : ∀ v M' N', Q' v M' N' → Q v M' N') : zW X j pc L st M N Q := by
  obtain ⟨n, v, q, h1, h2⟩ := h
  exact ⟨n, v, q, h1, k _ _ _ h2⟩
/-- both ways of a branch -/
theorem zbr {ins : Instr} {nx tg a b : Nat} {v : Value} {c : Prop} {dc : Decidable c} {p1 p2 : Nat} {L1 L2 : zL} {s1 s2 : List Value} {M1 M2 : zM} {N1 N2 : zN} (he : z_P j pc = some (ins, nx, tg, a, b, v)) (hs : z_stp (z_hop2 X) pc (ins, nx, tg, a, b, v) L st (M, N) = (@ite _ c dc (some (p1, L1, s1, (M1, N1))) (some (p2, L2, s2, (M2, N2))))) (hc : z_ctl z_rcv2 (z_rk j) (ins, nx, tg, a, b, v) st (M, N) = none)
    (kt : c → zW X j p1 L1 s1 M1 N1 Q) (kf : ¬ c → zW X j p2 L2 s2 M2 N2 Q) : zW X j pc L st M N Q := by
  by_cases h : c
  · rw [if_pos h] at hs
    exact zs he hs hc (kt h)
  · rw [if_neg h] at hs
    exact zs he hs hc (kf h)
/-- a branch that is taken, one that isn't -/
theorem zbt {ins : Instr} {nx tg a b : Nat} {v : Value} {c : Prop} {dc : Decidable c} {p1 p2 : Nat} {L1 L2 : zL} {s1 s2 : List Value} {M1 M2 : zM} {N1 N2 : zN} (h : c) (he : z_P j pc = some (ins, nx, tg, a, b, v)) (hs : z_stp (z_hop2 X) pc (ins, nx, tg, a, b, v) L st (M, N) = (@ite _ c dc (some (p1, L1, s1, (M1, N1))) (some (p2, L2, s2, (M2, N2))))) (hc : z_ctl z_rcv2 (z_rk j) (ins, nx, tg, a, b, v) st (M, N) = none)
    (kt : zW X j p1 L1 s1 M1 N1 Q) : zW X j pc L st M N Q := zbr he hs hc (fun _ => kt) (fun n => absurd h n)
theorem zbf {ins : Instr} {nx tg a b : Nat} {v : Value} {c : Prop} {dc : Decidable c} {p1 p2 : Nat} {L1 L2 : zL} {s1 s2 : List Value} {M1 M2 : zM} {N1 N2 : zN} (h : ¬ c) (he : z_P j pc = some (ins, nx, tg, a, b, v)) (hs : z_stp (z_hop2 X) pc (ins, nx, tg, a, b, v) L st (M, N) = (@ite _ c dc (some (p1, L1, s1, (M1, N1))) (some (p2, L2, s2, (M2, N2))))) (hc : z_ctl z_rcv2 (z_rk j) (ins, nx, tg, a, b, v) st (M, N) = none)
    (kf : zW X j p2 L2 s2 M2 N2 Q) : zW X j pc L st M N Q := zbr he hs hc (fun n => absurd n h) (fun _ => kf)
/-- the index is in the row -/
theorem z_inx {i n : Nat} (h : i < n) (hn : n < 2 ^ 31) : ¬ (nI i < 0 ∨ n ≤ (nI i).toNatClampNeg) := nI_in h hn
theorem zald {nx tg a b q n i : Nat} {v : Value} {f : Nat → Int32} (he : z_P j pc = some (.iaload, nx, tg, a, b, v)) (hz : z_ints2 X q M = some (n, f)) (hi : i < n) (hn : n < 2 ^ 31) (k : zW X j nx L (.int (f i) :: r) M N Q) : zW X j pc L (.int (nI i) :: .ref q :: r) M N Q := by
  refine zs he (M' := M) (N' := N) (L' := L) (st' := .int (f i) :: r) (pc' := nx) ?_ rfl k
  simp only [z_stp, z_hop2]
  rw [hz]
  dsimp only
  rw [if_neg (z_inx hi hn), nI_clamp (by omega)]
theorem zast {nx tg a b q n i : Nat} {v : Value} {x : Int32} {rs : List (Option Nat)} (he : z_P j pc = some (.iastore, nx, tg, a, b, v)) (hq : Nat.ble 56 q = false) (hz : z_lay.get q = (0, n, rs)) (hi : i < n) (hn : n < 2 ^ 31) (k : zW X j nx L r (z_up M q i x) N Q) : zW X j pc L (.int x :: .int (nI i) :: .ref q :: r) M N Q := by
  refine zs he (M' := z_up M q i x) (N' := N) (L' := L) (st' := r) (pc' := nx) ?_ rfl k
  simp only [z_stp, z_hop2]
  rw [hq, hz]
  simp only [cond_false]
  rw [if_neg (z_inx hi hn), nI_clamp (by omega)]
theorem zlald {nx tg a b q n i : Nat} {v : Value} {rs : List (Option Nat)} (he : z_P j pc = some (.laload, nx, tg, a, b, v)) (hq : Nat.ble 56 q = false) (hz : z_lay.get q = (1, n, rs)) (hi : i < n) (hn : n < 2 ^ 31) (k : zW X j nx L (.long (N q i) :: r) M N Q) : zW X j pc L (.int (nI i) :: .ref q :: r) M N Q := by
  refine zs he (M' := M) (N' := N) (L' := L) (st' := .long (N q i) :: r) (pc' := nx) ?_ rfl k
  simp only [z_stp, z_hop2]
  rw [hq, hz]
  simp only [cond_false]
  rw [if_neg (z_inx hi hn), nI_clamp (by omega)]
theorem zlast {nx tg a b q n i : Nat} {v : Value} {x : Int64} {rs : List (Option Nat)} (he : z_P j pc = some (.lastore, nx, tg, a, b, v)) (hq : Nat.ble 56 q = false) (hz : z_lay.get q = (1, n, rs)) (hi : i < n) (hn : n < 2 ^ 31) (k : zW X j nx L r M (z_upL N q i x) Q) : zW X j pc L (.long x :: .int (nI i) :: .ref q :: r) M N Q := by
  refine zs he (M' := M) (N' := z_upL N q i x) (L' := L) (st' := r) (pc' := nx) ?_ rfl k
  simp only [z_stp, z_hop2]
  rw [hq, hz]
  simp only [cond_false]
  rw [if_neg (z_inx hi hn), nI_clamp (by omega)]
theorem zinc {nx tg a b i : Nat} {ic : Nat} {nc : Int} (he : z_P j pc = some (.iinc ic nc, nx, tg, a, b, .int 1)) (hl : z_lk L a = some (.int (nI i))) {L' : zL} (hs : z_st1 L a (.int (nI (i + 1))) = some L') (k : zW X j nx L' st M N Q) : zW X j pc L st M N Q := by
  refine zs he (pc' := nx) (L' := L') (st' := st) (M' := M) (N' := N) ?_ rfl k
  simp only [z_stp]
  rw [hl]
  dsimp only
  rw [nI_1, hs]
theorem ztop {x y : Int32} (h : x = y) (k : zW X j pc L (.int y :: r) M N Q) : zW X j pc L (.int x :: r) M N Q := h ▸ k
/-- a call whose end is known -/
def zE1 (X : Nat × (Nat → Int32)) (j : Nat) (args : List Value) (M : zM) (N : zN) (v : Option Value) (M' : zM) (N' : zN) : Prop := zV X j args M N (fun v1 M1 N1 => v1 = v ∧ M1 = M' ∧ N1 = N')
theorem zE1i {args : List Value} {v : Option Value} {M' : zM} {N' : zN} (L : zL) (hL : z_args 0 args = L) (k : zW X j 0 L [] M N (fun v1 M1 N1 => v1 = v ∧ M1 = M' ∧ N1 = N')) : zE1 X j args M N v M' N' := by
  subst hL
  exact k
theorem zVi {args : List Value} (L : zL) (hL : z_args 0 args = L) (k : zW X j 0 L [] M N Q) : zV X j args M N Q := by
  subst hL
  exact k
theorem zcl {nx tg a b c : Nat} {ins : Instr} {w : Value} {args : List Value} {v : Option Value} {M' : zM} {N' : zN} (he : z_P j pc = some (ins, nx, tg, a, b, w)) (hc : z_ctl z_rcv2 (z_rk j) (ins, nx, tg, a, b, w) st (M, N) = some (.inl (c, args, r))) (hv : zE1 X c args M N v M' N') (k : zW X j nx L (z_psh v r) M' N' Q) : zW X j pc L st M N Q :=
  zcall he hc hv (fun v1 M1 N1 h => by obtain ⟨rfl, rfl, rfl⟩ := h; exact k)
theorem zclQ {nx tg a b c : Nat} {ins : Instr} {w : Value} {args : List Value} {Q1 : Option Value → zM → zN → Prop} (he : z_P j pc = some (ins, nx, tg, a, b, w)) (hc : z_ctl z_rcv2 (z_rk j) (ins, nx, tg, a, b, w) st (M, N) = some (.inl (c, args, r))) (hv : zV X c args M N Q1) (k : ∀ v M' N', Q1 v M' N' → zW X j nx L (z_psh v r) M' N' Q) : zW X j pc L st M N Q :=
  zcall he hc hv k
end ZR
