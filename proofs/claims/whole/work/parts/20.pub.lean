/-! What the calls answer: an answer, the road behind it, the findings behind it. -/
def Ok (S : zS) (n : Nat) : Prop := n ≤ 12 ∧ S 0 = nI n ∧ (0 ≤ S 1 ∧ S 1 ≤ 9999) ∧ (∀ a, a < 6 → 0 ≤ S (3 + a) ∧ S (3 + a) ≤ 9999) ∧ Kok S n ∧ (∀ k, k < n → 0 ≤ ch S k ∧ ch S k ≤ 9999) ∧ (∀ k, k < n → 0 ≤ wo S k ∧ wo S k ≤ 99) ∧ Lok S n ∧ Acy S n
section OK
variable {S : zS} {n : Nat}
theorem Ok.le (h : Ok S n) : n ≤ 12 := h.1
theorem Ok.s0 (h : Ok S n) : S 0 = nI n := h.2.1
theorem Ok.hr (h : Ok S n) : 0 ≤ S 1 ∧ S 1 ≤ 9999 := h.2.2.1
theorem Ok.ho (h : Ok S n) : ∀ a, a < 6 → 0 ≤ S (3 + a) ∧ S (3 + a) ≤ 9999 := h.2.2.2.1
theorem Ok.k (h : Ok S n) : Kok S n := h.2.2.2.2.1
theorem Ok.c (h : Ok S n) : ∀ k, k < n → 0 ≤ ch S k ∧ ch S k ≤ 9999 := h.2.2.2.2.2.1
theorem Ok.w (h : Ok S n) : ∀ k, k < n → 0 ≤ wo S k ∧ wo S k ≤ 99 := h.2.2.2.2.2.2.1
theorem Ok.l (h : Ok S n) : Lok S n := h.2.2.2.2.2.2.2.1
theorem Ok.a (h : Ok S n) : Acy S n := h.2.2.2.2.2.2.2.2
theorem Ok.lv (h : Ok S n) : Lv S n := h.a.lv h.le
theorem Ok.ho0 (h : Ok S n) : ∀ a, a < 6 → 0 ≤ S (3 + a) := fun a ha => (h.ho a ha).1
end OK
abbrev zR : Type := Int32 × zS × zS
def fd : Nat → Int32
  | 0 => -1000000001
  | 1 => -1000000002
  | 2 => -1000000003
  | 3 => -1000000004
  | 4 => -1000000005
  | 5 => -1000000006
  | _ => -1000000007
def bump (F : zS) (c : Nat) : zS := upd F c (F c + 1)
/-- a finding -/
def rf (S F : zS) (c : Nat) : zR := (fd c, S, bump F c)
/-- the class's cells that calls on the road may write -/
def cL : List Nat := [1, 2, 3, 4, 5, 6, 7, 8, 9, 19, 20, 21, 22, 23, 24, 25, 26, 27, 35]
def cP (M : zM) (N : zN) (r : zR) : Option Value → zM → zN → Prop := fun v M' N' => v = some (.int r.1) ∧ N' = N ∧ Fr cL M M' ∧ Vw M' 1 r.2.1 ∧ ∀ k, k < 7 → M' 35 k = r.2.2 k
def cC (M : zM) (S F : zS) : Prop := Vw M 1 S ∧ ∀ k, k < 7 → M 35 k = F k
section PUB
variable {X : Nat × (Nat → Int32)} {M M2 : zM} {N : zN} {S F T : zS} {n : Nat}
theorem cC.v (h : cC M S F) : Vw M 1 S := h.1
theorem cC.fr {l : List Nat} (h : cC M S F) (hf : Fr l M M2) (h1 : ∀ c, c < 8 → 1 + c ∉ l) (h2 : 35 ∉ l) : cC M2 S F := ⟨h.1.fr hf h1, fun k hk => by rw [hf 35 h2]; exact h.2 k hk⟩
theorem cP_ok {a : Int32} {r : zR} {S' : zS} (hr : r = (a, S', F)) (hf : Fr cL M M2) (hC : cC M2 S' F) : cP M N r (some (.int a)) M2 N := by
  subst hr
  exact ⟨rfl, rfl, hf, hC.1, hC.2⟩
theorem cP_ref {c : Nat} {r : zR} (hr : r = rf S F c) (hf : Fr cL M M2) (hC : cC M2 S F) : cP M N r (some (.int (fd c))) (z_up M2 35 c (M2 35 c + 1)) N := by
  subst hr
  refine ⟨rfl, rfl, hf.trans (Fr.up (by decide)), hC.1.fr (Fr.up (l := [35]) (by decide)) (fun c hc => by rw [List.mem_singleton]; omega), fun k hk => ?_⟩
  rw [z_up_a]
  show _ = if k = c then F c + 1 else F k
  by_cases e : k = c
  · rw [if_pos e, if_pos e, hC.2 c (by omega)]
  · rw [if_neg e, if_neg e]; exact hC.2 k hk
theorem c_refuse_0 : zE1 X 100 [.ref 0, .int (-1000000001)] M N (some (.int (-1000000001))) (z_up M 35 0 (M 35 0 + 1)) N := by
  refine zE1i [(0, .ref 0), (1, .int (-1000000001))] rfl ?_
  have e : (-1000000001 : Int32) - (-1000000001) = nI 0 := by decide
  have e2 : decide ((0 : Int32) ≤ nI 0 ∧ nI 0 ≤ 6) = true := by decide
  refine zs rfl rfl rfl ?_
  refine zs rfl rfl rfl ?_
  refine zs rfl rfl rfl ?_
  refine zs rfl rfl rfl ?_
  rw [e]
  refine zs rfl rfl rfl ?_
  refine zs rfl rfl rfl ?_
  refine zs rfl rfl rfl ?_
  refine zcl rfl rfl (c_isIn (nI 0) 0 6) ?_
  rw [e2]
  refine zs rfl rfl rfl ?_
  refine zs rfl rfl rfl ?_
  refine zs rfl rfl rfl ?_
  refine zs rfl rfl rfl ?_
  refine zs rfl rfl rfl ?_
  refine zal rfl rfl rfl (by omega) (by decide) ?_
  refine zs rfl rfl rfl ?_
  refine zs rfl rfl rfl ?_
  refine zas rfl rfl rfl rfl (by omega) (by decide) ?_
  refine zs rfl rfl rfl ?_
  refine zret rfl rfl ⟨rfl, rfl, rfl⟩
theorem c_refuse_1 : zE1 X 100 [.ref 0, .int (-1000000002)] M N (some (.int (-1000000002))) (z_up M 35 1 (M 35 1 + 1)) N := by
  refine zE1i [(0, .ref 0), (1, .int (-1000000002))] rfl ?_
  have e : (-1000000001 : Int32) - (-1000000002) = nI 1 := by decide
  have e2 : decide ((0 : Int32) ≤ nI 1 ∧ nI 1 ≤ 6) = true := by decide
  refine zs rfl rfl rfl ?_
  refine zs rfl rfl rfl ?_
  refine zs rfl rfl rfl ?_
  refine zs rfl rfl rfl ?_
  rw [e]
  refine zs rfl rfl rfl ?_
  refine zs rfl rfl rfl ?_
  refine zs rfl rfl rfl ?_
  refine zcl rfl rfl (c_isIn (nI 1) 0 6) ?_
  rw [e2]
  refine zs rfl rfl rfl ?_
  refine zs rfl rfl rfl ?_
  refine zs rfl rfl rfl ?_
  refine zs rfl rfl rfl ?_
  refine zs rfl rfl rfl ?_
  refine zal rfl rfl rfl (by omega) (by decide) ?_
  refine zs rfl rfl rfl ?_
  refine zs rfl rfl rfl ?_
  refine zas rfl rfl rfl rfl (by omega) (by decide) ?_
  refine zs rfl rfl rfl ?_
  refine zret rfl rfl ⟨rfl, rfl, rfl⟩
theorem c_refuse_2 : zE1 X 100 [.ref 0, .int (-1000000003)] M N (some (.int (-1000000003))) (z_up M 35 2 (M 35 2 + 1)) N := by
  refine zE1i [(0, .ref 0), (1, .int (-1000000003))] rfl ?_
  have e : (-1000000001 : Int32) - (-1000000003) = nI 2 := by decide
  have e2 : decide ((0 : Int32) ≤ nI 2 ∧ nI 2 ≤ 6) = true := by decide
  refine zs rfl rfl rfl ?_
  refine zs rfl rfl rfl ?_
  refine zs rfl rfl rfl ?_
  refine zs rfl rfl rfl ?_
  rw [e]
  refine zs rfl rfl rfl ?_
  refine zs rfl rfl rfl ?_
  refine zs rfl rfl rfl ?_
  refine zcl rfl rfl (c_isIn (nI 2) 0 6) ?_
  rw [e2]
  refine zs rfl rfl rfl ?_
  refine zs rfl rfl rfl ?_
  refine zs rfl rfl rfl ?_
  refine zs rfl rfl rfl ?_
  refine zs rfl rfl rfl ?_
  refine zal rfl rfl rfl (by omega) (by decide) ?_
  refine zs rfl rfl rfl ?_
  refine zs rfl rfl rfl ?_
  refine zas rfl rfl rfl rfl (by omega) (by decide) ?_
  refine zs rfl rfl rfl ?_
  refine zret rfl rfl ⟨rfl, rfl, rfl⟩
theorem c_refuse_3 : zE1 X 100 [.ref 0, .int (-1000000004)] M N (some (.int (-1000000004))) (z_up M 35 3 (M 35 3 + 1)) N := by
  refine zE1i [(0, .ref 0), (1, .int (-1000000004))] rfl ?_
  have e : (-1000000001 : Int32) - (-1000000004) = nI 3 := by decide
  have e2 : decide ((0 : Int32) ≤ nI 3 ∧ nI 3 ≤ 6) = true := by decide
  refine zs rfl rfl rfl ?_
  refine zs rfl rfl rfl ?_
  refine zs rfl rfl rfl ?_
  refine zs rfl rfl rfl ?_
  rw [e]
  refine zs rfl rfl rfl ?_
  refine zs rfl rfl rfl ?_
  refine zs rfl rfl rfl ?_
  refine zcl rfl rfl (c_isIn (nI 3) 0 6) ?_
  rw [e2]
  refine zs rfl rfl rfl ?_
  refine zs rfl rfl rfl ?_
  refine zs rfl rfl rfl ?_
  refine zs rfl rfl rfl ?_
  refine zs rfl rfl rfl ?_
  refine zal rfl rfl rfl (by omega) (by decide) ?_
  refine zs rfl rfl rfl ?_
  refine zs rfl rfl rfl ?_
  refine zas rfl rfl rfl rfl (by omega) (by decide) ?_
  refine zs rfl rfl rfl ?_
  refine zret rfl rfl ⟨rfl, rfl, rfl⟩
theorem c_refuse_4 : zE1 X 100 [.ref 0, .int (-1000000005)] M N (some (.int (-1000000005))) (z_up M 35 4 (M 35 4 + 1)) N := by
  refine zE1i [(0, .ref 0), (1, .int (-1000000005))] rfl ?_
  have e : (-1000000001 : Int32) - (-1000000005) = nI 4 := by decide
  have e2 : decide ((0 : Int32) ≤ nI 4 ∧ nI 4 ≤ 6) = true := by decide
  refine zs rfl rfl rfl ?_
  refine zs rfl rfl rfl ?_
  refine zs rfl rfl rfl ?_
  refine zs rfl rfl rfl ?_
  rw [e]
  refine zs rfl rfl rfl ?_
  refine zs rfl rfl rfl ?_
  refine zs rfl rfl rfl ?_
  refine zcl rfl rfl (c_isIn (nI 4) 0 6) ?_
  rw [e2]
  refine zs rfl rfl rfl ?_
  refine zs rfl rfl rfl ?_
  refine zs rfl rfl rfl ?_
  refine zs rfl rfl rfl ?_
  refine zs rfl rfl rfl ?_
  refine zal rfl rfl rfl (by omega) (by decide) ?_
  refine zs rfl rfl rfl ?_
  refine zs rfl rfl rfl ?_
  refine zas rfl rfl rfl rfl (by omega) (by decide) ?_
  refine zs rfl rfl rfl ?_
  refine zret rfl rfl ⟨rfl, rfl, rfl⟩
theorem c_refuse_5 : zE1 X 100 [.ref 0, .int (-1000000006)] M N (some (.int (-1000000006))) (z_up M 35 5 (M 35 5 + 1)) N := by
  refine zE1i [(0, .ref 0), (1, .int (-1000000006))] rfl ?_
  have e : (-1000000001 : Int32) - (-1000000006) = nI 5 := by decide
  have e2 : decide ((0 : Int32) ≤ nI 5 ∧ nI 5 ≤ 6) = true := by decide
  refine zs rfl rfl rfl ?_
  refine zs rfl rfl rfl ?_
  refine zs rfl rfl rfl ?_
  refine zs rfl rfl rfl ?_
  rw [e]
  refine zs rfl rfl rfl ?_
  refine zs rfl rfl rfl ?_
  refine zs rfl rfl rfl ?_
  refine zcl rfl rfl (c_isIn (nI 5) 0 6) ?_
  rw [e2]
  refine zs rfl rfl rfl ?_
  refine zs rfl rfl rfl ?_
  refine zs rfl rfl rfl ?_
  refine zs rfl rfl rfl ?_
  refine zs rfl rfl rfl ?_
  refine zal rfl rfl rfl (by omega) (by decide) ?_
  refine zs rfl rfl rfl ?_
  refine zs rfl rfl rfl ?_
  refine zas rfl rfl rfl rfl (by omega) (by decide) ?_
  refine zs rfl rfl rfl ?_
  refine zret rfl rfl ⟨rfl, rfl, rfl⟩
theorem c_refuse_6 : zE1 X 100 [.ref 0, .int (-1000000007)] M N (some (.int (-1000000007))) (z_up M 35 6 (M 35 6 + 1)) N := by
  refine zE1i [(0, .ref 0), (1, .int (-1000000007))] rfl ?_
  have e : (-1000000001 : Int32) - (-1000000007) = nI 6 := by decide
  have e2 : decide ((0 : Int32) ≤ nI 6 ∧ nI 6 ≤ 6) = true := by decide
  refine zs rfl rfl rfl ?_
  refine zs rfl rfl rfl ?_
  refine zs rfl rfl rfl ?_
  refine zs rfl rfl rfl ?_
  rw [e]
  refine zs rfl rfl rfl ?_
  refine zs rfl rfl rfl ?_
  refine zs rfl rfl rfl ?_
  refine zcl rfl rfl (c_isIn (nI 6) 0 6) ?_
  rw [e2]
  refine zs rfl rfl rfl ?_
  refine zs rfl rfl rfl ?_
  refine zs rfl rfl rfl ?_
  refine zs rfl rfl rfl ?_
  refine zs rfl rfl rfl ?_
  refine zal rfl rfl rfl (by omega) (by decide) ?_
  refine zs rfl rfl rfl ?_
  refine zs rfl rfl rfl ?_
  refine zas rfl rfl rfl rfl (by omega) (by decide) ?_
  refine zs rfl rfl rfl ?_
  refine zret rfl rfl ⟨rfl, rfl, rfl⟩
theorem c_put_2 {i : Nat} (hi : i < 6) (v lo hi : Int32) : zV X 101 [.ref 0, .ref 2, .int (nI i), .int v, .int lo, .int hi] M N (fun v' M' N' => N' = N ∧ ((lo ≤ v ∧ v ≤ hi) ∧ v' = some (.int (M 2 i)) ∧ M' = z_up M 2 i v ∨ ¬ (lo ≤ v ∧ v ≤ hi) ∧ v' = some (.int (-1000000001)) ∧ M' = z_up M 35 0 (M 35 0 + 1))) := by
  refine zVi [(0, .ref 0), (1, .ref 2), (2, .int (nI i)), (3, .int v), (4, .int lo), (5, .int hi)] rfl ?_
  refine zs rfl rfl rfl ?_
  refine zs rfl rfl rfl ?_
  refine zs rfl rfl rfl ?_
  refine zcl rfl rfl (c_isIn v lo hi) ?_
  by_cases h : lo ≤ v ∧ v ≤ hi
  · rw [decide_eq_true h]
    refine zs rfl rfl rfl ?_
    refine zs rfl rfl rfl ?_
    refine zs rfl rfl rfl ?_
    refine zal rfl rfl rfl (by omega) (by decide) ?_
    refine zs rfl rfl rfl ?_
    refine zs rfl rfl rfl ?_
    refine zs rfl rfl rfl ?_
    refine zs rfl rfl rfl ?_
    refine zas rfl rfl rfl rfl (by omega) (by decide) ?_
    refine zs rfl rfl rfl ?_
    exact zret rfl rfl ⟨rfl, Or.inl ⟨h, rfl, rfl⟩⟩
  · rw [decide_eq_false h]
    refine zs rfl rfl rfl ?_
    refine zs rfl rfl rfl ?_
    refine zs rfl rfl rfl ?_
    refine zcl rfl rfl (c_refuse_0) ?_
    exact zret rfl rfl ⟨rfl, Or.inr ⟨h, rfl, rfl⟩⟩
theorem c_put_3 {i : Nat} (hi : i < 13) (v lo hi : Int32) : zV X 101 [.ref 0, .ref 3, .int (nI i), .int v, .int lo, .int hi] M N (fun v' M' N' => N' = N ∧ ((lo ≤ v ∧ v ≤ hi) ∧ v' = some (.int (M 3 i)) ∧ M' = z_up M 3 i v ∨ ¬ (lo ≤ v ∧ v ≤ hi) ∧ v' = some (.int (-1000000001)) ∧ M' = z_up M 35 0 (M 35 0 + 1))) := by
  refine zVi [(0, .ref 0), (1, .ref 3), (2, .int (nI i)), (3, .int v), (4, .int lo), (5, .int hi)] rfl ?_
  refine zs rfl rfl rfl ?_
  refine zs rfl rfl rfl ?_
  refine zs rfl rfl rfl ?_
  refine zcl rfl rfl (c_isIn v lo hi) ?_
  by_cases h : lo ≤ v ∧ v ≤ hi
  · rw [decide_eq_true h]
    refine zs rfl rfl rfl ?_
    refine zs rfl rfl rfl ?_
    refine zs rfl rfl rfl ?_
    refine zal rfl rfl rfl (by omega) (by decide) ?_
    refine zs rfl rfl rfl ?_
    refine zs rfl rfl rfl ?_
    refine zs rfl rfl rfl ?_
    refine zs rfl rfl rfl ?_
    refine zas rfl rfl rfl rfl (by omega) (by decide) ?_
    refine zs rfl rfl rfl ?_
    exact zret rfl rfl ⟨rfl, Or.inl ⟨h, rfl, rfl⟩⟩
  · rw [decide_eq_false h]
    refine zs rfl rfl rfl ?_
    refine zs rfl rfl rfl ?_
    refine zs rfl rfl rfl ?_
    refine zcl rfl rfl (c_refuse_0) ?_
    exact zret rfl rfl ⟨rfl, Or.inr ⟨h, rfl, rfl⟩⟩
theorem c_put_4 {i : Nat} (hi : i < 12) (v lo hi : Int32) : zV X 101 [.ref 0, .ref 4, .int (nI i), .int v, .int lo, .int hi] M N (fun v' M' N' => N' = N ∧ ((lo ≤ v ∧ v ≤ hi) ∧ v' = some (.int (M 4 i)) ∧ M' = z_up M 4 i v ∨ ¬ (lo ≤ v ∧ v ≤ hi) ∧ v' = some (.int (-1000000001)) ∧ M' = z_up M 35 0 (M 35 0 + 1))) := by
  refine zVi [(0, .ref 0), (1, .ref 4), (2, .int (nI i)), (3, .int v), (4, .int lo), (5, .int hi)] rfl ?_
  refine zs rfl rfl rfl ?_
  refine zs rfl rfl rfl ?_
  refine zs rfl rfl rfl ?_
  refine zcl rfl rfl (c_isIn v lo hi) ?_
  by_cases h : lo ≤ v ∧ v ≤ hi
  · rw [decide_eq_true h]
    refine zs rfl rfl rfl ?_
    refine zs rfl rfl rfl ?_
    refine zs rfl rfl rfl ?_
    refine zal rfl rfl rfl (by omega) (by decide) ?_
    refine zs rfl rfl rfl ?_
    refine zs rfl rfl rfl ?_
    refine zs rfl rfl rfl ?_
    refine zs rfl rfl rfl ?_
    refine zas rfl rfl rfl rfl (by omega) (by decide) ?_
    refine zs rfl rfl rfl ?_
    exact zret rfl rfl ⟨rfl, Or.inl ⟨h, rfl, rfl⟩⟩
  · rw [decide_eq_false h]
    refine zs rfl rfl rfl ?_
    refine zs rfl rfl rfl ?_
    refine zs rfl rfl rfl ?_
    refine zcl rfl rfl (c_refuse_0) ?_
    exact zret rfl rfl ⟨rfl, Or.inr ⟨h, rfl, rfl⟩⟩
theorem c_put_5 {i : Nat} (hi : i < 12) (v lo hi : Int32) : zV X 101 [.ref 0, .ref 5, .int (nI i), .int v, .int lo, .int hi] M N (fun v' M' N' => N' = N ∧ ((lo ≤ v ∧ v ≤ hi) ∧ v' = some (.int (M 5 i)) ∧ M' = z_up M 5 i v ∨ ¬ (lo ≤ v ∧ v ≤ hi) ∧ v' = some (.int (-1000000001)) ∧ M' = z_up M 35 0 (M 35 0 + 1))) := by
  refine zVi [(0, .ref 0), (1, .ref 5), (2, .int (nI i)), (3, .int v), (4, .int lo), (5, .int hi)] rfl ?_
  refine zs rfl rfl rfl ?_
  refine zs rfl rfl rfl ?_
  refine zs rfl rfl rfl ?_
  refine zcl rfl rfl (c_isIn v lo hi) ?_
  by_cases h : lo ≤ v ∧ v ≤ hi
  · rw [decide_eq_true h]
    refine zs rfl rfl rfl ?_
    refine zs rfl rfl rfl ?_
    refine zs rfl rfl rfl ?_
    refine zal rfl rfl rfl (by omega) (by decide) ?_
    refine zs rfl rfl rfl ?_
    refine zs rfl rfl rfl ?_
    refine zs rfl rfl rfl ?_
    refine zs rfl rfl rfl ?_
    refine zas rfl rfl rfl rfl (by omega) (by decide) ?_
    refine zs rfl rfl rfl ?_
    exact zret rfl rfl ⟨rfl, Or.inl ⟨h, rfl, rfl⟩⟩
  · rw [decide_eq_false h]
    refine zs rfl rfl rfl ?_
    refine zs rfl rfl rfl ?_
    refine zs rfl rfl rfl ?_
    refine zcl rfl rfl (c_refuse_0) ?_
    exact zret rfl rfl ⟨rfl, Or.inr ⟨h, rfl, rfl⟩⟩
theorem c_put_6 {i : Nat} (hi : i < 12) (v lo hi : Int32) : zV X 101 [.ref 0, .ref 6, .int (nI i), .int v, .int lo, .int hi] M N (fun v' M' N' => N' = N ∧ ((lo ≤ v ∧ v ≤ hi) ∧ v' = some (.int (M 6 i)) ∧ M' = z_up M 6 i v ∨ ¬ (lo ≤ v ∧ v ≤ hi) ∧ v' = some (.int (-1000000001)) ∧ M' = z_up M 35 0 (M 35 0 + 1))) := by
  refine zVi [(0, .ref 0), (1, .ref 6), (2, .int (nI i)), (3, .int v), (4, .int lo), (5, .int hi)] rfl ?_
  refine zs rfl rfl rfl ?_
  refine zs rfl rfl rfl ?_
  refine zs rfl rfl rfl ?_
  refine zcl rfl rfl (c_isIn v lo hi) ?_
  by_cases h : lo ≤ v ∧ v ≤ hi
  · rw [decide_eq_true h]
    refine zs rfl rfl rfl ?_
    refine zs rfl rfl rfl ?_
    refine zs rfl rfl rfl ?_
    refine zal rfl rfl rfl (by omega) (by decide) ?_
    refine zs rfl rfl rfl ?_
    refine zs rfl rfl rfl ?_
    refine zs rfl rfl rfl ?_
    refine zs rfl rfl rfl ?_
    refine zas rfl rfl rfl rfl (by omega) (by decide) ?_
    refine zs rfl rfl rfl ?_
    exact zret rfl rfl ⟨rfl, Or.inl ⟨h, rfl, rfl⟩⟩
  · rw [decide_eq_false h]
    refine zs rfl rfl rfl ?_
    refine zs rfl rfl rfl ?_
    refine zs rfl rfl rfl ?_
    refine zcl rfl rfl (c_refuse_0) ?_
    exact zret rfl rfl ⟨rfl, Or.inr ⟨h, rfl, rfl⟩⟩
theorem c_put_7 {i : Nat} (hi : i < 12) (v lo hi : Int32) : zV X 101 [.ref 0, .ref 7, .int (nI i), .int v, .int lo, .int hi] M N (fun v' M' N' => N' = N ∧ ((lo ≤ v ∧ v ≤ hi) ∧ v' = some (.int (M 7 i)) ∧ M' = z_up M 7 i v ∨ ¬ (lo ≤ v ∧ v ≤ hi) ∧ v' = some (.int (-1000000001)) ∧ M' = z_up M 35 0 (M 35 0 + 1))) := by
  refine zVi [(0, .ref 0), (1, .ref 7), (2, .int (nI i)), (3, .int v), (4, .int lo), (5, .int hi)] rfl ?_
  refine zs rfl rfl rfl ?_
  refine zs rfl rfl rfl ?_
  refine zs rfl rfl rfl ?_
  refine zcl rfl rfl (c_isIn v lo hi) ?_
  by_cases h : lo ≤ v ∧ v ≤ hi
  · rw [decide_eq_true h]
    refine zs rfl rfl rfl ?_
    refine zs rfl rfl rfl ?_
    refine zs rfl rfl rfl ?_
    refine zal rfl rfl rfl (by omega) (by decide) ?_
    refine zs rfl rfl rfl ?_
    refine zs rfl rfl rfl ?_
    refine zs rfl rfl rfl ?_
    refine zs rfl rfl rfl ?_
    refine zas rfl rfl rfl rfl (by omega) (by decide) ?_
    refine zs rfl rfl rfl ?_
    exact zret rfl rfl ⟨rfl, Or.inl ⟨h, rfl, rfl⟩⟩
  · rw [decide_eq_false h]
    refine zs rfl rfl rfl ?_
    refine zs rfl rfl rfl ?_
    refine zs rfl rfl rfl ?_
    refine zcl rfl rfl (c_refuse_0) ?_
    exact zret rfl rfl ⟨rfl, Or.inr ⟨h, rfl, rfl⟩⟩
end PUB
