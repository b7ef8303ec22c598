/-! Methods of the class, one by one. -/
def bI (b : Bool) : Int32 := cond b 1 0
section CLS
variable {X : Nat × (Nat → Int32)} {M : zM} {N : zN}
theorem c_isIn (v lo hi : Int32) : zE1 X 109 [.int v, .int lo, .int hi] M N (some (.int (bI (decide (lo ≤ v ∧ v ≤ hi))))) M N := by
  refine zE1i [(0, .int v), (1, .int lo), (2, .int hi)] rfl ?_
  refine zs rfl rfl rfl ?_
  refine zs rfl rfl rfl ?_
  refine zbr rfl rfl rfl (fun h1 => ?_) (fun h1 => ?_)
  · repeat (refine zs rfl rfl rfl ?_)
    refine zret rfl rfl ⟨?_, rfl, rfl⟩
    rw [decide_eq_false (fun q => i_nlt.mpr q.1 h1)]; rfl
  · refine zs rfl rfl rfl ?_
    refine zs rfl rfl rfl ?_
    refine zbr rfl rfl rfl (fun h2 => ?_) (fun h2 => ?_)
    · repeat (refine zs rfl rfl rfl ?_)
      refine zret rfl rfl ⟨?_, rfl, rfl⟩
      rw [decide_eq_false (fun q => i_nlt.mpr q.2 h2)]; rfl
    · repeat (refine zs rfl rfl rfl ?_)
      refine zret rfl rfl ⟨?_, rfl, rfl⟩
      rw [decide_eq_true ⟨i_nlt.mp h1, i_nlt.mp h2⟩]; rfl
theorem c_hangersOf_h {n : Nat} (hn : M 1 8 = nI n) (h12 : n ≤ 12) (t : Int32) : zE1 X 9 [.ref 1, .int t] M N (some (.int (nI (bset n (fun k => decide (M 8 k = t)))))) M N := by
  refine zE1i [(0, .ref 1), (1, .int t)] rfl ?_
  refine zs rfl rfl rfl ?_
  refine zs rfl rfl rfl ?_
  refine zs rfl rfl rfl ?_
  refine zs rfl rfl rfl ?_
  have loop : ∀ d i, i + d = n → zW X 9 4 [(0, .ref 1), (1, .int t), (2, .int (nI (bset i (fun k => decide (M 8 k = t))))), (3, .int (nI i))] [] M N (fun v1 M1 N1 => v1 = some (.int (nI (bset n (fun k => decide (M 8 k = t))))) ∧ M1 = M ∧ N1 = N) := by
    intro d
    induction d with
    | zero =>
      intro i hi
      obtain rfl : i = n := by omega
      refine zs rfl rfl rfl ?_
      refine zs rfl rfl rfl ?_
      refine zs rfl rfl rfl ?_
      refine zbt (c := M 1 8 ≤ nI i) (by rw [hn]; exact nI_le (by omega) (by omega)) rfl rfl rfl ?_
      repeat (refine zs rfl rfl rfl ?_)
      exact zret rfl rfl ⟨rfl, rfl, rfl⟩
    | succ d ih =>
      intro i hi
      refine zs rfl rfl rfl ?_
      refine zs rfl rfl rfl ?_
      refine zs rfl rfl rfl ?_
      refine zbf (c := M 1 8 ≤ nI i) (by rw [hn]; exact nI_ge (by omega) (by omega)) rfl rfl rfl ?_
      refine zs rfl rfl rfl ?_
      refine zs rfl rfl rfl ?_
      refine zs rfl rfl rfl ?_
      refine zald rfl rfl (show i < 12 by omega) (by decide) ?_
      refine zs rfl rfl rfl ?_
      refine zbr rfl rfl rfl (fun hc => ?_) (fun hc => ?_)
      · refine zinc rfl rfl rfl ?_
        refine zs rfl rfl rfl ?_
        have e : bset (i + 1) (fun k => decide (M 8 k = t)) = bset i (fun k => decide (M 8 k = t)) := by
          show cond (decide (M 8 i = t)) _ _ = _
          rw [decide_eq_false hc]; rfl
        rw [← e]
        exact ih (i + 1) (by omega)
      · refine zs rfl rfl rfl ?_
        refine zs rfl rfl rfl ?_
        refine zs rfl rfl rfl ?_
        refine zs rfl rfl rfl ?_
        refine zs rfl rfl rfl ?_
        refine ztop (y := nI (bset (i + 1) (fun k => decide (M 8 k = t)))) ?_ ?_
        · show _ = nI (cond (decide (M 8 i = t)) _ _)
          rw [decide_eq_true (Decidable.not_not.mp hc), or_bit (bset_lt _ _) (by omega)]; rfl
        refine zs rfl rfl rfl ?_
        refine zinc rfl rfl rfl ?_
        refine zs rfl rfl rfl ?_
        exact ih (i + 1) (by omega)
  exact loop n 0 (Nat.zero_add n)
theorem c_hangersOf_t {n : Nat} (hn : M 19 8 = nI n) (h12 : n ≤ 12) (t : Int32) : zE1 X 9 [.ref 19, .int t] M N (some (.int (nI (bset n (fun k => decide (M 26 k = t)))))) M N := by
  refine zE1i [(0, .ref 19), (1, .int t)] rfl ?_
  refine zs rfl rfl rfl ?_
  refine zs rfl rfl rfl ?_
  refine zs rfl rfl rfl ?_
  refine zs rfl rfl rfl ?_
  have loop : ∀ d i, i + d = n → zW X 9 4 [(0, .ref 19), (1, .int t), (2, .int (nI (bset i (fun k => decide (M 26 k = t))))), (3, .int (nI i))] [] M N (fun v1 M1 N1 => v1 = some (.int (nI (bset n (fun k => decide (M 26 k = t))))) ∧ M1 = M ∧ N1 = N) := by
    intro d
    induction d with
    | zero =>
      intro i hi
      obtain rfl : i = n := by omega
      refine zs rfl rfl rfl ?_
      refine zs rfl rfl rfl ?_
      refine zs rfl rfl rfl ?_
      refine zbt (c := M 19 8 ≤ nI i) (by rw [hn]; exact nI_le (by omega) (by omega)) rfl rfl rfl ?_
      repeat (refine zs rfl rfl rfl ?_)
      exact zret rfl rfl ⟨rfl, rfl, rfl⟩
    | succ d ih =>
      intro i hi
      refine zs rfl rfl rfl ?_
      refine zs rfl rfl rfl ?_
      refine zs rfl rfl rfl ?_
      refine zbf (c := M 19 8 ≤ nI i) (by rw [hn]; exact nI_ge (by omega) (by omega)) rfl rfl rfl ?_
      refine zs rfl rfl rfl ?_
      refine zs rfl rfl rfl ?_
      refine zs rfl rfl rfl ?_
      refine zald rfl rfl (show i < 12 by omega) (by decide) ?_
      refine zs rfl rfl rfl ?_
      refine zbr rfl rfl rfl (fun hc => ?_) (fun hc => ?_)
      · refine zinc rfl rfl rfl ?_
        refine zs rfl rfl rfl ?_
        have e : bset (i + 1) (fun k => decide (M 26 k = t)) = bset i (fun k => decide (M 26 k = t)) := by
          show cond (decide (M 26 i = t)) _ _ = _
          rw [decide_eq_false hc]; rfl
        rw [← e]
        exact ih (i + 1) (by omega)
      · refine zs rfl rfl rfl ?_
        refine zs rfl rfl rfl ?_
        refine zs rfl rfl rfl ?_
        refine zs rfl rfl rfl ?_
        refine zs rfl rfl rfl ?_
        refine ztop (y := nI (bset (i + 1) (fun k => decide (M 26 k = t)))) ?_ ?_
        · show _ = nI (cond (decide (M 26 i = t)) _ _)
          rw [decide_eq_true (Decidable.not_not.mp hc), or_bit (bset_lt _ _) (by omega)]; rfl
        refine zs rfl rfl rfl ?_
        refine zinc rfl rfl rfl ?_
        refine zs rfl rfl rfl ?_
        exact ih (i + 1) (by omega)
  exact loop n 0 (Nat.zero_add n)
end CLS
