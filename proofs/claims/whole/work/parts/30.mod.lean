/-! The model's methods: the row. -/
section MOD
variable {X : Nat × (Nat → Int32)} {M M2 : zM} {N : zN} {S T : zS} {n : Nat}
theorem Rw.up {q : Nat} (h : Rw M q S) (i : Nat) (x : Int32) : Rw (z_up M q i x) q (upd S i x) := fun j hj => by
  rw [z_up_a]
  show _ = if j = i then x else S j
  by_cases e : j = i
  · rw [if_pos e, if_pos e]
  · rw [if_neg e, if_neg e]; exact h j hj
theorem Rw.fr {q : Nat} {l : List Nat} (h : Rw M q S) (hf : Fr l M M2) (hq : q ∉ l) : Rw M2 q S := fun j hj => by
  rw [hf q hq]; exact h j hj
theorem mI (k c : Nat) : (22 : Int32) + 5 * nI k + nI c = nI (22 + 5 * k + c) := by
  rw [show (5 : Int32) * nI k = nI (5 * k) from (Int32.ofNat_mul 5 k).symm, show (22 : Int32) = nI 22 from rfl, nI_add, nI_add]
theorem m_is0 (hr : Rw M 45 S) {k : Nat} (hk : k < 12) : zE1 X 117 [.ref 44, .int (nI k), .int 0] M N (some (.int (kd S k))) M N := by
  refine zE1i [(0, .ref 44), (1, .int (nI k)), (2, .int 0)] rfl ?_
  refine zs rfl rfl rfl ?_
  refine zs rfl rfl rfl ?_
  refine zs rfl rfl rfl ?_
  refine zs rfl rfl rfl ?_
  refine zs rfl rfl rfl ?_
  refine zs rfl rfl rfl ?_
  refine zs rfl rfl rfl ?_
  refine zs rfl rfl rfl ?_
  refine zs rfl rfl rfl ?_
  refine zto rfl (mI k 0) ?_
  refine zal rfl rfl rfl (by omega) (by decide) ?_
  refine zto rfl (hr _ (by omega)) ?_
  refine zret rfl rfl ⟨?_, rfl, rfl⟩
  unfold kd
  rw [show 22 + 5 * k + 0 = 22 + 5 * k by omega]
theorem m_puts0 {k : Nat} (hk : k < 12) (v : Int32) : zE1 X 118 [.ref 44, .int (nI k), .int 0, .int v] M N none (z_up M 45 (22 + 5 * k) v) N := by
  refine zE1i [(0, .ref 44), (1, .int (nI k)), (2, .int 0), (3, .int v)] rfl ?_
  refine zs rfl rfl rfl ?_
  refine zs rfl rfl rfl ?_
  refine zs rfl rfl rfl ?_
  refine zs rfl rfl rfl ?_
  refine zs rfl rfl rfl ?_
  refine zs rfl rfl rfl ?_
  refine zs rfl rfl rfl ?_
  refine zs rfl rfl rfl ?_
  refine zs rfl rfl rfl ?_
  refine zto rfl (mI k 0) ?_
  refine zs rfl rfl rfl ?_
  refine zas rfl rfl rfl rfl (by omega) (by decide) ?_
  refine zret rfl rfl ⟨rfl, ?_, rfl⟩
  rw [show 22 + 5 * k + 0 = 22 + 5 * k by omega]
theorem m_is1 (hr : Rw M 45 S) {k : Nat} (hk : k < 12) : zE1 X 117 [.ref 44, .int (nI k), .int 1] M N (some (.int (sz S k))) M N := by
  refine zE1i [(0, .ref 44), (1, .int (nI k)), (2, .int 1)] rfl ?_
  refine zs rfl rfl rfl ?_
  refine zs rfl rfl rfl ?_
  refine zs rfl rfl rfl ?_
  refine zs rfl rfl rfl ?_
  refine zs rfl rfl rfl ?_
  refine zs rfl rfl rfl ?_
  refine zs rfl rfl rfl ?_
  refine zs rfl rfl rfl ?_
  refine zs rfl rfl rfl ?_
  refine zto rfl (mI k 1) ?_
  refine zal rfl rfl rfl (by omega) (by decide) ?_
  refine zto rfl (hr _ (by omega)) ?_
  refine zret rfl rfl ⟨?_, rfl, rfl⟩
  unfold sz
  rw [show 22 + 5 * k + 1 = 23 + 5 * k by omega]
theorem m_puts1 {k : Nat} (hk : k < 12) (v : Int32) : zE1 X 118 [.ref 44, .int (nI k), .int 1, .int v] M N none (z_up M 45 (23 + 5 * k) v) N := by
  refine zE1i [(0, .ref 44), (1, .int (nI k)), (2, .int 1), (3, .int v)] rfl ?_
  refine zs rfl rfl rfl ?_
  refine zs rfl rfl rfl ?_
  refine zs rfl rfl rfl ?_
  refine zs rfl rfl rfl ?_
  refine zs rfl rfl rfl ?_
  refine zs rfl rfl rfl ?_
  refine zs rfl rfl rfl ?_
  refine zs rfl rfl rfl ?_
  refine zs rfl rfl rfl ?_
  refine zto rfl (mI k 1) ?_
  refine zs rfl rfl rfl ?_
  refine zas rfl rfl rfl rfl (by omega) (by decide) ?_
  refine zret rfl rfl ⟨rfl, ?_, rfl⟩
  rw [show 22 + 5 * k + 1 = 23 + 5 * k by omega]
theorem m_is2 (hr : Rw M 45 S) {k : Nat} (hk : k < 12) : zE1 X 117 [.ref 44, .int (nI k), .int 2] M N (some (.int (ch S k))) M N := by
  refine zE1i [(0, .ref 44), (1, .int (nI k)), (2, .int 2)] rfl ?_
  refine zs rfl rfl rfl ?_
  refine zs rfl rfl rfl ?_
  refine zs rfl rfl rfl ?_
  refine zs rfl rfl rfl ?_
  refine zs rfl rfl rfl ?_
  refine zs rfl rfl rfl ?_
  refine zs rfl rfl rfl ?_
  refine zs rfl rfl rfl ?_
  refine zs rfl rfl rfl ?_
  refine zto rfl (mI k 2) ?_
  refine zal rfl rfl rfl (by omega) (by decide) ?_
  refine zto rfl (hr _ (by omega)) ?_
  refine zret rfl rfl ⟨?_, rfl, rfl⟩
  unfold ch
  rw [show 22 + 5 * k + 2 = 24 + 5 * k by omega]
theorem m_puts2 {k : Nat} (hk : k < 12) (v : Int32) : zE1 X 118 [.ref 44, .int (nI k), .int 2, .int v] M N none (z_up M 45 (24 + 5 * k) v) N := by
  refine zE1i [(0, .ref 44), (1, .int (nI k)), (2, .int 2), (3, .int v)] rfl ?_
  refine zs rfl rfl rfl ?_
  refine zs rfl rfl rfl ?_
  refine zs rfl rfl rfl ?_
  refine zs rfl rfl rfl ?_
  refine zs rfl rfl rfl ?_
  refine zs rfl rfl rfl ?_
  refine zs rfl rfl rfl ?_
  refine zs rfl rfl rfl ?_
  refine zs rfl rfl rfl ?_
  refine zto rfl (mI k 2) ?_
  refine zs rfl rfl rfl ?_
  refine zas rfl rfl rfl rfl (by omega) (by decide) ?_
  refine zret rfl rfl ⟨rfl, ?_, rfl⟩
  rw [show 22 + 5 * k + 2 = 24 + 5 * k by omega]
theorem m_is3 (hr : Rw M 45 S) {k : Nat} (hk : k < 12) : zE1 X 117 [.ref 44, .int (nI k), .int 3] M N (some (.int (wo S k))) M N := by
  refine zE1i [(0, .ref 44), (1, .int (nI k)), (2, .int 3)] rfl ?_
  refine zs rfl rfl rfl ?_
  refine zs rfl rfl rfl ?_
  refine zs rfl rfl rfl ?_
  refine zs rfl rfl rfl ?_
  refine zs rfl rfl rfl ?_
  refine zs rfl rfl rfl ?_
  refine zs rfl rfl rfl ?_
  refine zs rfl rfl rfl ?_
  refine zs rfl rfl rfl ?_
  refine zto rfl (mI k 3) ?_
  refine zal rfl rfl rfl (by omega) (by decide) ?_
  refine zto rfl (hr _ (by omega)) ?_
  refine zret rfl rfl ⟨?_, rfl, rfl⟩
  unfold wo
  rw [show 22 + 5 * k + 3 = 25 + 5 * k by omega]
theorem m_puts3 {k : Nat} (hk : k < 12) (v : Int32) : zE1 X 118 [.ref 44, .int (nI k), .int 3, .int v] M N none (z_up M 45 (25 + 5 * k) v) N := by
  refine zE1i [(0, .ref 44), (1, .int (nI k)), (2, .int 3), (3, .int v)] rfl ?_
  refine zs rfl rfl rfl ?_
  refine zs rfl rfl rfl ?_
  refine zs rfl rfl rfl ?_
  refine zs rfl rfl rfl ?_
  refine zs rfl rfl rfl ?_
  refine zs rfl rfl rfl ?_
  refine zs rfl rfl rfl ?_
  refine zs rfl rfl rfl ?_
  refine zs rfl rfl rfl ?_
  refine zto rfl (mI k 3) ?_
  refine zs rfl rfl rfl ?_
  refine zas rfl rfl rfl rfl (by omega) (by decide) ?_
  refine zret rfl rfl ⟨rfl, ?_, rfl⟩
  rw [show 22 + 5 * k + 3 = 25 + 5 * k by omega]
theorem m_is4 (hr : Rw M 45 S) {k : Nat} (hk : k < 12) : zE1 X 117 [.ref 44, .int (nI k), .int 4] M N (some (.int (lk S k))) M N := by
  refine zE1i [(0, .ref 44), (1, .int (nI k)), (2, .int 4)] rfl ?_
  refine zs rfl rfl rfl ?_
  refine zs rfl rfl rfl ?_
  refine zs rfl rfl rfl ?_
  refine zs rfl rfl rfl ?_
  refine zs rfl rfl rfl ?_
  refine zs rfl rfl rfl ?_
  refine zs rfl rfl rfl ?_
  refine zs rfl rfl rfl ?_
  refine zs rfl rfl rfl ?_
  refine zto rfl (mI k 4) ?_
  refine zal rfl rfl rfl (by omega) (by decide) ?_
  refine zto rfl (hr _ (by omega)) ?_
  refine zret rfl rfl ⟨?_, rfl, rfl⟩
  unfold lk
  rw [show 22 + 5 * k + 4 = 26 + 5 * k by omega]
theorem m_puts4 {k : Nat} (hk : k < 12) (v : Int32) : zE1 X 118 [.ref 44, .int (nI k), .int 4, .int v] M N none (z_up M 45 (26 + 5 * k) v) N := by
  refine zE1i [(0, .ref 44), (1, .int (nI k)), (2, .int 4), (3, .int v)] rfl ?_
  refine zs rfl rfl rfl ?_
  refine zs rfl rfl rfl ?_
  refine zs rfl rfl rfl ?_
  refine zs rfl rfl rfl ?_
  refine zs rfl rfl rfl ?_
  refine zs rfl rfl rfl ?_
  refine zs rfl rfl rfl ?_
  refine zs rfl rfl rfl ?_
  refine zs rfl rfl rfl ?_
  refine zto rfl (mI k 4) ?_
  refine zs rfl rfl rfl ?_
  refine zas rfl rfl rfl rfl (by omega) (by decide) ?_
  refine zret rfl rfl ⟨rfl, ?_, rfl⟩
  rw [show 22 + 5 * k + 4 = 26 + 5 * k by omega]
theorem m_isShip (hn0 : M 45 0 = nI n) (t : Int32) : zE1 X 119 [.ref 44, .int t] M N (some (.int (bI (shp n t)))) M N := by
  refine zE1i [(0, .ref 44), (1, .int t)] rfl ?_
  unfold shp
  refine zs rfl rfl rfl ?_
  refine zbr rfl rfl rfl (fun hc => ?_) (fun hc => ?_)
  · rw [decide_eq_false (fun q => i_nlt.mpr q.1 hc)]
    refine zs rfl rfl rfl ?_
    exact zret rfl rfl ⟨rfl, rfl, rfl⟩
  · refine zs rfl rfl rfl ?_
    refine zs rfl rfl rfl ?_
    refine zs rfl rfl rfl ?_
    refine zs rfl rfl rfl ?_
    refine zal (i := 0) rfl rfl rfl (by decide) (by decide) ?_
    try refine zto rfl hn0 ?_
    refine zbr rfl rfl rfl (fun hd => ?_) (fun hd => ?_)
    · rw [decide_eq_false (fun q => i_nlt.mpr hd q.2)]
      refine zs rfl rfl rfl ?_
      exact zret rfl rfl ⟨rfl, rfl, rfl⟩
    · rw [decide_eq_true ⟨i_nlt.mp hc, i_nle.mp hd⟩]
      refine zs rfl rfl rfl ?_
      refine zs rfl rfl rfl ?_
      exact zret rfl rfl ⟨rfl, rfl, rfl⟩
theorem m_isAnchor (t : Int32) : zE1 X 120 [.int t] M N (some (.int (bI (decide (0 ≤ t ∧ t ≤ 5))))) M N := by
  refine zE1i [(0, .int t)] rfl ?_
  have e : (6 : Int32) ≤ t ↔ ¬ t ≤ 5 := by
    rw [i_le, i_le, show (6 : Int32).toInt = 6 by decide, show (5 : Int32).toInt = 5 by decide]; omega
  refine zs rfl rfl rfl ?_
  refine zbr rfl rfl rfl (fun hc => ?_) (fun hc => ?_)
  · rw [decide_eq_false (fun q => i_nlt.mpr q.1 hc)]
    refine zs rfl rfl rfl ?_
    exact zret rfl rfl ⟨rfl, rfl, rfl⟩
  · refine zs rfl rfl rfl ?_
    refine zs rfl rfl rfl ?_
    refine zbr rfl rfl rfl (fun hd => ?_) (fun hd => ?_)
    · rw [decide_eq_false (fun q => e.mp hd q.2)]
      refine zs rfl rfl rfl ?_
      exact zret rfl rfl ⟨rfl, rfl, rfl⟩
    · rw [decide_eq_true ⟨i_nlt.mp hc, Decidable.not_not.mp (fun q => hd (e.mpr q))⟩]
      refine zs rfl rfl rfl ?_
      refine zs rfl rfl rfl ?_
      exact zret rfl rfl ⟨rfl, rfl, rfl⟩
theorem m_isWind (t : Int32) : zE1 X 121 [.int t] M N (some (.int (bI (decide (0 ≤ t ∧ t ≤ 12))))) M N := by
  refine zE1i [(0, .int t)] rfl ?_
  have e : (13 : Int32) ≤ t ↔ ¬ t ≤ 12 := by
    rw [i_le, i_le, show (13 : Int32).toInt = 13 by decide, show (12 : Int32).toInt = 12 by decide]; omega
  refine zs rfl rfl rfl ?_
  refine zbr rfl rfl rfl (fun hc => ?_) (fun hc => ?_)
  · rw [decide_eq_false (fun q => i_nlt.mpr q.1 hc)]
    refine zs rfl rfl rfl ?_
    exact zret rfl rfl ⟨rfl, rfl, rfl⟩
  · refine zs rfl rfl rfl ?_
    refine zs rfl rfl rfl ?_
    refine zbr rfl rfl rfl (fun hd => ?_) (fun hd => ?_)
    · rw [decide_eq_false (fun q => e.mp hd q.2)]
      refine zs rfl rfl rfl ?_
      exact zret rfl rfl ⟨rfl, rfl, rfl⟩
    · rw [decide_eq_true ⟨i_nlt.mp hc, Decidable.not_not.mp (fun q => hd (e.mpr q))⟩]
      refine zs rfl rfl rfl ?_
      refine zs rfl rfl rfl ?_
      exact zret rfl rfl ⟨rfl, rfl, rfl⟩
theorem m_isIn (a b c : Int64) : zE1 X 114 [.long a, .long b, .long c] M N (some (.int (bI (decide (b ≤ a ∧ a ≤ c))))) M N := by
  refine zE1i [(0, .long a), (1, .retAddr 0), (2, .long b), (3, .retAddr 0), (4, .long c), (5, .retAddr 0)] rfl ?_
  refine zs rfl rfl rfl ?_
  refine zs rfl rfl rfl ?_
  refine zs rfl rfl rfl ?_
  refine zbr rfl rfl rfl (fun hc => ?_) (fun hc => ?_)
  · rw [decide_eq_false (fun q => Int64.not_lt.mpr q.1 ((lg_cmp_lt _ _).mp hc))]
    refine zs rfl rfl rfl ?_
    exact zret rfl rfl ⟨rfl, rfl, rfl⟩
  · refine zs rfl rfl rfl ?_
    refine zs rfl rfl rfl ?_
    refine zs rfl rfl rfl ?_
    refine zbr rfl rfl rfl (fun hd => ?_) (fun hd => ?_)
    · rw [decide_eq_false (fun q => Int64.not_lt.mpr q.2 ((lg_cmp_gt _ _).mp hd))]
      refine zs rfl rfl rfl ?_
      exact zret rfl rfl ⟨rfl, rfl, rfl⟩
    · rw [decide_eq_true ⟨Int64.not_lt.mp (fun q => hc ((lg_cmp_lt _ _).mpr q)), Int64.not_lt.mp (fun q => hd ((lg_cmp_gt _ _).mpr q))⟩]
      refine zs rfl rfl rfl ?_
      refine zs rfl rfl rfl ?_
      exact zret rfl rfl ⟨rfl, rfl, rfl⟩
theorem l_le {a b : Int32} : a.toInt64 ≤ b.toInt64 ↔ a ≤ b := by
  rw [Int64.le_iff_toInt_le, Int32.toInt_toInt64, Int32.toInt_toInt64, i_le]
/-- the same of ints -/
theorem m_isInI (a b c : Int32) : zE1 X 114 [.long a.toInt64, .long b.toInt64, .long c.toInt64] M N (some (.int (bI (decide (b ≤ a ∧ a ≤ c))))) M N := by
  have h := m_isIn (X := X) (M := M) (N := N) a.toInt64 b.toInt64 c.toInt64
  have e : decide (b.toInt64 ≤ a.toInt64 ∧ a.toInt64 ≤ c.toInt64) = decide (b ≤ a ∧ a ≤ c) := by
    congr 1
    rw [l_le, l_le]
  rw [e] at h
  exact h
theorem m_isFar (hr : Rw M 45 S) (m : Int32) : zE1 X 122 [.ref 44, .int m] M N (some (.int (bI (decide (¬ S 1 + m ≤ 9999))))) M N := by
  refine zE1i [(0, .ref 44), (1, .int m)] rfl ?_
  refine zs rfl rfl rfl ?_
  refine zs rfl rfl rfl ?_
  refine zs rfl rfl rfl ?_
  refine zal (i := 1) rfl rfl rfl (by decide) (by decide) ?_
  try refine zto rfl (Rw.at (by assumption) (by omega)) ?_
  refine zs rfl rfl rfl ?_
  refine zs rfl rfl rfl ?_
  refine zs rfl rfl rfl ?_
  refine zbr rfl rfl rfl (fun hc => ?_) (fun hc => ?_)
  · rw [decide_eq_false (not_not_intro hc)]
    refine zs rfl rfl rfl ?_
    exact zret rfl rfl ⟨rfl, rfl, rfl⟩
  · rw [decide_eq_true hc]
    refine zs rfl rfl rfl ?_
    refine zs rfl rfl rfl ?_
    exact zret rfl rfl ⟨rfl, rfl, rfl⟩
theorem m_copyRow_45_47 (hr : Rw M 45 S) : zV X 123 [.ref 45, .ref 47] M N (fun v M' N' => v = none ∧ N' = N ∧ Fr [47] M M' ∧ Rw M' 47 S) := by
  refine zVi [(0, .ref 45), (1, .ref 47)] rfl ?_
  refine zs rfl rfl rfl ?_
  refine zs rfl rfl rfl ?_
  have loop : ∀ d i M1, i + d = 82 → Fr [47] M M1 → (∀ k, k < i → M1 47 k = S k) → zW X 123 2 [(0, .ref 45), (1, .ref 47), (2, .int (nI i))] [] M1 N (fun v M' N' => v = none ∧ N' = N ∧ Fr [47] M M' ∧ Rw M' 47 S) := by
    intro d
    induction d with
    | zero =>
      intro i M1 hi hf h1
      obtain rfl : i = 82 := by omega
      refine zs rfl rfl rfl ?_
      refine zs rfl rfl rfl ?_
      first | refine zs rfl rfl rfl ?_ | refine zbt (nI_le (a := 82) (by omega) (by omega)) rfl rfl rfl ?_
      exact zret rfl rfl ⟨rfl, rfl, hf, h1⟩
    | succ d ih =>
      intro i M1 hi hf h1
      have hr1 : M1 45 i = S i := by rw [hf 45 (by decide)]; exact hr i (by omega)
      refine zs rfl rfl rfl ?_
      refine zs rfl rfl rfl ?_
      refine zbf (nI_ge (b := 82) (by omega) (by omega)) rfl rfl rfl ?_
      refine zs rfl rfl rfl ?_
      refine zs rfl rfl rfl ?_
      refine zs rfl rfl rfl ?_
      refine zs rfl rfl rfl ?_
      refine zal rfl rfl rfl (by omega) (by decide) ?_
      refine zto rfl hr1 ?_
      refine zas rfl rfl rfl rfl (by omega) (by decide) ?_
      refine zinc rfl rfl rfl ?_
      refine zs rfl rfl rfl ?_
      refine ih (i + 1) _ (by omega) (hf.trans (Fr.up (by decide))) (fun k hk => ?_)
      rw [z_up_a]
      by_cases e : k = i
      · rw [if_pos e, e]
      · rw [if_neg e]; exact h1 k (by omega)
  exact loop 82 0 M rfl Fr.rfl' (fun k hk => absurd hk (Nat.not_lt_zero k))
theorem m_copyRow_47_45 (hr : Rw M 47 S) : zV X 123 [.ref 47, .ref 45] M N (fun v M' N' => v = none ∧ N' = N ∧ Fr [45] M M' ∧ Rw M' 45 S) := by
  refine zVi [(0, .ref 47), (1, .ref 45)] rfl ?_
  refine zs rfl rfl rfl ?_
  refine zs rfl rfl rfl ?_
  have loop : ∀ d i M1, i + d = 82 → Fr [45] M M1 → (∀ k, k < i → M1 45 k = S k) → zW X 123 2 [(0, .ref 47), (1, .ref 45), (2, .int (nI i))] [] M1 N (fun v M' N' => v = none ∧ N' = N ∧ Fr [45] M M' ∧ Rw M' 45 S) := by
    intro d
    induction d with
    | zero =>
      intro i M1 hi hf h1
      obtain rfl : i = 82 := by omega
      refine zs rfl rfl rfl ?_
      refine zs rfl rfl rfl ?_
      first | refine zs rfl rfl rfl ?_ | refine zbt (nI_le (a := 82) (by omega) (by omega)) rfl rfl rfl ?_
      exact zret rfl rfl ⟨rfl, rfl, hf, h1⟩
    | succ d ih =>
      intro i M1 hi hf h1
      have hr1 : M1 47 i = S i := by rw [hf 47 (by decide)]; exact hr i (by omega)
      refine zs rfl rfl rfl ?_
      refine zs rfl rfl rfl ?_
      refine zbf (nI_ge (b := 82) (by omega) (by omega)) rfl rfl rfl ?_
      refine zs rfl rfl rfl ?_
      refine zs rfl rfl rfl ?_
      refine zs rfl rfl rfl ?_
      refine zs rfl rfl rfl ?_
      refine zal rfl rfl rfl (by omega) (by decide) ?_
      refine zto rfl hr1 ?_
      refine zas rfl rfl rfl rfl (by omega) (by decide) ?_
      refine zinc rfl rfl rfl ?_
      refine zs rfl rfl rfl ?_
      refine ih (i + 1) _ (by omega) (hf.trans (Fr.up (by decide))) (fun k hk => ?_)
      rw [z_up_a]
      by_cases e : k = i
      · rw [if_pos e, e]
      · rw [if_neg e]; exact h1 k (by omega)
  exact loop 82 0 M rfl Fr.rfl' (fun k hk => absurd hk (Nat.not_lt_zero k))
theorem m_copyRow_45_48 (hr : Rw M 45 S) : zV X 123 [.ref 45, .ref 48] M N (fun v M' N' => v = none ∧ N' = N ∧ Fr [48] M M' ∧ Rw M' 48 S) := by
  refine zVi [(0, .ref 45), (1, .ref 48)] rfl ?_
  refine zs rfl rfl rfl ?_
  refine zs rfl rfl rfl ?_
  have loop : ∀ d i M1, i + d = 82 → Fr [48] M M1 → (∀ k, k < i → M1 48 k = S k) → zW X 123 2 [(0, .ref 45), (1, .ref 48), (2, .int (nI i))] [] M1 N (fun v M' N' => v = none ∧ N' = N ∧ Fr [48] M M' ∧ Rw M' 48 S) := by
    intro d
    induction d with
    | zero =>
      intro i M1 hi hf h1
      obtain rfl : i = 82 := by omega
      refine zs rfl rfl rfl ?_
      refine zs rfl rfl rfl ?_
      first | refine zs rfl rfl rfl ?_ | refine zbt (nI_le (a := 82) (by omega) (by omega)) rfl rfl rfl ?_
      exact zret rfl rfl ⟨rfl, rfl, hf, h1⟩
    | succ d ih =>
      intro i M1 hi hf h1
      have hr1 : M1 45 i = S i := by rw [hf 45 (by decide)]; exact hr i (by omega)
      refine zs rfl rfl rfl ?_
      refine zs rfl rfl rfl ?_
      refine zbf (nI_ge (b := 82) (by omega) (by omega)) rfl rfl rfl ?_
      refine zs rfl rfl rfl ?_
      refine zs rfl rfl rfl ?_
      refine zs rfl rfl rfl ?_
      refine zs rfl rfl rfl ?_
      refine zal rfl rfl rfl (by omega) (by decide) ?_
      refine zto rfl hr1 ?_
      refine zas rfl rfl rfl rfl (by omega) (by decide) ?_
      refine zinc rfl rfl rfl ?_
      refine zs rfl rfl rfl ?_
      refine ih (i + 1) _ (by omega) (hf.trans (Fr.up (by decide))) (fun k hk => ?_)
      rw [z_up_a]
      by_cases e : k = i
      · rw [if_pos e, e]
      · rw [if_neg e]; exact h1 k (by omega)
  exact loop 82 0 M rfl Fr.rfl' (fun k hk => absurd hk (Nat.not_lt_zero k))
theorem m_copyRow_48_45 (hr : Rw M 48 S) : zV X 123 [.ref 48, .ref 45] M N (fun v M' N' => v = none ∧ N' = N ∧ Fr [45] M M' ∧ Rw M' 45 S) := by
  refine zVi [(0, .ref 48), (1, .ref 45)] rfl ?_
  refine zs rfl rfl rfl ?_
  refine zs rfl rfl rfl ?_
  have loop : ∀ d i M1, i + d = 82 → Fr [45] M M1 → (∀ k, k < i → M1 45 k = S k) → zW X 123 2 [(0, .ref 48), (1, .ref 45), (2, .int (nI i))] [] M1 N (fun v M' N' => v = none ∧ N' = N ∧ Fr [45] M M' ∧ Rw M' 45 S) := by
    intro d
    induction d with
    | zero =>
      intro i M1 hi hf h1
      obtain rfl : i = 82 := by omega
      refine zs rfl rfl rfl ?_
      refine zs rfl rfl rfl ?_
      first | refine zs rfl rfl rfl ?_ | refine zbt (nI_le (a := 82) (by omega) (by omega)) rfl rfl rfl ?_
      exact zret rfl rfl ⟨rfl, rfl, hf, h1⟩
    | succ d ih =>
      intro i M1 hi hf h1
      have hr1 : M1 48 i = S i := by rw [hf 48 (by decide)]; exact hr i (by omega)
      refine zs rfl rfl rfl ?_
      refine zs rfl rfl rfl ?_
      refine zbf (nI_ge (b := 82) (by omega) (by omega)) rfl rfl rfl ?_
      refine zs rfl rfl rfl ?_
      refine zs rfl rfl rfl ?_
      refine zs rfl rfl rfl ?_
      refine zs rfl rfl rfl ?_
      refine zal rfl rfl rfl (by omega) (by decide) ?_
      refine zto rfl hr1 ?_
      refine zas rfl rfl rfl rfl (by omega) (by decide) ?_
      refine zinc rfl rfl rfl ?_
      refine zs rfl rfl rfl ?_
      refine ih (i + 1) _ (by omega) (hf.trans (Fr.up (by decide))) (fun k hk => ?_)
      rw [z_up_a]
      by_cases e : k = i
      · rw [if_pos e, e]
      · rw [if_neg e]; exact h1 k (by omega)
  exact loop 82 0 M rfl Fr.rfl' (fun k hk => absurd hk (Nat.not_lt_zero k))
theorem m_copyRow_45_49 (hr : Rw M 45 S) : zV X 123 [.ref 45, .ref 49] M N (fun v M' N' => v = none ∧ N' = N ∧ Fr [49] M M' ∧ Rw M' 49 S) := by
  refine zVi [(0, .ref 45), (1, .ref 49)] rfl ?_
  refine zs rfl rfl rfl ?_
  refine zs rfl rfl rfl ?_
  have loop : ∀ d i M1, i + d = 82 → Fr [49] M M1 → (∀ k, k < i → M1 49 k = S k) → zW X 123 2 [(0, .ref 45), (1, .ref 49), (2, .int (nI i))] [] M1 N (fun v M' N' => v = none ∧ N' = N ∧ Fr [49] M M' ∧ Rw M' 49 S) := by
    intro d
    induction d with
    | zero =>
      intro i M1 hi hf h1
      obtain rfl : i = 82 := by omega
      refine zs rfl rfl rfl ?_
      refine zs rfl rfl rfl ?_
      first | refine zs rfl rfl rfl ?_ | refine zbt (nI_le (a := 82) (by omega) (by omega)) rfl rfl rfl ?_
      exact zret rfl rfl ⟨rfl, rfl, hf, h1⟩
    | succ d ih =>
      intro i M1 hi hf h1
      have hr1 : M1 45 i = S i := by rw [hf 45 (by decide)]; exact hr i (by omega)
      refine zs rfl rfl rfl ?_
      refine zs rfl rfl rfl ?_
      refine zbf (nI_ge (b := 82) (by omega) (by omega)) rfl rfl rfl ?_
      refine zs rfl rfl rfl ?_
      refine zs rfl rfl rfl ?_
      refine zs rfl rfl rfl ?_
      refine zs rfl rfl rfl ?_
      refine zal rfl rfl rfl (by omega) (by decide) ?_
      refine zto rfl hr1 ?_
      refine zas rfl rfl rfl rfl (by omega) (by decide) ?_
      refine zinc rfl rfl rfl ?_
      refine zs rfl rfl rfl ?_
      refine ih (i + 1) _ (by omega) (hf.trans (Fr.up (by decide))) (fun k hk => ?_)
      rw [z_up_a]
      by_cases e : k = i
      · rw [if_pos e, e]
      · rw [if_neg e]; exact h1 k (by omega)
  exact loop 82 0 M rfl Fr.rfl' (fun k hk => absurd hk (Nat.not_lt_zero k))
theorem m_copyRow_49_45 (hr : Rw M 49 S) : zV X 123 [.ref 49, .ref 45] M N (fun v M' N' => v = none ∧ N' = N ∧ Fr [45] M M' ∧ Rw M' 45 S) := by
  refine zVi [(0, .ref 49), (1, .ref 45)] rfl ?_
  refine zs rfl rfl rfl ?_
  refine zs rfl rfl rfl ?_
  have loop : ∀ d i M1, i + d = 82 → Fr [45] M M1 → (∀ k, k < i → M1 45 k = S k) → zW X 123 2 [(0, .ref 49), (1, .ref 45), (2, .int (nI i))] [] M1 N (fun v M' N' => v = none ∧ N' = N ∧ Fr [45] M M' ∧ Rw M' 45 S) := by
    intro d
    induction d with
    | zero =>
      intro i M1 hi hf h1
      obtain rfl : i = 82 := by omega
      refine zs rfl rfl rfl ?_
      refine zs rfl rfl rfl ?_
      first | refine zs rfl rfl rfl ?_ | refine zbt (nI_le (a := 82) (by omega) (by omega)) rfl rfl rfl ?_
      exact zret rfl rfl ⟨rfl, rfl, hf, h1⟩
    | succ d ih =>
      intro i M1 hi hf h1
      have hr1 : M1 49 i = S i := by rw [hf 49 (by decide)]; exact hr i (by omega)
      refine zs rfl rfl rfl ?_
      refine zs rfl rfl rfl ?_
      refine zbf (nI_ge (b := 82) (by omega) (by omega)) rfl rfl rfl ?_
      refine zs rfl rfl rfl ?_
      refine zs rfl rfl rfl ?_
      refine zs rfl rfl rfl ?_
      refine zs rfl rfl rfl ?_
      refine zal rfl rfl rfl (by omega) (by decide) ?_
      refine zto rfl hr1 ?_
      refine zas rfl rfl rfl rfl (by omega) (by decide) ?_
      refine zinc rfl rfl rfl ?_
      refine zs rfl rfl rfl ?_
      refine ih (i + 1) _ (by omega) (hf.trans (Fr.up (by decide))) (fun k hk => ?_)
      rw [z_up_a]
      by_cases e : k = i
      · rw [if_pos e, e]
      · rw [if_neg e]; exact h1 k (by omega)
  exact loop 82 0 M rfl Fr.rfl' (fun k hk => absurd hk (Nat.not_lt_zero k))
theorem m_copyRow_45_46 (hr : Rw M 45 S) : zV X 123 [.ref 45, .ref 46] M N (fun v M' N' => v = none ∧ N' = N ∧ Fr [46] M M' ∧ Rw M' 46 S) := by
  refine zVi [(0, .ref 45), (1, .ref 46)] rfl ?_
  refine zs rfl rfl rfl ?_
  refine zs rfl rfl rfl ?_
  have loop : ∀ d i M1, i + d = 82 → Fr [46] M M1 → (∀ k, k < i → M1 46 k = S k) → zW X 123 2 [(0, .ref 45), (1, .ref 46), (2, .int (nI i))] [] M1 N (fun v M' N' => v = none ∧ N' = N ∧ Fr [46] M M' ∧ Rw M' 46 S) := by
    intro d
    induction d with
    | zero =>
      intro i M1 hi hf h1
      obtain rfl : i = 82 := by omega
      refine zs rfl rfl rfl ?_
      refine zs rfl rfl rfl ?_
      first | refine zs rfl rfl rfl ?_ | refine zbt (nI_le (a := 82) (by omega) (by omega)) rfl rfl rfl ?_
      exact zret rfl rfl ⟨rfl, rfl, hf, h1⟩
    | succ d ih =>
      intro i M1 hi hf h1
      have hr1 : M1 45 i = S i := by rw [hf 45 (by decide)]; exact hr i (by omega)
      refine zs rfl rfl rfl ?_
      refine zs rfl rfl rfl ?_
      refine zbf (nI_ge (b := 82) (by omega) (by omega)) rfl rfl rfl ?_
      refine zs rfl rfl rfl ?_
      refine zs rfl rfl rfl ?_
      refine zs rfl rfl rfl ?_
      refine zs rfl rfl rfl ?_
      refine zal rfl rfl rfl (by omega) (by decide) ?_
      refine zto rfl hr1 ?_
      refine zas rfl rfl rfl rfl (by omega) (by decide) ?_
      refine zinc rfl rfl rfl ?_
      refine zs rfl rfl rfl ?_
      refine ih (i + 1) _ (by omega) (hf.trans (Fr.up (by decide))) (fun k hk => ?_)
      rw [z_up_a]
      by_cases e : k = i
      · rw [if_pos e, e]
      · rw [if_neg e]; exact h1 k (by omega)
  exact loop 82 0 M rfl Fr.rfl' (fun k hk => absurd hk (Nat.not_lt_zero k))
theorem m_copyRow_46_45 (hr : Rw M 46 S) : zV X 123 [.ref 46, .ref 45] M N (fun v M' N' => v = none ∧ N' = N ∧ Fr [45] M M' ∧ Rw M' 45 S) := by
  refine zVi [(0, .ref 46), (1, .ref 45)] rfl ?_
  refine zs rfl rfl rfl ?_
  refine zs rfl rfl rfl ?_
  have loop : ∀ d i M1, i + d = 82 → Fr [45] M M1 → (∀ k, k < i → M1 45 k = S k) → zW X 123 2 [(0, .ref 46), (1, .ref 45), (2, .int (nI i))] [] M1 N (fun v M' N' => v = none ∧ N' = N ∧ Fr [45] M M' ∧ Rw M' 45 S) := by
    intro d
    induction d with
    | zero =>
      intro i M1 hi hf h1
      obtain rfl : i = 82 := by omega
      refine zs rfl rfl rfl ?_
      refine zs rfl rfl rfl ?_
      first | refine zs rfl rfl rfl ?_ | refine zbt (nI_le (a := 82) (by omega) (by omega)) rfl rfl rfl ?_
      exact zret rfl rfl ⟨rfl, rfl, hf, h1⟩
    | succ d ih =>
      intro i M1 hi hf h1
      have hr1 : M1 46 i = S i := by rw [hf 46 (by decide)]; exact hr i (by omega)
      refine zs rfl rfl rfl ?_
      refine zs rfl rfl rfl ?_
      refine zbf (nI_ge (b := 82) (by omega) (by omega)) rfl rfl rfl ?_
      refine zs rfl rfl rfl ?_
      refine zs rfl rfl rfl ?_
      refine zs rfl rfl rfl ?_
      refine zs rfl rfl rfl ?_
      refine zal rfl rfl rfl (by omega) (by decide) ?_
      refine zto rfl hr1 ?_
      refine zas rfl rfl rfl rfl (by omega) (by decide) ?_
      refine zinc rfl rfl rfl ?_
      refine zs rfl rfl rfl ?_
      refine ih (i + 1) _ (by omega) (hf.trans (Fr.up (by decide))) (fun k hk => ?_)
      rw [z_up_a]
      by_cases e : k = i
      · rw [if_pos e, e]
      · rw [if_neg e]; exact h1 k (by omega)
  exact loop 82 0 M rfl Fr.rfl' (fun k hk => absurd hk (Nat.not_lt_zero k))
theorem nI_m1 {a : Nat} (h : a < 2 ^ 31) : nI a ≠ -1 := fun q => by
  have := congrArg Int32.toInt q
  rw [nI_toInt h, t_m1] at this
  omega
theorem th_ge (h12 : n ≤ 12) {t : Int32} (h : Th n t) : (0 ≤ t) ↔ t ≠ -1 := by
  rcases h with rfl | ⟨j, hj, rfl⟩ | ⟨a, ha, rfl⟩
  · exact ⟨fun q => absurd q (by decide), fun q => absurd rfl q⟩
  · exact ⟨fun _ => nI_m1 (by omega), fun _ => nI_pos' (by omega)⟩
  · exact ⟨fun _ => nI_m1 (by omega), fun _ => nI_pos' (by omega)⟩
theorem m_hangs (hr : Rw M 45 S) (h12 : n ≤ 12) (hl : Lok S n) {k : Nat} (hk : k < n) : zE1 X 124 [.ref 44, .int (nI k)] M N (some (.int (bI (decide (lk S k ≠ -1))))) M N := by
  refine zE1i [(0, .ref 44), (1, .int (nI k))] rfl ?_
  refine zs rfl rfl rfl ?_
  refine zs rfl rfl rfl ?_
  refine zs rfl rfl rfl ?_
  refine zcl rfl rfl (m_is4 hr (show k < 12 by omega)) ?_
  have e := th_ge h12 (hl k hk)
  refine zbr rfl rfl rfl (fun hc => ?_) (fun hc => ?_)
  · rw [decide_eq_false (fun q => i_nlt.mpr (e.mpr q) hc)]
    refine zs rfl rfl rfl ?_
    exact zret rfl rfl ⟨rfl, rfl, rfl⟩
  · rw [decide_eq_true (e.mp (i_nlt.mp hc))]
    refine zs rfl rfl rfl ?_
    refine zs rfl rfl rfl ?_
    exact zret rfl rfl ⟨rfl, rfl, rfl⟩
theorem m_topOf (hr : Rw M 45 S) (h12 : n ≤ 12) (hl : Lok S n) (hv : Lv S n) {t : Int32} (ht : Th n t) : zE1 X 128 [.ref 44, .int t] M N (some (.int (rt S n 12 t))) M N := by
  refine zE1i [(0, .ref 44), (1, .int t)] rfl ?_
  refine zs rfl rfl rfl ?_
  refine zs rfl rfl rfl ?_
  have loop : ∀ f t', Th n t' → shp n (rt S n f t') = false → zW X 128 2 [(0, .ref 44), (1, .int t), (2, .int t')] [] M N (fun v1 M1 N1 => v1 = some (.int (rt S n f t')) ∧ M1 = M ∧ N1 = N) := by
    intro f
    induction f with
    | zero =>
      intro t' h1 h2
      rcases Th.ns h12 h1 h2 with rfl | ⟨a, ha, rfl⟩
      · refine zs rfl rfl rfl ?_
        refine zs rfl rfl rfl ?_
        refine zs rfl rfl rfl ?_
        exact zret rfl rfl ⟨rfl, rfl, rfl⟩
      · refine zs rfl rfl rfl ?_
        refine zbf (nI_pos (by omega)) rfl rfl rfl ?_
        refine zs rfl rfl rfl ?_
        refine zs rfl rfl rfl ?_
        refine zbt (nI_le (a := 100) (by omega) (by omega)) rfl rfl rfl ?_
        refine zs rfl rfl rfl ?_
        exact zret rfl rfl ⟨rfl, rfl, rfl⟩
    | succ f ih =>
      intro t' h1 h2
      rcases h1 with rfl | ⟨j, hj, rfl⟩ | ⟨a, ha, rfl⟩
      · rw [rt_stop (shp_m1 n)]
        refine zs rfl rfl rfl ?_
        refine zs rfl rfl rfl ?_
        refine zs rfl rfl rfl ?_
        exact zret rfl rfl ⟨rfl, rfl, rfl⟩
      · rw [rt_s h12 hj] at h2 ⊢
        refine zs rfl rfl rfl ?_
        refine zbf (nI_pos (by omega)) rfl rfl rfl ?_
        refine zs rfl rfl rfl ?_
        refine zs rfl rfl rfl ?_
        refine zbf (nI_ge (b := 100) (by omega) (by omega)) rfl rfl rfl ?_
        refine zs rfl rfl rfl ?_
        refine zs rfl rfl rfl ?_
        refine zs rfl rfl rfl ?_
        refine zcl rfl rfl (m_is4 hr (show j < 12 by omega)) ?_
        refine zs rfl rfl rfl ?_
        refine zs rfl rfl rfl ?_
        exact ih (lk S j) (hl j hj) h2
      · rw [rt_stop (shp_anc h12 ha)]
        refine zs rfl rfl rfl ?_
        refine zbf (nI_pos (by omega)) rfl rfl rfl ?_
        refine zs rfl rfl rfl ?_
        refine zs rfl rfl rfl ?_
        refine zbt (nI_le (a := 100) (by omega) (by omega)) rfl rfl rfl ?_
        refine zs rfl rfl rfl ?_
        exact zret rfl rfl ⟨rfl, rfl, rfl⟩
  exact loop 12 t ht (hv t)
theorem m_isInString (hr : Rw M 45 S) (h12 : n ≤ 12) (hl : Lok S n) (hv : Lv S n) {t : Int32} (ht : Th n t) (s : Int32) : zE1 X 125 [.ref 44, .int t, .int s] M N (some (.int (bI (lo S n s 12 t)))) M N := by
  refine zE1i [(0, .ref 44), (1, .int t), (2, .int s)] rfl ?_
  refine zs rfl rfl rfl ?_
  refine zs rfl rfl rfl ?_
  have loop : ∀ f t', Th n t' → shp n (rt S n f t') = false → zW X 125 2 [(0, .ref 44), (1, .int t), (2, .int s), (3, .int t')] [] M N (fun v1 M1 N1 => v1 = some (.int (bI (lo S n s f t'))) ∧ M1 = M ∧ N1 = N) := by
    intro f
    induction f with
    | zero =>
      intro t' h1 h2
      rcases Th.ns h12 h1 h2 with rfl | ⟨a, ha, rfl⟩
      · refine zs rfl rfl rfl ?_
        refine zs rfl rfl rfl ?_
        refine zs rfl rfl rfl ?_
        exact zret rfl rfl ⟨rfl, rfl, rfl⟩
      · refine zs rfl rfl rfl ?_
        refine zbf (nI_pos (by omega)) rfl rfl rfl ?_
        refine zs rfl rfl rfl ?_
        refine zs rfl rfl rfl ?_
        refine zbt (nI_le (a := 100) (by omega) (by omega)) rfl rfl rfl ?_
        refine zs rfl rfl rfl ?_
        exact zret rfl rfl ⟨rfl, rfl, rfl⟩
    | succ f ih =>
      intro t' h1 h2
      rcases h1 with rfl | ⟨j, hj, rfl⟩ | ⟨a, ha, rfl⟩
      · rw [lo_stop (shp_m1 n)]
        refine zs rfl rfl rfl ?_
        refine zs rfl rfl rfl ?_
        refine zs rfl rfl rfl ?_
        exact zret rfl rfl ⟨rfl, rfl, rfl⟩
      · rw [rt_s h12 hj] at h2
        rw [lo_s h12 hj]
        refine zs rfl rfl rfl ?_
        refine zbf (nI_pos (by omega)) rfl rfl rfl ?_
        refine zs rfl rfl rfl ?_
        refine zs rfl rfl rfl ?_
        refine zbf (nI_ge (b := 100) (by omega) (by omega)) rfl rfl rfl ?_
        refine zs rfl rfl rfl ?_
        refine zs rfl rfl rfl ?_
        refine zbr rfl rfl rfl (fun hc => ?_) (fun hc => ?_)
        · rw [decide_eq_false hc, Bool.false_or]
          refine zs rfl rfl rfl ?_
          refine zs rfl rfl rfl ?_
          refine zs rfl rfl rfl ?_
          refine zcl rfl rfl (m_is4 hr (show j < 12 by omega)) ?_
          refine zs rfl rfl rfl ?_
          refine zs rfl rfl rfl ?_
          exact ih (lk S j) (hl j hj) h2
        · rw [decide_eq_true (Decidable.not_not.mp hc)]
          refine zs rfl rfl rfl ?_
          exact zret rfl rfl ⟨rfl, rfl, rfl⟩
      · rw [lo_stop (shp_anc h12 ha)]
        refine zs rfl rfl rfl ?_
        refine zbf (nI_pos (by omega)) rfl rfl rfl ?_
        refine zs rfl rfl rfl ?_
        refine zs rfl rfl rfl ?_
        refine zbt (nI_le (a := 100) (by omega) (by omega)) rfl rfl rfl ?_
        refine zs rfl rfl rfl ?_
        exact zret rfl rfl ⟨rfl, rfl, rfl⟩
  exact loop 12 t ht (hv t)
theorem m_depthOf (hr : Rw M 45 S) (h12 : n ≤ 12) (hl : Lok S n) (hv : Lv S n) {t : Int32} (ht : Th n t) : zE1 X 129 [.ref 44, .int t] M N (some (.int (dep S n t))) M N := by
  refine zE1i [(0, .ref 44), (1, .int t)] rfl ?_
  unfold dep
  refine zs rfl rfl rfl ?_
  refine zs rfl rfl rfl ?_
  refine zcl rfl rfl (m_topOf hr h12 hl hv ht) ?_
  rcases rt_end h12 hl hv ht with e | ⟨a, ha, e⟩
  · rw [e, decide_eq_true rfl]
    refine zs rfl rfl rfl ?_
    refine zs rfl rfl rfl ?_
    exact zret rfl rfl ⟨rfl, rfl, rfl⟩
  · have e1 : decide (rt S n 12 t = -1) = false := decide_eq_false (by rw [e]; exact nI_m1 (by omega))
    rw [e1]
    have loop : ∀ f t' c, Th n t' → rt S n f t' = nI (100 + a) → zW X 129 14 [(0, .ref 44), (1, .int t), (2, .int (nI c)), (3, .int t')] [] M N (fun v1 M1 N1 => v1 = some (.int (nI (c + dpl S n f t'))) ∧ M1 = M ∧ N1 = N) := by
      intro f
      induction f with
      | zero =>
        intro t' c h1 h2
        obtain rfl : t' = nI (100 + a) := h2
        refine zs rfl rfl rfl ?_
        refine zs rfl rfl rfl ?_
        refine zbt (nI_le (a := 100) (by omega) (by omega)) rfl rfl rfl ?_
        refine zs rfl rfl rfl ?_
        exact zret rfl rfl ⟨rfl, rfl, rfl⟩
      | succ f ih =>
        intro t' c h1 h2
        rcases h1 with rfl | ⟨j, hj, rfl⟩ | ⟨b, hb, rfl⟩
        · rw [rt_stop (shp_m1 n)] at h2
          exact absurd h2.symm (nI_m1 (by omega))
        · rw [rt_s h12 hj] at h2
          rw [dpl_s h12 hj]
          refine zs rfl rfl rfl ?_
          refine zs rfl rfl rfl ?_
          refine zbf (nI_ge (b := 100) (by omega) (by omega)) rfl rfl rfl ?_
          refine zs rfl rfl rfl ?_
          refine zs rfl rfl rfl ?_
          refine zs rfl rfl rfl ?_
          refine zcl rfl rfl (m_is4 hr (show j < 12 by omega)) ?_
          refine zs rfl rfl rfl ?_
          refine zinc rfl rfl rfl ?_
          refine zs rfl rfl rfl ?_
          have ih' := ih (lk S j) (c + 1) (hl j hj) h2
          rw [show c + 1 + dpl S n f (lk S j) = c + (dpl S n f (lk S j) + 1) by omega] at ih'
          exact ih'
        · rw [dpl_stop (shp_anc h12 hb)]
          refine zs rfl rfl rfl ?_
          refine zs rfl rfl rfl ?_
          refine zbt (nI_le (a := 100) (by omega) (by omega)) rfl rfl rfl ?_
          refine zs rfl rfl rfl ?_
          exact zret rfl rfl ⟨rfl, rfl, rfl⟩
    have l := loop 12 t 0 ht e
    rw [Nat.zero_add] at l
    refine zto rfl e ?_
    refine zbt (nI_pos' (by omega)) rfl rfl rfl ?_
    refine zs rfl rfl rfl ?_
    refine zs rfl rfl rfl ?_
    refine zs rfl rfl rfl ?_
    refine zs rfl rfl rfl ?_
    exact l
theorem or0 (x : Nat) : nI x ||| 0 = nI x := by
  rw [show (0 : Int32) = nI 0 from rfl, or_nI, Nat.or_zero]
theorem m_on (hr : Rw M 45 S) (hn : S 0 = nI n) (h12 : n ≤ 12) (t : Int32) : zE1 X 130 [.ref 44, .int t] M N (some (.int (nI (hg S n t)))) M N := by
  refine zE1i [(0, .ref 44), (1, .int t)] rfl ?_
  have hn0 : M 45 0 = nI n := (hr 0 (by decide)).trans hn
  refine zs rfl rfl rfl ?_
  refine zs rfl rfl rfl ?_
  refine zs rfl rfl rfl ?_
  refine zs rfl rfl rfl ?_
  have loop : ∀ d i, i + d = n → zW X 130 4 [(0, .ref 44), (1, .int t), (2, .int (nI (bset i (fun k => decide (lk S k = t))))), (3, .int (nI i))] [] M N (fun v1 M1 N1 => v1 = some (.int (nI (hg S n t))) ∧ M1 = M ∧ N1 = N) := by
    intro d
    induction d with
    | zero =>
      intro i hi
      obtain rfl : i = n := by omega
      refine zs rfl rfl rfl ?_
      refine zs rfl rfl rfl ?_
      refine zs rfl rfl rfl ?_
      refine zs rfl rfl rfl ?_
      refine zal (i := 0) rfl rfl rfl (by decide) (by decide) ?_
      try refine zto rfl hn0 ?_
      refine zbt (nI_le (by omega) (by omega)) rfl rfl rfl ?_
      refine zs rfl rfl rfl ?_
      exact zret rfl rfl ⟨rfl, rfl, rfl⟩
    | succ d ih =>
      intro i hi
      have ih' := ih (i + 1) (by omega)
      refine zs rfl rfl rfl ?_
      refine zs rfl rfl rfl ?_
      refine zs rfl rfl rfl ?_
      refine zs rfl rfl rfl ?_
      refine zal (i := 0) rfl rfl rfl (by decide) (by decide) ?_
      try refine zto rfl hn0 ?_
      refine zbf (nI_ge (by omega) (by omega)) rfl rfl rfl ?_
      refine zs rfl rfl rfl ?_
      refine zs rfl rfl rfl ?_
      refine zs rfl rfl rfl ?_
      refine zs rfl rfl rfl ?_
      refine zcl rfl rfl (m_is4 hr (show i < 12 by omega)) ?_
      refine zs rfl rfl rfl ?_
      refine zbr rfl rfl rfl (fun hc => ?_) (fun hc => ?_)
      · rw [bset_f (decide_eq_false hc)] at ih'
        refine zs rfl rfl rfl ?_
        refine zs rfl rfl rfl ?_
        refine zto rfl (or0 _) ?_
        refine zs rfl rfl rfl ?_
        refine zinc rfl rfl rfl ?_
        refine zs rfl rfl rfl ?_
        exact ih'
      · rw [bset_t (decide_eq_true (Decidable.not_not.mp hc))] at ih'
        refine zs rfl rfl rfl ?_
        refine zs rfl rfl rfl ?_
        refine zs rfl rfl rfl ?_
        refine zs rfl rfl rfl ?_
        refine zs rfl rfl rfl ?_
        refine zto rfl (or_bit (bset_lt _ _) (by omega)) ?_
        refine zs rfl rfl rfl ?_
        refine zinc rfl rfl rfl ?_
        refine zs rfl rfl rfl ?_
        exact ih'
  exact loop n 0 (Nat.zero_add n)
theorem m_stringOf (hr : Rw M 45 S) (hn : S 0 = nI n) (h12 : n ≤ 12) (hl : Lok S n) (hv : Lv S n) (t : Int32) : zE1 X 126 [.ref 44, .int t] M N (some (.int (nI (stg S n t)))) M N := by
  refine zE1i [(0, .ref 44), (1, .int t)] rfl ?_
  have hn0 : M 45 0 = nI n := (hr 0 (by decide)).trans hn
  refine zs rfl rfl rfl ?_
  refine zs rfl rfl rfl ?_
  refine zs rfl rfl rfl ?_
  refine zs rfl rfl rfl ?_
  have loop : ∀ d i, i + d = n → zW X 126 4 [(0, .ref 44), (1, .int t), (2, .int (nI (bset i (fun k => lo S n t 12 (nI k))))), (3, .int (nI i))] [] M N (fun v1 M1 N1 => v1 = some (.int (nI (stg S n t))) ∧ M1 = M ∧ N1 = N) := by
    intro d
    induction d with
    | zero =>
      intro i hi
      obtain rfl : i = n := by omega
      refine zs rfl rfl rfl ?_
      refine zs rfl rfl rfl ?_
      refine zs rfl rfl rfl ?_
      refine zs rfl rfl rfl ?_
      refine zal (i := 0) rfl rfl rfl (by decide) (by decide) ?_
      try refine zto rfl hn0 ?_
      refine zbt (nI_le (by omega) (by omega)) rfl rfl rfl ?_
      refine zs rfl rfl rfl ?_
      exact zret rfl rfl ⟨rfl, rfl, rfl⟩
    | succ d ih =>
      intro i hi
      have ih' := ih (i + 1) (by omega)
      refine zs rfl rfl rfl ?_
      refine zs rfl rfl rfl ?_
      refine zs rfl rfl rfl ?_
      refine zs rfl rfl rfl ?_
      refine zal (i := 0) rfl rfl rfl (by decide) (by decide) ?_
      try refine zto rfl hn0 ?_
      refine zbf (nI_ge (by omega) (by omega)) rfl rfl rfl ?_
      refine zs rfl rfl rfl ?_
      refine zs rfl rfl rfl ?_
      refine zs rfl rfl rfl ?_
      refine zs rfl rfl rfl ?_
      refine zcl rfl rfl (m_isInString hr h12 hl hv (Th_s (show i < n by omega)) t) ?_
      cases hc : lo S n t 12 (nI i) with
      | false =>
        rw [bset_f hc] at ih'
        refine zs rfl rfl rfl ?_
        refine zs rfl rfl rfl ?_
        refine zs rfl rfl rfl ?_
        refine zto rfl (or0 _) ?_
        refine zs rfl rfl rfl ?_
        refine zinc rfl rfl rfl ?_
        refine zs rfl rfl rfl ?_
        exact ih'
      | true =>
        rw [bset_t hc] at ih'
        refine zs rfl rfl rfl ?_
        refine zs rfl rfl rfl ?_
        refine zs rfl rfl rfl ?_
        refine zs rfl rfl rfl ?_
        refine zs rfl rfl rfl ?_
        refine zs rfl rfl rfl ?_
        refine zto rfl (or_bit (bset_lt _ _) (by omega)) ?_
        refine zs rfl rfl rfl ?_
        refine zinc rfl rfl rfl ?_
        refine zs rfl rfl rfl ?_
        exact ih'
  exact loop n 0 (Nat.zero_add n)
theorem m_allOn (hr : Rw M 45 S) (hn : S 0 = nI n) (h12 : n ≤ 12) (hl : Lok S n) (hv : Lv S n) (a : Nat) : zE1 X 140 [.ref 44, .int (nI a)] M N (some (.int (nI (aon S n (nI (100 + a)))))) M N := by
  refine zE1i [(0, .ref 44), (1, .int (nI a))] rfl ?_
  have hn0 : M 45 0 = nI n := (hr 0 (by decide)).trans hn
  have e : (100 : Int32) + nI a = nI (100 + a) := nI_add 100 a
  refine zs rfl rfl rfl ?_
  refine zs rfl rfl rfl ?_
  refine zs rfl rfl rfl ?_
  refine zs rfl rfl rfl ?_
  have loop : ∀ d i, i + d = n → zW X 140 4 [(0, .ref 44), (1, .int (nI a)), (2, .int (nI (bset i (fun k => decide (rt S n 12 (nI k) = nI (100 + a)))))), (3, .int (nI i))] [] M N (fun v1 M1 N1 => v1 = some (.int (nI (aon S n (nI (100 + a))))) ∧ M1 = M ∧ N1 = N) := by
    intro d
    induction d with
    | zero =>
      intro i hi
      obtain rfl : i = n := by omega
      refine zs rfl rfl rfl ?_
      refine zs rfl rfl rfl ?_
      refine zs rfl rfl rfl ?_
      refine zs rfl rfl rfl ?_
      refine zal (i := 0) rfl rfl rfl (by decide) (by decide) ?_
      try refine zto rfl hn0 ?_
      refine zbt (nI_le (by omega) (by omega)) rfl rfl rfl ?_
      refine zs rfl rfl rfl ?_
      exact zret rfl rfl ⟨rfl, rfl, rfl⟩
    | succ d ih =>
      intro i hi
      have ih' := ih (i + 1) (by omega)
      refine zs rfl rfl rfl ?_
      refine zs rfl rfl rfl ?_
      refine zs rfl rfl rfl ?_
      refine zs rfl rfl rfl ?_
      refine zal (i := 0) rfl rfl rfl (by decide) (by decide) ?_
      try refine zto rfl hn0 ?_
      refine zbf (nI_ge (by omega) (by omega)) rfl rfl rfl ?_
      refine zs rfl rfl rfl ?_
      refine zs rfl rfl rfl ?_
      refine zs rfl rfl rfl ?_
      refine zcl rfl rfl (m_topOf hr h12 hl hv (Th_s (show i < n by omega))) ?_
      refine zs rfl rfl rfl ?_
      refine zs rfl rfl rfl ?_
      refine zs rfl rfl rfl ?_
      refine zto rfl e ?_
      refine zbr rfl rfl rfl (fun hc => ?_) (fun hc => ?_)
      · rw [bset_f (decide_eq_false hc)] at ih'
        refine zs rfl rfl rfl ?_
        refine zs rfl rfl rfl ?_
        refine zto rfl (or0 _) ?_
        refine zs rfl rfl rfl ?_
        refine zinc rfl rfl rfl ?_
        refine zs rfl rfl rfl ?_
        exact ih'
      · rw [bset_t (decide_eq_true (Decidable.not_not.mp hc))] at ih'
        refine zs rfl rfl rfl ?_
        refine zs rfl rfl rfl ?_
        refine zs rfl rfl rfl ?_
        refine zs rfl rfl rfl ?_
        refine zs rfl rfl rfl ?_
        refine zto rfl (or_bit (bset_lt _ _) (by omega)) ?_
        refine zs rfl rfl rfl ?_
        refine zinc rfl rfl rfl ?_
        refine zs rfl rfl rfl ?_
        exact ih'
  exact loop n 0 (Nat.zero_add n)
theorem many_s2 : ∀ q, q < 64 → ∀ r, r < 64 → (64 * q + r = 0 ∨ (many (64 * q + r) = many ((64 * q + r) &&& (64 * q + r - 1)) + 1 ∧ (64 * q + r) &&& (64 * q + r - 1) < 4096 ∧ nI (64 * q + r) &&& (nI (64 * q + r) - 1) = nI ((64 * q + r) &&& (64 * q + r - 1)))) := by decide +kernel
theorem many_s {a : Nat} (h : a < 4096) (h0 : a ≠ 0) : many a = many (a &&& (a - 1)) + 1 ∧ a &&& (a - 1) < 4096 ∧ nI a &&& (nI a - 1) = nI (a &&& (a - 1)) := by
  have := many_s2 (a / 64) (by omega) (a % 64) (by omega)
  rw [Nat.div_add_mod] at this
  exact this.resolve_left h0
theorem m_manyIn {a : Nat} (h : a < 4096) : zE1 X 127 [.int (nI a)] M N (some (.int (nI (many a)))) M N := by
  refine zE1i [(0, .int (nI a))] rfl ?_
  refine zs rfl rfl rfl ?_
  refine zs rfl rfl rfl ?_
  refine zs rfl rfl rfl ?_
  refine zs rfl rfl rfl ?_
  have loop : ∀ d b c, b < 4096 → many b = d → zW X 127 4 [(0, .int (nI a)), (1, .int (nI c)), (2, .int (nI b))] [] M N (fun v1 M1 N1 => v1 = some (.int (nI (c + d))) ∧ M1 = M ∧ N1 = N) := by
    intro d
    induction d with
    | zero =>
      intro b c hb hd
      have hb0 : b = 0 := Classical.byContradiction (fun q => by have := (many_s hb q).1; omega)
      subst hb0
      refine zs rfl rfl rfl ?_
      refine zs rfl rfl rfl ?_
      refine zs rfl rfl rfl ?_
      exact zret rfl rfl ⟨rfl, rfl, rfl⟩
    | succ d ih =>
      intro b c hb hd
      have hb0 : b ≠ 0 := fun q => by rw [q] at hd; exact absurd hd (by show ¬ many 0 = d + 1; rw [show many 0 = 0 by decide]; omega)
      obtain ⟨h1, h2, h3⟩ := many_s hb hb0
      refine zs rfl rfl rfl ?_
      refine zbf (fun q => hb0 ((nI0 (by omega)).mp q)) rfl rfl rfl ?_
      refine zinc rfl rfl rfl ?_
      refine zs rfl rfl rfl ?_
      refine zs rfl rfl rfl ?_
      refine zs rfl rfl rfl ?_
      refine zs rfl rfl rfl ?_
      refine zs rfl rfl rfl ?_
      refine zto rfl h3 ?_
      refine zs rfl rfl rfl ?_
      refine zs rfl rfl rfl ?_
      have ih' := ih (b &&& (b - 1)) (c + 1) h2 (by omega)
      rw [show c + 1 + d = c + (d + 1) by omega] at ih'
      exact ih'
  have l := loop (many a) a 0 h rfl
  rw [Nat.zero_add] at l
  exact l
end MOD
