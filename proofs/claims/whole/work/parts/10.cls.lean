/-! Methods of the class, one by one. -/
def bI (b : Bool) : Int32 := cond b 1 0
section CLS
variable {X : Nat × (Nat → Int32)} {M : zM} {N : zN} {S : zS} {n : Nat}
theorem c_isIn (v lo hi : Int32) : zE1 X 109 [.int v, .int lo, .int hi] M N (some (.int (bI (decide (lo ≤ v ∧ v ≤ hi))))) M N := by
  refine zE1i [(0, .int v), (1, .int lo), (2, .int hi)] rfl ?_
  refine zs rfl rfl rfl ?_
  refine zs rfl rfl rfl ?_
  refine zbr rfl rfl rfl (fun h1 => ?_) (fun h1 => ?_)
  · repeat (refine zs rfl rfl rfl ?_)
    refine zret rfl rfl ⟨?_, rfl, rfl⟩
    rw [decide_eq_false (fun q => i_nlt.mpr q.1 h1)]; rfl
  · refine zs rfl rfl rfl ?_
    refine zs rfl rfl rfl ?_
    refine zbr rfl rfl rfl (fun h2 => ?_) (fun h2 => ?_)
    · repeat (refine zs rfl rfl rfl ?_)
      refine zret rfl rfl ⟨?_, rfl, rfl⟩
      rw [decide_eq_false (fun q => i_nlt.mpr q.2 h2)]; rfl
    · repeat (refine zs rfl rfl rfl ?_)
      refine zret rfl rfl ⟨?_, rfl, rfl⟩
      rw [decide_eq_true ⟨i_nlt.mp h1, i_nlt.mp h2⟩]; rfl
theorem c_isWind (v : Int32) : zE1 X 110 [.int v] M N (some (.int (bI (decide (0 ≤ v ∧ v ≤ 12))))) M N := by
  refine zE1i [(0, .int v)] rfl ?_
  refine zs rfl rfl rfl ?_
  refine zs rfl rfl rfl ?_
  refine zs rfl rfl rfl ?_
  refine zcl rfl rfl (c_isIn v 0 12) ?_
  cases decide (0 ≤ v ∧ v ≤ 12)
  · exact zret rfl rfl ⟨rfl, rfl, rfl⟩
  · exact zret rfl rfl ⟨rfl, rfl, rfl⟩
theorem c_hasShip_h (hn : M 1 8 = nI n) (t : Int32) : zE1 X 3 [.ref 1, .int t] M N (some (.int (bI (shp n t)))) M N := by
  refine zE1i [(0, .ref 1), (1, .int t)] rfl ?_
  unfold shp
  refine zs rfl rfl rfl ?_
  refine zbr rfl rfl rfl (fun h1 => ?_) (fun h1 => ?_)
  · repeat (refine zs rfl rfl rfl ?_)
    refine zret rfl rfl ⟨?_, rfl, rfl⟩
    rw [decide_eq_false (fun q => i_nlt.mpr q.1 h1)]; rfl
  · refine zs rfl rfl rfl ?_
    refine zs rfl rfl rfl ?_
    refine zs rfl rfl rfl ?_
    refine zbr rfl rfl rfl (fun h2 => ?_) (fun h2 => ?_)
    · repeat (refine zs rfl rfl rfl ?_)
      refine zret rfl rfl ⟨?_, rfl, rfl⟩
      rw [decide_eq_false (fun q => i_nlt.mpr (hn ▸ h2) q.2)]; rfl
    · repeat (refine zs rfl rfl rfl ?_)
      refine zret rfl rfl ⟨?_, rfl, rfl⟩
      rw [decide_eq_true ⟨i_nlt.mp h1, i_nle.mp (hn ▸ h2)⟩]; rfl
theorem c_hasThing_h (hn : M 1 8 = nI n) (t : Int32) : zE1 X 4 [.ref 1, .int t] M N (some (.int (bI (decide (t = -1) || (shp n t || decide (100 ≤ t ∧ t ≤ 105)))))) M N := by
  refine zE1i [(0, .ref 1), (1, .int t)] rfl ?_
  refine zs rfl rfl rfl ?_
  refine zs rfl rfl rfl ?_
  refine zbr rfl rfl rfl (fun h1 => ?_) (fun h1 => ?_)
  · repeat (refine zs rfl rfl rfl ?_)
    refine zret rfl rfl ⟨?_, rfl, rfl⟩
    rw [decide_eq_true h1]; rfl
  · rw [decide_eq_false h1]
    refine zs rfl rfl rfl ?_
    refine zs rfl rfl rfl ?_
    refine zcl rfl rfl (c_hasShip_h hn t) ?_
    cases shp n t
    · refine zs rfl rfl rfl ?_
      refine zs rfl rfl rfl ?_
      refine zs rfl rfl rfl ?_
      refine zs rfl rfl rfl ?_
      refine zcl rfl rfl (c_isIn t 100 105) ?_
      cases decide (100 ≤ t ∧ t ≤ 105)
      · repeat (refine zs rfl rfl rfl ?_)
        exact zret rfl rfl ⟨rfl, rfl, rfl⟩
      · repeat (refine zs rfl rfl rfl ?_)
        exact zret rfl rfl ⟨rfl, rfl, rfl⟩
    · repeat (refine zs rfl rfl rfl ?_)
      exact zret rfl rfl ⟨rfl, rfl, rfl⟩
theorem c_liesOn_h (hn : M 1 8 = nI n) (h12 : n ≤ 12) (hl : ∀ k, k < 12 → M 8 k = lk S k) (t s : Int32) : zE1 X 5 [.ref 1, .int t, .int s] M N (some (.int (bI (lo S n s 12 t)))) M N := by
  refine zE1i [(0, .ref 1), (1, .int t), (2, .int s)] rfl ?_
  refine zs rfl rfl rfl ?_
  refine zs rfl rfl rfl ?_
  refine zs rfl rfl rfl ?_
  refine zs rfl rfl rfl ?_
  have loop : ∀ d i t', i + d = 12 → zW X 5 5 [(0, .ref 1), (1, .int t), (2, .int s), (3, .int t'), (4, .int (nI i))] [] M N (fun v1 M1 N1 => v1 = some (.int (bI (lo S n s d t'))) ∧ M1 = M ∧ N1 = N) := by
    intro d
    induction d with
    | zero =>
      intro i t' hi
      obtain rfl : i = 12 := by omega
      repeat (refine zs rfl rfl rfl ?_)
      exact zret rfl rfl ⟨rfl, rfl, rfl⟩
    | succ d ih =>
      intro i t' hi
      refine zs rfl rfl rfl ?_
      refine zs rfl rfl rfl ?_
      refine zbf (c := 12 ≤ nI i) (nI_ge (b := 12) (by omega) (by omega)) rfl rfl rfl ?_
      refine zs rfl rfl rfl ?_
      refine zs rfl rfl rfl ?_
      refine zcl rfl rfl (c_hasShip_h hn t') ?_
      unfold lo
      cases hs : shp n t' with
      | false =>
        repeat (refine zs rfl rfl rfl ?_)
        exact zret rfl rfl ⟨rfl, rfl, rfl⟩
      | true =>
        obtain ⟨j, hj, rfl⟩ := shp_of h12 hs
        refine zs rfl rfl rfl ?_
        refine zs rfl rfl rfl ?_
        refine zs rfl rfl rfl ?_
        refine zbr rfl rfl rfl (fun hc => ?_) (fun hc => ?_)
        · rw [decide_eq_false hc, nI_clamp (by omega)]
          refine zs rfl rfl rfl ?_
          refine zs rfl rfl rfl ?_
          refine zs rfl rfl rfl ?_
          refine zald rfl rfl (show j < 12 by omega) (by decide) ?_
          refine ztop (hl j (by omega)) ?_
          refine zs rfl rfl rfl ?_
          refine zinc rfl rfl rfl ?_
          refine zs rfl rfl rfl ?_
          exact ih (i + 1) _ (by omega)
        · rw [decide_eq_true (Decidable.not_not.mp hc)]
          repeat (refine zs rfl rfl rfl ?_)
          exact zret rfl rfl ⟨rfl, rfl, rfl⟩
  exact loop 12 0 t rfl
theorem c_rootOf_h (hn : M 1 8 = nI n) (h12 : n ≤ 12) (hl : ∀ k, k < 12 → M 8 k = lk S k) (t : Int32) : zE1 X 6 [.ref 1, .int t] M N (some (.int (rt S n 12 t))) M N := by
  refine zE1i [(0, .ref 1), (1, .int t)] rfl ?_
  refine zs rfl rfl rfl ?_
  refine zs rfl rfl rfl ?_
  refine zs rfl rfl rfl ?_
  refine zs rfl rfl rfl ?_
  have loop : ∀ d i t', i + d = 12 → zW X 6 4 [(0, .ref 1), (1, .int t), (2, .int t'), (3, .int (nI i))] [] M N (fun v1 M1 N1 => v1 = some (.int (rt S n d t')) ∧ M1 = M ∧ N1 = N) := by
    intro d
    induction d with
    | zero =>
      intro i t' hi
      obtain rfl : i = 12 := by omega
      repeat (refine zs rfl rfl rfl ?_)
      exact zret rfl rfl ⟨rfl, rfl, rfl⟩
    | succ d ih =>
      intro i t' hi
      refine zs rfl rfl rfl ?_
      refine zs rfl rfl rfl ?_
      refine zbf (c := 12 ≤ nI i) (nI_ge (b := 12) (by omega) (by omega)) rfl rfl rfl ?_
      refine zs rfl rfl rfl ?_
      refine zs rfl rfl rfl ?_
      refine zcl rfl rfl (c_hasShip_h hn t') ?_
      unfold rt
      cases hs : shp n t' with
      | false =>
        repeat (refine zs rfl rfl rfl ?_)
        exact zret rfl rfl ⟨rfl, rfl, rfl⟩
      | true =>
        obtain ⟨j, hj, rfl⟩ := shp_of h12 hs
        rw [nI_clamp (by omega)]
        refine zs rfl rfl rfl ?_
        refine zs rfl rfl rfl ?_
        refine zs rfl rfl rfl ?_
        refine zs rfl rfl rfl ?_
        refine zald rfl rfl (show j < 12 by omega) (by decide) ?_
        refine ztop (hl j (by omega)) ?_
        refine zs rfl rfl rfl ?_
        refine zinc rfl rfl rfl ?_
        refine zs rfl rfl rfl ?_
        exact ih (i + 1) _ (by omega)
  exact loop 12 0 t rfl
theorem c_depthOf_h (hn : M 1 8 = nI n) (h12 : n ≤ 12) (hl : ∀ k, k < 12 → M 8 k = lk S k) (t : Int32) : zE1 X 7 [.ref 1, .int t] M N (some (.int (dep S n t))) M N := by
  refine zE1i [(0, .ref 1), (1, .int t)] rfl ?_
  refine zs rfl rfl rfl ?_
  refine zs rfl rfl rfl ?_
  refine zs rfl rfl rfl ?_
  refine zs rfl rfl rfl ?_
  refine zs rfl rfl rfl ?_
  refine zs rfl rfl rfl ?_
  have loop : ∀ d i t' c, i + d = 12 → zW X 7 7 [(0, .ref 1), (1, .int t), (2, .int (nI c)), (3, .int t'), (4, .int (nI i))] [] M N (fun v1 M1 N1 => v1 = some (.int (cond (decide (rt S n d t' = -1)) 0 (nI (c + dpl S n d t')))) ∧ M1 = M ∧ N1 = N) := by
    intro d
    induction d with
    | zero =>
      intro i t' c hi
      obtain rfl : i = 12 := by omega
      unfold rt dpl
      refine zs rfl rfl rfl ?_
      refine zs rfl rfl rfl ?_
      refine zs rfl rfl rfl ?_
      refine zs rfl rfl rfl ?_
      refine zs rfl rfl rfl ?_
      refine zbr rfl rfl rfl (fun hc => ?_) (fun hc => ?_)
      · repeat (refine zs rfl rfl rfl ?_)
        rw [decide_eq_false hc]
        exact zret rfl rfl ⟨rfl, rfl, rfl⟩
      · repeat (refine zs rfl rfl rfl ?_)
        rw [decide_eq_true (Decidable.not_not.mp hc)]
        exact zret rfl rfl ⟨rfl, rfl, rfl⟩
    | succ d ih =>
      intro i t' c hi
      refine zs rfl rfl rfl ?_
      refine zs rfl rfl rfl ?_
      refine zbf (c := 12 ≤ nI i) (nI_ge (b := 12) (by omega) (by omega)) rfl rfl rfl ?_
      refine zs rfl rfl rfl ?_
      refine zs rfl rfl rfl ?_
      refine zcl rfl rfl (c_hasShip_h hn t') ?_
      unfold rt dpl
      cases hs : shp n t' with
      | false =>
        refine zs rfl rfl rfl ?_
        refine zs rfl rfl rfl ?_
        refine zs rfl rfl rfl ?_
        refine zbr rfl rfl rfl (fun hc => ?_) (fun hc => ?_)
        · repeat (refine zs rfl rfl rfl ?_)
          exact zret rfl rfl ⟨by show _ = some (Value.int (cond (decide (t' = -1)) _ _)); rw [decide_eq_false hc]; rfl, rfl, rfl⟩
        · repeat (refine zs rfl rfl rfl ?_)
          exact zret rfl rfl ⟨by show _ = some (Value.int (cond (decide (t' = -1)) _ _)); rw [decide_eq_true (Decidable.not_not.mp hc)]; rfl, rfl, rfl⟩
      | true =>
        obtain ⟨j, hj, rfl⟩ := shp_of h12 hs
        rw [nI_clamp (by omega)]
        refine zs rfl rfl rfl ?_
        refine zs rfl rfl rfl ?_
        refine zs rfl rfl rfl ?_
        refine zs rfl rfl rfl ?_
        refine zald rfl rfl (show j < 12 by omega) (by decide) ?_
        refine ztop (hl j (by omega)) ?_
        refine zs rfl rfl rfl ?_
        refine zinc rfl rfl rfl ?_
        refine zinc rfl rfl rfl ?_
        refine zs rfl rfl rfl ?_
        have e : c + (dpl S n d (lk S j) + 1) = c + 1 + dpl S n d (lk S j) := by omega
        have ih' := ih (i + 1) (lk S j) (c + 1) (by omega)
        rw [← e] at ih'
        exact ih'
  have h := loop 12 0 t 0 rfl
  rw [Nat.zero_add] at h
  exact h
theorem c_hangersOf_h (hn : M 1 8 = nI n) (h12 : n ≤ 12) (hl : ∀ k, k < 12 → M 8 k = lk S k) (t : Int32) : zE1 X 9 [.ref 1, .int t] M N (some (.int (nI (hg S n t)))) M N := by
  refine zE1i [(0, .ref 1), (1, .int t)] rfl ?_
  refine zs rfl rfl rfl ?_
  refine zs rfl rfl rfl ?_
  refine zs rfl rfl rfl ?_
  refine zs rfl rfl rfl ?_
  have loop : ∀ d i, i + d = n → zW X 9 4 [(0, .ref 1), (1, .int t), (2, .int (nI (bset i (fun k => decide (lk S k = t))))), (3, .int (nI i))] [] M N (fun v1 M1 N1 => v1 = some (.int (nI (hg S n t))) ∧ M1 = M ∧ N1 = N) := by
    intro d
    induction d with
    | zero =>
      intro i hi
      obtain rfl : i = n := by omega
      refine zs rfl rfl rfl ?_
      refine zs rfl rfl rfl ?_
      refine zs rfl rfl rfl ?_
      refine zbt (c := M 1 8 ≤ nI i) (by rw [hn]; exact nI_le (by omega) (by omega)) rfl rfl rfl ?_
      repeat (refine zs rfl rfl rfl ?_)
      exact zret rfl rfl ⟨rfl, rfl, rfl⟩
    | succ d ih =>
      intro i hi
      have ih' := ih (i + 1) (by omega)
      refine zs rfl rfl rfl ?_
      refine zs rfl rfl rfl ?_
      refine zs rfl rfl rfl ?_
      refine zbf (c := M 1 8 ≤ nI i) (by rw [hn]; exact nI_ge (by omega) (by omega)) rfl rfl rfl ?_
      refine zs rfl rfl rfl ?_
      refine zs rfl rfl rfl ?_
      refine zs rfl rfl rfl ?_
      refine zald rfl rfl (show i < 12 by omega) (by decide) ?_
      refine ztop (hl i (by omega)) ?_
      refine zs rfl rfl rfl ?_
      refine zbr rfl rfl rfl (fun hc => ?_) (fun hc => ?_)
      · rw [bset_f (decide_eq_false hc)] at ih'
        refine zinc rfl rfl rfl ?_
        refine zs rfl rfl rfl ?_
        exact ih'
      · rw [bset_t (decide_eq_true (Decidable.not_not.mp hc))] at ih'
        refine zs rfl rfl rfl ?_
        refine zs rfl rfl rfl ?_
        refine zs rfl rfl rfl ?_
        refine zs rfl rfl rfl ?_
        refine zs rfl rfl rfl ?_
        refine ztop (or_bit (bset_lt _ _) (by omega)) ?_
        refine zs rfl rfl rfl ?_
        refine zinc rfl rfl rfl ?_
        refine zs rfl rfl rfl ?_
        exact ih'
  exact loop n 0 (Nat.zero_add n)
theorem c_hasShip_t (hn : M 19 8 = nI n) (t : Int32) : zE1 X 3 [.ref 19, .int t] M N (some (.int (bI (shp n t)))) M N := by
  refine zE1i [(0, .ref 19), (1, .int t)] rfl ?_
  unfold shp
  refine zs rfl rfl rfl ?_
  refine zbr rfl rfl rfl (fun h1 => ?_) (fun h1 => ?_)
  · repeat (refine zs rfl rfl rfl ?_)
    refine zret rfl rfl ⟨?_, rfl, rfl⟩
    rw [decide_eq_false (fun q => i_nlt.mpr q.1 h1)]; rfl
  · refine zs rfl rfl rfl ?_
    refine zs rfl rfl rfl ?_
    refine zs rfl rfl rfl ?_
    refine zbr rfl rfl rfl (fun h2 => ?_) (fun h2 => ?_)
    · repeat (refine zs rfl rfl rfl ?_)
      refine zret rfl rfl ⟨?_, rfl, rfl⟩
      rw [decide_eq_false (fun q => i_nlt.mpr (hn ▸ h2) q.2)]; rfl
    · repeat (refine zs rfl rfl rfl ?_)
      refine zret rfl rfl ⟨?_, rfl, rfl⟩
      rw [decide_eq_true ⟨i_nlt.mp h1, i_nle.mp (hn ▸ h2)⟩]; rfl
theorem c_hasThing_t (hn : M 19 8 = nI n) (t : Int32) : zE1 X 4 [.ref 19, .int t] M N (some (.int (bI (decide (t = -1) || (shp n t || decide (100 ≤ t ∧ t ≤ 105)))))) M N := by
  refine zE1i [(0, .ref 19), (1, .int t)] rfl ?_
  refine zs rfl rfl rfl ?_
  refine zs rfl rfl rfl ?_
  refine zbr rfl rfl rfl (fun h1 => ?_) (fun h1 => ?_)
  · repeat (refine zs rfl rfl rfl ?_)
    refine zret rfl rfl ⟨?_, rfl, rfl⟩
    rw [decide_eq_true h1]; rfl
  · rw [decide_eq_false h1]
    refine zs rfl rfl rfl ?_
    refine zs rfl rfl rfl ?_
    refine zcl rfl rfl (c_hasShip_t hn t) ?_
    cases shp n t
    · refine zs rfl rfl rfl ?_
      refine zs rfl rfl rfl ?_
      refine zs rfl rfl rfl ?_
      refine zs rfl rfl rfl ?_
      refine zcl rfl rfl (c_isIn t 100 105) ?_
      cases decide (100 ≤ t ∧ t ≤ 105)
      · repeat (refine zs rfl rfl rfl ?_)
        exact zret rfl rfl ⟨rfl, rfl, rfl⟩
      · repeat (refine zs rfl rfl rfl ?_)
        exact zret rfl rfl ⟨rfl, rfl, rfl⟩
    · repeat (refine zs rfl rfl rfl ?_)
      exact zret rfl rfl ⟨rfl, rfl, rfl⟩
theorem c_liesOn_t (hn : M 19 8 = nI n) (h12 : n ≤ 12) (hl : ∀ k, k < 12 → M 26 k = lk S k) (t s : Int32) : zE1 X 5 [.ref 19, .int t, .int s] M N (some (.int (bI (lo S n s 12 t)))) M N := by
  refine zE1i [(0, .ref 19), (1, .int t), (2, .int s)] rfl ?_
  refine zs rfl rfl rfl ?_
  refine zs rfl rfl rfl ?_
  refine zs rfl rfl rfl ?_
  refine zs rfl rfl rfl ?_
  have loop : ∀ d i t', i + d = 12 → zW X 5 5 [(0, .ref 19), (1, .int t), (2, .int s), (3, .int t'), (4, .int (nI i))] [] M N (fun v1 M1 N1 => v1 = some (.int (bI (lo S n s d t'))) ∧ M1 = M ∧ N1 = N) := by
    intro d
    induction d with
    | zero =>
      intro i t' hi
      obtain rfl : i = 12 := by omega
      repeat (refine zs rfl rfl rfl ?_)
      exact zret rfl rfl ⟨rfl, rfl, rfl⟩
    | succ d ih =>
      intro i t' hi
      refine zs rfl rfl rfl ?_
      refine zs rfl rfl rfl ?_
      refine zbf (c := 12 ≤ nI i) (nI_ge (b := 12) (by omega) (by omega)) rfl rfl rfl ?_
      refine zs rfl rfl rfl ?_
      refine zs rfl rfl rfl ?_
      refine zcl rfl rfl (c_hasShip_t hn t') ?_
      unfold lo
      cases hs : shp n t' with
      | false =>
        repeat (refine zs rfl rfl rfl ?_)
        exact zret rfl rfl ⟨rfl, rfl, rfl⟩
      | true =>
        obtain ⟨j, hj, rfl⟩ := shp_of h12 hs
        refine zs rfl rfl rfl ?_
        refine zs rfl rfl rfl ?_
        refine zs rfl rfl rfl ?_
        refine zbr rfl rfl rfl (fun hc => ?_) (fun hc => ?_)
        · rw [decide_eq_false hc, nI_clamp (by omega)]
          refine zs rfl rfl rfl ?_
          refine zs rfl rfl rfl ?_
          refine zs rfl rfl rfl ?_
          refine zald rfl rfl (show j < 12 by omega) (by decide) ?_
          refine ztop (hl j (by omega)) ?_
          refine zs rfl rfl rfl ?_
          refine zinc rfl rfl rfl ?_
          refine zs rfl rfl rfl ?_
          exact ih (i + 1) _ (by omega)
        · rw [decide_eq_true (Decidable.not_not.mp hc)]
          repeat (refine zs rfl rfl rfl ?_)
          exact zret rfl rfl ⟨rfl, rfl, rfl⟩
  exact loop 12 0 t rfl
theorem c_rootOf_t (hn : M 19 8 = nI n) (h12 : n ≤ 12) (hl : ∀ k, k < 12 → M 26 k = lk S k) (t : Int32) : zE1 X 6 [.ref 19, .int t] M N (some (.int (rt S n 12 t))) M N := by
  refine zE1i [(0, .ref 19), (1, .int t)] rfl ?_
  refine zs rfl rfl rfl ?_
  refine zs rfl rfl rfl ?_
  refine zs rfl rfl rfl ?_
  refine zs rfl rfl rfl ?_
  have loop : ∀ d i t', i + d = 12 → zW X 6 4 [(0, .ref 19), (1, .int t), (2, .int t'), (3, .int (nI i))] [] M N (fun v1 M1 N1 => v1 = some (.int (rt S n d t')) ∧ M1 = M ∧ N1 = N) := by
    intro d
    induction d with
    | zero =>
      intro i t' hi
      obtain rfl : i = 12 := by omega
      repeat (refine zs rfl rfl rfl ?_)
      exact zret rfl rfl ⟨rfl, rfl, rfl⟩
    | succ d ih =>
      intro i t' hi
      refine zs rfl rfl rfl ?_
      refine zs rfl rfl rfl ?_
      refine zbf (c := 12 ≤ nI i) (nI_ge (b := 12) (by omega) (by omega)) rfl rfl rfl ?_
      refine zs rfl rfl rfl ?_
      refine zs rfl rfl rfl ?_
      refine zcl rfl rfl (c_hasShip_t hn t') ?_
      unfold rt
      cases hs : shp n t' with
      | false =>
        repeat (refine zs rfl rfl rfl ?_)
        exact zret rfl rfl ⟨rfl, rfl, rfl⟩
      | true =>
        obtain ⟨j, hj, rfl⟩ := shp_of h12 hs
        rw [nI_clamp (by omega)]
        refine zs rfl rfl rfl ?_
        refine zs rfl rfl rfl ?_
        refine zs rfl rfl rfl ?_
        refine zs rfl rfl rfl ?_
        refine zald rfl rfl (show j < 12 by omega) (by decide) ?_
        refine ztop (hl j (by omega)) ?_
        refine zs rfl rfl rfl ?_
        refine zinc rfl rfl rfl ?_
        refine zs rfl rfl rfl ?_
        exact ih (i + 1) _ (by omega)
  exact loop 12 0 t rfl
theorem c_depthOf_t (hn : M 19 8 = nI n) (h12 : n ≤ 12) (hl : ∀ k, k < 12 → M 26 k = lk S k) (t : Int32) : zE1 X 7 [.ref 19, .int t] M N (some (.int (dep S n t))) M N := by
  refine zE1i [(0, .ref 19), (1, .int t)] rfl ?_
  refine zs rfl rfl rfl ?_
  refine zs rfl rfl rfl ?_
  refine zs rfl rfl rfl ?_
  refine zs rfl rfl rfl ?_
  refine zs rfl rfl rfl ?_
  refine zs rfl rfl rfl ?_
  have loop : ∀ d i t' c, i + d = 12 → zW X 7 7 [(0, .ref 19), (1, .int t), (2, .int (nI c)), (3, .int t'), (4, .int (nI i))] [] M N (fun v1 M1 N1 => v1 = some (.int (cond (decide (rt S n d t' = -1)) 0 (nI (c + dpl S n d t')))) ∧ M1 = M ∧ N1 = N) := by
    intro d
    induction d with
    | zero =>
      intro i t' c hi
      obtain rfl : i = 12 := by omega
      unfold rt dpl
      refine zs rfl rfl rfl ?_
      refine zs rfl rfl rfl ?_
      refine zs rfl rfl rfl ?_
      refine zs rfl rfl rfl ?_
      refine zs rfl rfl rfl ?_
      refine zbr rfl rfl rfl (fun hc => ?_) (fun hc => ?_)
      · repeat (refine zs rfl rfl rfl ?_)
        rw [decide_eq_false hc]
        exact zret rfl rfl ⟨rfl, rfl, rfl⟩
      · repeat (refine zs rfl rfl rfl ?_)
        rw [decide_eq_true (Decidable.not_not.mp hc)]
        exact zret rfl rfl ⟨rfl, rfl, rfl⟩
    | succ d ih =>
      intro i t' c hi
      refine zs rfl rfl rfl ?_
      refine zs rfl rfl rfl ?_
      refine zbf (c := 12 ≤ nI i) (nI_ge (b := 12) (by omega) (by omega)) rfl rfl rfl ?_
      refine zs rfl rfl rfl ?_
      refine zs rfl rfl rfl ?_
      refine zcl rfl rfl (c_hasShip_t hn t') ?_
      unfold rt dpl
      cases hs : shp n t' with
      | false =>
        refine zs rfl rfl rfl ?_
        refine zs rfl rfl rfl ?_
        refine zs rfl rfl rfl ?_
        refine zbr rfl rfl rfl (fun hc => ?_) (fun hc => ?_)
        · repeat (refine zs rfl rfl rfl ?_)
          exact zret rfl rfl ⟨by show _ = some (Value.int (cond (decide (t' = -1)) _ _)); rw [decide_eq_false hc]; rfl, rfl, rfl⟩
        · repeat (refine zs rfl rfl rfl ?_)
          exact zret rfl rfl ⟨by show _ = some (Value.int (cond (decide (t' = -1)) _ _)); rw [decide_eq_true (Decidable.not_not.mp hc)]; rfl, rfl, rfl⟩
      | true =>
        obtain ⟨j, hj, rfl⟩ := shp_of h12 hs
        rw [nI_clamp (by omega)]
        refine zs rfl rfl rfl ?_
        refine zs rfl rfl rfl ?_
        refine zs rfl rfl rfl ?_
        refine zs rfl rfl rfl ?_
        refine zald rfl rfl (show j < 12 by omega) (by decide) ?_
        refine ztop (hl j (by omega)) ?_
        refine zs rfl rfl rfl ?_
        refine zinc rfl rfl rfl ?_
        refine zinc rfl rfl rfl ?_
        refine zs rfl rfl rfl ?_
        have e : c + (dpl S n d (lk S j) + 1) = c + 1 + dpl S n d (lk S j) := by omega
        have ih' := ih (i + 1) (lk S j) (c + 1) (by omega)
        rw [← e] at ih'
        exact ih'
  have h := loop 12 0 t 0 rfl
  rw [Nat.zero_add] at h
  exact h
theorem c_hangersOf_t (hn : M 19 8 = nI n) (h12 : n ≤ 12) (hl : ∀ k, k < 12 → M 26 k = lk S k) (t : Int32) : zE1 X 9 [.ref 19, .int t] M N (some (.int (nI (hg S n t)))) M N := by
  refine zE1i [(0, .ref 19), (1, .int t)] rfl ?_
  refine zs rfl rfl rfl ?_
  refine zs rfl rfl rfl ?_
  refine zs rfl rfl rfl ?_
  refine zs rfl rfl rfl ?_
  have loop : ∀ d i, i + d = n → zW X 9 4 [(0, .ref 19), (1, .int t), (2, .int (nI (bset i (fun k => decide (lk S k = t))))), (3, .int (nI i))] [] M N (fun v1 M1 N1 => v1 = some (.int (nI (hg S n t))) ∧ M1 = M ∧ N1 = N) := by
    intro d
    induction d with
    | zero =>
      intro i hi
      obtain rfl : i = n := by omega
      refine zs rfl rfl rfl ?_
      refine zs rfl rfl rfl ?_
      refine zs rfl rfl rfl ?_
      refine zbt (c := M 19 8 ≤ nI i) (by rw [hn]; exact nI_le (by omega) (by omega)) rfl rfl rfl ?_
      repeat (refine zs rfl rfl rfl ?_)
      exact zret rfl rfl ⟨rfl, rfl, rfl⟩
    | succ d ih =>
      intro i hi
      have ih' := ih (i + 1) (by omega)
      refine zs rfl rfl rfl ?_
      refine zs rfl rfl rfl ?_
      refine zs rfl rfl rfl ?_
      refine zbf (c := M 19 8 ≤ nI i) (by rw [hn]; exact nI_ge (by omega) (by omega)) rfl rfl rfl ?_
      refine zs rfl rfl rfl ?_
      refine zs rfl rfl rfl ?_
      refine zs rfl rfl rfl ?_
      refine zald rfl rfl (show i < 12 by omega) (by decide) ?_
      refine ztop (hl i (by omega)) ?_
      refine zs rfl rfl rfl ?_
      refine zbr rfl rfl rfl (fun hc => ?_) (fun hc => ?_)
      · rw [bset_f (decide_eq_false hc)] at ih'
        refine zinc rfl rfl rfl ?_
        refine zs rfl rfl rfl ?_
        exact ih'
      · rw [bset_t (decide_eq_true (Decidable.not_not.mp hc))] at ih'
        refine zs rfl rfl rfl ?_
        refine zs rfl rfl rfl ?_
        refine zs rfl rfl rfl ?_
        refine zs rfl rfl rfl ?_
        refine zs rfl rfl rfl ?_
        refine ztop (or_bit (bset_lt _ _) (by omega)) ?_
        refine zs rfl rfl rfl ?_
        refine zinc rfl rfl rfl ?_
        refine zs rfl rfl rfl ?_
        exact ih'
  exact loop n 0 (Nat.zero_add n)
end CLS
