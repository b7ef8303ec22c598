/-! More of the roadstead. -/
def ush (x y : Int32) : Int32 := (x.toUInt32 >>> (y.toUInt32 &&& Int32.toUInt32 31)).toInt32
def bcx (x : Int32) : Int32 :=
  let a := x - (ush x 1 &&& 1431655765)
  let b := (a &&& 858993459) + (ush a 2 &&& 858993459)
  let c := (b + ush b 4) &&& 252645135
  let d := c + ush c 8
  (d + ush d 16) &&& 63
theorem bcx_ok2 : ∀ q, q < 64 → ∀ r, r < 64 → bcx (nI (64 * q + r)) = nI (many (64 * q + r)) := by decide +kernel
theorem bcx_ok (a : Nat) (h : a < 4096) : bcx (nI a) = nI (many a) := by
  have := bcx_ok2 (a / 64) (by omega) (a % 64) (by omega)
  rwa [Nat.div_add_mod] at this
section CLS2
variable {X : Nat × (Nat → Int32)} {M : zM} {N : zN} {S T : zS} {n : Nat}
theorem c_bitCount {a : Nat} (ha : a < 4096) : zE1 X 220 [.int (nI a)] M N (some (.int (nI (many a)))) M N := by
  refine zE1i [(0, .int (nI a))] rfl ?_
  rw [← bcx_ok a ha]
  repeat (refine zs rfl rfl rfl ?_)
  exact zret rfl rfl ⟨rfl, rfl, rfl⟩
theorem hg_lt (h12 : n ≤ 12) (t : Int32) : hg S n t < 4096 := Nat.lt_of_lt_of_le (bset_lt _ _) (Nat.pow_le_pow_right (by decide) h12 : 2 ^ n ≤ 2 ^ 12)
theorem c_allOn_h (hn : M 1 8 = nI n) (h12 : n ≤ 12) (hl : ∀ k, k < 12 → M 8 k = lk S k) (t : Int32) : zE1 X 10 [.ref 1, .int t] M N (some (.int (nI (aon S n t)))) M N := by
  refine zE1i [(0, .ref 1), (1, .int t)] rfl ?_
  refine zs rfl rfl rfl ?_
  refine zs rfl rfl rfl ?_
  refine zs rfl rfl rfl ?_
  refine zs rfl rfl rfl ?_
  have loop : ∀ d i, i + d = n → zW X 10 4 [(0, .ref 1), (1, .int t), (2, .int (nI (bset i (fun k => decide (rt S n 12 (nI k) = t))))), (3, .int (nI i))] [] M N (fun v1 M1 N1 => v1 = some (.int (nI (aon S n t))) ∧ M1 = M ∧ N1 = N) := by
    intro d
    induction d with
    | zero =>
      intro i hi
      obtain rfl : i = n := by omega
      refine zs rfl rfl rfl ?_
      refine zs rfl rfl rfl ?_
      refine zs rfl rfl rfl ?_
      refine zbt (c := M 1 8 ≤ nI i) (by rw [hn]; exact nI_le (by omega) (by omega)) rfl rfl rfl ?_
      repeat (refine zs rfl rfl rfl ?_)
      exact zret rfl rfl ⟨rfl, rfl, rfl⟩
    | succ d ih =>
      intro i hi
      have ih' := ih (i + 1) (by omega)
      refine zs rfl rfl rfl ?_
      refine zs rfl rfl rfl ?_
      refine zs rfl rfl rfl ?_
      refine zbf (c := M 1 8 ≤ nI i) (by rw [hn]; exact nI_ge (by omega) (by omega)) rfl rfl rfl ?_
      refine zs rfl rfl rfl ?_
      refine zs rfl rfl rfl ?_
      refine zcl rfl rfl (c_rootOf_h hn h12 hl (nI i)) ?_
      refine zs rfl rfl rfl ?_
      refine zbr rfl rfl rfl (fun hc => ?_) (fun hc => ?_)
      · rw [bset_f (decide_eq_false hc)] at ih'
        refine zinc rfl rfl rfl ?_
        refine zs rfl rfl rfl ?_
        exact ih'
      · rw [bset_t (decide_eq_true (Decidable.not_not.mp hc))] at ih'
        refine zs rfl rfl rfl ?_
        refine zs rfl rfl rfl ?_
        refine zs rfl rfl rfl ?_
        refine zs rfl rfl rfl ?_
        refine zs rfl rfl rfl ?_
        refine ztop (or_bit (bset_lt _ _) (by omega)) ?_
        refine zs rfl rfl rfl ?_
        refine zinc rfl rfl rfl ?_
        refine zs rfl rfl rfl ?_
        exact ih'
  exact loop n 0 (Nat.zero_add n)
theorem c_stringOf_h (hn : M 1 8 = nI n) (h12 : n ≤ 12) (hl : ∀ k, k < 12 → M 8 k = lk S k) (t : Int32) : zE1 X 11 [.ref 1, .int t] M N (some (.int (nI (stg S n t)))) M N := by
  refine zE1i [(0, .ref 1), (1, .int t)] rfl ?_
  refine zs rfl rfl rfl ?_
  refine zs rfl rfl rfl ?_
  refine zs rfl rfl rfl ?_
  refine zs rfl rfl rfl ?_
  have loop : ∀ d i, i + d = n → zW X 11 4 [(0, .ref 1), (1, .int t), (2, .int (nI (bset i (fun k => lo S n t 12 (nI k))))), (3, .int (nI i))] [] M N (fun v1 M1 N1 => v1 = some (.int (nI (stg S n t))) ∧ M1 = M ∧ N1 = N) := by
    intro d
    induction d with
    | zero =>
      intro i hi
      obtain rfl : i = n := by omega
      refine zs rfl rfl rfl ?_
      refine zs rfl rfl rfl ?_
      refine zs rfl rfl rfl ?_
      refine zbt (c := M 1 8 ≤ nI i) (by rw [hn]; exact nI_le (by omega) (by omega)) rfl rfl rfl ?_
      repeat (refine zs rfl rfl rfl ?_)
      exact zret rfl rfl ⟨rfl, rfl, rfl⟩
    | succ d ih =>
      intro i hi
      have ih' := ih (i + 1) (by omega)
      refine zs rfl rfl rfl ?_
      refine zs rfl rfl rfl ?_
      refine zs rfl rfl rfl ?_
      refine zbf (c := M 1 8 ≤ nI i) (by rw [hn]; exact nI_ge (by omega) (by omega)) rfl rfl rfl ?_
      refine zs rfl rfl rfl ?_
      refine zs rfl rfl rfl ?_
      refine zs rfl rfl rfl ?_
      refine zcl rfl rfl (c_liesOn_h hn h12 hl (nI i) t) ?_
      cases hc : lo S n t 12 (nI i) with
      | false =>
        rw [bset_f hc] at ih'
        refine zs rfl rfl rfl ?_
        refine zinc rfl rfl rfl ?_
        refine zs rfl rfl rfl ?_
        exact ih'
      | true =>
        rw [bset_t hc] at ih'
        refine zs rfl rfl rfl ?_
        refine zs rfl rfl rfl ?_
        refine zs rfl rfl rfl ?_
        refine zs rfl rfl rfl ?_
        refine zs rfl rfl rfl ?_
        refine zs rfl rfl rfl ?_
        refine ztop (or_bit (bset_lt _ _) (by omega)) ?_
        refine zs rfl rfl rfl ?_
        refine zinc rfl rfl rfl ?_
        refine zs rfl rfl rfl ?_
        exact ih'
  exact loop n 0 (Nat.zero_add n)
theorem c_pullOf_h (hv : Vw M 1 S) (hn : S 0 = nI n) (h12 : n ≤ 12) (hk : Kok S n) {k : Nat} (hkn : k < n) (w : Int32) : zE1 X 12 [.ref 1, .int (nI k), .int w] M N (some (.int (pul S n k w))) M N := by
  refine zE1i [(0, .ref 1), (1, .int (nI k)), (2, .int w)] rfl ?_
  obtain ⟨c, hc, hkc⟩ := hk k hkn
  refine zs rfl rfl rfl ?_
  refine zs rfl rfl rfl ?_
  refine zs rfl rfl rfl ?_
  refine zald rfl rfl (show k < 12 by omega) (by decide) ?_
  refine ztop (hv.fs k (by omega)) ?_
  refine zs rfl rfl rfl ?_
  refine zs rfl rfl rfl ?_
  refine zs rfl rfl rfl ?_
  refine zs rfl rfl rfl ?_
  refine zs rfl rfl rfl ?_
  refine zs rfl rfl rfl ?_
  refine zs rfl rfl rfl ?_
  refine zs rfl rfl rfl ?_
  refine zald rfl rfl (show k < 12 by omega) (by decide) ?_
  refine ztop ((hv.fk k (by omega)).trans hkc) ?_
  have h6 : c = 0 ∨ c = 1 ∨ c = 2 ∨ c = 3 ∨ c = 4 ∨ c = 5 := by omega
  unfold pul
  rw [hkc]
  rcases h6 with rfl | rfl | rfl | rfl | rfl | rfl
  · repeat (refine zs rfl rfl rfl ?_)
    exact zret rfl rfl ⟨rfl, rfl, rfl⟩
  · repeat (refine zs rfl rfl rfl ?_)
    exact zret rfl rfl ⟨rfl, rfl, rfl⟩
  · repeat (refine zs rfl rfl rfl ?_)
    exact zret rfl rfl ⟨rfl, rfl, rfl⟩
  · repeat (refine zs rfl rfl rfl ?_)
    exact zret rfl rfl ⟨rfl, rfl, rfl⟩
  · repeat (refine zs rfl rfl rfl ?_)
    refine zcl rfl rfl (c_hangersOf_h (hv.s0.trans hn) h12 hv.fl (nI k)) ?_
    refine zcl rfl rfl (c_bitCount (hg_lt h12 _)) ?_
    repeat (refine zs rfl rfl rfl ?_)
    exact zret rfl rfl ⟨rfl, rfl, rfl⟩
  · refine zs rfl rfl rfl ?_
    refine zs rfl rfl rfl ?_
    refine zs rfl rfl rfl ?_
    refine zbr rfl rfl rfl (fun hw => ?_) (fun hw => ?_)
    · repeat (refine zs rfl rfl rfl ?_)
      refine zret rfl rfl ⟨?_, rfl, rfl⟩
      show _ = some (Value.int (if w < 4 then 0 else _))
      rw [if_neg (i_nlt.mpr hw)]
    · repeat (refine zs rfl rfl rfl ?_)
      refine zret rfl rfl ⟨?_, rfl, rfl⟩
      show _ = some (Value.int (if w < 4 then 0 else _))
      rw [if_pos (i_nle.mp hw)]
theorem c_allOn_t (hn : M 19 8 = nI n) (h12 : n ≤ 12) (hl : ∀ k, k < 12 → M 26 k = lk S k) (t : Int32) : zE1 X 10 [.ref 19, .int t] M N (some (.int (nI (aon S n t)))) M N := by
  refine zE1i [(0, .ref 19), (1, .int t)] rfl ?_
  refine zs rfl rfl rfl ?_
  refine zs rfl rfl rfl ?_
  refine zs rfl rfl rfl ?_
  refine zs rfl rfl rfl ?_
  have loop : ∀ d i, i + d = n → zW X 10 4 [(0, .ref 19), (1, .int t), (2, .int (nI (bset i (fun k => decide (rt S n 12 (nI k) = t))))), (3, .int (nI i))] [] M N (fun v1 M1 N1 => v1 = some (.int (nI (aon S n t))) ∧ M1 = M ∧ N1 = N) := by
    intro d
    induction d with
    | zero =>
      intro i hi
      obtain rfl : i = n := by omega
      refine zs rfl rfl rfl ?_
      refine zs rfl rfl rfl ?_
      refine zs rfl rfl rfl ?_
      refine zbt (c := M 19 8 ≤ nI i) (by rw [hn]; exact nI_le (by omega) (by omega)) rfl rfl rfl ?_
      repeat (refine zs rfl rfl rfl ?_)
      exact zret rfl rfl ⟨rfl, rfl, rfl⟩
    | succ d ih =>
      intro i hi
      have ih' := ih (i + 1) (by omega)
      refine zs rfl rfl rfl ?_
      refine zs rfl rfl rfl ?_
      refine zs rfl rfl rfl ?_
      refine zbf (c := M 19 8 ≤ nI i) (by rw [hn]; exact nI_ge (by omega) (by omega)) rfl rfl rfl ?_
      refine zs rfl rfl rfl ?_
      refine zs rfl rfl rfl ?_
      refine zcl rfl rfl (c_rootOf_t hn h12 hl (nI i)) ?_
      refine zs rfl rfl rfl ?_
      refine zbr rfl rfl rfl (fun hc => ?_) (fun hc => ?_)
      · rw [bset_f (decide_eq_false hc)] at ih'
        refine zinc rfl rfl rfl ?_
        refine zs rfl rfl rfl ?_
        exact ih'
      · rw [bset_t (decide_eq_true (Decidable.not_not.mp hc))] at ih'
        refine zs rfl rfl rfl ?_
        refine zs rfl rfl rfl ?_
        refine zs rfl rfl rfl ?_
        refine zs rfl rfl rfl ?_
        refine zs rfl rfl rfl ?_
        refine ztop (or_bit (bset_lt _ _) (by omega)) ?_
        refine zs rfl rfl rfl ?_
        refine zinc rfl rfl rfl ?_
        refine zs rfl rfl rfl ?_
        exact ih'
  exact loop n 0 (Nat.zero_add n)
theorem c_stringOf_t (hn : M 19 8 = nI n) (h12 : n ≤ 12) (hl : ∀ k, k < 12 → M 26 k = lk S k) (t : Int32) : zE1 X 11 [.ref 19, .int t] M N (some (.int (nI (stg S n t)))) M N := by
  refine zE1i [(0, .ref 19), (1, .int t)] rfl ?_
  refine zs rfl rfl rfl ?_
  refine zs rfl rfl rfl ?_
  refine zs rfl rfl rfl ?_
  refine zs rfl rfl rfl ?_
  have loop : ∀ d i, i + d = n → zW X 11 4 [(0, .ref 19), (1, .int t), (2, .int (nI (bset i (fun k => lo S n t 12 (nI k))))), (3, .int (nI i))] [] M N (fun v1 M1 N1 => v1 = some (.int (nI (stg S n t))) ∧ M1 = M ∧ N1 = N) := by
    intro d
    induction d with
    | zero =>
      intro i hi
      obtain rfl : i = n := by omega
      refine zs rfl rfl rfl ?_
      refine zs rfl rfl rfl ?_
      refine zs rfl rfl rfl ?_
      refine zbt (c := M 19 8 ≤ nI i) (by rw [hn]; exact nI_le (by omega) (by omega)) rfl rfl rfl ?_
      repeat (refine zs rfl rfl rfl ?_)
      exact zret rfl rfl ⟨rfl, rfl, rfl⟩
    | succ d ih =>
      intro i hi
      have ih' := ih (i + 1) (by omega)
      refine zs rfl rfl rfl ?_
      refine zs rfl rfl rfl ?_
      refine zs rfl rfl rfl ?_
      refine zbf (c := M 19 8 ≤ nI i) (by rw [hn]; exact nI_ge (by omega) (by omega)) rfl rfl rfl ?_
      refine zs rfl rfl rfl ?_
      refine zs rfl rfl rfl ?_
      refine zs rfl rfl rfl ?_
      refine zcl rfl rfl (c_liesOn_t hn h12 hl (nI i) t) ?_
      cases hc : lo S n t 12 (nI i) with
      | false =>
        rw [bset_f hc] at ih'
        refine zs rfl rfl rfl ?_
        refine zinc rfl rfl rfl ?_
        refine zs rfl rfl rfl ?_
        exact ih'
      | true =>
        rw [bset_t hc] at ih'
        refine zs rfl rfl rfl ?_
        refine zs rfl rfl rfl ?_
        refine zs rfl rfl rfl ?_
        refine zs rfl rfl rfl ?_
        refine zs rfl rfl rfl ?_
        refine zs rfl rfl rfl ?_
        refine ztop (or_bit (bset_lt _ _) (by omega)) ?_
        refine zs rfl rfl rfl ?_
        refine zinc rfl rfl rfl ?_
        refine zs rfl rfl rfl ?_
        exact ih'
  exact loop n 0 (Nat.zero_add n)
theorem c_pullOf_t (hv : Vw M 19 S) (hn : S 0 = nI n) (h12 : n ≤ 12) (hk : Kok S n) {k : Nat} (hkn : k < n) (w : Int32) : zE1 X 12 [.ref 19, .int (nI k), .int w] M N (some (.int (pul S n k w))) M N := by
  refine zE1i [(0, .ref 19), (1, .int (nI k)), (2, .int w)] rfl ?_
  obtain ⟨c, hc, hkc⟩ := hk k hkn
  refine zs rfl rfl rfl ?_
  refine zs rfl rfl rfl ?_
  refine zs rfl rfl rfl ?_
  refine zald rfl rfl (show k < 12 by omega) (by decide) ?_
  refine ztop (hv.fs k (by omega)) ?_
  refine zs rfl rfl rfl ?_
  refine zs rfl rfl rfl ?_
  refine zs rfl rfl rfl ?_
  refine zs rfl rfl rfl ?_
  refine zs rfl rfl rfl ?_
  refine zs rfl rfl rfl ?_
  refine zs rfl rfl rfl ?_
  refine zs rfl rfl rfl ?_
  refine zald rfl rfl (show k < 12 by omega) (by decide) ?_
  refine ztop ((hv.fk k (by omega)).trans hkc) ?_
  have h6 : c = 0 ∨ c = 1 ∨ c = 2 ∨ c = 3 ∨ c = 4 ∨ c = 5 := by omega
  unfold pul
  rw [hkc]
  rcases h6 with rfl | rfl | rfl | rfl | rfl | rfl
  · repeat (refine zs rfl rfl rfl ?_)
    exact zret rfl rfl ⟨rfl, rfl, rfl⟩
  · repeat (refine zs rfl rfl rfl ?_)
    exact zret rfl rfl ⟨rfl, rfl, rfl⟩
  · repeat (refine zs rfl rfl rfl ?_)
    exact zret rfl rfl ⟨rfl, rfl, rfl⟩
  · repeat (refine zs rfl rfl rfl ?_)
    exact zret rfl rfl ⟨rfl, rfl, rfl⟩
  · repeat (refine zs rfl rfl rfl ?_)
    refine zcl rfl rfl (c_hangersOf_t (hv.s0.trans hn) h12 hv.fl (nI k)) ?_
    refine zcl rfl rfl (c_bitCount (hg_lt h12 _)) ?_
    repeat (refine zs rfl rfl rfl ?_)
    exact zret rfl rfl ⟨rfl, rfl, rfl⟩
  · refine zs rfl rfl rfl ?_
    refine zs rfl rfl rfl ?_
    refine zs rfl rfl rfl ?_
    refine zbr rfl rfl rfl (fun hw => ?_) (fun hw => ?_)
    · repeat (refine zs rfl rfl rfl ?_)
      refine zret rfl rfl ⟨?_, rfl, rfl⟩
      show _ = some (Value.int (if w < 4 then 0 else _))
      rw [if_neg (i_nlt.mpr hw)]
    · repeat (refine zs rfl rfl rfl ?_)
      refine zret rfl rfl ⟨?_, rfl, rfl⟩
      show _ = some (Value.int (if w < 4 then 0 else _))
      rw [if_pos (i_nle.mp hw)]
end CLS2
