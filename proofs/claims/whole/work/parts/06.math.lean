/-! Sets of ships as numbers, counts, Java's numbers. -/
theorem i_le {a b : Int32} : a ≤ b ↔ a.toInt ≤ b.toInt := Int32.le_iff_toInt_le
theorem i_lt {a b : Int32} : a < b ↔ a.toInt < b.toInt := Int32.lt_iff_toInt_lt
theorem i_eq {a b : Int32} : a = b ↔ a.toInt = b.toInt := Int32.toInt_inj.symm
theorem i_nlt {a b : Int32} : ¬ a < b ↔ b ≤ a := by rw [i_le, i_lt]; omega
theorem i_nle {a b : Int32} : ¬ a ≤ b ↔ b < a := by rw [i_le, i_lt]; omega
/-- the set of the k < n with p, by bits -/
def bset : Nat → (Nat → Bool) → Nat
  | 0, _ => 0
  | n + 1, p => cond (p n) (bset n p + 2 ^ n) (bset n p)
def cnt : Nat → (Nat → Bool) → Nat
  | 0, _ => 0
  | n + 1, p => cond (p n) (cnt n p + 1) (cnt n p)
theorem bset_lt : ∀ (n : Nat) (p : Nat → Bool), bset n p < 2 ^ n
  | 0, _ => Nat.one_pos
  | n + 1, p => by
    have h := bset_lt n p
    rw [Nat.pow_succ]
    show cond (p n) (bset n p + 2 ^ n) (bset n p) < _
    cases p n
    · show bset n p < _; omega
    · show bset n p + 2 ^ n < _; omega
theorem bset_congr : ∀ {n : Nat} {p q : Nat → Bool}, (∀ k, k < n → p k = q k) → bset n p = bset n q
  | 0, _, _, _ => rfl
  | n + 1, p, q, h => by
    show cond (p n) _ _ = cond (q n) _ _
    rw [h n (Nat.lt_succ_self n), bset_congr (fun k hk => h k (Nat.lt_succ_of_lt hk))]
theorem bset_f {i : Nat} {p : Nat → Bool} (h : p i = false) : bset (i + 1) p = bset i p := by
  show cond (p i) _ _ = _
  rw [h]; rfl
theorem bset_t {i : Nat} {p : Nat → Bool} (h : p i = true) : bset (i + 1) p = bset i p + 2 ^ i := by
  show cond (p i) _ _ = _
  rw [h]; rfl
theorem cnt_f {i : Nat} {p : Nat → Bool} (h : p i = false) : cnt (i + 1) p = cnt i p := by
  show cond (p i) _ _ = _
  rw [h]; rfl
theorem cnt_t {i : Nat} {p : Nat → Bool} (h : p i = true) : cnt (i + 1) p = cnt i p + 1 := by
  show cond (p i) _ _ = _
  rw [h]; rfl
theorem cnt_congr : ∀ {n : Nat} {p q : Nat → Bool}, (∀ k, k < n → p k = q k) → cnt n p = cnt n q
  | 0, _, _, _ => rfl
  | n + 1, p, q, h => by
    show cond (p n) _ _ = cond (q n) _ _
    rw [h n (Nat.lt_succ_self n), cnt_congr (fun k hk => h k (Nat.lt_succ_of_lt hk))]
theorem cnt_le : ∀ (n : Nat) (p : Nat → Bool), cnt n p ≤ n
  | 0, _ => Nat.le_refl _
  | n + 1, p => by
    have h := cnt_le n p
    show cond (p n) (cnt n p + 1) (cnt n p) ≤ _
    cases p n
    · show cnt n p ≤ _; omega
    · show cnt n p + 1 ≤ _; omega
/-- a bit -/
theorem bset_bit : ∀ (n : Nat) (p : Nat → Bool) (k : Nat), (bset n p).testBit k = (decide (k < n) && p k)
  | 0, p, k => by simp [bset]
  | n + 1, p, k => by
    have hlt := bset_lt n p
    have ih := bset_bit n p k
    show (cond (p n) (bset n p + 2 ^ n) (bset n p)).testBit k = _
    cases hp : p n with
    | false =>
      show (bset n p).testBit k = _
      rw [ih]
      by_cases hk : k = n
      · subst hk; simp [hp]
      · by_cases h2 : k < n
        · simp [h2, Nat.lt_succ_of_lt h2]
        · simp [h2, show ¬ k < n + 1 by omega]
    | true =>
      show (bset n p + 2 ^ n).testBit k = _
      rw [Nat.add_comm]
      by_cases hk : k = n
      · subst hk
        rw [Nat.testBit_two_pow_add_eq, ih]
        simp [hp]
      · by_cases h2 : k < n
        · rw [Nat.testBit_two_pow_add_gt h2, ih]
          simp [h2, Nat.lt_succ_of_lt h2]
        · have h3 : 2 ^ n + bset n p < 2 ^ k := by
            have : 2 ^ (n + 1) ≤ 2 ^ k := Nat.pow_le_pow_right (by decide) (by omega)
            rw [Nat.pow_succ] at this
            omega
          rw [Nat.testBit_lt_two_pow h3]
          simp [show ¬ k < n + 1 by omega]
theorem bset_eq_iff {n : Nat} {p q : Nat → Bool} : bset n p = bset n q ↔ ∀ k, k < n → p k = q k := by
  constructor
  · intro h k hk
    have h1 := bset_bit n p k
    have h2 := bset_bit n q k
    rw [h, h2] at h1
    simpa [hk] using h1.symm
  · exact bset_congr
theorem sh1 : ∀ k, k < 31 → (1 : Int32) <<< (nI k &&& 31) = nI (2 ^ k) := by decide +kernel
theorem or_nI (a b : Nat) : nI a ||| nI b = nI (a ||| b) := by
  apply Int32.toBitVec_inj.mp
  rw [Int32.toBitVec_or]
  show BitVec.ofNat 32 a ||| BitVec.ofNat 32 b = BitVec.ofNat 32 (a ||| b)
  apply BitVec.eq_of_toNat_eq
  rw [BitVec.toNat_or, BitVec.toNat_ofNat, BitVec.toNat_ofNat, BitVec.toNat_ofNat, Nat.or_mod_two_pow]
theorem or_bit {a k : Nat} (ha : a < 2 ^ k) (hk : k < 31) : nI a ||| ((1 : Int32) <<< (nI k &&& 31)) = nI (a + 2 ^ k) := by
  rw [sh1 k hk, or_nI]
  congr 1
  have := Nat.two_pow_add_eq_or_of_lt ha 1
  rw [Nat.mul_one] at this
  rw [Nat.or_comm, ← this, Nat.add_comm]
