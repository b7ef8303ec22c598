/-! What settles, what wears, who holds. -/
/-- all that hang on f hang on t -/
def hal (S : zS) (f t : Int32) : Nat → zS
  | 0 => S
  | i + 1 => cond (decide (lk (hal S f t i) i = f)) (upl (hal S f t i) i t) (hal S f t i)
theorem hal_f {S : zS} {f t : Int32} {i : Nat} (h : lk (hal S f t i) i ≠ f) : hal S f t (i + 1) = hal S f t i := by
  show cond _ _ _ = _
  rw [decide_eq_false h]; rfl
theorem hal_t {S : zS} {f t : Int32} {i : Nat} (h : lk (hal S f t i) i = f) : hal S f t (i + 1) = upl (hal S f t i) i t := by
  show cond _ _ _ = _
  rw [decide_eq_true h]; rfl
theorem lk_hal (S : zS) (f t : Int32) : ∀ (i k : Nat), lk (hal S f t i) k = if k < i ∧ lk S k = f then t else lk S k := by
  intro i
  induction i with
  | zero =>
    intro k
    rw [if_neg (fun h => absurd h.1 (Nat.not_lt_zero k))]; rfl
  | succ i ih =>
    intro k
    have h0 : lk (hal S f t i) i = lk S i := by rw [ih, if_neg (fun h => absurd h.1 (Nat.lt_irrefl i))]
    by_cases h : lk S i = f
    · rw [hal_t (h0.trans h), lk_upl]
      by_cases e : k = i
      · rw [if_pos e, if_pos ⟨by omega, by rw [e]; exact h⟩]
      · rw [if_neg e, ih]
        by_cases h2 : k < i ∧ lk S k = f
        · rw [if_pos h2, if_pos ⟨by omega, h2.2⟩]
        · rw [if_neg h2, if_neg (fun q => h2 ⟨by omega, q.2⟩)]
    · rw [hal_f (fun q => h (h0.symm.trans q)), ih]
      by_cases h2 : k < i ∧ lk S k = f
      · rw [if_pos h2, if_pos ⟨by omega, h2.2⟩]
      · rw [if_neg h2, if_neg]
        intro q
        by_cases e : k = i
        · exact h (e ▸ q.2)
        · exact h2 ⟨by omega, q.2⟩
/-- but for the links all is as it was -/
def Els (S S' : zS) : Prop := ∀ j, (∀ k, j ≠ 26 + 5 * k) → S' j = S j
theorem Els.rfl' {S : zS} : Els S S := fun _ _ => rfl
theorem Els.trans {S S1 S2 : zS} (h1 : Els S S1) (h2 : Els S1 S2) : Els S S2 := fun j hj => (h2 j hj).trans (h1 j hj)
theorem els_upl {S S1 : zS} (h : Els S S1) (k : Nat) (x : Int32) : Els S (upl S1 k x) := fun j hj => by
  show (if j = 26 + 5 * k then x else S1 j) = _
  rw [if_neg (hj k)]; exact h j hj
theorem els_hal {S : zS} (f t : Int32) : ∀ i, Els S (hal S f t i)
  | 0 => Els.rfl'
  | i + 1 => by
    by_cases h : lk (hal S f t i) i = f
    · rw [hal_t h]; exact els_upl (els_hal f t i) i t
    · rw [hal_f h]; exact els_hal f t i
