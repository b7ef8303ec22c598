/-! Words and numbers as the model reads them. -/
def bt (tb : zS) (tl i : Nat) : Int32 := if i < tl then tb i else -1
def mnv (tb : zS) : Nat → Nat → Int32 → Int32
  | 0, _, a => a
  | d + 1, p, a => mnv tb d (p + 1) (if 9999 < a then a else 10 * a + tb p - 48)
def mv (tb : zS) (tl p : Nat) : Int32 := if p < tl then (if isL tb p = true then 0 else if isD tb p = true then mnv tb (eD tb tl p - p) p 0 else 0) else 0
section MLEX
variable {tb : zS} {tl : Nat} {p : Nat}
theorem sp_iff (L : List Int32) : ∀ d k, sp tb p L d k = true ↔ ∀ j, j < d → tb (p + (k + j)) = L.getD (k + j) 0
  | 0, k => ⟨fun _ j hj => absurd hj (Nat.not_lt_zero j), fun _ => rfl⟩
  | d + 1, k => by
    have ih := sp_iff L d (k + 1)
    show cond (decide (tb (p + k) = L.getD k 0)) (sp tb p L d (k + 1)) false = true ↔ _
    by_cases h : tb (p + k) = L.getD k 0
    · rw [decide_eq_true h]
      show sp tb p L d (k + 1) = true ↔ _
      rw [ih]
      constructor
      · intro q j hj
        cases j with
        | zero => exact h
        | succ j =>
          have := q j (by omega)
          rw [show k + (j + 1) = k + 1 + j by omega]; exact this
      · intro q j hj
        have := q (j + 1) (by omega)
        rw [show k + (j + 1) = k + 1 + j by omega] at this; exact this
    · rw [decide_eq_false h]
      exact ⟨fun q => (nomatch q), fun q => absurd (q 0 (by omega)) h⟩
/-- the token is the word w -/
def Sp (tb : zS) (tl p w : Nat) : Prop := en tb tl p - p = (z_wb w).length ∧ ∀ j, j < (z_wb w).length → tb (p + j) = (z_wb w).getD j 0
theorem spl_iff {w : Nat} : spl tb p (en tb tl p) w = true ↔ Sp tb tl p w := by
  unfold spl Sp
  rw [Bool.and_eq_true, decide_eq_true_iff, sp_iff]
  constructor
  · rintro ⟨h1, h2⟩
    exact ⟨h1, fun j hj => by have := h2 j hj; rw [Nat.zero_add] at this; exact this⟩
  · rintro ⟨h1, h2⟩
    exact ⟨h1, fun j hj => by rw [Nat.zero_add]; exact h2 j hj⟩
theorem wd_ne : ∀ w, w < 14 → ∀ w', w' < 14 → w = w' ∨ (z_wb w).length ≠ (z_wb w').length ∨ ∃ j, j < (z_wb w).length ∧ (z_wb w).getD j 0 ≠ (z_wb w').getD j 0 := by
  have h : ∀ w, w < 14 → ∀ w', w' < 14 → (w == w' || (z_wb w).length != (z_wb w').length || (List.range (z_wb w).length).any (fun j => (z_wb w).getD j 0 != (z_wb w').getD j 0)) = true := by decide +kernel
  intro w hw w' hw'
  have := h w hw w' hw'
  rw [Bool.or_eq_true, Bool.or_eq_true] at this
  rcases this with (q | q) | q
  · exact Or.inl (eq_of_beq q)
  · exact Or.inr (Or.inl (bne_iff_ne.mp q))
  · rw [List.any_eq_true] at q
    obtain ⟨j, hj, q⟩ := q
    exact Or.inr (Or.inr ⟨j, List.mem_range.mp hj, bne_iff_ne.mp q⟩)
theorem Sp.uniq {w w' : Nat} (hw : w < 14) (hw' : w' < 14) (h : Sp tb tl p w) (h' : Sp tb tl p w') : w = w' := by
  rcases wd_ne w hw w' hw' with e | e | ⟨j, hj, e⟩
  · exact e
  · exact absurd (h.1.symm.trans h'.1) e
  · have hl : j < (z_wb w').length := by rw [← h'.1, h.1]; exact hj
    exact absurd ((h.2 j hj).symm.trans (h'.2 j hl)) e
theorem tk1 (h : tk tb tl p = 1) : p < tl ∧ isL tb p = true := by
  have hp := tk_pos h (by decide)
  refine ⟨hp, ?_⟩
  unfold tk at h
  rw [if_pos hp] at h
  cases hl : isL tb p with
  | true => rfl
  | false =>
    rw [hl, if_neg (by decide)] at h
    split at h
    · omega
    · split at h <;> omega
theorem tk2 (h : tk tb tl p = 2) : p < tl ∧ isL tb p = false ∧ isD tb p = true := by
  have hp := tk_pos h (by decide)
  unfold tk at h
  rw [if_pos hp] at h
  cases hl : isL tb p with
  | true => rw [hl, if_pos rfl] at h; omega
  | false =>
    rw [hl, if_neg (by decide)] at h
    cases hd : isD tb p with
    | true => exact ⟨hp, rfl, rfl⟩
    | false =>
      rw [hd, if_neg (by decide)] at h
      split at h <;> omega
theorem pW_iff {w : Nat} (hw : w < 14) : pW tb tl p (nI w) = true ↔ (tk tb tl p = 1 ∧ Sp tb tl p w) := by
  unfold pW
  rw [decide_eq_true_iff]
  constructor
  · rintro ⟨h1, h2⟩
    refine ⟨h1, ?_⟩
    obtain ⟨hp, hl⟩ := tk1 h1
    have he : en tb tl p = eL tb tl p := by unfold en; rw [if_pos hp, if_pos hl]
    unfold cv at h2
    rw [if_pos hp, if_pos hl] at h2
    unfold wdo at h2
    rcases fst1_spec (spl tb p (eL tb tl p)) 14 0 with ⟨q, _⟩ | ⟨k, _, q2, q3, q4, _⟩
    · rw [q] at h2
      exact absurd h2.symm (nI_m1 (by omega))
    · rw [q3] at h2
      have : k = w := nI_inj (by omega) (by omega) h2
      subst this
      rw [← he] at q4
      exact spl_iff.mp q4
  · rintro ⟨h1, h2⟩
    refine ⟨h1, ?_⟩
    obtain ⟨hp, hl⟩ := tk1 h1
    have he : en tb tl p = eL tb tl p := by unfold en; rw [if_pos hp, if_pos hl]
    unfold cv
    rw [if_pos hp, if_pos hl]
    unfold wdo
    have hs := spl_iff.mpr h2
    rw [he] at hs
    rcases fst1_spec (spl tb p (eL tb tl p)) 14 0 with ⟨_, q⟩ | ⟨k, _, q2, q3, q4, _⟩
    · rw [q w (Nat.zero_le _) (by omega)] at hs
      cases hs
    · rw [q3]
      rw [← he] at q4
      rw [(spl_iff.mp q4).uniq (by omega) hw h2]
theorem bt_in (h : tk tb tl p = 1) {k : Nat} (hk : k < en tb tl p - p) : bt tb tl (p + k) = tb (p + k) := by
  have hp := (tk1 h).1
  have := en_gt (tb := tb) hp
  unfold bt
  rw [if_pos (by omega)]
/-- the two readings of a number -/
def NV (c m : Int32) : Prop := (c = m ∧ 0 ≤ c ∧ c ≤ 9999) ∨ (c = 10000 ∧ 9999 < m)
theorem NV.step {c m b : Int32} (h : NV c m) (hb : 48 ≤ b ∧ b ≤ 57) : NV (if c * 10 + b - 48 < 10000 then c * 10 + b - 48 else 10000) (if 9999 < m then m else 10 * m + b - 48) := by
  have hb1 := i_le.mp hb.1
  have hb2 := i_le.mp hb.2
  rw [show (48 : Int32).toInt = 48 by decide] at hb1
  rw [show (57 : Int32).toInt = 57 by decide] at hb2
  obtain ⟨y, hy, ey⟩ := nI_of (x := b) (by rw [i_lt, t_0]; omega)
  subst ey
  rw [nI_toInt hy] at hb1 hb2
  obtain ⟨d, rfl⟩ : ∃ d, y = d + 48 := ⟨y - 48, by omega⟩
  have ed : ∀ a : Nat, nI a * 10 + nI (d + 48) - 48 = nI (10 * a + d) := fun a => by
    rw [show nI a * 10 = nI (a * 10) from (Int32.ofNat_mul a 10).symm, nI_add, show (48 : Int32) = nI 48 from rfl, show a * 10 + (d + 48) = (10 * a + d) + 48 by omega, nI_sub]
  have ed2 : ∀ a : Nat, 10 * nI a + nI (d + 48) - 48 = nI (10 * a + d) := fun a => by
    rw [show (10 : Int32) * nI a = nI (10 * a) from (Int32.ofNat_mul 10 a).symm, nI_add, show (48 : Int32) = nI 48 from rfl, show 10 * a + (d + 48) = (10 * a + d) + 48 by omega, nI_sub]
  rcases h with ⟨rfl, h1, h2⟩ | ⟨rfl, h1⟩
  · obtain ⟨a, ha, rfl⟩ := nI_of (i_nlt.mpr h1)
    have h2' := i_le.mp h2
    rw [nI_toInt ha, t_9999] at h2'
    rw [if_neg (c := 9999 < nI a) (by rw [i_lt, nI_toInt ha, t_9999]; omega), ed, ed2]
    by_cases q : nI (10 * a + d) < 10000
    · rw [if_pos q]
      rw [i_lt, nI_toInt (by omega), t_10000] at q
      exact Or.inl ⟨rfl, nI_pos' (by omega), by rw [i_le, nI_toInt (by omega), t_9999]; omega⟩
    · rw [if_neg q]
      rw [i_lt, nI_toInt (by omega), t_10000] at q
      exact Or.inr ⟨rfl, by rw [i_lt, nI_toInt (by omega), t_9999]; omega⟩
  · rw [if_pos h1]
    refine Or.inr ⟨?_, h1⟩
    have e := ed 10000
    rw [show nI 10000 = (10000 : Int32) from rfl] at e
    rw [e, if_neg]
    rw [i_lt, nI_toInt (by omega), t_10000]
    omega
theorem NV.run : ∀ (d p : Nat) {c m : Int32}, (∀ k, k < d → isD tb (p + k) = true) → NV c m → NV (cnv tb d p c) (mnv tb d p m)
  | 0, _, _, _, _, h => h
  | d + 1, p, c, m, hd, h => by
    have h0 := hd 0 (by omega)
    exact NV.run d (p + 1) (fun k hk => by have := hd (k + 1) (by omega); rw [show p + (k + 1) = p + 1 + k by omega] at this; exact this) (h.step (of_decide_eq_true h0))
theorem gtw_all (q : Nat → Bool) : ∀ d p k, p ≤ k → k < gtw q d p → q k = true
  | 0, p, k, h1, h2 => by
    have h2' : k < p := h2
    omega
  | d + 1, p, k, h1, h2 => by
    cases hq : q p with
    | false =>
      rw [gtw_f hq] at h2
      omega
    | true =>
      rw [gtw_t hq] at h2
      by_cases e : k = p
      · rw [e]; exact hq
      · exact gtw_all q d (p + 1) k (by omega) h2
theorem nv (h : tk tb tl p = 2) : NV (cv tb tl p) (mv tb tl p) := by
  obtain ⟨hp, hl, hd⟩ := tk2 h
  unfold cv mv
  have hl' : ¬ isL tb p = true := by rw [hl]; decide
  rw [if_pos hp, if_pos hp, if_neg hl', if_neg hl', if_pos hd, if_pos hd]
  refine NV.run _ _ (fun k hk => ?_) (Or.inl ⟨rfl, by decide, by decide⟩)
  exact gtw_all (isD tb) (tl - p) p (p + k) (by omega) (by unfold eD at hk; omega)
theorem nv_in (h : tk tb tl p = 2) {lw hi : Int32} (hl : 0 ≤ lw) (hh : hi ≤ 9999) : (lw ≤ mv tb tl p ∧ mv tb tl p ≤ hi) ↔ (lw ≤ cv tb tl p ∧ cv tb tl p ≤ hi) := by
  rcases nv h with ⟨e, _, _⟩ | ⟨e, q⟩
  · rw [e]
  · rw [e]
    have h1 := i_le.mp hh
    rw [t_9999] at h1
    constructor
    · rintro ⟨_, a⟩
      have a := i_le.mp a
      have q := i_lt.mp q
      rw [t_9999] at q
      omega
    · rintro ⟨_, a⟩
      have a := i_le.mp a
      rw [t_10000] at a
      omega
theorem nv_eq {lw hi : Int32} (hh : hi ≤ 9999) (h : pN tb tl p lw hi = true) : mv tb tl p = cv tb tl p := by
  have hd := of_decide_eq_true h
  rcases nv hd.1 with ⟨e, _, _⟩ | ⟨e, q⟩
  · exact e.symm
  · have a := i_le.mp hd.2.2
    have b := i_le.mp hh
    rw [e, t_10000] at a
    rw [t_9999] at b
    omega
end MLEX
