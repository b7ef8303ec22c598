/-! Ways up: ranks, fuel. -/
theorem cnt_mono : ∀ {n : Nat} {p q : Nat → Bool}, (∀ k, k < n → p k = true → q k = true) → cnt n p ≤ cnt n q
  | 0, _, _, _ => Nat.le_refl _
  | n + 1, p, q, h => by
    have ih := cnt_mono (n := n) (p := p) (q := q) (fun k hk => h k (by omega))
    have hn := h n (by omega)
    cases hp : p n
    · rw [cnt_f hp]
      cases hq : q n
      · rw [cnt_f hq]; exact ih
      · rw [cnt_t hq]; omega
    · rw [cnt_t hp, cnt_t (hn hp)]; omega
theorem cnt_lt : ∀ {n : Nat} {p q : Nat → Bool} (_ : ∀ k, k < n → p k = true → q k = true) {j : Nat}, j < n → p j = false → q j = true → cnt n p < cnt n q
  | 0, _, _, _, j, hj, _, _ => absurd hj (Nat.not_lt_zero j)
  | n + 1, p, q, h, j, hj, hp, hq => by
    by_cases e : j = n
    · subst e
      rw [cnt_f hp, cnt_t hq]
      have := cnt_mono (n := j) (p := p) (q := q) (fun k hk => h k (by omega))
      omega
    · have ih := cnt_lt (n := n) (p := p) (q := q) (fun k hk => h k (by omega)) (j := j) (by omega) hp hq
      have hn := h n (by omega)
      cases hp' : p n
      · rw [cnt_f hp']
        cases hq' : q n
        · rw [cnt_f hq']; exact ih
        · rw [cnt_t hq']; omega
      · rw [cnt_t hp', cnt_t (hn hp')]; omega
theorem cnt_lt_n {n : Nat} {p : Nat → Bool} {j : Nat} (hj : j < n) (hp : p j = false) : cnt n p < n := by
  have h := cnt_lt (n := n) (p := p) (q := fun _ => true) (fun _ _ _ => rfl) hj hp rfl
  exact Nat.lt_of_lt_of_le h (cnt_le n _)
def Rk (S : zS) (n : Nat) (r : Nat → Nat) : Prop := ∀ k j, k < n → j < n → lk S k = nI j → r j < r k
def Acy (S : zS) (n : Nat) : Prop := ∃ r, Rk S n r
theorem Acy.sm {S : zS} {n : Nat} (h : Acy S n) : ∃ r, Rk S n r ∧ ∀ k, k < n → r k < n := by
  obtain ⟨r, hr⟩ := h
  refine ⟨fun k => cnt n (fun j => decide (r j < r k)), ?_, ?_⟩
  · intro k j hk hj hl
    have h1 := hr k j hk hj hl
    refine cnt_lt (fun i _ hi => ?_) hj (decide_eq_false (Nat.lt_irrefl _)) (decide_eq_true h1)
    have hi := of_decide_eq_true hi
    exact decide_eq_true (by omega)
  · intro k hk
    exact cnt_lt_n hk (decide_eq_false (Nat.lt_irrefl _))
section PU
variable {S S' : zS} {n : Nat} {t s : Int32}
theorem rt_stop (h : shp n t = false) : ∀ f, rt S n f t = t
  | 0 => rfl
  | f + 1 => by unfold rt; rw [h]; rfl
theorem dpl_stop (h : shp n t = false) : ∀ f, dpl S n f t = 0
  | 0 => rfl
  | f + 1 => by unfold dpl; rw [h]; rfl
theorem lo_stop (h : shp n t = false) : ∀ f, lo S n s f t = false
  | 0 => rfl
  | f + 1 => by unfold lo; rw [h]; rfl
theorem sad_stop (p : Int32) (T : zS) (h : shp n t = false) : ∀ f, sad S n p f t T = T
  | 0 => rfl
  | f + 1 => by unfold sad; rw [h]; rfl
theorem rt_s (h12 : n ≤ 12) {k : Nat} (hk : k < n) (f : Nat) : rt S n (f + 1) (nI k) = rt S n f (lk S k) := by
  show cond (shp n (nI k)) _ _ = _
  rw [shp_nI hk h12, nI_clamp (by omega)]; rfl
theorem dpl_s (h12 : n ≤ 12) {k : Nat} (hk : k < n) (f : Nat) : dpl S n (f + 1) (nI k) = dpl S n f (lk S k) + 1 := by
  show cond (shp n (nI k)) _ _ = _
  rw [shp_nI hk h12, nI_clamp (by omega)]; rfl
theorem lo_s (h12 : n ≤ 12) {k : Nat} (hk : k < n) (f : Nat) : lo S n s (f + 1) (nI k) = (decide (nI k = s) || lo S n s f (lk S k)) := by
  show cond (shp n (nI k)) _ _ = _
  rw [shp_nI hk h12, nI_clamp (by omega)]
  show cond (decide (nI k = s)) true _ = _
  cases decide (nI k = s) <;> rfl
theorem sad_s (h12 : n ≤ 12) {k : Nat} (hk : k < n) (p : Int32) (T : zS) (f : Nat) : sad S n p (f + 1) (nI k) T = sad S n p f (lk S k) (upd T k (T k + p)) := by
  show cond (shp n (nI k)) _ _ = _
  rw [shp_nI hk h12, nI_clamp (by omega)]; rfl
theorem rt_lv (h12 : n ≤ 12) {r : Nat → Nat} (hr : Rk S n r) : ∀ f k, k < n → r k < f → shp n (rt S n f (nI k)) = false
  | 0, _, _, h => absurd h (Nat.not_lt_zero _)
  | f + 1, k, hk, h => by
    rw [rt_s h12 hk]
    cases hs : shp n (lk S k) with
    | false => rw [rt_stop hs]; exact hs
    | true =>
      obtain ⟨j, hj, e⟩ := shp_of h12 hs
      rw [e]
      exact rt_lv h12 hr f j hj (by have := hr k j hk hj e; omega)
/-- the way up from t leaves the ships -/
def Lv (S : zS) (n : Nat) : Prop := ∀ t, shp n (rt S n 12 t) = false
theorem Acy.lv (h : Acy S n) (h12 : n ≤ 12) : Lv S n := by
  intro t
  obtain ⟨r, hr, hb⟩ := h.sm
  cases hs : shp n t with
  | false => rw [rt_stop hs]; exact hs
  | true =>
    obtain ⟨j, hj, rfl⟩ := shp_of h12 hs
    exact rt_lv h12 hr 12 j hj (by have := hb j hj; omega)
theorem rt_more (h12 : n ≤ 12) : ∀ (f : Nat) (t : Int32), shp n (rt S n f t) = false → rt S n (f + 1) t = rt S n f t ∧ dpl S n (f + 1) t = dpl S n f t ∧ ∀ s, lo S n s (f + 1) t = lo S n s f t
  | 0, t, h => by
    have h' : shp n t = false := h
    exact ⟨rt_stop h' _, dpl_stop h' _, fun s => lo_stop h' _⟩
  | f + 1, t, h => by
    cases hs : shp n t with
    | false => exact ⟨by rw [rt_stop hs, rt_stop hs], by rw [dpl_stop hs, dpl_stop hs], fun s => by rw [lo_stop hs, lo_stop hs]⟩
    | true =>
      obtain ⟨j, hj, rfl⟩ := shp_of h12 hs
      rw [rt_s h12 hj] at h
      obtain ⟨h1, h2, h3⟩ := rt_more h12 f (lk S j) h
      refine ⟨?_, ?_, fun s => ?_⟩
      · rw [rt_s h12 hj, rt_s h12 hj, h1]
      · rw [dpl_s h12 hj, dpl_s h12 hj, h2]
      · rw [lo_s h12 hj, lo_s h12 hj, h3]
theorem rt_k (h12 : n ≤ 12) (hl : Lv S n) {k : Nat} (hk : k < n) : rt S n 12 (nI k) = rt S n 12 (lk S k) := by
  have h := hl (nI k)
  rw [rt_s h12 hk] at h ⊢
  exact (rt_more h12 11 _ h).1.symm
theorem dpl_k (h12 : n ≤ 12) (hl : Lv S n) {k : Nat} (hk : k < n) : dpl S n 12 (nI k) = dpl S n 12 (lk S k) + 1 := by
  have h := hl (nI k)
  rw [rt_s h12 hk] at h
  rw [dpl_s h12 hk, (rt_more h12 11 _ h).2.1]
theorem lo_k (h12 : n ≤ 12) (hl : Lv S n) {k : Nat} (hk : k < n) (s : Int32) : lo S n s 12 (nI k) = (decide (nI k = s) || lo S n s 12 (lk S k)) := by
  have h := hl (nI k)
  rw [rt_s h12 hk] at h
  rw [lo_s h12 hk, (rt_more h12 11 _ h).2.2]
theorem dpl_le : ∀ (f : Nat) (t : Int32), dpl S n f t ≤ f
  | 0, _ => Nat.le_refl _
  | f + 1, t => by
    show cond (shp n t) _ _ ≤ _
    cases shp n t
    · exact Nat.zero_le _
    · have := dpl_le f (lk S t.toNatClampNeg)
      show dpl S n f (lk S t.toNatClampNeg) + 1 ≤ _
      omega
/-- the links are things -/
def Lok (S : zS) (n : Nat) : Prop := ∀ k, k < n → Th n (lk S k)
theorem Th.ns (h12 : n ≤ 12) (h : Th n t) (hs : shp n t = false) : t = -1 ∨ ∃ a, a < 6 ∧ t = nI (100 + a) := by
  rcases h with h | ⟨j, hj, rfl⟩ | h
  · exact Or.inl h
  · rw [shp_nI hj h12] at hs; cases hs
  · exact Or.inr h
theorem rt_Th (h12 : n ≤ 12) (hl : Lok S n) : ∀ (f : Nat) (t : Int32), Th n t → Th n (rt S n f t)
  | 0, _, h => h
  | f + 1, t, h => by
    cases hs : shp n t with
    | false => rw [rt_stop hs]; exact h
    | true =>
      obtain ⟨j, hj, rfl⟩ := shp_of h12 hs
      rw [rt_s h12 hj]
      exact rt_Th h12 hl f _ (hl j hj)
theorem rt_end (h12 : n ≤ 12) (hl : Lok S n) (hv : Lv S n) (h : Th n t) : rt S n 12 t = -1 ∨ ∃ a, a < 6 ∧ rt S n 12 t = nI (100 + a) :=
  Th.ns h12 (rt_Th h12 hl 12 t h) (hv t)
theorem Th_s {k : Nat} (h : k < n) : Th n (nI k) := Or.inr (Or.inl ⟨k, h, rfl⟩)
end PU
