/-! What both sides' choices have in common. -/
section PUR4
variable {S : zS} {n : Nat}
theorem rt_upl (h12 : n ≤ 12) (j : Nat) (x : Int32) : ∀ (f : Nat) (t : Int32), lo S n (nI j) f t = false → rt (upl S j x) n f t = rt S n f t ∧ dpl (upl S j x) n f t = dpl S n f t
  | 0, _, _ => ⟨rfl, rfl⟩
  | f + 1, t, h => by
    cases hs : shp n t with
    | false => exact ⟨by rw [rt_stop hs, rt_stop hs], by rw [dpl_stop hs, dpl_stop hs]⟩
    | true =>
      obtain ⟨i, hi, rfl⟩ := shp_of h12 hs
      rw [lo_s h12 hi, Bool.or_eq_false_iff] at h
      have hij : i ≠ j := fun e => by rw [e] at h; exact absurd rfl (of_decide_eq_false h.1)
      have e : lk (upl S j x) i = lk S i := by rw [lk_upl, if_neg hij]
      rw [rt_s h12 hi, rt_s h12 hi, dpl_s h12 hi, dpl_s h12 hi, e]
      obtain ⟨h1, h2⟩ := rt_upl h12 j x f _ h.2
      exact ⟨h1, by rw [h2]⟩
theorem dep_upl (h : Bas S n) {j : Nat} (hj : j < n) {t : Int32} (ht : Th n t) (hl : lo S n (nI j) 12 t = false) : dep (upl S j t) n (nI j) = cond (decide (rt S n 12 t = -1)) 0 (nI (dpl S n 12 t + 1)) := by
  have h12 := h.le
  have hb := h.upl hj ht hl
  have e : lk (upl S j t) j = t := by rw [lk_upl, if_pos rfl]
  unfold dep
  rw [rt_k h12 hb.lv hj, dpl_k h12 hb.lv hj, e, (rt_upl h12 j t 12 t hl).1, (rt_upl h12 j t 12 t hl).2]
theorem dep_pos (h : Bas S n) {j : Nat} (hj : j < n) {t : Int32} (ht : Th n t) (hl : lo S n (nI j) 12 t = false) : decide (0 < dep (upl S j t) n (nI j)) = decide (rt S n 12 t ≠ -1) := by
  rw [dep_upl h hj ht hl]
  by_cases e : rt S n 12 t = -1
  · rw [decide_eq_true e, decide_eq_false (not_not_intro e)]; rfl
  · rw [decide_eq_false e, decide_eq_true e]
    exact decide_eq_true (nI_lt (a := 0) (by omega) (by have := dpl_le (S := S) (n := n) 12 t; omega))
theorem dep_le (S : zS) (n : Nat) (t : Int32) : dep S n t < 13 := by
  unfold dep
  cases decide (rt S n 12 t = -1)
  · exact nI_lt (b := 13) (by have := dpl_le (S := S) (n := n) 12 t; omega) (by decide)
  · show (0 : Int32) < 13
    decide
theorem thg_no (h12 : n ≤ 12) {i : Nat} (h1 : n ≤ i) (h2 : i < 100) : thg n (nI i) = false := by
  cases h : thg n (nI i) with
  | false => rfl
  | true =>
    rcases (thg_iff h12).mp h with q | ⟨j, hj, q⟩ | ⟨a, ha, q⟩
    · exact absurd q (nI_m1 (by omega))
    · have := nI_inj (by omega) (by omega) q; omega
    · have := nI_inj (by omega) (by omega) q; omega
theorem bth_no (h12 : n ≤ 12) {i : Nat} (j : Nat) (h1 : n ≤ i) (h2 : i < 100) : bth S n j (nI i) = false := by
  unfold bth
  rw [thg_no h12 h1 h2]; rfl
theorem bth_mh (h : Bas S n) {j i : Nat} (hj : j < n) (hi : i < 12 ∨ 100 ≤ i ∧ i < 106) : bth S n j (nI i) = mh S n j i := by
  have h12 := h.le
  unfold mh
  rcases hi with hi | hi
  · rw [show Nat.ble 100 i = false from by
      cases q : Nat.ble 100 i
      · rfl
      · have := Nat.ble_eq.mp q; omega]
    by_cases hin : i < n
    · have ht : Th n (nI i) := Th_s hin
      unfold bth
      rw [(thg_iff h12).mpr ht, decide_eq_true hin]
      show cond (lo S n (nI j) 12 (nI i)) _ _ = (true && (!lo S n (nI j) 12 (nI i) && _))
      cases hl : lo S n (nI j) 12 (nI i) with
      | true => rfl
      | false => exact dep_pos h hj ht hl
    · rw [bth_no h12 j (by omega) (by omega), decide_eq_false hin]; rfl
  · rw [show Nat.ble 100 i = true from Nat.ble_eq.mpr hi.1]
    obtain ⟨a, ha, rfl⟩ : ∃ a, a < 6 ∧ i = 100 + a := ⟨i - 100, by omega, by omega⟩
    have ht : Th n (nI (100 + a)) := Or.inr (Or.inr ⟨a, ha, rfl⟩)
    have hl : lo S n (nI j) 12 (nI (100 + a)) = false := lo_stop (shp_anc h12 ha) 12
    unfold bth
    rw [(thg_iff h12).mpr ht, hl]
    show decide _ = true
    rw [dep_pos h hj ht hl, rt_stop (shp_anc h12 ha)]
    exact decide_eq_true (nI_m1 (by omega))
/-- the things in their order -/
def tg (k : Nat) : Nat := if k < 12 then k else k + 88
theorem tg_next {k : Nat} (hk : k < 18) : (if nI (tg k) = 11 then (100 : Int32) else nI (tg k) + 1) = nI (tg (k + 1)) := by
  by_cases h : k = 11
  · subst h; decide
  · rw [if_neg (fun q => h (by
      have := nI_inj (b := 11) (by unfold tg; split <;> omega) (by decide) q
      unfold tg at this
      split at this <;> omega)), nI_1]
    congr 1
    unfold tg
    split <;> split <;> omega
theorem plc_skip (h12 : n ≤ 12) (j : Nat) (w : Int32) : ∀ d, d ≤ 88 → plc S n j w (12 + d) = plc S n j w 12
  | 0, _ => rfl
  | d + 1, hd => by
    rw [show 12 + (d + 1) = (12 + d) + 1 from rfl, plc_f (fun q => by rw [bth_no h12 j (by omega) (by omega)] at q; cases q.1)]
    exact plc_skip h12 j w d (by omega)
theorem plc_tg (h12 : n ≤ 12) (j : Nat) (w : Int32) {k : Nat} (hk : k < 18) : plc S n j w (tg (k + 1)) = plc S n j w (tg k + 1) := by
  by_cases h : k = 11
  · subst h
    exact plc_skip h12 j w 88 (by omega)
  · congr 1
    unfold tg
    split <;> split <;> omega
theorem ght_ge (S : zS) (n : Nat) : -1 ≤ (ght S n).toInt ∧ (ght S n).toInt ≤ 12 := by
  unfold ght
  have h := gtw_le (fun w => alh S n (nI w)) 13 0
  cases e : gtw (fun w => alh S n (nI w)) 13 0 with
  | zero => decide
  | succ m =>
    rw [e] at h
    rw [nI_pred, nI_toInt (by omega)]
    omega
theorem bsg_ge (S : zS) (n j i : Nat) : -1 ≤ (bsg S n j i).toInt := by
  unfold bsg
  by_cases h : bth S n j (nI i) = true
  · rw [if_pos h]; exact (ght_ge _ _).1
  · rw [if_neg h]; decide
theorem cho_ge {g : Nat → Int32} (hg : ∀ i, -1 ≤ (g i).toInt) (b : Int32) {l : Int32} (hl : -1 ≤ l.toInt) : ∀ i, -1 ≤ (cho g b l i).2.toInt
  | 0 => hl
  | i + 1 => by
    unfold cho
    by_cases h : (cho g b l i).2 < g i
    · rw [if_pos h]; exact hg i
    · rw [if_neg h]; exact cho_ge hg b hl i
theorem bst_skip (h12 : n ≤ 12) (j : Nat) : ∀ d, d ≤ 88 → cho (bsg S n j) (-1000000004) (-1) (12 + d) = cho (bsg S n j) (-1000000004) (-1) 12
  | 0, _ => rfl
  | d + 1, hd => by
    rw [show 12 + (d + 1) = (12 + d) + 1 from rfl, cho_f (fun q => by
      have e : bsg S n j (12 + d) = -1 := by
        unfold bsg
        rw [bth_no h12 j (by omega) (by omega)]; rfl
      rw [e, i_lt, t_m1] at q
      have := cho_ge (bsg_ge S n j) (-1000000004) (l := -1) (by decide) (12 + d)
      omega)]
    exact bst_skip h12 j d (by omega)
theorem bst_tg (h12 : n ≤ 12) (j : Nat) {k : Nat} (hk : k < 18) : cho (bsg S n j) (-1000000004) (-1) (tg (k + 1)) = cho (bsg S n j) (-1000000004) (-1) (tg k + 1) := by
  by_cases h : k = 11
  · subst h
    exact bst_skip h12 j 88 (by omega)
  · congr 1
    unfold tg
    split <;> split <;> omega
/-- from -2 or from -1 on -/
theorem cho_2 {g : Nat → Int32} (hg : ∀ i, -1 ≤ (g i).toInt) : ∀ i, cho g 0 (-1) (i + 1) = cho g 0 (-2) (i + 1)
  | 0 => by
    have h2 : (cho g 0 (-2) 0).2 < g 0 := by
      show (-2 : Int32) < g 0
      rw [i_lt, show (-2 : Int32).toInt = -2 by decide]
      have := hg 0; omega
    rw [cho_t h2]
    by_cases h1 : (cho g 0 (-1) 0).2 < g 0
    · rw [cho_t h1]
    · rw [cho_f h1]
      have e : g 0 = -1 := by
        have h1' : ¬ (-1 : Int32) < g 0 := h1
        rw [i_lt, t_m1] at h1'
        apply i_eq.mpr
        rw [t_m1]
        have := hg 0; omega
      rw [e]; rfl
  | i + 1 => by
    show (if _ then _ else _) = (if _ then _ else _)
    rw [cho_2 hg i]
/-- parting one leaves lost what lies on it -/
theorem lo_m1 (h12 : n ≤ 12) {k : Nat} (hk : k < n) : ∀ (f : Nat) (t : Int32), lo S n (nI k) f t = true → rt (upl S k (-1)) n f t = -1
  | 0, _, h => by cases h
  | f + 1, t, h => by
    cases hs : shp n t with
    | false => rw [lo_stop hs] at h; cases h
    | true =>
      obtain ⟨i, hi, rfl⟩ := shp_of h12 hs
      rw [lo_s h12 hi, Bool.or_eq_true] at h
      rw [rt_s h12 hi, lk_upl]
      by_cases e : i = k
      · rw [if_pos e, rt_stop (shp_m1 n)]
      · rw [if_neg e]
        rcases h with h | h
        · exact absurd (nI_inj (by omega) (by omega) (of_decide_eq_true h)) e
        · exact lo_m1 h12 hk f _ h
theorem lo_rt (h12 : n ≤ 12) (hv : Lv S n) {k : Nat} (hk : k < n) : ∀ (f : Nat) (t : Int32), lo S n (nI k) f t = true → rt S n 12 t = rt S n 12 (nI k)
  | 0, _, h => by cases h
  | f + 1, t, h => by
    cases hs : shp n t with
    | false => rw [lo_stop hs] at h; cases h
    | true =>
      obtain ⟨i, hi, rfl⟩ := shp_of h12 hs
      rw [lo_s h12 hi, Bool.or_eq_true] at h
      rcases h with h | h
      · rw [of_decide_eq_true h]
      · rw [rt_k h12 hv hi]
        exact lo_rt h12 hv hk f _ h
theorem cnt_or : ∀ {n : Nat} {p q : Nat → Bool}, (∀ k, k < n → p k = true → q k = false) → cnt n (fun k => p k || q k) = cnt n p + cnt n q
  | 0, _, _, _ => rfl
  | n + 1, p, q, h => by
    have ih := cnt_or (n := n) (p := p) (q := q) (fun k hk => h k (by omega))
    cases hp : p n
    · cases hq : q n
      · rw [cnt_f hp, cnt_f hq, cnt_f (by rw [hp, hq]; rfl)]; exact ih
      · rw [cnt_f hp, cnt_t hq, cnt_t (by rw [hp, hq]; rfl)]; omega
    · have hq := h n (by omega) hp
      rw [cnt_t hp, cnt_f hq, cnt_t (by rw [hp]; rfl)]; omega
/-- how many more would be lost -/
def mtn (S : zS) (n k : Nat) : Nat := if rt S n 12 (nI k) = -1 then 0 else many (stg S n (nI k))
theorem dep0 (h : Bas S n) {k : Nat} (hk : k < n) : dep S n (nI k) = 0 ↔ rt S n 12 (nI k) = -1 := by
  unfold dep
  by_cases e : rt S n 12 (nI k) = -1
  · rw [decide_eq_true e]; exact ⟨fun _ => e, fun _ => rfl⟩
  · rw [decide_eq_false e]
    refine ⟨fun q => ?_, fun q => absurd q e⟩
    rw [dpl_k h.le h.lv hk] at q
    have := (nI0 (by have := dpl_le (S := S) (n := n) 12 (lk S k); omega)).mp q
    omega
theorem mtt_n (h : Bas S n) {k : Nat} (hk : k < n) : mtt S n k = nI (mtn S n k) := by
  unfold mtt mtn
  by_cases e : rt S n 12 (nI k) = -1
  · rw [if_pos ((dep0 h hk).mpr e), if_pos e]; rfl
  · rw [if_neg (fun q => e ((dep0 h hk).mp q)), if_neg e]
theorem lost_part (h : Bas S n) {k : Nat} (hk : k < n) : many (aon (upl S k (-1)) n (-1)) = many (aon S n (-1)) + mtn S n k := by
  have h12 := h.le
  unfold aon mtn stg
  rw [many_bset h12, many_bset h12]
  have key : ∀ x, x < n → decide (rt (upl S k (-1)) n 12 (nI x) = -1) = (decide (rt S n 12 (nI x) = -1) || lo S n (nI k) 12 (nI x)) := by
    intro x hx
    cases hl : lo S n (nI k) 12 (nI x) with
    | true => rw [Bool.or_true]; exact decide_eq_true (lo_m1 h12 hk 12 _ hl)
    | false => rw [Bool.or_false, (rt_upl h12 k (-1) 12 _ hl).1]
  rw [cnt_congr key]
  by_cases e : rt S n 12 (nI k) = -1
  · rw [if_pos e, Nat.add_zero]
    refine cnt_congr (fun x hx => ?_)
    cases hl : lo S n (nI k) 12 (nI x) with
    | true => rw [Bool.or_true]; exact (decide_eq_true ((lo_rt h12 h.lv hk 12 _ hl).trans e)).symm
    | false => rw [Bool.or_false]
  · rw [if_neg e, many_bset h12]
    refine cnt_or (fun x hx hp => ?_)
    cases hl : lo S n (nI k) 12 (nI x) with
    | false => rfl
    | true => exact absurd ((lo_rt h12 h.lv hk 12 _ hl).symm.trans (of_decide_eq_true hp)) e
theorem many_le (x : Nat) : many x ≤ 12 := cnt_le 12 _
/-- the model's choice beside the class's -/
theorem cho_nat (g : Nat → Nat) (b : Int32) : ∀ i, (∀ k, k < i → g k ≤ 12) → ∃ m, m ≤ 12 ∧ (cho (fun k => nI (g k)) b 0 i).2 = nI m
  | 0, _ => ⟨0, by decide, rfl⟩
  | i + 1, h => by
    unfold cho
    by_cases q : (cho (fun k => nI (g k)) b 0 i).2 < nI (g i)
    · rw [if_pos q]; exact ⟨g i, h i (by omega), rfl⟩
    · rw [if_neg q]; exact cho_nat g b i (fun k hk => h k (by omega))
theorem cho_congr {f g : Nat → Int32} (b l : Int32) : ∀ i, (∀ k, k < i → f k = g k) → cho f b l i = cho g b l i
  | 0, _ => rfl
  | i + 1, h => by
    unfold cho
    rw [cho_congr b l i (fun k hk => h k (by omega)), h i (by omega)]
theorem mtn_le (S : zS) (n k : Nat) : mtn S n k ≤ 12 := by
  unfold mtn
  by_cases e : rt S n 12 (nI k) = -1
  · rw [if_pos e]; omega
  · rw [if_neg e]; exact many_le _
end PUR4
