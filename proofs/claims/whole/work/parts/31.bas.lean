/-! What every road that is tried keeps. -/
def Bas (S : zS) (n : Nat) : Prop := n ≤ 12 ∧ S 0 = nI n ∧ Kok S n ∧ (∀ k, k < n → 0 ≤ ch S k ∧ ch S k ≤ 9999) ∧ (∀ k, k < n → 0 ≤ wo S k ∧ wo S k ≤ 99) ∧ Lok S n ∧ Acy S n
section BAS
variable {S S' : zS} {n : Nat}
theorem Ok.b (h : Ok S n) : Bas S n := ⟨h.le, h.s0, h.k, h.c, h.w, h.l, h.a⟩
theorem Bas.le (h : Bas S n) : n ≤ 12 := h.1
theorem Bas.s0 (h : Bas S n) : S 0 = nI n := h.2.1
theorem Bas.k (h : Bas S n) : Kok S n := h.2.2.1
theorem Bas.c (h : Bas S n) : ∀ k, k < n → 0 ≤ ch S k ∧ ch S k ≤ 9999 := h.2.2.2.1
theorem Bas.w (h : Bas S n) : ∀ k, k < n → 0 ≤ wo S k ∧ wo S k ≤ 99 := h.2.2.2.2.1
theorem Bas.l (h : Bas S n) : Lok S n := h.2.2.2.2.2.1
theorem Bas.a (h : Bas S n) : Acy S n := h.2.2.2.2.2.2
theorem Bas.lv (h : Bas S n) : Lv S n := h.a.lv h.le
theorem nI_inj {a b : Nat} (ha : a < 2 ^ 31) (hb : b < 2 ^ 31) (h : nI a = nI b) : a = b := (nI_eq ha hb).mp h
theorem Bas.mk' (h : Bas S n) (e0 : S' 0 = S 0) (ek : Kok S' n) (ec : ∀ k, k < n → 0 ≤ ch S' k ∧ ch S' k ≤ 9999) (ew : ∀ k, k < n → 0 ≤ wo S' k ∧ wo S' k ≤ 99) (el : ∀ k, lk S' k = lk S k) : Bas S' n :=
  ⟨h.le, e0.trans h.s0, ek, ec, ew, fun k hk => by rw [el]; exact h.l k hk, by
    obtain ⟨r, hr⟩ := h.a
    exact ⟨r, fun k j hk hj e => hr k j hk hj (by rw [← el]; exact e)⟩⟩
theorem Bas.of (h : Bas S n) (e0 : S' 0 = S 0) (ek : ∀ k, kd S' k = kd S k) (ec : ∀ k, ch S' k = ch S k) (ew : ∀ k, wo S' k = wo S k) (el : ∀ k, lk S' k = lk S k) : Bas S' n :=
  h.mk' e0 (h.k.of ek) (fun k hk => by rw [ec]; exact h.c k hk) (fun k hk => by rw [ew]; exact h.w k hk) el
/-- links that change -/
theorem Bas.lks (h : Bas S n) (he : Els S S') (hl : Lok S' n) (ha : Acy S' n) : Bas S' n :=
  ⟨h.le, (els_lo he (by decide)).trans h.s0, h.k.els he, fun k hk => by rw [els_ch he]; exact h.c k hk, fun k hk => by rw [els_wo he]; exact h.w k hk, hl, ha⟩
theorem ship_ne_m1 {j : Nat} (hj : j < 12) : nI j ≠ -1 := nI_m1 (by omega)
theorem Bas.dn (h : Bas S n) (hd : Dn S S') : Bas S' n := by
  refine h.lks hd.1 (fun k hk => ?_) ?_
  · rcases hd.2 k with e | e
    · rw [e]; exact h.l k hk
    · rw [e]; exact Or.inl rfl
  · obtain ⟨r, hr⟩ := h.a
    refine ⟨r, fun k j hk hj e => ?_⟩
    rcases hd.2 k with q | q
    · exact hr k j hk hj (by rw [← q]; exact e)
    · rw [q] at e
      exact absurd e.symm (ship_ne_m1 (by have := h.le; omega))
theorem Bas.stl (h : Bas S n) (w : Int32) : Bas (stl S n w) n := h.dn (dn_stl S n w)
theorem Bas.up2 (h : Bas S n) (w : Int32) : Bas (up2 S w) n := h.of (s0_up2 S w) (kd_up2 S · w) (ch_up2 S · w) (wo_up2 S · w) (lk_up2 S · w)
theorem Bas.up1 (h : Bas S n) (w : Int32) : Bas (up1 S w) n := h.of (s0_up1 S w) (kd_up1 S · w) (ch_up1 S · w) (wo_up1 S · w) (lk_up1 S · w)
theorem Bas.uph (h : Bas S n) {k : Nat} (hk : k < 6) (x : Int32) : Bas (uph S k x) n := h.of (s0_uph S k x) (fun j => kd_uph S hk j x) (fun j => ch_uph S hk j x) (fun j => wo_uph S hk j x) (fun j => lk_uph S hk j x)
theorem Bas.upc (h : Bas S n) (k : Nat) {x : Int32} (hx : 0 ≤ x ∧ x ≤ 9999) : Bas (upc S k x) n :=
  h.mk' (s0_upc S k x) (h.k.of (kd_upc S k · x)) (fun j hj => by
    rw [ch_upc]
    by_cases e : j = k
    · rw [if_pos e]; exact hx
    · rw [if_neg e]; exact h.c j hj) (fun j hj => by rw [wo_upc]; exact h.w j hj) (lk_upc S k · x)
theorem Bas.upw (h : Bas S n) (k : Nat) {x : Int32} (hx : 0 ≤ x ∧ x ≤ 99) : Bas (upw S k x) n :=
  h.mk' (s0_upw S k x) (h.k.of (kd_upw S k · x)) (fun j hj => by rw [ch_upw]; exact h.c j hj) (fun j hj => by
    rw [wo_upw]
    by_cases e : j = k
    · rw [if_pos e]; exact hx
    · rw [if_neg e]; exact h.w j hj) (lk_upw S k · x)
theorem Bas.ups (h : Bas S n) (k : Nat) (x : Int32) : Bas (ups S k x) n := h.of (s0_ups S k x) (kd_ups S k · x) (ch_ups S k · x) (wo_ups S k · x) (lk_ups S k · x)
theorem Bas.upk (h : Bas S n) (k : Nat) {c : Nat} (hc : c < 6) : Bas (upk S k (nI c)) n :=
  h.mk' (s0_upk S k _) (fun j hj => by
    rw [kd_upk]
    by_cases e : j = k
    · rw [if_pos e]; exact ⟨c, hc, rfl⟩
    · rw [if_neg e]; exact h.k j hj) (fun j hj => by rw [ch_upk]; exact h.c j hj) (fun j hj => by rw [wo_upk]; exact h.w j hj) (lk_upk S k · _)
theorem thg_iff {t : Int32} (h12 : n ≤ 12) : thg n t = true ↔ Th n t := by
  unfold thg Th
  rw [Bool.or_eq_true, Bool.or_eq_true, decide_eq_true_iff, decide_eq_true_iff]
  constructor
  · rintro (h | h | h)
    · exact Or.inl h
    · exact Or.inr (Or.inl (shp_of h12 h))
    · refine Or.inr (Or.inr ?_)
      have h1 := i_le.mp h.1
      have h2 := i_le.mp h.2
      rw [t_100] at h1
      rw [t_105] at h2
      obtain ⟨j, hj, rfl⟩ := nI_of (x := t) (by rw [i_lt, t_0]; omega)
      rw [nI_toInt hj] at h1 h2
      exact ⟨j - 100, by omega, by rw [show 100 + (j - 100) = j by omega]⟩
  · rintro (h | ⟨j, hj, rfl⟩ | ⟨a, ha, rfl⟩)
    · exact Or.inl h
    · exact Or.inr (Or.inl (shp_nI hj h12))
    · exact Or.inr (Or.inr ⟨nI_le (a := 100) (by omega) (by omega), nI_le (b := 105) (by omega) (by omega)⟩)
/-- hung on what doesn't lie on it -/
theorem Bas.upl (h : Bas S n) {k : Nat} (hk : k < n) {t : Int32} (ht : Th n t) (hlo : lo S n (nI k) 12 t = false) : Bas (upl S k t) n := by
  have h12 := h.le
  refine h.lks (els_upl Els.rfl' k t) (fun j hj => ?_) ?_
  · rw [lk_upl]
    by_cases e : j = k
    · rw [if_pos e]; exact ht
    · rw [if_neg e]; exact h.l j hj
  · obtain ⟨r, hr⟩ := h.a
    by_cases hs : ∃ j, j < n ∧ t = nI j
    · obtain ⟨j, hj, rfl⟩ := hs
      refine ⟨fun x => cond (lo S n (nI k) 12 (nI x)) (r x + r j + 1) (r x), fun x y hx hy e => ?_⟩
      rw [lk_upl] at e
      by_cases q : x = k
      · rw [if_pos q] at e
        have : j = y := nI_inj (by omega) (by omega) e
        subst this
        subst q
        show cond (lo S n (nI x) 12 (nI j)) _ _ < cond (lo S n (nI x) 12 (nI x)) _ _
        rw [hlo, lo_k h12 h.lv hx, decide_eq_true rfl]
        show r j < r x + r j + 1
        omega
      · rw [if_neg q] at e
        have h1 := hr x y hx hy e
        show cond (lo S n (nI k) 12 (nI y)) _ _ < cond (lo S n (nI k) 12 (nI x)) _ _
        rw [lo_k h12 h.lv hx, decide_eq_false (fun w => q (nI_inj (by omega) (by omega) w)), Bool.false_or, e]
        cases lo S n (nI k) 12 (nI y)
        · exact h1
        · show r y + r j + 1 < r x + r j + 1
          omega
    · refine ⟨r, fun x y hx hy e => ?_⟩
      rw [lk_upl] at e
      by_cases q : x = k
      · rw [if_pos q] at e
        exact absurd ⟨y, hy, e⟩ hs
      · rw [if_neg q] at e
        exact hr x y hx hy e
theorem lk_cto (S : zS) (n k j : Nat) (hj : j < n) : lk (cto S n k) j = if j = k then -1 else if lk S j = nI k then lk S k else lk S j := by
  unfold cto
  rw [lk_upl, lk_hal]
  by_cases e : j = k
  · rw [if_pos e, if_pos e]
  · rw [if_neg e, if_neg e]
    by_cases q : lk S j = nI k
    · rw [if_pos ⟨hj, q⟩, if_pos q]
    · rw [if_neg (fun w => q w.2), if_neg q]
theorem Bas.cto (h : Bas S n) {k : Nat} (hk : k < n) : Bas (cto S n k) n := by
  refine h.lks (els_upl (els_hal _ _ n) k _) (fun j hj => ?_) ?_
  · rw [lk_cto S n k j hj]
    by_cases e : j = k
    · rw [if_pos e]; exact Or.inl rfl
    · rw [if_neg e]
      by_cases q : lk S j = nI k
      · rw [if_pos q]; exact h.l k hk
      · rw [if_neg q]; exact h.l j hj
  · obtain ⟨r, hr⟩ := h.a
    refine ⟨r, fun x y hx hy e => ?_⟩
    rw [lk_cto S n k x hx] at e
    by_cases q : x = k
    · rw [if_pos q] at e
      exact absurd e.symm (ship_ne_m1 (by have := h.le; omega))
    · rw [if_neg q] at e
      by_cases w : lk S x = nI k
      · rw [if_pos w] at e
        have h1 := hr k y hk hy e
        have h2 := hr x k hx hk w
        omega
      · rw [if_neg w] at e
        exact hr x y hx hy e
theorem wrs_b (h : Bas S n) (T : zS) : ∀ i, i ≤ n → Bas (wrs T S i) n
  | 0, _ => h
  | i + 1, hi => by
    have ih := wrs_b h T i (by omega)
    unfold wrs
    by_cases q : lk (wrs T S i) i ≠ -1 ∧ brk (wrs T S i) i / 2 < T i
    · rw [if_pos q]
      have hw := ih.w i (by omega)
      have h1 := i_le.mp hw.1
      have h2 := i_le.mp hw.2
      rw [t_0] at h1
      rw [t_99] at h2
      obtain ⟨a, ha, e⟩ := nI_of (x := wo (wrs T S i) i) (by rw [i_lt, t_0]; omega)
      rw [e, nI_toInt ha] at h1 h2
      refine ih.upw i ?_
      rw [e, nI_1]
      by_cases w : nI (a + 1) < 99
      · rw [if_pos w]
        exact ⟨nI_pos' (by omega), by rw [i_le]; have := i_lt.mp w; omega⟩
      · rw [if_neg w]; decide
    · rw [if_neg q]; exact ih
theorem Bas.phr (h : Bas S n) (w : Int32) : Bas (phr S n w) n := (wrs_b ((h.up2 w).stl w) _ n (Nat.le_refl _)).up1 _
theorem Bas.phn (h : Bas S n) (w : Int32) : ∀ i, Bas (phn S n w i) n
  | 0 => h
  | i + 1 => (Bas.phn h w i).phr w
theorem brk_m (h : Bas S n) {k : Nat} (hk : k < n) : brk S k = cond (decide (kd S k = 5)) ((if ch S k < wo S k then 0 else ch S k - wo S k) / 2) (if ch S k < wo S k then 0 else ch S k - wo S k) := by
  have e : (if (0 : Int32) < ch S k - wo S k then ch S k - wo S k else 0) = (if ch S k < wo S k then 0 else ch S k - wo S k) := by
    have h1 := h.c k hk
    have h2 := h.w k hk
    have a1 := i_le.mp h1.1
    have a2 := i_le.mp h1.2
    have a3 := i_le.mp h2.1
    have a4 := i_le.mp h2.2
    rw [t_0] at a1 a3
    rw [t_9999] at a2
    rw [t_99] at a4
    have es : (ch S k - wo S k).toInt = (ch S k).toInt - (wo S k).toInt := by
      rw [Int32.toInt_sub, Int.bmod_eq_of_le (by omega) (by omega)]
    by_cases q : ch S k < wo S k
    · rw [if_pos q, if_neg]
      rw [i_lt, t_0, es]
      have := i_lt.mp q
      omega
    · rw [if_neg q]
      by_cases w : (0 : Int32) < ch S k - wo S k
      · rw [if_pos w]
      · rw [if_neg w]
        apply i_eq.mpr
        rw [es, t_0]
        rw [i_lt, t_0, es] at w
        rw [i_lt] at q
        omega
  unfold brk
  rw [e]
end BAS
