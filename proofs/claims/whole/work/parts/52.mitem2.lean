/-! The model's items and its text. -/
section MITEM2
variable {X : Nat × (Nat → Int32)} {M M1 M2 : zM} {N : zN} {S : zS} {n : Nat} {tb : zS} {tl : Nat} {p : Nat}
theorem m_anchorHere (hT : mT M tb tl) (hm : mTk M tb tl p) (hp : p ≤ tl) (hr : Rw M 45 S) : zV X 200 [.ref 44] M N (mQ M N tb tl (pPair tb tl uph 5 9999 S p)) := by
  refine zVi [(0, .ref 44)] rfl ?_
  unfold pPair
  have hq := (nx_le (tb := tb) hp).2
  have hq2 := (nx_le (tb := tb) hq).2
  refine zs rfl rfl rfl ?_
  refine zclQ rfl rfl (m_next hT hm hp) ?_
  rintro v1 M1 N1 ⟨rfl, rfl, hn1, hm1⟩
  have hT1 := hT.nf hn1
  refine zs rfl rfl rfl ?_
  refine zs rfl rfl rfl ?_
  refine zs rfl rfl rfl ?_
  refine zclQ rfl rfl (m_isNumber hm1 (lw := 0) (hi := 5) (by decide) (by decide)) ?_
  rintro v2 M2 N2 ⟨rfl, ⟨e, rfl, rfl⟩ | ⟨e, rfl, rfl⟩⟩
  · rw [e]
    obtain ⟨a, ha, ea⟩ := r6 (pN_rng e)
    have ev : M2 44 17 = nI a := (hm1.2.2.2.trans (nv_eq (by decide) e)).trans ea
    rw [ea, nI_clamp (by omega)]
    refine zs rfl rfl rfl ?_
    refine zs rfl rfl rfl ?_
    refine zs rfl rfl rfl ?_
    refine zto rfl ev ?_
    refine zs rfl rfl rfl ?_
    refine zs rfl rfl rfl ?_
    refine zclQ rfl rfl (m_next hT1 hm1 hq) ?_
    rintro v3 M3 N3 ⟨rfl, rfl, hn3, hm3⟩
    have hr3 := (hr.nf (by decide) hn1).nf (by decide) hn3
    refine zs rfl rfl rfl ?_
    refine zs rfl rfl rfl ?_
    refine zs rfl rfl rfl ?_
    refine zs rfl rfl rfl ?_
    refine zto rfl (nI_add 3 a) ?_
    refine zs rfl rfl rfl ?_
    refine zs rfl rfl rfl ?_
    refine zclQ rfl rfl (m_comesTo (i := 3 + a) (lw := 0) (hi' := 9999) (hT1.nf hn3) hm3 hq2 hr3 (by omega) (by decide) (by decide)) ?_
    rintro v4 M4 N4 ⟨rfl, hf4, h4⟩
    have hf := (hn1.mf.trans hn3.mf).trans hf4
    show zW _ _ _ _ _ _ _ (mQ M N4 tb tl (cond (pN tb tl (nx tb tl (nx tb tl p)) 0 9999) (.inl (uph S a (cv tb tl (nx tb tl (nx tb tl p))), nx tb tl (nx tb tl (nx tb tl p)))) (.inr (nx tb tl (nx tb tl p)))))
    cases hc : pN tb tl (nx tb tl (nx tb tl p)) 0 9999 with
    | true =>
      rw [hc] at h4
      obtain ⟨rfl, h5, h6⟩ := h4
      exact zret rfl rfl (mQ_ok rfl hf h5 h6)
    | false =>
      rw [hc] at h4
      obtain ⟨rfl, h5⟩ := h4
      exact zret rfl rfl (mQ_no rfl hf h5)
  · rw [e]
    refine zs rfl rfl rfl ?_
    refine zs rfl rfl rfl ?_
    exact zret rfl rfl (mQ_no rfl (hn1.mf.up18 _) rfl)
theorem m_oddsHere (hT : mT M tb tl) (hm : mTk M tb tl p) (hp : p ≤ tl) (hr : Rw M 45 S) : zV X 202 [.ref 44] M N (mQ M N tb tl (pPair tb tl upo 12 99 S p)) := by
  refine zVi [(0, .ref 44)] rfl ?_
  unfold pPair
  have hq := (nx_le (tb := tb) hp).2
  have hq2 := (nx_le (tb := tb) hq).2
  refine zs rfl rfl rfl ?_
  refine zclQ rfl rfl (m_next hT hm hp) ?_
  rintro v1 M1 N1 ⟨rfl, rfl, hn1, hm1⟩
  have hT1 := hT.nf hn1
  refine zs rfl rfl rfl ?_
  refine zs rfl rfl rfl ?_
  refine zs rfl rfl rfl ?_
  refine zclQ rfl rfl (m_isNumber hm1 (lw := 0) (hi := 12) (by decide) (by decide)) ?_
  rintro v2 M2 N2 ⟨rfl, ⟨e, rfl, rfl⟩ | ⟨e, rfl, rfl⟩⟩
  · rw [e]
    obtain ⟨a, ha, ea⟩ := r13 (pN_rng e)
    have ev : M2 44 17 = nI a := (hm1.2.2.2.trans (nv_eq (by decide) e)).trans ea
    rw [ea, nI_clamp (by omega)]
    refine zs rfl rfl rfl ?_
    refine zs rfl rfl rfl ?_
    refine zs rfl rfl rfl ?_
    refine zto rfl ev ?_
    refine zs rfl rfl rfl ?_
    refine zs rfl rfl rfl ?_
    refine zclQ rfl rfl (m_next hT1 hm1 hq) ?_
    rintro v3 M3 N3 ⟨rfl, rfl, hn3, hm3⟩
    have hr3 := (hr.nf (by decide) hn1).nf (by decide) hn3
    refine zs rfl rfl rfl ?_
    refine zs rfl rfl rfl ?_
    refine zs rfl rfl rfl ?_
    refine zs rfl rfl rfl ?_
    refine zto rfl (nI_add 9 a) ?_
    refine zs rfl rfl rfl ?_
    refine zs rfl rfl rfl ?_
    refine zclQ rfl rfl (m_comesTo (i := 9 + a) (lw := 0) (hi' := 99) (hT1.nf hn3) hm3 hq2 hr3 (by omega) (by decide) (by decide)) ?_
    rintro v4 M4 N4 ⟨rfl, hf4, h4⟩
    have hf := (hn1.mf.trans hn3.mf).trans hf4
    show zW _ _ _ _ _ _ _ (mQ M N4 tb tl (cond (pN tb tl (nx tb tl (nx tb tl p)) 0 99) (.inl (upo S a (cv tb tl (nx tb tl (nx tb tl p))), nx tb tl (nx tb tl (nx tb tl p)))) (.inr (nx tb tl (nx tb tl p)))))
    cases hc : pN tb tl (nx tb tl (nx tb tl p)) 0 99 with
    | true =>
      rw [hc] at h4
      obtain ⟨rfl, h5, h6⟩ := h4
      exact zret rfl rfl (mQ_ok rfl hf h5 h6)
    | false =>
      rw [hc] at h4
      obtain ⟨rfl, h5⟩ := h4
      exact zret rfl rfl (mQ_no rfl hf h5)
  · rw [e]
    refine zs rfl rfl rfl ?_
    refine zs rfl rfl rfl ?_
    exact zret rfl rfl (mQ_no rfl (hn1.mf.up18 _) rfl)
theorem nm1_le (h12 : n ≤ 12) : nI n - 1 ≤ 9999 := by
  cases n with
  | zero => decide
  | succ m => rw [nI_pred]; exact nI_le (b := 9999) (by omega) (by omega)
theorem pW_ne {w w' : Int32} (h : pW tb tl p w = true) (hne : w ≠ w') : pW tb tl p w' = false := decide_eq_false (fun q => hne ((of_decide_eq_true h).2.symm.trans q.2))
theorem m_hangHere (hT : mT M tb tl) (hm : mTk M tb tl p) (hp : p ≤ tl) (hr : Rw M 45 S) (hB : Bas S n) : zV X 201 [.ref 44] M N (mQ M N tb tl (pHang tb tl n S p)) := by
  refine zVi [(0, .ref 44)] rfl ?_
  unfold pHang
  have hle := hB.le
  have hq := (nx_le (tb := tb) hp).2
  have hq2 := (nx_le (tb := tb) hq).2
  have hq3 := (nx_le (tb := tb) hq2).2
  refine zs rfl rfl rfl ?_
  refine zclQ rfl rfl (m_next hT hm hp) ?_
  rintro v1 M1 N1 ⟨rfl, rfl, hn1, hm1⟩
  have hT1 := hT.nf hn1
  have hr1 := hr.nf (by decide) hn1
  have hn0 := hr1.n0 hB
  refine zs rfl rfl rfl ?_
  refine zs rfl rfl rfl ?_
  refine zs rfl rfl rfl ?_
  refine zs rfl rfl rfl ?_
  refine zs rfl rfl rfl ?_
  refine zal (i := 0) rfl rfl rfl (by decide) (by decide) ?_
  try refine zto rfl hn0 ?_
  refine zs rfl rfl rfl ?_
  refine zs rfl rfl rfl ?_
  refine zclQ rfl rfl (m_isNumber hm1 (lw := 0) (hi := nI n - 1) (by decide) (nm1_le hle)) ?_
  rintro v2 M2 N2 ⟨rfl, ⟨e, rfl, rfl⟩ | ⟨e, rfl, rfl⟩⟩
  · rw [e]
    obtain ⟨k, hk, ek⟩ := pN_n hle e
    have ev : M2 44 17 = nI k := (hm1.2.2.2.trans (nv_eq (nm1_le hle) e)).trans ek
    rw [ek, nI_clamp (by omega)]
    refine zs rfl rfl rfl ?_
    refine zs rfl rfl rfl ?_
    refine zs rfl rfl rfl ?_
    refine zto rfl ev ?_
    refine zs rfl rfl rfl ?_
    refine zs rfl rfl rfl ?_
    refine zclQ rfl rfl (m_next hT1 hm1 hq) ?_
    rintro v3 M3 N3 ⟨rfl, rfl, hn3, hm3⟩
    have hT3 := hT1.nf hn3
    have hr3 := hr1.nf (by decide) hn3
    have hf3 := hn1.mf.trans hn3.mf
    refine zs rfl rfl rfl ?_
    refine zs rfl rfl rfl ?_
    refine zs rfl rfl rfl ?_
    refine zcl rfl rfl (m_word_10 hT3 hm3 hq2) ?_
    show zW _ _ _ _ [.int (bI (pW tb tl (nx tb tl (nx tb tl p)) 10))] _ _ _
    cases h10 : pW tb tl (nx tb tl (nx tb tl p)) 10 with
    | true =>
      have h9 := pW_ne (w' := 9) h10 (by decide)
      have hbr : isBr tb tl (nx tb tl (nx tb tl p)) = true := by unfold isBr; rw [h9, h10]; rfl
      rw [hbr]
      unfold pBer
      rw [h9]
      refine zs rfl rfl rfl ?_
      refine zs rfl rfl rfl ?_
      refine zs rfl rfl rfl ?_
      refine zclQ rfl rfl (m_anchorComes hT3 hm3 hq2 hr3 (k := k) (by omega)) ?_
      rintro v4 M4 N4 ⟨rfl, hf4, h4⟩
      have hf := hf3.trans hf4
      show zW _ _ _ _ _ _ _ (mQ M N4 tb tl (cond (pN tb tl (nx tb tl (nx tb tl (nx tb tl p))) 0 5) (.inl (upl S k (100 + cv tb tl (nx tb tl (nx tb tl (nx tb tl p)))), nx tb tl (nx tb tl (nx tb tl (nx tb tl p))))) (.inr (nx tb tl (nx tb tl (nx tb tl p))))))
      cases hc : pN tb tl (nx tb tl (nx tb tl (nx tb tl p))) 0 5 with
      | true =>
        rw [hc] at h4
        obtain ⟨rfl, h5, h6⟩ := h4
        exact zret rfl rfl (mQ_ok rfl hf h5 h6)
      | false =>
        rw [hc] at h4
        obtain ⟨rfl, h5⟩ := h4
        exact zret rfl rfl (mQ_no rfl hf h5)
    | false =>
      refine zs rfl rfl rfl ?_
      refine zs rfl rfl rfl ?_
      refine zs rfl rfl rfl ?_
      refine zs rfl rfl rfl ?_
      refine zcl rfl rfl (m_word_9 hT3 hm3 hq2) ?_
      show zW _ _ _ _ [.int (bI (pW tb tl (nx tb tl (nx tb tl p)) 9))] _ _ _
      cases h9 : pW tb tl (nx tb tl (nx tb tl p)) 9 with
      | false =>
        have hbr : isBr tb tl (nx tb tl (nx tb tl p)) = false := by unfold isBr; rw [h9, h10]; rfl
        rw [hbr]
        refine zs rfl rfl rfl ?_
        refine zs rfl rfl rfl ?_
        refine zcl rfl rfl (m_fails hm3) ?_
        exact zret rfl rfl (mQ_no rfl (hf3.up18 _) rfl)
      | true =>
        have hbr : isBr tb tl (nx tb tl (nx tb tl p)) = true := by unfold isBr; rw [h9]; rfl
        rw [hbr]
        unfold pBer
        rw [h9]
        have hn0 := hr3.n0 hB
        refine zs rfl rfl rfl ?_
        refine zs rfl rfl rfl ?_
        refine zclQ rfl rfl (m_next hT3 hm3 hq2) ?_
        rintro v4 M4 N4 ⟨rfl, rfl, hn4, hm4⟩
        have hT4 := hT3.nf hn4
        have hr4 := hr3.nf (by decide) hn4
        have hf4 := hf3.trans hn4.mf
        have hn0 := hr4.n0 hB
        refine zs rfl rfl rfl ?_
        refine zs rfl rfl rfl ?_
        refine zs rfl rfl rfl ?_
        refine zs rfl rfl rfl ?_
        refine zs rfl rfl rfl ?_
        refine zal (i := 0) rfl rfl rfl (by decide) (by decide) ?_
        try refine zto rfl hn0 ?_
        refine zs rfl rfl rfl ?_
        refine zs rfl rfl rfl ?_
        refine zclQ rfl rfl (m_isNumber hm4 (lw := 0) (hi := nI n - 1) (by decide) (nm1_le hle)) ?_
        rintro v5 M5 N5 ⟨rfl, ⟨e5, rfl, rfl⟩ | ⟨e5, rfl, rfl⟩⟩
        · obtain ⟨i, hi, ei⟩ := pN_n hle e5
          have ev5 : M5 44 17 = nI i := (hm4.2.2.2.trans (nv_eq (nm1_le hle) e5)).trans ei
          show zW _ _ _ _ _ _ _ (mQ M N5 tb tl (cond (lo S n (nI k) 12 (cv tb tl (nx tb tl (nx tb tl (nx tb tl p))))) (.inr (nx tb tl (nx tb tl (nx tb tl p)))) (cond (pN tb tl (nx tb tl (nx tb tl (nx tb tl p))) 0 (nI n - 1)) (.inl (upl S k (cv tb tl (nx tb tl (nx tb tl (nx tb tl p)))), nx tb tl (nx tb tl (nx tb tl (nx tb tl p))))) (.inr (nx tb tl (nx tb tl (nx tb tl p)))))))
          rw [e5, ei]
          refine zs rfl rfl rfl ?_
          refine zs rfl rfl rfl ?_
          refine zs rfl rfl rfl ?_
          refine zs rfl rfl rfl ?_
          refine zto rfl ev5 ?_
          refine zs rfl rfl rfl ?_
          refine zcl rfl rfl (m_isInString hr4 hle hB.l hB.lv (Th_s hi) (nI k)) ?_
          cases hl : lo S n (nI k) 12 (nI i) with
          | true =>
            refine zs rfl rfl rfl ?_
            refine zs rfl rfl rfl ?_
            refine zcl rfl rfl (m_fails hm4) ?_
            exact zret rfl rfl (mQ_no rfl (hf4.up18 _) rfl)
          | false =>
            refine zs rfl rfl rfl ?_
            refine zs rfl rfl rfl ?_
            refine zs rfl rfl rfl ?_
            refine zs rfl rfl rfl ?_
            refine zs rfl rfl rfl ?_
            refine zs rfl rfl rfl ?_
            refine zto rfl ev5 ?_
            refine zcl rfl rfl (m_puts4 (show k < 12 by omega) (nI i)) ?_
            refine zs rfl rfl rfl ?_
            refine zclQ rfl rfl (m_next (hT4.mf (Mf.rfl'.up45 (26 + 5 * k) (nI i))) (hm4.up45 (26 + 5 * k) (nI i)) hq3) ?_
            rintro v6 M6 N6 ⟨rfl, rfl, hn6, hm6⟩
            refine zs rfl rfl rfl ?_
            exact zret rfl rfl (mQ_ok rfl ((hf4.up45 _ _).trans hn6.mf) ((hr4.up _ _).nf (by decide) hn6) hm6)
        · show zW _ _ _ _ _ _ _ (mQ M N5 tb tl (cond (lo S n (nI k) 12 (cv tb tl (nx tb tl (nx tb tl (nx tb tl p))))) (.inr (nx tb tl (nx tb tl (nx tb tl p)))) (cond (pN tb tl (nx tb tl (nx tb tl (nx tb tl p))) 0 (nI n - 1)) (.inl (upl S k (cv tb tl (nx tb tl (nx tb tl (nx tb tl p)))), nx tb tl (nx tb tl (nx tb tl (nx tb tl p))))) (.inr (nx tb tl (nx tb tl (nx tb tl p)))))))
          have er : (cond (lo S n (nI k) 12 (cv tb tl (nx tb tl (nx tb tl (nx tb tl p))))) (.inr (nx tb tl (nx tb tl (nx tb tl p)))) (cond (pN tb tl (nx tb tl (nx tb tl (nx tb tl p))) 0 (nI n - 1)) (.inl (upl S k (cv tb tl (nx tb tl (nx tb tl (nx tb tl p)))), nx tb tl (nx tb tl (nx tb tl (nx tb tl p))))) (.inr (nx tb tl (nx tb tl (nx tb tl p))))) : zT) = .inr (nx tb tl (nx tb tl (nx tb tl p))) := by
            rw [e5]; cases lo S n (nI k) 12 (cv tb tl (nx tb tl (nx tb tl (nx tb tl p)))) <;> rfl
          rw [er]
          refine zs rfl rfl rfl ?_
          refine zs rfl rfl rfl ?_
          exact zret rfl rfl (mQ_no rfl (hf4.up18 _) rfl)
  · rw [e]
    refine zs rfl rfl rfl ?_
    refine zs rfl rfl rfl ?_
    exact zret rfl rfl (mQ_no rfl (hn1.mf.up18 _) rfl)
/-- nothing hangs on a new ship -/
theorem lo_new {S3 : zS} (h12 : n < 12) (h : ∀ k, k < n → lk S3 k ≠ nI n) (hn : lk S3 n = -1) : ∀ (f : Nat) (t : Int32), t ≠ nI n → lo S3 (n + 1) (nI n) f t = false
  | 0, _, _ => rfl
  | f + 1, t, ht => by
    cases hs : shp (n + 1) t with
    | false => exact lo_stop hs _
    | true =>
      obtain ⟨j, hj, rfl⟩ := shp_of (by omega) hs
      rw [lo_s (by omega) hj, decide_eq_false ht, Bool.false_or]
      have hjn : j ≠ n := fun e => ht (by rw [e])
      exact lo_new h12 h hn f _ (h j (by omega))
theorem ber_new {S3 : zS} {A : zT} {q : Nat} (h12 : n < 12) (h : ∀ k, k < n → lk S3 k ≠ nI n) (hn : lk S3 n = -1) : cond (lo S3 (n + 1) (nI n) 12 (cv tb tl q)) (.inr q) (cond (pN tb tl q 0 (nI (n + 1) - 1)) A (.inr q)) = cond (pN tb tl q 0 (nI n - 1)) A (.inr q) := by
  cases h1 : pN tb tl q 0 (nI n - 1) with
  | true =>
    obtain ⟨i, hi, ei⟩ := pN_n (by omega) h1
    have h2 : pN tb tl q 0 (nI (n + 1) - 1) = true := by
      have := of_decide_eq_true h1
      refine decide_eq_true ⟨this.1, this.2.1, ?_⟩
      rw [ei, nI_pred]
      exact nI_le (by omega) (by omega)
    rw [ei, lo_new h12 h hn 12 (nI i) (fun z => by have := nI_inj (by omega) (by omega) z; omega), h2]; rfl
  | false =>
    show cond (lo S3 (n + 1) (nI n) 12 (cv tb tl q)) (.inr q) (cond (pN tb tl q 0 (nI (n + 1) - 1)) A (.inr q)) = .inr q
    cases h2 : pN tb tl q 0 (nI (n + 1) - 1) with
    | false => cases lo S3 (n + 1) (nI n) 12 (cv tb tl q) <;> rfl
    | true =>
      obtain ⟨i, hi, ei⟩ := pN_n (by omega) h2
      have hin : i = n := by
        apply Classical.byContradiction
        intro hne
        have h3 := of_decide_eq_true h2
        have : pN tb tl q 0 (nI n - 1) = true := by
          refine decide_eq_true ⟨h3.1, h3.2.1, ?_⟩
          rw [ei]
          obtain ⟨m, rfl⟩ : ∃ m, n = m + 1 := ⟨n - 1, by omega⟩
          rw [nI_pred]
          exact nI_le (by omega) (by omega)
        rw [this] at h1
        cases h1
      subst hin
      rw [ei, lo_s (by omega) (by omega), decide_eq_true rfl]; rfl
theorem m_shipHere (hT : mT M tb tl) (hm : mTk M tb tl p) (hp : p ≤ tl) (hr : Rw M 45 S) (hB : Bas S n) (k : Int32) : zV X 199 [.ref 44, .int k] M N (mQ M N tb tl (pShip tb tl n k S p)) := by
  refine zVi [(0, .ref 44), (1, .int k)] rfl ?_
  unfold pShip
  have hn0 := hr.n0 hB
  have hle := hB.le
  have hq := (nx_le (tb := tb) hp).2
  refine zs rfl rfl rfl ?_
  refine zs rfl rfl rfl ?_
  refine zs rfl rfl rfl ?_
  refine zal (i := 0) rfl rfl rfl (by decide) (by decide) ?_
  try refine zto rfl hn0 ?_
  refine zs rfl rfl rfl ?_
  by_cases h12 : n < 12
  · rw [if_pos h12]
    have e12 : nI n ≠ 12 := fun q => by have := nI_inj (b := 12) (by omega) (by decide) q; omega
    have lk0 : ∀ S3 : zS, (∀ j, lk S3 j = lk (ads S n k 10) j) → (∀ j, j < n → lk S3 j ≠ nI n) ∧ lk S3 n = -1 := fun S3 h => by
      refine ⟨fun j hj e => ?_, by rw [h, ads_lk, if_pos rfl]⟩
      rw [h, ads_lk, if_neg (by omega)] at e
      rcases hB.l j hj with w | ⟨i, hi, w⟩ | ⟨a, ha, w⟩
      · exact absurd (w.symm.trans e).symm (nI_m1 (by omega))
      · have := nI_inj (by omega) (by omega) (w.symm.trans e); omega
      · have := nI_inj (by omega) (by omega) (w.symm.trans e); omega
    have e22 : (22 : Int32) + 5 * nI n = nI (22 + 5 * n) := by
      rw [show (5 : Int32) * nI n = nI (5 * n) from (Int32.ofNat_mul 5 n).symm]; exact nI_add 22 _
    have berth : ∀ (S3 : zS) (q : Nat) (M3 : zM), q ≤ tl → Mf M M3 → mTk M3 tb tl q → Rw M3 45 S3 → (∀ j, lk S3 j = lk (ads S n k 10) j) → zW X 199 140 [(0, .ref 44), (1, .int k), (2, .int (nI n)), (3, .int (nI (22 + 5 * n)))] [] M3 N (mQ M N tb tl (pEnd tb tl n S3 q)) := by
      intro S3 q M3 hql hf3 hm3 hr3 hlk
      have hT3 := hT.mf hf3
      have hq1 := (nx_le (tb := tb) hql).2
      unfold pEnd
      refine zs rfl rfl rfl ?_
      refine zs rfl rfl rfl ?_
      refine zs rfl rfl rfl ?_
      refine zcl rfl rfl (m_word_9 hT3 hm3 hql) ?_
      show zW _ _ _ _ [.int (bI (pW tb tl q 9))] _ _ _
      cases h9 : pW tb tl q 9 with
      | true =>
        have hbr : isBr tb tl q = true := by unfold isBr; rw [h9]; rfl
        rw [hbr]
        unfold pBer
        rw [h9]
        show zW _ _ _ _ _ _ _ (mQ M N tb tl (cond (lo S3 (n + 1) (nI n) 12 (cv tb tl (nx tb tl q))) (.inr (nx tb tl q)) (cond (pN tb tl (nx tb tl q) 0 (nI (n + 1) - 1)) (.inl (upl S3 n (cv tb tl (nx tb tl q)), nx tb tl (nx tb tl q))) (.inr (nx tb tl q)))))
        rw [ber_new h12 (lk0 S3 hlk).1 (lk0 S3 hlk).2]
        refine zs rfl rfl rfl ?_
        refine zs rfl rfl rfl ?_
        refine zclQ rfl rfl (m_next hT3 hm3 hql) ?_
        rintro v4 M4 N4 ⟨rfl, rfl, hn4, hm4⟩
        refine zs rfl rfl rfl ?_
        refine zs rfl rfl rfl ?_
        refine zs rfl rfl rfl ?_
        refine zs rfl rfl rfl ?_
        refine zto rfl (nI_add (22 + 5 * n) 4) ?_
        refine zs rfl rfl rfl ?_
        refine zs rfl rfl rfl ?_
        refine zs rfl rfl rfl ?_
        refine zs rfl rfl rfl ?_
        refine zclQ rfl rfl (m_comesTo (i := 22 + 5 * n + 4) (lw := 0) (hi' := nI n - 1) (hT3.nf hn4) hm4 hq1 (hr3.nf (by decide) hn4) (by omega) (by decide) (nm1_le hle)) ?_
        rintro v5 M5 N5 ⟨rfl, hf5, h5⟩
        have hf := (hf3.trans hn4.mf).trans hf5
        rw [show 22 + 5 * n + 4 = 26 + 5 * n by omega] at h5
        cases hc : pN tb tl (nx tb tl q) 0 (nI n - 1) with
        | true =>
          rw [hc] at h5
          obtain ⟨rfl, h6, h7⟩ := h5
          exact zret rfl rfl (mQ_ok rfl hf h6 h7)
        | false =>
          rw [hc] at h5
          obtain ⟨rfl, h6⟩ := h5
          exact zret rfl rfl (mQ_no rfl hf h6)
      | false =>
        refine zs rfl rfl rfl ?_
        refine zs rfl rfl rfl ?_
        refine zs rfl rfl rfl ?_
        refine zs rfl rfl rfl ?_
        refine zcl rfl rfl (m_word_10 hT3 hm3 hql) ?_
        show zW _ _ _ _ [.int (bI (pW tb tl q 10))] _ _ _
        cases h10 : pW tb tl q 10 with
        | true =>
          have hbr : isBr tb tl q = true := by unfold isBr; rw [h9, h10]; rfl
          rw [hbr]
          unfold pBer
          rw [h9]
          refine zs rfl rfl rfl ?_
          refine zs rfl rfl rfl ?_
          refine zs rfl rfl rfl ?_
          refine zclQ rfl rfl (m_anchorComes hT3 hm3 hql hr3 (k := n) h12) ?_
          rintro v4 M4 N4 ⟨rfl, hf4, h4⟩
          have hf := hf3.trans hf4
          show zW _ _ _ _ _ _ _ (mQ M N4 tb tl (cond (pN tb tl (nx tb tl q) 0 5) (.inl (upl S3 n (100 + cv tb tl (nx tb tl q)), nx tb tl (nx tb tl q))) (.inr (nx tb tl q))))
          cases hc : pN tb tl (nx tb tl q) 0 5 with
          | true =>
            rw [hc] at h4
            obtain ⟨rfl, h6, h7⟩ := h4
            refine zs rfl rfl rfl ?_
            refine zs rfl rfl rfl ?_
            refine zs rfl rfl rfl ?_
            exact zret rfl rfl (mQ_ok rfl hf h6 h7)
          | false =>
            rw [hc] at h4
            obtain ⟨rfl, h6⟩ := h4
            refine zs rfl rfl rfl ?_
            refine zs rfl rfl rfl ?_
            exact zret rfl rfl (mQ_no rfl hf h6)
        | false =>
          have hbr : isBr tb tl q = false := by unfold isBr; rw [h9, h10]; rfl
          rw [hbr]
          refine zs rfl rfl rfl ?_
          refine zs rfl rfl rfl ?_
          refine zs rfl rfl rfl ?_
          exact zret rfl rfl (mQ_ok rfl hf3 hr3 hm3)
    have worn : ∀ (S2 : zS) (q : Nat) (M3 : zM), q ≤ tl → Mf M M3 → mTk M3 tb tl q → Rw M3 45 S2 → (∀ j, lk S2 j = lk (ads S n k 10) j) → zW X 199 106 [(0, .ref 44), (1, .int k), (2, .int (nI n)), (3, .int (nI (22 + 5 * n)))] [] M3 N (mQ M N tb tl (pbind (pPer tb tl 8 0 99 (fun S v => upw S n v) S2 q) (fun S3 p3 => pEnd tb tl n S3 p3))) := by
      intro S2 q M3 hql hf3 hm3 hr3 hlk
      have hT3 := hT.mf hf3
      have hq1 := (nx_le (tb := tb) hql).2
      unfold pPer
      refine zs rfl rfl rfl ?_
      refine zs rfl rfl rfl ?_
      refine zs rfl rfl rfl ?_
      refine zs rfl rfl rfl ?_
      refine zs rfl rfl rfl ?_
      refine zcl rfl rfl (m_word_8 hT3 hm3 hql) ?_
      show zW _ _ _ _ [.int (bI (pW tb tl q 8))] _ _ _
      cases h8 : pW tb tl q 8 with
      | false =>
        refine zs rfl rfl rfl ?_
        exact berth S2 q M3 hql hf3 hm3 hr3 hlk
      | true =>
        refine zs rfl rfl rfl ?_
        refine zs rfl rfl rfl ?_
        refine zclQ rfl rfl (m_next hT3 hm3 hql) ?_
        rintro v4 M4 N4 ⟨rfl, rfl, hn4, hm4⟩
        refine zs rfl rfl rfl ?_
        refine zs rfl rfl rfl ?_
        refine zs rfl rfl rfl ?_
        refine zs rfl rfl rfl ?_
        refine zto rfl (nI_add (22 + 5 * n) 3) ?_
        refine zs rfl rfl rfl ?_
        refine zs rfl rfl rfl ?_
        refine zclQ rfl rfl (m_comesTo (i := 22 + 5 * n + 3) (lw := 0) (hi' := 99) (hT3.nf hn4) hm4 hq1 (hr3.nf (by decide) hn4) (by omega) (by decide) (by decide)) ?_
        rintro v5 M5 N5 ⟨rfl, hf5, h5⟩
        have hf := (hf3.trans hn4.mf).trans hf5
        rw [show 22 + 5 * n + 3 = 25 + 5 * n by omega] at h5
        cases hc : pN tb tl (nx tb tl q) 0 99 with
        | true =>
          rw [hc] at h5
          obtain ⟨rfl, h6, h7⟩ := h5
          refine zs rfl rfl rfl ?_
          exact berth (upw S2 n (cv tb tl (nx tb tl q))) (nx tb tl (nx tb tl q)) M5 (nx_le hq1).2 hf h7 h6 (fun j => (lk_upw S2 n j _).trans (hlk j))
        | false =>
          rw [hc] at h5
          obtain ⟨rfl, h6⟩ := h5
          refine zs rfl rfl rfl ?_
          refine zs rfl rfl rfl ?_
          exact zret rfl rfl (mQ_no rfl hf h6)
    have bears : ∀ (S2 : zS) (q : Nat) (M3 : zM), q ≤ tl → Mf M M3 → mTk M3 tb tl q → Rw M3 45 S2 → (∀ j, lk S2 j = lk (ads S n k 10) j) → zW X 199 69 [(0, .ref 44), (1, .int k), (2, .int (nI n)), (3, .int (nI (22 + 5 * n)))] [] M3 N (mQ M N tb tl (pbind (pPer tb tl 7 0 9999 (fun S v => upc S n v) S2 q) (fun S2 p2 => pbind (pPer tb tl 8 0 99 (fun S v => upw S n v) S2 p2) (fun S3 p3 => pEnd tb tl n S3 p3)))) := by
      intro S2 q M3 hql hf3 hm3 hr3 hlk
      have hT3 := hT.mf hf3
      have hq1 := (nx_le (tb := tb) hql).2
      show zW _ _ _ _ _ _ _ (mQ M N tb tl (pbind (cond (pW tb tl q 7) (cond (pN tb tl (nx tb tl q) 0 9999) (.inl (upc S2 n (cv tb tl (nx tb tl q)), nx tb tl (nx tb tl q))) (.inr (nx tb tl q))) (.inl (S2, q))) (fun S2 p2 => pbind (pPer tb tl 8 0 99 (fun S v => upw S n v) S2 p2) (fun S3 p3 => pEnd tb tl n S3 p3))))
      refine zs rfl rfl rfl ?_
      refine zs rfl rfl rfl ?_
      refine zs rfl rfl rfl ?_
      refine zs rfl rfl rfl ?_
      refine zs rfl rfl rfl ?_
      refine zs rfl rfl rfl ?_
      refine zcl rfl rfl (m_word_7 hT3 hm3 hql) ?_
      show zW _ _ _ _ [.int (bI (pW tb tl q 7))] _ _ _
      cases h8 : pW tb tl q 7 with
      | false =>
        refine zs rfl rfl rfl ?_
        exact worn S2 q M3 hql hf3 hm3 hr3 hlk
      | true =>
        refine zs rfl rfl rfl ?_
        refine zs rfl rfl rfl ?_
        refine zclQ rfl rfl (m_next hT3 hm3 hql) ?_
        rintro v4 M4 N4 ⟨rfl, rfl, hn4, hm4⟩
        refine zs rfl rfl rfl ?_
        refine zs rfl rfl rfl ?_
        refine zs rfl rfl rfl ?_
        refine zs rfl rfl rfl ?_
        refine zto rfl (nI_add (22 + 5 * n) 2) ?_
        refine zs rfl rfl rfl ?_
        refine zs rfl rfl rfl ?_
        refine zclQ rfl rfl (m_comesTo (i := 22 + 5 * n + 2) (lw := 0) (hi' := 9999) (hT3.nf hn4) hm4 hq1 (hr3.nf (by decide) hn4) (by omega) (by decide) (by decide)) ?_
        rintro v5 M5 N5 ⟨rfl, hf5, h5⟩
        have hf := (hf3.trans hn4.mf).trans hf5
        rw [show 22 + 5 * n + 2 = 24 + 5 * n by omega] at h5
        cases hc : pN tb tl (nx tb tl q) 0 9999 with
        | true =>
          rw [hc] at h5
          obtain ⟨rfl, h6, h7⟩ := h5
          refine zs rfl rfl rfl ?_
          exact worn (upc S2 n (cv tb tl (nx tb tl q))) (nx tb tl (nx tb tl q)) M5 (nx_le hq1).2 hf h7 h6 (fun j => (lk_upc S2 n j _).trans (hlk j))
        | false =>
          rw [hc] at h5
          obtain ⟨rfl, h6⟩ := h5
          refine zs rfl rfl rfl ?_
          refine zs rfl rfl rfl ?_
          exact zret rfl rfl (mQ_no rfl hf h6)
    refine zbt (e12) rfl rfl rfl ?_
    refine zs rfl rfl rfl ?_
    refine zs rfl rfl rfl ?_
    refine zs rfl rfl rfl ?_
    refine zclQ rfl rfl (m_comes hr hB h12 k 10) ?_
    rintro v1 M1 N1 ⟨rfl, rfl, hf1, hr1⟩
    have hf1' : Mf M M1 := ⟨hf1.mono (by decide), fun c _ => by rw [hf1 44 (by decide)]⟩
    have hm1 : mTk M1 tb tl p := by unfold mTk; rw [hf1 44 (by decide)]; exact hm
    refine zs rfl rfl rfl ?_
    refine zs rfl rfl rfl ?_
    refine zs rfl rfl rfl ?_
    refine zs rfl rfl rfl ?_
    refine zs rfl rfl rfl ?_
    refine zs rfl rfl rfl ?_
    refine zto rfl e22 ?_
    refine zs rfl rfl rfl ?_
    refine zs rfl rfl rfl ?_
    refine zclQ rfl rfl (m_next (hT.mf hf1') hm1 hp) ?_
    rintro v2 M2 N2 ⟨rfl, rfl, hn2, hm2⟩
    have hf2 := hf1'.trans hn2.mf
    have hT2 := hT.mf hf2
    have hr2 := hr1.nf (by decide) hn2
    have hq1 := (nx_le (tb := tb) hq).2
    show zW _ _ _ _ _ _ _ (mQ M N2 tb tl (pbind (cond (pW tb tl (nx tb tl p) 6) (cond (pN tb tl (nx tb tl (nx tb tl p)) 1 99) (.inl (ups (ads S n k 10) n (cv tb tl (nx tb tl (nx tb tl p))), nx tb tl (nx tb tl (nx tb tl p)))) (.inr (nx tb tl (nx tb tl p)))) (.inl (ads S n k 10, nx tb tl p))) (fun S1 p1 => pbind (pPer tb tl 7 0 9999 (fun S v => upc S n v) S1 p1) (fun S2 p2 => pbind (pPer tb tl 8 0 99 (fun S v => upw S n v) S2 p2) (fun S3 p3 => pEnd tb tl n S3 p3)))))
    refine zs rfl rfl rfl ?_
    refine zs rfl rfl rfl ?_
    refine zs rfl rfl rfl ?_
    refine zs rfl rfl rfl ?_
    refine zs rfl rfl rfl ?_
    refine zcl rfl rfl (m_word_6 hT2 hm2 hq) ?_
    show zW _ _ _ _ [.int (bI (pW tb tl (nx tb tl p) 6))] _ _ _
    cases h6' : pW tb tl (nx tb tl p) 6 with
    | false =>
      refine zs rfl rfl rfl ?_
      exact bears _ (nx tb tl p) M2 hq hf2 hm2 hr2 (fun _ => rfl)
    | true =>
      refine zs rfl rfl rfl ?_
      refine zs rfl rfl rfl ?_
      refine zclQ rfl rfl (m_next hT2 hm2 hq) ?_
      rintro v4 M4 N4 ⟨rfl, rfl, hn4, hm4⟩
      refine zs rfl rfl rfl ?_
      refine zs rfl rfl rfl ?_
      refine zs rfl rfl rfl ?_
      refine zs rfl rfl rfl ?_
      refine zto rfl (nI_add (22 + 5 * n) 1) ?_
      refine zs rfl rfl rfl ?_
      refine zs rfl rfl rfl ?_
      refine zclQ rfl rfl (m_comesTo (i := 22 + 5 * n + 1) (lw := 1) (hi' := 99) (hT2.nf hn4) hm4 hq1 (hr2.nf (by decide) hn4) (by omega) (by decide) (by decide)) ?_
      rintro v5 M5 N5 ⟨rfl, hf5, h5⟩
      have hf := (hf2.trans hn4.mf).trans hf5
      rw [show 22 + 5 * n + 1 = 23 + 5 * n by omega] at h5
      cases hc : pN tb tl (nx tb tl (nx tb tl p)) 1 99 with
      | true =>
        rw [hc] at h5
        obtain ⟨rfl, h6, h7⟩ := h5
        refine zs rfl rfl rfl ?_
        exact bears (ups (ads S n k 10) n (cv tb tl (nx tb tl (nx tb tl p)))) (nx tb tl (nx tb tl (nx tb tl p))) M5 (nx_le hq1).2 hf h7 h6 (fun j => lk_ups _ n j _)
      | false =>
        rw [hc] at h5
        obtain ⟨rfl, h6⟩ := h5
        refine zs rfl rfl rfl ?_
        refine zs rfl rfl rfl ?_
        exact zret rfl rfl (mQ_no rfl hf h6)
  · rw [if_neg h12]
    have e12 : ¬ nI n ≠ 12 := fun q => q (by rw [show n = 12 by omega]; rfl)
    refine zbf (e12) rfl rfl rfl ?_
    refine zs rfl rfl rfl ?_
    refine zcl rfl rfl (m_fails hm) ?_
    exact zret rfl rfl (mQ_no rfl (Mf.rfl'.up18 _) rfl)
end MITEM2
