/-! The law, call by call. -/
theorem ite_S {c : Prop} [Decidable c] {p q : zR} {S : zS} (hp : p.2.1 = S) (hq : q.2.1 = S) : (if c then p else q).2.1 = S := by
  by_cases h : c
  · rw [if_pos h]; exact hp
  · rw [if_neg h]; exact hq
theorem of_S (S F : zS) (n : Nat) (s w : Int32) : (r_of S F n s w).2.1 = S := by
  unfold r_of
  repeat' (first | rfl | apply ite_S)
section LAW
variable {L : Nat} {xs : Nat → Int32} {i : Nat} {M : zM} {N : zN} {Q : Option Value → zM → zN → Prop}
theorem law_0 (hL : L ≤ 3072) (hi : i + 6 ≤ L) (hI : Inv M N) (kk : ∀ M' N', Inv M' N' → zW (L, xs) 232 1377 [(0, .ref 3001), (1, .ref 0), (2, .ref 44), (3, .int (nI i))] [] M' N' Q) : zW (L, xs) 232 224 [(0, .ref 3001), (1, .ref 0), (2, .ref 44), (3, .int (nI i))] [] M N Q := by
  obtain ⟨S, n, F, b, K, tb, tl, B, hI⟩ := hI
  have hO := hI.2.2.1
  refine zs rfl rfl rfl ?_
  refine zs rfl rfl rfl ?_
  refine zs rfl rfl rfl ?_
  refine zs rfl rfl rfl ?_
  refine zs rfl rfl rfl ?_
  refine zto rfl (nI_add i 1) ?_
  refine zal rfl rfl rfl (by omega) (by omega) ?_
  refine zs rfl rfl rfl ?_
  refine zs rfl rfl rfl ?_
  refine zs rfl rfl rfl ?_
  refine zs rfl rfl rfl ?_
  refine zto rfl (nI_add i 2) ?_
  refine zal rfl rfl rfl (by omega) (by omega) ?_
  refine zclQ rfl rfl (c_anchor hI.1 (xs (i + 1)) (xs (i + 2))) ?_
  intro v1 M1 N1 h1
  have hM1 := inv_mid hI h1.2.2.1 (by decide) (by decide)
  have e1 := h1.1
  subst e1
  refine zs rfl rfl rfl ?_
  refine zs rfl rfl rfl ?_
  refine zs rfl rfl rfl ?_
  refine zs rfl rfl rfl ?_
  refine zs rfl rfl rfl ?_
  refine zto rfl (nI_add i 1) ?_
  refine zal rfl rfl rfl (by omega) (by omega) ?_
  refine zs rfl rfl rfl ?_
  refine zs rfl rfl rfl ?_
  refine zs rfl rfl rfl ?_
  refine zs rfl rfl rfl ?_
  refine zto rfl (nI_add i 2) ?_
  refine zal rfl rfl rfl (by omega) (by omega) ?_
  refine zclQ rfl rfl (m_anchor hM1 (xs (i + 1)) (xs (i + 2))) ?_
  intro v2 M2 N2 h2
  have e2 := h2.1
  subst e2
  refine zbt rfl rfl rfl rfl ?_
  exact kk M2 N2 (inv_road hI h1 h2 (ok_anchor hO _ _))
theorem law_1 (hL : L ≤ 3072) (hi : i + 6 ≤ L) (hI : Inv M N) (kk : ∀ M' N', Inv M' N' → zW (L, xs) 232 1377 [(0, .ref 3001), (1, .ref 0), (2, .ref 44), (3, .int (nI i))] [] M' N' Q) : zW (L, xs) 232 257 [(0, .ref 3001), (1, .ref 0), (2, .ref 44), (3, .int (nI i))] [] M N Q := by
  obtain ⟨S, n, F, b, K, tb, tl, B, hI⟩ := hI
  have hO := hI.2.2.1
  refine zs rfl rfl rfl ?_
  refine zs rfl rfl rfl ?_
  refine zs rfl rfl rfl ?_
  refine zs rfl rfl rfl ?_
  refine zs rfl rfl rfl ?_
  refine zto rfl (nI_add i 1) ?_
  refine zal rfl rfl rfl (by omega) (by omega) ?_
  refine zs rfl rfl rfl ?_
  refine zs rfl rfl rfl ?_
  refine zs rfl rfl rfl ?_
  refine zs rfl rfl rfl ?_
  refine zto rfl (nI_add i 2) ?_
  refine zal rfl rfl rfl (by omega) (by omega) ?_
  refine zclQ rfl rfl (c_anchorOf hI.1 hO (xs (i + 1)) (xs (i + 2))) ?_
  intro v1 M1 N1 h1
  have hM1 := inv_mid hI h1.2.2.1 (by decide) (by decide)
  have e1 := h1.1
  subst e1
  refine zs rfl rfl rfl ?_
  refine zs rfl rfl rfl ?_
  refine zs rfl rfl rfl ?_
  refine zs rfl rfl rfl ?_
  refine zs rfl rfl rfl ?_
  refine zto rfl (nI_add i 1) ?_
  refine zal rfl rfl rfl (by omega) (by omega) ?_
  refine zs rfl rfl rfl ?_
  refine zs rfl rfl rfl ?_
  refine zs rfl rfl rfl ?_
  refine zs rfl rfl rfl ?_
  refine zto rfl (nI_add i 2) ?_
  refine zal rfl rfl rfl (by omega) (by omega) ?_
  refine zclQ rfl rfl (m_anchorOf hM1 hO (xs (i + 1)) (xs (i + 2))) ?_
  intro v2 M2 N2 h2
  have e2 := h2.1
  subst e2
  refine zbt rfl rfl rfl rfl ?_
  refine kk M2 N2 (inv_road hI h1 h2 ?_)
  unfold r_anchorOf
  repeat' split
  all_goals exact ⟨n, hO⟩
theorem law_2 (hL : L ≤ 3072) (hi : i + 6 ≤ L) (hI : Inv M N) (kk : ∀ M' N', Inv M' N' → zW (L, xs) 232 1377 [(0, .ref 3001), (1, .ref 0), (2, .ref 44), (3, .int (nI i))] [] M' N' Q) : zW (L, xs) 232 290 [(0, .ref 3001), (1, .ref 0), (2, .ref 44), (3, .int (nI i))] [] M N Q := by
  obtain ⟨S, n, F, b, K, tb, tl, B, hI⟩ := hI
  have hO := hI.2.2.1
  refine zs rfl rfl rfl ?_
  refine zs rfl rfl rfl ?_
  refine zs rfl rfl rfl ?_
  refine zs rfl rfl rfl ?_
  refine zs rfl rfl rfl ?_
  refine zto rfl (nI_add i 1) ?_
  refine zal rfl rfl rfl (by omega) (by omega) ?_
  refine zs rfl rfl rfl ?_
  refine zs rfl rfl rfl ?_
  refine zs rfl rfl rfl ?_
  refine zs rfl rfl rfl ?_
  refine zto rfl (nI_add i 2) ?_
  refine zal rfl rfl rfl (by omega) (by omega) ?_
  refine zclQ rfl rfl (c_ship hI.1 hO (xs (i + 1)) (xs (i + 2))) ?_
  intro v1 M1 N1 h1
  have hM1 := inv_mid hI h1.2.2.1 (by decide) (by decide)
  have e1 := h1.1
  subst e1
  refine zs rfl rfl rfl ?_
  refine zs rfl rfl rfl ?_
  refine zs rfl rfl rfl ?_
  refine zs rfl rfl rfl ?_
  refine zs rfl rfl rfl ?_
  refine zto rfl (nI_add i 1) ?_
  refine zal rfl rfl rfl (by omega) (by omega) ?_
  refine zs rfl rfl rfl ?_
  refine zs rfl rfl rfl ?_
  refine zs rfl rfl rfl ?_
  refine zs rfl rfl rfl ?_
  refine zto rfl (nI_add i 2) ?_
  refine zal rfl rfl rfl (by omega) (by omega) ?_
  refine zclQ rfl rfl (m_ship hM1 hO (xs (i + 1)) (xs (i + 2))) ?_
  intro v2 M2 N2 h2
  have e2 := h2.1
  subst e2
  refine zbt rfl rfl rfl rfl ?_
  exact kk M2 N2 (inv_road hI h1 h2 (ok_ship hO _ _))
theorem law_3 (hL : L ≤ 3072) (hi : i + 6 ≤ L) (hI : Inv M N) (kk : ∀ M' N', Inv M' N' → zW (L, xs) 232 1377 [(0, .ref 3001), (1, .ref 0), (2, .ref 44), (3, .int (nI i))] [] M' N' Q) : zW (L, xs) 232 323 [(0, .ref 3001), (1, .ref 0), (2, .ref 44), (3, .int (nI i))] [] M N Q := by
  obtain ⟨S, n, F, b, K, tb, tl, B, hI⟩ := hI
  have hO := hI.2.2.1
  refine zs rfl rfl rfl ?_
  refine zs rfl rfl rfl ?_
  refine zs rfl rfl rfl ?_
  refine zs rfl rfl rfl ?_
  refine zs rfl rfl rfl ?_
  refine zto rfl (nI_add i 1) ?_
  refine zal rfl rfl rfl (by omega) (by omega) ?_
  refine zs rfl rfl rfl ?_
  refine zs rfl rfl rfl ?_
  refine zs rfl rfl rfl ?_
  refine zs rfl rfl rfl ?_
  refine zto rfl (nI_add i 2) ?_
  refine zal rfl rfl rfl (by omega) (by omega) ?_
  refine zclQ rfl rfl (c_of hI.1 hO (xs (i + 1)) (xs (i + 2))) ?_
  intro v1 M1 N1 h1
  have hM1 := inv_mid hI h1.2.2.1 (by decide) (by decide)
  have e1 := h1.1
  subst e1
  refine zs rfl rfl rfl ?_
  refine zs rfl rfl rfl ?_
  refine zs rfl rfl rfl ?_
  refine zs rfl rfl rfl ?_
  refine zs rfl rfl rfl ?_
  refine zto rfl (nI_add i 1) ?_
  refine zal rfl rfl rfl (by omega) (by omega) ?_
  refine zs rfl rfl rfl ?_
  refine zs rfl rfl rfl ?_
  refine zs rfl rfl rfl ?_
  refine zs rfl rfl rfl ?_
  refine zto rfl (nI_add i 2) ?_
  refine zal rfl rfl rfl (by omega) (by omega) ?_
  refine zclQ rfl rfl (m_of hM1 hO (xs (i + 1)) (xs (i + 2))) ?_
  intro v2 M2 N2 h2
  have e2 := h2.1
  subst e2
  refine zbt rfl rfl rfl rfl ?_
  exact kk M2 N2 (inv_road hI h1 h2 (⟨n, by rw [of_S]; exact hO⟩))
theorem law_4 (hL : L ≤ 3072) (hi : i + 6 ≤ L) (hI : Inv M N) (kk : ∀ M' N', Inv M' N' → zW (L, xs) 232 1377 [(0, .ref 3001), (1, .ref 0), (2, .ref 44), (3, .int (nI i))] [] M' N' Q) : zW (L, xs) 232 356 [(0, .ref 3001), (1, .ref 0), (2, .ref 44), (3, .int (nI i))] [] M N Q := by
  obtain ⟨S, n, F, b, K, tb, tl, B, hI⟩ := hI
  have hO := hI.2.2.1
  refine zs rfl rfl rfl ?_
  refine zs rfl rfl rfl ?_
  refine zs rfl rfl rfl ?_
  refine zs rfl rfl rfl ?_
  refine zs rfl rfl rfl ?_
  refine zto rfl (nI_add i 1) ?_
  refine zal rfl rfl rfl (by omega) (by omega) ?_
  refine zs rfl rfl rfl ?_
  refine zs rfl rfl rfl ?_
  refine zs rfl rfl rfl ?_
  refine zs rfl rfl rfl ?_
  refine zto rfl (nI_add i 2) ?_
  refine zal rfl rfl rfl (by omega) (by omega) ?_
  refine zs rfl rfl rfl ?_
  refine zs rfl rfl rfl ?_
  refine zs rfl rfl rfl ?_
  refine zs rfl rfl rfl ?_
  refine zto rfl (nI_add i 3) ?_
  refine zal rfl rfl rfl (by omega) (by omega) ?_
  refine zclQ rfl rfl (c_set hI.1 hO (xs (i + 1)) (xs (i + 2)) (xs (i + 3))) ?_
  intro v1 M1 N1 h1
  have hM1 := inv_mid hI h1.2.2.1 (by decide) (by decide)
  have e1 := h1.1
  subst e1
  refine zs rfl rfl rfl ?_
  refine zs rfl rfl rfl ?_
  refine zs rfl rfl rfl ?_
  refine zs rfl rfl rfl ?_
  refine zs rfl rfl rfl ?_
  refine zto rfl (nI_add i 1) ?_
  refine zal rfl rfl rfl (by omega) (by omega) ?_
  refine zs rfl rfl rfl ?_
  refine zs rfl rfl rfl ?_
  refine zs rfl rfl rfl ?_
  refine zs rfl rfl rfl ?_
  refine zto rfl (nI_add i 2) ?_
  refine zal rfl rfl rfl (by omega) (by omega) ?_
  refine zs rfl rfl rfl ?_
  refine zs rfl rfl rfl ?_
  refine zs rfl rfl rfl ?_
  refine zs rfl rfl rfl ?_
  refine zto rfl (nI_add i 3) ?_
  refine zal rfl rfl rfl (by omega) (by omega) ?_
  refine zclQ rfl rfl (m_set hM1 hO (xs (i + 1)) (xs (i + 2)) (xs (i + 3))) ?_
  intro v2 M2 N2 h2
  have e2 := h2.1
  subst e2
  refine zbt rfl rfl rfl rfl ?_
  exact kk M2 N2 (inv_road hI h1 h2 (ok_set hO _ _ _))
theorem law_5 (hL : L ≤ 3072) (hi : i + 6 ≤ L) (hI : Inv M N) (kk : ∀ M' N', Inv M' N' → zW (L, xs) 232 1377 [(0, .ref 3001), (1, .ref 0), (2, .ref 44), (3, .int (nI i))] [] M' N' Q) : zW (L, xs) 232 399 [(0, .ref 3001), (1, .ref 0), (2, .ref 44), (3, .int (nI i))] [] M N Q := by
  obtain ⟨S, n, F, b, K, tb, tl, B, hI⟩ := hI
  have hO := hI.2.2.1
  refine zs rfl rfl rfl ?_
  refine zs rfl rfl rfl ?_
  refine zs rfl rfl rfl ?_
  refine zs rfl rfl rfl ?_
  refine zs rfl rfl rfl ?_
  refine zto rfl (nI_add i 1) ?_
  refine zal rfl rfl rfl (by omega) (by omega) ?_
  refine zs rfl rfl rfl ?_
  refine zs rfl rfl rfl ?_
  refine zs rfl rfl rfl ?_
  refine zs rfl rfl rfl ?_
  refine zto rfl (nI_add i 2) ?_
  refine zal rfl rfl rfl (by omega) (by omega) ?_
  refine zclQ rfl rfl (c_hang hI.1 hO (xs (i + 1)) (xs (i + 2))) ?_
  intro v1 M1 N1 h1
  have hM1 := inv_mid hI h1.2.2.1 (by decide) (by decide)
  have e1 := h1.1
  subst e1
  refine zs rfl rfl rfl ?_
  refine zs rfl rfl rfl ?_
  refine zs rfl rfl rfl ?_
  refine zs rfl rfl rfl ?_
  refine zs rfl rfl rfl ?_
  refine zto rfl (nI_add i 1) ?_
  refine zal rfl rfl rfl (by omega) (by omega) ?_
  refine zs rfl rfl rfl ?_
  refine zs rfl rfl rfl ?_
  refine zs rfl rfl rfl ?_
  refine zs rfl rfl rfl ?_
  refine zto rfl (nI_add i 2) ?_
  refine zal rfl rfl rfl (by omega) (by omega) ?_
  refine zclQ rfl rfl (m_hang hM1 hO (xs (i + 1)) (xs (i + 2))) ?_
  intro v2 M2 N2 h2
  have e2 := h2.1
  subst e2
  refine zbt rfl rfl rfl rfl ?_
  exact kk M2 N2 (inv_road hI h1 h2 (ok_hang hO _ _))
theorem law_6 (hL : L ≤ 3072) (hi : i + 6 ≤ L) (hI : Inv M N) (kk : ∀ M' N', Inv M' N' → zW (L, xs) 232 1377 [(0, .ref 3001), (1, .ref 0), (2, .ref 44), (3, .int (nI i))] [] M' N' Q) : zW (L, xs) 232 432 [(0, .ref 3001), (1, .ref 0), (2, .ref 44), (3, .int (nI i))] [] M N Q := by
  obtain ⟨S, n, F, b, K, tb, tl, B, hI⟩ := hI
  have hO := hI.2.2.1
  refine zs rfl rfl rfl ?_
  refine zs rfl rfl rfl ?_
  refine zs rfl rfl rfl ?_
  refine zs rfl rfl rfl ?_
  refine zs rfl rfl rfl ?_
  refine zto rfl (nI_add i 1) ?_
  refine zal rfl rfl rfl (by omega) (by omega) ?_
  refine zs rfl rfl rfl ?_
  refine zs rfl rfl rfl ?_
  refine zs rfl rfl rfl ?_
  refine zs rfl rfl rfl ?_
  refine zto rfl (nI_add i 2) ?_
  refine zal rfl rfl rfl (by omega) (by omega) ?_
  refine zclQ rfl rfl (c_turn hI.1 hO (xs (i + 1)) (xs (i + 2))) ?_
  intro v1 M1 N1 h1
  have hM1 := inv_mid hI h1.2.2.1 (by decide) (by decide)
  have e1 := h1.1
  subst e1
  refine zs rfl rfl rfl ?_
  refine zs rfl rfl rfl ?_
  refine zs rfl rfl rfl ?_
  refine zs rfl rfl rfl ?_
  refine zs rfl rfl rfl ?_
  refine zto rfl (nI_add i 1) ?_
  refine zal rfl rfl rfl (by omega) (by omega) ?_
  refine zs rfl rfl rfl ?_
  refine zs rfl rfl rfl ?_
  refine zs rfl rfl rfl ?_
  refine zs rfl rfl rfl ?_
  refine zto rfl (nI_add i 2) ?_
  refine zal rfl rfl rfl (by omega) (by omega) ?_
  refine zclQ rfl rfl (m_turn hM1 hO (xs (i + 1)) (xs (i + 2))) ?_
  intro v2 M2 N2 h2
  have e2 := h2.1
  subst e2
  refine zbt rfl rfl rfl rfl ?_
  exact kk M2 N2 (inv_road hI h1 h2 (ok_turn hO _ _))
theorem law_7 (hL : L ≤ 3072) (hi : i + 6 ≤ L) (hI : Inv M N) (kk : ∀ M' N', Inv M' N' → zW (L, xs) 232 1377 [(0, .ref 3001), (1, .ref 0), (2, .ref 44), (3, .int (nI i))] [] M' N' Q) : zW (L, xs) 232 465 [(0, .ref 3001), (1, .ref 0), (2, .ref 44), (3, .int (nI i))] [] M N Q := by
  obtain ⟨S, n, F, b, K, tb, tl, B, hI⟩ := hI
  have hO := hI.2.2.1
  refine zs rfl rfl rfl ?_
  refine zs rfl rfl rfl ?_
  refine zs rfl rfl rfl ?_
  refine zs rfl rfl rfl ?_
  refine zs rfl rfl rfl ?_
  refine zto rfl (nI_add i 1) ?_
  refine zal rfl rfl rfl (by omega) (by omega) ?_
  refine zs rfl rfl rfl ?_
  refine zs rfl rfl rfl ?_
  refine zs rfl rfl rfl ?_
  refine zs rfl rfl rfl ?_
  refine zto rfl (nI_add i 2) ?_
  refine zal rfl rfl rfl (by omega) (by omega) ?_
  refine zclQ rfl rfl (c_as hI.1 hO (xs (i + 1)) (xs (i + 2))) ?_
  intro v1 M1 N1 h1
  have hM1 := inv_mid hI h1.2.2.1 (by decide) (by decide)
  have e1 := h1.1
  subst e1
  refine zs rfl rfl rfl ?_
  refine zs rfl rfl rfl ?_
  refine zs rfl rfl rfl ?_
  refine zs rfl rfl rfl ?_
  refine zs rfl rfl rfl ?_
  refine zto rfl (nI_add i 1) ?_
  refine zal rfl rfl rfl (by omega) (by omega) ?_
  refine zs rfl rfl rfl ?_
  refine zs rfl rfl rfl ?_
  refine zs rfl rfl rfl ?_
  refine zs rfl rfl rfl ?_
  refine zto rfl (nI_add i 2) ?_
  refine zal rfl rfl rfl (by omega) (by omega) ?_
  refine zclQ rfl rfl (m_as hM1 hO (xs (i + 1)) (xs (i + 2))) ?_
  intro v2 M2 N2 h2
  have e2 := h2.1
  subst e2
  refine zbt rfl rfl rfl rfl ?_
  refine kk M2 N2 (inv_road hI h1 h2 ?_)
  unfold r_as
  repeat' split
  all_goals exact ⟨n, hO⟩
theorem law_8 (hL : L ≤ 3072) (hi : i + 6 ≤ L) (hI : Inv M N) (kk : ∀ M' N', Inv M' N' → zW (L, xs) 232 1377 [(0, .ref 3001), (1, .ref 0), (2, .ref 44), (3, .int (nI i))] [] M' N' Q) : zW (L, xs) 232 498 [(0, .ref 3001), (1, .ref 0), (2, .ref 44), (3, .int (nI i))] [] M N Q := by
  obtain ⟨S, n, F, b, K, tb, tl, B, hI⟩ := hI
  have hO := hI.2.2.1
  refine zs rfl rfl rfl ?_
  refine zs rfl rfl rfl ?_
  refine zs rfl rfl rfl ?_
  refine zs rfl rfl rfl ?_
  refine zs rfl rfl rfl ?_
  refine zto rfl (nI_add i 1) ?_
  refine zal rfl rfl rfl (by omega) (by omega) ?_
  refine zs rfl rfl rfl ?_
  refine zs rfl rfl rfl ?_
  refine zs rfl rfl rfl ?_
  refine zs rfl rfl rfl ?_
  refine zto rfl (nI_add i 2) ?_
  refine zal rfl rfl rfl (by omega) (by omega) ?_
  refine zclQ rfl rfl (c_odds hI.1 (xs (i + 1)) (xs (i + 2))) ?_
  intro v1 M1 N1 h1
  have hM1 := inv_mid hI h1.2.2.1 (by decide) (by decide)
  have e1 := h1.1
  subst e1
  refine zs rfl rfl rfl ?_
  refine zs rfl rfl rfl ?_
  refine zs rfl rfl rfl ?_
  refine zs rfl rfl rfl ?_
  refine zs rfl rfl rfl ?_
  refine zto rfl (nI_add i 1) ?_
  refine zal rfl rfl rfl (by omega) (by omega) ?_
  refine zs rfl rfl rfl ?_
  refine zs rfl rfl rfl ?_
  refine zs rfl rfl rfl ?_
  refine zs rfl rfl rfl ?_
  refine zto rfl (nI_add i 2) ?_
  refine zal rfl rfl rfl (by omega) (by omega) ?_
  refine zclQ rfl rfl (m_odds hM1 (xs (i + 1)) (xs (i + 2))) ?_
  intro v2 M2 N2 h2
  have e2 := h2.1
  subst e2
  refine zbt rfl rfl rfl rfl ?_
  exact kk M2 N2 (inv_road hI h1 h2 (ok_odds hO _ _))
theorem law_9 (hL : L ≤ 3072) (hi : i + 6 ≤ L) (hI : Inv M N) (kk : ∀ M' N', Inv M' N' → zW (L, xs) 232 1377 [(0, .ref 3001), (1, .ref 0), (2, .ref 44), (3, .int (nI i))] [] M' N' Q) : zW (L, xs) 232 531 [(0, .ref 3001), (1, .ref 0), (2, .ref 44), (3, .int (nI i))] [] M N Q := by
  obtain ⟨S, n, F, b, K, tb, tl, B, hI⟩ := hI
  have hO := hI.2.2.1
  refine zs rfl rfl rfl ?_
  refine zs rfl rfl rfl ?_
  refine zs rfl rfl rfl ?_
  refine zs rfl rfl rfl ?_
  refine zs rfl rfl rfl ?_
  refine zto rfl (nI_add i 1) ?_
  refine zal rfl rfl rfl (by omega) (by omega) ?_
  refine zclQ rfl rfl (c_hour hI.1 hO (xs (i + 1))) ?_
  intro v1 M1 N1 h1
  have hM1 := inv_mid hI h1.2.2.1 (by decide) (by decide)
  have e1 := h1.1
  subst e1
  refine zs rfl rfl rfl ?_
  refine zs rfl rfl rfl ?_
  refine zs rfl rfl rfl ?_
  refine zs rfl rfl rfl ?_
  refine zs rfl rfl rfl ?_
  refine zto rfl (nI_add i 1) ?_
  refine zal rfl rfl rfl (by omega) (by omega) ?_
  refine zclQ rfl rfl (m_hour hM1 hO (xs (i + 1))) ?_
  intro v2 M2 N2 h2
  have e2 := h2.1
  subst e2
  refine zbt rfl rfl rfl rfl ?_
  exact kk M2 N2 (inv_road hI h1 h2 (ok_hours hO _ _))
theorem law_10 (hL : L ≤ 3072) (hi : i + 6 ≤ L) (hI : Inv M N) (kk : ∀ M' N', Inv M' N' → zW (L, xs) 232 1377 [(0, .ref 3001), (1, .ref 0), (2, .ref 44), (3, .int (nI i))] [] M' N' Q) : zW (L, xs) 232 554 [(0, .ref 3001), (1, .ref 0), (2, .ref 44), (3, .int (nI i))] [] M N Q := by
  obtain ⟨S, n, F, b, K, tb, tl, B, hI⟩ := hI
  have hO := hI.2.2.1
  refine zs rfl rfl rfl ?_
  refine zs rfl rfl rfl ?_
  refine zs rfl rfl rfl ?_
  refine zs rfl rfl rfl ?_
  refine zs rfl rfl rfl ?_
  refine zto rfl (nI_add i 1) ?_
  refine zal rfl rfl rfl (by omega) (by omega) ?_
  refine zs rfl rfl rfl ?_
  refine zs rfl rfl rfl ?_
  refine zs rfl rfl rfl ?_
  refine zs rfl rfl rfl ?_
  refine zto rfl (nI_add i 2) ?_
  refine zal rfl rfl rfl (by omega) (by omega) ?_
  refine zclQ rfl rfl (c_hours hI.1 hO (xs (i + 1)) (xs (i + 2))) ?_
  intro v1 M1 N1 h1
  have hM1 := inv_mid hI h1.2.2.1 (by decide) (by decide)
  have e1 := h1.1
  subst e1
  refine zs rfl rfl rfl ?_
  refine zs rfl rfl rfl ?_
  refine zs rfl rfl rfl ?_
  refine zs rfl rfl rfl ?_
  refine zs rfl rfl rfl ?_
  refine zto rfl (nI_add i 1) ?_
  refine zal rfl rfl rfl (by omega) (by omega) ?_
  refine zs rfl rfl rfl ?_
  refine zs rfl rfl rfl ?_
  refine zs rfl rfl rfl ?_
  refine zs rfl rfl rfl ?_
  refine zto rfl (nI_add i 2) ?_
  refine zal rfl rfl rfl (by omega) (by omega) ?_
  refine zclQ rfl rfl (m_hours hM1 hO (xs (i + 1)) (xs (i + 2))) ?_
  intro v2 M2 N2 h2
  have e2 := h2.1
  subst e2
  refine zbt rfl rfl rfl rfl ?_
  exact kk M2 N2 (inv_road hI h1 h2 (ok_hours hO _ _))
theorem law_11 (hL : L ≤ 3072) (hi : i + 6 ≤ L) (hI : Inv M N) (kk : ∀ M' N', Inv M' N' → zW (L, xs) 232 1377 [(0, .ref 3001), (1, .ref 0), (2, .ref 44), (3, .int (nI i))] [] M' N' Q) : zW (L, xs) 232 587 [(0, .ref 3001), (1, .ref 0), (2, .ref 44), (3, .int (nI i))] [] M N Q := by
  obtain ⟨S, n, F, b, K, tb, tl, B, hI⟩ := hI
  have hO := hI.2.2.1
  refine zs rfl rfl rfl ?_
  refine zclQ rfl rfl (c_adrift hI.1 hO ) ?_
  intro v1 M1 N1 h1
  have hM1 := inv_mid hI h1.2.2.1 (by decide) (by decide)
  have e1 := h1.1
  subst e1
  refine zs rfl rfl rfl ?_
  refine zclQ rfl rfl (m_adrift hM1 hO ) ?_
  intro v2 M2 N2 h2
  have e2 := h2.1
  subst e2
  refine zbt rfl rfl rfl rfl ?_
  exact kk M2 N2 (inv_road hI h1 h2 (⟨n, hO⟩))
theorem law_12 (hL : L ≤ 3072) (hi : i + 6 ≤ L) (hI : Inv M N) (kk : ∀ M' N', Inv M' N' → zW (L, xs) 232 1377 [(0, .ref 3001), (1, .ref 0), (2, .ref 44), (3, .int (nI i))] [] M' N' Q) : zW (L, xs) 232 600 [(0, .ref 3001), (1, .ref 0), (2, .ref 44), (3, .int (nI i))] [] M N Q := by
  obtain ⟨S, n, F, b, K, tb, tl, B, hI⟩ := hI
  have hO := hI.2.2.1
  refine zs rfl rfl rfl ?_
  refine zclQ rfl rfl (c_lost hI.1 hO ) ?_
  intro v1 M1 N1 h1
  have hM1 := inv_mid hI h1.2.2.1 (by decide) (by decide)
  have e1 := h1.1
  subst e1
  refine zs rfl rfl rfl ?_
  refine zclQ rfl rfl (m_lost hM1 hO ) ?_
  intro v2 M2 N2 h2
  have e2 := h2.1
  subst e2
  refine zbt rfl rfl rfl rfl ?_
  exact kk M2 N2 (inv_road hI h1 h2 (⟨n, hO⟩))
theorem law_13 (hL : L ≤ 3072) (hi : i + 6 ≤ L) (hI : Inv M N) (kk : ∀ M' N', Inv M' N' → zW (L, xs) 232 1377 [(0, .ref 3001), (1, .ref 0), (2, .ref 44), (3, .int (nI i))] [] M' N' Q) : zW (L, xs) 232 613 [(0, .ref 3001), (1, .ref 0), (2, .ref 44), (3, .int (nI i))] [] M N Q := by
  obtain ⟨S, n, F, b, K, tb, tl, B, hI⟩ := hI
  have hO := hI.2.2.1
  refine zs rfl rfl rfl ?_
  refine zs rfl rfl rfl ?_
  refine zs rfl rfl rfl ?_
  refine zs rfl rfl rfl ?_
  refine zs rfl rfl rfl ?_
  refine zto rfl (nI_add i 1) ?_
  refine zal rfl rfl rfl (by omega) (by omega) ?_
  refine zclQ rfl rfl (c_now hI.1 hO (xs (i + 1))) ?_
  intro v1 M1 N1 h1
  have hM1 := inv_mid hI h1.2.2.1 (by decide) (by decide)
  have e1 := h1.1
  subst e1
  refine zs rfl rfl rfl ?_
  refine zs rfl rfl rfl ?_
  refine zs rfl rfl rfl ?_
  refine zs rfl rfl rfl ?_
  refine zs rfl rfl rfl ?_
  refine zto rfl (nI_add i 1) ?_
  refine zal rfl rfl rfl (by omega) (by omega) ?_
  refine zclQ rfl rfl (m_now hM1 hO (xs (i + 1))) ?_
  intro v2 M2 N2 h2
  have e2 := h2.1
  subst e2
  refine zbt rfl rfl rfl rfl ?_
  refine kk M2 N2 (inv_road hI h1 h2 ?_)
  unfold r_now
  repeat' split
  all_goals exact ⟨n, hO⟩
theorem law_14 (hL : L ≤ 3072) (hi : i + 6 ≤ L) (hI : Inv M N) (kk : ∀ M' N', Inv M' N' → zW (L, xs) 232 1377 [(0, .ref 3001), (1, .ref 0), (2, .ref 44), (3, .int (nI i))] [] M' N' Q) : zW (L, xs) 232 636 [(0, .ref 3001), (1, .ref 0), (2, .ref 44), (3, .int (nI i))] [] M N Q := by
  obtain ⟨S, n, F, b, K, tb, tl, B, hI⟩ := hI
  have hO := hI.2.2.1
  refine zs rfl rfl rfl ?_
  refine zs rfl rfl rfl ?_
  refine zs rfl rfl rfl ?_
  refine zs rfl rfl rfl ?_
  refine zs rfl rfl rfl ?_
  refine zto rfl (nI_add i 1) ?_
  refine zal rfl rfl rfl (by omega) (by omega) ?_
  refine zclQ rfl rfl (c_would hI.1 hO (xs (i + 1))) ?_
  intro v1 M1 N1 h1
  have hM1 := inv_mid hI h1.2.2.1 (by decide) (by decide)
  have e1 := h1.1
  subst e1
  refine zs rfl rfl rfl ?_
  refine zs rfl rfl rfl ?_
  refine zs rfl rfl rfl ?_
  refine zs rfl rfl rfl ?_
  refine zs rfl rfl rfl ?_
  refine zto rfl (nI_add i 1) ?_
  refine zal rfl rfl rfl (by omega) (by omega) ?_
  refine zclQ rfl rfl (m_would hM1 hO (xs (i + 1))) ?_
  intro v2 M2 N2 h2
  have e2 := h2.1
  subst e2
  refine zbt rfl rfl rfl rfl ?_
  refine kk M2 N2 (inv_road hI h1 h2 ?_)
  unfold r_would
  repeat' split
  all_goals exact ⟨n, hO⟩
theorem law_15 (hL : L ≤ 3072) (hi : i + 6 ≤ L) (hI : Inv M N) (kk : ∀ M' N', Inv M' N' → zW (L, xs) 232 1377 [(0, .ref 3001), (1, .ref 0), (2, .ref 44), (3, .int (nI i))] [] M' N' Q) : zW (L, xs) 232 659 [(0, .ref 3001), (1, .ref 0), (2, .ref 44), (3, .int (nI i))] [] M N Q := by
  obtain ⟨S, n, F, b, K, tb, tl, B, hI⟩ := hI
  have hO := hI.2.2.1
  refine zs rfl rfl rfl ?_
  refine zclQ rfl rfl (c_holds hI.1 hO ) ?_
  intro v1 M1 N1 h1
  have hM1 := inv_mid hI h1.2.2.1 (by decide) (by decide)
  have e1 := h1.1
  subst e1
  refine zs rfl rfl rfl ?_
  refine zclQ rfl rfl (m_holds hM1 hO ) ?_
  intro v2 M2 N2 h2
  have e2 := h2.1
  subst e2
  refine zbt rfl rfl rfl rfl ?_
  refine kk M2 N2 (inv_road hI h1 h2 ?_)
  unfold r_holds
  repeat' split
  all_goals exact ⟨n, hO⟩
theorem law_16 (hL : L ≤ 3072) (hi : i + 6 ≤ L) (hI : Inv M N) (kk : ∀ M' N', Inv M' N' → zW (L, xs) 232 1377 [(0, .ref 3001), (1, .ref 0), (2, .ref 44), (3, .int (nI i))] [] M' N' Q) : zW (L, xs) 232 672 [(0, .ref 3001), (1, .ref 0), (2, .ref 44), (3, .int (nI i))] [] M N Q := by
  obtain ⟨S, n, F, b, K, tb, tl, B, hI⟩ := hI
  have hO := hI.2.2.1
  refine zs rfl rfl rfl ?_
  refine zs rfl rfl rfl ?_
  refine zs rfl rfl rfl ?_
  refine zs rfl rfl rfl ?_
  refine zs rfl rfl rfl ?_
  refine zto rfl (nI_add i 1) ?_
  refine zal rfl rfl rfl (by omega) (by omega) ?_
  refine zclQ rfl rfl (c_when hI.1 hO (xs (i + 1))) ?_
  intro v1 M1 N1 h1
  have hM1 := inv_mid hI h1.2.2.1 (by decide) (by decide)
  have e1 := h1.1
  subst e1
  refine zs rfl rfl rfl ?_
  refine zs rfl rfl rfl ?_
  refine zs rfl rfl rfl ?_
  refine zs rfl rfl rfl ?_
  refine zs rfl rfl rfl ?_
  refine zto rfl (nI_add i 1) ?_
  refine zal rfl rfl rfl (by omega) (by omega) ?_
  refine zclQ rfl rfl (m_when hM1 hO (xs (i + 1))) ?_
  intro v2 M2 N2 h2
  have e2 := h2.1
  subst e2
  refine zbt rfl rfl rfl rfl ?_
  refine kk M2 N2 (inv_road hI h1 h2 ?_)
  unfold r_when
  repeat' split
  all_goals exact ⟨n, hO⟩
theorem law_17 (hL : L ≤ 3072) (hi : i + 6 ≤ L) (hI : Inv M N) (kk : ∀ M' N', Inv M' N' → zW (L, xs) 232 1377 [(0, .ref 3001), (1, .ref 0), (2, .ref 44), (3, .int (nI i))] [] M' N' Q) : zW (L, xs) 232 695 [(0, .ref 3001), (1, .ref 0), (2, .ref 44), (3, .int (nI i))] [] M N Q := by
  obtain ⟨S, n, F, b, K, tb, tl, B, hI⟩ := hI
  have hO := hI.2.2.1
  refine zs rfl rfl rfl ?_
  refine zs rfl rfl rfl ?_
  refine zs rfl rfl rfl ?_
  refine zs rfl rfl rfl ?_
  refine zs rfl rfl rfl ?_
  refine zto rfl (nI_add i 1) ?_
  refine zal rfl rfl rfl (by omega) (by omega) ?_
  refine zclQ rfl rfl (c_who hI.1 hO (xs (i + 1))) ?_
  intro v1 M1 N1 h1
  have hM1 := inv_mid hI h1.2.2.1 (by decide) (by decide)
  have e1 := h1.1
  subst e1
  refine zs rfl rfl rfl ?_
  refine zs rfl rfl rfl ?_
  refine zs rfl rfl rfl ?_
  refine zs rfl rfl rfl ?_
  refine zs rfl rfl rfl ?_
  refine zto rfl (nI_add i 1) ?_
  refine zal rfl rfl rfl (by omega) (by omega) ?_
  refine zclQ rfl rfl (m_who hM1 hO (xs (i + 1))) ?_
  intro v2 M2 N2 h2
  have e2 := h2.1
  subst e2
  refine zbt rfl rfl rfl rfl ?_
  refine kk M2 N2 (inv_road hI h1 h2 ?_)
  unfold r_who r_fst
  repeat' split
  all_goals exact ⟨n, hO⟩
theorem law_18 (hL : L ≤ 3072) (hi : i + 6 ≤ L) (hI : Inv M N) (kk : ∀ M' N', Inv M' N' → zW (L, xs) 232 1377 [(0, .ref 3001), (1, .ref 0), (2, .ref 44), (3, .int (nI i))] [] M' N' Q) : zW (L, xs) 232 718 [(0, .ref 3001), (1, .ref 0), (2, .ref 44), (3, .int (nI i))] [] M N Q := by
  obtain ⟨S, n, F, b, K, tb, tl, B, hI⟩ := hI
  have hO := hI.2.2.1
  refine zs rfl rfl rfl ?_
  refine zclQ rfl rfl (c_sure hI.1 hO ) ?_
  intro v1 M1 N1 h1
  have hM1 := inv_mid hI h1.2.2.1 (by decide) (by decide)
  have e1 := h1.1
  subst e1
  refine zs rfl rfl rfl ?_
  refine zclQ rfl rfl (m_sure hM1 hO ) ?_
  intro v2 M2 N2 h2
  have e2 := h2.1
  subst e2
  refine zbt rfl rfl rfl rfl ?_
  exact kk M2 N2 (inv_road hI h1 h2 (⟨n, hO⟩))
theorem law_19 (hL : L ≤ 3072) (hi : i + 6 ≤ L) (hI : Inv M N) (kk : ∀ M' N', Inv M' N' → zW (L, xs) 232 1377 [(0, .ref 3001), (1, .ref 0), (2, .ref 44), (3, .int (nI i))] [] M' N' Q) : zW (L, xs) 232 731 [(0, .ref 3001), (1, .ref 0), (2, .ref 44), (3, .int (nI i))] [] M N Q := by
  obtain ⟨S, n, F, b, K, tb, tl, B, hI⟩ := hI
  have hO := hI.2.2.1
  refine zs rfl rfl rfl ?_
  refine zclQ rfl rfl (c_free hI.1 hO ) ?_
  intro v1 M1 N1 h1
  have hM1 := inv_mid hI h1.2.2.1 (by decide) (by decide)
  have e1 := h1.1
  subst e1
  refine zs rfl rfl rfl ?_
  refine zclQ rfl rfl (m_free hM1 hO ) ?_
  intro v2 M2 N2 h2
  have e2 := h2.1
  subst e2
  refine zbt rfl rfl rfl rfl ?_
  exact kk M2 N2 (inv_road hI h1 h2 (⟨n, hO⟩))
theorem law_20 (hL : L ≤ 3072) (hi : i + 6 ≤ L) (hI : Inv M N) (kk : ∀ M' N', Inv M' N' → zW (L, xs) 232 1377 [(0, .ref 3001), (1, .ref 0), (2, .ref 44), (3, .int (nI i))] [] M' N' Q) : zW (L, xs) 232 744 [(0, .ref 3001), (1, .ref 0), (2, .ref 44), (3, .int (nI i))] [] M N Q := by
  obtain ⟨S, n, F, b, K, tb, tl, B, hI⟩ := hI
  have hO := hI.2.2.1
  refine zs rfl rfl rfl ?_
  refine zs rfl rfl rfl ?_
  refine zs rfl rfl rfl ?_
  refine zs rfl rfl rfl ?_
  refine zs rfl rfl rfl ?_
  refine zto rfl (nI_add i 1) ?_
  refine zal rfl rfl rfl (by omega) (by omega) ?_
  refine zclQ rfl rfl (c_ahead hI.1 hO (xs (i + 1))) ?_
  intro v1 M1 N1 h1
  have hM1 := inv_mid hI h1.2.2.1 (by decide) (by decide)
  have e1 := h1.1
  subst e1
  refine zs rfl rfl rfl ?_
  refine zs rfl rfl rfl ?_
  refine zs rfl rfl rfl ?_
  refine zs rfl rfl rfl ?_
  refine zs rfl rfl rfl ?_
  refine zto rfl (nI_add i 1) ?_
  refine zal rfl rfl rfl (by omega) (by omega) ?_
  refine zclQ rfl rfl (m_ahead hM1 hO (xs (i + 1))) ?_
  intro v2 M2 N2 h2
  have e2 := h2.1
  subst e2
  refine zbt rfl rfl rfl rfl ?_
  refine kk M2 N2 (inv_road hI h1 h2 ?_)
  unfold r_ahead
  repeat' split
  all_goals exact ⟨n, hO⟩
theorem law_21 (hL : L ≤ 3072) (hi : i + 6 ≤ L) (hI : Inv M N) (kk : ∀ M' N', Inv M' N' → zW (L, xs) 232 1377 [(0, .ref 3001), (1, .ref 0), (2, .ref 44), (3, .int (nI i))] [] M' N' Q) : zW (L, xs) 232 767 [(0, .ref 3001), (1, .ref 0), (2, .ref 44), (3, .int (nI i))] [] M N Q := by
  obtain ⟨S, n, F, b, K, tb, tl, B, hI⟩ := hI
  have hO := hI.2.2.1
  refine zs rfl rfl rfl ?_
  refine zs rfl rfl rfl ?_
  refine zs rfl rfl rfl ?_
  refine zs rfl rfl rfl ?_
  refine zs rfl rfl rfl ?_
  refine zto rfl (nI_add i 1) ?_
  refine zal rfl rfl rfl (by omega) (by omega) ?_
  refine zs rfl rfl rfl ?_
  refine zs rfl rfl rfl ?_
  refine zs rfl rfl rfl ?_
  refine zs rfl rfl rfl ?_
  refine zto rfl (nI_add i 2) ?_
  refine zal rfl rfl rfl (by omega) (by omega) ?_
  refine zclQ rfl rfl (c_place hI.1 hO (xs (i + 1)) (xs (i + 2))) ?_
  intro v1 M1 N1 h1
  have hM1 := inv_mid hI h1.2.2.1 (by decide) (by decide)
  have e1 := h1.1
  subst e1
  refine zs rfl rfl rfl ?_
  refine zs rfl rfl rfl ?_
  refine zs rfl rfl rfl ?_
  refine zs rfl rfl rfl ?_
  refine zs rfl rfl rfl ?_
  refine zto rfl (nI_add i 1) ?_
  refine zal rfl rfl rfl (by omega) (by omega) ?_
  refine zs rfl rfl rfl ?_
  refine zs rfl rfl rfl ?_
  refine zs rfl rfl rfl ?_
  refine zs rfl rfl rfl ?_
  refine zto rfl (nI_add i 2) ?_
  refine zal rfl rfl rfl (by omega) (by omega) ?_
  refine zclQ rfl rfl (m_place hM1 hO (xs (i + 1)) (xs (i + 2))) ?_
  intro v2 M2 N2 h2
  have e2 := h2.1
  subst e2
  refine zbt rfl rfl rfl rfl ?_
  refine kk M2 N2 (inv_road hI h1 h2 ?_)
  unfold r_place r_ch
  repeat' split
  all_goals exact ⟨n, hO⟩
theorem law_22 (hL : L ≤ 3072) (hi : i + 6 ≤ L) (hI : Inv M N) (kk : ∀ M' N', Inv M' N' → zW (L, xs) 232 1377 [(0, .ref 3001), (1, .ref 0), (2, .ref 44), (3, .int (nI i))] [] M' N' Q) : zW (L, xs) 232 800 [(0, .ref 3001), (1, .ref 0), (2, .ref 44), (3, .int (nI i))] [] M N Q := by
  obtain ⟨S, n, F, b, K, tb, tl, B, hI⟩ := hI
  have hO := hI.2.2.1
  refine zs rfl rfl rfl ?_
  refine zs rfl rfl rfl ?_
  refine zs rfl rfl rfl ?_
  refine zs rfl rfl rfl ?_
  refine zs rfl rfl rfl ?_
  refine zto rfl (nI_add i 1) ?_
  refine zal rfl rfl rfl (by omega) (by omega) ?_
  refine zclQ rfl rfl (c_best hI.1 hO (xs (i + 1))) ?_
  intro v1 M1 N1 h1
  have hM1 := inv_mid hI h1.2.2.1 (by decide) (by decide)
  have e1 := h1.1
  subst e1
  refine zs rfl rfl rfl ?_
  refine zs rfl rfl rfl ?_
  refine zs rfl rfl rfl ?_
  refine zs rfl rfl rfl ?_
  refine zs rfl rfl rfl ?_
  refine zto rfl (nI_add i 1) ?_
  refine zal rfl rfl rfl (by omega) (by omega) ?_
  refine zclQ rfl rfl (m_best hM1 hO (xs (i + 1))) ?_
  intro v2 M2 N2 h2
  have e2 := h2.1
  subst e2
  refine zbt rfl rfl rfl rfl ?_
  refine kk M2 N2 (inv_road hI h1 h2 ?_)
  unfold r_best r_ch
  repeat' split
  all_goals exact ⟨n, hO⟩
theorem law_23 (hL : L ≤ 3072) (hi : i + 6 ≤ L) (hI : Inv M N) (kk : ∀ M' N', Inv M' N' → zW (L, xs) 232 1377 [(0, .ref 3001), (1, .ref 0), (2, .ref 44), (3, .int (nI i))] [] M' N' Q) : zW (L, xs) 232 823 [(0, .ref 3001), (1, .ref 0), (2, .ref 44), (3, .int (nI i))] [] M N Q := by
  obtain ⟨S, n, F, b, K, tb, tl, B, hI⟩ := hI
  have hO := hI.2.2.1
  refine zs rfl rfl rfl ?_
  refine zs rfl rfl rfl ?_
  refine zs rfl rfl rfl ?_
  refine zs rfl rfl rfl ?_
  refine zs rfl rfl rfl ?_
  refine zto rfl (nI_add i 1) ?_
  refine zal rfl rfl rfl (by omega) (by omega) ?_
  refine zclQ rfl rfl (c_cut hI.1 hO (xs (i + 1))) ?_
  intro v1 M1 N1 h1
  have hM1 := inv_mid hI h1.2.2.1 (by decide) (by decide)
  have e1 := h1.1
  subst e1
  refine zs rfl rfl rfl ?_
  refine zs rfl rfl rfl ?_
  refine zs rfl rfl rfl ?_
  refine zs rfl rfl rfl ?_
  refine zs rfl rfl rfl ?_
  refine zto rfl (nI_add i 1) ?_
  refine zal rfl rfl rfl (by omega) (by omega) ?_
  refine zclQ rfl rfl (m_cut hM1 hO (xs (i + 1))) ?_
  intro v2 M2 N2 h2
  have e2 := h2.1
  subst e2
  refine zbt rfl rfl rfl rfl ?_
  exact kk M2 N2 (inv_road hI h1 h2 (ok_cut hO _))
theorem law_24 (hL : L ≤ 3072) (hi : i + 6 ≤ L) (hI : Inv M N) (kk : ∀ M' N', Inv M' N' → zW (L, xs) 232 1377 [(0, .ref 3001), (1, .ref 0), (2, .ref 44), (3, .int (nI i))] [] M' N' Q) : zW (L, xs) 232 846 [(0, .ref 3001), (1, .ref 0), (2, .ref 44), (3, .int (nI i))] [] M N Q := by
  obtain ⟨S, n, F, b, K, tb, tl, B, hI⟩ := hI
  have hO := hI.2.2.1
  refine zs rfl rfl rfl ?_
  refine zs rfl rfl rfl ?_
  refine zs rfl rfl rfl ?_
  refine zs rfl rfl rfl ?_
  refine zs rfl rfl rfl ?_
  refine zto rfl (nI_add i 1) ?_
  refine zal rfl rfl rfl (by omega) (by omega) ?_
  refine zs rfl rfl rfl ?_
  refine zs rfl rfl rfl ?_
  refine zs rfl rfl rfl ?_
  refine zs rfl rfl rfl ?_
  refine zto rfl (nI_add i 2) ?_
  refine zal rfl rfl rfl (by omega) (by omega) ?_
  refine zclQ rfl rfl (c_canCut hI.1 hO (xs (i + 1)) (xs (i + 2))) ?_
  intro v1 M1 N1 h1
  have hM1 := inv_mid hI h1.2.2.1 (by decide) (by decide)
  have e1 := h1.1
  subst e1
  refine zs rfl rfl rfl ?_
  refine zs rfl rfl rfl ?_
  refine zs rfl rfl rfl ?_
  refine zs rfl rfl rfl ?_
  refine zs rfl rfl rfl ?_
  refine zto rfl (nI_add i 1) ?_
  refine zal rfl rfl rfl (by omega) (by omega) ?_
  refine zs rfl rfl rfl ?_
  refine zs rfl rfl rfl ?_
  refine zs rfl rfl rfl ?_
  refine zs rfl rfl rfl ?_
  refine zto rfl (nI_add i 2) ?_
  refine zal rfl rfl rfl (by omega) (by omega) ?_
  refine zclQ rfl rfl (m_canCut hM1 hO (xs (i + 1)) (xs (i + 2))) ?_
  intro v2 M2 N2 h2
  have e2 := h2.1
  subst e2
  refine zbt rfl rfl rfl rfl ?_
  refine kk M2 N2 (inv_road hI h1 h2 ?_)
  unfold r_canCut
  repeat' split
  all_goals exact ⟨n, hO⟩
theorem law_25 (hL : L ≤ 3072) (hi : i + 6 ≤ L) (hI : Inv M N) (kk : ∀ M' N', Inv M' N' → zW (L, xs) 232 1377 [(0, .ref 3001), (1, .ref 0), (2, .ref 44), (3, .int (nI i))] [] M' N' Q) : zW (L, xs) 232 879 [(0, .ref 3001), (1, .ref 0), (2, .ref 44), (3, .int (nI i))] [] M N Q := by
  obtain ⟨S, n, F, b, K, tb, tl, B, hI⟩ := hI
  have hO := hI.2.2.1
  refine zs rfl rfl rfl ?_
  refine zclQ rfl rfl (c_matters hI.1 hO ) ?_
  intro v1 M1 N1 h1
  have hM1 := inv_mid hI h1.2.2.1 (by decide) (by decide)
  have e1 := h1.1
  subst e1
  refine zs rfl rfl rfl ?_
  refine zclQ rfl rfl (m_matters hM1 hO ) ?_
  intro v2 M2 N2 h2
  have e2 := h2.1
  subst e2
  refine zbt rfl rfl rfl rfl ?_
  refine kk M2 N2 (inv_road hI h1 h2 ?_)
  unfold r_matters r_ch
  repeat' split
  all_goals exact ⟨n, hO⟩
theorem law_26 (hL : L ≤ 3072) (hi : i + 6 ≤ L) (hI : Inv M N) (kk : ∀ M' N', Inv M' N' → zW (L, xs) 232 1377 [(0, .ref 3001), (1, .ref 0), (2, .ref 44), (3, .int (nI i))] [] M' N' Q) : zW (L, xs) 232 892 [(0, .ref 3001), (1, .ref 0), (2, .ref 44), (3, .int (nI i))] [] M N Q := by
  obtain ⟨S, n, F, b, K, tb, tl, B, hI⟩ := hI
  have hO := hI.2.2.1
  refine zs rfl rfl rfl ?_
  refine zs rfl rfl rfl ?_
  refine zs rfl rfl rfl ?_
  refine zs rfl rfl rfl ?_
  refine zs rfl rfl rfl ?_
  refine zto rfl (nI_add i 1) ?_
  refine zal rfl rfl rfl (by omega) (by omega) ?_
  refine zs rfl rfl rfl ?_
  refine zs rfl rfl rfl ?_
  refine zs rfl rfl rfl ?_
  refine zs rfl rfl rfl ?_
  refine zto rfl (nI_add i 2) ?_
  refine zal rfl rfl rfl (by omega) (by omega) ?_
  refine zclQ rfl rfl (c_bears hI.1 hO (xs (i + 1)) (xs (i + 2))) ?_
  intro v1 M1 N1 h1
  have hM1 := inv_mid hI h1.2.2.1 (by decide) (by decide)
  have e1 := h1.1
  subst e1
  refine zs rfl rfl rfl ?_
  refine zs rfl rfl rfl ?_
  refine zs rfl rfl rfl ?_
  refine zs rfl rfl rfl ?_
  refine zs rfl rfl rfl ?_
  refine zto rfl (nI_add i 1) ?_
  refine zal rfl rfl rfl (by omega) (by omega) ?_
  refine zs rfl rfl rfl ?_
  refine zs rfl rfl rfl ?_
  refine zs rfl rfl rfl ?_
  refine zs rfl rfl rfl ?_
  refine zto rfl (nI_add i 2) ?_
  refine zal rfl rfl rfl (by omega) (by omega) ?_
  refine zclQ rfl rfl (m_bears hM1 hO (xs (i + 1)) (xs (i + 2))) ?_
  intro v2 M2 N2 h2
  have e2 := h2.1
  subst e2
  refine zbt rfl rfl rfl rfl ?_
  refine kk M2 N2 (inv_road hI h1 h2 ?_)
  unfold r_bears
  repeat' split
  all_goals exact ⟨n, hO⟩
theorem law_27 (hL : L ≤ 3072) (hi : i + 6 ≤ L) (hI : Inv M N) (kk : ∀ M' N', Inv M' N' → zW (L, xs) 232 1377 [(0, .ref 3001), (1, .ref 0), (2, .ref 44), (3, .int (nI i))] [] M' N' Q) : zW (L, xs) 232 925 [(0, .ref 3001), (1, .ref 0), (2, .ref 44), (3, .int (nI i))] [] M N Q := by
  obtain ⟨S, n, F, b, K, tb, tl, B, hI⟩ := hI
  have hO := hI.2.2.1
  refine zs rfl rfl rfl ?_
  refine zs rfl rfl rfl ?_
  refine zs rfl rfl rfl ?_
  refine zs rfl rfl rfl ?_
  refine zs rfl rfl rfl ?_
  refine zto rfl (nI_add i 1) ?_
  refine zal rfl rfl rfl (by omega) (by omega) ?_
  refine zclQ rfl rfl (c_weakest hI.1 hO (xs (i + 1))) ?_
  intro v1 M1 N1 h1
  have hM1 := inv_mid hI h1.2.2.1 (by decide) (by decide)
  have e1 := h1.1
  subst e1
  refine zs rfl rfl rfl ?_
  refine zs rfl rfl rfl ?_
  refine zs rfl rfl rfl ?_
  refine zs rfl rfl rfl ?_
  refine zs rfl rfl rfl ?_
  refine zto rfl (nI_add i 1) ?_
  refine zal rfl rfl rfl (by omega) (by omega) ?_
  refine zclQ rfl rfl (m_weakest hM1 hO (xs (i + 1))) ?_
  intro v2 M2 N2 h2
  have e2 := h2.1
  subst e2
  refine zbt rfl rfl rfl rfl ?_
  refine kk M2 N2 (inv_road hI h1 h2 ?_)
  unfold r_weakest r_ch
  repeat' split
  all_goals exact ⟨n, hO⟩
theorem law_28 (hL : L ≤ 3072) (hi : i + 6 ≤ L) (hI : Inv M N) (kk : ∀ M' N', Inv M' N' → zW (L, xs) 232 1377 [(0, .ref 3001), (1, .ref 0), (2, .ref 44), (3, .int (nI i))] [] M' N' Q) : zW (L, xs) 232 948 [(0, .ref 3001), (1, .ref 0), (2, .ref 44), (3, .int (nI i))] [] M N Q := by
  obtain ⟨S, n, F, b, K, tb, tl, B, hI⟩ := hI
  have hO := hI.2.2.1
  refine zs rfl rfl rfl ?_
  refine zs rfl rfl rfl ?_
  refine zs rfl rfl rfl ?_
  refine zs rfl rfl rfl ?_
  refine zs rfl rfl rfl ?_
  refine zto rfl (nI_add i 1) ?_
  refine zal rfl rfl rfl (by omega) (by omega) ?_
  refine zclQ rfl rfl (c_kind hI.1 hO (xs (i + 1))) ?_
  intro v1 M1 N1 h1
  have hM1 := inv_mid hI h1.2.2.1 (by decide) (by decide)
  have e1 := h1.1
  subst e1
  refine zs rfl rfl rfl ?_
  refine zs rfl rfl rfl ?_
  refine zs rfl rfl rfl ?_
  refine zs rfl rfl rfl ?_
  refine zs rfl rfl rfl ?_
  refine zto rfl (nI_add i 1) ?_
  refine zal rfl rfl rfl (by omega) (by omega) ?_
  refine zclQ rfl rfl (m_kind hM1 hO (xs (i + 1))) ?_
  intro v2 M2 N2 h2
  have e2 := h2.1
  subst e2
  refine zbt rfl rfl rfl rfl ?_
  refine kk M2 N2 (inv_road hI h1 h2 ?_)
  unfold r_kind
  repeat' split
  all_goals exact ⟨n, hO⟩
theorem law_29 (hL : L ≤ 3072) (hi : i + 6 ≤ L) (hI : Inv M N) (kk : ∀ M' N', Inv M' N' → zW (L, xs) 232 1377 [(0, .ref 3001), (1, .ref 0), (2, .ref 44), (3, .int (nI i))] [] M' N' Q) : zW (L, xs) 232 971 [(0, .ref 3001), (1, .ref 0), (2, .ref 44), (3, .int (nI i))] [] M N Q := by
  obtain ⟨S, n, F, b, K, tb, tl, B, hI⟩ := hI
  have hO := hI.2.2.1
  refine zs rfl rfl rfl ?_
  refine zclQ rfl rfl (c_stronger hI.1 hO ) ?_
  intro v1 M1 N1 h1
  have hM1 := inv_mid hI h1.2.2.1 (by decide) (by decide)
  have e1 := h1.1
  subst e1
  refine zs rfl rfl rfl ?_
  refine zclQ rfl rfl (m_stronger hM1 hO ) ?_
  intro v2 M2 N2 h2
  have e2 := h2.1
  subst e2
  refine zbt rfl rfl rfl rfl ?_
  exact kk M2 N2 (inv_road hI h1 h2 (⟨n, hO⟩))
theorem law_42 (hL : L ≤ 3072) (hi : i + 6 ≤ L) (hI : Inv M N) (kk : ∀ M' N', Inv M' N' → zW (L, xs) 232 1377 [(0, .ref 3001), (1, .ref 0), (2, .ref 44), (3, .int (nI i))] [] M' N' Q) : zW (L, xs) 232 1331 [(0, .ref 3001), (1, .ref 0), (2, .ref 44), (3, .int (nI i))] [] M N Q := by
  obtain ⟨S, n, F, b, K, tb, tl, B, hI⟩ := hI
  have hO := hI.2.2.1
  refine zs rfl rfl rfl ?_
  refine zs rfl rfl rfl ?_
  refine zs rfl rfl rfl ?_
  refine zs rfl rfl rfl ?_
  refine zs rfl rfl rfl ?_
  refine zto rfl (nI_add i 1) ?_
  refine zal rfl rfl rfl (by omega) (by omega) ?_
  refine zclQ rfl rfl (c_count hI.1 hO hI.2.2.2.2.2.1.1.1 (xs (i + 1))) ?_
  intro v1 M1 N1 h1
  have hM1 := inv_mid hI h1.2.2.1 (by decide) (by decide)
  have e1 := h1.1
  subst e1
  refine zs rfl rfl rfl ?_
  refine zs rfl rfl rfl ?_
  refine zs rfl rfl rfl ?_
  refine zs rfl rfl rfl ?_
  refine zs rfl rfl rfl ?_
  refine zto rfl (nI_add i 1) ?_
  refine zal rfl rfl rfl (by omega) (by omega) ?_
  refine zclQ rfl rfl (m_count hM1 hO (by rw [h1.2.2.1 44 (by decide)]; exact hI.2.2.2.2.2.1.2.2.1) (xs (i + 1))) ?_
  intro v2 M2 N2 h2
  have e2 := h2.1
  subst e2
  refine zbt rfl rfl rfl rfl ?_
  refine kk M2 N2 (inv_road hI h1 h2 ?_)
  unfold r_count
  repeat' split
  all_goals exact ⟨n, hO⟩
theorem law_43 (hL : L ≤ 3072) (hi : i + 6 ≤ L) (hI : Inv M N) (kk : ∀ M' N', Inv M' N' → zW (L, xs) 232 1377 [(0, .ref 3001), (1, .ref 0), (2, .ref 44), (3, .int (nI i))] [] M' N' Q) : zW (L, xs) 232 1354 [(0, .ref 3001), (1, .ref 0), (2, .ref 44), (3, .int (nI i))] [] M N Q := by
  obtain ⟨S, n, F, b, K, tb, tl, B, hI⟩ := hI
  have hO := hI.2.2.1
  refine zs rfl rfl rfl ?_
  refine zs rfl rfl rfl ?_
  refine zs rfl rfl rfl ?_
  refine zs rfl rfl rfl ?_
  refine zs rfl rfl rfl ?_
  refine zto rfl (nI_add i 1) ?_
  refine zal rfl rfl rfl (by omega) (by omega) ?_
  refine zclQ rfl rfl (c_status hI.1 (xs (i + 1))) ?_
  intro v1 M1 N1 h1
  have hM1 := inv_mid hI h1.2.2.1 (by decide) (by decide)
  have e1 := h1.1
  subst e1
  refine zs rfl rfl rfl ?_
  refine zs rfl rfl rfl ?_
  refine zs rfl rfl rfl ?_
  refine zs rfl rfl rfl ?_
  refine zs rfl rfl rfl ?_
  refine zto rfl (nI_add i 1) ?_
  refine zal rfl rfl rfl (by omega) (by omega) ?_
  refine zclQ rfl rfl (m_status hM1 (xs (i + 1))) ?_
  intro v2 M2 N2 h2
  have e2 := h2.1
  subst e2
  refine zbt rfl rfl rfl rfl ?_
  refine kk M2 N2 (inv_road hI h1 h2 ?_)
  unfold r_status
  repeat' split
  all_goals exact ⟨n, hO⟩
end LAW
