/-! The law: sheets, tape, images. -/
section LAW2
variable {L : Nat} {xs : Nat → Int32} {i : Nat} {M M1 M2 : zM} {N N1 N2 : zN} {Q : Option Value → zM → zN → Prop}
variable {S F K tb S' F' : zS} {n tl : Nat} {b : Bool} {B B' : zB} {v1 v2 : Option Value} {a : Value}
theorem sh_mid (hI : Inv0 S n F b K tb tl B M N) (h1 : cW M N a S' F' B' v1 M1 N1) : mC M1 S F ∧ mS M1 N1 B := by
  refine ⟨hI.2.1.fr h1.2.1 (by decide) (by decide), fun t ht => ?_⟩
  rw [h1.2.1 52 (by decide), h1.2.1 53 (by decide), h1.2.2.2.2.2]
  exact hI.2.2.2.2.2.2.2.1 t ht
theorem inv_sh (hI : Inv0 S n F b K tb tl B M N) (h1 : cW M N a S' F' B' v1 M1 N1) (h2 : mW M1 N1 a S' F' B' v2 M2 N2) (hO : ∃ n', Ok S' n') (hB : Sok B') : Inv M2 N2 := by
  obtain ⟨_, hf1, hv1, hF1, hs1, _⟩ := h1
  obtain ⟨_, hf2, h44, hm2, hs2, hn2⟩ := h2
  obtain ⟨_, _, _, hk, hkk, ht, hs⟩ := hI
  obtain ⟨n', o'⟩ := hO
  have f0 : M2 0 = M 0 := (hf2 0 (by decide)).trans (hf1 0 (by decide))
  have f44 : ∀ c, c < 13 → M2 44 c = M 44 c := fun c hc => (h44 c hc).trans (by rw [hf1 44 (by decide)])
  refine ⟨S', n', F', b, K, tb, tl, B', ⟨hv1.fr hf2 (by decide), fun k hk => by rw [hf2 35 (by decide)]; exact hF1 k hk⟩, hm2, o', ⟨by rw [f0]; exact hk.1, by rw [f44 5 (by decide)]; exact hk.2⟩, fun hb => ?_, ⟨(ht.1.fr hf1 (by decide) (by decide)).fr hf2 (by decide) (by decide), ?_⟩, ⟨fun t ht => ?_, hs2, hB⟩⟩
  · obtain ⟨k1, k2, k3⟩ := hkk hb
    exact ⟨(k1.fr hf1 (by decide)).fr hf2 (by decide), (k2.fr hf1 (by decide)).fr hf2 (by decide), k3⟩
  · exact ⟨ht.2.1, by rw [f44 8 (by decide)]; exact ht.2.2.1, fun i hi => by rw [hf2 51 (by decide), hf1 51 (by decide)]; exact ht.2.2.2.1 i hi, ht.2.2.2.2⟩
  · have hd : ∀ t, t < 4 → 36 + 2 * t ∉ mLs := by decide
    rw [hf2 (36 + 2 * t) (hd t ht), hn2 (37 + 2 * t) (by omega)]
    exact hs1 t ht
theorem sok_sheet (hB : Sok B) (hO : Ok S n) (s b' m : Int32) : (∃ n', Ok (r_sheet S F B s b' m).2.1 n') ∧ Sok (r_sheet S F B s b' m).2.2.2 := by
  unfold r_sheet
  by_cases h1 : 0 ≤ s ∧ s ≤ 3
  · rw [if_pos h1]
    by_cases h2 : b' = 0 ∨ b' = 8 ∨ b' = 16 ∨ b' = 64
    · rw [if_pos h2]
      by_cases h3 : 0 ≤ m
      · rw [if_pos h3]
        by_cases h4 : m ≤ 40
        · rw [if_pos h4]
          obtain ⟨x, hx, ex⟩ := nI_of (i_nlt.mpr h3)
          have hx40 : m.toNatClampNeg ≤ 40 := by
            rw [ex, nI_clamp hx]
            rw [ex] at h4
            exact (nI_leI (b := 40) hx (by decide)).mp h4
          by_cases h5 : b' = 0
          · rw [if_pos h5]
            refine ⟨⟨n, hO⟩, fun t ht => ?_⟩
            dsimp only
            by_cases e : t = s.toNatClampNeg
            · rw [e, up'_s, up'_s]; exact ⟨by decide, Or.inl rfl⟩
            · rw [up'_n _ _ e, up'_n _ _ e]; exact hB t ht
          · rw [if_neg h5]
            refine ⟨⟨n, hO⟩, fun t ht => ?_⟩
            dsimp only
            by_cases e : t = s.toNatClampNeg
            · rw [e, up'_s, up'_s]; exact ⟨hx40, h2⟩
            · rw [up'_n _ _ e, up'_n _ _ e]; exact hB t ht
        · rw [if_neg h4]; exact ⟨⟨n, hO⟩, hB⟩
      · rw [if_neg h3]; exact ⟨⟨n, hO⟩, hB⟩
    · rw [if_neg h2]; exact ⟨⟨n, hO⟩, hB⟩
  · rw [if_neg h1]; exact ⟨⟨n, hO⟩, hB⟩
theorem sok_copy (hB : Sok B) (hO : Ok S n) (s f t g m : Int32) : (∃ n', Ok (r_copy S F B s f t g m).2.1 n') ∧ Sok (r_copy S F B s f t g m).2.2.2 := by
  unfold r_copy
  repeat' split
  all_goals exact ⟨⟨n, hO⟩, hB⟩
theorem sok_lays (hB : Sok B) (hO : Ok S n) (s : Int32) : (∃ n', Ok (r_lays S F B s).2.1 n') ∧ Sok (r_lays S F B s).2.2.2 := by
  unfold r_lays
  repeat' split
  all_goals first | exact ⟨⟨n, hO⟩, hB⟩ | exact ⟨⟨n, ok_lys hO _ _ (by omega)⟩, hB⟩
theorem sok_dawn (hB : Sok B) (hO : Ok S n) (s : Int32) : (∃ n', Ok (r_dawn S F n B s).2.1 n') ∧ Sok (r_dawn S F n B s).2.2.2 := by
  unfold r_dawn
  repeat' split
  all_goals exact ⟨⟨n, hO⟩, hB⟩
theorem sok_read (hB : Sok B) (hO : Ok S n) (s : Int32) : (∃ n', Ok (r_read S F n B s).2.1 n') ∧ Sok (r_read S F n B s).2.2.2 := by
  unfold r_read r_fstB
  repeat' split
  all_goals exact ⟨⟨n, hO⟩, hB⟩
theorem sok_write (hB : Sok B) (s j : Int32) (v : Int64) : Sok (r_write F B s j v).2.2 := by
  unfold r_write
  repeat' split
  all_goals exact hB
theorem law_33 (hL : L ≤ 3072) (hi : i + 6 ≤ L) (hI : Inv M N) (kk : ∀ M' N', Inv M' N' → zW (L, xs) 232 1377 [(0, .ref 3001), (1, .ref 0), (2, .ref 44), (3, .int (nI i))] [] M' N' Q) : zW (L, xs) 232 1043 [(0, .ref 3001), (1, .ref 0), (2, .ref 44), (3, .int (nI i))] [] M N Q := by
  obtain ⟨S, n, F, b, K, tb, tl, B, hI⟩ := hI
  have hO := hI.2.2.1
  have hB := hI.2.2.2.2.2.2.2.2
  refine zs rfl rfl rfl ?_
  refine zs rfl rfl rfl ?_
  refine zs rfl rfl rfl ?_
  refine zs rfl rfl rfl ?_
  refine zs rfl rfl rfl ?_
  refine zto rfl (nI_add i 1) ?_
  refine zal rfl rfl rfl (by omega) (by omega) ?_
  refine zs rfl rfl rfl ?_
  refine zs rfl rfl rfl ?_
  refine zs rfl rfl rfl ?_
  refine zs rfl rfl rfl ?_
  refine zto rfl (nI_add i 2) ?_
  refine zal rfl rfl rfl (by omega) (by omega) ?_
  refine zs rfl rfl rfl ?_
  refine zs rfl rfl rfl ?_
  refine zs rfl rfl rfl ?_
  refine zs rfl rfl rfl ?_
  refine zto rfl (nI_add i 3) ?_
  refine zal rfl rfl rfl (by omega) (by omega) ?_
  refine zclQ rfl rfl (c_sheet hI.1 hI.2.2.2.2.2.2.1 (xs (i + 1)) (xs (i + 2)) (xs (i + 3))) ?_
  intro v1 M1 N1 h1
  have hM := sh_mid hI h1
  have e1 := h1.1
  subst e1
  refine zs rfl rfl rfl ?_
  refine zs rfl rfl rfl ?_
  refine zs rfl rfl rfl ?_
  refine zs rfl rfl rfl ?_
  refine zs rfl rfl rfl ?_
  refine zto rfl (nI_add i 1) ?_
  refine zal rfl rfl rfl (by omega) (by omega) ?_
  refine zs rfl rfl rfl ?_
  refine zs rfl rfl rfl ?_
  refine zs rfl rfl rfl ?_
  refine zs rfl rfl rfl ?_
  refine zto rfl (nI_add i 2) ?_
  refine zal rfl rfl rfl (by omega) (by omega) ?_
  refine zs rfl rfl rfl ?_
  refine zs rfl rfl rfl ?_
  refine zs rfl rfl rfl ?_
  refine zs rfl rfl rfl ?_
  refine zto rfl (nI_add i 3) ?_
  refine zal rfl rfl rfl (by omega) (by omega) ?_
  refine zclQ rfl rfl (m_sheet hM.1 hM.2 (xs (i + 1)) (xs (i + 2)) (xs (i + 3))) ?_
  intro v2 M2 N2 h2
  have e2 := h2.1
  subst e2
  first | refine zbt rfl rfl rfl rfl ?_ | refine zs rfl rfl rfl ?_
  have hs := sok_sheet (F := F) hB hO (xs (i + 1)) (xs (i + 2)) (xs (i + 3))
  exact kk M2 N2 (inv_sh hI h1 h2 hs.1 hs.2)
theorem law_35 (hL : L ≤ 3072) (hi : i + 6 ≤ L) (hI : Inv M N) (kk : ∀ M' N', Inv M' N' → zW (L, xs) 232 1377 [(0, .ref 3001), (1, .ref 0), (2, .ref 44), (3, .int (nI i))] [] M' N' Q) : zW (L, xs) 232 1160 [(0, .ref 3001), (1, .ref 0), (2, .ref 44), (3, .int (nI i))] [] M N Q := by
  obtain ⟨S, n, F, b, K, tb, tl, B, hI⟩ := hI
  have hO := hI.2.2.1
  have hB := hI.2.2.2.2.2.2.2.2
  refine zs rfl rfl rfl ?_
  refine zs rfl rfl rfl ?_
  refine zs rfl rfl rfl ?_
  refine zs rfl rfl rfl ?_
  refine zs rfl rfl rfl ?_
  refine zto rfl (nI_add i 1) ?_
  refine zal rfl rfl rfl (by omega) (by omega) ?_
  refine zs rfl rfl rfl ?_
  refine zs rfl rfl rfl ?_
  refine zs rfl rfl rfl ?_
  refine zs rfl rfl rfl ?_
  refine zto rfl (nI_add i 2) ?_
  refine zal rfl rfl rfl (by omega) (by omega) ?_
  refine zs rfl rfl rfl ?_
  refine zs rfl rfl rfl ?_
  refine zs rfl rfl rfl ?_
  refine zs rfl rfl rfl ?_
  refine zto rfl (nI_add i 3) ?_
  refine zal rfl rfl rfl (by omega) (by omega) ?_
  refine zs rfl rfl rfl ?_
  refine zs rfl rfl rfl ?_
  refine zs rfl rfl rfl ?_
  refine zs rfl rfl rfl ?_
  refine zto rfl (nI_add i 4) ?_
  refine zal rfl rfl rfl (by omega) (by omega) ?_
  refine zs rfl rfl rfl ?_
  refine zs rfl rfl rfl ?_
  refine zs rfl rfl rfl ?_
  refine zs rfl rfl rfl ?_
  refine zto rfl (nI_add i 5) ?_
  refine zal rfl rfl rfl (by omega) (by omega) ?_
  refine zclQ rfl rfl (c_copy hI.1 hI.2.2.2.2.2.2.1 hB (xs (i + 1)) (xs (i + 2)) (xs (i + 3)) (xs (i + 4)) (xs (i + 5))) ?_
  intro v1 M1 N1 h1
  have hM := sh_mid hI h1
  have e1 := h1.1
  subst e1
  refine zs rfl rfl rfl ?_
  refine zs rfl rfl rfl ?_
  refine zs rfl rfl rfl ?_
  refine zs rfl rfl rfl ?_
  refine zs rfl rfl rfl ?_
  refine zto rfl (nI_add i 1) ?_
  refine zal rfl rfl rfl (by omega) (by omega) ?_
  refine zs rfl rfl rfl ?_
  refine zs rfl rfl rfl ?_
  refine zs rfl rfl rfl ?_
  refine zs rfl rfl rfl ?_
  refine zto rfl (nI_add i 2) ?_
  refine zal rfl rfl rfl (by omega) (by omega) ?_
  refine zs rfl rfl rfl ?_
  refine zs rfl rfl rfl ?_
  refine zs rfl rfl rfl ?_
  refine zs rfl rfl rfl ?_
  refine zto rfl (nI_add i 3) ?_
  refine zal rfl rfl rfl (by omega) (by omega) ?_
  refine zs rfl rfl rfl ?_
  refine zs rfl rfl rfl ?_
  refine zs rfl rfl rfl ?_
  refine zs rfl rfl rfl ?_
  refine zto rfl (nI_add i 4) ?_
  refine zal rfl rfl rfl (by omega) (by omega) ?_
  refine zs rfl rfl rfl ?_
  refine zs rfl rfl rfl ?_
  refine zs rfl rfl rfl ?_
  refine zs rfl rfl rfl ?_
  refine zto rfl (nI_add i 5) ?_
  refine zal rfl rfl rfl (by omega) (by omega) ?_
  refine zclQ rfl rfl (m_copy hM.1 hM.2 hB (xs (i + 1)) (xs (i + 2)) (xs (i + 3)) (xs (i + 4)) (xs (i + 5))) ?_
  intro v2 M2 N2 h2
  have e2 := h2.1
  subst e2
  first | refine zbt rfl rfl rfl rfl ?_ | refine zs rfl rfl rfl ?_
  have hs := sok_copy (F := F) hB hO (xs (i + 1)) (xs (i + 2)) (xs (i + 3)) (xs (i + 4)) (xs (i + 5))
  exact kk M2 N2 (inv_sh hI h1 h2 hs.1 hs.2)
theorem law_36 (hL : L ≤ 3072) (hi : i + 6 ≤ L) (hI : Inv M N) (kk : ∀ M' N', Inv M' N' → zW (L, xs) 232 1377 [(0, .ref 3001), (1, .ref 0), (2, .ref 44), (3, .int (nI i))] [] M' N' Q) : zW (L, xs) 232 1223 [(0, .ref 3001), (1, .ref 0), (2, .ref 44), (3, .int (nI i))] [] M N Q := by
  obtain ⟨S, n, F, b, K, tb, tl, B, hI⟩ := hI
  have hO := hI.2.2.1
  have hB := hI.2.2.2.2.2.2.2.2
  refine zs rfl rfl rfl ?_
  refine zs rfl rfl rfl ?_
  refine zs rfl rfl rfl ?_
  refine zs rfl rfl rfl ?_
  refine zs rfl rfl rfl ?_
  refine zto rfl (nI_add i 1) ?_
  refine zal rfl rfl rfl (by omega) (by omega) ?_
  refine zclQ rfl rfl (c_lays hI.1 hI.2.2.2.2.2.2.1 hB (xs (i + 1))) ?_
  intro v1 M1 N1 h1
  have hM := sh_mid hI h1
  have e1 := h1.1
  subst e1
  refine zs rfl rfl rfl ?_
  refine zs rfl rfl rfl ?_
  refine zs rfl rfl rfl ?_
  refine zs rfl rfl rfl ?_
  refine zs rfl rfl rfl ?_
  refine zto rfl (nI_add i 1) ?_
  refine zal rfl rfl rfl (by omega) (by omega) ?_
  refine zclQ rfl rfl (m_lays hM.1 hM.2 hB (xs (i + 1))) ?_
  intro v2 M2 N2 h2
  have e2 := h2.1
  subst e2
  first | refine zbt rfl rfl rfl rfl ?_ | refine zs rfl rfl rfl ?_
  have hs := sok_lays (F := F) hB hO (xs (i + 1))
  exact kk M2 N2 (inv_sh hI h1 h2 hs.1 hs.2)
theorem law_37 (hL : L ≤ 3072) (hi : i + 6 ≤ L) (hI : Inv M N) (kk : ∀ M' N', Inv M' N' → zW (L, xs) 232 1377 [(0, .ref 3001), (1, .ref 0), (2, .ref 44), (3, .int (nI i))] [] M' N' Q) : zW (L, xs) 232 1246 [(0, .ref 3001), (1, .ref 0), (2, .ref 44), (3, .int (nI i))] [] M N Q := by
  obtain ⟨S, n, F, b, K, tb, tl, B, hI⟩ := hI
  have hO := hI.2.2.1
  have hB := hI.2.2.2.2.2.2.2.2
  refine zs rfl rfl rfl ?_
  refine zs rfl rfl rfl ?_
  refine zs rfl rfl rfl ?_
  refine zs rfl rfl rfl ?_
  refine zs rfl rfl rfl ?_
  refine zto rfl (nI_add i 1) ?_
  refine zal rfl rfl rfl (by omega) (by omega) ?_
  refine zclQ rfl rfl (c_dawn hI.1 hI.2.2.2.2.2.2.1 hB hO (xs (i + 1))) ?_
  intro v1 M1 N1 h1
  have hM := sh_mid hI h1
  have e1 := h1.1
  subst e1
  refine zs rfl rfl rfl ?_
  refine zs rfl rfl rfl ?_
  refine zs rfl rfl rfl ?_
  refine zs rfl rfl rfl ?_
  refine zs rfl rfl rfl ?_
  refine zto rfl (nI_add i 1) ?_
  refine zal rfl rfl rfl (by omega) (by omega) ?_
  refine zclQ rfl rfl (m_dawn hM.1 hM.2 hB hO (xs (i + 1))) ?_
  intro v2 M2 N2 h2
  have e2 := h2.1
  subst e2
  first | refine zbt rfl rfl rfl rfl ?_ | refine zs rfl rfl rfl ?_
  have hs := sok_dawn (F := F) hB hO (xs (i + 1))
  exact kk M2 N2 (inv_sh hI h1 h2 hs.1 hs.2)
theorem law_38 (hL : L ≤ 3072) (hi : i + 6 ≤ L) (hI : Inv M N) (kk : ∀ M' N', Inv M' N' → zW (L, xs) 232 1377 [(0, .ref 3001), (1, .ref 0), (2, .ref 44), (3, .int (nI i))] [] M' N' Q) : zW (L, xs) 232 1269 [(0, .ref 3001), (1, .ref 0), (2, .ref 44), (3, .int (nI i))] [] M N Q := by
  obtain ⟨S, n, F, b, K, tb, tl, B, hI⟩ := hI
  have hO := hI.2.2.1
  have hB := hI.2.2.2.2.2.2.2.2
  refine zs rfl rfl rfl ?_
  refine zs rfl rfl rfl ?_
  refine zs rfl rfl rfl ?_
  refine zs rfl rfl rfl ?_
  refine zs rfl rfl rfl ?_
  refine zto rfl (nI_add i 1) ?_
  refine zal rfl rfl rfl (by omega) (by omega) ?_
  refine zclQ rfl rfl (c_read hI.1 hI.2.2.2.2.2.2.1 hB hO (xs (i + 1))) ?_
  intro v1 M1 N1 h1
  have hM := sh_mid hI h1
  have e1 := h1.1
  subst e1
  refine zs rfl rfl rfl ?_
  refine zs rfl rfl rfl ?_
  refine zs rfl rfl rfl ?_
  refine zs rfl rfl rfl ?_
  refine zs rfl rfl rfl ?_
  refine zto rfl (nI_add i 1) ?_
  refine zal rfl rfl rfl (by omega) (by omega) ?_
  refine zclQ rfl rfl (m_read hM.1 hM.2 hB hO (xs (i + 1))) ?_
  intro v2 M2 N2 h2
  have e2 := h2.1
  subst e2
  first | refine zbt rfl rfl rfl rfl ?_ | refine zs rfl rfl rfl ?_
  have hs := sok_read (F := F) hB hO (xs (i + 1))
  exact kk M2 N2 (inv_sh hI h1 h2 hs.1 hs.2)
theorem law_34 (hL : L ≤ 3072) (hi : i + 6 ≤ L) (hI : Inv M N) (kk : ∀ M' N', Inv M' N' → zW (L, xs) 232 1377 [(0, .ref 3001), (1, .ref 0), (2, .ref 44), (3, .int (nI i))] [] M' N' Q) : zW (L, xs) 232 1086 [(0, .ref 3001), (1, .ref 0), (2, .ref 44), (3, .int (nI i))] [] M N Q := by
  obtain ⟨S, n, F, b, K, tb, tl, B, hI⟩ := hI
  have hO := hI.2.2.1
  have hB := hI.2.2.2.2.2.2.2.2
  refine zs rfl rfl rfl ?_
  refine zs rfl rfl rfl ?_
  refine zs rfl rfl rfl ?_
  refine zs rfl rfl rfl ?_
  refine zs rfl rfl rfl ?_
  refine zto rfl (nI_add i 1) ?_
  refine zal rfl rfl rfl (by omega) (by omega) ?_
  refine zs rfl rfl rfl ?_
  refine zs rfl rfl rfl ?_
  refine zs rfl rfl rfl ?_
  refine zs rfl rfl rfl ?_
  refine zto rfl (nI_add i 2) ?_
  refine zal rfl rfl rfl (by omega) (by omega) ?_
  refine zs rfl rfl rfl ?_
  refine zs rfl rfl rfl ?_
  refine zs rfl rfl rfl ?_
  refine zs rfl rfl rfl ?_
  refine zto rfl (nI_add i 3) ?_
  refine zal rfl rfl rfl (by omega) (by omega) ?_
  refine zs rfl rfl rfl ?_
  refine zs rfl rfl rfl ?_
  refine zs rfl rfl rfl ?_
  refine zs rfl rfl rfl ?_
  refine zs rfl rfl rfl ?_
  refine zs rfl rfl rfl ?_
  refine zs rfl rfl rfl ?_
  refine zto rfl (nI_add i 4) ?_
  refine zal rfl rfl rfl (by omega) (by omega) ?_
  refine zs rfl rfl rfl ?_
  refine zs rfl rfl rfl ?_
  refine zs rfl rfl rfl ?_
  refine zs rfl rfl rfl ?_
  refine zclQ rfl rfl (c_write hI.1 hI.2.2.2.2.2.2.1 hB (xs (i + 1)) (xs (i + 2)) _) ?_
  intro v1 M1 N1 h1
  have hM := sh_mid hI h1
  have e1 := h1.1
  subst e1
  refine zs rfl rfl rfl ?_
  refine zs rfl rfl rfl ?_
  refine zs rfl rfl rfl ?_
  refine zs rfl rfl rfl ?_
  refine zs rfl rfl rfl ?_
  refine zto rfl (nI_add i 1) ?_
  refine zal rfl rfl rfl (by omega) (by omega) ?_
  refine zs rfl rfl rfl ?_
  refine zs rfl rfl rfl ?_
  refine zs rfl rfl rfl ?_
  refine zs rfl rfl rfl ?_
  refine zto rfl (nI_add i 2) ?_
  refine zal rfl rfl rfl (by omega) (by omega) ?_
  refine zs rfl rfl rfl ?_
  refine zs rfl rfl rfl ?_
  refine zs rfl rfl rfl ?_
  refine zs rfl rfl rfl ?_
  refine zto rfl (nI_add i 3) ?_
  refine zal rfl rfl rfl (by omega) (by omega) ?_
  refine zs rfl rfl rfl ?_
  refine zs rfl rfl rfl ?_
  refine zs rfl rfl rfl ?_
  refine zs rfl rfl rfl ?_
  refine zs rfl rfl rfl ?_
  refine zs rfl rfl rfl ?_
  refine zs rfl rfl rfl ?_
  refine zto rfl (nI_add i 4) ?_
  refine zal rfl rfl rfl (by omega) (by omega) ?_
  refine zs rfl rfl rfl ?_
  refine zs rfl rfl rfl ?_
  refine zs rfl rfl rfl ?_
  refine zs rfl rfl rfl ?_
  refine zclQ rfl rfl (m_write hM.1 hM.2 hB (xs (i + 1)) (xs (i + 2)) _) ?_
  intro v2 M2 N2 h2
  have e2 := h2.1
  subst e2
  refine zs rfl rfl rfl ?_
  refine zbt ((lg_cmp_eq _ _).mpr rfl) rfl rfl rfl ?_
  exact kk M2 N2 (inv_sh hI h1 h2 ⟨n, hO⟩ (sok_write hB _ _ _))
theorem byt_nn (x : Int32) (m : Nat) : 0 ≤ byt x m := by
  unfold byt
  rw [and255]
  exact nI_pos' (by omega)
theorem fdt_nn (x : Int32) : ∀ (m t : Nat) (tb : zS), (∀ j, j < t → 0 ≤ tb j) → ∀ j, j < t + m → 0 ≤ fdt x m t tb j
  | 0, _, _, h, j, hj => h j hj
  | m + 1, t, tb, h, j, hj => fdt_nn x m (t + 1) (upd tb t (byt x m)) (fun k hk => by
      show 0 ≤ if k = t then byt x m else tb k
      by_cases e : k = t
      · rw [if_pos e]; exact byt_nn x m
      · rw [if_neg e]; exact h k (by omega)) j (by omega)
/-- nothing but tape and scratch has changed -/
theorem inv_tape (hI : Inv0 S n F b K tb tl B M N) {tb2 : zS} {tl2 : Nat} (hf1 : Fr [29, 30] M M1) (hf2 : Fr [44, 51] M1 M2) (h44 : ∀ c, c ≠ 8 → M2 44 c = M1 44 c) (hc : cT M1 tb2 tl2) (hm : mT M2 tb2 tl2) : Inv M2 N := by
  obtain ⟨hc1, hm1, hO, hk, hkk, ht, hs⟩ := hI
  have f0 : M2 0 = M 0 := (hf2 0 (by decide)).trans (hf1 0 (by decide))
  refine ⟨S, n, F, b, K, tb2, tl2, B, ⟨(hc1.1.fr hf1 (by decide)).fr hf2 (by decide), fun k hk => by rw [hf2 35 (by decide), hf1 35 (by decide)]; exact hc1.2 k hk⟩, (hm1.fr hf1 (by decide) (by decide)).fr hf2 (by decide) (by decide), hO, ⟨by rw [f0]; exact hk.1, by rw [h44 5 (by decide), hf1 44 (by decide)]; exact hk.2⟩, fun hb => ?_, ⟨hc.fr hf2 (by decide) (by decide), hm⟩, ⟨(hs.1.fr hf1 (by decide)).fr hf2 (by decide), (hs.2.1.fr hf1 (by decide) (by decide)).fr hf2 (by decide) (by decide), hs.2.2⟩⟩
  obtain ⟨k1, k2, k3⟩ := hkk hb
  exact ⟨(k1.fr hf1 (by decide)).fr hf2 (by decide), (k2.fr hf1 (by decide)).fr hf2 (by decide), k3⟩
theorem law_30 (hL : L ≤ 3072) (hi : i + 6 ≤ L) (hI : Inv M N) (kk : ∀ M' N', Inv M' N' → zW (L, xs) 232 1377 [(0, .ref 3001), (1, .ref 0), (2, .ref 44), (3, .int (nI i))] [] M' N' Q) : zW (L, xs) 232 984 [(0, .ref 3001), (1, .ref 0), (2, .ref 44), (3, .int (nI i))] [] M N Q := by
  obtain ⟨S, n, F, b, K, tb, tl, B, hI⟩ := hI
  have hO := hI.2.2.1
  have ht := hI.2.2.2.2.2.1
  refine zs rfl rfl rfl ?_
  refine zs rfl rfl rfl ?_
  refine zs rfl rfl rfl ?_
  refine zs rfl rfl rfl ?_
  refine zs rfl rfl rfl ?_
  refine zto rfl (nI_add i 1) ?_
  refine zal rfl rfl rfl (by omega) (by omega) ?_
  refine zs rfl rfl rfl ?_
  refine zs rfl rfl rfl ?_
  refine zs rfl rfl rfl ?_
  refine zs rfl rfl rfl ?_
  refine zto rfl (nI_add i 2) ?_
  refine zal rfl rfl rfl (by omega) (by omega) ?_
  refine zclQ rfl rfl (c_feed (tl := tl) (tb := tb) hI.1 ht.1.1 ht.2.1 ht.1.2 (xs (i + 1)) (xs (i + 2))) ?_
  intro v1 M1 N1 h1
  by_cases g1 : 1 ≤ xs (i + 2) ∧ xs (i + 2) ≤ 4
  · by_cases g2 : tl + (xs (i + 2)).toNatClampNeg ≤ 120
    · obtain ⟨rfl, rfl, hf1, h29, h30⟩ := (h1.1 g1).1 g2
      refine zs rfl rfl rfl ?_
      refine zs rfl rfl rfl ?_
      refine zs rfl rfl rfl ?_
      refine zs rfl rfl rfl ?_
      refine zs rfl rfl rfl ?_
      refine zto rfl (nI_add i 1) ?_
      refine zal rfl rfl rfl (by omega) (by omega) ?_
      refine zs rfl rfl rfl ?_
      refine zs rfl rfl rfl ?_
      refine zs rfl rfl rfl ?_
      refine zs rfl rfl rfl ?_
      refine zto rfl (nI_add i 2) ?_
      refine zal rfl rfl rfl (by omega) (by omega) ?_
      refine zclQ rfl rfl (m_feed (tl := tl) (tb := tb) (hI.2.1.fr hf1 (by decide) (by decide)) (by rw [hf1 44 (by decide)]; exact ht.2.2.1) ht.2.1 (fun j hj => by rw [hf1 51 (by decide)]; exact ht.2.2.2.1 j hj) (xs (i + 1)) (xs (i + 2))) ?_
      intro v2 M2 N2 h2
      obtain ⟨rfl, rfl, hf2, h44, h8, h51⟩ := (h2.1 g1).1 g2
      first | refine zbt rfl rfl rfl rfl ?_ | refine zs rfl rfl rfl ?_
      exact kk M2 _ (inv_tape hI hf1 hf2 h44 ⟨h29, h30⟩ ⟨g2, h8, h51, fdt_nn _ _ _ _ ht.2.2.2.2⟩)
    · have h1' := (h1.1 g1).2 g2
      have e1 := h1'.1
      subst e1
      refine zs rfl rfl rfl ?_
      refine zs rfl rfl rfl ?_
      refine zs rfl rfl rfl ?_
      refine zs rfl rfl rfl ?_
      refine zs rfl rfl rfl ?_
      refine zto rfl (nI_add i 1) ?_
      refine zal rfl rfl rfl (by omega) (by omega) ?_
      refine zs rfl rfl rfl ?_
      refine zs rfl rfl rfl ?_
      refine zs rfl rfl rfl ?_
      refine zs rfl rfl rfl ?_
      refine zto rfl (nI_add i 2) ?_
      refine zal rfl rfl rfl (by omega) (by omega) ?_
      refine zclQ rfl rfl (m_feed (tl := tl) (tb := tb) (inv_mid hI h1'.2.2.1 (by decide) (by decide)) (by rw [h1'.2.2.1 44 (by decide)]; exact ht.2.2.1) ht.2.1 (fun j hj => by rw [h1'.2.2.1 51 (by decide)]; exact ht.2.2.2.1 j hj) (xs (i + 1)) (xs (i + 2))) ?_
      intro v2 M2 N2 h2
      have h2' := (h2.1 g1).2 g2
      have e2 := h2'.1
      subst e2
      first | refine zbt rfl rfl rfl rfl ?_ | refine zs rfl rfl rfl ?_
      exact kk M2 N2 (inv_road hI h1' h2' ⟨n, hO⟩)
  · have h1' := h1.2 g1
    have e1 := h1'.1
    subst e1
    refine zs rfl rfl rfl ?_
    refine zs rfl rfl rfl ?_
    refine zs rfl rfl rfl ?_
    refine zs rfl rfl rfl ?_
    refine zs rfl rfl rfl ?_
    refine zto rfl (nI_add i 1) ?_
    refine zal rfl rfl rfl (by omega) (by omega) ?_
    refine zs rfl rfl rfl ?_
    refine zs rfl rfl rfl ?_
    refine zs rfl rfl rfl ?_
    refine zs rfl rfl rfl ?_
    refine zto rfl (nI_add i 2) ?_
    refine zal rfl rfl rfl (by omega) (by omega) ?_
    refine zclQ rfl rfl (m_feed (tl := tl) (tb := tb) (inv_mid hI h1'.2.2.1 (by decide) (by decide)) (by rw [h1'.2.2.1 44 (by decide)]; exact ht.2.2.1) ht.2.1 (fun j hj => by rw [h1'.2.2.1 51 (by decide)]; exact ht.2.2.2.1 j hj) (xs (i + 1)) (xs (i + 2))) ?_
    intro v2 M2 N2 h2
    have h2' := h2.2 g1
    have e2 := h2'.1
    subst e2
    first | refine zbt rfl rfl rfl rfl ?_ | refine zs rfl rfl rfl ?_
    exact kk M2 N2 (inv_road hI h1' h2' ⟨n, hO⟩)
theorem law_31 (hL : L ≤ 3072) (hi : i + 6 ≤ L) (hI : Inv M N) (kk : ∀ M' N', Inv M' N' → zW (L, xs) 232 1377 [(0, .ref 3001), (1, .ref 0), (2, .ref 44), (3, .int (nI i))] [] M' N' Q) : zW (L, xs) 232 1017 [(0, .ref 3001), (1, .ref 0), (2, .ref 44), (3, .int (nI i))] [] M N Q := by
  obtain ⟨S, n, F, b, K, tb, tl, B, hI⟩ := hI
  have hO := hI.2.2.1
  have ht := hI.2.2.2.2.2.1
  refine zs rfl rfl rfl ?_
  refine zcl rfl rfl (c_wipe (tl := tl) ht.1.1) ?_
  refine zs rfl rfl rfl ?_
  refine zcl rfl rfl (m_wipe (tl := tl) ht.2.2.1) ?_
  first | refine zbt rfl rfl rfl rfl ?_ | refine zs rfl rfl rfl ?_
  refine kk _ _ (inv_tape (tb2 := tb) (tl2 := 0) hI (Fr.up (by decide)) (Fr.up (by decide)) (fun c hc => by rw [z_up_a, if_neg hc]) ⟨rfl, fun j hj => absurd hj (Nat.not_lt_zero j)⟩ ⟨by decide, rfl, fun j hj => absurd hj (Nat.not_lt_zero j), fun j hj => absurd hj (Nat.not_lt_zero j)⟩)
theorem law_32 (hL : L ≤ 3072) (hi : i + 6 ≤ L) (hI : Inv M N) (kk : ∀ M' N', Inv M' N' → zW (L, xs) 232 1377 [(0, .ref 3001), (1, .ref 0), (2, .ref 44), (3, .int (nI i))] [] M' N' Q) : zW (L, xs) 232 1030 [(0, .ref 3001), (1, .ref 0), (2, .ref 44), (3, .int (nI i))] [] M N Q := by
  obtain ⟨S, n, F, b, K, tb, tl, B, hI⟩ := hI
  have hO := hI.2.2.1
  have ht := hI.2.2.2.2.2.1
  refine zs rfl rfl rfl ?_
  refine zclQ rfl rfl (c_text ht.1 ht.2.1 hI.1.1 hO) ?_
  rintro v1 M1 N1 ⟨rfl, rfl, hf1, h29, hv1⟩
  refine zs rfl rfl rfl ?_
  refine zclQ rfl rfl (m_text (ht.2.fr hf1 (by decide) (by decide)) (hI.2.1.1.fr hf1 (by decide)) hO) ?_
  rintro v2 M2 N2 ⟨rfl, rfl, hf2, h44, h8, hr2⟩
  first | refine zbt rfl rfl rfl rfl ?_ | refine zs rfl rfl rfl ?_
  refine kk M2 _ ?_
  obtain ⟨hc1, hm1, _, hk, hkk, _, hs⟩ := hI
  have f0 : M2 0 = M 0 := (hf2 0 (by decide)).trans (hf1 0 (by decide))
  have hx := ok_text hO tb tl 120 1 (S := S) (n := n) (p := sk tb tl 0) hO (sk_le (Nat.zero_le _)).2
  obtain ⟨S', n', o', hv1, hr2⟩ : ∃ S' n', Ok S' n' ∧ Vw M1 1 S' ∧ Rw M2 45 S' := by
    cases hp : pText tb tl 120 1 S (sk tb tl 0) with
    | inr q =>
      rw [hp] at hv1 hr2
      exact ⟨S, n, hO, hv1, hr2⟩
    | inl w =>
      obtain ⟨k, S1⟩ := w
      rw [hp] at hv1 hr2
      obtain ⟨n', o'⟩ := hx k S1 hp
      exact ⟨S1, n', o', hv1, hr2⟩
  refine ⟨S', n', F, b, K, tb, 0, B, ⟨hv1.fr hf2 (by decide), fun k hk => by rw [hf2 35 (by decide), hf1 35 (by decide)]; exact hc1.2 k hk⟩, ⟨hr2, fun k hk => by rw [hf2 50 (by decide), hf1 50 (by decide)]; exact hm1.2.1 k hk, by rw [hf2 50 (by decide), hf1 50 (by decide)]; exact hm1.2.2⟩, o', ⟨by rw [f0]; exact hk.1, by rw [h44 5 (by decide) (by decide), hf1 44 (by decide)]; exact hk.2⟩, fun hb => ?_, ⟨⟨by rw [hf2 29 (by decide)]; exact h29, fun j hj => absurd hj (Nat.not_lt_zero j)⟩, ⟨by decide, h8, fun j hj => absurd hj (Nat.not_lt_zero j), fun j hj => absurd hj (Nat.not_lt_zero j)⟩⟩, ⟨(hs.1.fr hf1 (by decide)).fr hf2 (by decide), (hs.2.1.fr hf1 (by decide) (by decide)).fr hf2 (by decide) (by decide), hs.2.2⟩⟩
  obtain ⟨k1, k2, k3⟩ := hkk hb
  exact ⟨(k1.fr hf1 (by decide)).fr hf2 (by decide), (k2.fr hf1 (by decide)).fr hf2 (by decide), k3⟩
theorem law_39 (hL : L ≤ 3072) (hi : i + 6 ≤ L) (hI : Inv M N) (kk : ∀ M' N', Inv M' N' → zW (L, xs) 232 1377 [(0, .ref 3001), (1, .ref 0), (2, .ref 44), (3, .int (nI i))] [] M' N' Q) : zW (L, xs) 232 1292 [(0, .ref 3001), (1, .ref 0), (2, .ref 44), (3, .int (nI i))] [] M N Q := by
  obtain ⟨S, n, F, b, K, tb, tl, B, hI⟩ := hI
  have hO := hI.2.2.1
  refine zs rfl rfl rfl ?_
  refine zclQ rfl rfl (c_image hI.1.1) ?_
  rintro v1 M1 N1 ⟨rfl, rfl, hf1, h06, hv1⟩
  refine zs rfl rfl rfl ?_
  refine zclQ rfl rfl (m_image (hI.2.1.1.fr hf1 (by decide))) ?_
  rintro v2 M2 N2 ⟨rfl, rfl, hf2, h445, h448, hr2⟩
  first | refine zbt rfl rfl rfl rfl ?_ | refine zs rfl rfl rfl ?_
  obtain ⟨hc1, hm1, _, hk, hkk, ht, hs⟩ := hI
  refine kk M2 _ ⟨S, n, F, true, S, tb, tl, B, ⟨(hc1.1.fr hf1 (by decide)).fr hf2 (by decide), fun k hk => by rw [hf2 35 (by decide), hf1 35 (by decide)]; exact hc1.2 k hk⟩, (hm1.fr hf1 (by decide) (by decide)).fr hf2 (by decide) (by decide), hO, ⟨by rw [hf2 0 (by decide)]; exact h06, h445⟩, fun _ => ⟨hv1.fr hf2 (by decide), hr2, n, hO⟩, ⟨(ht.1.fr hf1 (by decide) (by decide)).fr hf2 (by decide) (by decide), ⟨ht.2.1, by rw [h448, hf1 44 (by decide)]; exact ht.2.2.1, fun i hi => by rw [hf2 51 (by decide), hf1 51 (by decide)]; exact ht.2.2.2.1 i hi, ht.2.2.2.2⟩⟩, ⟨(hs.1.fr hf1 (by decide)).fr hf2 (by decide), (hs.2.1.fr hf1 (by decide) (by decide)).fr hf2 (by decide) (by decide), hs.2.2⟩⟩
theorem law_40 (hL : L ≤ 3072) (hi : i + 6 ≤ L) (hI : Inv M N) (kk : ∀ M' N', Inv M' N' → zW (L, xs) 232 1377 [(0, .ref 3001), (1, .ref 0), (2, .ref 44), (3, .int (nI i))] [] M' N' Q) : zW (L, xs) 232 1305 [(0, .ref 3001), (1, .ref 0), (2, .ref 44), (3, .int (nI i))] [] M N Q := by
  obtain ⟨S, n, F, b, K, tb, tl, B, hI⟩ := hI
  have hO := hI.2.2.1
  cases b with
  | true =>
    obtain ⟨hc1, hm1, _, hk, hkk, ht, hs⟩ := hI
    obtain ⟨k1, k2, nk, k3⟩ := hkk rfl
    refine zs rfl rfl rfl ?_
    refine zclQ rfl rfl (c_undo1 hk.1 k1) ?_
    rintro v1 M1 N1 ⟨rfl, rfl, hf1, hv1⟩
    refine zs rfl rfl rfl ?_
    refine zclQ rfl rfl (m_undo1 (by rw [hf1 44 (by decide)]; exact hk.2) (k2.fr hf1 (by decide))) ?_
    rintro v2 M2 N2 ⟨rfl, rfl, hf2, hr2⟩
    first | refine zbt rfl rfl rfl rfl ?_ | refine zs rfl rfl rfl ?_
    exact kk M2 _ ⟨K, nk, F, true, K, tb, tl, B, ⟨hv1.fr hf2 (by decide), fun k hk => by rw [hf2 35 (by decide), hf1 35 (by decide)]; exact hc1.2 k hk⟩, ⟨hr2, fun k hk => by rw [hf2 50 (by decide), hf1 50 (by decide)]; exact hm1.2.1 k hk, by rw [hf2 50 (by decide), hf1 50 (by decide)]; exact hm1.2.2⟩, k3, ⟨by rw [hf2 0 (by decide), hf1 0 (by decide)]; exact hk.1, by rw [hf2 44 (by decide), hf1 44 (by decide)]; exact hk.2⟩, fun _ => ⟨(k1.fr hf1 (by decide)).fr hf2 (by decide), (k2.fr hf1 (by decide)).fr hf2 (by decide), nk, k3⟩, ⟨(ht.1.fr hf1 (by decide) (by decide)).fr hf2 (by decide) (by decide), (ht.2.fr hf1 (by decide) (by decide)).fr hf2 (by decide) (by decide)⟩, ⟨(hs.1.fr hf1 (by decide)).fr hf2 (by decide), (hs.2.1.fr hf1 (by decide) (by decide)).fr hf2 (by decide) (by decide), hs.2.2⟩⟩
  | false =>
    refine zs rfl rfl rfl ?_
    refine zclQ rfl rfl (c_undo0 hI.1 hI.2.2.2.1.1) ?_
    intro v1 M1 N1 h1
    have e1 := h1.1
    subst e1
    refine zs rfl rfl rfl ?_
    refine zclQ rfl rfl (m_undo0 (inv_mid hI h1.2.2.1 (by decide) (by decide)) (by rw [h1.2.2.1 44 (by decide)]; exact hI.2.2.2.1.2)) ?_
    intro v2 M2 N2 h2
    have e2 := h2.1
    subst e2
    first | refine zbt rfl rfl rfl rfl ?_ | refine zs rfl rfl rfl ?_
    exact kk M2 N2 (inv_road hI h1 h2 ⟨n, hO⟩)
theorem law_41 (hL : L ≤ 3072) (hi : i + 6 ≤ L) (hI : Inv M N) (kk : ∀ M' N', Inv M' N' → zW (L, xs) 232 1377 [(0, .ref 3001), (1, .ref 0), (2, .ref 44), (3, .int (nI i))] [] M' N' Q) : zW (L, xs) 232 1318 [(0, .ref 3001), (1, .ref 0), (2, .ref 44), (3, .int (nI i))] [] M N Q := by
  obtain ⟨S, n, F, b, K, tb, tl, B, hI⟩ := hI
  have hO := hI.2.2.1
  refine zs rfl rfl rfl ?_
  refine zcl rfl rfl (c_tear (b := b) hI.2.2.2.1.1) ?_
  refine zs rfl rfl rfl ?_
  refine zcl rfl rfl (m_tear (b := b) hI.2.2.2.1.2) ?_
  first | refine zbt rfl rfl rfl rfl ?_ | refine zs rfl rfl rfl ?_
  obtain ⟨hc1, hm1, _, hk, hkk, ht, hs⟩ := hI
  have hf1 : Fr [0] M (z_up M 0 6 0) := Fr.up (by decide)
  have hf2 : Fr [44] (z_up M 0 6 0) (z_up (z_up M 0 6 0) 44 5 0) := Fr.up (by decide)
  refine kk _ _ ⟨S, n, F, false, K, tb, tl, B, ⟨(hc1.1.fr hf1 (by decide)).fr hf2 (by decide), fun k hk => by rw [hf2 35 (by decide), hf1 35 (by decide)]; exact hc1.2 k hk⟩, (hm1.fr hf1 (by decide) (by decide)).fr hf2 (by decide) (by decide), hO, ⟨rfl, rfl⟩, fun h => (nomatch h), ⟨(ht.1.fr hf1 (by decide) (by decide)).fr hf2 (by decide) (by decide), ⟨ht.2.1, ht.2.2.1, fun i hi => by rw [hf2 51 (by decide), hf1 51 (by decide)]; exact ht.2.2.2.1 i hi, ht.2.2.2.2⟩⟩, ⟨(hs.1.fr hf1 (by decide)).fr hf2 (by decide), (hs.2.1.fr hf1 (by decide) (by decide)).fr hf2 (by decide) (by decide), hs.2.2⟩⟩
end LAW2
