/-! The model's calls: the roads. -/
def mL : List Nat := [44, 45, 47, 48, 49, 50, 55]
def mS' : List Nat := [45, 47, 48, 49, 50, 55]
def mC (M : zM) (S F : zS) : Prop := Rw M 45 S ∧ (∀ k, k < 7 → M 50 (k + 1) = F k) ∧ M 50 0 = isum 7 F
def mP (M : zM) (N : zN) (r : zR) : Option Value → zM → zN → Prop := fun v M' N' => v = some (.int r.1) ∧ N' = N ∧ Fr mL M M' ∧ (∀ c, c < 13 → M' 44 c = M 44 c) ∧ mC M' r.2.1 r.2.2
theorem isum_bump (F : zS) : ∀ c, c < 7 → isum 7 (bump F c) = isum 7 F + 1 := by
  intro c hc
  have h : c = 0 ∨ c = 1 ∨ c = 2 ∨ c = 3 ∨ c = 4 ∨ c = 5 ∨ c = 6 := by omega
  rcases h with rfl | rfl | rfl | rfl | rfl | rfl | rfl <;> (simp only [bump, isum, upd]; simp; grind)
theorem anc_iff (t : Int32) : (0 ≤ t - 100 ∧ t - 100 ≤ 5) ↔ (100 ≤ t ∧ t ≤ 105) := by
  rw [i_le, i_le, i_le, i_le, Int32.toInt_sub, t_0, t_5, t_100, t_105]
  have h := t_rng t
  simp only [Int.bmod]
  split <;> omega
section MPUB
variable {X : Nat × (Nat → Int32)} {M M2 : zM} {N : zN} {S F T : zS} {n : Nat}
theorem mC.r (h : mC M S F) : Rw M 45 S := h.1
theorem mC.n0 (h : mC M S F) (hO : Ok S n) : M 45 0 = nI n := h.1.n0 hO.b
theorem mC.fr {l : List Nat} (h : mC M S F) (hf : Fr l M M2) (h1 : 45 ∉ l) (h2 : 50 ∉ l) : mC M2 S F := ⟨h.1.fr hf h1, fun k hk => by rw [hf 50 h2]; exact h.2.1 k hk, by rw [hf 50 h2]; exact h.2.2⟩
theorem mC.to {l : List Nat} {S' : zS} (h : mC M S F) (hf : Fr l M M2) (h2 : 50 ∉ l) (hr : Rw M2 45 S') : mC M2 S' F := ⟨hr, fun k hk => by rw [hf 50 h2]; exact h.2.1 k hk, by rw [hf 50 h2]; exact h.2.2⟩
theorem mP_ok {a : Int32} {r : zR} {S' : zS} (hr : r = (a, S', F)) (hf : Fr mS' M M2) (hC : mC M2 S' F) : mP M N r (some (.int a)) M2 N := by
  subst hr
  exact ⟨rfl, rfl, hf.mono (by decide), fun c _ => by rw [hf 44 (by decide)], hC⟩
theorem mP_ref {c : Nat} {r : zR} (hr : r = rf S F c) (hf : Fr mS' M M2) (hC : mC M2 S F) (hc : c < 7 := by decide) : mP M N r (some (.int (fd c))) (z_up (z_up M2 50 0 (M2 50 0 + 1)) 50 (c + 1) (M2 50 (c + 1) + 1)) N := by
  subst hr
  have hf2 : Fr mS' M (z_up (z_up M2 50 0 (M2 50 0 + 1)) 50 (c + 1) (M2 50 (c + 1) + 1)) := (hf.trans (Fr.up (by decide))).trans (Fr.up (by decide))
  refine ⟨rfl, rfl, hf2.mono (by decide), fun k _ => by rw [hf2 44 (by decide)], ?_, fun k hk => ?_, ?_⟩
  · exact hC.1.fr ((Fr.up (l := [50]) (by decide)).trans (Fr.up (by decide))) (by decide)
  · rw [z_up_a]
    show _ = if k = c then F c + 1 else F k
    by_cases e : k = c
    · rw [if_pos (by omega), if_pos e, hC.2.1 c hc]
    · rw [if_neg (by omega), if_neg e, z_up_a, if_neg (by omega)]; exact hC.2.1 k hk
  · rw [z_up_a, if_neg (by omega), z_up_a, if_pos rfl, hC.2.2]
    exact (isum_bump F c hc).symm
theorem m_finds_0 : zE1 X 115 [.ref 44, .int (-1000000001)] M N (some (.int (-1000000001))) (z_up (z_up M 50 0 (M 50 0 + 1)) 50 1 (M 50 1 + 1)) N := by
  refine zE1i [(0, .ref 44), (1, .int (-1000000001))] rfl ?_
  have e : (-1000000001 : Int32) - (-1000000001) + 1 = nI 1 := by decide
  refine zs rfl rfl rfl ?_
  refine zs rfl rfl rfl ?_
  refine zs rfl rfl rfl ?_
  refine zs rfl rfl rfl ?_
  refine zal (i := 0) rfl rfl rfl (by decide) (by decide) ?_
  refine zs rfl rfl rfl ?_
  refine zs rfl rfl rfl ?_
  refine zas (i := 0) rfl rfl rfl rfl (by decide) (by decide) ?_
  refine zs rfl rfl rfl ?_
  refine zs rfl rfl rfl ?_
  refine zs rfl rfl rfl ?_
  refine zs rfl rfl rfl ?_
  refine zs rfl rfl rfl ?_
  refine zs rfl rfl rfl ?_
  refine zs rfl rfl rfl ?_
  refine zto rfl e ?_
  refine zs rfl rfl rfl ?_
  refine zal rfl rfl rfl (by omega) (by decide) ?_
  refine zs rfl rfl rfl ?_
  refine zs rfl rfl rfl ?_
  refine zas rfl rfl rfl rfl (by omega) (by decide) ?_
  refine zs rfl rfl rfl ?_
  exact zret rfl rfl ⟨rfl, rfl, rfl⟩
theorem m_finds_1 : zE1 X 115 [.ref 44, .int (-1000000002)] M N (some (.int (-1000000002))) (z_up (z_up M 50 0 (M 50 0 + 1)) 50 2 (M 50 2 + 1)) N := by
  refine zE1i [(0, .ref 44), (1, .int (-1000000002))] rfl ?_
  have e : (-1000000001 : Int32) - (-1000000002) + 1 = nI 2 := by decide
  refine zs rfl rfl rfl ?_
  refine zs rfl rfl rfl ?_
  refine zs rfl rfl rfl ?_
  refine zs rfl rfl rfl ?_
  refine zal (i := 0) rfl rfl rfl (by decide) (by decide) ?_
  refine zs rfl rfl rfl ?_
  refine zs rfl rfl rfl ?_
  refine zas (i := 0) rfl rfl rfl rfl (by decide) (by decide) ?_
  refine zs rfl rfl rfl ?_
  refine zs rfl rfl rfl ?_
  refine zs rfl rfl rfl ?_
  refine zs rfl rfl rfl ?_
  refine zs rfl rfl rfl ?_
  refine zs rfl rfl rfl ?_
  refine zs rfl rfl rfl ?_
  refine zto rfl e ?_
  refine zs rfl rfl rfl ?_
  refine zal rfl rfl rfl (by omega) (by decide) ?_
  refine zs rfl rfl rfl ?_
  refine zs rfl rfl rfl ?_
  refine zas rfl rfl rfl rfl (by omega) (by decide) ?_
  refine zs rfl rfl rfl ?_
  exact zret rfl rfl ⟨rfl, rfl, rfl⟩
theorem m_finds_2 : zE1 X 115 [.ref 44, .int (-1000000003)] M N (some (.int (-1000000003))) (z_up (z_up M 50 0 (M 50 0 + 1)) 50 3 (M 50 3 + 1)) N := by
  refine zE1i [(0, .ref 44), (1, .int (-1000000003))] rfl ?_
  have e : (-1000000001 : Int32) - (-1000000003) + 1 = nI 3 := by decide
  refine zs rfl rfl rfl ?_
  refine zs rfl rfl rfl ?_
  refine zs rfl rfl rfl ?_
  refine zs rfl rfl rfl ?_
  refine zal (i := 0) rfl rfl rfl (by decide) (by decide) ?_
  refine zs rfl rfl rfl ?_
  refine zs rfl rfl rfl ?_
  refine zas (i := 0) rfl rfl rfl rfl (by decide) (by decide) ?_
  refine zs rfl rfl rfl ?_
  refine zs rfl rfl rfl ?_
  refine zs rfl rfl rfl ?_
  refine zs rfl rfl rfl ?_
  refine zs rfl rfl rfl ?_
  refine zs rfl rfl rfl ?_
  refine zs rfl rfl rfl ?_
  refine zto rfl e ?_
  refine zs rfl rfl rfl ?_
  refine zal rfl rfl rfl (by omega) (by decide) ?_
  refine zs rfl rfl rfl ?_
  refine zs rfl rfl rfl ?_
  refine zas rfl rfl rfl rfl (by omega) (by decide) ?_
  refine zs rfl rfl rfl ?_
  exact zret rfl rfl ⟨rfl, rfl, rfl⟩
theorem m_finds_3 : zE1 X 115 [.ref 44, .int (-1000000004)] M N (some (.int (-1000000004))) (z_up (z_up M 50 0 (M 50 0 + 1)) 50 4 (M 50 4 + 1)) N := by
  refine zE1i [(0, .ref 44), (1, .int (-1000000004))] rfl ?_
  have e : (-1000000001 : Int32) - (-1000000004) + 1 = nI 4 := by decide
  refine zs rfl rfl rfl ?_
  refine zs rfl rfl rfl ?_
  refine zs rfl rfl rfl ?_
  refine zs rfl rfl rfl ?_
  refine zal (i := 0) rfl rfl rfl (by decide) (by decide) ?_
  refine zs rfl rfl rfl ?_
  refine zs rfl rfl rfl ?_
  refine zas (i := 0) rfl rfl rfl rfl (by decide) (by decide) ?_
  refine zs rfl rfl rfl ?_
  refine zs rfl rfl rfl ?_
  refine zs rfl rfl rfl ?_
  refine zs rfl rfl rfl ?_
  refine zs rfl rfl rfl ?_
  refine zs rfl rfl rfl ?_
  refine zs rfl rfl rfl ?_
  refine zto rfl e ?_
  refine zs rfl rfl rfl ?_
  refine zal rfl rfl rfl (by omega) (by decide) ?_
  refine zs rfl rfl rfl ?_
  refine zs rfl rfl rfl ?_
  refine zas rfl rfl rfl rfl (by omega) (by decide) ?_
  refine zs rfl rfl rfl ?_
  exact zret rfl rfl ⟨rfl, rfl, rfl⟩
theorem m_finds_4 : zE1 X 115 [.ref 44, .int (-1000000005)] M N (some (.int (-1000000005))) (z_up (z_up M 50 0 (M 50 0 + 1)) 50 5 (M 50 5 + 1)) N := by
  refine zE1i [(0, .ref 44), (1, .int (-1000000005))] rfl ?_
  have e : (-1000000001 : Int32) - (-1000000005) + 1 = nI 5 := by decide
  refine zs rfl rfl rfl ?_
  refine zs rfl rfl rfl ?_
  refine zs rfl rfl rfl ?_
  refine zs rfl rfl rfl ?_
  refine zal (i := 0) rfl rfl rfl (by decide) (by decide) ?_
  refine zs rfl rfl rfl ?_
  refine zs rfl rfl rfl ?_
  refine zas (i := 0) rfl rfl rfl rfl (by decide) (by decide) ?_
  refine zs rfl rfl rfl ?_
  refine zs rfl rfl rfl ?_
  refine zs rfl rfl rfl ?_
  refine zs rfl rfl rfl ?_
  refine zs rfl rfl rfl ?_
  refine zs rfl rfl rfl ?_
  refine zs rfl rfl rfl ?_
  refine zto rfl e ?_
  refine zs rfl rfl rfl ?_
  refine zal rfl rfl rfl (by omega) (by decide) ?_
  refine zs rfl rfl rfl ?_
  refine zs rfl rfl rfl ?_
  refine zas rfl rfl rfl rfl (by omega) (by decide) ?_
  refine zs rfl rfl rfl ?_
  exact zret rfl rfl ⟨rfl, rfl, rfl⟩
theorem m_finds_5 : zE1 X 115 [.ref 44, .int (-1000000006)] M N (some (.int (-1000000006))) (z_up (z_up M 50 0 (M 50 0 + 1)) 50 6 (M 50 6 + 1)) N := by
  refine zE1i [(0, .ref 44), (1, .int (-1000000006))] rfl ?_
  have e : (-1000000001 : Int32) - (-1000000006) + 1 = nI 6 := by decide
  refine zs rfl rfl rfl ?_
  refine zs rfl rfl rfl ?_
  refine zs rfl rfl rfl ?_
  refine zs rfl rfl rfl ?_
  refine zal (i := 0) rfl rfl rfl (by decide) (by decide) ?_
  refine zs rfl rfl rfl ?_
  refine zs rfl rfl rfl ?_
  refine zas (i := 0) rfl rfl rfl rfl (by decide) (by decide) ?_
  refine zs rfl rfl rfl ?_
  refine zs rfl rfl rfl ?_
  refine zs rfl rfl rfl ?_
  refine zs rfl rfl rfl ?_
  refine zs rfl rfl rfl ?_
  refine zs rfl rfl rfl ?_
  refine zs rfl rfl rfl ?_
  refine zto rfl e ?_
  refine zs rfl rfl rfl ?_
  refine zal rfl rfl rfl (by omega) (by decide) ?_
  refine zs rfl rfl rfl ?_
  refine zs rfl rfl rfl ?_
  refine zas rfl rfl rfl rfl (by omega) (by decide) ?_
  refine zs rfl rfl rfl ?_
  exact zret rfl rfl ⟨rfl, rfl, rfl⟩
theorem m_finds_6 : zE1 X 115 [.ref 44, .int (-1000000007)] M N (some (.int (-1000000007))) (z_up (z_up M 50 0 (M 50 0 + 1)) 50 7 (M 50 7 + 1)) N := by
  refine zE1i [(0, .ref 44), (1, .int (-1000000007))] rfl ?_
  have e : (-1000000001 : Int32) - (-1000000007) + 1 = nI 7 := by decide
  refine zs rfl rfl rfl ?_
  refine zs rfl rfl rfl ?_
  refine zs rfl rfl rfl ?_
  refine zs rfl rfl rfl ?_
  refine zal (i := 0) rfl rfl rfl (by decide) (by decide) ?_
  refine zs rfl rfl rfl ?_
  refine zs rfl rfl rfl ?_
  refine zas (i := 0) rfl rfl rfl rfl (by decide) (by decide) ?_
  refine zs rfl rfl rfl ?_
  refine zs rfl rfl rfl ?_
  refine zs rfl rfl rfl ?_
  refine zs rfl rfl rfl ?_
  refine zs rfl rfl rfl ?_
  refine zs rfl rfl rfl ?_
  refine zs rfl rfl rfl ?_
  refine zto rfl e ?_
  refine zs rfl rfl rfl ?_
  refine zal rfl rfl rfl (by omega) (by decide) ?_
  refine zs rfl rfl rfl ?_
  refine zs rfl rfl rfl ?_
  refine zas rfl rfl rfl rfl (by omega) (by decide) ?_
  refine zs rfl rfl rfl ?_
  exact zret rfl rfl ⟨rfl, rfl, rfl⟩
theorem m_becomes {i : Nat} (hi : i < 82) (hr : Rw M 45 S) (v : Int32) : zE1 X 116 [.ref 44, .int (nI i), .int v] M N (some (.int (S i))) (z_up M 45 i v) N := by
  refine zE1i [(0, .ref 44), (1, .int (nI i)), (2, .int v)] rfl ?_
  refine zs rfl rfl rfl ?_
  refine zs rfl rfl rfl ?_
  refine zs rfl rfl rfl ?_
  refine zal rfl rfl rfl (by omega) (by decide) ?_
  try refine zto rfl (Rw.at (by assumption) (by omega)) ?_
  refine zs rfl rfl rfl ?_
  refine zs rfl rfl rfl ?_
  refine zs rfl rfl rfl ?_
  refine zs rfl rfl rfl ?_
  refine zs rfl rfl rfl ?_
  refine zas rfl rfl rfl rfl (by omega) (by decide) ?_
  refine zs rfl rfl rfl ?_
  exact zret rfl rfl ⟨rfl, rfl, rfl⟩
theorem m_anchor (hC : mC M S F) (a v : Int32) : zV X 139 [.ref 44, .int a, .int v] M N (mP M N (r_anchor S F a v)) := by
  refine zVi [(0, .ref 44), (1, .int a), (2, .int v)] rfl ?_
  unfold r_anchor
  refine zs rfl rfl rfl ?_
  refine zcl rfl rfl (m_isAnchor a) ?_
  by_cases h : 0 ≤ a ∧ a ≤ 5
  · rw [decide_eq_true h, if_pos h]
    obtain ⟨j, hj, rfl⟩ := r6 h
    rw [nI_clamp (by omega)]
    refine zs rfl rfl rfl ?_
    refine zs rfl rfl rfl ?_
    refine zs rfl rfl rfl ?_
    refine zs rfl rfl rfl ?_
    refine zs rfl rfl rfl ?_
    refine zcl rfl rfl (m_isInI v 0 9999) ?_
    by_cases h2 : 0 ≤ v ∧ v ≤ 9999
    · rw [decide_eq_true h2, if_pos h2]
      refine zs rfl rfl rfl ?_
      refine zs rfl rfl rfl ?_
      refine zs rfl rfl rfl ?_
      refine zs rfl rfl rfl ?_
      refine zs rfl rfl rfl ?_
      refine zto rfl (nI_add 3 j) ?_
      refine zs rfl rfl rfl ?_
      refine zcl rfl rfl (m_becomes (i := 3 + j) (by omega) hC.1 v) ?_
      refine zs rfl rfl rfl ?_
      exact zret rfl rfl (mP_ok (S' := uph S j v) (F := F) rfl (Fr.up (by decide)) (hC.to (Fr.up (l := [45]) (by decide)) (by decide) (hC.1.up _ _)))
    · rw [decide_eq_false h2, if_neg h2]
      refine zs rfl rfl rfl ?_
      refine zs rfl rfl rfl ?_
      refine zs rfl rfl rfl ?_
      refine zcl rfl rfl (m_finds_0) ?_
      exact zret rfl rfl (mP_ref (S := S) (F := F) (c := 0) rfl (Fr.rfl') (hC))
  · rw [decide_eq_false h, if_neg h]
    refine zs rfl rfl rfl ?_
    refine zs rfl rfl rfl ?_
    refine zs rfl rfl rfl ?_
    refine zcl rfl rfl (m_finds_0) ?_
    exact zret rfl rfl (mP_ref (S := S) (F := F) (c := 0) rfl (Fr.rfl') (hC))
theorem m_odds (hC : mC M S F) (a v : Int32) : zV X 150 [.ref 44, .int a, .int v] M N (mP M N (r_odds S F a v)) := by
  refine zVi [(0, .ref 44), (1, .int a), (2, .int v)] rfl ?_
  unfold r_odds
  refine zs rfl rfl rfl ?_
  refine zcl rfl rfl (m_isWind a) ?_
  by_cases h : 0 ≤ a ∧ a ≤ 12
  · rw [decide_eq_true h, if_pos h]
    obtain ⟨j, hj, rfl⟩ := r13 h
    rw [nI_clamp (by omega)]
    refine zs rfl rfl rfl ?_
    refine zs rfl rfl rfl ?_
    refine zs rfl rfl rfl ?_
    refine zs rfl rfl rfl ?_
    refine zs rfl rfl rfl ?_
    refine zcl rfl rfl (m_isInI v 0 99) ?_
    by_cases h2 : 0 ≤ v ∧ v ≤ 99
    · rw [decide_eq_true h2, if_pos h2]
      refine zs rfl rfl rfl ?_
      refine zs rfl rfl rfl ?_
      refine zs rfl rfl rfl ?_
      refine zs rfl rfl rfl ?_
      refine zs rfl rfl rfl ?_
      refine zto rfl (nI_add 9 j) ?_
      refine zs rfl rfl rfl ?_
      refine zcl rfl rfl (m_becomes (i := 9 + j) (by omega) hC.1 v) ?_
      refine zs rfl rfl rfl ?_
      exact zret rfl rfl (mP_ok (S' := upo S j v) (F := F) rfl (Fr.up (by decide)) (hC.to (Fr.up (l := [45]) (by decide)) (by decide) (hC.1.up _ _)))
    · rw [decide_eq_false h2, if_neg h2]
      refine zs rfl rfl rfl ?_
      refine zs rfl rfl rfl ?_
      refine zs rfl rfl rfl ?_
      refine zcl rfl rfl (m_finds_0) ?_
      exact zret rfl rfl (mP_ref (S := S) (F := F) (c := 0) rfl (Fr.rfl') (hC))
  · rw [decide_eq_false h, if_neg h]
    refine zs rfl rfl rfl ?_
    refine zs rfl rfl rfl ?_
    refine zs rfl rfl rfl ?_
    refine zcl rfl rfl (m_finds_0) ?_
    exact zret rfl rfl (mP_ref (S := S) (F := F) (c := 0) rfl (Fr.rfl') (hC))
theorem fr55 (h : Fr [55] M M2) : Fr mS' M M2 := h.mono (by decide)
theorem fr47 (h : Fr [45, 47, 55] M M2) : Fr mS' M M2 := h.mono (by decide)
theorem m_anchorOf (hC : mC M S F) (hO : Ok S n) (a w : Int32) : zV X 141 [.ref 44, .int a, .int w] M N (mP M N (r_anchorOf S F n a w)) := by
  refine zVi [(0, .ref 44), (1, .int a), (2, .int w)] rfl ?_
  unfold r_anchorOf
  have hr := hC.1
  have hB := hO.b
  refine zs rfl rfl rfl ?_
  refine zcl rfl rfl (m_isAnchor a) ?_
  by_cases h : 0 ≤ a ∧ a ≤ 5
  · rw [decide_eq_true h, if_pos h]
    obtain ⟨j, hj, rfl⟩ := r6 h
    rw [nI_clamp (by omega)]
    have e3 : (3 : Int32) + nI j = nI (3 + j) := nI_add 3 j
    have e : (100 : Int32) + nI j = nI (100 + j) := nI_add 100 j
    refine zs rfl rfl rfl ?_
    refine zs rfl rfl rfl ?_
    refine zs rfl rfl rfl ?_
    refine zs rfl rfl rfl ?_
    refine zs rfl rfl rfl ?_
    refine zcl rfl rfl (m_isInI w 0 3) ?_
    by_cases h2 : 0 ≤ w ∧ w ≤ 3
    · rw [decide_eq_true h2]
      refine zs rfl rfl rfl ?_
      refine zs rfl rfl rfl ?_
      refine zs rfl rfl rfl ?_
      refine zs rfl rfl rfl ?_
      refine zs rfl rfl rfl ?_
      refine zal (i := 2) rfl rfl rfl (by decide) (by decide) ?_
      try refine zto rfl (Rw.at (by assumption) (by omega)) ?_
      refine zclQ rfl rfl (m_findStrains hr hB (S 2)) ?_
      rintro v2 M2 N2 ⟨rfl, rfl, hf2, hT⟩
      have hr2 := hr.fr hf2 (by decide)
      have hC2 := hC.fr hf2 (by decide) (by decide)
      rcases r4 h2 with rfl | rfl | rfl | rfl
      · rw [if_pos (by decide)]
        refine zs rfl rfl rfl ?_
        refine zs rfl rfl rfl ?_
        refine zs rfl rfl rfl ?_
        refine zs rfl rfl rfl ?_
        refine zs rfl rfl rfl ?_
        refine zs rfl rfl rfl ?_
        refine zs rfl rfl rfl ?_
        refine zto rfl e3 ?_
        refine zal rfl rfl rfl (by omega) (by decide) ?_
        refine zto rfl (hr2 _ (by omega)) ?_
        refine zs rfl rfl rfl ?_
        exact zret rfl rfl (mP_ok (S' := S) (F := F) rfl (fr55 hf2) (hC2))
      · rw [if_neg (by decide), if_pos (by decide)]
        refine zs rfl rfl rfl ?_
        refine zs rfl rfl rfl ?_
        refine zs rfl rfl rfl ?_
        refine zs rfl rfl rfl ?_
        refine zs rfl rfl rfl ?_
        refine zs rfl rfl rfl ?_
        refine zs rfl rfl rfl ?_
        refine zcl rfl rfl (m_loadOf hr2 hB hT j) ?_
        refine zs rfl rfl rfl ?_
        exact zret rfl rfl (mP_ok (S' := S) (F := F) rfl (fr55 hf2) (hC2))
      · rw [if_neg (by decide), if_neg (by decide), if_pos (by decide)]
        refine zs rfl rfl rfl ?_
        refine zs rfl rfl rfl ?_
        refine zs rfl rfl rfl ?_
        refine zs rfl rfl rfl ?_
        refine zs rfl rfl rfl ?_
        refine zs rfl rfl rfl ?_
        refine zs rfl rfl rfl ?_
        refine zs rfl rfl rfl ?_
        refine zs rfl rfl rfl ?_
        refine zs rfl rfl rfl ?_
        refine zs rfl rfl rfl ?_
        refine zs rfl rfl rfl ?_
        refine zto rfl e ?_
        refine zcl rfl rfl (m_on hr2 hB.s0 hB.le _) ?_
        refine zs rfl rfl rfl ?_
        exact zret rfl rfl (mP_ok (S' := S) (F := F) rfl (fr55 hf2) (hC2))
      · rw [if_neg (by decide), if_neg (by decide), if_neg (by decide), if_pos (by decide)]
        refine zs rfl rfl rfl ?_
        refine zs rfl rfl rfl ?_
        refine zs rfl rfl rfl ?_
        refine zs rfl rfl rfl ?_
        refine zs rfl rfl rfl ?_
        refine zs rfl rfl rfl ?_
        refine zs rfl rfl rfl ?_
        refine zs rfl rfl rfl ?_
        refine zs rfl rfl rfl ?_
        refine zs rfl rfl rfl ?_
        refine zcl rfl rfl (m_allOn hr2 hB.s0 hB.le hB.l hB.lv j) ?_
        exact zret rfl rfl (mP_ok (S' := S) (F := F) rfl (fr55 hf2) (hC2))
    · rw [decide_eq_false h2]
      have k0 : w ≠ 0 := fun q => h2 (by rw [q]; decide)
      have k1 : w ≠ 1 := fun q => h2 (by rw [q]; decide)
      have k2 : w ≠ 2 := fun q => h2 (by rw [q]; decide)
      have k3 : w ≠ 3 := fun q => h2 (by rw [q]; decide)
      rw [if_neg k0, if_neg k1, if_neg k2, if_neg k3]
      refine zs rfl rfl rfl ?_
      refine zs rfl rfl rfl ?_
      refine zs rfl rfl rfl ?_
      refine zcl rfl rfl (m_finds_0) ?_
      exact zret rfl rfl (mP_ref (S := S) (F := F) (c := 0) rfl (Fr.rfl') (hC))
  · rw [decide_eq_false h, if_neg h]
    refine zs rfl rfl rfl ?_
    refine zs rfl rfl rfl ?_
    refine zs rfl rfl rfl ?_
    refine zcl rfl rfl (m_finds_0) ?_
    exact zret rfl rfl (mP_ref (S := S) (F := F) (c := 0) rfl (Fr.rfl') (hC))
theorem m_ship (hC : mC M S F) (hO : Ok S n) (k s : Int32) : zV X 143 [.ref 44, .int k, .int s] M N (mP M N (r_ship S F n k s)) := by
  refine zVi [(0, .ref 44), (1, .int k), (2, .int s)] rfl ?_
  unfold r_ship
  have hn0 := hC.n0 hO
  have hle := hO.le
  refine zs rfl rfl rfl ?_
  refine zs rfl rfl rfl ?_
  refine zs rfl rfl rfl ?_
  refine zs rfl rfl rfl ?_
  refine zcl rfl rfl (m_isInI k 0 5) ?_
  by_cases h : 0 ≤ k ∧ k ≤ 5
  · rw [decide_eq_true h, if_pos h]
    refine zs rfl rfl rfl ?_
    refine zs rfl rfl rfl ?_
    refine zs rfl rfl rfl ?_
    refine zs rfl rfl rfl ?_
    refine zs rfl rfl rfl ?_
    refine zcl rfl rfl (m_isInI s 1 99) ?_
    by_cases h2 : 1 ≤ s ∧ s ≤ 99
    · rw [decide_eq_true h2, if_pos h2]
      refine zs rfl rfl rfl ?_
      refine zs rfl rfl rfl ?_
      refine zs rfl rfl rfl ?_
      refine zs rfl rfl rfl ?_
      refine zal (i := 0) rfl rfl rfl (by decide) (by decide) ?_
      try refine zto rfl hn0 ?_
      refine zs rfl rfl rfl ?_
      by_cases h3 : n < 12
      · rw [if_pos h3]
        have e : nI n ≠ 12 := fun q => by have := nI_inj (b := 12) (by omega) (by decide) q; omega
        refine zbt (e) rfl rfl rfl ?_
        refine zs rfl rfl rfl ?_
        refine zs rfl rfl rfl ?_
        refine zs rfl rfl rfl ?_
        refine zclQ rfl rfl (m_comes hC.1 hO.b h3 k s) ?_
        rintro v2 M2 N2 ⟨rfl, rfl, hf2, hr2⟩
        exact zret rfl rfl (mP_ok (S' := ads S n k s) (F := F) rfl (hf2.mono (by decide)) (hC.to hf2 (by decide) hr2))
      · rw [if_neg h3]
        have e : ¬ nI n ≠ 12 := fun q => q (by rw [show n = 12 by omega]; rfl)
        refine zbf (e) rfl rfl rfl ?_
        refine zs rfl rfl rfl ?_
        refine zs rfl rfl rfl ?_
        refine zcl rfl rfl (m_finds_1) ?_
        refine zs rfl rfl rfl ?_
        exact zret rfl rfl (mP_ref (S := S) (F := F) (c := 1) rfl (Fr.rfl') (hC))
    · rw [decide_eq_false h2, if_neg h2]
      refine zs rfl rfl rfl ?_
      refine zs rfl rfl rfl ?_
      refine zs rfl rfl rfl ?_
      refine zcl rfl rfl (m_finds_0) ?_
      exact zret rfl rfl (mP_ref (S := S) (F := F) (c := 0) rfl (Fr.rfl') (hC))
  · rw [decide_eq_false h, if_neg h]
    refine zs rfl rfl rfl ?_
    refine zs rfl rfl rfl ?_
    refine zs rfl rfl rfl ?_
    refine zcl rfl rfl (m_finds_0) ?_
    exact zret rfl rfl (mP_ref (S := S) (F := F) (c := 0) rfl (Fr.rfl') (hC))
theorem zsw5 {j pc : Nat} {L : zL} {st r : List Value} {Q : Option Value → zM → zN → Prop} {nx tg a b : Nat} {v : Value} {d : Int} {offs : Array Int} {x : Int32} (he : z_P j pc = some (.tableswitch d 5 9 offs, nx, tg, a, b, v)) (hst : st = .int x :: r) (h : x = 0 ∨ x = 1 ∨ x = 2 ∨ x = 3 ∨ x = 4) {p : Nat} (hp : ((pc : Int) + d).toNat = p) (k : zW X j p L r M N Q) : zW X j pc L st M N Q := by
  refine zsw he hst (Or.inl ?_) hp k
  rcases h with rfl | rfl | rfl | rfl | rfl <;> decide
theorem r10 {x : Int32} (h : 0 ≤ x ∧ x ≤ 9) : x = 0 ∨ x = 1 ∨ x = 2 ∨ x = 3 ∨ x = 4 ∨ x = 5 ∨ x = 6 ∨ x = 7 ∨ x = 8 ∨ x = 9 := by
  obtain ⟨j, hj, rfl⟩ := nI_of2 (n := 9) t_9 (i_nlt.mpr h.1) h.2
  have : j = 0 ∨ j = 1 ∨ j = 2 ∨ j = 3 ∨ j = 4 ∨ j = 5 ∨ j = 6 ∨ j = 7 ∨ j = 8 ∨ j = 9 := by omega
  rcases this with rfl | rfl | rfl | rfl | rfl | rfl | rfl | rfl | rfl | rfl <;> decide
theorem m_of (hC : mC M S F) (hO : Ok S n) (s w : Int32) : zV X 144 [.ref 44, .int s, .int w] M N (mP M N (r_of S F n s w)) := by
  refine zVi [(0, .ref 44), (1, .int s), (2, .int w)] rfl ?_
  unfold r_of
  have hr := hC.1
  have hB := hO.b
  have hle := hO.le
  have hn0 := hC.n0 hO
  refine zs rfl rfl rfl ?_
  refine zs rfl rfl rfl ?_
  refine zcl rfl rfl (m_isShip hn0 s) ?_
  cases h : shp n s with
  | true =>
    rw [if_pos rfl]
    obtain ⟨j, hj, rfl⟩ := shp_of hle h
    rw [nI_clamp (by omega)]
    have hj12 : j < 12 := by omega
    refine zs rfl rfl rfl ?_
    refine zs rfl rfl rfl ?_
    refine zs rfl rfl rfl ?_
    refine zs rfl rfl rfl ?_
    refine zs rfl rfl rfl ?_
    refine zcl rfl rfl (m_isInI w 0 9) ?_
    by_cases h2 : 0 ≤ w ∧ w ≤ 9
    · rw [decide_eq_true h2]
      rcases r10 h2 with rfl | rfl | rfl | rfl | rfl | rfl | rfl | rfl | rfl | rfl
      · rw [if_pos rfl]
        refine zs rfl rfl rfl ?_
        refine zs rfl rfl rfl ?_
        refine zs rfl rfl rfl ?_
        refine zs rfl rfl rfl ?_
        refine zs rfl rfl rfl ?_
        refine zs rfl rfl rfl ?_
        refine zcl rfl rfl (m_is0 hr hj12) ?_
        exact zret rfl rfl (mP_ok (S' := S) (F := F) rfl (Fr.rfl') (hC))
      · rw [if_neg (by decide), if_pos rfl]
        refine zs rfl rfl rfl ?_
        refine zs rfl rfl rfl ?_
        refine zs rfl rfl rfl ?_
        refine zs rfl rfl rfl ?_
        refine zs rfl rfl rfl ?_
        refine zs rfl rfl rfl ?_
        refine zcl rfl rfl (m_is1 hr hj12) ?_
        exact zret rfl rfl (mP_ok (S' := S) (F := F) rfl (Fr.rfl') (hC))
      · rw [if_neg (by decide), if_neg (by decide), if_pos rfl]
        refine zs rfl rfl rfl ?_
        refine zs rfl rfl rfl ?_
        refine zs rfl rfl rfl ?_
        refine zs rfl rfl rfl ?_
        refine zs rfl rfl rfl ?_
        refine zs rfl rfl rfl ?_
        refine zcl rfl rfl (m_is2 hr hj12) ?_
        exact zret rfl rfl (mP_ok (S' := S) (F := F) rfl (Fr.rfl') (hC))
      · rw [if_neg (by decide), if_neg (by decide), if_neg (by decide), if_pos rfl]
        refine zs rfl rfl rfl ?_
        refine zs rfl rfl rfl ?_
        refine zs rfl rfl rfl ?_
        refine zs rfl rfl rfl ?_
        refine zs rfl rfl rfl ?_
        refine zs rfl rfl rfl ?_
        refine zcl rfl rfl (m_is3 hr hj12) ?_
        exact zret rfl rfl (mP_ok (S' := S) (F := F) rfl (Fr.rfl') (hC))
      · rw [if_neg (by decide), if_neg (by decide), if_neg (by decide), if_neg (by decide), if_pos rfl]
        refine zs rfl rfl rfl ?_
        refine zs rfl rfl rfl ?_
        refine zs rfl rfl rfl ?_
        refine zs rfl rfl rfl ?_
        refine zs rfl rfl rfl ?_
        refine zs rfl rfl rfl ?_
        refine zcl rfl rfl (m_is4 hr hj12) ?_
        exact zret rfl rfl (mP_ok (S' := S) (F := F) rfl (Fr.rfl') (hC))
      · rw [if_neg (by decide), if_neg (by decide), if_neg (by decide), if_neg (by decide), if_neg (by decide), if_pos rfl]
        refine zs rfl rfl rfl ?_
        refine zs rfl rfl rfl ?_
        refine zs rfl rfl rfl ?_
        refine zs rfl rfl rfl ?_
        refine zs rfl rfl rfl ?_
        refine zs rfl rfl rfl ?_
        refine zs rfl rfl rfl ?_
        refine zs rfl rfl rfl ?_
        refine zal (i := 2) rfl rfl rfl (by decide) (by decide) ?_
        try refine zto rfl (Rw.at (by assumption) (by omega)) ?_
        refine zcl rfl rfl (m_pullOf hr hB hj (S 2)) ?_
        exact zret rfl rfl (mP_ok (S' := S) (F := F) rfl (Fr.rfl') (hC))
      · rw [if_neg (by decide), if_neg (by decide), if_neg (by decide), if_neg (by decide), if_neg (by decide), if_neg (by decide), if_pos rfl]
        refine zs rfl rfl rfl ?_
        refine zs rfl rfl rfl ?_
        refine zs rfl rfl rfl ?_
        refine zs rfl rfl rfl ?_
        refine zs rfl rfl rfl ?_
        refine zs rfl rfl rfl ?_
        refine zs rfl rfl rfl ?_
        refine zs rfl rfl rfl ?_
        refine zal (i := 2) rfl rfl rfl (by decide) (by decide) ?_
        try refine zto rfl (Rw.at (by assumption) (by omega)) ?_
        refine zclQ rfl rfl (m_strainOf hr hB hj (S 2)) ?_
        rintro v2 M2 N2 ⟨rfl, rfl, hf2⟩
        exact zret rfl rfl (mP_ok (S' := S) (F := F) rfl (fr55 hf2) (hC.fr hf2 (by decide) (by decide)))
      · rw [if_neg (by decide), if_neg (by decide), if_neg (by decide), if_neg (by decide), if_neg (by decide), if_neg (by decide), if_neg (by decide), if_pos rfl]
        refine zs rfl rfl rfl ?_
        refine zs rfl rfl rfl ?_
        refine zs rfl rfl rfl ?_
        refine zs rfl rfl rfl ?_
        refine zs rfl rfl rfl ?_
        refine zcl rfl rfl (m_breaksAt hr hB hj) ?_
        exact zret rfl rfl (mP_ok (S' := S) (F := F) rfl (Fr.rfl') (hC))
      · rw [if_neg (by decide), if_neg (by decide), if_neg (by decide), if_neg (by decide), if_neg (by decide), if_neg (by decide), if_neg (by decide), if_neg (by decide), if_pos rfl]
        refine zs rfl rfl rfl ?_
        refine zs rfl rfl rfl ?_
        refine zs rfl rfl rfl ?_
        refine zs rfl rfl rfl ?_
        refine zs rfl rfl rfl ?_
        refine zcl rfl rfl (m_depthOf hr hle hB.l hB.lv (Th_s hj)) ?_
        exact zret rfl rfl (mP_ok (S' := S) (F := F) rfl (Fr.rfl') (hC))
      · rw [if_neg (by decide), if_neg (by decide), if_neg (by decide), if_neg (by decide), if_neg (by decide), if_neg (by decide), if_neg (by decide), if_neg (by decide), if_neg (by decide), if_pos rfl]
        refine zs rfl rfl rfl ?_
        refine zs rfl rfl rfl ?_
        refine zs rfl rfl rfl ?_
        refine zs rfl rfl rfl ?_
        refine zs rfl rfl rfl ?_
        refine zcl rfl rfl (m_stringOf hr hB.s0 hle hB.l hB.lv (nI j)) ?_
        exact zret rfl rfl (mP_ok (S' := S) (F := F) rfl (Fr.rfl') (hC))
    · rw [decide_eq_false h2]
      have kk : ∀ i : Int32, (0 ≤ i ∧ i ≤ 9) → w ≠ i := fun i hi q => h2 (by rw [q]; exact hi)
      rw [if_neg (kk 0 (by decide)), if_neg (kk 1 (by decide)), if_neg (kk 2 (by decide)), if_neg (kk 3 (by decide)), if_neg (kk 4 (by decide)), if_neg (kk 5 (by decide)), if_neg (kk 6 (by decide)), if_neg (kk 7 (by decide)), if_neg (kk 8 (by decide)), if_neg (kk 9 (by decide))]
      refine zs rfl rfl rfl ?_
      refine zs rfl rfl rfl ?_
      refine zs rfl rfl rfl ?_
      refine zcl rfl rfl (m_finds_0) ?_
      exact zret rfl rfl (mP_ref (S := S) (F := F) (c := 0) rfl (Fr.rfl') (hC))
  | false =>
    rw [if_neg (by decide)]
    refine zs rfl rfl rfl ?_
    refine zs rfl rfl rfl ?_
    refine zs rfl rfl rfl ?_
    refine zcl rfl rfl (m_finds_0) ?_
    exact zret rfl rfl (mP_ref (S := S) (F := F) (c := 0) rfl (Fr.rfl') (hC))
theorem m_set (hC : mC M S F) (hO : Ok S n) (s w v : Int32) : zV X 145 [.ref 44, .int s, .int w, .int v] M N (mP M N (r_set S F n s w v)) := by
  refine zVi [(0, .ref 44), (1, .int s), (2, .int w), (3, .int v)] rfl ?_
  unfold r_set
  have hr := hC.1
  have hle := hO.le
  have hn0 := hC.n0 hO
  refine zs rfl rfl rfl ?_
  refine zs rfl rfl rfl ?_
  refine zcl rfl rfl (m_isShip hn0 s) ?_
  cases h : shp n s with
  | true =>
    rw [if_pos rfl]
    obtain ⟨j, hj, rfl⟩ := shp_of hle h
    rw [nI_clamp (by omega)]
    have hj12 : j < 12 := by omega
    refine zs rfl rfl rfl ?_
    refine zs rfl rfl rfl ?_
    refine zs rfl rfl rfl ?_
    refine zs rfl rfl rfl ?_
    refine zs rfl rfl rfl ?_
    refine zcl rfl rfl (m_isInI w 1 3) ?_
    by_cases h1 : w = 1
    · subst h1
      rw [if_pos rfl, show decide ((1 : Int32) ≤ 1 ∧ (1 : Int32) ≤ 3) = true by decide]
      refine zs rfl rfl rfl ?_
      refine zs rfl rfl rfl ?_
      refine zs rfl rfl rfl ?_
      refine zs rfl rfl rfl ?_
      refine zs rfl rfl rfl ?_
      refine zs rfl rfl rfl ?_
      refine zs rfl rfl rfl ?_
      refine zs rfl rfl rfl ?_
      refine zs rfl rfl rfl ?_
      refine zs rfl rfl rfl ?_
      refine zs rfl rfl rfl ?_
      refine zs rfl rfl rfl ?_
      refine zcl rfl rfl (m_isInI v 1 99) ?_
      by_cases h2 : 1 ≤ v ∧ v ≤ 99
      · rw [decide_eq_true h2, if_pos h2]
        refine zs rfl rfl rfl ?_
        refine zs rfl rfl rfl ?_
        refine zs rfl rfl rfl ?_
        refine zs rfl rfl rfl ?_
        refine zs rfl rfl rfl ?_
        refine zs rfl rfl rfl ?_
        refine zs rfl rfl rfl ?_
        refine zs rfl rfl rfl ?_
        refine zs rfl rfl rfl ?_
        refine zto rfl (mI j 1) ?_
        refine zs rfl rfl rfl ?_
        refine zcl rfl rfl (m_becomes (i := 22 + 5 * j + 1) (by omega) hr v) ?_
        rw [show 22 + 5 * j + 1 = 23 + 5 * j by omega]
        exact zret rfl rfl (mP_ok (S' := ups S j v) (F := F) rfl (Fr.up (by decide)) (hC.to (Fr.up (l := [45]) (by decide)) (by decide) (hr.up _ _)))
      · rw [decide_eq_false h2, if_neg h2]
        refine zs rfl rfl rfl ?_
        refine zs rfl rfl rfl ?_
        refine zs rfl rfl rfl ?_
        refine zcl rfl rfl (m_finds_0) ?_
        exact zret rfl rfl (mP_ref (S := S) (F := F) (c := 0) rfl (Fr.rfl') (hC))
    by_cases h2 : w = 2
    · subst h2
      rw [if_neg (by decide), if_pos rfl, show decide ((1 : Int32) ≤ 2 ∧ (2 : Int32) ≤ 3) = true by decide]
      refine zs rfl rfl rfl ?_
      refine zs rfl rfl rfl ?_
      refine zs rfl rfl rfl ?_
      refine zs rfl rfl rfl ?_
      refine zs rfl rfl rfl ?_
      refine zs rfl rfl rfl ?_
      refine zs rfl rfl rfl ?_
      refine zs rfl rfl rfl ?_
      refine zs rfl rfl rfl ?_
      refine zs rfl rfl rfl ?_
      refine zs rfl rfl rfl ?_
      refine zs rfl rfl rfl ?_
      refine zcl rfl rfl (m_isInI v 0 9999) ?_
      by_cases h2 : 0 ≤ v ∧ v ≤ 9999
      · rw [decide_eq_true h2, if_pos h2]
        refine zs rfl rfl rfl ?_
        refine zs rfl rfl rfl ?_
        refine zs rfl rfl rfl ?_
        refine zs rfl rfl rfl ?_
        refine zs rfl rfl rfl ?_
        refine zs rfl rfl rfl ?_
        refine zs rfl rfl rfl ?_
        refine zs rfl rfl rfl ?_
        refine zs rfl rfl rfl ?_
        refine zto rfl (mI j 2) ?_
        refine zs rfl rfl rfl ?_
        refine zcl rfl rfl (m_becomes (i := 22 + 5 * j + 2) (by omega) hr v) ?_
        rw [show 22 + 5 * j + 2 = 24 + 5 * j by omega]
        exact zret rfl rfl (mP_ok (S' := upc S j v) (F := F) rfl (Fr.up (by decide)) (hC.to (Fr.up (l := [45]) (by decide)) (by decide) (hr.up _ _)))
      · rw [decide_eq_false h2, if_neg h2]
        refine zs rfl rfl rfl ?_
        refine zs rfl rfl rfl ?_
        refine zs rfl rfl rfl ?_
        refine zcl rfl rfl (m_finds_0) ?_
        exact zret rfl rfl (mP_ref (S := S) (F := F) (c := 0) rfl (Fr.rfl') (hC))
    by_cases h3 : w = 3
    · subst h3
      rw [if_neg (by decide), if_neg (by decide), if_pos rfl, show decide ((1 : Int32) ≤ 3 ∧ (3 : Int32) ≤ 3) = true by decide]
      refine zs rfl rfl rfl ?_
      refine zs rfl rfl rfl ?_
      refine zs rfl rfl rfl ?_
      refine zs rfl rfl rfl ?_
      refine zs rfl rfl rfl ?_
      refine zs rfl rfl rfl ?_
      refine zs rfl rfl rfl ?_
      refine zs rfl rfl rfl ?_
      refine zs rfl rfl rfl ?_
      refine zs rfl rfl rfl ?_
      refine zs rfl rfl rfl ?_
      refine zcl rfl rfl (m_isInI v 0 99) ?_
      by_cases h2 : 0 ≤ v ∧ v ≤ 99
      · rw [decide_eq_true h2, if_pos h2]
        refine zs rfl rfl rfl ?_
        refine zs rfl rfl rfl ?_
        refine zs rfl rfl rfl ?_
        refine zs rfl rfl rfl ?_
        refine zs rfl rfl rfl ?_
        refine zs rfl rfl rfl ?_
        refine zs rfl rfl rfl ?_
        refine zs rfl rfl rfl ?_
        refine zs rfl rfl rfl ?_
        refine zto rfl (mI j 3) ?_
        refine zs rfl rfl rfl ?_
        refine zcl rfl rfl (m_becomes (i := 22 + 5 * j + 3) (by omega) hr v) ?_
        rw [show 22 + 5 * j + 3 = 25 + 5 * j by omega]
        exact zret rfl rfl (mP_ok (S' := upw S j v) (F := F) rfl (Fr.up (by decide)) (hC.to (Fr.up (l := [45]) (by decide)) (by decide) (hr.up _ _)))
      · rw [decide_eq_false h2, if_neg h2]
        refine zs rfl rfl rfl ?_
        refine zs rfl rfl rfl ?_
        refine zs rfl rfl rfl ?_
        refine zcl rfl rfl (m_finds_0) ?_
        exact zret rfl rfl (mP_ref (S := S) (F := F) (c := 0) rfl (Fr.rfl') (hC))
    rw [if_neg h1, if_neg h2, if_neg h3, decide_eq_false (fun q => by
      have a := i_le.mp q.1
      have b := i_le.mp q.2
      have := ne_rng1 h1 h2 h3
      rw [t_1] at a
      rw [t_3] at b
      omega)]
    refine zs rfl rfl rfl ?_
    refine zs rfl rfl rfl ?_
    refine zs rfl rfl rfl ?_
    refine zcl rfl rfl (m_finds_0) ?_
    exact zret rfl rfl (mP_ref (S := S) (F := F) (c := 0) rfl (Fr.rfl') (hC))
  | false =>
    rw [if_neg (by decide)]
    refine zs rfl rfl rfl ?_
    refine zs rfl rfl rfl ?_
    refine zs rfl rfl rfl ?_
    refine zcl rfl rfl (m_finds_0) ?_
    exact zret rfl rfl (mP_ref (S := S) (F := F) (c := 0) rfl (Fr.rfl') (hC))
end MPUB
