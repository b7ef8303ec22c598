/-! The class's text. -/
section CTXT
variable {X : Nat × (Nat → Int32)} {M M2 : zM} {N : zN} {S : zS} {n : Nat} {tb : zS} {tl c : Nat} {p : Nat}
theorem c_takeShip (hK : Tks M tb tl c) (hA : cAt M tb tl c p) (hv : Vw M 19 S) (hO : Ok S n) (hp : p ≤ tl) {k : Int32} (hk : 0 ≤ k ∧ k ≤ 5) : zV X 46 [.ref 28, .ref 19, .int k] M N (tP M N tb tl c (pShip tb tl n k S p)) := by
  refine zVi [(0, .ref 28), (1, .ref 19), (2, .int k)] rfl ?_
  unfold pShip
  have hn := hO.s0
  have hn0 : M 19 8 = nI n := hv.s0.trans hn
  have hle := hO.le
  refine zs rfl rfl rfl ?_
  refine zs rfl rfl rfl ?_
  try refine zto rfl hn0 ?_
  refine zs rfl rfl rfl ?_
  by_cases h12 : n < 12
  · rw [if_pos h12]
    have hl1 := nx_le (tb := tb) hp
    first | refine zs rfl rfl rfl ?_ | refine zbt (nI_lt (b := 12) (by omega) (by omega)) rfl rfl rfl ?_
    refine zs rfl rfl rfl ?_
    refine zclQ rfl rfl (c_pass hK hA) ?_
    rintro v1 M1 N1 ⟨rfl, rfl, hf1, _, hA1⟩
    refine zs rfl rfl rfl ?_
    refine zs rfl rfl rfl ?_
    refine zs rfl rfl rfl ?_
    refine zclQ rfl rfl (c_addShip_t (vw28 hv hf1) hn h12 k 10) ?_
    rintro v2 M2 N2 ⟨rfl, rfl, hf2, hv2⟩
    have hf2' : Fr tL M M2 := (fr28 hf1).trans (hf2.mono (by decide))
    have hA2 := hA1.fr hf2 (by decide)
    have o2 := hO.ads h12 hk 10
    refine zs rfl rfl rfl ?_
    refine zs rfl rfl rfl ?_
    refine zs rfl rfl rfl ?_
    refine zs rfl rfl rfl ?_
    refine zs rfl rfl rfl ?_
    refine zs rfl rfl rfl ?_
    refine zs rfl rfl rfl ?_
    refine zs rfl rfl rfl ?_
    refine zclQ rfl rfl (c_takePerhaps_6 (hK.tk hf2') hA2 hv2 (s := n) (by omega) 1 99) ?_
    rintro v3 M3 N3 ⟨rfl, hf3, h3⟩
    have g3 : Gd tl (n + 1) (nx tb tl p) (pPer tb tl 6 1 99 (fun S v => ups S n v) (ads S n k 10) (nx tb tl p)) := pPer_ok o2 hl1.2 (fun v _ => o2.ups n v)
    generalize pPer tb tl 6 1 99 (fun S v => ups S n v) (ads S n k 10) (nx tb tl p) = r3 at h3 g3
    have hf3' := hf2'.trans hf3
    match r3, h3, g3 with
    | .inr q3, ⟨hv3, hA3⟩, _ =>
      subst hv3
      refine zs rfl rfl rfl ?_
      refine zs rfl rfl rfl ?_
      exact zret rfl rfl (tP_no rfl hf3' hA3)
    | .inl (S3, q3), ⟨hv3, hvw3, hA3⟩, g3 =>
      subst hv3
      obtain ⟨o3, _, l3⟩ := g3 S3 q3 rfl
      show zW _ _ _ _ _ _ _ (tP M N3 tb tl c (pbind (pPer tb tl 7 0 9999 (fun S v => upc S n v) S3 q3) (fun S2 p2 => pbind (pPer tb tl 8 0 99 (fun S v => upw S n v) S2 p2) (fun S3 p3 => pEnd tb tl n S3 p3))))
      refine zs rfl rfl rfl ?_
      refine zs rfl rfl rfl ?_
      refine zs rfl rfl rfl ?_
      refine zs rfl rfl rfl ?_
      refine zs rfl rfl rfl ?_
      refine zs rfl rfl rfl ?_
      refine zs rfl rfl rfl ?_
      refine zs rfl rfl rfl ?_
      refine zclQ rfl rfl (c_takePerhaps_7 (hK.tk hf3') hA3 hvw3 (s := n) (by omega) 0 9999) ?_
      rintro v4 M4 N4 ⟨rfl, hf4, h4⟩
      have g4 : Gd tl (n + 1) q3 (pPer tb tl 7 0 9999 (fun S v => upc S n v) S3 q3) := pPer_ok o3 l3 (fun v hv => o3.upc n hv)
      generalize pPer tb tl 7 0 9999 (fun S v => upc S n v) S3 q3 = r4 at h4 g4
      have hf4' := hf3'.trans hf4
      match r4, h4, g4 with
      | .inr q4, ⟨hv4, hA4⟩, _ =>
        subst hv4
        refine zs rfl rfl rfl ?_
        refine zs rfl rfl rfl ?_
        exact zret rfl rfl (tP_no rfl hf4' hA4)
      | .inl (S4, q4), ⟨hv4, hvw4, hA4⟩, g4 =>
        subst hv4
        obtain ⟨o4, _, l4⟩ := g4 S4 q4 rfl
        show zW _ _ _ _ _ _ _ (tP M N4 tb tl c (pbind (pPer tb tl 8 0 99 (fun S v => upw S n v) S4 q4) (fun S3 p3 => pEnd tb tl n S3 p3)))
        refine zs rfl rfl rfl ?_
        refine zs rfl rfl rfl ?_
        refine zs rfl rfl rfl ?_
        refine zs rfl rfl rfl ?_
        refine zs rfl rfl rfl ?_
        refine zs rfl rfl rfl ?_
        refine zs rfl rfl rfl ?_
        refine zs rfl rfl rfl ?_
        refine zclQ rfl rfl (c_takePerhaps_8 (hK.tk hf4') hA4 hvw4 (s := n) (by omega) 0 99) ?_
        rintro v5 M5 N5 ⟨rfl, hf5, h5⟩
        have g5 : Gd tl (n + 1) q4 (pPer tb tl 8 0 99 (fun S v => upw S n v) S4 q4) := pPer_ok o4 l4 (fun v hv => o4.upw n hv)
        generalize pPer tb tl 8 0 99 (fun S v => upw S n v) S4 q4 = r5 at h5 g5
        have hf5' := hf4'.trans hf5
        match r5, h5, g5 with
        | .inr q5, ⟨hv5, hA5⟩, _ =>
          subst hv5
          refine zs rfl rfl rfl ?_
          refine zs rfl rfl rfl ?_
          exact zret rfl rfl (tP_no rfl hf5' hA5)
        | .inl (S5, q5), ⟨hv5, hvw5, hA5⟩, g5 =>
          subst hv5
          obtain ⟨o5, _, l5⟩ := g5 S5 q5 rfl
          show zW _ _ _ _ _ _ _ (tP M N5 tb tl c (pEnd tb tl n S5 q5))
          unfold pEnd
          refine zs rfl rfl rfl ?_
          refine zs rfl rfl rfl ?_
          refine zcl rfl rfl (c_isBerth (hK.tk hf5') hA5) ?_
          cases isBr tb tl q5 with
          | false =>
            refine zs rfl rfl rfl ?_
            refine zs rfl rfl rfl ?_
            refine zs rfl rfl rfl ?_
            exact zret rfl rfl (tP_ok rfl hf5' hvw5 hA5)
          | true =>
            refine zs rfl rfl rfl ?_
            refine zs rfl rfl rfl ?_
            refine zs rfl rfl rfl ?_
            refine zs rfl rfl rfl ?_
            refine zclQ rfl rfl (c_takeBerth (hK.tk hf5') hA5 hvw5 o5.s0 o5.le (s := n) (by omega)) ?_
            rintro v6 M6 N6 ⟨rfl, hf6, h6⟩
            show zW _ _ _ _ _ _ _ (tP M N6 tb tl c (pBer tb tl (n + 1) n S5 q5))
            generalize pBer tb tl (n + 1) n S5 q5 = r6' at h6
            match r6', h6 with
            | .inl (S', q), ⟨hv6, h4, h5⟩ =>
              subst hv6
              refine zs rfl rfl rfl ?_
              refine zs rfl rfl rfl ?_
              refine zs rfl rfl rfl ?_
              exact zret rfl rfl (tP_ok rfl (hf5'.trans hf6) h4 h5)
            | .inr q, ⟨hv6, h4⟩ =>
              subst hv6
              refine zs rfl rfl rfl ?_
              refine zs rfl rfl rfl ?_
              exact zret rfl rfl (tP_no rfl (hf5'.trans hf6) h4)
  · rw [if_neg h12]
    refine zbf (nI_nlt (b := 12) (by omega) (by omega)) rfl rfl rfl ?_
    refine zs rfl rfl rfl ?_
    exact zret rfl rfl (tP_no rfl Fr.rfl' hA)
theorem c_takeItem (hK : Tks M tb tl c) (hA : cAt M tb tl c p) (hv : Vw M 19 S) (hO : Ok S n) (hp : p ≤ tl) : zV X 45 [.ref 28, .ref 19] M N (tP M N tb tl c (pItem tb tl n S p)) := by
  refine zVi [(0, .ref 28), (1, .ref 19)] rfl ?_
  unfold pItem
  have hA' := hA
  obtain ⟨j, hj, h1, hps⟩ := hA'
  have hc := hK.2.1
  have hk := hK.2.2.2.1 j hj
  rw [hps] at hk
  have ht4 := tk_lt (tb := tb) (tl := tl) p
  refine zs rfl rfl rfl ?_
  refine zs rfl rfl rfl ?_
  refine zs rfl rfl rfl ?_
  refine zs rfl rfl rfl ?_
  refine zs rfl rfl rfl ?_
  refine zto rfl h1 ?_
  refine zal rfl rfl rfl (by omega) (by decide) ?_
  refine zto rfl hk.1 ?_
  refine zs rfl rfl rfl ?_
  by_cases ht : tk tb tl p = 1
  · rw [if_pos ht]
    refine zbt (congrArg nI ht) rfl rfl rfl ?_
    refine zs rfl rfl rfl ?_
    refine zs rfl rfl rfl ?_
    refine zs rfl rfl rfl ?_
    refine zs rfl rfl rfl ?_
    refine zs rfl rfl rfl ?_
    refine zto rfl h1 ?_
    refine zal rfl rfl rfl (by omega) (by decide) ?_
    refine zto rfl hk.2.2 ?_
    refine zs rfl rfl rfl ?_
    refine zs rfl rfl rfl ?_
    generalize hcv : cv tb tl p = w at hk ⊢
    by_cases k1 : w = 11
    · subst k1
      rw [if_pos rfl]
      refine zs rfl rfl rfl ?_
      refine zs rfl rfl rfl ?_
      refine zs rfl rfl rfl ?_
      refine zs rfl rfl rfl ?_
      refine zs rfl rfl rfl ?_
      refine zs rfl rfl rfl ?_
      refine zclQ rfl rfl (c_takePair_20 hK hA hv) ?_
      rintro v2 M2 N2 ⟨rfl, hf2, h2⟩
      generalize pPair tb tl uph 5 9999 S p = r at h2
      match r, h2 with
      | .inl (S', q), ⟨hv6, h4, h5⟩ =>
        subst hv6
        exact zret rfl rfl (tP_ok rfl hf2 h4 h5)
      | .inr q, ⟨hv6, h4⟩ =>
        subst hv6
        exact zret rfl rfl (tP_no rfl hf2 h4)
    · rw [if_neg k1]
      by_cases k2 : w = 12
      · subst k2
        rw [if_pos rfl]
        refine zs rfl rfl rfl ?_
        refine zs rfl rfl rfl ?_
        refine zs rfl rfl rfl ?_
        refine zclQ rfl rfl (c_takeHang hK hA hv hO.s0 hO.le) ?_
        rintro v2 M2 N2 ⟨rfl, hf2, h2⟩
        generalize pHang tb tl n S p = r at h2
        match r, h2 with
        | .inl (S', q), ⟨hv6, h4, h5⟩ =>
          subst hv6
          exact zret rfl rfl (tP_ok rfl hf2 h4 h5)
        | .inr q, ⟨hv6, h4⟩ =>
          subst hv6
          exact zret rfl rfl (tP_no rfl hf2 h4)
      · rw [if_neg k2]
        by_cases k3 : w = 13
        · subst k3
          rw [if_pos rfl]
          refine zs rfl rfl rfl ?_
          refine zs rfl rfl rfl ?_
          refine zs rfl rfl rfl ?_
          refine zs rfl rfl rfl ?_
          refine zs rfl rfl rfl ?_
          refine zs rfl rfl rfl ?_
          refine zclQ rfl rfl (c_takePair_21 hK hA hv) ?_
          rintro v2 M2 N2 ⟨rfl, hf2, h2⟩
          generalize pPair tb tl upo 12 99 S p = r at h2
          match r, h2 with
          | .inl (S', q), ⟨hv6, h4, h5⟩ =>
            subst hv6
            exact zret rfl rfl (tP_ok rfl hf2 h4 h5)
          | .inr q, ⟨hv6, h4⟩ =>
            subst hv6
            exact zret rfl rfl (tP_no rfl hf2 h4)
        · rw [if_neg k3]
          have hsw : w.toInt < 11 ∨ (13 : Int) < w.toInt := by
            have e1 : w.toInt ≠ 11 := fun e => k1 (i_eq.mpr (e.trans t_11.symm))
            have e2 : w.toInt ≠ 12 := fun e => k2 (i_eq.mpr (e.trans t_12.symm))
            have e3 : w.toInt ≠ 13 := fun e => k3 (i_eq.mpr (e.trans t_13.symm))
            omega
          refine zsw rfl rfl hsw rfl ?_
          refine zs rfl rfl rfl ?_
          refine zs rfl rfl rfl ?_
          refine zs rfl rfl rfl ?_
          refine zcl rfl rfl (c_isIn w 0 5) ?_
          by_cases k4 : 0 ≤ w ∧ w ≤ 5
          · rw [decide_eq_true k4, if_pos k4]
            refine zs rfl rfl rfl ?_
            refine zs rfl rfl rfl ?_
            refine zs rfl rfl rfl ?_
            refine zs rfl rfl rfl ?_
            refine zclQ rfl rfl (c_takeShip hK hA hv hO hp k4) ?_
            rintro v2 M2 N2 ⟨rfl, hf2, h2⟩
            generalize pShip tb tl n w S p = r at h2
            match r, h2 with
            | .inl (S', q), ⟨hv6, h4, h5⟩ =>
              subst hv6
              refine zs rfl rfl rfl ?_
              refine zs rfl rfl rfl ?_
              refine zs rfl rfl rfl ?_
              exact zret rfl rfl (tP_ok rfl hf2 h4 h5)
            | .inr q, ⟨hv6, h4⟩ =>
              subst hv6
              refine zs rfl rfl rfl ?_
              refine zs rfl rfl rfl ?_
              exact zret rfl rfl (tP_no rfl hf2 h4)
          · rw [decide_eq_false k4, if_neg k4]
            refine zs rfl rfl rfl ?_
            refine zs rfl rfl rfl ?_
            exact zret rfl rfl (tP_no rfl Fr.rfl' hA)
  · rw [if_neg ht]
    refine zbf (fun q => ht (nI_inj (b := 1) (by omega) (by decide) q)) rfl rfl rfl ?_
    refine zs rfl rfl rfl ?_
    exact zret rfl rfl (tP_no rfl Fr.rfl' hA)
/-- what tell answers -/
def told (r : (Nat × zS) ⊕ Nat) : Int32 := match r with
  | .inl (i, _) => nI i
  | .inr q => -1 - nI q
theorem c_tell (hT : cT M tb tl) (h120 : tl ≤ 120) (hv : Vw M 19 S) (hO : Ok S n) : zV X 44 [.ref 28, .ref 19] M N (fun v M' N' => v = some (.int (told (pText tb tl 120 1 S (sk tb tl 0)))) ∧ N' = N ∧ Fr [19, 20, 21, 22, 23, 24, 25, 26, 28, 29, 31, 32, 33] M M' ∧ (∀ i S', pText tb tl 120 1 S (sk tb tl 0) = .inl (i, S') → Vw M' 19 S' ∧ i ≤ 120) ∧ (∀ q, pText tb tl 120 1 S (sk tb tl 0) = .inr q → q ≤ 120)) := by
  refine zVi [(0, .ref 28), (1, .ref 19)] rfl ?_
  refine zs rfl rfl rfl ?_
  refine zs rfl rfl rfl ?_
  refine zclQ rfl rfl (c_findTokens hT h120) ?_
  rintro v1 M1 N1 ⟨rfl, rfl, hf1, hT1, c, hK1⟩
  refine zs rfl rfl rfl ?_
  refine zs rfl rfl rfl ?_
  refine zs rfl rfl rfl ?_
  refine zs rfl rfl rfl ?_
  refine zs rfl rfl rfl ?_
  have hK2 : Tks (z_up M1 28 1 0) tb tl c := hK1.fr (Fr.up (l := [28]) (by decide)) (by decide) (by decide) (by decide) (by decide)
  have hA2 : cAt (z_up M1 28 1 0) tb tl c (sk tb tl 0) := ⟨0, by have := hK1.1; omega, rfl, rfl⟩
  have hv2 : Vw (z_up M1 28 1 0) 19 S := (hv.fr hf1 (by decide)).fr (Fr.up (l := [28]) (by decide)) (by decide)
  have hf2 : Fr [19, 20, 21, 22, 23, 24, 25, 26, 28, 29, 31, 32, 33] M (z_up M1 28 1 0) := (hf1.mono (by decide)).trans (Fr.up (by decide))
  have bad : ∀ (i : Int32) M3 q, Fr [19, 20, 21, 22, 23, 24, 25, 26, 28, 29, 31, 32, 33] M M3 → Tks M3 tb tl c → cAt M3 tb tl c q → zW X 44 77 [(0, .ref 28), (1, .ref 19), (2, .int i)] [] M3 N1 (fun v M' N' => v = some (.int (told (.inr q))) ∧ N' = N1 ∧ Fr [19, 20, 21, 22, 23, 24, 25, 26, 28, 29, 31, 32, 33] M M' ∧ (∀ i S', (Sum.inr q : (Nat × zS) ⊕ Nat) = .inl (i, S') → Vw M' 19 S' ∧ i ≤ 120) ∧ (∀ q', (Sum.inr q : (Nat × zS) ⊕ Nat) = .inr q' → q' ≤ 120)) := by
    intro i M3 q hf3 hK3 hA3
    obtain ⟨j, hj, h1, hps⟩ := hA3
    have hk := hK3.2.2.2.1 j hj
    have hc := hK3.2.1
    rw [hps] at hk
    have hql : q ≤ tl := by rw [← hps]; exact ps_le j
    refine zs rfl rfl rfl ?_
    refine zs rfl rfl rfl ?_
    refine zs rfl rfl rfl ?_
    refine zs rfl rfl rfl ?_
    refine zs rfl rfl rfl ?_
    refine zs rfl rfl rfl ?_
    refine zto rfl h1 ?_
    refine zal rfl rfl rfl (by omega) (by decide) ?_
    refine zto rfl hk.2.1 ?_
    refine zs rfl rfl rfl ?_
    exact zret rfl rfl ⟨rfl, rfl, hf3, fun _ _ e => (nomatch e), fun q' e => by cases e; omega⟩
  have loop : ∀ f i S2 n2 p2 M2, i + f = 121 → 1 ≤ i → 2 * (i - 1) ≤ p2 → p2 ≤ tl → Ok S2 n2 → Fr [19, 20, 21, 22, 23, 24, 25, 26, 28, 29, 31, 32, 33] M M2 → Tks M2 tb tl c → cAt M2 tb tl c p2 → Vw M2 19 S2 → zW X 44 14 [(0, .ref 28), (1, .ref 19), (2, .int (nI i))] [] M2 N1 (fun v M' N' => v = some (.int (told (pText tb tl f i S2 p2))) ∧ N' = N1 ∧ Fr [19, 20, 21, 22, 23, 24, 25, 26, 28, 29, 31, 32, 33] M M' ∧ (∀ i' S', pText tb tl f i S2 p2 = .inl (i', S') → Vw M' 19 S' ∧ i' ≤ 120) ∧ (∀ q, pText tb tl f i S2 p2 = .inr q → q ≤ 120)) := by
    intro f
    induction f with
    | zero =>
      intro i S2 n2 p2 M2 hi h1 h2 h3
      omega
    | succ f ih =>
      intro i S2 n2 p2 M2 hi hi1 h2i h3 hO2 hf2 hK2 hA2 hv2
      have en2 : (S2 0).toNatClampNeg = n2 := by rw [hO2.s0, nI_clamp (by have := hO2.le; omega)]
      unfold pText
      rw [en2]
      refine zs rfl rfl rfl ?_
      refine zs rfl rfl rfl ?_
      refine zbf (nI_nlt (a := 120) (by omega) (by omega)) rfl rfl rfl ?_
      refine zs rfl rfl rfl ?_
      refine zs rfl rfl rfl ?_
      refine zclQ rfl rfl (c_takeItem hK2 hA2 hv2 hO2 h3) ?_
      rintro v3 M3 N3 ⟨rfl, hf3, h3'⟩
      have hf3' := hf2.trans (hf3.mono (l' := [19, 20, 21, 22, 23, 24, 25, 26, 28, 29, 31, 32, 33]) (by decide))
      have hK3 := hK2.tk hf3
      have g3 : ∀ S' q, pItem tb tl n2 S2 p2 = .inl (S', q) → (∃ n', Ok S' n') ∧ p2 < q ∧ q ≤ tl ∧ p2 < tl := fun S' q e => pItem_ok hO2 h3 e
      generalize pItem tb tl n2 S2 p2 = r at h3' g3
      match r, h3', g3 with
      | .inr q, ⟨hv3, hA3⟩, _ =>
        subst hv3
        refine zs rfl rfl rfl ?_
        refine zs rfl rfl rfl ?_
        exact bad _ M3 q hf3' hK3 hA3
      | .inl (S', q), ⟨hv3, hvw3, hA3⟩, g3 =>
        subst hv3
        obtain ⟨⟨n', o'⟩, g1, g2, g4⟩ := g3 S' q rfl
        have hA3' := hA3
        obtain ⟨j, hj, hj1, hps⟩ := hA3'
        have hk := hK3.2.2.2.1 j hj
        have hc := hK3.2.1
        rw [hps] at hk
        have ht4 := tk_lt (tb := tb) (tl := tl) q
        dsimp only
        refine zs rfl rfl rfl ?_
        refine zs rfl rfl rfl ?_
        refine zs rfl rfl rfl ?_
        refine zs rfl rfl rfl ?_
        refine zs rfl rfl rfl ?_
        refine zs rfl rfl rfl ?_
        refine zto rfl hj1 ?_
        refine zal rfl rfl rfl (by omega) (by decide) ?_
        refine zto rfl hk.1 ?_
        by_cases t0 : tk tb tl q = 0
        · rw [if_pos t0]
          refine zto rfl (congrArg nI t0) ?_
          refine zs rfl rfl rfl ?_
          refine zs rfl rfl rfl ?_
          exact zret rfl rfl ⟨rfl, rfl, hf3', fun i' S'' e => by cases e; exact ⟨hvw3, by omega⟩, fun _ e => (nomatch e)⟩
        · rw [if_neg t0]
          refine zbt (fun z => t0 ((nI0 (by omega)).mp z)) rfl rfl rfl ?_
          refine zs rfl rfl rfl ?_
          refine zs rfl rfl rfl ?_
          refine zs rfl rfl rfl ?_
          refine zs rfl rfl rfl ?_
          refine zs rfl rfl rfl ?_
          refine zto rfl hj1 ?_
          refine zal rfl rfl rfl (by omega) (by decide) ?_
          refine zto rfl hk.1 ?_
          refine zs rfl rfl rfl ?_
          by_cases t3 : tk tb tl q = 3
          · rw [if_pos t3]
            have hql := tk_pos t3 (by decide)
            have hnq := nx_gt (tb := tb) hql
            refine zbt (congrArg nI t3) rfl rfl rfl ?_
            refine zs rfl rfl rfl ?_
            refine zclQ rfl rfl (c_pass hK3 hA3) ?_
            rintro v4 M4 N4 ⟨rfl, rfl, hf4, _, hA4⟩
            refine zinc rfl rfl rfl ?_
            refine zs rfl rfl rfl ?_
            exact ih (i + 1) S' n' (nx tb tl q) M4 (by omega) (by omega) (by omega) (nx_le (by omega)).2 o' (hf3'.trans (hf4.mono (by decide))) (hK3.tk (fr28 hf4)) hA4 (vw28 hvw3 hf4)
          · rw [if_neg t3]
            refine zbf (fun z => t3 (nI_inj (b := 3) (by omega) (by decide) z)) rfl rfl rfl ?_
            refine zs rfl rfl rfl ?_
            exact bad _ M3 q hf3' hK3 hA3
  exact loop 120 1 S n (sk tb tl 0) _ rfl (by decide) (by omega) (sk_le (Nat.zero_le _)).2 hO hf2 hK2 hA2 hv2
theorem c_text (hT : cT M tb tl) (h120 : tl ≤ 120) (hv : Vw M 1 S) (hO : Ok S n) : zV X 88 [.ref 0] M N (fun v M' N' => v = some (.int (told (pText tb tl 120 1 S (sk tb tl 0)))) ∧ N' = N ∧ Fr [1, 2, 3, 4, 5, 6, 7, 8, 19, 20, 21, 22, 23, 24, 25, 26, 28, 29, 31, 32, 33] M M' ∧ M' 29 1 = 0 ∧ Vw M' 1 (match pText tb tl 120 1 S (sk tb tl 0) with
    | .inl (_, S') => S'
    | .inr _ => S)) := by
  refine zVi [(0, .ref 0)] rfl ?_
  refine zs rfl rfl rfl ?_
  refine zs rfl rfl rfl ?_
  refine zs rfl rfl rfl ?_
  refine zs rfl rfl rfl ?_
  refine zclQ rfl rfl (c_take_th hv) ?_
  rintro v1 M1 N1 ⟨rfl, rfl, hf1, hv1⟩
  refine zs rfl rfl rfl ?_
  refine zs rfl rfl rfl ?_
  refine zs rfl rfl rfl ?_
  refine zs rfl rfl rfl ?_
  refine zclQ rfl rfl (c_tell (hT.fr hf1 (by decide) (by decide)) h120 hv1 hO) ?_
  rintro v2 M2 N2 ⟨rfl, rfl, hf2, h2a, h2b⟩
  have hf2' : Fr [1, 2, 3, 4, 5, 6, 7, 8, 19, 20, 21, 22, 23, 24, 25, 26, 28, 29, 31, 32, 33] M M2 := (hf1.mono (by decide)).trans (hf2.mono (by decide))
  have hvh : Vw M2 1 S := ((hv.fr hf1 (by decide)).fr hf2 (by decide))
  refine zs rfl rfl rfl ?_
  refine zs rfl rfl rfl ?_
  generalize pText tb tl 120 1 S (sk tb tl 0) = r at h2a h2b ⊢
  match r, h2a, h2b with
  | .inl (i, S'), h2a, _ =>
    obtain ⟨hv3, hi⟩ := h2a i S' rfl
    show zW _ _ _ [(0, .ref 0), (1, .int (nI i))] [.int (nI i)] _ _ _
    refine zbf (nI_pos (by omega)) rfl rfl rfl ?_
    refine zs rfl rfl rfl ?_
    refine zs rfl rfl rfl ?_
    refine zs rfl rfl rfl ?_
    refine zs rfl rfl rfl ?_
    refine zclQ rfl rfl (c_take_ht hv3) ?_
    rintro v4 M4 N4 ⟨rfl, rfl, hf4, hv4⟩
    refine zs rfl rfl rfl ?_
    refine zs rfl rfl rfl ?_
    refine zs rfl rfl rfl ?_
    refine zs rfl rfl rfl ?_
    refine zs rfl rfl rfl ?_
    refine zs rfl rfl rfl ?_
    exact zret rfl rfl ⟨rfl, rfl, (hf2'.trans (hf4.mono (by decide))).trans (Fr.up (by decide)), rfl, hv4.fr (Fr.up (l := [29]) (by decide)) (by decide)⟩
  | .inr q, _, h2b =>
    have hq := h2b q rfl
    have hneg : (-1 : Int32) - nI q < 0 := by
      rw [i_lt, Int32.toInt_sub, t_m1, nI_toInt (by omega), t_0, Int.bmod_eq_of_le (by omega) (by omega)]; omega
    show zW _ _ _ [(0, .ref 0), (1, .int (-1 - nI q))] [.int (-1 - nI q)] _ _ _
    generalize hy : (-1 : Int32) - nI q = y at hneg
    refine zbt (hneg) rfl rfl rfl ?_
    refine zs rfl rfl rfl ?_
    refine zs rfl rfl rfl ?_
    refine zs rfl rfl rfl ?_
    refine zs rfl rfl rfl ?_
    refine zs rfl rfl rfl ?_
    refine zs rfl rfl rfl ?_
    exact zret rfl rfl ⟨by rw [← hy]; rfl, rfl, hf2'.trans (Fr.up (by decide)), rfl, hvh.fr (Fr.up (l := [29]) (by decide)) (by decide)⟩
end CTXT
