/-! More of the model's calls. -/
section MPUB2
variable {X : Nat × (Nat → Int32)} {M M2 : zM} {N : zN} {S F T : zS} {n : Nat}
theorem m_hang (hC : mC M S F) (hO : Ok S n) (s t : Int32) : zV X 146 [.ref 44, .int s, .int t] M N (mP M N (r_hang S F n s t)) := by
  refine zVi [(0, .ref 44), (1, .int s), (2, .int t)] rfl ?_
  unfold r_hang
  have hr := hC.1
  have hB := hO.b
  have hle := hO.le
  have hn0 := hC.n0 hO
  have rest : zW X 146 28 [(0, .ref 44), (1, .int s), (2, .int t)] [.int (bI (thg n t))] M N (mP M N (if shp n s = true then (if thg n t = true then (if t = s then rf S F 0 else if lo S n s 12 t = true then rf S F 4 else (lk S s.toNatClampNeg, upl S s.toNatClampNeg t, F)) else rf S F 0) else rf S F 0)) := by
    refine zs rfl rfl rfl ?_
    refine zs rfl rfl rfl ?_
    refine zs rfl rfl rfl ?_
    refine zcl rfl rfl (m_isShip hn0 s) ?_
    cases h : shp n s with
    | true =>
      rw [if_pos rfl]
      obtain ⟨j, hj, rfl⟩ := shp_of hle h
      rw [nI_clamp (by omega)]
      have hj12 : j < 12 := by omega
      refine zs rfl rfl rfl ?_
      refine zs rfl rfl rfl ?_
      cases h2 : thg n t with
      | true =>
        rw [if_pos rfl]
        have ht : Th n t := (thg_iff hle).mp h2
        refine zs rfl rfl rfl ?_
        refine zs rfl rfl rfl ?_
        refine zs rfl rfl rfl ?_
        refine zbr rfl rfl rfl (fun hc => ?_) (fun hc => ?_)
        · rw [if_neg hc]
          refine zs rfl rfl rfl ?_
          refine zs rfl rfl rfl ?_
          refine zs rfl rfl rfl ?_
          refine zcl rfl rfl (m_isInString hr hle hB.l hB.lv ht (nI j)) ?_
          cases h3 : lo S n (nI j) 12 t with
          | true =>
            rw [if_pos rfl]
            refine zs rfl rfl rfl ?_
            refine zs rfl rfl rfl ?_
            refine zs rfl rfl rfl ?_
            refine zcl rfl rfl (m_finds_4) ?_
            refine zs rfl rfl rfl ?_
            exact zret rfl rfl (mP_ref (S := S) (F := F) (c := 4) rfl (Fr.rfl') (hC))
          | false =>
            rw [if_neg (by decide)]
            refine zs rfl rfl rfl ?_
            refine zs rfl rfl rfl ?_
            refine zs rfl rfl rfl ?_
            refine zs rfl rfl rfl ?_
            refine zs rfl rfl rfl ?_
            refine zs rfl rfl rfl ?_
            refine zs rfl rfl rfl ?_
            refine zs rfl rfl rfl ?_
            refine zs rfl rfl rfl ?_
            refine zto rfl (mI j 4) ?_
            refine zs rfl rfl rfl ?_
            refine zcl rfl rfl (m_becomes (i := 22 + 5 * j + 4) (by omega) hr t) ?_
            rw [show 22 + 5 * j + 4 = 26 + 5 * j by omega]
            exact zret rfl rfl (mP_ok (S' := upl S j t) (F := F) rfl (Fr.up (by decide)) (hC.to (Fr.up (l := [45]) (by decide)) (by decide) (hr.up _ _)))
        · rw [if_pos (Decidable.not_not.mp hc)]
          refine zs rfl rfl rfl ?_
          refine zs rfl rfl rfl ?_
          refine zcl rfl rfl (m_finds_0) ?_
          exact zret rfl rfl (mP_ref (S := S) (F := F) (c := 0) rfl (Fr.rfl') (hC))
      | false =>
        rw [if_neg (by decide)]
        refine zs rfl rfl rfl ?_
        refine zs rfl rfl rfl ?_
        refine zs rfl rfl rfl ?_
        refine zcl rfl rfl (m_finds_0) ?_
        exact zret rfl rfl (mP_ref (S := S) (F := F) (c := 0) rfl (Fr.rfl') (hC))
    | false =>
      rw [if_neg (by decide)]
      refine zs rfl rfl rfl ?_
      refine zs rfl rfl rfl ?_
      refine zs rfl rfl rfl ?_
      refine zcl rfl rfl (m_finds_0) ?_
      exact zret rfl rfl (mP_ref (S := S) (F := F) (c := 0) rfl (Fr.rfl') (hC))
  refine zs rfl rfl rfl ?_
  refine zs rfl rfl rfl ?_
  refine zbr rfl rfl rfl (fun hc => ?_) (fun hc => ?_)
  · have e : thg n t = true := by unfold thg; rw [decide_eq_true hc]; rfl
    rw [e] at rest
    refine zs rfl rfl rfl ?_
    refine zs rfl rfl rfl ?_
    rw [e]
    exact rest
  · refine zs rfl rfl rfl ?_
    refine zs rfl rfl rfl ?_
    refine zcl rfl rfl (m_isShip hn0 t) ?_
    cases h : shp n t with
    | true =>
      have e : thg n t = true := by unfold thg; rw [h, Bool.true_or, Bool.or_true]
      rw [e] at rest
      refine zs rfl rfl rfl ?_
      refine zs rfl rfl rfl ?_
      refine zs rfl rfl rfl ?_
      rw [e]
      exact rest
    | false =>
      have e : thg n t = decide (0 ≤ t - 100 ∧ t - 100 ≤ 5) := by
        unfold thg
        rw [decide_eq_false hc, h, Bool.false_or, Bool.false_or]
        congr 1
        exact propext (anc_iff t).symm
      rw [e] at rest
      refine zs rfl rfl rfl ?_
      refine zs rfl rfl rfl ?_
      refine zs rfl rfl rfl ?_
      refine zs rfl rfl rfl ?_
      refine zcl rfl rfl (m_isAnchor (t - 100)) ?_
      rw [e]
      cases hh : decide (0 ≤ t - 100 ∧ t - 100 ≤ 5) with
      | true =>
        rw [hh] at rest
        refine zs rfl rfl rfl ?_
        refine zs rfl rfl rfl ?_
        refine zs rfl rfl rfl ?_
        exact rest
      | false =>
        rw [hh] at rest
        refine zs rfl rfl rfl ?_
        refine zs rfl rfl rfl ?_
        exact rest
theorem m_turn (hC : mC M S F) (hO : Ok S n) (s k : Int32) : zV X 147 [.ref 44, .int s, .int k] M N (mP M N (r_turn S F n s k)) := by
  refine zVi [(0, .ref 44), (1, .int s), (2, .int k)] rfl ?_
  unfold r_turn
  have hr := hC.1
  have hle := hO.le
  have hn0 := hC.n0 hO
  refine zs rfl rfl rfl ?_
  refine zs rfl rfl rfl ?_
  refine zcl rfl rfl (m_isShip hn0 s) ?_
  cases h : shp n s with
  | true =>
    rw [if_pos rfl]
    obtain ⟨j, hj, rfl⟩ := shp_of hle h
    rw [nI_clamp (by omega)]
    have hj12 : j < 12 := by omega
    refine zs rfl rfl rfl ?_
    refine zs rfl rfl rfl ?_
    refine zs rfl rfl rfl ?_
    refine zs rfl rfl rfl ?_
    refine zs rfl rfl rfl ?_
    refine zcl rfl rfl (m_isInI k 0 5) ?_
    by_cases h2 : 0 ≤ k ∧ k ≤ 5
    · rw [decide_eq_true h2, if_pos h2]
      have e : (22 : Int32) + 5 * nI j = nI (22 + 5 * j) := by
        rw [show (5 : Int32) * nI j = nI (5 * j) from (Int32.ofNat_mul 5 j).symm]; exact nI_add 22 _
      refine zs rfl rfl rfl ?_
      refine zs rfl rfl rfl ?_
      refine zs rfl rfl rfl ?_
      refine zs rfl rfl rfl ?_
      refine zs rfl rfl rfl ?_
      refine zs rfl rfl rfl ?_
      refine zs rfl rfl rfl ?_
      refine zto rfl e ?_
      refine zs rfl rfl rfl ?_
      refine zcl rfl rfl (m_becomes (i := 22 + 5 * j) (by omega) hr k) ?_
      refine zs rfl rfl rfl ?_
      exact zret rfl rfl (mP_ok (S' := upk S j k) (F := F) rfl (Fr.up (by decide)) (hC.to (Fr.up (l := [45]) (by decide)) (by decide) (hr.up _ _)))
    · rw [decide_eq_false h2, if_neg h2]
      refine zs rfl rfl rfl ?_
      refine zs rfl rfl rfl ?_
      refine zs rfl rfl rfl ?_
      refine zcl rfl rfl (m_finds_0) ?_
      exact zret rfl rfl (mP_ref (S := S) (F := F) (c := 0) rfl (Fr.rfl') (hC))
  | false =>
    rw [if_neg (by decide)]
    refine zs rfl rfl rfl ?_
    refine zs rfl rfl rfl ?_
    refine zs rfl rfl rfl ?_
    refine zcl rfl rfl (m_finds_0) ?_
    exact zret rfl rfl (mP_ref (S := S) (F := F) (c := 0) rfl (Fr.rfl') (hC))
theorem m_isUnder (o k : Int32) : zE1 X 148 [.int o, .int k] M N (some (.int (bI (und o k)))) M N := by
  refine zE1i [(0, .int o), (1, .int k)] rfl ?_
  unfold und
  refine zs rfl rfl rfl ?_
  refine zs rfl rfl rfl ?_
  refine zbr rfl rfl rfl (fun hc => ?_) (fun hc => ?_)
  · rw [decide_eq_true hc]
    refine zs rfl rfl rfl ?_
    refine zs rfl rfl rfl ?_
    exact zret rfl rfl ⟨rfl, rfl, rfl⟩
  · rw [decide_eq_false hc]
    refine zs rfl rfl rfl ?_
    refine zbr rfl rfl rfl (fun h0 => ?_) (fun h0 => ?_)
    · rw [decide_eq_true h0]
      refine zs rfl rfl rfl ?_
      refine zs rfl rfl rfl ?_
      exact zret rfl rfl ⟨rfl, rfl, rfl⟩
    · rw [decide_eq_false h0]
      have last : ¬ (k = 1 ∧ o = 4) → zW X 148 19 [(0, .int o), (1, .int k)] [] M N (fun v1 M1 N1 => v1 = some (.int (bI (false || (false || (decide (k = 1 ∧ o = 4) || decide (k = 2 ∧ o = 5)))))) ∧ M1 = M ∧ N1 = N) := by
        intro hno
        rw [decide_eq_false hno]
        refine zs rfl rfl rfl ?_
        refine zs rfl rfl rfl ?_
        refine zbr rfl rfl rfl (fun h2 => ?_) (fun h2 => ?_)
        · rw [decide_eq_false (fun q => h2 q.1)]
          refine zs rfl rfl rfl ?_
          exact zret rfl rfl ⟨rfl, rfl, rfl⟩
        · refine zs rfl rfl rfl ?_
          refine zs rfl rfl rfl ?_
          refine zbr rfl rfl rfl (fun h3 => ?_) (fun h3 => ?_)
          · rw [decide_eq_false (fun q => h3 q.2)]
            refine zs rfl rfl rfl ?_
            exact zret rfl rfl ⟨rfl, rfl, rfl⟩
          · rw [decide_eq_true ⟨Decidable.not_not.mp h2, Decidable.not_not.mp h3⟩]
            refine zs rfl rfl rfl ?_
            refine zs rfl rfl rfl ?_
            exact zret rfl rfl ⟨rfl, rfl, rfl⟩
      refine zs rfl rfl rfl ?_
      refine zs rfl rfl rfl ?_
      refine zbr rfl rfl rfl (fun h1 => ?_) (fun h1 => ?_)
      · exact last (fun q => h1 q.1)
      · refine zs rfl rfl rfl ?_
        refine zs rfl rfl rfl ?_
        refine zbr rfl rfl rfl (fun h4 => ?_) (fun h4 => ?_)
        · rw [decide_eq_true ⟨Decidable.not_not.mp h1, h4⟩]
          refine zs rfl rfl rfl ?_
          refine zs rfl rfl rfl ?_
          exact zret rfl rfl ⟨rfl, rfl, rfl⟩
        · exact last (fun q => h4 q.2)
theorem m_as (hC : mC M S F) (hO : Ok S n) (s k : Int32) : zV X 149 [.ref 44, .int s, .int k] M N (mP M N (r_as S F n s k)) := by
  refine zVi [(0, .ref 44), (1, .int s), (2, .int k)] rfl ?_
  unfold r_as
  have hr := hC.1
  have hle := hO.le
  have hn0 := hC.n0 hO
  refine zs rfl rfl rfl ?_
  refine zs rfl rfl rfl ?_
  refine zcl rfl rfl (m_isShip hn0 s) ?_
  cases h : shp n s with
  | true =>
    rw [if_pos rfl]
    obtain ⟨j, hj, rfl⟩ := shp_of hle h
    rw [nI_clamp (by omega)]
    have hj12 : j < 12 := by omega
    refine zs rfl rfl rfl ?_
    refine zs rfl rfl rfl ?_
    refine zs rfl rfl rfl ?_
    refine zs rfl rfl rfl ?_
    refine zs rfl rfl rfl ?_
    refine zcl rfl rfl (m_isInI k 0 5) ?_
    by_cases h2 : 0 ≤ k ∧ k ≤ 5
    · rw [decide_eq_true h2, if_pos h2]
      refine zs rfl rfl rfl ?_
      refine zs rfl rfl rfl ?_
      refine zs rfl rfl rfl ?_
      refine zs rfl rfl rfl ?_
      refine zcl rfl rfl (m_is0 hr hj12) ?_
      refine zs rfl rfl rfl ?_
      refine zcl rfl rfl (m_isUnder (kd S j) k) ?_
      cases und (kd S j) k with
      | true =>
        rw [if_pos rfl]
        refine zs rfl rfl rfl ?_
        refine zs rfl rfl rfl ?_
        refine zs rfl rfl rfl ?_
        refine zs rfl rfl rfl ?_
        refine zcl rfl rfl (m_is1 hr hj12) ?_
        refine zs rfl rfl rfl ?_
        exact zret rfl rfl (mP_ok (S' := S) (F := F) rfl (Fr.rfl') (hC))
      | false =>
        rw [if_neg (by decide)]
        refine zs rfl rfl rfl ?_
        refine zs rfl rfl rfl ?_
        refine zs rfl rfl rfl ?_
        refine zcl rfl rfl (m_finds_2) ?_
        exact zret rfl rfl (mP_ref (S := S) (F := F) (c := 2) rfl (Fr.rfl') (hC))
    · rw [decide_eq_false h2, if_neg h2]
      refine zs rfl rfl rfl ?_
      refine zs rfl rfl rfl ?_
      refine zs rfl rfl rfl ?_
      refine zcl rfl rfl (m_finds_0) ?_
      exact zret rfl rfl (mP_ref (S := S) (F := F) (c := 0) rfl (Fr.rfl') (hC))
  | false =>
    rw [if_neg (by decide)]
    refine zs rfl rfl rfl ?_
    refine zs rfl rfl rfl ?_
    refine zs rfl rfl rfl ?_
    refine zcl rfl rfl (m_finds_0) ?_
    exact zret rfl rfl (mP_ref (S := S) (F := F) (c := 0) rfl (Fr.rfl') (hC))
theorem m_hours (hC : mC M S F) (hO : Ok S n) (m w : Int32) : zV X 154 [.ref 44, .int m, .int w] M N (mP M N (r_hours S F n m w)) := by
  refine zVi [(0, .ref 44), (1, .int m), (2, .int w)] rfl ?_
  unfold r_hours
  have hr := hC.1
  refine zs rfl rfl rfl ?_
  refine zs rfl rfl rfl ?_
  refine zs rfl rfl rfl ?_
  refine zs rfl rfl rfl ?_
  refine zcl rfl rfl (m_isInI m 1 100) ?_
  by_cases h : 1 ≤ m ∧ m ≤ 100
  · rw [decide_eq_true h, if_pos h]
    obtain ⟨a, ha, rfl⟩ := nI_of2 (n := 100) t_100 (i_nlt.mpr (by have := i_le.mp h.1; rw [i_le, t_0]; rw [t_1] at this; omega)) h.2
    rw [nI_clamp (by omega)]
    refine zs rfl rfl rfl ?_
    refine zs rfl rfl rfl ?_
    refine zcl rfl rfl (m_isWind w) ?_
    by_cases h2 : 0 ≤ w ∧ w ≤ 12
    · rw [decide_eq_true h2, if_pos h2]
      refine zs rfl rfl rfl ?_
      refine zs rfl rfl rfl ?_
      refine zs rfl rfl rfl ?_
      refine zcl rfl rfl (m_isFar hr (nI a)) ?_
      by_cases h3 : S 1 + nI a ≤ 9999
      · rw [decide_eq_false (not_not_intro h3), if_pos h3]
        refine zs rfl rfl rfl ?_
        refine zs rfl rfl rfl ?_
        refine zs rfl rfl rfl ?_
        refine zs rfl rfl rfl ?_
        refine zclQ rfl rfl (m_hoursGo hr hO.b ha w) ?_
        rintro v2 M2 N2 ⟨rfl, rfl, hf2, hr2⟩
        exact zret rfl rfl (mP_ok (S' := phn S n w a) (F := F) rfl (hf2.mono (by decide)) (hC.to hf2 (by decide) hr2))
      · rw [decide_eq_true h3, if_neg h3]
        refine zs rfl rfl rfl ?_
        refine zs rfl rfl rfl ?_
        refine zs rfl rfl rfl ?_
        refine zcl rfl rfl (m_finds_4) ?_
        refine zs rfl rfl rfl ?_
        exact zret rfl rfl (mP_ref (S := S) (F := F) (c := 4) rfl (Fr.rfl') (hC))
    · rw [decide_eq_false h2, if_neg h2]
      refine zs rfl rfl rfl ?_
      refine zs rfl rfl rfl ?_
      refine zs rfl rfl rfl ?_
      refine zcl rfl rfl (m_finds_0) ?_
      exact zret rfl rfl (mP_ref (S := S) (F := F) (c := 0) rfl (Fr.rfl') (hC))
  · rw [decide_eq_false h, if_neg h]
    refine zs rfl rfl rfl ?_
    refine zs rfl rfl rfl ?_
    refine zs rfl rfl rfl ?_
    refine zcl rfl rfl (m_finds_0) ?_
    exact zret rfl rfl (mP_ref (S := S) (F := F) (c := 0) rfl (Fr.rfl') (hC))
theorem m_hour (hC : mC M S F) (hO : Ok S n) (w : Int32) : zV X 153 [.ref 44, .int w] M N (mP M N (r_hours S F n 1 w)) := by
  refine zVi [(0, .ref 44), (1, .int w)] rfl ?_
  unfold r_hours
  have hr := hC.1
  rw [if_pos (by decide), show (1 : Int32).toNatClampNeg = 1 by decide]
  refine zs rfl rfl rfl ?_
  refine zcl rfl rfl (m_isWind w) ?_
  by_cases h2 : 0 ≤ w ∧ w ≤ 12
  · rw [decide_eq_true h2, if_pos h2]
    refine zs rfl rfl rfl ?_
    refine zs rfl rfl rfl ?_
    refine zs rfl rfl rfl ?_
    refine zcl rfl rfl (m_isFar hr 1) ?_
    by_cases h3 : S 1 + 1 ≤ 9999
    · rw [decide_eq_false (not_not_intro h3), if_pos h3]
      refine zs rfl rfl rfl ?_
      refine zs rfl rfl rfl ?_
      refine zs rfl rfl rfl ?_
      refine zs rfl rfl rfl ?_
      refine zclQ rfl rfl (m_hoursGo (a := 1) hr hO.b (by decide) w) ?_
      rintro v2 M2 N2 ⟨rfl, rfl, hf2, hr2⟩
      exact zret rfl rfl (mP_ok (S' := phn S n w 1) (F := F) rfl (hf2.mono (by decide)) (hC.to hf2 (by decide) hr2))
    · rw [decide_eq_true h3, if_neg h3]
      refine zs rfl rfl rfl ?_
      refine zs rfl rfl rfl ?_
      refine zs rfl rfl rfl ?_
      refine zcl rfl rfl (m_finds_4) ?_
      refine zs rfl rfl rfl ?_
      exact zret rfl rfl (mP_ref (S := S) (F := F) (c := 4) rfl (Fr.rfl') (hC))
  · rw [decide_eq_false h2, if_neg h2]
    refine zs rfl rfl rfl ?_
    refine zs rfl rfl rfl ?_
    refine zs rfl rfl rfl ?_
    refine zcl rfl rfl (m_finds_0) ?_
    exact zret rfl rfl (mP_ref (S := S) (F := F) (c := 0) rfl (Fr.rfl') (hC))
theorem m_adrift (hC : mC M S F) (hO : Ok S n) : zV X 155 [.ref 44] M N (mP M N (nI (hg S n (-1)), S, F)) := by
  refine zVi [(0, .ref 44)] rfl ?_
  refine zs rfl rfl rfl ?_
  refine zcl rfl rfl (m_adriftSet hC.1 hO.b) ?_
  exact zret rfl rfl (mP_ok (S' := S) (F := F) rfl (Fr.rfl') (hC))
theorem m_lost (hC : mC M S F) (hO : Ok S n) : zV X 157 [.ref 44] M N (mP M N (nI (aon S n (-1)), S, F)) := by
  refine zVi [(0, .ref 44)] rfl ?_
  refine zs rfl rfl rfl ?_
  refine zcl rfl rfl (m_lostSet hC.1 hO.b) ?_
  exact zret rfl rfl (mP_ok (S' := S) (F := F) rfl (Fr.rfl') (hC))
theorem m_now (hC : mC M S F) (hO : Ok S n) (w : Int32) : zV X 158 [.ref 44, .int w] M N (mP M N (r_now S F n w)) := by
  refine zVi [(0, .ref 44), (1, .int w)] rfl ?_
  unfold r_now
  have hr := hC.1
  have hB := hO.b
  have hle := hO.le
  refine zs rfl rfl rfl ?_
  refine zs rfl rfl rfl ?_
  refine zs rfl rfl rfl ?_
  refine zs rfl rfl rfl ?_
  refine zs rfl rfl rfl ?_
  refine zs rfl rfl rfl ?_
  refine zal (i := 2) rfl rfl rfl (by decide) (by decide) ?_
  try refine zto rfl (Rw.at (by assumption) (by omega)) ?_
  refine zclQ rfl rfl (m_findStrains hr hB (S 2)) ?_
  rintro v2 M2 N2 ⟨rfl, rfl, hf2, hT⟩
  have hr2 := hr.fr hf2 (by decide)
  have hC2 := hC.fr hf2 (by decide) (by decide)
  have hn0 := hC2.n0 hO
  refine zs rfl rfl rfl ?_
  by_cases h0 : w = 0
  · subst h0
    rw [if_pos rfl]
    refine zs rfl rfl rfl ?_
    refine zs rfl rfl rfl ?_
    refine zs rfl rfl rfl ?_
    refine zs rfl rfl rfl ?_
    refine zal (i := 1) rfl rfl rfl (by decide) (by decide) ?_
    try refine zto rfl (Rw.at (by assumption) (by omega)) ?_
    exact zret rfl rfl (mP_ok (S' := S) (F := F) rfl (fr55 hf2) (hC2))
  by_cases h1 : w = 1
  · subst h1
    rw [if_neg h0, if_pos rfl]
    refine zs rfl rfl rfl ?_
    refine zs rfl rfl rfl ?_
    refine zs rfl rfl rfl ?_
    refine zs rfl rfl rfl ?_
    refine zal (i := 2) rfl rfl rfl (by decide) (by decide) ?_
    try refine zto rfl (Rw.at (by assumption) (by omega)) ?_
    exact zret rfl rfl (mP_ok (S' := S) (F := F) rfl (fr55 hf2) (hC2))
  by_cases h2 : w = 2
  · subst h2
    rw [if_neg h0, if_neg h1, if_pos rfl]
    refine zs rfl rfl rfl ?_
    refine zs rfl rfl rfl ?_
    refine zs rfl rfl rfl ?_
    have loop : ∀ d i, i + d = 6 → zW X 158 64 [(0, .ref 44), (1, .int 2), (2, .int (isum i (fun a => loa S n (Str S n (S 2)) (nI (100 + a))))), (3, .int (nI i))] [] M2 N2 (mP M N2 (isum 6 (fun a => loa S n (Str S n (S 2)) (nI (100 + a))), S, F)) := by
      intro d
      induction d with
      | zero =>
        intro i hi
        obtain rfl : i = 6 := by omega
        refine zs rfl rfl rfl ?_
        refine zs rfl rfl rfl ?_
        first | refine zs rfl rfl rfl ?_ | refine zbt (nI_le (a := 6) (by omega) (by omega)) rfl rfl rfl ?_
        refine zs rfl rfl rfl ?_
        exact zret rfl rfl (mP_ok (S' := S) (F := F) rfl (fr55 hf2) (hC2))
      | succ d ih =>
        intro i hi
        refine zs rfl rfl rfl ?_
        refine zs rfl rfl rfl ?_
        refine zbf (nI_ge (b := 6) (by omega) (by omega)) rfl rfl rfl ?_
        refine zs rfl rfl rfl ?_
        refine zs rfl rfl rfl ?_
        refine zs rfl rfl rfl ?_
        refine zcl rfl rfl (m_loadOf hr2 hB hT i) ?_
        refine zs rfl rfl rfl ?_
        refine zs rfl rfl rfl ?_
        refine zinc rfl rfl rfl ?_
        refine zs rfl rfl rfl ?_
        exact ih (i + 1) (by omega)
    exact loop 6 0 rfl
  by_cases h3 : w = 3
  · subst h3
    rw [if_neg h0, if_neg h1, if_neg h2, if_pos rfl]
    refine zs rfl rfl rfl ?_
    refine zs rfl rfl rfl ?_
    refine zs rfl rfl rfl ?_
    have loop : ∀ d i, i + d = n → zW X 158 88 [(0, .ref 44), (1, .int 3), (2, .int (gdp S n i)), (3, .int (nI i))] [] M2 N2 (mP M N2 (gdp S n n, S, F)) := by
      intro d
      induction d with
      | zero =>
        intro i hi
        obtain rfl : i = n := by omega
        refine zs rfl rfl rfl ?_
        refine zs rfl rfl rfl ?_
        refine zs rfl rfl rfl ?_
        refine zs rfl rfl rfl ?_
        refine zal (i := 0) rfl rfl rfl (by decide) (by decide) ?_
        try refine zto rfl hn0 ?_
        refine zbt (nI_le (by omega) (by omega)) rfl rfl rfl ?_
        refine zs rfl rfl rfl ?_
        exact zret rfl rfl (mP_ok (S' := S) (F := F) rfl (fr55 hf2) (hC2))
      | succ d ih =>
        intro i hi
        have ih' := ih (i + 1) (by omega)
        have hth : Th n (nI i) := Th_s (by omega)
        refine zs rfl rfl rfl ?_
        refine zs rfl rfl rfl ?_
        refine zs rfl rfl rfl ?_
        refine zs rfl rfl rfl ?_
        refine zal (i := 0) rfl rfl rfl (by decide) (by decide) ?_
        try refine zto rfl hn0 ?_
        refine zbf (nI_ge (by omega) (by omega)) rfl rfl rfl ?_
        refine zs rfl rfl rfl ?_
        refine zs rfl rfl rfl ?_
        refine zcl rfl rfl (m_depthOf hr2 hle hB.l hB.lv hth) ?_
        refine zs rfl rfl rfl ?_
        refine zbr rfl rfl rfl (fun hc => ?_) (fun hc => ?_)
        · have e : gdp S n (i + 1) = gdp S n i := by
            show (if _ then _ else _) = _
            rw [if_neg (i_nlt.mpr hc)]
          rw [e] at ih'
          refine zs rfl rfl rfl ?_
          refine zs rfl rfl rfl ?_
          refine zinc rfl rfl rfl ?_
          refine zs rfl rfl rfl ?_
          exact ih'
        · have e : gdp S n (i + 1) = dep S n (nI i) := by
            show (if _ then _ else _) = _
            rw [if_pos (i_nle.mp hc)]
          rw [e] at ih'
          refine zs rfl rfl rfl ?_
          refine zs rfl rfl rfl ?_
          refine zcl rfl rfl (m_depthOf hr2 hle hB.l hB.lv hth) ?_
          refine zs rfl rfl rfl ?_
          refine zs rfl rfl rfl ?_
          refine zinc rfl rfl rfl ?_
          refine zs rfl rfl rfl ?_
          exact ih'
    exact loop n 0 (Nat.zero_add n)
  by_cases h4 : w = 4
  · subst h4
    rw [if_neg h0, if_neg h1, if_neg h2, if_neg h3, if_pos rfl]
    refine zs rfl rfl rfl ?_
    refine zs rfl rfl rfl ?_
    refine zs rfl rfl rfl ?_
    have loop : ∀ d i, i + d = n → zW X 158 127 [(0, .ref 44), (1, .int 4), (2, .int (isum i (wo S))), (3, .int (nI i))] [] M2 N2 (mP M N2 (isum n (wo S), S, F)) := by
      intro d
      induction d with
      | zero =>
        intro i hi
        obtain rfl : i = n := by omega
        refine zs rfl rfl rfl ?_
        refine zs rfl rfl rfl ?_
        refine zs rfl rfl rfl ?_
        refine zs rfl rfl rfl ?_
        refine zal (i := 0) rfl rfl rfl (by decide) (by decide) ?_
        try refine zto rfl hn0 ?_
        refine zbt (nI_le (by omega) (by omega)) rfl rfl rfl ?_
        refine zs rfl rfl rfl ?_
        exact zret rfl rfl (mP_ok (S' := S) (F := F) rfl (fr55 hf2) (hC2))
      | succ d ih =>
        intro i hi
        refine zs rfl rfl rfl ?_
        refine zs rfl rfl rfl ?_
        refine zs rfl rfl rfl ?_
        refine zs rfl rfl rfl ?_
        refine zal (i := 0) rfl rfl rfl (by decide) (by decide) ?_
        try refine zto rfl hn0 ?_
        refine zbf (nI_ge (by omega) (by omega)) rfl rfl rfl ?_
        refine zs rfl rfl rfl ?_
        refine zs rfl rfl rfl ?_
        refine zs rfl rfl rfl ?_
        refine zs rfl rfl rfl ?_
        refine zcl rfl rfl (m_is3 hr2 (show i < 12 by omega)) ?_
        refine zs rfl rfl rfl ?_
        refine zs rfl rfl rfl ?_
        refine zinc rfl rfl rfl ?_
        refine zs rfl rfl rfl ?_
        exact ih (i + 1) (by omega)
    exact loop n 0 (Nat.zero_add n)
  rw [if_neg h0, if_neg h1, if_neg h2, if_neg h3, if_neg h4]
  refine zsw rfl rfl (ne_rng (k := 5) (by decide) ?_) rfl ?_
  · intro i hi
    match i, hi with
    | 0, _ => exact h0
    | 1, _ => exact h1
    | 2, _ => exact h2
    | 3, _ => exact h3
    | 4, _ => exact h4
  refine zs rfl rfl rfl ?_
  refine zs rfl rfl rfl ?_
  refine zcl rfl rfl (m_finds_0) ?_
  exact zret rfl rfl (mP_ref (S := S) (F := F) (c := 0) rfl (fr55 hf2) (hC2))
theorem m_would (hC : mC M S F) (hO : Ok S n) (w : Int32) : zV X 162 [.ref 44, .int w] M N (mP M N (r_would S F n w)) := by
  refine zVi [(0, .ref 44), (1, .int w)] rfl ?_
  unfold r_would
  refine zs rfl rfl rfl ?_
  refine zcl rfl rfl (m_isWind w) ?_
  by_cases h2 : 0 ≤ w ∧ w ≤ 12
  · rw [decide_eq_true h2, if_pos h2]
    refine zs rfl rfl rfl ?_
    refine zs rfl rfl rfl ?_
    refine zs rfl rfl rfl ?_
    refine zclQ rfl rfl (m_wouldSet hC.1 hO.b w) ?_
    rintro v2 M2 N2 ⟨rfl, rfl, hf2, hr2⟩
    refine zs rfl rfl rfl ?_
    exact zret rfl rfl (mP_ok (S' := S) (F := F) rfl (fr47 hf2) (hC.to hf2 (by decide) hr2))
  · rw [decide_eq_false h2, if_neg h2]
    refine zs rfl rfl rfl ?_
    refine zs rfl rfl rfl ?_
    refine zs rfl rfl rfl ?_
    refine zcl rfl rfl (m_finds_0) ?_
    exact zret rfl rfl (mP_ref (S := S) (F := F) (c := 0) rfl (Fr.rfl') (hC))
theorem m_holds (hC : mC M S F) (hO : Ok S n) : zV X 163 [.ref 44] M N (mP M N (r_holds S F n)) := by
  refine zVi [(0, .ref 44)] rfl ?_
  unfold r_holds
  refine zs rfl rfl rfl ?_
  refine zclQ rfl rfl (m_holdsTo hC.1 hO.b hO.ho0) ?_
  rintro v2 M2 N2 ⟨rfl, rfl, hf2, hr2⟩
  have hC2 := hC.to hf2 (by decide) hr2
  refine zs rfl rfl rfl ?_
  refine zs rfl rfl rfl ?_
  refine zbr rfl rfl rfl (fun hc => ?_) (fun hc => ?_)
  · rw [if_neg (i_nlt.mpr hc)]
    refine zs rfl rfl rfl ?_
    exact zret rfl rfl (mP_ok (S' := S) (F := F) rfl (fr47 hf2) (hC2))
  · rw [if_pos (i_nle.mp hc)]
    refine zs rfl rfl rfl ?_
    refine zs rfl rfl rfl ?_
    refine zcl rfl rfl (m_finds_3) ?_
    refine zs rfl rfl rfl ?_
    exact zret rfl rfl (mP_ref (S := S) (F := F) (c := 3) rfl (fr47 hf2) (hC2))
theorem m_sure (hC : mC M S F) (hO : Ok S n) : zV X 168 [.ref 44] M N (mP M N (r_sure S F n)) := by
  refine zVi [(0, .ref 44)] rfl ?_
  unfold r_sure
  refine zs rfl rfl rfl ?_
  refine zs rfl rfl rfl ?_
  refine zs rfl rfl rfl ?_
  refine zs rfl rfl rfl ?_
  have loop : ∀ d i M1, i + d = 13 → Fr [45, 47, 55] M M1 → Rw M1 45 S → zW X 168 4 [(0, .ref 44), (1, .int (csum i (fun w => alh S n (nI w)) (fun w => S (9 + w)))), (2, .int (nI i))] [] M1 N (mP M N (csum 13 (fun w => alh S n (nI w)) (fun w => S (9 + w)), S, F)) := by
    intro d
    induction d with
    | zero =>
      intro i M1 hi hf hr1
      obtain rfl : i = 13 := by omega
      refine zs rfl rfl rfl ?_
      refine zs rfl rfl rfl ?_
      first | refine zs rfl rfl rfl ?_ | refine zbt (nI_le (a := 13) (by omega) (by omega)) rfl rfl rfl ?_
      refine zs rfl rfl rfl ?_
      exact zret rfl rfl (mP_ok (S' := S) (F := F) rfl (fr47 hf) (hC.to hf (by decide) hr1))
    | succ d ih =>
      intro i M1 hi hf hr1
      refine zs rfl rfl rfl ?_
      refine zs rfl rfl rfl ?_
      refine zbf (nI_ge (b := 13) (by omega) (by omega)) rfl rfl rfl ?_
      refine zs rfl rfl rfl ?_
      refine zs rfl rfl rfl ?_
      refine zs rfl rfl rfl ?_
      refine zclQ rfl rfl (m_holdIn hr1 hO.b hO.ho0 (nI i)) ?_
      rintro v0 M2 N2 ⟨rfl, rfl, hf2, hr2⟩
      have ih' := ih (i + 1) M2 (by omega) (hf.trans hf2) hr2
      cases ha : alh S n (nI i) with
      | true =>
        rw [csum_t ha] at ih'
        refine zs rfl rfl rfl ?_
        refine zs rfl rfl rfl ?_
        refine zs rfl rfl rfl ?_
        refine zs rfl rfl rfl ?_
        refine zs rfl rfl rfl ?_
        refine zs rfl rfl rfl ?_
        refine zto rfl (nI_add 9 i) ?_
        refine zal rfl rfl rfl (by omega) (by decide) ?_
        refine zto rfl (hr2 _ (by omega)) ?_
        refine zs rfl rfl rfl ?_
        refine zs rfl rfl rfl ?_
        refine zs rfl rfl rfl ?_
        refine zinc rfl rfl rfl ?_
        refine zs rfl rfl rfl ?_
        exact ih'
      | false =>
        rw [csum_f ha] at ih'
        refine zs rfl rfl rfl ?_
        refine zs rfl rfl rfl ?_
        refine zs rfl rfl rfl ?_
        refine zto rfl (Int32.add_zero _) ?_
        refine zs rfl rfl rfl ?_
        refine zinc rfl rfl rfl ?_
        refine zs rfl rfl rfl ?_
        exact ih'
  exact loop 13 0 M rfl Fr.rfl' hC.1
theorem m_free (hC : mC M S F) (hO : Ok S n) : zV X 169 [.ref 44] M N (mP M N (r_free S F n)) := by
  refine zVi [(0, .ref 44)] rfl ?_
  unfold r_free
  have hr := hC.1
  have hB := hO.b
  have hle := hO.le
  have hn0 := hC.n0 hO
  refine zs rfl rfl rfl ?_
  refine zs rfl rfl rfl ?_
  refine zs rfl rfl rfl ?_
  refine zs rfl rfl rfl ?_
  have loop : ∀ d i, i + d = n → zW X 169 4 [(0, .ref 44), (1, .int (nI (bset i (fun k => decide (lk S k ≠ -1) && decide (hg S n (nI k) = 0))))), (2, .int (nI i))] [] M N (mP M N (nI (bset n (fun k => decide (lk S k ≠ -1) && decide (hg S n (nI k) = 0))), S, F)) := by
    intro d
    induction d with
    | zero =>
      intro i hi
      obtain rfl : i = n := by omega
      refine zs rfl rfl rfl ?_
      refine zs rfl rfl rfl ?_
      refine zs rfl rfl rfl ?_
      refine zs rfl rfl rfl ?_
      refine zal (i := 0) rfl rfl rfl (by decide) (by decide) ?_
      try refine zto rfl hn0 ?_
      refine zbt (nI_le (by omega) (by omega)) rfl rfl rfl ?_
      refine zs rfl rfl rfl ?_
      exact zret rfl rfl (mP_ok (S' := S) (F := F) rfl (Fr.rfl') (hC))
    | succ d ih =>
      intro i hi
      have ih' := ih (i + 1) (by omega)
      refine zs rfl rfl rfl ?_
      refine zs rfl rfl rfl ?_
      refine zs rfl rfl rfl ?_
      refine zs rfl rfl rfl ?_
      refine zal (i := 0) rfl rfl rfl (by decide) (by decide) ?_
      try refine zto rfl hn0 ?_
      refine zbf (nI_ge (by omega) (by omega)) rfl rfl rfl ?_
      refine zs rfl rfl rfl ?_
      refine zs rfl rfl rfl ?_
      refine zs rfl rfl rfl ?_
      refine zcl rfl rfl (m_hangs hr hle hB.l (show i < n by omega)) ?_
      by_cases hc : lk S i ≠ -1
      · rw [decide_eq_true hc]
        refine zs rfl rfl rfl ?_
        refine zs rfl rfl rfl ?_
        refine zs rfl rfl rfl ?_
        refine zcl rfl rfl (m_on hr hB.s0 hle (nI i)) ?_
        refine zbr rfl rfl rfl (fun hb => ?_) (fun hb => ?_)
        · rw [bset_f (by rw [decide_eq_false (fun q => hb ((nI0 (by have := hg_lt (S := S) hle (nI i); omega)).mpr q)), Bool.and_false])] at ih'
          refine zs rfl rfl rfl ?_
          refine zs rfl rfl rfl ?_
          refine zto rfl (or0 _) ?_
          refine zs rfl rfl rfl ?_
          refine zinc rfl rfl rfl ?_
          refine zs rfl rfl rfl ?_
          exact ih'
        · rw [bset_t (by rw [decide_eq_true hc, decide_eq_true ((nI0 (by have := hg_lt (S := S) hle (nI i); omega)).mp (Decidable.not_not.mp hb))]; rfl)] at ih'
          refine zs rfl rfl rfl ?_
          refine zs rfl rfl rfl ?_
          refine zs rfl rfl rfl ?_
          refine zs rfl rfl rfl ?_
          refine zs rfl rfl rfl ?_
          refine zto rfl (or_bit (bset_lt _ _) (by omega)) ?_
          refine zs rfl rfl rfl ?_
          refine zinc rfl rfl rfl ?_
          refine zs rfl rfl rfl ?_
          exact ih'
      · rw [decide_eq_false hc]
        rw [bset_f (by rw [decide_eq_false hc]; rfl)] at ih'
        refine zs rfl rfl rfl ?_
        refine zs rfl rfl rfl ?_
        refine zs rfl rfl rfl ?_
        refine zto rfl (or0 _) ?_
        refine zs rfl rfl rfl ?_
        refine zinc rfl rfl rfl ?_
        refine zs rfl rfl rfl ?_
        exact ih'
  exact loop n 0 (Nat.zero_add n)
theorem m_ahead (hC : mC M S F) (hO : Ok S n) (s : Int32) : zV X 170 [.ref 44, .int s] M N (mP M N (r_ahead S F n s)) := by
  refine zVi [(0, .ref 44), (1, .int s)] rfl ?_
  unfold r_ahead
  have hB := hO.b
  refine zs rfl rfl rfl ?_
  refine zs rfl rfl rfl ?_
  refine zcl rfl rfl (m_isShip (hC.n0 hO) s) ?_
  cases h : shp n s with
  | true =>
    rw [if_pos rfl]
    refine zs rfl rfl rfl ?_
    refine zs rfl rfl rfl ?_
    refine zs rfl rfl rfl ?_
    refine zcl rfl rfl (m_stringOf hC.1 hB.s0 hB.le hB.l hB.lv s) ?_
    refine zcl rfl rfl (m_manyIn (stg_lt hB.le _)) ?_
    refine zs rfl rfl rfl ?_
    refine zs rfl rfl rfl ?_
    refine zs rfl rfl rfl ?_
    exact zret rfl rfl (mP_ok (S' := S) (F := F) rfl (Fr.rfl') (hC))
  | false =>
    rw [if_neg (by decide)]
    refine zs rfl rfl rfl ?_
    refine zs rfl rfl rfl ?_
    refine zs rfl rfl rfl ?_
    refine zcl rfl rfl (m_finds_0) ?_
    exact zret rfl rfl (mP_ref (S := S) (F := F) (c := 0) rfl (Fr.rfl') (hC))
end MPUB2
