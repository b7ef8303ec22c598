/-! More of the model's calls that choose. -/
section MPUB4
variable {X : Nat × (Nat → Int32)} {M M2 : zM} {N : zN} {S F T : zS} {n : Nat}
theorem m_best (hC : mC M S F) (hO : Ok S n) (s : Int32) : zV X 173 [.ref 44, .int s] M N (mP M N (r_best S F n s)) := by
  refine zVi [(0, .ref 44), (1, .int s)] rfl ?_
  unfold r_best
  have hB := hO.b
  have hle := hO.le
  refine zs rfl rfl rfl ?_
  refine zs rfl rfl rfl ?_
  refine zcl rfl rfl (m_isShip (hC.n0 hO) s) ?_
  cases h : shp n s with
  | true =>
    rw [if_pos rfl]
    obtain ⟨j, hj, rfl⟩ := shp_of hle h
    rw [nI_clamp (by omega)]
    have hj12 : j < 12 := by omega
    refine zs rfl rfl rfl ?_
    refine zs rfl rfl rfl ?_
    refine zs rfl rfl rfl ?_
    refine zs rfl rfl rfl ?_
    refine zs rfl rfl rfl ?_
    refine zs rfl rfl rfl ?_
    refine zs rfl rfl rfl ?_
    refine zs rfl rfl rfl ?_
    refine zcl rfl rfl (m_is4 hC.1 hj12) ?_
    refine zs rfl rfl rfl ?_
    refine zs rfl rfl rfl ?_
    refine zs rfl rfl rfl ?_
    have loop : ∀ d k M1 tl, k + d = 18 → (tl = [] ∨ ∃ a : Int32, tl = [(6, Value.int a)]) → Fr [45, 47, 55] M M1 → Rw M1 45 S → zW X 173 30 ((0, .ref 44) :: (1, .int (nI j)) :: (2, .int (mb (cho (bsg S n j) (-1000000004) (-1) (tg k)).1)) :: (3, .int (cho (bsg S n j) (-1000000004) (-1) (tg k)).2) :: (4, .int (lk S j)) :: (5, .int (nI (tg k))) :: tl) [] M1 N (mP M N (r_ch S F (cho (bsg S n j) (-1000000004) (-1) 106).1)) := by
      intro d
      induction d with
      | zero =>
        intro k M1 tl hk htl hf hr1
        obtain rfl : k = 18 := by omega
        have hC1 := hC.to hf (by decide) hr1
        rw [show tg 18 = 106 by decide]
        unfold r_ch
        rcases bx_cho (bsg S n j) (b := -1000000004) (Or.inl rfl) (-1) 106 (by decide) with e | ⟨x, hx, e⟩
        · rw [e, mb_0, if_pos rfl]
          rcases htl with rfl | ⟨a, rfl⟩
          · refine zs rfl rfl rfl ?_
            refine zs rfl rfl rfl ?_
            refine zs rfl rfl rfl ?_
            refine zs rfl rfl rfl ?_
            refine zs rfl rfl rfl ?_
            refine zs rfl rfl rfl ?_
            refine zs rfl rfl rfl ?_
            refine zcl rfl rfl (m_finds_3) ?_
            refine zs rfl rfl rfl ?_
            exact zret rfl rfl (mP_ref (S := S) (F := F) (c := 3) rfl (fr47 hf) (hC1))
          · refine zs rfl rfl rfl ?_
            refine zs rfl rfl rfl ?_
            refine zs rfl rfl rfl ?_
            refine zs rfl rfl rfl ?_
            refine zs rfl rfl rfl ?_
            refine zs rfl rfl rfl ?_
            refine zs rfl rfl rfl ?_
            refine zcl rfl rfl (m_finds_3) ?_
            refine zs rfl rfl rfl ?_
            exact zret rfl rfl (mP_ref (S := S) (F := F) (c := 3) rfl (fr47 hf) (hC1))
        · rw [e, mb_x (by omega), if_neg (nI_fd3 (by omega))]
          rcases htl with rfl | ⟨a, rfl⟩
          · refine zs rfl rfl rfl ?_
            refine zs rfl rfl rfl ?_
            refine zs rfl rfl rfl ?_
            refine zs rfl rfl rfl ?_
            refine zbt (nI_pos' (by omega)) rfl rfl rfl ?_
            refine zs rfl rfl rfl ?_
            exact zret rfl rfl (mP_ok (S' := S) (F := F) rfl (fr47 hf) (hC1))
          · refine zs rfl rfl rfl ?_
            refine zs rfl rfl rfl ?_
            refine zs rfl rfl rfl ?_
            refine zs rfl rfl rfl ?_
            refine zbt (nI_pos' (by omega)) rfl rfl rfl ?_
            refine zs rfl rfl rfl ?_
            exact zret rfl rfl (mP_ok (S' := S) (F := F) rfl (fr47 hf) (hC1))
      | succ d ih =>
        intro k M1 tl hk htl hf hr1
        have hk18 : k < 18 := by omega
        obtain ⟨ht106, htc⟩ := tg_lt hk18
        have enx := tg_next hk18
        have ept := bst_tg (S := S) hle j hk18
        have adv : ∀ M2 tl b l, (tl = [] ∨ ∃ a : Int32, tl = [(6, Value.int a)]) → Fr [45, 47, 55] M M2 → Rw M2 45 S → b = mb (cho (bsg S n j) (-1000000004) (-1) (tg (k + 1))).1 → l = (cho (bsg S n j) (-1000000004) (-1) (tg (k + 1))).2 → zW X 173 95 ((0, .ref 44) :: (1, .int (nI j)) :: (2, .int b) :: (3, .int l) :: (4, .int (lk S j)) :: (5, .int (nI (tg k))) :: tl) [] M2 N (mP M N (r_ch S F (cho (bsg S n j) (-1000000004) (-1) 106).1)) := by
          intro M2 tl b l htl hf2 hr2 hb hl
          have ih' := ih (k + 1) M2 tl (by omega) htl hf2 hr2
          rw [← hb, ← hl, ← enx] at ih'
          by_cases q : nI (tg k) = 11
          · rw [if_pos q] at ih'
            rcases htl with rfl | ⟨a, rfl⟩
            · refine zs rfl rfl rfl ?_
              refine zs rfl rfl rfl ?_
              refine zbf (not_not_intro q) rfl rfl rfl ?_
              refine zs rfl rfl rfl ?_
              refine zs rfl rfl rfl ?_
              refine zs rfl rfl rfl ?_
              refine zs rfl rfl rfl ?_
              exact ih'
            · refine zs rfl rfl rfl ?_
              refine zs rfl rfl rfl ?_
              refine zbf (not_not_intro q) rfl rfl rfl ?_
              refine zs rfl rfl rfl ?_
              refine zs rfl rfl rfl ?_
              refine zs rfl rfl rfl ?_
              refine zs rfl rfl rfl ?_
              exact ih'
          · rw [if_neg q] at ih'
            rcases htl with rfl | ⟨a, rfl⟩
            · refine zs rfl rfl rfl ?_
              refine zs rfl rfl rfl ?_
              refine zbt (q) rfl rfl rfl ?_
              refine zs rfl rfl rfl ?_
              refine zs rfl rfl rfl ?_
              refine zs rfl rfl rfl ?_
              refine zs rfl rfl rfl ?_
              refine zs rfl rfl rfl ?_
              exact ih'
            · refine zs rfl rfl rfl ?_
              refine zs rfl rfl rfl ?_
              refine zbt (q) rfl rfl rfl ?_
              refine zs rfl rfl rfl ?_
              refine zs rfl rfl rfl ?_
              refine zs rfl rfl rfl ?_
              refine zs rfl rfl rfl ?_
              refine zs rfl rfl rfl ?_
              exact ih'
        have body : ∀ tl, (tl = [] ∨ ∃ a : Int32, tl = [(6, Value.int a)]) → zW X 173 44 ((0, .ref 44) :: (1, .int (nI j)) :: (2, .int (mb (cho (bsg S n j) (-1000000004) (-1) (tg k)).1)) :: (3, .int (cho (bsg S n j) (-1000000004) (-1) (tg k)).2) :: (4, .int (lk S j)) :: (5, .int (nI (tg k))) :: tl) [.int (bI (mh S n j (tg k)))] M1 N (mP M N (r_ch S F (cho (bsg S n j) (-1000000004) (-1) 106).1)) := by
          intro tl htl
          rw [← bth_mh hB hj htc]
          cases hb : bth S n j (nI (tg k)) with
          | false =>
            have e : cho (bsg S n j) (-1000000004) (-1) (tg (k + 1)) = cho (bsg S n j) (-1000000004) (-1) (tg k) := ept.trans (cho_f (fun q => by
              have e1 : bsg S n j (tg k) = -1 := by unfold bsg; rw [hb]; rfl
              rw [e1, i_lt, t_m1] at q
              have := cho_ge (bsg_ge S n j) (-1000000004) (l := -1) (by decide) (tg k)
              omega))
            have a1 := adv M1 tl _ _ htl hf hr1 (by rw [e]) (by rw [e])
            rcases htl with rfl | ⟨a, rfl⟩
            · refine zs rfl rfl rfl ?_
              exact a1
            · refine zs rfl rfl rfl ?_
              exact a1
          | true =>
            obtain ⟨hth, hlo⟩ := bth_ok hle hb
            have hB2 := hB.upl hj hth hlo
            have hr2 : Rw (z_up M1 45 (26 + 5 * j) (nI (tg k))) 45 (upl S j (nI (tg k))) := hr1.up _ _
            have hf2 : Fr [45, 47, 55] M (z_up M1 45 (26 + 5 * j) (nI (tg k))) := hf.trans (Fr.up (by decide))
            have eg : bsg S n j (tg k) = ght (upl S j (nI (tg k))) n := by unfold bsg; rw [hb]; rfl
            have back : ∀ M3, Rw M3 45 (upl S j (nI (tg k))) → Rw (z_up M3 45 (26 + 5 * j) (lk S j)) 45 S := fun M3 h3 => by
              have := h3.up (26 + 5 * j) (lk S j)
              unfold upl at this
              rw [upd_upd] at this
              unfold lk at this
              rw [upd_self] at this
              exact this
            have t2 : ∀ M3, Fr [45, 47, 55] M M3 → Rw M3 45 (upl S j (nI (tg k))) → zW X 173 61 [(0, .ref 44), (1, .int (nI j)), (2, .int (mb (cho (bsg S n j) (-1000000004) (-1) (tg k)).1)), (3, .int (cho (bsg S n j) (-1000000004) (-1) (tg k)).2), (4, .int (lk S j)), (5, .int (nI (tg k))), (6, .int (bsg S n j (tg k)))] [] M3 N (mP M N (r_ch S F (cho (bsg S n j) (-1000000004) (-1) 106).1)) := by
              intro M3 hf3 hr3
              refine zs rfl rfl rfl ?_
              refine zs rfl rfl rfl ?_
              refine zbr rfl rfl rfl (fun hc => ?_) (fun hc => ?_)
              · have e := ept.trans (cho_f (i_nlt.mpr hc))
                refine zs rfl rfl rfl ?_
                refine zs rfl rfl rfl ?_
                refine zs rfl rfl rfl ?_
                refine zs rfl rfl rfl ?_
                refine zbt (hc) rfl rfl rfl ?_
                refine zs rfl rfl rfl ?_
                refine zs rfl rfl rfl ?_
                refine zs rfl rfl rfl ?_
                refine zs rfl rfl rfl ?_
                refine zs rfl rfl rfl ?_
                refine zs rfl rfl rfl ?_
                refine zcl rfl rfl (m_puts4 hj12 (lk S j)) ?_
                exact adv _ _ _ _ (Or.inr ⟨_, rfl⟩) (hf3.trans (Fr.up (by decide))) (back M3 hr3) (by rw [e]) (by rw [e])
              · have e := ept.trans (cho_t (i_nle.mp hc))
                refine zs rfl rfl rfl ?_
                refine zs rfl rfl rfl ?_
                refine zs rfl rfl rfl ?_
                refine zs rfl rfl rfl ?_
                refine zs rfl rfl rfl ?_
                refine zbf (hc) rfl rfl rfl ?_
                refine zs rfl rfl rfl ?_
                refine zs rfl rfl rfl ?_
                refine zs rfl rfl rfl ?_
                refine zs rfl rfl rfl ?_
                refine zs rfl rfl rfl ?_
                refine zs rfl rfl rfl ?_
                refine zs rfl rfl rfl ?_
                refine zcl rfl rfl (m_puts4 hj12 (lk S j)) ?_
                exact adv _ _ _ _ (Or.inr ⟨_, rfl⟩) (hf3.trans (Fr.up (by decide))) (back M3 hr3) (by rw [e, mb_x (by omega)]) (by rw [e])
            rw [eg] at t2
            rcases htl with rfl | ⟨a, rfl⟩
            · refine zs rfl rfl rfl ?_
              refine zs rfl rfl rfl ?_
              refine zs rfl rfl rfl ?_
              refine zs rfl rfl rfl ?_
              refine zs rfl rfl rfl ?_
              refine zcl rfl rfl (m_puts4 hj12 (nI (tg k))) ?_
              refine zs rfl rfl rfl ?_
              refine zclQ rfl rfl (m_holdsTo hr2 hB2 (ho0_upl hO)) ?_
              rintro v4 M4 N4 ⟨rfl, rfl, hf4, hr4⟩
              refine zs rfl rfl rfl ?_
              exact t2 M4 (hf2.trans hf4) hr4
            · refine zs rfl rfl rfl ?_
              refine zs rfl rfl rfl ?_
              refine zs rfl rfl rfl ?_
              refine zs rfl rfl rfl ?_
              refine zs rfl rfl rfl ?_
              refine zcl rfl rfl (m_puts4 hj12 (nI (tg k))) ?_
              refine zs rfl rfl rfl ?_
              refine zclQ rfl rfl (m_holdsTo hr2 hB2 (ho0_upl hO)) ?_
              rintro v4 M4 N4 ⟨rfl, rfl, hf4, hr4⟩
              refine zs rfl rfl rfl ?_
              exact t2 M4 (hf2.trans hf4) hr4
        rcases htl with rfl | ⟨a, rfl⟩
        · refine zs rfl rfl rfl ?_
          refine zs rfl rfl rfl ?_
          refine zbf (nI_ge (b := 106) (by omega) (by omega)) rfl rfl rfl ?_
          refine zs rfl rfl rfl ?_
          refine zs rfl rfl rfl ?_
          refine zs rfl rfl rfl ?_
          refine zcl rfl rfl (m_mayHang hr1 hB ht106 (nI j) rfl) ?_
          exact body [] (Or.inl rfl)
        · refine zs rfl rfl rfl ?_
          refine zs rfl rfl rfl ?_
          refine zbf (nI_ge (b := 106) (by omega) (by omega)) rfl rfl rfl ?_
          refine zs rfl rfl rfl ?_
          refine zs rfl rfl rfl ?_
          refine zs rfl rfl rfl ?_
          refine zcl rfl rfl (m_mayHang hr1 hB ht106 (nI j) rfl) ?_
          exact body _ (Or.inr ⟨_, rfl⟩)
    exact loop 18 0 M [] rfl (Or.inl rfl) Fr.rfl' hC.1
  | false =>
    rw [if_neg (by decide)]
    refine zs rfl rfl rfl ?_
    refine zs rfl rfl rfl ?_
    refine zs rfl rfl rfl ?_
    refine zcl rfl rfl (m_finds_0) ?_
    exact zret rfl rfl (mP_ref (S := S) (F := F) (c := 0) rfl (Fr.rfl') (hC))
theorem m_cut (hC : mC M S F) (hO : Ok S n) (s : Int32) : zV X 175 [.ref 44, .int s] M N (mP M N (r_cut S F n s)) := by
  refine zVi [(0, .ref 44), (1, .int s)] rfl ?_
  unfold r_cut
  have hB := hO.b
  have hle := hO.le
  refine zs rfl rfl rfl ?_
  refine zs rfl rfl rfl ?_
  refine zcl rfl rfl (m_isShip (hC.n0 hO) s) ?_
  cases h : shp n s with
  | true =>
    rw [if_pos rfl]
    obtain ⟨j, hj, rfl⟩ := shp_of hle h
    rw [nI_clamp (by omega)]
    refine zs rfl rfl rfl ?_
    refine zs rfl rfl rfl ?_
    refine zs rfl rfl rfl ?_
    refine zcl rfl rfl (m_hangs hC.1 hle hB.l hj) ?_
    by_cases hc : lk S j = -1
    · rw [decide_eq_false (not_not_intro hc), if_pos hc]
      refine zs rfl rfl rfl ?_
      refine zs rfl rfl rfl ?_
      refine zs rfl rfl rfl ?_
      refine zcl rfl rfl (m_finds_4) ?_
      exact zret rfl rfl (mP_ref (S := S) (F := F) (c := 4) rfl (Fr.rfl') (hC))
    · rw [decide_eq_true hc, if_neg hc]
      refine zs rfl rfl rfl ?_
      refine zs rfl rfl rfl ?_
      refine zs rfl rfl rfl ?_
      refine zclQ rfl rfl (m_cuts hC.1 hB hj) ?_
      rintro v2 M2 N2 ⟨rfl, rfl, hf2, hr2⟩
      refine zs rfl rfl rfl ?_
      exact zret rfl rfl (mP_ok (S' := cto S n j) (F := F) rfl (hf2.mono (by decide)) (hC.to hf2 (by decide) hr2))
  | false =>
    rw [if_neg (by decide)]
    refine zs rfl rfl rfl ?_
    refine zs rfl rfl rfl ?_
    refine zs rfl rfl rfl ?_
    refine zcl rfl rfl (m_finds_0) ?_
    exact zret rfl rfl (mP_ref (S := S) (F := F) (c := 0) rfl (Fr.rfl') (hC))
theorem ho0_cto {j : Nat} (hO : Ok S n) : ∀ a, a < 6 → 0 ≤ cto S n j (3 + a) := fun a ha => by
  rw [show cto S n j (3 + a) = S (3 + a) from els_lo (els_upl (els_hal _ _ n) j _) (by omega)]
  exact hO.ho0 a ha
theorem m_canCut (hC : mC M S F) (hO : Ok S n) (s w : Int32) : zV X 176 [.ref 44, .int s, .int w] M N (mP M N (r_canCut S F n s w)) := by
  refine zVi [(0, .ref 44), (1, .int s), (2, .int w)] rfl ?_
  unfold r_canCut
  have hB := hO.b
  have hle := hO.le
  refine zs rfl rfl rfl ?_
  refine zs rfl rfl rfl ?_
  refine zcl rfl rfl (m_isShip (hC.n0 hO) s) ?_
  cases h : shp n s with
  | true =>
    rw [if_pos rfl]
    obtain ⟨j, hj, rfl⟩ := shp_of hle h
    rw [nI_clamp (by omega)]
    refine zs rfl rfl rfl ?_
    refine zs rfl rfl rfl ?_
    refine zcl rfl rfl (m_isWind w) ?_
    by_cases h2 : 0 ≤ w ∧ w ≤ 12
    · rw [decide_eq_true h2, if_pos h2]
      refine zs rfl rfl rfl ?_
      refine zs rfl rfl rfl ?_
      refine zs rfl rfl rfl ?_
      refine zcl rfl rfl (m_hangs hC.1 hle hB.l hj) ?_
      by_cases hc : lk S j = -1
      · rw [decide_eq_false (not_not_intro hc), if_pos hc]
        refine zs rfl rfl rfl ?_
        refine zs rfl rfl rfl ?_
        refine zs rfl rfl rfl ?_
        refine zcl rfl rfl (m_finds_4) ?_
        exact zret rfl rfl (mP_ref (S := S) (F := F) (c := 4) rfl (Fr.rfl') (hC))
      · rw [decide_eq_true hc, if_neg hc]
        refine zs rfl rfl rfl ?_
        refine zs rfl rfl rfl ?_
        refine zs rfl rfl rfl ?_
        refine zs rfl rfl rfl ?_
        refine zs rfl rfl rfl ?_
        refine zclQ rfl rfl (m_copyRow_45_48 hC.1) ?_
        rintro v2 M2 N2 ⟨rfl, rfl, hf2, hr2⟩
        refine zs rfl rfl rfl ?_
        refine zs rfl rfl rfl ?_
        refine zclQ rfl rfl (m_cuts (hC.1.fr hf2 (by decide)) hB hj) ?_
        rintro v3 M3 N3 ⟨rfl, rfl, hf3, hr3⟩
        refine zs rfl rfl rfl ?_
        refine zs rfl rfl rfl ?_
        refine zs rfl rfl rfl ?_
        refine zclQ rfl rfl (m_holdIn hr3 (hB.cto hj) (ho0_cto hO) w) ?_
        rintro v4 M4 N4 ⟨rfl, rfl, hf4, hr4⟩
        refine zs rfl rfl rfl ?_
        refine zs rfl rfl rfl ?_
        refine zs rfl rfl rfl ?_
        refine zs rfl rfl rfl ?_
        refine zs rfl rfl rfl ?_
        refine zclQ rfl rfl (m_copyRow_48_45 ((hr2.fr hf3 (by decide)).fr hf4 (by decide))) ?_
        rintro v5 M5 N5 ⟨rfl, rfl, hf5, hr5⟩
        have hf : Fr [45, 47, 48, 55] M M5 := (((hf2.mono (by decide)).trans (hf3.mono (by decide))).trans (hf4.mono (by decide))).trans (hf5.mono (by decide))
        refine zs rfl rfl rfl ?_
        cases alh (cto S n j) n w
        · refine zs rfl rfl rfl ?_
          refine zs rfl rfl rfl ?_
          exact zret rfl rfl (mP_ok (S' := S) (F := F) rfl (hf.mono (by decide)) (hC.to hf (by decide) hr5))
        · refine zs rfl rfl rfl ?_
          refine zs rfl rfl rfl ?_
          refine zs rfl rfl rfl ?_
          exact zret rfl rfl (mP_ok (S' := S) (F := F) rfl (hf.mono (by decide)) (hC.to hf (by decide) hr5))
    · rw [decide_eq_false h2, if_neg h2]
      refine zs rfl rfl rfl ?_
      refine zs rfl rfl rfl ?_
      refine zs rfl rfl rfl ?_
      refine zcl rfl rfl (m_finds_0) ?_
      exact zret rfl rfl (mP_ref (S := S) (F := F) (c := 0) rfl (Fr.rfl') (hC))
  | false =>
    rw [if_neg (by decide)]
    refine zs rfl rfl rfl ?_
    refine zs rfl rfl rfl ?_
    refine zs rfl rfl rfl ?_
    refine zcl rfl rfl (m_finds_0) ?_
    exact zret rfl rfl (mP_ref (S := S) (F := F) (c := 0) rfl (Fr.rfl') (hC))
theorem aon_lt (h12 : n ≤ 12) (t : Int32) : aon S n t < 4096 := Nat.lt_of_lt_of_le (bset_lt _ _) (Nat.pow_le_pow_right (by decide) h12 : 2 ^ n ≤ 2 ^ 12)
theorem m_matters (hC : mC M S F) (hO : Ok S n) : zV X 177 [.ref 44] M N (mP M N (r_matters S F n)) := by
  refine zVi [(0, .ref 44)] rfl ?_
  unfold r_matters
  have hB := hO.b
  have hle := hO.le
  rw [cho_congr (-1000000004) 0 n (fun k hk => mtt_n hB hk)]
  refine zs rfl rfl rfl ?_
  refine zs rfl rfl rfl ?_
  refine zs rfl rfl rfl ?_
  refine zcl rfl rfl (m_lostSet hC.1 hB) ?_
  refine zcl rfl rfl (m_manyIn (aon_lt hle _)) ?_
  refine zs rfl rfl rfl ?_
  refine zs rfl rfl rfl ?_
  refine zs rfl rfl rfl ?_
  have loop : ∀ d i M1 tl m, i + d = n → (tl = [] ∨ ∃ a b : Int32, tl = [(4, Value.int a), (5, Value.int b)]) → m ≤ 12 → (cho (fun k => nI (mtn S n k)) (-1000000004) 0 i).2 = nI m → Fr [45] M M1 → Rw M1 45 S → zW X 177 12 ((0, .ref 44) :: (1, .int (mb (cho (fun k => nI (mtn S n k)) (-1000000004) 0 i).1)) :: (2, .int (nI (many (aon S n (-1)) + m))) :: (3, .int (nI i)) :: tl) [] M1 N (mP M N (r_ch S F (cho (fun k => nI (mtn S n k)) (-1000000004) 0 n).1)) := by
    intro d
    induction d with
    | zero =>
      intro i M1 tl m hi htl hm1 hm hf hr1
      obtain rfl : i = n := by omega
      have hC1 := hC.to hf (by decide) hr1
      have hn0 := hC1.n0 hO
      unfold r_ch
      rcases bx_cho (fun k => nI (mtn S i k)) (b := -1000000004) (Or.inl rfl) 0 i (by omega) with e | ⟨x, hx, e⟩
      · rw [e, mb_0, if_pos rfl]
        rcases htl with rfl | ⟨a, b, rfl⟩
        · refine zs rfl rfl rfl ?_
          refine zs rfl rfl rfl ?_
          refine zs rfl rfl rfl ?_
          refine zs rfl rfl rfl ?_
          refine zal (i := 0) rfl rfl rfl (by decide) (by decide) ?_
          try refine zto rfl hn0 ?_
          refine zbt (nI_le (by omega) (by omega)) rfl rfl rfl ?_
          refine zs rfl rfl rfl ?_
          refine zs rfl rfl rfl ?_
          refine zs rfl rfl rfl ?_
          refine zs rfl rfl rfl ?_
          refine zcl rfl rfl (m_finds_3) ?_
          refine zs rfl rfl rfl ?_
          exact zret rfl rfl (mP_ref (S := S) (F := F) (c := 3) rfl (hf.mono (by decide)) (hC1))
        · refine zs rfl rfl rfl ?_
          refine zs rfl rfl rfl ?_
          refine zs rfl rfl rfl ?_
          refine zs rfl rfl rfl ?_
          refine zal (i := 0) rfl rfl rfl (by decide) (by decide) ?_
          try refine zto rfl hn0 ?_
          refine zbt (nI_le (by omega) (by omega)) rfl rfl rfl ?_
          refine zs rfl rfl rfl ?_
          refine zs rfl rfl rfl ?_
          refine zs rfl rfl rfl ?_
          refine zs rfl rfl rfl ?_
          refine zcl rfl rfl (m_finds_3) ?_
          refine zs rfl rfl rfl ?_
          exact zret rfl rfl (mP_ref (S := S) (F := F) (c := 3) rfl (hf.mono (by decide)) (hC1))
      · rw [e, mb_x (by omega), if_neg (nI_fd3 (by omega))]
        rcases htl with rfl | ⟨a, b, rfl⟩
        · refine zs rfl rfl rfl ?_
          refine zs rfl rfl rfl ?_
          refine zs rfl rfl rfl ?_
          refine zs rfl rfl rfl ?_
          refine zal (i := 0) rfl rfl rfl (by decide) (by decide) ?_
          try refine zto rfl hn0 ?_
          refine zbt (nI_le (by omega) (by omega)) rfl rfl rfl ?_
          refine zs rfl rfl rfl ?_
          refine zbt (nI_pos' (by omega)) rfl rfl rfl ?_
          refine zs rfl rfl rfl ?_
          exact zret rfl rfl (mP_ok (S' := S) (F := F) rfl (hf.mono (by decide)) (hC1))
        · refine zs rfl rfl rfl ?_
          refine zs rfl rfl rfl ?_
          refine zs rfl rfl rfl ?_
          refine zs rfl rfl rfl ?_
          refine zal (i := 0) rfl rfl rfl (by decide) (by decide) ?_
          try refine zto rfl hn0 ?_
          refine zbt (nI_le (by omega) (by omega)) rfl rfl rfl ?_
          refine zs rfl rfl rfl ?_
          refine zbt (nI_pos' (by omega)) rfl rfl rfl ?_
          refine zs rfl rfl rfl ?_
          exact zret rfl rfl (mP_ok (S' := S) (F := F) rfl (hf.mono (by decide)) (hC1))
    | succ d ih =>
      intro i M1 tl m hi htl hm1 hm hf hr1
      have hin : i < n := by omega
      have hi12 : i < 12 := by omega
      have hn0 : M1 45 0 = nI n := hr1.n0 hB
      have hr2 : Rw (z_up M1 45 (26 + 5 * i) (-1)) 45 (upl S i (-1)) := hr1.up _ _
      have hB2 : Bas (upl S i (-1)) n := hB.dn (dn_upl S i)
      have hr3 : Rw (z_up (z_up M1 45 (26 + 5 * i) (-1)) 45 (26 + 5 * i) (lk S i)) 45 S := by
        have := hr2.up (26 + 5 * i) (lk S i)
        unfold upl at this
        rw [upd_upd] at this
        unfold lk at this
        rw [upd_self] at this
        exact this
      have hf3 : Fr [45] M (z_up (z_up M1 45 (26 + 5 * i) (-1)) 45 (26 + 5 * i) (lk S i)) := (hf.trans (Fr.up (by decide))).trans (Fr.up (by decide))
      have hl1 := many_le (aon S n (-1))
      have hl2 := mtn_le S n i
      have t2 : zW X 177 54 [(0, .ref 44), (1, .int (mb (cho (fun k => nI (mtn S n k)) (-1000000004) 0 i).1)), (2, .int (nI (many (aon S n (-1)) + m))), (3, .int (nI i)), (4, .int (lk S i)), (5, .int (nI (many (aon S n (-1)) + mtn S n i)))] [] (z_up (z_up M1 45 (26 + 5 * i) (-1)) 45 (26 + 5 * i) (lk S i)) N (mP M N (r_ch S F (cho (fun k => nI (mtn S n k)) (-1000000004) 0 n).1)) := by
        refine zs rfl rfl rfl ?_
        refine zs rfl rfl rfl ?_
        refine zbr rfl rfl rfl (fun hc => ?_) (fun hc => ?_)
        · have hle2 := (nI_leI (by omega) (by omega)).mp hc
          have hno : ¬ (cho (fun k => nI (mtn S n k)) (-1000000004) 0 i).2 < nI (mtn S n i) := by
            rw [hm]; exact nI_nlt (by omega) (by omega)
          have e := cho_f (g := fun k => nI (mtn S n k)) (b := -1000000004) (l := 0) hno
          have ih' := ih (i + 1) _ [(4, .int (lk S i)), (5, .int (nI (many (aon S n (-1)) + mtn S n i)))] m (by omega) (Or.inr ⟨_, _, rfl⟩) hm1 (by rw [e]; exact hm) hf3 hr3
          rw [e] at ih'
          refine zs rfl rfl rfl ?_
          refine zs rfl rfl rfl ?_
          refine zs rfl rfl rfl ?_
          refine zs rfl rfl rfl ?_
          refine zbt (hc) rfl rfl rfl ?_
          refine zs rfl rfl rfl ?_
          refine zs rfl rfl rfl ?_
          refine zinc rfl rfl rfl ?_
          refine zs rfl rfl rfl ?_
          exact ih'
        · have hlt : many (aon S n (-1)) + m < many (aon S n (-1)) + mtn S n i := by
            have := i_nle.mp hc
            exact (nI_ltI (by omega) (by omega)).mp this
          have hyes : (cho (fun k => nI (mtn S n k)) (-1000000004) 0 i).2 < nI (mtn S n i) := by
            rw [hm]; exact nI_lt (by omega) (by omega)
          have e := cho_t (g := fun k => nI (mtn S n k)) (b := -1000000004) (l := 0) hyes
          have ih' := ih (i + 1) _ [(4, .int (lk S i)), (5, .int (nI (many (aon S n (-1)) + mtn S n i)))] (mtn S n i) (by omega) (Or.inr ⟨_, _, rfl⟩) hl2 (by rw [e]) hf3 hr3
          rw [e, mb_x (by omega)] at ih'
          refine zs rfl rfl rfl ?_
          refine zs rfl rfl rfl ?_
          refine zs rfl rfl rfl ?_
          refine zs rfl rfl rfl ?_
          refine zs rfl rfl rfl ?_
          refine zbf (hc) rfl rfl rfl ?_
          refine zs rfl rfl rfl ?_
          refine zs rfl rfl rfl ?_
          refine zs rfl rfl rfl ?_
          refine zinc rfl rfl rfl ?_
          refine zs rfl rfl rfl ?_
          exact ih'
      rcases htl with rfl | ⟨a, b, rfl⟩
      · refine zs rfl rfl rfl ?_
        refine zs rfl rfl rfl ?_
        refine zs rfl rfl rfl ?_
        refine zs rfl rfl rfl ?_
        refine zal (i := 0) rfl rfl rfl (by decide) (by decide) ?_
        try refine zto rfl hn0 ?_
        refine zbf (nI_ge (by omega) (by omega)) rfl rfl rfl ?_
        refine zs rfl rfl rfl ?_
        refine zs rfl rfl rfl ?_
        refine zs rfl rfl rfl ?_
        refine zcl rfl rfl (m_is4 hr1 hi12) ?_
        refine zs rfl rfl rfl ?_
        refine zs rfl rfl rfl ?_
        refine zs rfl rfl rfl ?_
        refine zs rfl rfl rfl ?_
        refine zs rfl rfl rfl ?_
        refine zcl rfl rfl (m_puts4 hi12 (-1)) ?_
        refine zs rfl rfl rfl ?_
        refine zcl rfl rfl (m_lostSet hr2 hB2) ?_
        refine zcl rfl rfl (m_manyIn (aon_lt hle _)) ?_
        refine zto rfl (congrArg nI (lost_part hB hin)) ?_
        refine zs rfl rfl rfl ?_
        refine zs rfl rfl rfl ?_
        refine zs rfl rfl rfl ?_
        refine zs rfl rfl rfl ?_
        refine zs rfl rfl rfl ?_
        refine zcl rfl rfl (m_puts4 hi12 (lk S i)) ?_
        exact t2
      · refine zs rfl rfl rfl ?_
        refine zs rfl rfl rfl ?_
        refine zs rfl rfl rfl ?_
        refine zs rfl rfl rfl ?_
        refine zal (i := 0) rfl rfl rfl (by decide) (by decide) ?_
        try refine zto rfl hn0 ?_
        refine zbf (nI_ge (by omega) (by omega)) rfl rfl rfl ?_
        refine zs rfl rfl rfl ?_
        refine zs rfl rfl rfl ?_
        refine zs rfl rfl rfl ?_
        refine zcl rfl rfl (m_is4 hr1 hi12) ?_
        refine zs rfl rfl rfl ?_
        refine zs rfl rfl rfl ?_
        refine zs rfl rfl rfl ?_
        refine zs rfl rfl rfl ?_
        refine zs rfl rfl rfl ?_
        refine zcl rfl rfl (m_puts4 hi12 (-1)) ?_
        refine zs rfl rfl rfl ?_
        refine zcl rfl rfl (m_lostSet hr2 hB2) ?_
        refine zcl rfl rfl (m_manyIn (aon_lt hle _)) ?_
        refine zto rfl (congrArg nI (lost_part hB hin)) ?_
        refine zs rfl rfl rfl ?_
        refine zs rfl rfl rfl ?_
        refine zs rfl rfl rfl ?_
        refine zs rfl rfl rfl ?_
        refine zs rfl rfl rfl ?_
        refine zcl rfl rfl (m_puts4 hi12 (lk S i)) ?_
        exact t2
  exact loop n 0 M [] 0 (Nat.zero_add n) (Or.inl rfl) (by decide) rfl Fr.rfl' hC.1
theorem m_bears (hC : mC M S F) (hO : Ok S n) (s w : Int32) : zV X 179 [.ref 44, .int s, .int w] M N (mP M N (r_bears S F n s w)) := by
  refine zVi [(0, .ref 44), (1, .int s), (2, .int w)] rfl ?_
  unfold r_bears
  have hB := hO.b
  have hle := hO.le
  refine zs rfl rfl rfl ?_
  refine zs rfl rfl rfl ?_
  refine zcl rfl rfl (m_isShip (hC.n0 hO) s) ?_
  cases h : shp n s with
  | true =>
    rw [if_pos rfl]
    obtain ⟨j, hj, rfl⟩ := shp_of hle h
    rw [nI_clamp (by omega)]
    refine zs rfl rfl rfl ?_
    refine zs rfl rfl rfl ?_
    refine zcl rfl rfl (m_isWind w) ?_
    by_cases h2 : 0 ≤ w ∧ w ≤ 12
    · rw [decide_eq_true h2, if_pos h2]
      refine zs rfl rfl rfl ?_
      refine zs rfl rfl rfl ?_
      refine zs rfl rfl rfl ?_
      refine zcl rfl rfl (m_hangs hC.1 hle hB.l hj) ?_
      by_cases hc : lk S j = -1
      · rw [decide_eq_false (not_not_intro hc), if_pos hc]
        refine zs rfl rfl rfl ?_
        refine zs rfl rfl rfl ?_
        refine zs rfl rfl rfl ?_
        refine zcl rfl rfl (m_finds_4) ?_
        exact zret rfl rfl (mP_ref (S := S) (F := F) (c := 4) rfl (Fr.rfl') (hC))
      · rw [decide_eq_true hc, if_neg hc]
        refine zs rfl rfl rfl ?_
        refine zs rfl rfl rfl ?_
        refine zs rfl rfl rfl ?_
        refine zs rfl rfl rfl ?_
        refine zs rfl rfl rfl ?_
        refine zclQ rfl rfl (m_staysBy hC.1 hB hj (c := 9999) (by decide) w) ?_
        rintro v2 M2 N2 ⟨rfl, rfl, hf2, hr2⟩
        cases hs : sty S n j w 9999 with
        | false =>
          rw [if_neg (by decide)]
          refine zs rfl rfl rfl ?_
          refine zs rfl rfl rfl ?_
          refine zs rfl rfl rfl ?_
          refine zcl rfl rfl (m_finds_3) ?_
          exact zret rfl rfl (mP_ref (S := S) (F := F) (c := 3) rfl (fr47 hf2) (hC.to hf2 (by decide) hr2))
        | true =>
          rw [if_pos rfl]
          refine zs rfl rfl rfl ?_
          refine zs rfl rfl rfl ?_
          refine zs rfl rfl rfl ?_
          refine zs rfl rfl rfl ?_
          refine zs rfl rfl rfl ?_
          have loop : ∀ d l hh M1 tl, hh ≤ l + d → l ≤ hh → hh ≤ 9999 → (tl = [] ∨ ∃ a : Int32, tl = [(5, Value.int a)]) → Fr [45, 47, 55] M M1 → Rw M1 45 S → zW X 179 63 ((0, .ref 44) :: (1, .int (nI j)) :: (2, .int w) :: (3, .int (nI l)) :: (4, .int (nI hh)) :: tl) [] M1 N2 (mP M N2 (nI (bsr (fun c => sty S n j w (nI c)) d l hh), S, F)) := by
            intro d
            induction d with
            | zero =>
              intro l hh M1 tl hi hl1 hl2 htl hf hr1
              rcases htl with rfl | ⟨a, rfl⟩
              · refine zs rfl rfl rfl ?_
                refine zs rfl rfl rfl ?_
                refine zbt (nI_le (by omega) (by omega)) rfl rfl rfl ?_
                refine zs rfl rfl rfl ?_
                exact zret rfl rfl (mP_ok (S' := S) (F := F) rfl (fr47 hf) (hC.to hf (by decide) hr1))
              · refine zs rfl rfl rfl ?_
                refine zs rfl rfl rfl ?_
                refine zbt (nI_le (by omega) (by omega)) rfl rfl rfl ?_
                refine zs rfl rfl rfl ?_
                exact zret rfl rfl (mP_ok (S' := S) (F := F) rfl (fr47 hf) (hC.to hf (by decide) hr1))
            | succ d ih =>
              intro l hh M1 tl hi hl1 hl2 htl hf hr1
              unfold bsr
              by_cases hlt : hh ≤ l
              · rw [if_pos hlt]
                rcases htl with rfl | ⟨a, rfl⟩
                · refine zs rfl rfl rfl ?_
                  refine zs rfl rfl rfl ?_
                  refine zbt (nI_le (by omega) (by omega)) rfl rfl rfl ?_
                  refine zs rfl rfl rfl ?_
                  exact zret rfl rfl (mP_ok (S' := S) (F := F) rfl (fr47 hf) (hC.to hf (by decide) hr1))
                · refine zs rfl rfl rfl ?_
                  refine zs rfl rfl rfl ?_
                  refine zbt (nI_le (by omega) (by omega)) rfl rfl rfl ?_
                  refine zs rfl rfl rfl ?_
                  exact zret rfl rfl (mP_ok (S' := S) (F := F) rfl (fr47 hf) (hC.to hf (by decide) hr1))
              · rw [if_neg hlt]
                have half : (nI l + nI hh) / 2 = nI ((l + hh) / 2) := by rw [nI_add, nI_half (by omega)]
                have hm1 : (l + hh) / 2 < hh := by omega
                have hm2 : l ≤ (l + hh) / 2 := by omega
                have hm3 : (l + hh) / 2 ≤ l + d := by omega
                generalize (l + hh) / 2 = m at half hm1 hm2 hm3
                have rest : zW X 179 77 [(0, .ref 44), (1, .int (nI j)), (2, .int w), (3, .int (nI l)), (4, .int (nI hh)), (5, .int (nI m))] [] M1 N2 (mP M N2 (nI (cond (sty S n j w (nI m)) (bsr (fun c => sty S n j w (nI c)) d l m) (bsr (fun c => sty S n j w (nI c)) d (m + 1) hh)), S, F)) := by
                  refine zs rfl rfl rfl ?_
                  refine zs rfl rfl rfl ?_
                  refine zs rfl rfl rfl ?_
                  refine zs rfl rfl rfl ?_
                  refine zclQ rfl rfl (m_staysBy hr1 hB hj (c := nI m) ⟨nI_pos' (by omega), nI_le (b := 9999) (by omega) (by omega)⟩ w) ?_
                  rintro v3 M3 N3 ⟨rfl, rfl, hf3, hr3⟩
                  have hf3' := hf.trans hf3
                  cases sty S n j w (nI m)
                  · refine zs rfl rfl rfl ?_
                    refine zs rfl rfl rfl ?_
                    refine zs rfl rfl rfl ?_
                    refine zs rfl rfl rfl ?_
                    refine zto rfl (nI_1 m) ?_
                    refine zs rfl rfl rfl ?_
                    refine zs rfl rfl rfl ?_
                    exact ih (m + 1) hh M3 [(5, .int (nI m))] (by omega) (by omega) hl2 (Or.inr ⟨_, rfl⟩) hf3' hr3
                  · refine zs rfl rfl rfl ?_
                    refine zs rfl rfl rfl ?_
                    refine zs rfl rfl rfl ?_
                    refine zs rfl rfl rfl ?_
                    refine zs rfl rfl rfl ?_
                    exact ih l m M3 [(5, .int (nI m))] (by omega) (by omega) (by omega) (Or.inr ⟨_, rfl⟩) hf3' hr3
                rcases htl with rfl | ⟨a, rfl⟩
                · refine zs rfl rfl rfl ?_
                  refine zs rfl rfl rfl ?_
                  refine zbf (nI_ge (by omega) (by omega)) rfl rfl rfl ?_
                  refine zs rfl rfl rfl ?_
                  refine zs rfl rfl rfl ?_
                  refine zs rfl rfl rfl ?_
                  refine zs rfl rfl rfl ?_
                  refine zs rfl rfl rfl ?_
                  refine zto rfl half ?_
                  refine zs rfl rfl rfl ?_
                  exact rest
                · refine zs rfl rfl rfl ?_
                  refine zs rfl rfl rfl ?_
                  refine zbf (nI_ge (by omega) (by omega)) rfl rfl rfl ?_
                  refine zs rfl rfl rfl ?_
                  refine zs rfl rfl rfl ?_
                  refine zs rfl rfl rfl ?_
                  refine zs rfl rfl rfl ?_
                  refine zs rfl rfl rfl ?_
                  refine zto rfl half ?_
                  refine zs rfl rfl rfl ?_
                  exact rest
          exact loop 9999 0 9999 M2 [] (by decide) (by decide) (by decide) (Or.inl rfl) hf2 hr2
    · rw [decide_eq_false h2, if_neg h2]
      refine zs rfl rfl rfl ?_
      refine zs rfl rfl rfl ?_
      refine zs rfl rfl rfl ?_
      refine zcl rfl rfl (m_finds_0) ?_
      exact zret rfl rfl (mP_ref (S := S) (F := F) (c := 0) rfl (Fr.rfl') (hC))
  | false =>
    rw [if_neg (by decide)]
    refine zs rfl rfl rfl ?_
    refine zs rfl rfl rfl ?_
    refine zs rfl rfl rfl ?_
    refine zcl rfl rfl (m_finds_0) ?_
    exact zret rfl rfl (mP_ref (S := S) (F := F) (c := 0) rfl (Fr.rfl') (hC))
end MPUB4
