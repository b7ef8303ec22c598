/-! More of the model's calls that choose; the first hour. -/
section MPUB5
variable {X : Nat × (Nat → Int32)} {M M2 : zM} {N : zN} {S F T : zS} {n : Nat}
theorem m_weakest (hC : mC M S F) (hO : Ok S n) (w : Int32) : zV X 180 [.ref 44, .int w] M N (mP M N (r_weakest S F n w)) := by
  refine zVi [(0, .ref 44), (1, .int w)] rfl ?_
  unfold r_weakest
  have hB := hO.b
  have hle := hO.le
  refine zs rfl rfl rfl ?_
  refine zcl rfl rfl (m_isWind w) ?_
  by_cases h2 : 0 ≤ w ∧ w ≤ 12
  · rw [decide_eq_true h2, if_pos h2]
    refine zs rfl rfl rfl ?_
    refine zs rfl rfl rfl ?_
    refine zs rfl rfl rfl ?_
    refine zclQ rfl rfl (m_findStrains hC.1 hB w) ?_
    rintro v2 M2 N2 ⟨rfl, rfl, hf2, hT⟩
    have hC2 := hC.fr hf2 (by decide) (by decide)
    have hr := hC2.1
    have hn0 := hC2.n0 hO
    refine zs rfl rfl rfl ?_
    refine zs rfl rfl rfl ?_
    refine zs rfl rfl rfl ?_
    refine zs rfl rfl rfl ?_
    refine zs rfl rfl rfl ?_
    refine zs rfl rfl rfl ?_
    have loop : ∀ d i tl, i + d = n → (tl = [] ∨ ∃ a b : Int32, tl = [(5, Value.int a), (6, Value.int b)]) → zW X 180 26 ((0, .ref 44) :: (1, .int w) :: (2, .int (mb (wks S (Str S n w) i).1)) :: (3, .int (wks S (Str S n w) i).2) :: (4, .int (nI i)) :: tl) [] M2 N2 (mP M N2 (r_ch S F (wks S (Str S n w) n).1)) := by
      intro d
      induction d with
      | zero =>
        intro i tl hi htl
        obtain rfl : i = n := by omega
        unfold r_ch
        rcases bx_wks S (Str S i w) i (by omega) with e | ⟨x, hx, e⟩
        · rw [e, mb_0, if_pos rfl]
          rcases htl with rfl | ⟨a, b, rfl⟩
          · refine zs rfl rfl rfl ?_
            refine zs rfl rfl rfl ?_
            refine zs rfl rfl rfl ?_
            refine zs rfl rfl rfl ?_
            refine zal (i := 0) rfl rfl rfl (by decide) (by decide) ?_
            try refine zto rfl hn0 ?_
            refine zbt (nI_le (by omega) (by omega)) rfl rfl rfl ?_
            refine zs rfl rfl rfl ?_
            refine zs rfl rfl rfl ?_
            refine zs rfl rfl rfl ?_
            refine zs rfl rfl rfl ?_
            refine zcl rfl rfl (m_finds_3) ?_
            refine zs rfl rfl rfl ?_
            exact zret rfl rfl (mP_ref (S := S) (F := F) (c := 3) rfl (fr55 hf2) (hC2))
          · refine zs rfl rfl rfl ?_
            refine zs rfl rfl rfl ?_
            refine zs rfl rfl rfl ?_
            refine zs rfl rfl rfl ?_
            refine zal (i := 0) rfl rfl rfl (by decide) (by decide) ?_
            try refine zto rfl hn0 ?_
            refine zbt (nI_le (by omega) (by omega)) rfl rfl rfl ?_
            refine zs rfl rfl rfl ?_
            refine zs rfl rfl rfl ?_
            refine zs rfl rfl rfl ?_
            refine zs rfl rfl rfl ?_
            refine zcl rfl rfl (m_finds_3) ?_
            refine zs rfl rfl rfl ?_
            exact zret rfl rfl (mP_ref (S := S) (F := F) (c := 3) rfl (fr55 hf2) (hC2))
        · rw [e, mb_x (by omega), if_neg (nI_fd3 (by omega))]
          rcases htl with rfl | ⟨a, b, rfl⟩
          · refine zs rfl rfl rfl ?_
            refine zs rfl rfl rfl ?_
            refine zs rfl rfl rfl ?_
            refine zs rfl rfl rfl ?_
            refine zal (i := 0) rfl rfl rfl (by decide) (by decide) ?_
            try refine zto rfl hn0 ?_
            refine zbt (nI_le (by omega) (by omega)) rfl rfl rfl ?_
            refine zs rfl rfl rfl ?_
            refine zbt (nI_pos' (by omega)) rfl rfl rfl ?_
            refine zs rfl rfl rfl ?_
            exact zret rfl rfl (mP_ok (S' := S) (F := F) rfl (fr55 hf2) (hC2))
          · refine zs rfl rfl rfl ?_
            refine zs rfl rfl rfl ?_
            refine zs rfl rfl rfl ?_
            refine zs rfl rfl rfl ?_
            refine zal (i := 0) rfl rfl rfl (by decide) (by decide) ?_
            try refine zto rfl hn0 ?_
            refine zbt (nI_le (by omega) (by omega)) rfl rfl rfl ?_
            refine zs rfl rfl rfl ?_
            refine zbt (nI_pos' (by omega)) rfl rfl rfl ?_
            refine zs rfl rfl rfl ?_
            exact zret rfl rfl (mP_ok (S' := S) (F := F) rfl (fr55 hf2) (hC2))
      | succ d ih =>
        intro i tl hi htl
        have hin : i < n := by omega
        have fin : ∀ bt : Bool, (bt = true ↔ (lk S i ≠ -1 ∧ ((wks S (Str S n w) i).1 = -1000000004 ∨ brk S i - Str S n w i < (wks S (Str S n w) i).2))) → zW X 180 79 [(0, .ref 44), (1, .int w), (2, .int (mb (wks S (Str S n w) i).1)), (3, .int (wks S (Str S n w) i).2), (4, .int (nI i)), (5, .int (brk S i - Str S n w i)), (6, .int (bI bt))] [] M2 N2 (mP M N2 (r_ch S F (wks S (Str S n w) n).1)) := by
          intro bt hbt
          have ih' := ih (i + 1) [(5, .int (brk S i - Str S n w i)), (6, .int (bI bt))] (by omega) (Or.inr ⟨_, _, rfl⟩)
          cases bt with
          | false =>
            rw [wks_f (fun q => by have := hbt.mpr q; cases this)] at ih'
            refine zs rfl rfl rfl ?_
            refine zs rfl rfl rfl ?_
            refine zs rfl rfl rfl ?_
            refine zs rfl rfl rfl ?_
            refine zs rfl rfl rfl ?_
            refine zs rfl rfl rfl ?_
            refine zs rfl rfl rfl ?_
            refine zs rfl rfl rfl ?_
            refine zinc rfl rfl rfl ?_
            refine zs rfl rfl rfl ?_
            exact ih'
          | true =>
            rw [wks_t (hbt.mp rfl), mb_x (by omega)] at ih'
            refine zs rfl rfl rfl ?_
            refine zs rfl rfl rfl ?_
            refine zs rfl rfl rfl ?_
            refine zs rfl rfl rfl ?_
            refine zs rfl rfl rfl ?_
            refine zs rfl rfl rfl ?_
            refine zs rfl rfl rfl ?_
            refine zs rfl rfl rfl ?_
            refine zs rfl rfl rfl ?_
            refine zs rfl rfl rfl ?_
            refine zinc rfl rfl rfl ?_
            refine zs rfl rfl rfl ?_
            exact ih'
        have tail : ∀ tl, (tl = [] ∨ ∃ a : Int32, tl = [(6, Value.int a)]) → zW X 180 53 ((0, .ref 44) :: (1, .int w) :: (2, .int (mb (wks S (Str S n w) i).1)) :: (3, .int (wks S (Str S n w) i).2) :: (4, .int (nI i)) :: (5, .int (brk S i - Str S n w i)) :: tl) [] M2 N2 (mP M N2 (r_ch S F (wks S (Str S n w) n).1)) := by
          intro tl htl
          by_cases hc : lk S i ≠ -1
          · rcases bx_wks S (Str S n w) i (by omega) with e | ⟨x, hx, e⟩
            · have f := fin true ⟨fun _ => ⟨hc, Or.inl e⟩, fun _ => rfl⟩
              rw [e, mb_0] at f ⊢
              rcases htl with rfl | ⟨a, rfl⟩
              · refine zs rfl rfl rfl ?_
                refine zs rfl rfl rfl ?_
                refine zcl rfl rfl (m_hangs hr hle hB.l hin) ?_
                rw [decide_eq_true hc]
                refine zs rfl rfl rfl ?_
                refine zs rfl rfl rfl ?_
                refine zs rfl rfl rfl ?_
                refine zs rfl rfl rfl ?_
                refine zs rfl rfl rfl ?_
                refine zs rfl rfl rfl ?_
                exact f
              · refine zs rfl rfl rfl ?_
                refine zs rfl rfl rfl ?_
                refine zcl rfl rfl (m_hangs hr hle hB.l hin) ?_
                rw [decide_eq_true hc]
                refine zs rfl rfl rfl ?_
                refine zs rfl rfl rfl ?_
                refine zs rfl rfl rfl ?_
                refine zs rfl rfl rfl ?_
                refine zs rfl rfl rfl ?_
                refine zs rfl rfl rfl ?_
                exact f
            · have ft := fin true
              have ff := fin false
              have ne : (wks S (Str S n w) i).1 ≠ -1000000004 := by rw [e]; exact nI_fd3 (by omega)
              rw [e, mb_x (by omega)] at ft ff ⊢
              rcases htl with rfl | ⟨a, rfl⟩
              · refine zs rfl rfl rfl ?_
                refine zs rfl rfl rfl ?_
                refine zcl rfl rfl (m_hangs hr hle hB.l hin) ?_
                rw [decide_eq_true hc]
                refine zs rfl rfl rfl ?_
                refine zs rfl rfl rfl ?_
                refine zbf (nI_pos (by omega)) rfl rfl rfl ?_
                refine zs rfl rfl rfl ?_
                refine zs rfl rfl rfl ?_
                refine zbr rfl rfl rfl (fun hd => ?_) (fun hd => ?_)
                · refine zs rfl rfl rfl ?_
                  refine zs rfl rfl rfl ?_
                  exact ff ⟨fun q => (nomatch q), fun q => by
                    rcases q.2 with q | q
                    · exact absurd (e ▸ q) ne
                    · exact absurd q (i_nlt.mpr hd)⟩
                · refine zs rfl rfl rfl ?_
                  refine zs rfl rfl rfl ?_
                  refine zs rfl rfl rfl ?_
                  exact ft ⟨fun _ => ⟨hc, Or.inr (i_nle.mp hd)⟩, fun _ => rfl⟩
              · refine zs rfl rfl rfl ?_
                refine zs rfl rfl rfl ?_
                refine zcl rfl rfl (m_hangs hr hle hB.l hin) ?_
                rw [decide_eq_true hc]
                refine zs rfl rfl rfl ?_
                refine zs rfl rfl rfl ?_
                refine zbf (nI_pos (by omega)) rfl rfl rfl ?_
                refine zs rfl rfl rfl ?_
                refine zs rfl rfl rfl ?_
                refine zbr rfl rfl rfl (fun hd => ?_) (fun hd => ?_)
                · refine zs rfl rfl rfl ?_
                  refine zs rfl rfl rfl ?_
                  exact ff ⟨fun q => (nomatch q), fun q => by
                    rcases q.2 with q | q
                    · exact absurd (e ▸ q) ne
                    · exact absurd q (i_nlt.mpr hd)⟩
                · refine zs rfl rfl rfl ?_
                  refine zs rfl rfl rfl ?_
                  refine zs rfl rfl rfl ?_
                  exact ft ⟨fun _ => ⟨hc, Or.inr (i_nle.mp hd)⟩, fun _ => rfl⟩
          · have f := fin false ⟨fun q => (nomatch q), fun q => absurd q.1 hc⟩
            rcases htl with rfl | ⟨a, rfl⟩
            · refine zs rfl rfl rfl ?_
              refine zs rfl rfl rfl ?_
              refine zcl rfl rfl (m_hangs hr hle hB.l hin) ?_
              rw [decide_eq_false hc]
              refine zs rfl rfl rfl ?_
              refine zs rfl rfl rfl ?_
              refine zs rfl rfl rfl ?_
              exact f
            · refine zs rfl rfl rfl ?_
              refine zs rfl rfl rfl ?_
              refine zcl rfl rfl (m_hangs hr hle hB.l hin) ?_
              rw [decide_eq_false hc]
              refine zs rfl rfl rfl ?_
              refine zs rfl rfl rfl ?_
              refine zs rfl rfl rfl ?_
              exact f
        rcases htl with rfl | ⟨a, b, rfl⟩
        · refine zs rfl rfl rfl ?_
          refine zs rfl rfl rfl ?_
          refine zs rfl rfl rfl ?_
          refine zs rfl rfl rfl ?_
          refine zal (i := 0) rfl rfl rfl (by decide) (by decide) ?_
          try refine zto rfl hn0 ?_
          refine zbf (nI_ge (by omega) (by omega)) rfl rfl rfl ?_
          refine zs rfl rfl rfl ?_
          refine zs rfl rfl rfl ?_
          refine zcl rfl rfl (m_breaksAt hr hB hin) ?_
          refine zs rfl rfl rfl ?_
          refine zs rfl rfl rfl ?_
          refine zs rfl rfl rfl ?_
          refine zal rfl rfl rfl (by omega) (by decide) ?_
          try refine zto rfl (hT _ (by omega)) ?_
          refine zs rfl rfl rfl ?_
          refine zs rfl rfl rfl ?_
          exact tail [] (Or.inl rfl)
        · refine zs rfl rfl rfl ?_
          refine zs rfl rfl rfl ?_
          refine zs rfl rfl rfl ?_
          refine zs rfl rfl rfl ?_
          refine zal (i := 0) rfl rfl rfl (by decide) (by decide) ?_
          try refine zto rfl hn0 ?_
          refine zbf (nI_ge (by omega) (by omega)) rfl rfl rfl ?_
          refine zs rfl rfl rfl ?_
          refine zs rfl rfl rfl ?_
          refine zcl rfl rfl (m_breaksAt hr hB hin) ?_
          refine zs rfl rfl rfl ?_
          refine zs rfl rfl rfl ?_
          refine zs rfl rfl rfl ?_
          refine zal rfl rfl rfl (by omega) (by decide) ?_
          try refine zto rfl (hT _ (by omega)) ?_
          refine zs rfl rfl rfl ?_
          refine zs rfl rfl rfl ?_
          exact tail _ (Or.inr ⟨_, rfl⟩)
    exact loop n 0 [] (Nat.zero_add n) (Or.inl rfl)
  · rw [decide_eq_false h2, if_neg h2]
    refine zs rfl rfl rfl ?_
    refine zs rfl rfl rfl ?_
    refine zs rfl rfl rfl ?_
    refine zcl rfl rfl (m_finds_0) ?_
    exact zret rfl rfl (mP_ref (S := S) (F := F) (c := 0) rfl (Fr.rfl') (hC))
theorem m_kind (hC : mC M S F) (hO : Ok S n) (s : Int32) : zV X 181 [.ref 44, .int s] M N (mP M N (r_kind S F n s)) := by
  refine zVi [(0, .ref 44), (1, .int s)] rfl ?_
  unfold r_kind
  have hB := hO.b
  have hle := hO.le
  refine zs rfl rfl rfl ?_
  refine zs rfl rfl rfl ?_
  refine zcl rfl rfl (m_isShip (hC.n0 hO) s) ?_
  cases h : shp n s with
  | true =>
    rw [if_pos rfl]
    obtain ⟨j, hj, rfl⟩ := shp_of hle h
    rw [nI_clamp (by omega)]
    have hj12 : j < 12 := by omega
    rw [cho_2 (g := knd S n j) (fun i => (ght_ge _ _).1) 5]
    refine zs rfl rfl rfl ?_
    refine zs rfl rfl rfl ?_
    refine zs rfl rfl rfl ?_
    refine zs rfl rfl rfl ?_
    refine zcl rfl rfl (m_is0 hC.1 hj12) ?_
    refine zs rfl rfl rfl ?_
    refine zs rfl rfl rfl ?_
    refine zs rfl rfl rfl ?_
    refine zs rfl rfl rfl ?_
    refine zs rfl rfl rfl ?_
    refine zs rfl rfl rfl ?_
    refine zs rfl rfl rfl ?_
    have loop : ∀ d i M1 S1 tl, i + d = 6 → (tl = [] ∨ ∃ a : Int32, tl = [(6, Value.int a)]) → Fr [45, 47, 55] M M1 → Rw M1 45 S1 → (∀ y, upk S1 j y = upk S j y) → zW X 181 31 ((0, .ref 44) :: (1, .int (nI j)) :: (2, .int (kd S j)) :: (3, .int (cho (knd S n j) 0 (-2) i).1) :: (4, .int (cho (knd S n j) 0 (-2) i).2) :: (5, .int (nI i)) :: tl) [] M1 N (mP M N ((cho (knd S n j) 0 (-2) 6).1, S, F)) := by
      intro d
      induction d with
      | zero =>
        intro i M1 S1 tl hi htl hf hr1 he
        obtain rfl : i = 6 := by omega
        have hr2 : Rw (z_up M1 45 (22 + 5 * j) (kd S j)) 45 S := by
          have := hr1.up (22 + 5 * j) (kd S j)
          have e : upd S1 (22 + 5 * j) (kd S j) = S := (he (kd S j)).trans (upd_self S _)
          rw [e] at this
          exact this
        have hf2 : Fr [45, 47, 55] M (z_up M1 45 (22 + 5 * j) (kd S j)) := hf.trans (Fr.up (by decide))
        rcases htl with rfl | ⟨a, rfl⟩
        · refine zs rfl rfl rfl ?_
          refine zs rfl rfl rfl ?_
          first | refine zs rfl rfl rfl ?_ | refine zbt (nI_le (a := 6) (by omega) (by omega)) rfl rfl rfl ?_
          refine zs rfl rfl rfl ?_
          refine zs rfl rfl rfl ?_
          refine zs rfl rfl rfl ?_
          refine zs rfl rfl rfl ?_
          refine zcl rfl rfl (m_puts0 hj12 (kd S j)) ?_
          refine zs rfl rfl rfl ?_
          exact zret rfl rfl (mP_ok (S' := S) (F := F) rfl (fr47 hf2) (hC.to hf2 (by decide) hr2))
        · refine zs rfl rfl rfl ?_
          refine zs rfl rfl rfl ?_
          first | refine zs rfl rfl rfl ?_ | refine zbt (nI_le (a := 6) (by omega) (by omega)) rfl rfl rfl ?_
          refine zs rfl rfl rfl ?_
          refine zs rfl rfl rfl ?_
          refine zs rfl rfl rfl ?_
          refine zs rfl rfl rfl ?_
          refine zcl rfl rfl (m_puts0 hj12 (kd S j)) ?_
          refine zs rfl rfl rfl ?_
          exact zret rfl rfl (mP_ok (S' := S) (F := F) rfl (fr47 hf2) (hC.to hf2 (by decide) hr2))
      | succ d ih =>
        intro i M1 S1 tl hi htl hf hr1 he
        have hr2 : Rw (z_up M1 45 (22 + 5 * j) (nI i)) 45 (upk S j (nI i)) := by
          have := hr1.up (22 + 5 * j) (nI i)
          have e : upd S1 (22 + 5 * j) (nI i) = upk S j (nI i) := he (nI i)
          rw [e] at this
          exact this
        have hB2 : Bas (upk S j (nI i)) n := hB.upk j (by omega)
        have hh2 : ∀ a, a < 6 → 0 ≤ upk S j (nI i) (3 + a) := fun a ha => by
          rw [show upk S j (nI i) (3 + a) = S (3 + a) from ho_upk S j ha _]; exact hO.ho0 a ha
        have hf2 : Fr [45, 47, 55] M (z_up M1 45 (22 + 5 * j) (nI i)) := hf.trans (Fr.up (by decide))
        have t2 : ∀ M3, Fr [45, 47, 55] M M3 → Rw M3 45 (upk S j (nI i)) → zW X 181 52 [(0, .ref 44), (1, .int (nI j)), (2, .int (kd S j)), (3, .int (cho (knd S n j) 0 (-2) i).1), (4, .int (cho (knd S n j) 0 (-2) i).2), (5, .int (nI i)), (6, .int (knd S n j i))] [] M3 N (mP M N ((cho (knd S n j) 0 (-2) 6).1, S, F)) := by
          intro M3 hf3 hr3
          have ih' := ih (i + 1) M3 (upk S j (nI i)) [(6, .int (knd S n j i))] (by omega) (Or.inr ⟨_, rfl⟩) hf3 hr3 (fun y => upd_upd _ _ _ _)
          refine zs rfl rfl rfl ?_
          refine zs rfl rfl rfl ?_
          refine zbr rfl rfl rfl (fun hc => ?_) (fun hc => ?_)
          · rw [cho_f (i_nlt.mpr hc)] at ih'
            refine zs rfl rfl rfl ?_
            refine zs rfl rfl rfl ?_
            refine zs rfl rfl rfl ?_
            refine zs rfl rfl rfl ?_
            refine zbt (hc) rfl rfl rfl ?_
            refine zs rfl rfl rfl ?_
            refine zs rfl rfl rfl ?_
            refine zinc rfl rfl rfl ?_
            refine zs rfl rfl rfl ?_
            exact ih'
          · rw [cho_t (i_nle.mp hc)] at ih'
            refine zs rfl rfl rfl ?_
            refine zs rfl rfl rfl ?_
            refine zs rfl rfl rfl ?_
            refine zs rfl rfl rfl ?_
            refine zs rfl rfl rfl ?_
            refine zbf (hc) rfl rfl rfl ?_
            refine zs rfl rfl rfl ?_
            refine zs rfl rfl rfl ?_
            refine zs rfl rfl rfl ?_
            refine zinc rfl rfl rfl ?_
            refine zs rfl rfl rfl ?_
            exact ih'
        rcases htl with rfl | ⟨a, rfl⟩
        · refine zs rfl rfl rfl ?_
          refine zs rfl rfl rfl ?_
          refine zbf (nI_ge (b := 6) (by omega) (by omega)) rfl rfl rfl ?_
          refine zs rfl rfl rfl ?_
          refine zs rfl rfl rfl ?_
          refine zs rfl rfl rfl ?_
          refine zs rfl rfl rfl ?_
          refine zcl rfl rfl (m_puts0 hj12 (nI i)) ?_
          refine zs rfl rfl rfl ?_
          refine zclQ rfl rfl (m_holdsTo hr2 hB2 hh2) ?_
          rintro v4 M4 N4 ⟨rfl, rfl, hf4, hr4⟩
          refine zs rfl rfl rfl ?_
          exact t2 M4 (hf2.trans hf4) hr4
        · refine zs rfl rfl rfl ?_
          refine zs rfl rfl rfl ?_
          refine zbf (nI_ge (b := 6) (by omega) (by omega)) rfl rfl rfl ?_
          refine zs rfl rfl rfl ?_
          refine zs rfl rfl rfl ?_
          refine zs rfl rfl rfl ?_
          refine zs rfl rfl rfl ?_
          refine zcl rfl rfl (m_puts0 hj12 (nI i)) ?_
          refine zs rfl rfl rfl ?_
          refine zclQ rfl rfl (m_holdsTo hr2 hB2 hh2) ?_
          rintro v4 M4 N4 ⟨rfl, rfl, hf4, hr4⟩
          refine zs rfl rfl rfl ?_
          exact t2 M4 (hf2.trans hf4) hr4
    exact loop 6 0 M S [] rfl (Or.inl rfl) Fr.rfl' hC.1 (fun _ => rfl)
  | false =>
    rw [if_neg (by decide)]
    refine zs rfl rfl rfl ?_
    refine zs rfl rfl rfl ?_
    refine zs rfl rfl rfl ?_
    refine zcl rfl rfl (m_finds_0) ?_
    exact zret rfl rfl (mP_ref (S := S) (F := F) (c := 0) rfl (Fr.rfl') (hC))
theorem m_stronger (hC : mC M S F) (hO : Ok S n) : zV X 182 [.ref 44] M N (mP M N (r_stronger S F n)) := by
  refine zVi [(0, .ref 44)] rfl ?_
  unfold r_stronger
  have hB := hO.b
  rw [cho_2 (g := sth S n) (fun i => (ght_ge _ _).1) 5]
  refine zs rfl rfl rfl ?_
  refine zs rfl rfl rfl ?_
  refine zs rfl rfl rfl ?_
  refine zs rfl rfl rfl ?_
  refine zs rfl rfl rfl ?_
  refine zs rfl rfl rfl ?_
  have loop : ∀ d i M1 tl, i + d = 6 → (tl = [] ∨ ∃ a : Int32, tl = [(4, Value.int a)]) → Fr [45, 47, 55] M M1 → Rw M1 45 S → zW X 182 7 ((0, .ref 44) :: (1, .int (cho (sth S n) 0 (-2) i).1) :: (2, .int (cho (sth S n) 0 (-2) i).2) :: (3, .int (nI i)) :: tl) [] M1 N (mP M N ((cho (sth S n) 0 (-2) 6).1, S, F)) := by
    intro d
    induction d with
    | zero =>
      intro i M1 tl hi htl hf hr1
      obtain rfl : i = 6 := by omega
      rcases htl with rfl | ⟨a, rfl⟩
      · refine zs rfl rfl rfl ?_
        refine zs rfl rfl rfl ?_
        first | refine zs rfl rfl rfl ?_ | refine zbt (nI_le (a := 6) (by omega) (by omega)) rfl rfl rfl ?_
        refine zs rfl rfl rfl ?_
        exact zret rfl rfl (mP_ok (S' := S) (F := F) rfl (fr47 hf) (hC.to hf (by decide) hr1))
      · refine zs rfl rfl rfl ?_
        refine zs rfl rfl rfl ?_
        first | refine zs rfl rfl rfl ?_ | refine zbt (nI_le (a := 6) (by omega) (by omega)) rfl rfl rfl ?_
        refine zs rfl rfl rfl ?_
        exact zret rfl rfl (mP_ok (S' := S) (F := F) rfl (fr47 hf) (hC.to hf (by decide) hr1))
    | succ d ih =>
      intro i M1 tl hi htl hf hr1
      have hi6 : i < 6 := by omega
      have e3 : (3 : Int32) + nI i = nI (3 + i) := nI_add 3 i
      have hr2 : Rw (z_up M1 45 (3 + i) (S (3 + i) + 1000)) 45 (uph S i (S (3 + i) + 1000)) := hr1.up _ _
      have hB2 : Bas (uph S i (S (3 + i) + 1000)) n := hB.uph hi6 _
      have hf2 : Fr [45, 47, 55] M (z_up M1 45 (3 + i) (S (3 + i) + 1000)) := hf.trans (Fr.up (by decide))
      have hh2 : ∀ a, a < 6 → 0 ≤ uph S i (S (3 + i) + 1000) (3 + a) := fun a ha => by
        rw [ho_uph]
        by_cases e : a = i
        · rw [if_pos e]
          have h1 := i_le.mp (hO.ho i hi6).1
          have h2 := i_le.mp (hO.ho i hi6).2
          rw [t_0] at h1
          rw [t_9999] at h2
          obtain ⟨x, hx, ex⟩ := nI_of (x := S (3 + i)) (by rw [i_lt, t_0]; omega)
          rw [ex, nI_toInt hx] at h2
          rw [ex, show (1000 : Int32) = nI 1000 from rfl, nI_add]
          exact nI_pos' (by omega)
        · rw [if_neg e]; exact hO.ho0 a ha
      have t2 : ∀ M3, Fr [45, 47, 55] M M3 → Rw M3 45 (uph S i (S (3 + i) + 1000)) → zW X 182 33 [(0, .ref 44), (1, .int (cho (sth S n) 0 (-2) i).1), (2, .int (cho (sth S n) 0 (-2) i).2), (3, .int (nI i)), (4, .int (sth S n i))] [] M3 N (mP M N ((cho (sth S n) 0 (-2) 6).1, S, F)) := by
        intro M3 hf3 hr3
        have hv : M3 45 (3 + i) = S (3 + i) + 1000 := by rw [hr3 _ (by omega), ho_uph, if_pos rfl]
        have es : S (3 + i) + 1000 - 1000 = S (3 + i) := by grind
        have hr4 : Rw (z_up M3 45 (3 + i) (S (3 + i))) 45 S := by
          have := hr3.up (3 + i) (S (3 + i))
          unfold uph at this
          rw [upd_upd, upd_self] at this
          exact this
        have ih' := ih (i + 1) (z_up M3 45 (3 + i) (S (3 + i))) [(4, .int (sth S n i))] (by omega) (Or.inr ⟨_, rfl⟩) (hf3.trans (Fr.up (by decide))) hr4
        refine zs rfl rfl rfl ?_
        refine zs rfl rfl rfl ?_
        refine zs rfl rfl rfl ?_
        refine zs rfl rfl rfl ?_
        refine zs rfl rfl rfl ?_
        refine zto rfl e3 ?_
        refine zs rfl rfl rfl ?_
        refine zal rfl rfl rfl (by omega) (by decide) ?_
        refine zto rfl hv ?_
        refine zs rfl rfl rfl ?_
        refine zs rfl rfl rfl ?_
        refine zto rfl es ?_
        refine zas rfl rfl rfl rfl (by omega) (by decide) ?_
        refine zs rfl rfl rfl ?_
        refine zs rfl rfl rfl ?_
        refine zbr rfl rfl rfl (fun hc => ?_) (fun hc => ?_)
        · rw [cho_f (i_nlt.mpr hc)] at ih'
          refine zs rfl rfl rfl ?_
          refine zs rfl rfl rfl ?_
          refine zs rfl rfl rfl ?_
          refine zs rfl rfl rfl ?_
          refine zbt (hc) rfl rfl rfl ?_
          refine zs rfl rfl rfl ?_
          refine zs rfl rfl rfl ?_
          refine zinc rfl rfl rfl ?_
          refine zs rfl rfl rfl ?_
          exact ih'
        · rw [cho_t (i_nle.mp hc)] at ih'
          refine zs rfl rfl rfl ?_
          refine zs rfl rfl rfl ?_
          refine zs rfl rfl rfl ?_
          refine zs rfl rfl rfl ?_
          refine zs rfl rfl rfl ?_
          refine zbf (hc) rfl rfl rfl ?_
          refine zs rfl rfl rfl ?_
          refine zs rfl rfl rfl ?_
          refine zs rfl rfl rfl ?_
          refine zinc rfl rfl rfl ?_
          refine zs rfl rfl rfl ?_
          exact ih'
      rcases htl with rfl | ⟨a, rfl⟩
      · refine zs rfl rfl rfl ?_
        refine zs rfl rfl rfl ?_
        refine zbf (nI_ge (b := 6) (by omega) (by omega)) rfl rfl rfl ?_
        refine zs rfl rfl rfl ?_
        refine zs rfl rfl rfl ?_
        refine zs rfl rfl rfl ?_
        refine zs rfl rfl rfl ?_
        refine zs rfl rfl rfl ?_
        refine zto rfl e3 ?_
        refine zs rfl rfl rfl ?_
        refine zal rfl rfl rfl (by omega) (by decide) ?_
        refine zto rfl (hr1 _ (by omega)) ?_
        refine zs rfl rfl rfl ?_
        refine zs rfl rfl rfl ?_
        refine zas rfl rfl rfl rfl (by omega) (by decide) ?_
        refine zs rfl rfl rfl ?_
        refine zclQ rfl rfl (m_holdsTo hr2 hB2 hh2) ?_
        rintro v4 M4 N4 ⟨rfl, rfl, hf4, hr4⟩
        refine zs rfl rfl rfl ?_
        exact t2 M4 (hf2.trans hf4) hr4
      · refine zs rfl rfl rfl ?_
        refine zs rfl rfl rfl ?_
        refine zbf (nI_ge (b := 6) (by omega) (by omega)) rfl rfl rfl ?_
        refine zs rfl rfl rfl ?_
        refine zs rfl rfl rfl ?_
        refine zs rfl rfl rfl ?_
        refine zs rfl rfl rfl ?_
        refine zs rfl rfl rfl ?_
        refine zto rfl e3 ?_
        refine zs rfl rfl rfl ?_
        refine zal rfl rfl rfl (by omega) (by decide) ?_
        refine zto rfl (hr1 _ (by omega)) ?_
        refine zs rfl rfl rfl ?_
        refine zs rfl rfl rfl ?_
        refine zas rfl rfl rfl rfl (by omega) (by decide) ?_
        refine zs rfl rfl rfl ?_
        refine zclQ rfl rfl (m_holdsTo hr2 hB2 hh2) ?_
        rintro v4 M4 N4 ⟨rfl, rfl, hf4, hr4⟩
        refine zs rfl rfl rfl ?_
        exact t2 M4 (hf2.trans hf4) hr4
  exact loop 6 0 M [] rfl (Or.inl rfl) Fr.rfl' hC.1
/-- the model's first hour -/
theorem hg_new (h12 : n ≤ 12) {T : zS} (hsub : ∀ k, k < n → lk S k = -1 → lk T k = -1) : (bset n (nly S T) = 0) ↔ hg T n (-1) = hg S n (-1) := by
  have e0 : bset n (fun _ => false) = 0 := by
    have : ∀ m, bset m (fun _ => false) = 0 := fun m => by
      induction m with
      | zero => rfl
      | succ m ih => rw [bset_f rfl]; exact ih
    exact this n
  rw [← e0, bset_eq_iff]
  unfold hg
  rw [bset_eq_iff]
  refine ⟨fun h k hk => ?_, fun h k hk => ?_⟩
  · have hq := h k hk
    unfold nly at hq
    by_cases a : lk T k = -1
    · rw [decide_eq_true a, Bool.true_and] at hq
      rw [decide_eq_true a, decide_eq_true (Decidable.not_not.mp (of_decide_eq_false hq))]
    · rw [decide_eq_false a, decide_eq_false (fun q => a (hsub k hk q))]
  · have hq := h k hk
    unfold nly
    by_cases a : lk T k = -1
    · rw [decide_eq_true a] at hq ⊢
      rw [decide_eq_false (not_not_intro (of_decide_eq_true hq.symm))]; rfl
    · rw [decide_eq_false a]; rfl
theorem nly_hg (h12 : n ≤ 12) (S T : zS) : nI (hg T n (-1)) &&& (nI (hg S n (-1)) ^^^ (-1)) = nI (bset n (nly S T)) := by
  unfold hg
  rw [and_not h12]
  congr 1
  refine bset_congr (fun k _ => ?_)
  unfold nly
  cases decide (lk T k = -1) <;> by_cases q : lk S k = -1 <;> simp [q]
theorem bset12 (h12 : n ≤ 12) (p : Nat → Bool) : bset n p < 4096 := Nat.lt_of_lt_of_le (bset_lt _ _) (Nat.pow_le_pow_right (by decide) h12 : 2 ^ n ≤ 2 ^ 12)
theorem m_firstHour (hr : Rw M 45 S) (hB : Bas S n) (w : Int32) : zV X 164 [.ref 44, .int w] M N (fun v M' N' => v = some (.int (if flh n w (hg S n (-1)) 100 1 S = 0 then -1 else flh n w (hg S n (-1)) 100 1 S)) ∧ N' = N ∧ Fr [44, 45, 48, 47, 55] M M' ∧ (∀ c, c < 13 → M' 44 c = M 44 c) ∧ Rw M' 45 S ∧ M' 44 13 = nI (bset n (nly S (fls n w (hg S n (-1)) 100 S))) ∧ (flh n w (hg S n (-1)) 100 1 S = 0 ↔ bset n (nly S (fls n w (hg S n (-1)) 100 S)) = 0) ∧ (flh n w (hg S n (-1)) 100 1 S = 0 ∨ ∃ k, 0 < k ∧ k < 2 ^ 30 ∧ flh n w (hg S n (-1)) 100 1 S = nI k)) := by
  refine zVi [(0, .ref 44), (1, .int w)] rfl ?_
  have hle := hB.le
  refine zs rfl rfl rfl ?_
  refine zs rfl rfl rfl ?_
  refine zs rfl rfl rfl ?_
  refine zs rfl rfl rfl ?_
  refine zclQ rfl rfl (m_copyRow_45_48 hr) ?_
  rintro v1 M1 N1 ⟨rfl, rfl, hf1, hr1⟩
  have hr1' := hr.fr hf1 (by decide)
  refine zs rfl rfl rfl ?_
  refine zcl rfl rfl (m_adriftSet hr1' hB) ?_
  refine zs rfl rfl rfl ?_
  refine zs rfl rfl rfl ?_
  refine zs rfl rfl rfl ?_
  refine zs rfl rfl rfl ?_
  refine zs rfl rfl rfl ?_
  refine zs rfl rfl rfl ?_
  refine zs rfl rfl rfl ?_
  refine zs rfl rfl rfl ?_
  have fin : ∀ (i : Int32) (at' : Int32) (M2 : zM) (tl : zL) (R : Int32), (tl = [] ∨ ∃ a : Int32, tl = [(5, Value.int a)]) → Fr [44, 45, 48, 47, 55] M M2 → (∀ c, c < 13 → M2 44 c = M 44 c) → Rw M2 48 S → zW X 164 76 ((0, .ref 44) :: (1, .int w) :: (2, .int (nI (hg S n (-1)))) :: (3, .int at') :: (4, .int i) :: tl) [] M2 N1 (fun v M' N' => v = some (.int at') ∧ N' = N1 ∧ Fr [44, 45, 48, 47, 55] M M' ∧ (∀ c, c < 13 → M' 44 c = M 44 c) ∧ Rw M' 45 S ∧ M' 44 13 = M2 44 13) := by
    intro i at' M2 tl R htl hf2 h44 hr2
    rcases htl with rfl | ⟨a, rfl⟩
    · refine zs rfl rfl rfl ?_
      refine zs rfl rfl rfl ?_
      refine zs rfl rfl rfl ?_
      refine zs rfl rfl rfl ?_
      refine zclQ rfl rfl (m_copyRow_48_45 hr2) ?_
      rintro v3 M3 N3 ⟨rfl, rfl, hf3, hr3⟩
      refine zs rfl rfl rfl ?_
      exact zret rfl rfl ⟨rfl, rfl, hf2.trans (hf3.mono (by decide)), fun c hc => by rw [hf3 44 (by decide)]; exact h44 c hc, hr3, by rw [hf3 44 (by decide)]⟩
    · refine zs rfl rfl rfl ?_
      refine zs rfl rfl rfl ?_
      refine zs rfl rfl rfl ?_
      refine zs rfl rfl rfl ?_
      refine zclQ rfl rfl (m_copyRow_48_45 hr2) ?_
      rintro v3 M3 N3 ⟨rfl, rfl, hf3, hr3⟩
      refine zs rfl rfl rfl ?_
      exact zret rfl rfl ⟨rfl, rfl, hf2.trans (hf3.mono (by decide)), fun c hc => by rw [hf3 44 (by decide)]; exact h44 c hc, hr3, by rw [hf3 44 (by decide)]⟩
  have loop : ∀ d i T M2 tl, i + d = 101 → 0 < i → (tl = [] ∨ ∃ a : Int32, tl = [(5, Value.int a)]) → Bas T n → (∀ k, k < n → lk S k = -1 → lk T k = -1) → Fr [44, 45, 48, 47, 55] M M2 → (∀ c, c < 13 → M2 44 c = M 44 c) → Rw M2 48 S → Rw M2 45 T → M2 44 13 = 0 → hg T n (-1) = hg S n (-1) → zW X 164 26 ((0, .ref 44) :: (1, .int w) :: (2, .int (nI (hg S n (-1)))) :: (3, .int (-1)) :: (4, .int (nI i)) :: tl) [] M2 N1 (fun v M' N' => v = some (.int (if flh n w (hg S n (-1)) d i T = 0 then -1 else flh n w (hg S n (-1)) d i T)) ∧ N' = N1 ∧ Fr [44, 45, 48, 47, 55] M M' ∧ (∀ c, c < 13 → M' 44 c = M 44 c) ∧ Rw M' 45 S ∧ M' 44 13 = nI (bset n (nly S (fls n w (hg S n (-1)) d T))) ∧ (flh n w (hg S n (-1)) d i T = 0 ↔ bset n (nly S (fls n w (hg S n (-1)) d T)) = 0) ∧ (flh n w (hg S n (-1)) d i T = 0 ∨ ∃ k, 0 < k ∧ k < 2 ^ 30 ∧ flh n w (hg S n (-1)) d i T = nI k)) := by
    intro d
    induction d with
    | zero =>
      intro i T M2 tl hi hi0 htl hB2 hsub hf2 h44 hr48 hr45 h13 hhg
      obtain rfl : i = 101 := by omega
      have hz : bset n (nly S T) = 0 := (hg_new hle hsub).mpr hhg
      have f := fin (nI 101) (-1) M2 tl 0 htl hf2 h44 hr48
      have g := zW_mono (Q := fun v M' N' => v = some (.int (if flh n w (hg S n (-1)) 0 101 T = 0 then -1 else flh n w (hg S n (-1)) 0 101 T)) ∧ N' = N1 ∧ Fr [44, 45, 48, 47, 55] M M' ∧ (∀ c, c < 13 → M' 44 c = M 44 c) ∧ Rw M' 45 S ∧ M' 44 13 = nI (bset n (nly S (fls n w (hg S n (-1)) 0 T))) ∧ (flh n w (hg S n (-1)) 0 101 T = 0 ↔ bset n (nly S (fls n w (hg S n (-1)) 0 T)) = 0) ∧ (flh n w (hg S n (-1)) 0 101 T = 0 ∨ ∃ k, 0 < k ∧ k < 2 ^ 30 ∧ flh n w (hg S n (-1)) 0 101 T = nI k)) f (fun v M' N' q => ⟨q.1, q.2.1, q.2.2.1, q.2.2.2.1, q.2.2.2.2.1, by
        rw [q.2.2.2.2.2, h13]
        show _ = nI (bset n (nly S T))
        rw [hz]; rfl, ⟨fun _ => hz, fun _ => rfl⟩, Or.inl rfl⟩)
      rcases htl with rfl | ⟨a, rfl⟩
      · refine zs rfl rfl rfl ?_
        refine zs rfl rfl rfl ?_
        refine zs rfl rfl rfl ?_
        exact g
      · refine zs rfl rfl rfl ?_
        refine zs rfl rfl rfl ?_
        refine zs rfl rfl rfl ?_
        exact g
    | succ d ih =>
      intro i T M2 tl hi hi0 htl hB2 hsub hf2 h44 hr48 hr45 h13 hhg
      have hsub2 : ∀ k, k < n → lk S k = -1 → lk (phr T n w) k = -1 := fun k hk q => phr_m1 (hsub k hk q)
      have hnew := hg_new hle hsub2
      have hlt := bset12 hle (nly S (phr T n w))
      unfold flh fls
      have body : ∀ M3 x, Fr [45, 55] M2 M3 → Rw M3 45 (phr T n w) → zW X 164 44 [(0, .ref 44), (1, .int w), (2, .int (nI (hg S n (-1)))), (3, .int (-1)), (4, .int (nI i)), (5, .int x)] [] M3 N1 (fun v M' N' => v = some (.int (if (if hg (phr T n w) n (-1) = hg S n (-1) then flh n w (hg S n (-1)) d (i + 1) (phr T n w) else nI i) = 0 then -1 else (if hg (phr T n w) n (-1) = hg S n (-1) then flh n w (hg S n (-1)) d (i + 1) (phr T n w) else nI i))) ∧ N' = N1 ∧ Fr [44, 45, 48, 47, 55] M M' ∧ (∀ c, c < 13 → M' 44 c = M 44 c) ∧ Rw M' 45 S ∧ M' 44 13 = nI (bset n (nly S (if hg (phr T n w) n (-1) = hg S n (-1) then fls n w (hg S n (-1)) d (phr T n w) else phr T n w))) ∧ ((if hg (phr T n w) n (-1) = hg S n (-1) then flh n w (hg S n (-1)) d (i + 1) (phr T n w) else nI i) = 0 ↔ bset n (nly S (if hg (phr T n w) n (-1) = hg S n (-1) then fls n w (hg S n (-1)) d (phr T n w) else phr T n w)) = 0) ∧ ((if hg (phr T n w) n (-1) = hg S n (-1) then flh n w (hg S n (-1)) d (i + 1) (phr T n w) else nI i) = 0 ∨ ∃ k, 0 < k ∧ k < 2 ^ 30 ∧ (if hg (phr T n w) n (-1) = hg S n (-1) then flh n w (hg S n (-1)) d (i + 1) (phr T n w) else nI i) = nI k)) := by
        intro M3 x hf3 hr3
        have hf4 : Fr [44, 45, 48, 47, 55] M (z_up M3 44 13 (nI (bset n (nly S (phr T n w))))) := (hf2.trans (hf3.mono (by decide))).trans (Fr.up (by decide))
        have h444 : ∀ c, c < 13 → z_up M3 44 13 (nI (bset n (nly S (phr T n w)))) 44 c = M 44 c := fun c hc => by
          rw [z_up_a, if_neg (by omega), hf3 44 (by decide)]; exact h44 c hc
        have hr484 : Rw (z_up M3 44 13 (nI (bset n (nly S (phr T n w))))) 48 S := (hr48.fr hf3 (by decide)).fr (Fr.up (l := [44]) (by decide)) (by decide)
        have hr454 : Rw (z_up M3 44 13 (nI (bset n (nly S (phr T n w))))) 45 (phr T n w) := hr3.fr (Fr.up (l := [44]) (by decide)) (by decide)
        have h134 : z_up M3 44 13 (nI (bset n (nly S (phr T n w)))) 44 13 = nI (bset n (nly S (phr T n w))) := rfl
        refine zs rfl rfl rfl ?_
        refine zs rfl rfl rfl ?_
        refine zcl rfl rfl (m_adriftSet hr3 (hB2.phr w)) ?_
        refine zs rfl rfl rfl ?_
        refine zs rfl rfl rfl ?_
        refine zs rfl rfl rfl ?_
        refine zs rfl rfl rfl ?_
        refine zto rfl (nly_hg hle S (phr T n w)) ?_
        refine zs rfl rfl rfl ?_
        refine zs rfl rfl rfl ?_
        refine zs rfl rfl rfl ?_
        refine zto rfl h134 ?_
        by_cases q : hg (phr T n w) n (-1) = hg S n (-1)
        · have hz := hnew.mpr q
          rw [if_pos q, if_pos q]
          rw [hz] at hf4 h444 hr484 hr454 ⊢
          refine zs rfl rfl rfl ?_
          refine zs rfl rfl rfl ?_
          refine zs rfl rfl rfl ?_
          refine zinc rfl rfl rfl ?_
          refine zs rfl rfl rfl ?_
          exact ih (i + 1) (phr T n w) _ _ (by omega) (by omega) (Or.inr ⟨_, rfl⟩) (hB2.phr w) hsub2 hf4 h444 hr484 hr454 rfl q
        · have hnz : bset n (nly S (phr T n w)) ≠ 0 := fun z => q (hnew.mp z)
          rw [if_neg q, if_neg q]
          have hnzI : ¬ nI (bset n (nly S (phr T n w))) = 0 := fun z => hnz ((nI0 (by omega)).mp z)
          have hi0I : ¬ nI i = 0 := fun z => by have := (nI0 (by omega)).mp z; omega
          rw [if_neg hi0I]
          refine zbf (hnzI) rfl rfl rfl ?_
          refine zs rfl rfl rfl ?_
          refine zs rfl rfl rfl ?_
          refine zs rfl rfl rfl ?_
          refine zinc rfl rfl rfl ?_
          refine zs rfl rfl rfl ?_
          have f := fin (nI (i + 1)) (nI i) _ [(5, .int x)] 0 (Or.inr ⟨_, rfl⟩) hf4 h444 hr484
          have g := zW_mono f (fun v M' N' z => (⟨z.1, z.2.1, z.2.2.1, z.2.2.2.1, z.2.2.2.2.1, z.2.2.2.2.2.trans h134, ⟨fun y => absurd y hi0I, fun y => absurd y hnz⟩, Or.inr ⟨i, hi0, by omega, rfl⟩⟩ : v = some (.int (nI i)) ∧ N' = N1 ∧ Fr [44, 45, 48, 47, 55] M M' ∧ (∀ c, c < 13 → M' 44 c = M 44 c) ∧ Rw M' 45 S ∧ M' 44 13 = nI (bset n (nly S (phr T n w))) ∧ (nI i = 0 ↔ bset n (nly S (phr T n w)) = 0) ∧ (nI i = 0 ∨ ∃ k, 0 < k ∧ k < 2 ^ 30 ∧ nI i = nI k)))
          by_cases h101 : i + 1 = 101
          · obtain rfl : i = 100 := by omega
            refine zs rfl rfl rfl ?_
            refine zs rfl rfl rfl ?_
            refine zs rfl rfl rfl ?_
            exact g
          · refine zs rfl rfl rfl ?_
            refine zs rfl rfl rfl ?_
            refine zbf (nI_nlt (a := 100) (by omega) (by omega)) rfl rfl rfl ?_
            refine zs rfl rfl rfl ?_
            refine zbt (nI_pos' (by omega)) rfl rfl rfl ?_
            exact g
      rcases htl with rfl | ⟨a, rfl⟩
      · refine zs rfl rfl rfl ?_
        refine zs rfl rfl rfl ?_
        refine zbf (nI_nlt (a := 100) (by omega) (by omega)) rfl rfl rfl ?_
        refine zs rfl rfl rfl ?_
        refine zs rfl rfl rfl ?_
        refine zs rfl rfl rfl ?_
        refine zs rfl rfl rfl ?_
        refine zclQ rfl rfl (m_goesOn hr45 hB2 w) ?_
        rintro v3 M3 N3 ⟨rfl, rfl, hf3, hr3⟩
        refine zs rfl rfl rfl ?_
        exact body M3 _ hf3 hr3
      · refine zs rfl rfl rfl ?_
        refine zs rfl rfl rfl ?_
        refine zbf (nI_nlt (a := 100) (by omega) (by omega)) rfl rfl rfl ?_
        refine zs rfl rfl rfl ?_
        refine zs rfl rfl rfl ?_
        refine zs rfl rfl rfl ?_
        refine zs rfl rfl rfl ?_
        refine zclQ rfl rfl (m_goesOn hr45 hB2 w) ?_
        rintro v3 M3 N3 ⟨rfl, rfl, hf3, hr3⟩
        refine zs rfl rfl rfl ?_
        exact body M3 _ hf3 hr3
  exact loop 100 1 S (z_up M1 44 13 0) [] rfl (by decide) (Or.inl rfl) hB (fun _ _ q => q) ((hf1.mono (by decide)).trans (Fr.up (by decide))) (fun c hc => by rw [z_up_a, if_neg (by omega), hf1 44 (by decide)]) (hr1.fr (Fr.up (l := [44]) (by decide)) (by decide)) (hr1'.fr (Fr.up (l := [44]) (by decide)) (by decide)) rfl rfl
end MPUB5
