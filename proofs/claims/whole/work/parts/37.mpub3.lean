/-! The model's calls that choose. -/
def mb (b : Int32) : Int32 := if b = -1000000004 then -1 else b
def ml (p : Int32 × Int32) : Int32 := if p.1 = -1000000004 then 0 else p.2
def Bx (b : Int32) : Prop := b = -1000000004 ∨ ∃ x, x < 2 ^ 30 ∧ b = nI x
theorem nI_fd3 {x : Nat} (h : x < 2 ^ 31) : nI x ≠ -1000000004 := fun q => by
  have := congrArg Int32.toInt q
  rw [nI_toInt h, show (-1000000004 : Int32).toInt = -1000000004 by decide] at this
  omega
theorem mb_0 : mb (-1000000004) = -1 := if_pos rfl
theorem mb_x {x : Nat} (h : x < 2 ^ 31) : mb (nI x) = nI x := if_neg (nI_fd3 h)
theorem bx_plc (S : zS) (n j : Nat) (w : Int32) : ∀ i, i ≤ 106 → Bx (plc S n j w i).1
  | 0, _ => Or.inl rfl
  | i + 1, hi => by
    unfold plc
    by_cases h : bth S n j (nI i) = true ∧ dep (upl S j (nI i)) n (nI j) < (plc S n j w i).2 ∧ alh (upl S j (nI i)) n w = true
    · rw [if_pos h]; exact Or.inr ⟨i, by omega, rfl⟩
    · rw [if_neg h]; exact bx_plc S n j w i (by omega)
theorem plc_13 (S : zS) (n j : Nat) (w : Int32) : ∀ i, i ≤ 106 → (plc S n j w i).1 = -1000000004 → (plc S n j w i).2 = 13
  | 0, _, _ => rfl
  | i + 1, hi, h => by
    by_cases q : bth S n j (nI i) = true ∧ dep (upl S j (nI i)) n (nI j) < (plc S n j w i).2 ∧ alh (upl S j (nI i)) n w = true
    · rw [plc_t q] at h
      exact absurd h (nI_fd3 (by omega))
    · rw [plc_f q] at h ⊢
      exact plc_13 S n j w i (by omega) h
theorem bx_cho (g : Nat → Int32) {b : Int32} (hb : Bx b) (l : Int32) : ∀ i, i ≤ 106 → Bx (cho g b l i).1
  | 0, _ => hb
  | i + 1, hi => by
    unfold cho
    by_cases h : (cho g b l i).2 < g i
    · rw [if_pos h]; exact Or.inr ⟨i, by omega, rfl⟩
    · rw [if_neg h]; exact bx_cho g hb l i (by omega)
theorem bx_wks (S T : zS) : ∀ i, i ≤ 106 → Bx (wks S T i).1
  | 0, _ => Or.inl rfl
  | i + 1, hi => by
    unfold wks
    by_cases h : lk S i ≠ -1 ∧ ((wks S T i).1 = -1000000004 ∨ brk S i - T i < (wks S T i).2)
    · rw [if_pos h]; exact Or.inr ⟨i, by omega, rfl⟩
    · rw [if_neg h]; exact bx_wks S T i (by omega)
theorem wks_0 (S T : zS) : ∀ i, i ≤ 106 → (wks S T i).1 = -1000000004 → (wks S T i).2 = 0
  | 0, _, _ => rfl
  | i + 1, hi, h => by
    by_cases q : lk S i ≠ -1 ∧ ((wks S T i).1 = -1000000004 ∨ brk S i - T i < (wks S T i).2)
    · rw [wks_t q] at h
      exact absurd h (nI_fd3 (by omega))
    · rw [wks_f q] at h ⊢
      exact wks_0 S T i (by omega) h
theorem bth_ok {S : zS} {n j : Nat} {t : Int32} (h12 : n ≤ 12) (h : bth S n j t = true) : Th n t ∧ lo S n (nI j) 12 t = false := by
  unfold bth at h
  cases h1 : thg n t with
  | false => rw [h1] at h; cases h
  | true =>
    rw [h1] at h
    cases h2 : lo S n (nI j) 12 t with
    | true => rw [h2] at h; cases h
    | false => exact ⟨(thg_iff h12).mp h1, rfl⟩
theorem tg_lt {k : Nat} (h : k < 18) : tg k < 106 ∧ (tg k < 12 ∨ 100 ≤ tg k ∧ tg k < 106) := by
  unfold tg
  split <;> omega
section MPUB3
variable {X : Nat × (Nat → Int32)} {M M2 : zM} {N : zN} {S F T : zS} {n : Nat}
theorem ho0_upl {j : Nat} {t : Int32} (hO : Ok S n) : ∀ a, a < 6 → 0 ≤ upl S j t (3 + a) := fun a ha => by
  rw [show upl S j t (3 + a) = S (3 + a) from els_lo (els_upl Els.rfl' j t) (by omega)]
  exact hO.ho0 a ha
theorem m_place (hC : mC M S F) (hO : Ok S n) (s w : Int32) : zV X 172 [.ref 44, .int s, .int w] M N (mP M N (r_place S F n s w)) := by
  refine zVi [(0, .ref 44), (1, .int s), (2, .int w)] rfl ?_
  unfold r_place
  have hB := hO.b
  have hle := hO.le
  refine zs rfl rfl rfl ?_
  refine zs rfl rfl rfl ?_
  refine zcl rfl rfl (m_isShip (hC.n0 hO) s) ?_
  cases h : shp n s with
  | true =>
    rw [if_pos rfl]
    obtain ⟨j, hj, rfl⟩ := shp_of hle h
    rw [nI_clamp (by omega)]
    have hj12 : j < 12 := by omega
    refine zs rfl rfl rfl ?_
    refine zs rfl rfl rfl ?_
    refine zcl rfl rfl (m_isWind w) ?_
    by_cases h2 : 0 ≤ w ∧ w ≤ 12
    · rw [decide_eq_true h2, if_pos h2]
      refine zs rfl rfl rfl ?_
      refine zs rfl rfl rfl ?_
      refine zs rfl rfl rfl ?_
      refine zs rfl rfl rfl ?_
      refine zs rfl rfl rfl ?_
      refine zs rfl rfl rfl ?_
      refine zs rfl rfl rfl ?_
      refine zs rfl rfl rfl ?_
      refine zcl rfl rfl (m_is4 hC.1 hj12) ?_
      refine zs rfl rfl rfl ?_
      refine zs rfl rfl rfl ?_
      refine zs rfl rfl rfl ?_
      have loop : ∀ d k M1 tl, k + d = 18 → (tl = [] ∨ ∃ a : Int32, tl = [(7, Value.int a)]) → Fr [45, 47, 55] M M1 → Rw M1 45 S → zW X 172 38 ((0, .ref 44) :: (1, .int (nI j)) :: (2, .int w) :: (3, .int (mb (plc S n j w (tg k)).1)) :: (4, .int (ml (plc S n j w (tg k)))) :: (5, .int (lk S j)) :: (6, .int (nI (tg k))) :: tl) [] M1 N (mP M N (r_ch S F (plc S n j w 106).1)) := by
        intro d
        induction d with
        | zero =>
          intro k M1 tl hk htl hf hr1
          obtain rfl : k = 18 := by omega
          have hC1 := hC.to hf (by decide) hr1
          rw [show tg 18 = 106 by decide]
          unfold r_ch
          rcases bx_plc S n j w 106 (by decide) with e | ⟨x, hx, e⟩
          · rw [e, mb_0, if_pos rfl]
            rcases htl with rfl | ⟨a, rfl⟩
            · refine zs rfl rfl rfl ?_
              refine zs rfl rfl rfl ?_
              refine zs rfl rfl rfl ?_
              refine zs rfl rfl rfl ?_
              refine zs rfl rfl rfl ?_
              refine zs rfl rfl rfl ?_
              refine zs rfl rfl rfl ?_
              refine zcl rfl rfl (m_finds_3) ?_
              refine zs rfl rfl rfl ?_
              exact zret rfl rfl (mP_ref (S := S) (F := F) (c := 3) rfl (fr47 hf) (hC1))
            · refine zs rfl rfl rfl ?_
              refine zs rfl rfl rfl ?_
              refine zs rfl rfl rfl ?_
              refine zs rfl rfl rfl ?_
              refine zs rfl rfl rfl ?_
              refine zs rfl rfl rfl ?_
              refine zs rfl rfl rfl ?_
              refine zcl rfl rfl (m_finds_3) ?_
              refine zs rfl rfl rfl ?_
              exact zret rfl rfl (mP_ref (S := S) (F := F) (c := 3) rfl (fr47 hf) (hC1))
          · rw [e, mb_x (by omega), if_neg (nI_fd3 (by omega))]
            rcases htl with rfl | ⟨a, rfl⟩
            · refine zs rfl rfl rfl ?_
              refine zs rfl rfl rfl ?_
              refine zs rfl rfl rfl ?_
              refine zs rfl rfl rfl ?_
              refine zbt (nI_pos' (by omega)) rfl rfl rfl ?_
              refine zs rfl rfl rfl ?_
              exact zret rfl rfl (mP_ok (S' := S) (F := F) rfl (fr47 hf) (hC1))
            · refine zs rfl rfl rfl ?_
              refine zs rfl rfl rfl ?_
              refine zs rfl rfl rfl ?_
              refine zs rfl rfl rfl ?_
              refine zbt (nI_pos' (by omega)) rfl rfl rfl ?_
              refine zs rfl rfl rfl ?_
              exact zret rfl rfl (mP_ok (S' := S) (F := F) rfl (fr47 hf) (hC1))
        | succ d ih =>
          intro k M1 tl hk htl hf hr1
          have hk18 : k < 18 := by omega
          obtain ⟨ht106, htc⟩ := tg_lt hk18
          have enx := tg_next hk18
          have ept := plc_tg (S := S) hle j w hk18
          have adv : ∀ M2 tl b l, (tl = [] ∨ ∃ a : Int32, tl = [(7, Value.int a)]) → Fr [45, 47, 55] M M2 → Rw M2 45 S → b = mb (plc S n j w (tg (k + 1))).1 → l = ml (plc S n j w (tg (k + 1))) → zW X 172 129 ((0, .ref 44) :: (1, .int (nI j)) :: (2, .int w) :: (3, .int b) :: (4, .int l) :: (5, .int (lk S j)) :: (6, .int (nI (tg k))) :: tl) [] M2 N (mP M N (r_ch S F (plc S n j w 106).1)) := by
            intro M2 tl b l htl hf2 hr2 hb hl
            have ih' := ih (k + 1) M2 tl (by omega) htl hf2 hr2
            rw [← hb, ← hl, ← enx] at ih'
            by_cases q : nI (tg k) = 11
            · rw [if_pos q] at ih'
              rcases htl with rfl | ⟨a, rfl⟩
              · refine zs rfl rfl rfl ?_
                refine zs rfl rfl rfl ?_
                refine zbf (not_not_intro q) rfl rfl rfl ?_
                refine zs rfl rfl rfl ?_
                refine zs rfl rfl rfl ?_
                refine zs rfl rfl rfl ?_
                refine zs rfl rfl rfl ?_
                exact ih'
              · refine zs rfl rfl rfl ?_
                refine zs rfl rfl rfl ?_
                refine zbf (not_not_intro q) rfl rfl rfl ?_
                refine zs rfl rfl rfl ?_
                refine zs rfl rfl rfl ?_
                refine zs rfl rfl rfl ?_
                refine zs rfl rfl rfl ?_
                exact ih'
            · rw [if_neg q] at ih'
              rcases htl with rfl | ⟨a, rfl⟩
              · refine zs rfl rfl rfl ?_
                refine zs rfl rfl rfl ?_
                refine zbt (q) rfl rfl rfl ?_
                refine zs rfl rfl rfl ?_
                refine zs rfl rfl rfl ?_
                refine zs rfl rfl rfl ?_
                refine zs rfl rfl rfl ?_
                refine zs rfl rfl rfl ?_
                exact ih'
              · refine zs rfl rfl rfl ?_
                refine zs rfl rfl rfl ?_
                refine zbt (q) rfl rfl rfl ?_
                refine zs rfl rfl rfl ?_
                refine zs rfl rfl rfl ?_
                refine zs rfl rfl rfl ?_
                refine zs rfl rfl rfl ?_
                refine zs rfl rfl rfl ?_
                exact ih'
          have body : ∀ tl, (tl = [] ∨ ∃ a : Int32, tl = [(7, Value.int a)]) → zW X 172 52 ((0, .ref 44) :: (1, .int (nI j)) :: (2, .int w) :: (3, .int (mb (plc S n j w (tg k)).1)) :: (4, .int (ml (plc S n j w (tg k)))) :: (5, .int (lk S j)) :: (6, .int (nI (tg k))) :: tl) [.int (bI (mh S n j (tg k)))] M1 N (mP M N (r_ch S F (plc S n j w 106).1)) := by
            intro tl htl
            rw [← bth_mh hB hj htc]
            cases hb : bth S n j (nI (tg k)) with
            | false =>
              have e : plc S n j w (tg (k + 1)) = plc S n j w (tg k) := ept.trans (plc_f (fun q => by rw [hb] at q; cases q.1))
              have a1 := adv M1 tl _ _ htl hf hr1 (by rw [e]) (by rw [e])
              rcases htl with rfl | ⟨a, rfl⟩
              · refine zs rfl rfl rfl ?_
                exact a1
              · refine zs rfl rfl rfl ?_
                exact a1
            | true =>
              obtain ⟨hth, hlo⟩ := bth_ok hle hb
              have hB2 := hB.upl hj hth hlo
              have hr2 : Rw (z_up M1 45 (26 + 5 * j) (nI (tg k))) 45 (upl S j (nI (tg k))) := hr1.up _ _
              have hf2 : Fr [45, 47, 55] M (z_up M1 45 (26 + 5 * j) (nI (tg k))) := hf.trans (Fr.up (by decide))
              have back : ∀ M3, Rw M3 45 (upl S j (nI (tg k))) → Rw (z_up M3 45 (26 + 5 * j) (lk S j)) 45 S := fun M3 h3 => by
                have := h3.up (26 + 5 * j) (lk S j)
                unfold upl at this
                rw [upd_upd] at this
                unfold lk at this
                rw [upd_self] at this
                exact this
              have tail : ∀ (bt : Bool) M3 tl, (tl = [] ∨ ∃ a : Int32, tl = [(7, Value.int a)]) → Fr [45, 47, 55] M M3 → Rw M3 45 (upl S j (nI (tg k))) → (bt = true ↔ (dep (upl S j (nI (tg k))) n (nI j) < (plc S n j w (tg k)).2 ∧ alh (upl S j (nI (tg k))) n w = true)) → zW X 172 90 ((0, .ref 44) :: (1, .int (nI j)) :: (2, .int w) :: (3, .int (mb (plc S n j w (tg k)).1)) :: (4, .int (ml (plc S n j w (tg k)))) :: (5, .int (lk S j)) :: (6, .int (nI (tg k))) :: tl) [.int (bI bt)] M3 N (mP M N (r_ch S F (plc S n j w 106).1)) := by
                intro bt M3 tl htl hf3 hr3 hbt
                have t2 : zW X 172 92 [(0, .ref 44), (1, .int (nI j)), (2, .int w), (3, .int (mb (plc S n j w (tg k)).1)), (4, .int (ml (plc S n j w (tg k)))), (5, .int (lk S j)), (6, .int (nI (tg k))), (7, .int (bI bt))] [] M3 N (mP M N (r_ch S F (plc S n j w 106).1)) := by
                  cases bt with
                  | false =>
                    have e : plc S n j w (tg (k + 1)) = plc S n j w (tg k) := ept.trans (plc_f (fun q => by have := hbt.mpr q.2; cases this))
                    refine zs rfl rfl rfl ?_
                    refine zs rfl rfl rfl ?_
                    refine zs rfl rfl rfl ?_
                    refine zs rfl rfl rfl ?_
                    refine zs rfl rfl rfl ?_
                    refine zs rfl rfl rfl ?_
                    refine zs rfl rfl rfl ?_
                    refine zs rfl rfl rfl ?_
                    refine zs rfl rfl rfl ?_
                    refine zs rfl rfl rfl ?_
                    refine zs rfl rfl rfl ?_
                    refine zs rfl rfl rfl ?_
                    refine zcl rfl rfl (m_puts4 hj12 (lk S j)) ?_
                    exact adv _ _ _ _ (Or.inr ⟨_, rfl⟩) (hf3.trans (Fr.up (by decide))) (back M3 hr3) (by rw [e]) (by rw [e])
                  | true =>
                    have e : plc S n j w (tg (k + 1)) = (nI (tg k), dep (upl S j (nI (tg k))) n (nI j)) := ept.trans (plc_t ⟨hb, hbt.mp rfl⟩)
                    refine zs rfl rfl rfl ?_
                    refine zs rfl rfl rfl ?_
                    refine zs rfl rfl rfl ?_
                    refine zs rfl rfl rfl ?_
                    refine zcl rfl rfl (m_depthOf hr3 hle hB2.l hB2.lv (Th_s hj)) ?_
                    refine zs rfl rfl rfl ?_
                    refine zs rfl rfl rfl ?_
                    refine zs rfl rfl rfl ?_
                    refine zs rfl rfl rfl ?_
                    refine zs rfl rfl rfl ?_
                    refine zs rfl rfl rfl ?_
                    refine zs rfl rfl rfl ?_
                    refine zs rfl rfl rfl ?_
                    refine zs rfl rfl rfl ?_
                    refine zs rfl rfl rfl ?_
                    refine zs rfl rfl rfl ?_
                    refine zcl rfl rfl (m_puts4 hj12 (lk S j)) ?_
                    refine adv _ _ _ _ (Or.inr ⟨_, rfl⟩) (hf3.trans (Fr.up (by decide))) (back M3 hr3) ?_ ?_
                    · rw [e, mb_x (by omega)]
                    · rw [e]
                      show _ = if nI (tg k) = -1000000004 then 0 else _
                      rw [if_neg (nI_fd3 (by omega))]
                rcases htl with rfl | ⟨a, rfl⟩
                · refine zs rfl rfl rfl ?_
                  exact t2
                · refine zs rfl rfl rfl ?_
                  exact t2
              have hold : ∀ M3 tl, (tl = [] ∨ ∃ a : Int32, tl = [(7, Value.int a)]) → Fr [45, 47, 55] M M3 → Rw M3 45 (upl S j (nI (tg k))) → dep (upl S j (nI (tg k))) n (nI j) < (plc S n j w (tg k)).2 → zW X 172 77 ((0, .ref 44) :: (1, .int (nI j)) :: (2, .int w) :: (3, .int (mb (plc S n j w (tg k)).1)) :: (4, .int (ml (plc S n j w (tg k)))) :: (5, .int (lk S j)) :: (6, .int (nI (tg k))) :: tl) [] M3 N (mP M N (r_ch S F (plc S n j w 106).1)) := by
                intro M3 tl htl hf3 hr3 hd
                rcases htl with rfl | ⟨a, rfl⟩
                · refine zs rfl rfl rfl ?_
                  refine zs rfl rfl rfl ?_
                  refine zclQ rfl rfl (m_holdIn hr3 hB2 (ho0_upl hO) w) ?_
                  rintro v4 M4 N4 ⟨rfl, rfl, hf4, hr4⟩
                  cases ha : alh (upl S j (nI (tg k))) n w with
                  | false =>
                    refine zs rfl rfl rfl ?_
                    refine zs rfl rfl rfl ?_
                    exact tail false M4 [] (Or.inl rfl) (hf3.trans hf4) hr4 ⟨fun q => (nomatch q), fun q => by rw [ha] at q; exact q.2⟩
                  | true =>
                    refine zs rfl rfl rfl ?_
                    refine zs rfl rfl rfl ?_
                    refine zs rfl rfl rfl ?_
                    exact tail true M4 [] (Or.inl rfl) (hf3.trans hf4) hr4 ⟨fun _ => ⟨hd, ha⟩, fun _ => rfl⟩
                · refine zs rfl rfl rfl ?_
                  refine zs rfl rfl rfl ?_
                  refine zclQ rfl rfl (m_holdIn hr3 hB2 (ho0_upl hO) w) ?_
                  rintro v4 M4 N4 ⟨rfl, rfl, hf4, hr4⟩
                  cases ha : alh (upl S j (nI (tg k))) n w with
                  | false =>
                    refine zs rfl rfl rfl ?_
                    refine zs rfl rfl rfl ?_
                    exact tail false M4 _ (Or.inr ⟨_, rfl⟩) (hf3.trans hf4) hr4 ⟨fun q => (nomatch q), fun q => by rw [ha] at q; exact q.2⟩
                  | true =>
                    refine zs rfl rfl rfl ?_
                    refine zs rfl rfl rfl ?_
                    refine zs rfl rfl rfl ?_
                    exact tail true M4 _ (Or.inr ⟨_, rfl⟩) (hf3.trans hf4) hr4 ⟨fun _ => ⟨hd, ha⟩, fun _ => rfl⟩
              have test : ∀ tl, (tl = [] ∨ ∃ a : Int32, tl = [(7, Value.int a)]) → zW X 172 63 ((0, .ref 44) :: (1, .int (nI j)) :: (2, .int w) :: (3, .int (mb (plc S n j w (tg k)).1)) :: (4, .int (ml (plc S n j w (tg k)))) :: (5, .int (lk S j)) :: (6, .int (nI (tg k))) :: tl) [] (z_up M1 45 (26 + 5 * j) (nI (tg k))) N (mP M N (r_ch S F (plc S n j w 106).1)) := by
                intro tl htl
                have hold' := hold (z_up M1 45 (26 + 5 * j) (nI (tg k))) tl htl hf2 hr2
                have tail' := tail false (z_up M1 45 (26 + 5 * j) (nI (tg k))) tl htl hf2 hr2
                rcases bx_plc S n j w (tg k) (by omega) with e | ⟨x, hx, e⟩
                · have e13 := plc_13 S n j w (tg k) (by omega) e
                  have hd : dep (upl S j (nI (tg k))) n (nI j) < (plc S n j w (tg k)).2 := by rw [e13]; exact dep_le _ _ _
                  have h3 := hold' hd
                  rw [e, mb_0] at h3 ⊢
                  rcases htl with rfl | ⟨a, rfl⟩
                  · refine zs rfl rfl rfl ?_
                    refine zs rfl rfl rfl ?_
                    exact h3
                  · refine zs rfl rfl rfl ?_
                    refine zs rfl rfl rfl ?_
                    exact h3
                · have eml : ml (plc S n j w (tg k)) = (plc S n j w (tg k)).2 := by
                    unfold ml
                    rw [if_neg (by rw [e]; exact nI_fd3 (by omega))]
                  rw [e, mb_x (by omega), eml] at hold' tail' ⊢
                  rcases htl with rfl | ⟨a, rfl⟩
                  · refine zs rfl rfl rfl ?_
                    refine zbf (nI_pos (by omega)) rfl rfl rfl ?_
                    refine zs rfl rfl rfl ?_
                    refine zs rfl rfl rfl ?_
                    refine zcl rfl rfl (m_depthOf hr2 hle hB2.l hB2.lv (Th_s hj)) ?_
                    refine zs rfl rfl rfl ?_
                    refine zbr rfl rfl rfl (fun hc => ?_) (fun hc => ?_)
                    · refine zs rfl rfl rfl ?_
                      exact tail' ⟨fun q => (nomatch q), fun q => absurd q.1 (i_nlt.mpr hc)⟩
                    · exact hold' (i_nle.mp hc)
                  · refine zs rfl rfl rfl ?_
                    refine zbf (nI_pos (by omega)) rfl rfl rfl ?_
                    refine zs rfl rfl rfl ?_
                    refine zs rfl rfl rfl ?_
                    refine zcl rfl rfl (m_depthOf hr2 hle hB2.l hB2.lv (Th_s hj)) ?_
                    refine zs rfl rfl rfl ?_
                    refine zbr rfl rfl rfl (fun hc => ?_) (fun hc => ?_)
                    · refine zs rfl rfl rfl ?_
                      exact tail' ⟨fun q => (nomatch q), fun q => absurd q.1 (i_nlt.mpr hc)⟩
                    · exact hold' (i_nle.mp hc)
              rcases htl with rfl | ⟨a, rfl⟩
              · refine zs rfl rfl rfl ?_
                refine zs rfl rfl rfl ?_
                refine zs rfl rfl rfl ?_
                refine zs rfl rfl rfl ?_
                refine zs rfl rfl rfl ?_
                refine zcl rfl rfl (m_puts4 hj12 (nI (tg k))) ?_
                exact test [] (Or.inl rfl)
              · refine zs rfl rfl rfl ?_
                refine zs rfl rfl rfl ?_
                refine zs rfl rfl rfl ?_
                refine zs rfl rfl rfl ?_
                refine zs rfl rfl rfl ?_
                refine zcl rfl rfl (m_puts4 hj12 (nI (tg k))) ?_
                exact test _ (Or.inr ⟨_, rfl⟩)
          rcases htl with rfl | ⟨a, rfl⟩
          · refine zs rfl rfl rfl ?_
            refine zs rfl rfl rfl ?_
            refine zbf (nI_ge (b := 106) (by omega) (by omega)) rfl rfl rfl ?_
            refine zs rfl rfl rfl ?_
            refine zs rfl rfl rfl ?_
            refine zs rfl rfl rfl ?_
            refine zcl rfl rfl (m_mayHang hr1 hB ht106 (nI j) rfl) ?_
            exact body [] (Or.inl rfl)
          · refine zs rfl rfl rfl ?_
            refine zs rfl rfl rfl ?_
            refine zbf (nI_ge (b := 106) (by omega) (by omega)) rfl rfl rfl ?_
            refine zs rfl rfl rfl ?_
            refine zs rfl rfl rfl ?_
            refine zs rfl rfl rfl ?_
            refine zcl rfl rfl (m_mayHang hr1 hB ht106 (nI j) rfl) ?_
            exact body _ (Or.inr ⟨_, rfl⟩)
      exact loop 18 0 M [] rfl (Or.inl rfl) Fr.rfl' hC.1
    · rw [decide_eq_false h2, if_neg h2]
      refine zs rfl rfl rfl ?_
      refine zs rfl rfl rfl ?_
      refine zs rfl rfl rfl ?_
      refine zcl rfl rfl (m_finds_0) ?_
      exact zret rfl rfl (mP_ref (S := S) (F := F) (c := 0) rfl (Fr.rfl') (hC))
  | false =>
    rw [if_neg (by decide)]
    refine zs rfl rfl rfl ?_
    refine zs rfl rfl rfl ?_
    refine zs rfl rfl rfl ?_
    refine zcl rfl rfl (m_finds_0) ?_
    exact zret rfl rfl (mP_ref (S := S) (F := F) (c := 0) rfl (Fr.rfl') (hC))
end MPUB3
