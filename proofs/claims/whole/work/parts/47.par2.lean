/-! What the text keeps; the class's text. -/
section KEEP
variable {S : zS} {n : Nat} {tb : zS} {tl : Nat} {p : Nat}
theorem Bas.ok (h : Bas S n) (hr : 0 ≤ S 1 ∧ S 1 ≤ 9999) (ho : ∀ a, a < 6 → 0 ≤ S (3 + a) ∧ S (3 + a) ≤ 9999) : Ok S n := ⟨h.le, h.s0, hr, ho, h.k, h.c, h.w, h.l, h.a⟩
/-- but for the ships' own places all is as it was -/
theorem Ok.low {S' : zS} {n' : Nat} (h : Ok S n) (hb : Bas S' n') (e : ∀ j, 0 < j → j < 22 → S' j = S j) : Ok S' n' :=
  hb.ok (by rw [e 1 (by decide) (by decide)]; exact h.hr) (fun a ha => by rw [e (3 + a) (by omega) (by omega)]; exact h.ho a ha)
theorem upd_n {S : zS} {k j : Nat} {x : Int32} (h : j ≠ k) : upd S k x j = S j := if_neg h
theorem Ok.uph (h : Ok S n) {a : Nat} (ha : a < 6) {v : Int32} (hv : 0 ≤ v ∧ v ≤ 9999) : Ok (uph S a v) n :=
  (h.b.uph ha v).ok (by rw [s1_uph]; exact h.hr) (fun b hb => by
    rw [ho_uph]
    by_cases e : b = a
    · rw [if_pos e]; exact hv
    · rw [if_neg e]; exact h.ho b hb)
theorem Ok.upo (h : Ok S n) {a : Nat} (ha : a < 13) (v : Int32) : Ok (upo S a v) n :=
  (h.b.of (s0_upo S a v) (fun j => kd_upo S ha j v) (fun j => ch_upo S ha j v) (fun j => wo_upo S ha j v) (fun j => lk_upo S ha j v)).ok (by rw [s1_upo]; exact h.hr) (fun b hb => by
    rw [ho_upo S a hb v]; exact h.ho b hb)
theorem Ok.upl (h : Ok S n) {k : Nat} (hk : k < n) {t : Int32} (ht : Th n t) (hl : lo S n (nI k) 12 t = false) : Ok (upl S k t) n := h.low (h.b.upl hk ht hl) (fun j _ hj => upd_n (by omega))
theorem Ok.ups (h : Ok S n) (k : Nat) (x : Int32) : Ok (ups S k x) n := h.low (h.b.ups k x) (fun j _ hj => upd_n (by omega))
theorem Ok.upc (h : Ok S n) (k : Nat) {x : Int32} (hx : 0 ≤ x ∧ x ≤ 9999) : Ok (upc S k x) n := h.low (h.b.upc k hx) (fun j _ hj => upd_n (by omega))
theorem Ok.upw (h : Ok S n) (k : Nat) {x : Int32} (hx : 0 ≤ x ∧ x ≤ 99) : Ok (upw S k x) n := h.low (h.b.upw k hx) (fun j _ hj => upd_n (by omega))
theorem Ok.upk (h : Ok S n) (k : Nat) {c : Nat} (hc : c < 6) : Ok (upk S k (nI c)) n := h.low (h.b.upk k hc) (fun j _ hj => upd_n (by omega))
section ADS
variable (S n)
theorem ads_kd (k s : Int32) (j : Nat) : kd (ads S n k s) j = if j = n then k else kd S j := by
  unfold ads
  rw [kd_up0, kd_upl, kd_upw, kd_upc, kd_ups, kd_upk]
theorem ads_ch (k s : Int32) (j : Nat) : ch (ads S n k s) j = if j = n then 50 else ch S j := by
  unfold ads
  rw [ch_up0, ch_upl, ch_upw, ch_upc, ch_ups, ch_upk]
theorem ads_wo (k s : Int32) (j : Nat) : wo (ads S n k s) j = if j = n then 0 else wo S j := by
  unfold ads
  rw [wo_up0, wo_upl, wo_upw, wo_upc, wo_ups, wo_upk]
theorem ads_lk (k s : Int32) (j : Nat) : lk (ads S n k s) j = if j = n then -1 else lk S j := by
  unfold ads
  rw [lk_up0, lk_upl, lk_upw, lk_upc, lk_ups, lk_upk]
end ADS
theorem Th.up {t : Int32} (h : Th n t) : Th (n + 1) t := by
  rcases h with h | ⟨j, hj, e⟩ | h
  · exact Or.inl h
  · exact Or.inr (Or.inl ⟨j, by omega, e⟩)
  · exact Or.inr (Or.inr h)
theorem Bas.ads (h : Bas S n) (h12 : n < 12) {c : Nat} (hc : c < 6) (s : Int32) : Bas (ads S n (nI c) s) (n + 1) := by
  refine ⟨by omega, ?_, fun k hk => ?_, fun k hk => ?_, fun k hk => ?_, fun k hk => ?_, ?_⟩
  · exact s0_up0 _ _
  · rw [ads_kd]
    by_cases e : k = n
    · rw [if_pos e]; exact ⟨c, hc, rfl⟩
    · rw [if_neg e]; exact h.k k (by omega)
  · rw [ads_ch]
    by_cases e : k = n
    · rw [if_pos e]; decide
    · rw [if_neg e]; exact h.c k (by omega)
  · rw [ads_wo]
    by_cases e : k = n
    · rw [if_pos e]; decide
    · rw [if_neg e]; exact h.w k (by omega)
  · rw [ads_lk]
    by_cases e : k = n
    · rw [if_pos e]; exact Or.inl rfl
    · rw [if_neg e]; exact (h.l k (by omega)).up
  · obtain ⟨r, hr⟩ := h.a
    refine ⟨r, fun k j hk hj e => ?_⟩
    rw [ads_lk] at e
    by_cases q : k = n
    · rw [if_pos q] at e
      exact absurd e.symm (ship_ne_m1 (by omega))
    · rw [if_neg q] at e
      have hl := h.l k (by omega)
      rcases hl with w | ⟨i, hi, w⟩ | ⟨a, ha, w⟩
      · rw [w] at e; exact absurd e.symm (ship_ne_m1 (by omega))
      · have : i = j := nI_inj (by omega) (by omega) (w.symm.trans e)
        subst this
        exact hr k i (by omega) hi e
      · have := nI_inj (by omega) (by omega) (w.symm.trans e); omega
theorem Ok.ads (h : Ok S n) (h12 : n < 12) {k : Int32} (hk : 0 ≤ k ∧ k ≤ 5) (s : Int32) : Ok (ads S n k s) (n + 1) := by
  obtain ⟨c, hc, rfl⟩ := r6 hk
  refine h.low (h.b.ads h12 hc s) (fun j h0 hj => ?_)
  exact (upd_n (by omega)).trans ((upd_n (by omega)).trans ((upd_n (by omega)).trans ((upd_n (by omega)).trans ((upd_n (by omega)).trans (upd_n (by omega))))))
theorem pN_n (h12 : n ≤ 12) (h : pN tb tl p 0 (nI n - 1) = true) : ∃ i, i < n ∧ cv tb tl p = nI i := by
  obtain ⟨hr1, hr2⟩ := pN_rng h
  obtain ⟨i, hi, ei⟩ := nI_of (i_nlt.mpr hr1)
  refine ⟨i, ?_, ei⟩
  rw [ei] at hr2
  cases n with
  | zero =>
    have q := i_le.mp hr2
    rw [nI_toInt hi, show (nI 0 - 1 : Int32).toInt = -1 by decide] at q
    omega
  | succ m =>
    rw [nI_pred] at hr2
    have := (nI_leI hi (by omega)).mp hr2
    omega
theorem tk_pos {k : Nat} (h : tk tb tl p = k) (hk : k ≠ 0) : p < tl := by
  apply Classical.byContradiction
  intro q
  unfold tk at h
  rw [if_neg q] at h
  exact hk h.symm
/-- a result's state is kept well, and its place lies behind -/
def Gd (tl n p : Nat) (r : zT) : Prop := ∀ S' q, r = .inl (S', q) → Ok S' n ∧ p ≤ q ∧ q ≤ tl
theorem pBer_ok (h : Ok S n) (hp : p ≤ tl) {s : Nat} (hs : s < n) : Gd tl n p (pBer tb tl n s S p) := by
  intro S' q e
  have h1 := nx_le (tb := tb) hp
  have h2 := nx_le (tb := tb) h1.2
  unfold pBer at e
  cases hw : pW tb tl p 9 with
  | true =>
    rw [hw] at e
    cases hl : lo S n (nI s) 12 (cv tb tl (nx tb tl p)) with
    | true => rw [hl] at e; cases e
    | false =>
      rw [hl] at e
      cases hn : pN tb tl (nx tb tl p) 0 (nI n - 1) with
      | false => rw [hn] at e; cases e
      | true =>
        rw [hn] at e
        cases e
        obtain ⟨i, hi, ei⟩ := pN_n h.le hn
        rw [ei] at hl ⊢
        exact ⟨h.upl hs (Th_s hi) hl, by omega, h2.2⟩
  | false =>
    rw [hw] at e
    cases hn : pN tb tl (nx tb tl p) 0 5 with
    | false => rw [hn] at e; cases e
    | true =>
      rw [hn] at e
      cases e
      obtain ⟨a, ha, ea⟩ := r6 (pN_rng hn)
      rw [ea, show (100 : Int32) + nI a = nI (100 + a) from nI_add 100 a]
      exact ⟨h.upl hs (Or.inr (Or.inr ⟨a, ha, rfl⟩)) (lo_stop (shp_anc h.le ha) 12), by omega, h2.2⟩
theorem pPer_ok {w lw hi : Int32} {g : zS → Int32 → zS} (h : Ok S n) (hp : p ≤ tl) (hg : ∀ v, lw ≤ v ∧ v ≤ hi → Ok (g S v) n) : Gd tl n p (pPer tb tl w lw hi g S p) := by
  intro S' q e
  have h1 := nx_le (tb := tb) hp
  have h2 := nx_le (tb := tb) h1.2
  unfold pPer at e
  cases hw : pW tb tl p w with
  | false => rw [hw] at e; cases e; exact ⟨h, Nat.le_refl _, hp⟩
  | true =>
    rw [hw] at e
    cases hn : pN tb tl (nx tb tl p) lw hi with
    | false => rw [hn] at e; cases e
    | true =>
      rw [hn] at e
      cases e
      exact ⟨hg _ (pN_rng hn), by omega, h2.2⟩
theorem gd_bind {r : zT} {f : zS → Nat → zT} (h : Gd tl n p r) (hf : ∀ S' q, Ok S' n → p ≤ q → q ≤ tl → Gd tl n q (f S' q)) : Gd tl n p (pbind r f) := by
  intro S' q e
  cases r with
  | inr w => cases e
  | inl w =>
    obtain ⟨S1, p1⟩ := w
    obtain ⟨h1, h2, h3⟩ := h S1 p1 rfl
    obtain ⟨h4, h5, h6⟩ := hf S1 p1 h1 h2 h3 S' q e
    exact ⟨h4, by omega, h6⟩
theorem pItem_ok (h : Ok S n) (hp : p ≤ tl) {S' : zS} {q : Nat} (e : pItem tb tl n S p = .inl (S', q)) : (∃ n', Ok S' n') ∧ p < q ∧ q ≤ tl ∧ p < tl := by
  unfold pItem at e
  by_cases h1 : tk tb tl p = 1
  · rw [if_pos h1] at e
    have hpl := tk_pos h1 (by decide)
    have hn1 := nx_gt (tb := tb) hpl
    have hn1' := nx_le (tb := tb) hp
    have hn2 := nx_le (tb := tb) hn1'.2
    have hn3 := nx_le (tb := tb) hn2.2
    by_cases k1 : cv tb tl p = 11
    · rw [if_pos k1] at e
      unfold pPair at e
      cases a1 : pN tb tl (nx tb tl p) 0 5 with
      | false => rw [a1] at e; cases e
      | true =>
        rw [a1] at e
        cases a2 : pN tb tl (nx tb tl (nx tb tl p)) 0 9999 with
        | false => rw [a2] at e; cases e
        | true =>
          rw [a2] at e
          cases e
          obtain ⟨a, ha, ea⟩ := r6 (pN_rng a1)
          rw [ea, nI_clamp (by omega)]
          exact ⟨⟨n, h.uph ha (pN_rng a2)⟩, by omega, hn3.2, hpl⟩
    · rw [if_neg k1] at e
      by_cases k2 : cv tb tl p = 12
      · rw [if_pos k2] at e
        unfold pHang at e
        cases a1 : pN tb tl (nx tb tl p) 0 (nI n - 1) with
        | false => rw [a1] at e; cases e
        | true =>
          rw [a1] at e
          cases a2 : isBr tb tl (nx tb tl (nx tb tl p)) with
          | false => rw [a2] at e; cases e
          | true =>
            rw [a2] at e
            obtain ⟨i, hi, ei⟩ := pN_n h.le a1
            have hi12 := h.le
            rw [ei, nI_clamp (by omega)] at e
            obtain ⟨g1, g2, g3⟩ := pBer_ok h hn2.2 hi S' q e
            exact ⟨⟨n, g1⟩, by omega, g3, hpl⟩
      · rw [if_neg k2] at e
        by_cases k3 : cv tb tl p = 13
        · rw [if_pos k3] at e
          unfold pPair at e
          cases a1 : pN tb tl (nx tb tl p) 0 12 with
          | false => rw [a1] at e; cases e
          | true =>
            rw [a1] at e
            cases a2 : pN tb tl (nx tb tl (nx tb tl p)) 0 99 with
            | false => rw [a2] at e; cases e
            | true =>
              rw [a2] at e
              cases e
              obtain ⟨a, ha, ea⟩ := r13 (pN_rng a1)
              rw [ea, nI_clamp (by omega)]
              exact ⟨⟨n, h.upo ha _⟩, by omega, hn3.2, hpl⟩
        · rw [if_neg k3] at e
          by_cases k4 : 0 ≤ cv tb tl p ∧ cv tb tl p ≤ 5
          · rw [if_pos k4] at e
            unfold pShip at e
            by_cases k5 : n < 12
            · rw [if_pos k5] at e
              have key : Gd tl (n + 1) (nx tb tl p) (pbind (pPer tb tl 6 1 99 (fun S v => ups S n v) (ads S n (cv tb tl p) 10) (nx tb tl p)) (fun S1 p1 => pbind (pPer tb tl 7 0 9999 (fun S v => upc S n v) S1 p1) (fun S2 p2 => pbind (pPer tb tl 8 0 99 (fun S v => upw S n v) S2 p2) (fun S3 p3 => pEnd tb tl n S3 p3)))) := by
                refine gd_bind (pPer_ok (h.ads k5 k4 10) hn1'.2 (fun v _ => (h.ads k5 k4 10).ups n v)) (fun S1 q1 o1 _ l1 => ?_)
                refine gd_bind (pPer_ok o1 l1 (fun v hv => o1.upc n hv)) (fun S2 q2 o2 _ l2 => ?_)
                refine gd_bind (pPer_ok o2 l2 (fun v hv => o2.upw n hv)) (fun S3 q3 o3 _ l3 => ?_)
                unfold pEnd
                cases isBr tb tl q3 with
                | true => exact pBer_ok o3 l3 (by omega)
                | false =>
                  intro S'' q'' e''
                  cases e''
                  exact ⟨o3, Nat.le_refl _, l3⟩
              obtain ⟨g1, g2, g3⟩ := key S' q e
              exact ⟨⟨n + 1, g1⟩, by omega, g3, hpl⟩
            · rw [if_neg k5] at e; cases e
          · rw [if_neg k4] at e; cases e
  · rw [if_neg h1] at e; cases e
end KEEP
def pText (tb : zS) (tl : Nat) : Nat → Nat → zS → Nat → (Nat × zS) ⊕ Nat
  | 0, _, _, p => .inr p
  | f + 1, i, S, p => match pItem tb tl (S 0).toNatClampNeg S p with
    | .inr q => .inr q
    | .inl (S', q) => if tk tb tl q = 0 then .inl (i, S') else if tk tb tl q = 3 then pText tb tl f (i + 1) S' (nx tb tl q) else .inr q
