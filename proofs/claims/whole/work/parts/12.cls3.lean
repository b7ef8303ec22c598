section CLS3
variable {X : Nat × (Nat → Int32)} {M : zM} {N : zN} {S T : zS} {n : Nat}
theorem c_fill_h : zV X 230 [.ref 9, .int 0] M N (fun v M' N' => v = none ∧ N' = N ∧ Fr [9] M M' ∧ ∀ k, k < 12 → M' 9 k = 0) := by
  refine zVi [(0, .ref 9), (1, .int 0)] rfl ?_
  refine zs rfl rfl rfl ?_
  refine zs rfl rfl rfl ?_
  refine zs rfl rfl rfl ?_
  refine zs rfl rfl rfl ?_
  refine zs rfl rfl rfl ?_
  have loop : ∀ d i M1, i + d = 12 → Fr [9] M M1 → (∀ k, k < i → M1 9 k = 0) → zW X 230 5 [(0, .ref 9), (1, .int 0), (2, .int (nI i)), (3, .int 12)] [] M1 N (fun v M' N' => v = none ∧ N' = N ∧ Fr [9] M M' ∧ ∀ k, k < 12 → M' 9 k = 0) := by
    intro d
    induction d with
    | zero =>
      intro i M1 hi hf h0
      obtain rfl : i = 12 := by omega
      repeat (refine zs rfl rfl rfl ?_)
      exact zret rfl rfl ⟨rfl, rfl, hf, h0⟩
    | succ d ih =>
      intro i M1 hi hf h0
      refine zs rfl rfl rfl ?_
      refine zs rfl rfl rfl ?_
      refine zbf (c := 12 ≤ nI i) (nI_ge (b := 12) (by omega) (by omega)) rfl rfl rfl ?_
      refine zs rfl rfl rfl ?_
      refine zs rfl rfl rfl ?_
      refine zs rfl rfl rfl ?_
      refine zast rfl rfl rfl (show i < 12 by omega) (by decide) ?_
      refine zinc rfl rfl rfl ?_
      refine zs rfl rfl rfl ?_
      refine ih (i + 1) _ (by omega) (hf.trans (Fr.up (by decide))) (fun k hk => ?_)
      rw [z_up_a]
      by_cases hki : k = i
      · rw [if_pos hki]
      · rw [if_neg hki]
        exact h0 k (by omega)
  exact loop 12 0 M rfl Fr.rfl' (fun k hk => absurd hk (Nat.not_lt_zero k))
theorem c_fillStrains_h (hv : Vw M 1 S) (hn : S 0 = nI n) (h12 : n ≤ 12) (hk : Kok S n) (w : Int32) : zV X 13 [.ref 1, .int w] M N (fun v M' N' => v = none ∧ N' = N ∧ Fr [9] M M' ∧ ∀ k, k < 12 → M' 9 k = Str S n w k) := by
  refine zVi [(0, .ref 1), (1, .int w)] rfl ?_
  refine zs rfl rfl rfl ?_
  refine zs rfl rfl rfl ?_
  refine zs rfl rfl rfl ?_
  refine zclQ rfl rfl c_fill_h ?_
  rintro v0 M0 N0 ⟨rfl, rfl, hf0, h00⟩
  refine zs rfl rfl rfl ?_
  refine zs rfl rfl rfl ?_
  have inner : ∀ (i : Nat) (p : Int32) (Q : Option Value → zM → zN → Prop) (d m : Nat) (t : Int32) (T : zS) (M1 : zM), m + d = 12 → Fr [9] M M1 → (∀ k, k < 12 → M1 9 k = T k) →
      (∀ M2 t2 m2, Fr [9] M M2 → (∀ k, k < 12 → M2 9 k = sad S n p d t T k) → zW X 13 73 [(0, .ref 1), (1, .int w), (2, .int (nI i)), (3, .int p), (4, .int t2), (5, .int m2)] [] M2 N0 Q) →
      zW X 13 31 [(0, .ref 1), (1, .int w), (2, .int (nI i)), (3, .int p), (4, .int t), (5, .int (nI m))] [] M1 N0 Q := by
    intro i p Q d
    induction d with
    | zero =>
      intro m t T M1 hm hf h1 kk
      obtain rfl : m = 12 := by omega
      refine zs rfl rfl rfl ?_
      refine zs rfl rfl rfl ?_
      refine zs rfl rfl rfl ?_
      exact kk M1 _ _ hf h1
    | succ d ih =>
      intro m t T M1 hm hf h1 kk
      have hv1 : Vw M1 1 S := hv.fr hf (by decide)
      refine zs rfl rfl rfl ?_
      refine zs rfl rfl rfl ?_
      refine zbf (c := 12 ≤ nI m) (nI_ge (b := 12) (by omega) (by omega)) rfl rfl rfl ?_
      refine zs rfl rfl rfl ?_
      refine zs rfl rfl rfl ?_
      refine zcl rfl rfl (c_hasShip_h (hv1.s0.trans hn) t) ?_
      unfold sad at kk
      cases hs : shp n t with
      | false =>
        rw [hs] at kk
        refine zs rfl rfl rfl ?_
        exact kk M1 _ _ hf h1
      | true =>
        rw [hs] at kk
        obtain ⟨j, hj, rfl⟩ := shp_of h12 hs
        rw [nI_clamp (by omega)] at kk
        refine zs rfl rfl rfl ?_
        refine zs rfl rfl rfl ?_
        refine zs rfl rfl rfl ?_
        refine zs rfl rfl rfl ?_
        refine zs rfl rfl rfl ?_
        refine zald rfl rfl (show j < 12 by omega) (by decide) ?_
        refine ztop (h1 j (by omega)) ?_
        refine zs rfl rfl rfl ?_
        refine zs rfl rfl rfl ?_
        refine zast rfl rfl rfl (show j < 12 by omega) (by decide) ?_
        refine zs rfl rfl rfl ?_
        refine zs rfl rfl rfl ?_
        refine zs rfl rfl rfl ?_
        refine zald rfl rfl (show j < 12 by omega) (by decide) ?_
        refine ztop (hv1.fl j (by omega)) ?_
        refine zs rfl rfl rfl ?_
        refine zinc rfl rfl rfl ?_
        refine zs rfl rfl rfl ?_
        refine ih (m + 1) _ (upd T j (T j + p)) _ (by omega) (hf.trans (Fr.up (by decide))) (fun k hk2 => ?_) kk
        rw [z_up_a]
        show _ = if k = j then T j + p else T k
        by_cases hki : k = j
        · rw [if_pos hki, if_pos hki]
        · rw [if_neg hki, if_neg hki]
          exact h1 k hk2
  have outer : ∀ d i M1 tl, i + d = n → (tl = [] ∨ ∃ a b c : Int32, tl = [(3, Value.int a), (4, Value.int b), (5, Value.int c)]) → Fr [9] M M1 → (∀ k, k < 12 → M1 9 k = Sti S n w i k) → zW X 13 10 ((0, .ref 1) :: (1, .int w) :: (2, .int (nI i)) :: tl) [] M1 N0 (fun v M' N' => v = none ∧ N' = N0 ∧ Fr [9] M M' ∧ ∀ k, k < 12 → M' 9 k = Str S n w k) := by
    intro d
    induction d with
    | zero =>
      intro i M1 tl hi htl hf h1
      obtain rfl : i = n := by omega
      have hv1 : Vw M1 1 S := hv.fr hf (by decide)
      rcases htl with rfl | ⟨a, b, c, rfl⟩
      · refine zs rfl rfl rfl ?_
        refine zs rfl rfl rfl ?_
        refine zs rfl rfl rfl ?_
        refine zbt (c := M1 1 8 ≤ nI i) (by rw [hv1.s0, hn]; exact nI_le (by omega) (by omega)) rfl rfl rfl ?_
        exact zret rfl rfl ⟨rfl, rfl, hf, h1⟩
      · refine zs rfl rfl rfl ?_
        refine zs rfl rfl rfl ?_
        refine zs rfl rfl rfl ?_
        refine zbt (c := M1 1 8 ≤ nI i) (by rw [hv1.s0, hn]; exact nI_le (by omega) (by omega)) rfl rfl rfl ?_
        exact zret rfl rfl ⟨rfl, rfl, hf, h1⟩
    | succ d ih =>
      intro i M1 tl hi htl hf h1
      have hv1 : Vw M1 1 S := hv.fr hf (by decide)
      have step : ∀ M2 t2 m2, Fr [9] M M2 → (∀ k, k < 12 → M2 9 k = sad S n (pul S n i w) 12 (nI i) (Sti S n w i) k) → zW X 13 73 [(0, .ref 1), (1, .int w), (2, .int (nI i)), (3, .int (pul S n i w)), (4, .int t2), (5, .int m2)] [] M2 N0 (fun v M' N' => v = none ∧ N' = N0 ∧ Fr [9] M M' ∧ ∀ k, k < 12 → M' 9 k = Str S n w k) := by
        intro M2 t2 m2 hf2 h2
        refine zinc rfl rfl rfl ?_
        refine zs rfl rfl rfl ?_
        exact ih (i + 1) M2 _ (by omega) (Or.inr ⟨_, _, _, rfl⟩) hf2 h2
      rcases htl with rfl | ⟨a, b, c, rfl⟩
      · refine zs rfl rfl rfl ?_
        refine zs rfl rfl rfl ?_
        refine zs rfl rfl rfl ?_
        refine zbf (c := M1 1 8 ≤ nI i) (by rw [hv1.s0, hn]; exact nI_ge (by omega) (by omega)) rfl rfl rfl ?_
        refine zs rfl rfl rfl ?_
        refine zs rfl rfl rfl ?_
        refine zs rfl rfl rfl ?_
        refine zcl rfl rfl (c_pullOf_h hv1 hn h12 hk (show i < n by omega) w) ?_
        refine zs rfl rfl rfl ?_
        refine zs rfl rfl rfl ?_
        refine zs rfl rfl rfl ?_
        refine zs rfl rfl rfl ?_
        refine zs rfl rfl rfl ?_
        exact inner i _ _ 12 0 (nI i) _ M1 rfl hf h1 step
      · refine zs rfl rfl rfl ?_
        refine zs rfl rfl rfl ?_
        refine zs rfl rfl rfl ?_
        refine zbf (c := M1 1 8 ≤ nI i) (by rw [hv1.s0, hn]; exact nI_ge (by omega) (by omega)) rfl rfl rfl ?_
        refine zs rfl rfl rfl ?_
        refine zs rfl rfl rfl ?_
        refine zs rfl rfl rfl ?_
        refine zcl rfl rfl (c_pullOf_h hv1 hn h12 hk (show i < n by omega) w) ?_
        refine zs rfl rfl rfl ?_
        refine zs rfl rfl rfl ?_
        refine zs rfl rfl rfl ?_
        refine zs rfl rfl rfl ?_
        refine zs rfl rfl rfl ?_
        exact inner i _ _ 12 0 (nI i) _ M1 rfl hf h1 step
  exact outer n 0 M0 [] (Nat.zero_add n) (Or.inl rfl) hf0 h00
theorem c_loadOf_h (hn : M 1 8 = nI n) (h12 : n ≤ 12) (hl : ∀ k, k < 12 → M 8 k = lk S k) (hT : ∀ k, k < 12 → M 9 k = T k) {a : Nat} : zE1 X 14 [.ref 1, .int (nI a)] M N (some (.int (loa S n T (nI (100 + a))))) M N := by
  refine zE1i [(0, .ref 1), (1, .int (nI a))] rfl ?_
  refine zs rfl rfl rfl ?_
  refine zs rfl rfl rfl ?_
  refine zs rfl rfl rfl ?_
  refine zs rfl rfl rfl ?_
  have loop : ∀ d i, i + d = n → zW X 14 4 [(0, .ref 1), (1, .int (nI a)), (2, .int (csum i (fun k => decide (lk S k = nI (100 + a))) T)), (3, .int (nI i))] [] M N (fun v1 M1 N1 => v1 = some (.int (loa S n T (nI (100 + a)))) ∧ M1 = M ∧ N1 = N) := by
    intro d
    induction d with
    | zero =>
      intro i hi
      obtain rfl : i = n := by omega
      refine zs rfl rfl rfl ?_
      refine zs rfl rfl rfl ?_
      refine zs rfl rfl rfl ?_
      refine zbt (c := M 1 8 ≤ nI i) (by rw [hn]; exact nI_le (by omega) (by omega)) rfl rfl rfl ?_
      repeat (refine zs rfl rfl rfl ?_)
      exact zret rfl rfl ⟨rfl, rfl, rfl⟩
    | succ d ih =>
      intro i hi
      have ih' := ih (i + 1) (by omega)
      refine zs rfl rfl rfl ?_
      refine zs rfl rfl rfl ?_
      refine zs rfl rfl rfl ?_
      refine zbf (c := M 1 8 ≤ nI i) (by rw [hn]; exact nI_ge (by omega) (by omega)) rfl rfl rfl ?_
      refine zs rfl rfl rfl ?_
      refine zs rfl rfl rfl ?_
      refine zs rfl rfl rfl ?_
      refine zald rfl rfl (show i < 12 by omega) (by decide) ?_
      refine ztop (hl i (by omega)) ?_
      refine zs rfl rfl rfl ?_
      refine zs rfl rfl rfl ?_
      refine zs rfl rfl rfl ?_
      refine ztop (nI_add 100 a) ?_
      refine zbr rfl rfl rfl (fun hc => ?_) (fun hc => ?_)
      · rw [csum_f (decide_eq_false hc)] at ih'
        refine zinc rfl rfl rfl ?_
        refine zs rfl rfl rfl ?_
        exact ih'
      · rw [csum_t (decide_eq_true (Decidable.not_not.mp hc))] at ih'
        refine zs rfl rfl rfl ?_
        refine zs rfl rfl rfl ?_
        refine zs rfl rfl rfl ?_
        refine zs rfl rfl rfl ?_
        refine zald rfl rfl (show i < 12 by omega) (by decide) ?_
        refine ztop (hT i (by omega)) ?_
        refine zs rfl rfl rfl ?_
        refine zs rfl rfl rfl ?_
        refine zinc rfl rfl rfl ?_
        refine zs rfl rfl rfl ?_
        exact ih'
  exact loop n 0 (Nat.zero_add n)
theorem c_breaksAt_h (hv : Vw M 1 S) {k : Nat} (hk : k < 12) : zE1 X 17 [.ref 1, .int (nI k)] M N (some (.int (brk S k))) M N := by
  refine zE1i [(0, .ref 1), (1, .int (nI k))] rfl ?_
  refine zs rfl rfl rfl ?_
  refine zs rfl rfl rfl ?_
  refine zs rfl rfl rfl ?_
  refine zs rfl rfl rfl ?_
  refine zald rfl rfl hk (by decide) ?_
  refine ztop (hv.fc k hk) ?_
  refine zs rfl rfl rfl ?_
  refine zs rfl rfl rfl ?_
  refine zs rfl rfl rfl ?_
  refine zald rfl rfl hk (by decide) ?_
  refine ztop (hv.fw k hk) ?_
  refine zs rfl rfl rfl ?_
  refine zs rfl rfl rfl ?_
  refine zs rfl rfl rfl ?_
  refine zs rfl rfl rfl ?_
  refine zs rfl rfl rfl ?_
  refine zs rfl rfl rfl ?_
  refine zald rfl rfl hk (by decide) ?_
  refine ztop (hv.fk k hk) ?_
  unfold brk
  refine zs rfl rfl rfl ?_
  refine zbr rfl rfl rfl (fun hc => ?_) (fun hc => ?_)
  · rw [decide_eq_false hc]
    repeat (refine zs rfl rfl rfl ?_)
    exact zret rfl rfl ⟨rfl, rfl, rfl⟩
  · rw [decide_eq_true (Decidable.not_not.mp hc)]
    repeat (refine zs rfl rfl rfl ?_)
    exact zret rfl rfl ⟨rfl, rfl, rfl⟩
theorem c_firstToPart_h (hv : Vw M 1 S) (hn : S 0 = nI n) (h12 : n ≤ 12) (hT : ∀ k, k < 12 → M 9 k = T k) : zE1 X 18 [.ref 1] M N (some (.int (fpt S n T))) M N := by
  refine zE1i [(0, .ref 1)] rfl ?_
  refine zs rfl rfl rfl ?_
  refine zs rfl rfl rfl ?_
  have loop : ∀ d i, i + d = n → zW X 18 2 [(0, .ref 1), (1, .int (nI i))] [] M N (fun v1 M1 N1 => v1 = some (.int (fst1 (prt S T) d i)) ∧ M1 = M ∧ N1 = N) := by
    intro d
    induction d with
    | zero =>
      intro i hi
      obtain rfl : i = n := by omega
      refine zs rfl rfl rfl ?_
      refine zs rfl rfl rfl ?_
      refine zs rfl rfl rfl ?_
      refine zbt (c := M 1 8 ≤ nI i) (by rw [hv.s0, hn]; exact nI_le (by omega) (by omega)) rfl rfl rfl ?_
      repeat (refine zs rfl rfl rfl ?_)
      exact zret rfl rfl ⟨rfl, rfl, rfl⟩
    | succ d ih =>
      intro i hi
      have ih' := ih (i + 1) (by omega)
      unfold fst1
      refine zs rfl rfl rfl ?_
      refine zs rfl rfl rfl ?_
      refine zs rfl rfl rfl ?_
      refine zbf (c := M 1 8 ≤ nI i) (by rw [hv.s0, hn]; exact nI_ge (by omega) (by omega)) rfl rfl rfl ?_
      refine zs rfl rfl rfl ?_
      refine zs rfl rfl rfl ?_
      refine zs rfl rfl rfl ?_
      refine zald rfl rfl (show i < 12 by omega) (by decide) ?_
      refine ztop (hv.fl i (by omega)) ?_
      refine zs rfl rfl rfl ?_
      refine zbr rfl rfl rfl (fun hc => ?_) (fun hc => ?_)
      · rw [show prt S T i = false by unfold prt; rw [decide_eq_false (not_not_intro hc)]; rfl]
        refine zinc rfl rfl rfl ?_
        refine zs rfl rfl rfl ?_
        exact ih'
      · refine zs rfl rfl rfl ?_
        refine zs rfl rfl rfl ?_
        refine zs rfl rfl rfl ?_
        refine zald rfl rfl (show i < 12 by omega) (by decide) ?_
        refine ztop (hT i (by omega)) ?_
        refine zs rfl rfl rfl ?_
        refine zs rfl rfl rfl ?_
        refine zcl rfl rfl (c_breaksAt_h hv (show i < 12 by omega)) ?_
        refine zbr rfl rfl rfl (fun hb => ?_) (fun hb => ?_)
        · rw [show prt S T i = false by unfold prt; rw [decide_eq_false (i_nlt.mpr hb), Bool.and_false]]
          refine zinc rfl rfl rfl ?_
          refine zs rfl rfl rfl ?_
          exact ih'
        · rw [show prt S T i = true by unfold prt; rw [decide_eq_true (i_nle.mp hb), decide_eq_true hc]; rfl]
          repeat (refine zs rfl rfl rfl ?_)
          exact zret rfl rfl ⟨rfl, rfl, rfl⟩
  exact loop n 0 (Nat.zero_add n)
theorem c_isDragging_h (hv : Vw M 1 S) (hn : S 0 = nI n) (h12 : n ≤ 12) (hT : ∀ k, k < 12 → M 9 k = T k) {a : Nat} (ha : a < 6) : zE1 X 19 [.ref 1, .int (nI a)] M N (some (.int (bI (decide (S (3 + a) < loa S n T (nI (100 + a))))))) M N := by
  refine zE1i [(0, .ref 1), (1, .int (nI a))] rfl ?_
  refine zs rfl rfl rfl ?_
  refine zs rfl rfl rfl ?_
  refine zcl rfl rfl (c_loadOf_h (hv.s0.trans hn) h12 hv.fl hT) ?_
  refine zs rfl rfl rfl ?_
  refine zs rfl rfl rfl ?_
  refine zs rfl rfl rfl ?_
  refine zald rfl rfl ha (by decide) ?_
  refine ztop (hv.ho a ha) ?_
  refine zbr rfl rfl rfl (fun hb => ?_) (fun hb => ?_)
  · rw [decide_eq_false (i_nlt.mpr hb)]
    repeat (refine zs rfl rfl rfl ?_)
    exact zret rfl rfl ⟨rfl, rfl, rfl⟩
  · rw [decide_eq_true (i_nle.mp hb)]
    repeat (refine zs rfl rfl rfl ?_)
    exact zret rfl rfl ⟨rfl, rfl, rfl⟩
theorem c_fill_t : zV X 230 [.ref 27, .int 0] M N (fun v M' N' => v = none ∧ N' = N ∧ Fr [27] M M' ∧ ∀ k, k < 12 → M' 27 k = 0) := by
  refine zVi [(0, .ref 27), (1, .int 0)] rfl ?_
  refine zs rfl rfl rfl ?_
  refine zs rfl rfl rfl ?_
  refine zs rfl rfl rfl ?_
  refine zs rfl rfl rfl ?_
  refine zs rfl rfl rfl ?_
  have loop : ∀ d i M1, i + d = 12 → Fr [27] M M1 → (∀ k, k < i → M1 27 k = 0) → zW X 230 5 [(0, .ref 27), (1, .int 0), (2, .int (nI i)), (3, .int 12)] [] M1 N (fun v M' N' => v = none ∧ N' = N ∧ Fr [27] M M' ∧ ∀ k, k < 12 → M' 27 k = 0) := by
    intro d
    induction d with
    | zero =>
      intro i M1 hi hf h0
      obtain rfl : i = 12 := by omega
      repeat (refine zs rfl rfl rfl ?_)
      exact zret rfl rfl ⟨rfl, rfl, hf, h0⟩
    | succ d ih =>
      intro i M1 hi hf h0
      refine zs rfl rfl rfl ?_
      refine zs rfl rfl rfl ?_
      refine zbf (c := 12 ≤ nI i) (nI_ge (b := 12) (by omega) (by omega)) rfl rfl rfl ?_
      refine zs rfl rfl rfl ?_
      refine zs rfl rfl rfl ?_
      refine zs rfl rfl rfl ?_
      refine zast rfl rfl rfl (show i < 12 by omega) (by decide) ?_
      refine zinc rfl rfl rfl ?_
      refine zs rfl rfl rfl ?_
      refine ih (i + 1) _ (by omega) (hf.trans (Fr.up (by decide))) (fun k hk => ?_)
      rw [z_up_a]
      by_cases hki : k = i
      · rw [if_pos hki]
      · rw [if_neg hki]
        exact h0 k (by omega)
  exact loop 12 0 M rfl Fr.rfl' (fun k hk => absurd hk (Nat.not_lt_zero k))
theorem c_fillStrains_t (hv : Vw M 19 S) (hn : S 0 = nI n) (h12 : n ≤ 12) (hk : Kok S n) (w : Int32) : zV X 13 [.ref 19, .int w] M N (fun v M' N' => v = none ∧ N' = N ∧ Fr [27] M M' ∧ ∀ k, k < 12 → M' 27 k = Str S n w k) := by
  refine zVi [(0, .ref 19), (1, .int w)] rfl ?_
  refine zs rfl rfl rfl ?_
  refine zs rfl rfl rfl ?_
  refine zs rfl rfl rfl ?_
  refine zclQ rfl rfl c_fill_t ?_
  rintro v0 M0 N0 ⟨rfl, rfl, hf0, h00⟩
  refine zs rfl rfl rfl ?_
  refine zs rfl rfl rfl ?_
  have inner : ∀ (i : Nat) (p : Int32) (Q : Option Value → zM → zN → Prop) (d m : Nat) (t : Int32) (T : zS) (M1 : zM), m + d = 12 → Fr [27] M M1 → (∀ k, k < 12 → M1 27 k = T k) →
      (∀ M2 t2 m2, Fr [27] M M2 → (∀ k, k < 12 → M2 27 k = sad S n p d t T k) → zW X 13 73 [(0, .ref 19), (1, .int w), (2, .int (nI i)), (3, .int p), (4, .int t2), (5, .int m2)] [] M2 N0 Q) →
      zW X 13 31 [(0, .ref 19), (1, .int w), (2, .int (nI i)), (3, .int p), (4, .int t), (5, .int (nI m))] [] M1 N0 Q := by
    intro i p Q d
    induction d with
    | zero =>
      intro m t T M1 hm hf h1 kk
      obtain rfl : m = 12 := by omega
      refine zs rfl rfl rfl ?_
      refine zs rfl rfl rfl ?_
      refine zs rfl rfl rfl ?_
      exact kk M1 _ _ hf h1
    | succ d ih =>
      intro m t T M1 hm hf h1 kk
      have hv1 : Vw M1 19 S := hv.fr hf (by decide)
      refine zs rfl rfl rfl ?_
      refine zs rfl rfl rfl ?_
      refine zbf (c := 12 ≤ nI m) (nI_ge (b := 12) (by omega) (by omega)) rfl rfl rfl ?_
      refine zs rfl rfl rfl ?_
      refine zs rfl rfl rfl ?_
      refine zcl rfl rfl (c_hasShip_t (hv1.s0.trans hn) t) ?_
      unfold sad at kk
      cases hs : shp n t with
      | false =>
        rw [hs] at kk
        refine zs rfl rfl rfl ?_
        exact kk M1 _ _ hf h1
      | true =>
        rw [hs] at kk
        obtain ⟨j, hj, rfl⟩ := shp_of h12 hs
        rw [nI_clamp (by omega)] at kk
        refine zs rfl rfl rfl ?_
        refine zs rfl rfl rfl ?_
        refine zs rfl rfl rfl ?_
        refine zs rfl rfl rfl ?_
        refine zs rfl rfl rfl ?_
        refine zald rfl rfl (show j < 12 by omega) (by decide) ?_
        refine ztop (h1 j (by omega)) ?_
        refine zs rfl rfl rfl ?_
        refine zs rfl rfl rfl ?_
        refine zast rfl rfl rfl (show j < 12 by omega) (by decide) ?_
        refine zs rfl rfl rfl ?_
        refine zs rfl rfl rfl ?_
        refine zs rfl rfl rfl ?_
        refine zald rfl rfl (show j < 12 by omega) (by decide) ?_
        refine ztop (hv1.fl j (by omega)) ?_
        refine zs rfl rfl rfl ?_
        refine zinc rfl rfl rfl ?_
        refine zs rfl rfl rfl ?_
        refine ih (m + 1) _ (upd T j (T j + p)) _ (by omega) (hf.trans (Fr.up (by decide))) (fun k hk2 => ?_) kk
        rw [z_up_a]
        show _ = if k = j then T j + p else T k
        by_cases hki : k = j
        · rw [if_pos hki, if_pos hki]
        · rw [if_neg hki, if_neg hki]
          exact h1 k hk2
  have outer : ∀ d i M1 tl, i + d = n → (tl = [] ∨ ∃ a b c : Int32, tl = [(3, Value.int a), (4, Value.int b), (5, Value.int c)]) → Fr [27] M M1 → (∀ k, k < 12 → M1 27 k = Sti S n w i k) → zW X 13 10 ((0, .ref 19) :: (1, .int w) :: (2, .int (nI i)) :: tl) [] M1 N0 (fun v M' N' => v = none ∧ N' = N0 ∧ Fr [27] M M' ∧ ∀ k, k < 12 → M' 27 k = Str S n w k) := by
    intro d
    induction d with
    | zero =>
      intro i M1 tl hi htl hf h1
      obtain rfl : i = n := by omega
      have hv1 : Vw M1 19 S := hv.fr hf (by decide)
      rcases htl with rfl | ⟨a, b, c, rfl⟩
      · refine zs rfl rfl rfl ?_
        refine zs rfl rfl rfl ?_
        refine zs rfl rfl rfl ?_
        refine zbt (c := M1 19 8 ≤ nI i) (by rw [hv1.s0, hn]; exact nI_le (by omega) (by omega)) rfl rfl rfl ?_
        exact zret rfl rfl ⟨rfl, rfl, hf, h1⟩
      · refine zs rfl rfl rfl ?_
        refine zs rfl rfl rfl ?_
        refine zs rfl rfl rfl ?_
        refine zbt (c := M1 19 8 ≤ nI i) (by rw [hv1.s0, hn]; exact nI_le (by omega) (by omega)) rfl rfl rfl ?_
        exact zret rfl rfl ⟨rfl, rfl, hf, h1⟩
    | succ d ih =>
      intro i M1 tl hi htl hf h1
      have hv1 : Vw M1 19 S := hv.fr hf (by decide)
      have step : ∀ M2 t2 m2, Fr [27] M M2 → (∀ k, k < 12 → M2 27 k = sad S n (pul S n i w) 12 (nI i) (Sti S n w i) k) → zW X 13 73 [(0, .ref 19), (1, .int w), (2, .int (nI i)), (3, .int (pul S n i w)), (4, .int t2), (5, .int m2)] [] M2 N0 (fun v M' N' => v = none ∧ N' = N0 ∧ Fr [27] M M' ∧ ∀ k, k < 12 → M' 27 k = Str S n w k) := by
        intro M2 t2 m2 hf2 h2
        refine zinc rfl rfl rfl ?_
        refine zs rfl rfl rfl ?_
        exact ih (i + 1) M2 _ (by omega) (Or.inr ⟨_, _, _, rfl⟩) hf2 h2
      rcases htl with rfl | ⟨a, b, c, rfl⟩
      · refine zs rfl rfl rfl ?_
        refine zs rfl rfl rfl ?_
        refine zs rfl rfl rfl ?_
        refine zbf (c := M1 19 8 ≤ nI i) (by rw [hv1.s0, hn]; exact nI_ge (by omega) (by omega)) rfl rfl rfl ?_
        refine zs rfl rfl rfl ?_
        refine zs rfl rfl rfl ?_
        refine zs rfl rfl rfl ?_
        refine zcl rfl rfl (c_pullOf_t hv1 hn h12 hk (show i < n by omega) w) ?_
        refine zs rfl rfl rfl ?_
        refine zs rfl rfl rfl ?_
        refine zs rfl rfl rfl ?_
        refine zs rfl rfl rfl ?_
        refine zs rfl rfl rfl ?_
        exact inner i _ _ 12 0 (nI i) _ M1 rfl hf h1 step
      · refine zs rfl rfl rfl ?_
        refine zs rfl rfl rfl ?_
        refine zs rfl rfl rfl ?_
        refine zbf (c := M1 19 8 ≤ nI i) (by rw [hv1.s0, hn]; exact nI_ge (by omega) (by omega)) rfl rfl rfl ?_
        refine zs rfl rfl rfl ?_
        refine zs rfl rfl rfl ?_
        refine zs rfl rfl rfl ?_
        refine zcl rfl rfl (c_pullOf_t hv1 hn h12 hk (show i < n by omega) w) ?_
        refine zs rfl rfl rfl ?_
        refine zs rfl rfl rfl ?_
        refine zs rfl rfl rfl ?_
        refine zs rfl rfl rfl ?_
        refine zs rfl rfl rfl ?_
        exact inner i _ _ 12 0 (nI i) _ M1 rfl hf h1 step
  exact outer n 0 M0 [] (Nat.zero_add n) (Or.inl rfl) hf0 h00
theorem c_loadOf_t (hn : M 19 8 = nI n) (h12 : n ≤ 12) (hl : ∀ k, k < 12 → M 26 k = lk S k) (hT : ∀ k, k < 12 → M 27 k = T k) {a : Nat} : zE1 X 14 [.ref 19, .int (nI a)] M N (some (.int (loa S n T (nI (100 + a))))) M N := by
  refine zE1i [(0, .ref 19), (1, .int (nI a))] rfl ?_
  refine zs rfl rfl rfl ?_
  refine zs rfl rfl rfl ?_
  refine zs rfl rfl rfl ?_
  refine zs rfl rfl rfl ?_
  have loop : ∀ d i, i + d = n → zW X 14 4 [(0, .ref 19), (1, .int (nI a)), (2, .int (csum i (fun k => decide (lk S k = nI (100 + a))) T)), (3, .int (nI i))] [] M N (fun v1 M1 N1 => v1 = some (.int (loa S n T (nI (100 + a)))) ∧ M1 = M ∧ N1 = N) := by
    intro d
    induction d with
    | zero =>
      intro i hi
      obtain rfl : i = n := by omega
      refine zs rfl rfl rfl ?_
      refine zs rfl rfl rfl ?_
      refine zs rfl rfl rfl ?_
      refine zbt (c := M 19 8 ≤ nI i) (by rw [hn]; exact nI_le (by omega) (by omega)) rfl rfl rfl ?_
      repeat (refine zs rfl rfl rfl ?_)
      exact zret rfl rfl ⟨rfl, rfl, rfl⟩
    | succ d ih =>
      intro i hi
      have ih' := ih (i + 1) (by omega)
      refine zs rfl rfl rfl ?_
      refine zs rfl rfl rfl ?_
      refine zs rfl rfl rfl ?_
      refine zbf (c := M 19 8 ≤ nI i) (by rw [hn]; exact nI_ge (by omega) (by omega)) rfl rfl rfl ?_
      refine zs rfl rfl rfl ?_
      refine zs rfl rfl rfl ?_
      refine zs rfl rfl rfl ?_
      refine zald rfl rfl (show i < 12 by omega) (by decide) ?_
      refine ztop (hl i (by omega)) ?_
      refine zs rfl rfl rfl ?_
      refine zs rfl rfl rfl ?_
      refine zs rfl rfl rfl ?_
      refine ztop (nI_add 100 a) ?_
      refine zbr rfl rfl rfl (fun hc => ?_) (fun hc => ?_)
      · rw [csum_f (decide_eq_false hc)] at ih'
        refine zinc rfl rfl rfl ?_
        refine zs rfl rfl rfl ?_
        exact ih'
      · rw [csum_t (decide_eq_true (Decidable.not_not.mp hc))] at ih'
        refine zs rfl rfl rfl ?_
        refine zs rfl rfl rfl ?_
        refine zs rfl rfl rfl ?_
        refine zs rfl rfl rfl ?_
        refine zald rfl rfl (show i < 12 by omega) (by decide) ?_
        refine ztop (hT i (by omega)) ?_
        refine zs rfl rfl rfl ?_
        refine zs rfl rfl rfl ?_
        refine zinc rfl rfl rfl ?_
        refine zs rfl rfl rfl ?_
        exact ih'
  exact loop n 0 (Nat.zero_add n)
theorem c_breaksAt_t (hv : Vw M 19 S) {k : Nat} (hk : k < 12) : zE1 X 17 [.ref 19, .int (nI k)] M N (some (.int (brk S k))) M N := by
  refine zE1i [(0, .ref 19), (1, .int (nI k))] rfl ?_
  refine zs rfl rfl rfl ?_
  refine zs rfl rfl rfl ?_
  refine zs rfl rfl rfl ?_
  refine zs rfl rfl rfl ?_
  refine zald rfl rfl hk (by decide) ?_
  refine ztop (hv.fc k hk) ?_
  refine zs rfl rfl rfl ?_
  refine zs rfl rfl rfl ?_
  refine zs rfl rfl rfl ?_
  refine zald rfl rfl hk (by decide) ?_
  refine ztop (hv.fw k hk) ?_
  refine zs rfl rfl rfl ?_
  refine zs rfl rfl rfl ?_
  refine zs rfl rfl rfl ?_
  refine zs rfl rfl rfl ?_
  refine zs rfl rfl rfl ?_
  refine zs rfl rfl rfl ?_
  refine zald rfl rfl hk (by decide) ?_
  refine ztop (hv.fk k hk) ?_
  unfold brk
  refine zs rfl rfl rfl ?_
  refine zbr rfl rfl rfl (fun hc => ?_) (fun hc => ?_)
  · rw [decide_eq_false hc]
    repeat (refine zs rfl rfl rfl ?_)
    exact zret rfl rfl ⟨rfl, rfl, rfl⟩
  · rw [decide_eq_true (Decidable.not_not.mp hc)]
    repeat (refine zs rfl rfl rfl ?_)
    exact zret rfl rfl ⟨rfl, rfl, rfl⟩
theorem c_firstToPart_t (hv : Vw M 19 S) (hn : S 0 = nI n) (h12 : n ≤ 12) (hT : ∀ k, k < 12 → M 27 k = T k) : zE1 X 18 [.ref 19] M N (some (.int (fpt S n T))) M N := by
  refine zE1i [(0, .ref 19)] rfl ?_
  refine zs rfl rfl rfl ?_
  refine zs rfl rfl rfl ?_
  have loop : ∀ d i, i + d = n → zW X 18 2 [(0, .ref 19), (1, .int (nI i))] [] M N (fun v1 M1 N1 => v1 = some (.int (fst1 (prt S T) d i)) ∧ M1 = M ∧ N1 = N) := by
    intro d
    induction d with
    | zero =>
      intro i hi
      obtain rfl : i = n := by omega
      refine zs rfl rfl rfl ?_
      refine zs rfl rfl rfl ?_
      refine zs rfl rfl rfl ?_
      refine zbt (c := M 19 8 ≤ nI i) (by rw [hv.s0, hn]; exact nI_le (by omega) (by omega)) rfl rfl rfl ?_
      repeat (refine zs rfl rfl rfl ?_)
      exact zret rfl rfl ⟨rfl, rfl, rfl⟩
    | succ d ih =>
      intro i hi
      have ih' := ih (i + 1) (by omega)
      unfold fst1
      refine zs rfl rfl rfl ?_
      refine zs rfl rfl rfl ?_
      refine zs rfl rfl rfl ?_
      refine zbf (c := M 19 8 ≤ nI i) (by rw [hv.s0, hn]; exact nI_ge (by omega) (by omega)) rfl rfl rfl ?_
      refine zs rfl rfl rfl ?_
      refine zs rfl rfl rfl ?_
      refine zs rfl rfl rfl ?_
      refine zald rfl rfl (show i < 12 by omega) (by decide) ?_
      refine ztop (hv.fl i (by omega)) ?_
      refine zs rfl rfl rfl ?_
      refine zbr rfl rfl rfl (fun hc => ?_) (fun hc => ?_)
      · rw [show prt S T i = false by unfold prt; rw [decide_eq_false (not_not_intro hc)]; rfl]
        refine zinc rfl rfl rfl ?_
        refine zs rfl rfl rfl ?_
        exact ih'
      · refine zs rfl rfl rfl ?_
        refine zs rfl rfl rfl ?_
        refine zs rfl rfl rfl ?_
        refine zald rfl rfl (show i < 12 by omega) (by decide) ?_
        refine ztop (hT i (by omega)) ?_
        refine zs rfl rfl rfl ?_
        refine zs rfl rfl rfl ?_
        refine zcl rfl rfl (c_breaksAt_t hv (show i < 12 by omega)) ?_
        refine zbr rfl rfl rfl (fun hb => ?_) (fun hb => ?_)
        · rw [show prt S T i = false by unfold prt; rw [decide_eq_false (i_nlt.mpr hb), Bool.and_false]]
          refine zinc rfl rfl rfl ?_
          refine zs rfl rfl rfl ?_
          exact ih'
        · rw [show prt S T i = true by unfold prt; rw [decide_eq_true (i_nle.mp hb), decide_eq_true hc]; rfl]
          repeat (refine zs rfl rfl rfl ?_)
          exact zret rfl rfl ⟨rfl, rfl, rfl⟩
  exact loop n 0 (Nat.zero_add n)
theorem c_isDragging_t (hv : Vw M 19 S) (hn : S 0 = nI n) (h12 : n ≤ 12) (hT : ∀ k, k < 12 → M 27 k = T k) {a : Nat} (ha : a < 6) : zE1 X 19 [.ref 19, .int (nI a)] M N (some (.int (bI (decide (S (3 + a) < loa S n T (nI (100 + a))))))) M N := by
  refine zE1i [(0, .ref 19), (1, .int (nI a))] rfl ?_
  refine zs rfl rfl rfl ?_
  refine zs rfl rfl rfl ?_
  refine zcl rfl rfl (c_loadOf_t (hv.s0.trans hn) h12 hv.fl hT) ?_
  refine zs rfl rfl rfl ?_
  refine zs rfl rfl rfl ?_
  refine zs rfl rfl rfl ?_
  refine zald rfl rfl ha (by decide) ?_
  refine ztop (hv.ho a ha) ?_
  refine zbr rfl rfl rfl (fun hb => ?_) (fun hb => ?_)
  · rw [decide_eq_false (i_nlt.mpr hb)]
    repeat (refine zs rfl rfl rfl ?_)
    exact zret rfl rfl ⟨rfl, rfl, rfl⟩
  · rw [decide_eq_true (i_nle.mp hb)]
    repeat (refine zs rfl rfl rfl ?_)
    exact zret rfl rfl ⟨rfl, rfl, rfl⟩
end CLS3
