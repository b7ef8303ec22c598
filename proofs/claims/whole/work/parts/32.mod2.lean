/-! The model's methods: pulls, strains, settling. -/
section MOD2
variable {X : Nat × (Nat → Int32)} {M M2 : zM} {N : zN} {S T : zS} {n : Nat}
theorem Rw.n0 (h : Rw M 45 S) (hB : Bas S n) : M 45 0 = nI n := (h 0 (by decide)).trans hB.s0
theorem m_pullOf (hr : Rw M 45 S) (hB : Bas S n) {k : Nat} (hk : k < n) (w : Int32) : zE1 X 131 [.ref 44, .int (nI k), .int w] M N (some (.int (pul S n k w))) M N := by
  refine zE1i [(0, .ref 44), (1, .int (nI k)), (2, .int w)] rfl ?_
  have hle := hB.le
  obtain ⟨c, hc, hkc⟩ := hB.k k hk
  refine zs rfl rfl rfl ?_
  refine zs rfl rfl rfl ?_
  refine zs rfl rfl rfl ?_
  refine zcl rfl rfl (m_is1 hr (show k < 12 by omega)) ?_
  refine zs rfl rfl rfl ?_
  refine zs rfl rfl rfl ?_
  refine zs rfl rfl rfl ?_
  refine zs rfl rfl rfl ?_
  refine zs rfl rfl rfl ?_
  refine zs rfl rfl rfl ?_
  refine zs rfl rfl rfl ?_
  refine zs rfl rfl rfl ?_
  refine zcl rfl rfl (m_is0 hr (show k < 12 by omega)) ?_
  have h6 : c = 0 ∨ c = 1 ∨ c = 2 ∨ c = 3 ∨ c = 4 ∨ c = 5 := by omega
  unfold pul
  rw [hkc]
  rcases h6 with rfl | rfl | rfl | rfl | rfl | rfl
  · refine zs rfl rfl rfl ?_
    refine zs rfl rfl rfl ?_
    exact zret rfl rfl ⟨rfl, rfl, rfl⟩
  · refine zs rfl rfl rfl ?_
    refine zs rfl rfl rfl ?_
    refine zs rfl rfl rfl ?_
    refine zs rfl rfl rfl ?_
    refine zs rfl rfl rfl ?_
    refine zs rfl rfl rfl ?_
    exact zret rfl rfl ⟨rfl, rfl, rfl⟩
  · refine zs rfl rfl rfl ?_
    refine zs rfl rfl rfl ?_
    refine zs rfl rfl rfl ?_
    refine zs rfl rfl rfl ?_
    exact zret rfl rfl ⟨rfl, rfl, rfl⟩
  · refine zs rfl rfl rfl ?_
    refine zs rfl rfl rfl ?_
    refine zs rfl rfl rfl ?_
    refine zs rfl rfl rfl ?_
    exact zret rfl rfl ⟨rfl, rfl, rfl⟩
  · refine zs rfl rfl rfl ?_
    refine zs rfl rfl rfl ?_
    refine zs rfl rfl rfl ?_
    refine zs rfl rfl rfl ?_
    refine zs rfl rfl rfl ?_
    refine zs rfl rfl rfl ?_
    refine zs rfl rfl rfl ?_
    refine zs rfl rfl rfl ?_
    refine zs rfl rfl rfl ?_
    refine zcl rfl rfl (m_on hr hB.s0 hle (nI k)) ?_
    refine zcl rfl rfl (m_manyIn (hg_lt hle _)) ?_
    refine zs rfl rfl rfl ?_
    refine zs rfl rfl rfl ?_
    exact zret rfl rfl ⟨rfl, rfl, rfl⟩
  · refine zs rfl rfl rfl ?_
    refine zs rfl rfl rfl ?_
    refine zs rfl rfl rfl ?_
    refine zbr rfl rfl rfl (fun hw => ?_) (fun hw => ?_)
    · refine zs rfl rfl rfl ?_
      refine zs rfl rfl rfl ?_
      refine zs rfl rfl rfl ?_
      refine zret rfl rfl ⟨?_, rfl, rfl⟩
      show _ = some (Value.int (if w < 4 then 0 else _))
      rw [if_neg (i_nlt.mpr hw)]
    · refine zs rfl rfl rfl ?_
      refine zs rfl rfl rfl ?_
      refine zret rfl rfl ⟨?_, rfl, rfl⟩
      show _ = some (Value.int (if w < 4 then 0 else _))
      rw [if_pos (i_nle.mp hw)]
theorem m_findStrains (hr : Rw M 45 S) (hB : Bas S n) (w : Int32) : zV X 132 [.ref 44, .int w] M N (fun v M' N' => v = none ∧ N' = N ∧ Fr [55] M M' ∧ ∀ k, k < n → M' 55 k = Str S n w k) := by
  refine zVi [(0, .ref 44), (1, .int w)] rfl ?_
  have hle := hB.le
  refine zs rfl rfl rfl ?_
  refine zs rfl rfl rfl ?_
  have outer : ∀ d i M1 tl, i + d = n → (tl = [] ∨ ∃ a b : Int32, tl = [(3, Value.int a), (4, Value.int b)]) → Fr [55] M M1 → (∀ k, k < n → M1 55 k = Sti S n w i k) → zW X 132 27 ((0, .ref 44) :: (1, .int w) :: (2, .int (nI i)) :: tl) [] M1 N (fun v M' N' => v = none ∧ N' = N ∧ Fr [55] M M' ∧ ∀ k, k < n → M' 55 k = Str S n w k) := by
    intro d
    induction d with
    | zero =>
      intro i M1 tl hi htl hf h1
      obtain rfl : i = n := by omega
      have hn0 : M1 45 0 = nI i := (hr.fr hf (by decide)).n0 hB
      rcases htl with rfl | ⟨a, b, rfl⟩
      · refine zs rfl rfl rfl ?_
        refine zs rfl rfl rfl ?_
        refine zs rfl rfl rfl ?_
        refine zs rfl rfl rfl ?_
        refine zal (i := 0) rfl rfl rfl (by decide) (by decide) ?_
        try refine zto rfl hn0 ?_
        refine zbt (nI_le (by omega) (by omega)) rfl rfl rfl ?_
        exact zret rfl rfl ⟨rfl, rfl, hf, h1⟩
      · refine zs rfl rfl rfl ?_
        refine zs rfl rfl rfl ?_
        refine zs rfl rfl rfl ?_
        refine zs rfl rfl rfl ?_
        refine zal (i := 0) rfl rfl rfl (by decide) (by decide) ?_
        try refine zto rfl hn0 ?_
        refine zbt (nI_le (by omega) (by omega)) rfl rfl rfl ?_
        exact zret rfl rfl ⟨rfl, rfl, hf, h1⟩
    | succ d ih =>
      intro i M1 tl hi htl hf h1
      have hr1 := hr.fr hf (by decide)
      have hn0 : M1 45 0 = nI n := hr1.n0 hB
      have inner : ∀ (f : Nat) (t : Int32) (T : zS) (M2 : zM), Th n t → shp n (rt S n f t) = false → Fr [55] M M2 → (∀ k, k < n → M2 55 k = T k) → (∀ k, k < n → sad S n (pul S n i w) f t T k = Sti S n w (i + 1) k) → zW X 132 47 [(0, .ref 44), (1, .int w), (2, .int (nI i)), (3, .int (pul S n i w)), (4, .int t)] [] M2 N (fun v M' N' => v = none ∧ N' = N ∧ Fr [55] M M' ∧ ∀ k, k < n → M' 55 k = Str S n w k) := by
        have fin : ∀ (t : Int32) (M2 : zM) (T : zS), Fr [55] M M2 → (∀ k, k < n → M2 55 k = T k) → (∀ k, k < n → T k = Sti S n w (i + 1) k) → zW X 132 82 [(0, .ref 44), (1, .int w), (2, .int (nI i)), (3, .int (pul S n i w)), (4, .int t)] [] M2 N (fun v M' N' => v = none ∧ N' = N ∧ Fr [55] M M' ∧ ∀ k, k < n → M' 55 k = Str S n w k) := by
          intro t M2 T hf2 h2 h3
          refine zinc rfl rfl rfl ?_
          refine zs rfl rfl rfl ?_
          exact ih (i + 1) M2 _ (by omega) (Or.inr ⟨_, _, rfl⟩) hf2 (fun k hk => (h2 k hk).trans (h3 k hk))
        intro f
        induction f with
        | zero =>
          intro t T M2 ht h2 hf2 h3 h4
          rcases Th.ns hle ht h2 with rfl | ⟨a, ha, rfl⟩
          · refine zs rfl rfl rfl ?_
            refine zs rfl rfl rfl ?_
            exact fin _ M2 T hf2 h3 h4
          · refine zs rfl rfl rfl ?_
            refine zbf (nI_pos (by omega)) rfl rfl rfl ?_
            refine zs rfl rfl rfl ?_
            refine zs rfl rfl rfl ?_
            refine zbt (nI_le (a := 100) (by omega) (by omega)) rfl rfl rfl ?_
            exact fin _ M2 T hf2 h3 h4
        | succ f ih2 =>
          intro t T M2 ht h2 hf2 h3 h4
          rcases ht with rfl | ⟨j, hj, rfl⟩ | ⟨a, ha, rfl⟩
          · rw [sad_stop _ _ (shp_m1 n)] at h4
            refine zs rfl rfl rfl ?_
            refine zs rfl rfl rfl ?_
            exact fin _ M2 T hf2 h3 h4
          · rw [rt_s hle hj] at h2
            rw [sad_s hle hj] at h4
            refine zs rfl rfl rfl ?_
            refine zbf (nI_pos (by omega)) rfl rfl rfl ?_
            refine zs rfl rfl rfl ?_
            refine zs rfl rfl rfl ?_
            refine zbf (nI_ge (b := 100) (by omega) (by omega)) rfl rfl rfl ?_
            refine zs rfl rfl rfl ?_
            refine zs rfl rfl rfl ?_
            refine zs rfl rfl rfl ?_
            refine zs rfl rfl rfl ?_
            refine zal rfl rfl rfl (by omega) (by decide) ?_
            refine zto rfl (h3 j hj) ?_
            refine zs rfl rfl rfl ?_
            refine zs rfl rfl rfl ?_
            refine zas rfl rfl rfl rfl (by omega) (by decide) ?_
            refine zs rfl rfl rfl ?_
            refine zs rfl rfl rfl ?_
            refine zs rfl rfl rfl ?_
            refine zcl rfl rfl (m_is4 ((hr.fr hf2 (by decide)).fr (Fr.up (l := [55]) (by decide)) (by decide)) (show j < 12 by omega)) ?_
            refine zs rfl rfl rfl ?_
            refine zs rfl rfl rfl ?_
            refine ih2 (lk S j) (upd T j (T j + pul S n i w)) _ (hB.l j hj) h2 (hf2.trans (Fr.up (by decide))) (fun k hk => ?_) h4
            rw [z_up_a]
            show _ = if k = j then T j + pul S n i w else T k
            by_cases e : k = j
            · rw [if_pos e, if_pos e]
            · rw [if_neg e, if_neg e]; exact h3 k hk
          · rw [sad_stop _ _ (shp_anc hle ha)] at h4
            refine zs rfl rfl rfl ?_
            refine zbf (nI_pos (by omega)) rfl rfl rfl ?_
            refine zs rfl rfl rfl ?_
            refine zs rfl rfl rfl ?_
            refine zbt (nI_le (a := 100) (by omega) (by omega)) rfl rfl rfl ?_
            exact fin _ M2 T hf2 h3 h4
      rcases htl with rfl | ⟨a, b, rfl⟩
      · refine zs rfl rfl rfl ?_
        refine zs rfl rfl rfl ?_
        refine zs rfl rfl rfl ?_
        refine zs rfl rfl rfl ?_
        refine zal (i := 0) rfl rfl rfl (by decide) (by decide) ?_
        try refine zto rfl hn0 ?_
        refine zbf (nI_ge (by omega) (by omega)) rfl rfl rfl ?_
        refine zs rfl rfl rfl ?_
        refine zs rfl rfl rfl ?_
        refine zs rfl rfl rfl ?_
        refine zcl rfl rfl (m_pullOf hr1 hB (show i < n by omega) w) ?_
        refine zs rfl rfl rfl ?_
        refine zs rfl rfl rfl ?_
        refine zs rfl rfl rfl ?_
        exact inner 12 (nI i) _ M1 (Th_s (by omega)) (hB.lv _) hf h1 (fun _ _ => rfl)
      · refine zs rfl rfl rfl ?_
        refine zs rfl rfl rfl ?_
        refine zs rfl rfl rfl ?_
        refine zs rfl rfl rfl ?_
        refine zal (i := 0) rfl rfl rfl (by decide) (by decide) ?_
        try refine zto rfl hn0 ?_
        refine zbf (nI_ge (by omega) (by omega)) rfl rfl rfl ?_
        refine zs rfl rfl rfl ?_
        refine zs rfl rfl rfl ?_
        refine zs rfl rfl rfl ?_
        refine zcl rfl rfl (m_pullOf hr1 hB (show i < n by omega) w) ?_
        refine zs rfl rfl rfl ?_
        refine zs rfl rfl rfl ?_
        refine zs rfl rfl rfl ?_
        exact inner 12 (nI i) _ M1 (Th_s (by omega)) (hB.lv _) hf h1 (fun _ _ => rfl)
  have zero : ∀ d i M1, i + d = n → Fr [55] M M1 → (∀ k, k < i → M1 55 k = 0) → zW X 132 2 [(0, .ref 44), (1, .int w), (2, .int (nI i))] [] M1 N (fun v M' N' => v = none ∧ N' = N ∧ Fr [55] M M' ∧ ∀ k, k < n → M' 55 k = Str S n w k) := by
    intro d
    induction d with
    | zero =>
      intro i M1 hi hf h1
      obtain rfl : i = n := by omega
      have hn0 : M1 45 0 = nI i := (hr.fr hf (by decide)).n0 hB
      refine zs rfl rfl rfl ?_
      refine zs rfl rfl rfl ?_
      refine zs rfl rfl rfl ?_
      refine zs rfl rfl rfl ?_
      refine zal (i := 0) rfl rfl rfl (by decide) (by decide) ?_
      try refine zto rfl hn0 ?_
      refine zbt (nI_le (by omega) (by omega)) rfl rfl rfl ?_
      refine zs rfl rfl rfl ?_
      refine zs rfl rfl rfl ?_
      exact outer i 0 M1 [] (Nat.zero_add i) (Or.inl rfl) hf h1
    | succ d ih =>
      intro i M1 hi hf h1
      have hn0 : M1 45 0 = nI n := (hr.fr hf (by decide)).n0 hB
      refine zs rfl rfl rfl ?_
      refine zs rfl rfl rfl ?_
      refine zs rfl rfl rfl ?_
      refine zs rfl rfl rfl ?_
      refine zal (i := 0) rfl rfl rfl (by decide) (by decide) ?_
      try refine zto rfl hn0 ?_
      refine zbf (nI_ge (by omega) (by omega)) rfl rfl rfl ?_
      refine zs rfl rfl rfl ?_
      refine zs rfl rfl rfl ?_
      refine zs rfl rfl rfl ?_
      refine zs rfl rfl rfl ?_
      refine zas rfl rfl rfl rfl (by omega) (by decide) ?_
      refine zinc rfl rfl rfl ?_
      refine zs rfl rfl rfl ?_
      refine ih (i + 1) _ (by omega) (hf.trans (Fr.up (by decide))) (fun k hk => ?_)
      rw [z_up_a]
      by_cases e : k = i
      · rw [if_pos e]
      · rw [if_neg e]; exact h1 k (by omega)
  exact zero n 0 M (Nat.zero_add n) Fr.rfl' (fun k hk => absurd hk (Nat.not_lt_zero k))
theorem m_strainOf (hr : Rw M 45 S) (hB : Bas S n) {k : Nat} (hk : k < n) (w : Int32) : zV X 133 [.ref 44, .int (nI k), .int w] M N (fun v M' N' => v = some (.int (Str S n w k)) ∧ N' = N ∧ Fr [55] M M') := by
  refine zVi [(0, .ref 44), (1, .int (nI k)), (2, .int w)] rfl ?_
  have hle := hB.le
  refine zs rfl rfl rfl ?_
  refine zs rfl rfl rfl ?_
  refine zclQ rfl rfl (m_findStrains hr hB w) ?_
  rintro v0 M2 N2 ⟨rfl, rfl, hf2, hT⟩
  refine zs rfl rfl rfl ?_
  refine zs rfl rfl rfl ?_
  refine zs rfl rfl rfl ?_
  refine zal rfl rfl rfl (by omega) (by decide) ?_
  try refine zto rfl (hT _ (by omega)) ?_
  exact zret rfl rfl ⟨rfl, rfl, hf2⟩
theorem m_loadOf (hr : Rw M 45 S) (hB : Bas S n) (hT : ∀ k, k < n → M 55 k = T k) (a : Nat) : zE1 X 134 [.ref 44, .int (nI a)] M N (some (.int (loa S n T (nI (100 + a))))) M N := by
  refine zE1i [(0, .ref 44), (1, .int (nI a))] rfl ?_
  have hn0 := hr.n0 hB
  have hle := hB.le
  have e : (100 : Int32) + nI a = nI (100 + a) := nI_add 100 a
  refine zs rfl rfl rfl ?_
  refine zs rfl rfl rfl ?_
  refine zs rfl rfl rfl ?_
  refine zs rfl rfl rfl ?_
  have loop : ∀ d i, i + d = n → zW X 134 4 [(0, .ref 44), (1, .int (nI a)), (2, .int (csum i (fun k => decide (lk S k = nI (100 + a))) T)), (3, .int (nI i))] [] M N (fun v1 M1 N1 => v1 = some (.int (loa S n T (nI (100 + a)))) ∧ M1 = M ∧ N1 = N) := by
    intro d
    induction d with
    | zero =>
      intro i hi
      obtain rfl : i = n := by omega
      refine zs rfl rfl rfl ?_
      refine zs rfl rfl rfl ?_
      refine zs rfl rfl rfl ?_
      refine zs rfl rfl rfl ?_
      refine zal (i := 0) rfl rfl rfl (by decide) (by decide) ?_
      try refine zto rfl hn0 ?_
      refine zbt (nI_le (by omega) (by omega)) rfl rfl rfl ?_
      refine zs rfl rfl rfl ?_
      exact zret rfl rfl ⟨rfl, rfl, rfl⟩
    | succ d ih =>
      intro i hi
      have ih' := ih (i + 1) (by omega)
      refine zs rfl rfl rfl ?_
      refine zs rfl rfl rfl ?_
      refine zs rfl rfl rfl ?_
      refine zs rfl rfl rfl ?_
      refine zal (i := 0) rfl rfl rfl (by decide) (by decide) ?_
      try refine zto rfl hn0 ?_
      refine zbf (nI_ge (by omega) (by omega)) rfl rfl rfl ?_
      refine zs rfl rfl rfl ?_
      refine zs rfl rfl rfl ?_
      refine zs rfl rfl rfl ?_
      refine zs rfl rfl rfl ?_
      refine zcl rfl rfl (m_is4 hr (show i < 12 by omega)) ?_
      refine zs rfl rfl rfl ?_
      refine zs rfl rfl rfl ?_
      refine zs rfl rfl rfl ?_
      refine zto rfl e ?_
      refine zbr rfl rfl rfl (fun hc => ?_) (fun hc => ?_)
      · rw [csum_f (decide_eq_false hc)] at ih'
        refine zs rfl rfl rfl ?_
        refine zs rfl rfl rfl ?_
        refine zto rfl (Int32.add_zero _) ?_
        refine zs rfl rfl rfl ?_
        refine zinc rfl rfl rfl ?_
        refine zs rfl rfl rfl ?_
        exact ih'
      · rw [csum_t (decide_eq_true (Decidable.not_not.mp hc))] at ih'
        refine zs rfl rfl rfl ?_
        refine zs rfl rfl rfl ?_
        refine zs rfl rfl rfl ?_
        refine zal rfl rfl rfl (by omega) (by decide) ?_
        try refine zto rfl (hT _ (by omega)) ?_
        refine zs rfl rfl rfl ?_
        refine zs rfl rfl rfl ?_
        refine zs rfl rfl rfl ?_
        refine zinc rfl rfl rfl ?_
        refine zs rfl rfl rfl ?_
        exact ih'
  exact loop n 0 (Nat.zero_add n)
theorem m_breaksAt (hr : Rw M 45 S) (hB : Bas S n) {k : Nat} (hk : k < n) : zE1 X 135 [.ref 44, .int (nI k)] M N (some (.int (brk S k))) M N := by
  refine zE1i [(0, .ref 44), (1, .int (nI k))] rfl ?_
  have hle := hB.le
  have hk2 : k < 12 := by omega
  rw [brk_m hB hk]
  have tail : ∀ x : Int32, zW X 135 33 [(0, .ref 44), (1, .int (nI k)), (2, .int x)] [] M N (fun v1 M1 N1 => v1 = some (.int (cond (decide (kd S k = 5)) (x / 2) x)) ∧ M1 = M ∧ N1 = N) := by
    intro x
    refine zs rfl rfl rfl ?_
    refine zs rfl rfl rfl ?_
    refine zs rfl rfl rfl ?_
    refine zcl rfl rfl (m_is0 hr hk2) ?_
    refine zs rfl rfl rfl ?_
    refine zbr rfl rfl rfl (fun hc => ?_) (fun hc => ?_)
    · rw [decide_eq_false hc]
      refine zs rfl rfl rfl ?_
      exact zret rfl rfl ⟨rfl, rfl, rfl⟩
    · rw [decide_eq_true (Decidable.not_not.mp hc)]
      refine zs rfl rfl rfl ?_
      refine zs rfl rfl rfl ?_
      refine zs rfl rfl rfl ?_
      refine zs rfl rfl rfl ?_
      exact zret rfl rfl ⟨rfl, rfl, rfl⟩
  refine zs rfl rfl rfl ?_
  refine zs rfl rfl rfl ?_
  refine zs rfl rfl rfl ?_
  refine zcl rfl rfl (m_is2 hr hk2) ?_
  refine zs rfl rfl rfl ?_
  refine zs rfl rfl rfl ?_
  refine zs rfl rfl rfl ?_
  refine zcl rfl rfl (m_is3 hr hk2) ?_
  refine zbr rfl rfl rfl (fun hc => ?_) (fun hc => ?_)
  · rw [if_neg (i_nlt.mpr hc)]
    refine zs rfl rfl rfl ?_
    refine zs rfl rfl rfl ?_
    refine zs rfl rfl rfl ?_
    refine zcl rfl rfl (m_is2 hr hk2) ?_
    refine zs rfl rfl rfl ?_
    refine zs rfl rfl rfl ?_
    refine zs rfl rfl rfl ?_
    refine zcl rfl rfl (m_is3 hr hk2) ?_
    refine zs rfl rfl rfl ?_
    refine zs rfl rfl rfl ?_
    exact tail _
  · rw [if_pos (i_nle.mp hc)]
    refine zs rfl rfl rfl ?_
    refine zs rfl rfl rfl ?_
    refine zs rfl rfl rfl ?_
    exact tail _
theorem m_parting (hr : Rw M 45 S) (hB : Bas S n) (hT : ∀ k, k < n → M 55 k = T k) : zE1 X 136 [.ref 44] M N (some (.int (fpt S n T))) M N := by
  refine zE1i [(0, .ref 44)] rfl ?_
  have hn0 := hr.n0 hB
  have hle := hB.le
  refine zs rfl rfl rfl ?_
  refine zs rfl rfl rfl ?_
  have loop : ∀ d i, i + d = n → zW X 136 2 [(0, .ref 44), (1, .int (nI i))] [] M N (fun v1 M1 N1 => v1 = some (.int (fst1 (prt S T) d i)) ∧ M1 = M ∧ N1 = N) := by
    intro d
    induction d with
    | zero =>
      intro i hi
      obtain rfl : i = n := by omega
      refine zs rfl rfl rfl ?_
      refine zs rfl rfl rfl ?_
      refine zs rfl rfl rfl ?_
      refine zs rfl rfl rfl ?_
      refine zal (i := 0) rfl rfl rfl (by decide) (by decide) ?_
      try refine zto rfl hn0 ?_
      refine zbt (nI_le (by omega) (by omega)) rfl rfl rfl ?_
      refine zs rfl rfl rfl ?_
      exact zret rfl rfl ⟨rfl, rfl, rfl⟩
    | succ d ih =>
      intro i hi
      have ih' := ih (i + 1) (by omega)
      unfold fst1
      refine zs rfl rfl rfl ?_
      refine zs rfl rfl rfl ?_
      refine zs rfl rfl rfl ?_
      refine zs rfl rfl rfl ?_
      refine zal (i := 0) rfl rfl rfl (by decide) (by decide) ?_
      try refine zto rfl hn0 ?_
      refine zbf (nI_ge (by omega) (by omega)) rfl rfl rfl ?_
      refine zs rfl rfl rfl ?_
      refine zs rfl rfl rfl ?_
      refine zcl rfl rfl (m_hangs hr hle hB.l (show i < n by omega)) ?_
      by_cases hc : lk S i ≠ -1
      · rw [decide_eq_true hc]
        refine zs rfl rfl rfl ?_
        refine zs rfl rfl rfl ?_
        refine zs rfl rfl rfl ?_
        refine zs rfl rfl rfl ?_
        refine zal rfl rfl rfl (by omega) (by decide) ?_
        try refine zto rfl (hT _ (by omega)) ?_
        refine zs rfl rfl rfl ?_
        refine zs rfl rfl rfl ?_
        refine zcl rfl rfl (m_breaksAt hr hB (show i < n by omega)) ?_
        refine zbr rfl rfl rfl (fun hb => ?_) (fun hb => ?_)
        · rw [show prt S T i = false by unfold prt; rw [decide_eq_false (i_nlt.mpr hb), Bool.and_false]]
          refine zinc rfl rfl rfl ?_
          refine zs rfl rfl rfl ?_
          exact ih'
        · rw [show prt S T i = true by unfold prt; rw [decide_eq_true (i_nle.mp hb), decide_eq_true hc]; rfl]
          refine zs rfl rfl rfl ?_
          exact zret rfl rfl ⟨rfl, rfl, rfl⟩
      · rw [decide_eq_false hc, show prt S T i = false by unfold prt; rw [decide_eq_false hc]; rfl]
        refine zs rfl rfl rfl ?_
        refine zinc rfl rfl rfl ?_
        refine zs rfl rfl rfl ?_
        exact ih'
  exact loop n 0 (Nat.zero_add n)
theorem m_adriftSet (hr : Rw M 45 S) (hB : Bas S n) : zE1 X 138 [.ref 44] M N (some (.int (nI (hg S n (-1))))) M N := by
  refine zE1i [(0, .ref 44)] rfl ?_
  refine zs rfl rfl rfl ?_
  refine zs rfl rfl rfl ?_
  refine zcl rfl rfl (m_on hr hB.s0 hB.le (-1)) ?_
  exact zret rfl rfl ⟨rfl, rfl, rfl⟩
theorem m_settles (hr : Rw M 45 S) (hB : Bas S n) (w : Int32) : zV X 137 [.ref 44, .int w] M N (fun v M' N' => v = none ∧ N' = N ∧ Fr [45, 55] M M' ∧ Rw M' 45 (stl S n w)) := by
  refine zVi [(0, .ref 44), (1, .int w)] rfl ?_
  have hle := hB.le
  have drag : ∀ (S1 : zS), Bas S1 n → stl S n w = drg n (Str S1 n w) S1 6 → ∀ d i M1 tl, i + d = 6 → (tl = [] ∨ ∃ a : Int32, tl = [(3, Value.int a)]) → Fr [45, 55] M M1 → Rw M1 45 (drg n (Str S1 n w) S1 i) → zW X 137 36 ((0, .ref 44) :: (1, .int w) :: (2, .int (nI i)) :: tl) [] M1 N (fun v M' N' => v = none ∧ N' = N ∧ Fr [45, 55] M M' ∧ Rw M' 45 (stl S n w)) := by
    intro S1 hB1 hfin d
    induction d with
    | zero =>
      intro i M1 tl hi htl hf hr1
      obtain rfl : i = 6 := by omega
      rw [hfin]
      rcases htl with rfl | ⟨a, rfl⟩
      · refine zs rfl rfl rfl ?_
        refine zs rfl rfl rfl ?_
        refine zs rfl rfl rfl ?_
        exact zret rfl rfl ⟨rfl, rfl, hf, hr1⟩
      · refine zs rfl rfl rfl ?_
        refine zs rfl rfl rfl ?_
        refine zs rfl rfl rfl ?_
        exact zret rfl rfl ⟨rfl, rfl, hf, hr1⟩
    | succ d ih =>
      intro i M1 tl hi htl hf hr1
      have hB2 : Bas (drg n (Str S1 n w) S1 i) n := hB1.dn (dn_drg _ _ _ _)
      have hTe : Str (drg n (Str S1 n w) S1 i) n w = Str S1 n w := str_drg hle _ _ w (by omega)
      have go : ∀ M2 tl, (tl = [] ∨ ∃ a : Int32, tl = [(3, Value.int a)]) → Fr [55] M1 M2 → (∀ k, k < n → M2 55 k = Str S1 n w k) → zW X 137 52 ((0, .ref 44) :: (1, .int w) :: (2, .int (nI i)) :: tl) [.int (loa (drg n (Str S1 n w) S1 i) n (Str S1 n w) (nI (100 + i)))] M2 N (fun v M' N' => v = none ∧ N' = N ∧ Fr [45, 55] M M' ∧ Rw M' 45 (stl S n w)) := by
        intro M2 tl htl hf2 hT
        have hr2 := hr1.fr hf2 (by decide)
        have hf3 : Fr [45, 55] M M2 := hf.trans (hf2.mono (by decide))
        have e3 : (3 : Int32) + nI i = nI (3 + i) := nI_add 3 i
        have e100 : (100 : Int32) + nI i = nI (100 + i) := nI_add 100 i
        have inner : ∀ d2 k M3, k + d2 = n → Fr [45, 55] M M3 → Rw M3 45 (hal (drg n (Str S1 n w) S1 i) (nI (100 + i)) (-1) k) → (drg n (Str S1 n w) S1 i (3 + i) < loa (drg n (Str S1 n w) S1 i) n (Str S1 n w) (nI (100 + i))) → zW X 137 65 [(0, .ref 44), (1, .int w), (2, .int (nI i)), (3, .int (nI k))] [] M3 N (fun v M' N' => v = none ∧ N' = N ∧ Fr [45, 55] M M' ∧ Rw M' 45 (stl S n w)) := by
          intro d2
          induction d2 with
          | zero =>
            intro k M3 hk hf4 hr3 hd
            obtain rfl : k = n := by omega
            have hn0 : M3 45 0 = nI k := hr3.n0 (hB2.dn (dn_hal _ _ _))
            refine zs rfl rfl rfl ?_
            refine zs rfl rfl rfl ?_
            refine zs rfl rfl rfl ?_
            refine zs rfl rfl rfl ?_
            refine zal (i := 0) rfl rfl rfl (by decide) (by decide) ?_
            try refine zto rfl hn0 ?_
            refine zbt (nI_le (by omega) (by omega)) rfl rfl rfl ?_
            refine zinc rfl rfl rfl ?_
            refine zs rfl rfl rfl ?_
            exact ih (i + 1) M3 _ (by omega) (Or.inr ⟨_, rfl⟩) hf4 (by rw [drg_t hd]; exact hr3)
          | succ d2 ih2 =>
            intro k M3 hk hf4 hr3 hd
            have hn0 : M3 45 0 = nI n := hr3.n0 (hB2.dn (dn_hal _ _ _))
            have hk12 : k < 12 := by omega
            refine zs rfl rfl rfl ?_
            refine zs rfl rfl rfl ?_
            refine zs rfl rfl rfl ?_
            refine zs rfl rfl rfl ?_
            refine zal (i := 0) rfl rfl rfl (by decide) (by decide) ?_
            try refine zto rfl hn0 ?_
            refine zbf (nI_ge (by omega) (by omega)) rfl rfl rfl ?_
            refine zs rfl rfl rfl ?_
            refine zs rfl rfl rfl ?_
            refine zs rfl rfl rfl ?_
            refine zs rfl rfl rfl ?_
            refine zs rfl rfl rfl ?_
            refine zs rfl rfl rfl ?_
            refine zcl rfl rfl (m_is4 hr3 hk12) ?_
            refine zs rfl rfl rfl ?_
            refine zs rfl rfl rfl ?_
            refine zs rfl rfl rfl ?_
            refine zto rfl e100 ?_
            refine zbr rfl rfl rfl (fun hc => ?_) (fun hc => ?_)
            · refine zs rfl rfl rfl ?_
              refine zs rfl rfl rfl ?_
              refine zs rfl rfl rfl ?_
              refine zcl rfl rfl (m_is4 hr3 hk12) ?_
              refine zcl rfl rfl (m_puts4 hk12 _) ?_
              refine zinc rfl rfl rfl ?_
              refine zs rfl rfl rfl ?_
              refine ih2 (k + 1) _ (by omega) (hf4.trans (Fr.up (by decide))) ?_ hd
              rw [hal_f hc]
              have := hr3.up (26 + 5 * k) (lk (hal (drg n (Str S1 n w) S1 i) (nI (100 + i)) (-1) k) k)
              unfold lk at this
              rw [upd_self] at this
              exact this
            · refine zs rfl rfl rfl ?_
              refine zs rfl rfl rfl ?_
              refine zcl rfl rfl (m_puts4 hk12 _) ?_
              refine zinc rfl rfl rfl ?_
              refine zs rfl rfl rfl ?_
              refine ih2 (k + 1) _ (by omega) (hf4.trans (Fr.up (by decide))) ?_ hd
              rw [hal_t (Decidable.not_not.mp hc)]
              exact hr3.up _ _
        rcases htl with rfl | ⟨a, rfl⟩
        · refine zs rfl rfl rfl ?_
          refine zs rfl rfl rfl ?_
          refine zs rfl rfl rfl ?_
          refine zs rfl rfl rfl ?_
          refine zs rfl rfl rfl ?_
          refine zto rfl e3 ?_
          refine zal rfl rfl rfl (by omega) (by decide) ?_
          refine zto rfl (hr2 _ (by omega)) ?_
          refine zbr rfl rfl rfl (fun hc => ?_) (fun hc => ?_)
          · refine zinc rfl rfl rfl ?_
            refine zs rfl rfl rfl ?_
            exact ih (i + 1) M2 _ (by omega) (Or.inl rfl) hf3 (by rw [drg_f (i_nlt.mpr hc)]; exact hr2)
          · refine zs rfl rfl rfl ?_
            refine zs rfl rfl rfl ?_
            exact inner n 0 M2 (Nat.zero_add n) hf3 hr2 (i_nle.mp hc)
        · refine zs rfl rfl rfl ?_
          refine zs rfl rfl rfl ?_
          refine zs rfl rfl rfl ?_
          refine zs rfl rfl rfl ?_
          refine zs rfl rfl rfl ?_
          refine zto rfl e3 ?_
          refine zal rfl rfl rfl (by omega) (by decide) ?_
          refine zto rfl (hr2 _ (by omega)) ?_
          refine zbr rfl rfl rfl (fun hc => ?_) (fun hc => ?_)
          · refine zinc rfl rfl rfl ?_
            refine zs rfl rfl rfl ?_
            exact ih (i + 1) M2 _ (by omega) (Or.inr ⟨_, rfl⟩) hf3 (by rw [drg_f (i_nlt.mpr hc)]; exact hr2)
          · refine zs rfl rfl rfl ?_
            refine zs rfl rfl rfl ?_
            exact inner n 0 M2 (Nat.zero_add n) hf3 hr2 (i_nle.mp hc)
      rcases htl with rfl | ⟨a, rfl⟩
      · refine zs rfl rfl rfl ?_
        refine zs rfl rfl rfl ?_
        refine zbf (nI_ge (b := 6) (by omega) (by omega)) rfl rfl rfl ?_
        refine zs rfl rfl rfl ?_
        refine zs rfl rfl rfl ?_
        refine zclQ rfl rfl (m_findStrains hr1 hB2 w) ?_
        rintro v2 M2 N2 ⟨rfl, rfl, hf2, hT⟩
        rw [hTe] at hT
        refine zs rfl rfl rfl ?_
        refine zs rfl rfl rfl ?_
        refine zcl rfl rfl (m_loadOf (hr1.fr hf2 (by decide)) hB2 hT i) ?_
        exact go M2 [] (Or.inl rfl) hf2 hT
      · refine zs rfl rfl rfl ?_
        refine zs rfl rfl rfl ?_
        refine zbf (nI_ge (b := 6) (by omega) (by omega)) rfl rfl rfl ?_
        refine zs rfl rfl rfl ?_
        refine zs rfl rfl rfl ?_
        refine zclQ rfl rfl (m_findStrains hr1 hB2 w) ?_
        rintro v2 M2 N2 ⟨rfl, rfl, hf2, hT⟩
        rw [hTe] at hT
        refine zs rfl rfl rfl ?_
        refine zs rfl rfl rfl ?_
        refine zcl rfl rfl (m_loadOf (hr1.fr hf2 (by decide)) hB2 hT i) ?_
        exact go M2 _ (Or.inr ⟨_, rfl⟩) hf2 hT
  have part : ∀ f S1 M1, Bas S1 n → hct S1 n < f → prs n w f S1 = prs n w 13 S → Fr [45, 55] M M1 → Rw M1 45 S1 → (∀ k, k < n → M1 55 k = Str S1 n w k) → zW X 137 10 [(0, .ref 44), (1, .int w), (2, .int (fpt S1 n (Str S1 n w)))] [] M1 N (fun v M' N' => v = none ∧ N' = N ∧ Fr [45, 55] M M' ∧ Rw M' 45 (stl S n w)) := by
    intro f
    induction f with
    | zero => intro S1 M1 _ h; exact absurd h (Nat.not_lt_zero _)
    | succ f ih =>
      intro S1 M1 hB1 hct1 hp hf hr1 hT
      rcases fpt_spec S1 n (Str S1 n w) with ⟨h1, _⟩ | ⟨k, hkn, h1, h2⟩
      · rw [h1]
        refine zs rfl rfl rfl ?_
        refine zs rfl rfl rfl ?_
        refine zs rfl rfl rfl ?_
        refine zs rfl rfl rfl ?_
        have e : prs n w 13 S = S1 := by rw [← hp, prs_0 h1]
        refine drag S1 hB1 ?_ 6 0 M1 [] rfl (Or.inl rfl) hf hr1
        unfold stl; rw [e]
      · rw [h1]
        have hB2 : Bas (upl S1 k (-1)) n := hB1.dn (dn_upl S1 k)
        have hr2 : Rw (z_up M1 45 (26 + 5 * k) (-1)) 45 (upl S1 k (-1)) := hr1.up _ _
        refine zs rfl rfl rfl ?_
        refine zbf (nI_pos (by omega)) rfl rfl rfl ?_
        refine zs rfl rfl rfl ?_
        refine zs rfl rfl rfl ?_
        refine zs rfl rfl rfl ?_
        refine zs rfl rfl rfl ?_
        refine zcl rfl rfl (m_puts4 (show k < 12 by omega) (-1)) ?_
        refine zs rfl rfl rfl ?_
        refine zs rfl rfl rfl ?_
        refine zclQ rfl rfl (m_findStrains hr2 hB2 w) ?_
        rintro v2 M2 N2 ⟨rfl, rfl, hf2, hT2⟩
        refine zs rfl rfl rfl ?_
        refine zcl rfl rfl (m_parting (hr2.fr hf2 (by decide)) hB2 hT2) ?_
        refine zs rfl rfl rfl ?_
        refine zs rfl rfl rfl ?_
        refine ih (upl S1 k (-1)) M2 hB2 (by have := hct_lt hkn (prt_l h2); omega) ?_ ((hf.trans (Fr.up (by decide))).trans (hf2.mono (by decide))) (hr2.fr hf2 (by decide)) hT2
        rw [← hp, prs_s h1 (by omega)]
  refine zs rfl rfl rfl ?_
  refine zs rfl rfl rfl ?_
  refine zclQ rfl rfl (m_findStrains hr hB w) ?_
  rintro v2 M2 N2 ⟨rfl, rfl, hf2, hT2⟩
  refine zs rfl rfl rfl ?_
  refine zcl rfl rfl (m_parting (hr.fr hf2 (by decide)) hB hT2) ?_
  refine zs rfl rfl rfl ?_
  exact part 13 S M2 hB (by have := hct_le S n; omega) rfl (hf2.mono (by decide)) (hr.fr hf2 (by decide)) hT2
end MOD2
