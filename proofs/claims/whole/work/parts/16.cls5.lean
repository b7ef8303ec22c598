theorem Kok.of {S S' : zS} {n : Nat} (h : Kok S n) (e : ∀ k, kd S' k = kd S k) : Kok S' n := fun k hk => by rw [e k]; exact h k hk
theorem Kok.els {S S' : zS} {n : Nat} (h : Kok S n) (e : Els S S') : Kok S' n := h.of (els_kd e)
theorem wrs_lo (T S : zS) : ∀ (i : Nat) {j : Nat}, j < 22 → wrs T S i j = S j
  | 0, _, _ => rfl
  | i + 1, j, hj => by
    unfold wrs
    by_cases h : lk (wrs T S i) i ≠ -1 ∧ brk (wrs T S i) i / 2 < T i
    · rw [if_pos h]
      show (if j = 25 + 5 * i then _ else wrs T S i j) = _
      rw [if_neg (by omega)]; exact wrs_lo T S i hj
    · rw [if_neg h]; exact wrs_lo T S i hj
theorem stl_lo (S : zS) (n : Nat) (w : Int32) {j : Nat} (hj : j < 22) : stl S n w j = S j := els_lo (dn_stl S n w).1 hj
theorem wrs_f {T S : zS} {i : Nat} (h : ¬ (lk (wrs T S i) i ≠ -1 ∧ brk (wrs T S i) i / 2 < T i)) : wrs T S (i + 1) = wrs T S i := by
  show (if _ then _ else _) = _
  rw [if_neg h]
theorem wrs_t {T S : zS} {i : Nat} (h : lk (wrs T S i) i ≠ -1 ∧ brk (wrs T S i) i / 2 < T i) : wrs T S (i + 1) = upw (wrs T S i) i (if wo (wrs T S i) i + 1 < 99 then wo (wrs T S i) i + 1 else 99) := by
  show (if _ then _ else _) = _
  rw [if_pos h]
theorem drg_t {n : Nat} {T S : zS} {a : Nat} (h : drg n T S a (3 + a) < loa (drg n T S a) n T (nI (100 + a))) : drg n T S (a + 1) = hal (drg n T S a) (nI (100 + a)) (-1) n := by
  show (if _ then _ else _) = _
  rw [if_pos h]
theorem drg_f {n : Nat} {T S : zS} {a : Nat} (h : ¬ drg n T S a (3 + a) < loa (drg n T S a) n T (nI (100 + a))) : drg n T S (a + 1) = drg n T S a := by
  show (if _ then _ else _) = _
  rw [if_neg h]
section CLS5
variable {X : Nat × (Nat → Int32)} {M : zM} {N : zN} {S T : zS} {n : Nat}
theorem c_settle_h (hv : Vw M 1 S) (hn : S 0 = nI n) (h12 : n ≤ 12) (hk : Kok S n) (w : Int32) : zV X 20 [.ref 1, .int w] M N (fun v M' N' => v = none ∧ N' = N ∧ Fr [8, 9] M M' ∧ Vw M' 1 (stl S n w) ∧ ∀ k, k < 12 → M' 9 k = Str (stl S n w) n w k) := by
  refine zVi [(0, .ref 1), (1, .int w)] rfl ?_
  refine zs rfl rfl rfl ?_
  refine zs rfl rfl rfl ?_
  have drag : ∀ (T S1 : zS) (tl : zL), S1 0 = nI n → stl S n w = drg n T S1 6 → (∀ k, k < 12 → T k = Str (stl S n w) n w k) → ∀ d i M1, i + d = 6 → Fr [8, 9] M M1 → Vw M1 1 (drg n T S1 i) → (∀ k, k < 12 → M1 9 k = T k) →
      ∀ x : Int32, zW X 20 40 [(0, .ref 1), (1, .int w), (2, .int (nI i)), (3, .int x)] [] M1 N (fun v M' N' => v = none ∧ N' = N ∧ Fr [8, 9] M M' ∧ Vw M' 1 (stl S n w) ∧ ∀ k, k < 12 → M' 9 k = Str (stl S n w) n w k) := by
    intro T S1 tl hn1 hfin hTf d
    induction d with
    | zero =>
      intro i M1 hi hf hv1 hT x
      obtain rfl : i = 6 := by omega
      refine zs rfl rfl rfl ?_
      refine zs rfl rfl rfl ?_
      first | refine zs rfl rfl rfl ?_ | refine zbt (nI_le (a := 6) (by omega) (by omega)) rfl rfl rfl ?_
      refine zret rfl rfl ⟨rfl, rfl, hf, ?_, fun k hk => (hT k hk).trans (hTf k hk)⟩
      rw [hfin]; exact hv1
    | succ d ih =>
      intro i M1 hi hf hv1 hT x
      have hn2 : drg n T S1 i 0 = nI n := (els_lo (dn_drg n T S1 i).1 (by decide)).trans hn1
      refine zs rfl rfl rfl ?_
      refine zs rfl rfl rfl ?_
      refine zbf (nI_ge (b := 6) (by omega) (by omega)) rfl rfl rfl ?_
      refine zs rfl rfl rfl ?_
      refine zs rfl rfl rfl ?_
      refine zcl rfl rfl (c_isDragging_h hv1 hn2 h12 hT (show i < 6 by omega)) ?_
      by_cases hd : drg n T S1 i (3 + i) < loa (drg n T S1 i) n T (nI (100 + i))
      · rw [decide_eq_true hd]
        refine zs rfl rfl rfl ?_
        refine zs rfl rfl rfl ?_
        refine zs rfl rfl rfl ?_
        refine zs rfl rfl rfl ?_
        refine zs rfl rfl rfl ?_
        refine zto rfl rfl ?_
        refine zs rfl rfl rfl ?_
        refine zto rfl rfl ?_
        have e : (100 : Int32) + nI i = nI (100 + i) := nI_add 100 i
        rw [e]
        refine zclQ rfl rfl (c_hangAll_h hv1 hn2 h12 (nI (100 + i)) (-1)) ?_
        rintro v0 M2 N2 ⟨rfl, rfl, hf2, hv2⟩
        refine zinc rfl rfl rfl ?_
        refine zs rfl rfl rfl ?_
        refine ih (i + 1) M2 (by omega) (hf.trans (hf2.mono (by decide))) (by rw [drg_t hd]; exact hv2) (fun k hk => ?_) x
        rw [hf2 9 (by decide)]; exact hT k hk
      · rw [decide_eq_false hd]
        refine zs rfl rfl rfl ?_
        refine zinc rfl rfl rfl ?_
        refine zs rfl rfl rfl ?_
        exact ih (i + 1) M1 (by omega) hf (by rw [drg_f hd]; exact hv1) hT x
  have part : ∀ d i S1 M1 tl, i + d = 13 → (tl = [] ∨ ∃ a : Int32, tl = [(3, Value.int a)]) → Fr [8, 9] M M1 → Vw M1 1 S1 → Els S S1 → hct S1 n < d → prs n w d S1 = prs n w 13 S → zW X 20 2 ((0, .ref 1) :: (1, .int w) :: (2, .int (nI i)) :: tl) [] M1 N (fun v M' N' => v = none ∧ N' = N ∧ Fr [8, 9] M M' ∧ Vw M' 1 (stl S n w) ∧ ∀ k, k < 12 → M' 9 k = Str (stl S n w) n w k) := by
    intro d
    induction d with
    | zero => intro i S1 M1 tl _ _ _ _ _ h _; exact absurd h (Nat.not_lt_zero _)
    | succ d ih =>
      intro i S1 M1 tl hi htl hf hv1 he hct1 hp
      have hn1 : S1 0 = nI n := (els_lo he (by decide)).trans hn
      have hk1 : Kok S1 n := hk.els he
      have go : ∀ M2, Fr [9] M1 M2 → (∀ k, k < 12 → M2 9 k = Str S1 n w k) → zW X 20 18 [(0, .ref 1), (1, .int w), (2, .int (nI i)), (3, .int (fpt S1 n (Str S1 n w)))] [] M2 N (fun v M' N' => v = none ∧ N' = N ∧ Fr [8, 9] M M' ∧ Vw M' 1 (stl S n w) ∧ ∀ k, k < 12 → M' 9 k = Str (stl S n w) n w k) := by
        intro M2 hf2 hT
        have hv2 : Vw M2 1 S1 := hv1.fr1 hf2
        have hf3 : Fr [8, 9] M M2 := hf.trans (hf2.mono (by decide))
        rcases fpt_spec S1 n (Str S1 n w) with ⟨h1, _⟩ | ⟨k, hkn, h1, h2⟩
        · rw [h1]
          refine zs rfl rfl rfl ?_
          refine zs rfl rfl rfl ?_
          refine zs rfl rfl rfl ?_
          refine zs rfl rfl rfl ?_
          refine zs rfl rfl rfl ?_
          have e : prs n w 13 S = S1 := by rw [← hp, prs_0 h1]
          refine drag (Str S1 n w) S1 [] hn1 ?_ ?_ 6 0 M2 rfl hf3 hv2 hT _
          · unfold stl; rw [e]
          · intro k _
            rw [str_stl S h12 w, e]
        · rw [h1]
          refine zs rfl rfl rfl ?_
          refine zbt (nI_pos' (by omega)) rfl rfl rfl ?_
          refine zs rfl rfl rfl ?_
          refine zs rfl rfl rfl ?_
          refine zs rfl rfl rfl ?_
          refine zs rfl rfl rfl ?_
          refine zas rfl rfl rfl rfl (by omega) (by decide) ?_
          refine zinc rfl rfl rfl ?_
          refine zs rfl rfl rfl ?_
          refine ih (i + 1) (upl S1 k (-1)) _ _ (by omega) (Or.inr ⟨_, rfl⟩) (hf3.trans (Fr.up (by decide))) (hv2.upl (by omega) (-1)) (els_upl he k _) (by have := hct_lt hkn (prt_l h2); omega) ?_
          rw [← hp, prs_s h1 (by omega)]
      rcases htl with rfl | ⟨a, rfl⟩
      · refine zs rfl rfl rfl ?_
        refine zs rfl rfl rfl ?_
        refine zbf (nI_nlt (a := 12) (by omega) (by omega)) rfl rfl rfl ?_
        refine zs rfl rfl rfl ?_
        refine zs rfl rfl rfl ?_
        refine zclQ rfl rfl (c_fillStrains_h hv1 hn1 h12 hk1 w) ?_
        rintro v0 M2 N2 ⟨rfl, rfl, hf2, hT⟩
        refine zs rfl rfl rfl ?_
        refine zcl rfl rfl (c_firstToPart_h (hv1.fr1 hf2) hn1 h12 hT) ?_
        refine zs rfl rfl rfl ?_
        exact go M2 hf2 hT
      · refine zs rfl rfl rfl ?_
        refine zs rfl rfl rfl ?_
        refine zbf (nI_nlt (a := 12) (by omega) (by omega)) rfl rfl rfl ?_
        refine zs rfl rfl rfl ?_
        refine zs rfl rfl rfl ?_
        refine zclQ rfl rfl (c_fillStrains_h hv1 hn1 h12 hk1 w) ?_
        rintro v0 M2 N2 ⟨rfl, rfl, hf2, hT⟩
        refine zs rfl rfl rfl ?_
        refine zcl rfl rfl (c_firstToPart_h (hv1.fr1 hf2) hn1 h12 hT) ?_
        refine zs rfl rfl rfl ?_
        exact go M2 hf2 hT
  exact part 13 0 S M [] rfl (Or.inl rfl) Fr.rfl' hv Els.rfl' (by have := hct_le S n; omega) rfl
theorem c_cutOut_h (hv : Vw M 1 S) (hn : S 0 = nI n) (h12 : n ≤ 12) {k : Nat} (hk : k < n) : zV X 22 [.ref 1, .int (nI k)] M N (fun v M' N' => v = some (.int (nI (many (hg S n (nI k))))) ∧ N' = N ∧ Fr [8] M M' ∧ Vw M' 1 (cto S n k)) := by
  refine zVi [(0, .ref 1), (1, .int (nI k))] rfl ?_
  refine zs rfl rfl rfl ?_
  refine zs rfl rfl rfl ?_
  refine zcl rfl rfl (c_hangersOf_h (hv.s0.trans hn) h12 hv.fl (nI k)) ?_
  refine zcl rfl rfl (c_bitCount (hg_lt h12 _)) ?_
  refine zs rfl rfl rfl ?_
  refine zs rfl rfl rfl ?_
  refine zs rfl rfl rfl ?_
  refine zs rfl rfl rfl ?_
  refine zs rfl rfl rfl ?_
  refine zs rfl rfl rfl ?_
  refine zal rfl rfl rfl (by omega) (by decide) ?_
  try refine zto rfl (Vw.fl (by assumption) _ (by omega)) ?_
  refine zclQ rfl rfl (c_hangAll_h hv hn h12 (nI k) (lk S k)) ?_
  rintro v0 M2 N2 ⟨rfl, rfl, hf2, hv2⟩
  refine zs rfl rfl rfl ?_
  refine zs rfl rfl rfl ?_
  refine zs rfl rfl rfl ?_
  refine zs rfl rfl rfl ?_
  refine zas rfl rfl rfl rfl (by omega) (by decide) ?_
  refine zs rfl rfl rfl ?_
  refine zret rfl rfl ⟨rfl, rfl, hf2.trans (Fr.up (by decide)), hv2.upl (by omega) (-1)⟩
theorem c_passHour_h (hv : Vw M 1 S) (hn : S 0 = nI n) (h12 : n ≤ 12) (hk : Kok S n) (w : Int32) : zV X 23 [.ref 1, .int w] M N (fun v M' N' => v = none ∧ N' = N ∧ Fr [1, 7, 8, 9] M M' ∧ Vw M' 1 (phr S n w)) := by
  refine zVi [(0, .ref 1), (1, .int w)] rfl ?_
  refine zs rfl rfl rfl ?_
  refine zs rfl rfl rfl ?_
  refine zs rfl rfl rfl ?_
  refine zs rfl rfl rfl ?_
  refine zs rfl rfl rfl ?_
  refine zclQ rfl rfl (c_settle_h (hv.up2 w) ((s0_up2 S w).trans hn) h12 (hk.of (kd_up2 S · w)) w) ?_
  rintro v0 M0 N0 ⟨rfl, rfl, hf0, hv0, hT0⟩
  have hf0' : Fr [1, 7, 8, 9] M M0 := (Fr.up (by decide)).trans (hf0.mono (by decide))
  refine zs rfl rfl rfl ?_
  refine zs rfl rfl rfl ?_
  have loop : ∀ d i M1, i + d = n → Fr [1, 7, 8, 9] M M1 → (∀ k, k < 12 → M1 9 k = Str (stl (up2 S w) n w) n w k) → Vw M1 1 (wrs (Str (stl (up2 S w) n w) n w) (stl (up2 S w) n w) i) → zW X 23 12 [(0, .ref 1), (1, .int w), (2, .int (nI i))] [] M1 N0 (fun v M' N' => v = none ∧ N' = N0 ∧ Fr [1, 7, 8, 9] M M' ∧ Vw M' 1 (phr S n w)) := by
    intro d
    induction d with
    | zero =>
      intro i M1 hi hf hT hv1
      obtain rfl : i = n := by omega
      have hn0 : M1 1 8 = nI i := by rw [hv1.s0, wrs_lo _ _ _ (by decide), stl_lo _ _ _ (by decide), s0_up2]; exact hn
      refine zs rfl rfl rfl ?_
      refine zs rfl rfl rfl ?_
      refine zs rfl rfl rfl ?_
      try refine zto rfl hn0 ?_
      refine zbt (nI_le (by omega) (by omega)) rfl rfl rfl ?_
      refine zs rfl rfl rfl ?_
      refine zs rfl rfl rfl ?_
      refine zs rfl rfl rfl ?_
      refine zs rfl rfl rfl ?_
      refine zs rfl rfl rfl ?_
      refine zs rfl rfl rfl ?_
      refine zret rfl rfl ⟨rfl, rfl, hf.trans (Fr.up (by decide)), ?_⟩
      have h := hv1.up1 (S 1 + 1)
      have e : M1 1 10 = S 1 := by rw [hv1.s1, wrs_lo _ _ _ (by decide), stl_lo _ _ _ (by decide), s1_up2]
      rw [e]; exact h
    | succ d ih =>
      intro i M1 hi hf hT hv1
      have hn0 : M1 1 8 = nI n := by rw [hv1.s0, wrs_lo _ _ _ (by decide), stl_lo _ _ _ (by decide), s0_up2]; exact hn
      refine zs rfl rfl rfl ?_
      refine zs rfl rfl rfl ?_
      refine zs rfl rfl rfl ?_
      try refine zto rfl hn0 ?_
      refine zbf (nI_ge (by omega) (by omega)) rfl rfl rfl ?_
      refine zs rfl rfl rfl ?_
      refine zs rfl rfl rfl ?_
      refine zs rfl rfl rfl ?_
      refine zal rfl rfl rfl (by omega) (by decide) ?_
      try refine zto rfl (Vw.fl (by assumption) _ (by omega)) ?_
      refine zs rfl rfl rfl ?_
      refine zbr rfl rfl rfl (fun hc => ?_) (fun hc => ?_)
      · refine zinc rfl rfl rfl ?_
        refine zs rfl rfl rfl ?_
        exact ih (i + 1) M1 (by omega) hf hT (by rw [wrs_f (fun q => q.1 hc)]; exact hv1)
      · refine zs rfl rfl rfl ?_
        refine zs rfl rfl rfl ?_
        refine zs rfl rfl rfl ?_
        refine zal rfl rfl rfl (by omega) (by decide) ?_
        try refine zto rfl (hT _ (by omega)) ?_
        refine zs rfl rfl rfl ?_
        refine zs rfl rfl rfl ?_
        refine zcl rfl rfl (c_breaksAt_h hv1 (show i < 12 by omega)) ?_
        refine zs rfl rfl rfl ?_
        refine zs rfl rfl rfl ?_
        refine zbr rfl rfl rfl (fun hb => ?_) (fun hb => ?_)
        · refine zinc rfl rfl rfl ?_
          refine zs rfl rfl rfl ?_
          exact ih (i + 1) M1 (by omega) hf hT (by rw [wrs_f (fun q => i_nlt.mpr hb q.2)]; exact hv1)
        · refine zs rfl rfl rfl ?_
          refine zs rfl rfl rfl ?_
          refine zs rfl rfl rfl ?_
          refine zs rfl rfl rfl ?_
          refine zs rfl rfl rfl ?_
          refine zs rfl rfl rfl ?_
          refine zs rfl rfl rfl ?_
          refine zal rfl rfl rfl (by omega) (by decide) ?_
          try refine zto rfl (Vw.fw (by assumption) _ (by omega)) ?_
          refine zs rfl rfl rfl ?_
          refine zs rfl rfl rfl ?_
          refine zs rfl rfl rfl ?_
          refine zas rfl rfl rfl rfl (by omega) (by decide) ?_
          refine zinc rfl rfl rfl ?_
          refine zs rfl rfl rfl ?_
          refine ih (i + 1) _ (by omega) (hf.trans (Fr.up (by decide))) (fun k hk => ?_) ?_
          · rw [z_up_ne _ _ _ (by decide)]; exact hT k hk
          · rw [wrs_t ⟨hc, i_nle.mp hb⟩]; exact hv1.upw (by omega) _
  exact loop n 0 M0 (Nat.zero_add n) hf0' hT0 hv0
theorem c_allHold_h (hv : Vw M 1 S) (hn : S 0 = nI n) (h12 : n ≤ 12) (hk : Kok S n) (w : Int32) : zV X 24 [.ref 1, .int w] M N (fun v M' N' => v = some (.int (bI (alh S n w))) ∧ N' = N ∧ Fr [9] M M') := by
  refine zVi [(0, .ref 1), (1, .int w)] rfl ?_
  refine zs rfl rfl rfl ?_
  refine zs rfl rfl rfl ?_
  refine zclQ rfl rfl (c_fillStrains_h hv hn h12 hk w) ?_
  rintro v0 M2 N2 ⟨rfl, rfl, hf2, hT⟩
  have hv2 := hv.fr1 hf2
  refine zs rfl rfl rfl ?_
  refine zcl rfl rfl (c_firstToPart_h hv2 hn h12 hT) ?_
  rcases fpt_spec S n (Str S n w) with ⟨h1, _⟩ | ⟨k, hkn, h1, h2⟩
  · unfold alh
    rw [h1]
    refine zs rfl rfl rfl ?_
    refine zs rfl rfl rfl ?_
    refine zs rfl rfl rfl ?_
    have loop : ∀ d i, i + d = 6 → zW X 24 16 [(0, .ref 1), (1, .int w), (2, .int (nI i))] [] M2 N2 (fun v M' N' => v = some (.int (bI (nod S n (Str S n w) d i))) ∧ N' = N2 ∧ Fr [9] M M') := by
      intro d
      induction d with
      | zero =>
        intro i hi
        obtain rfl : i = 6 := by omega
        refine zs rfl rfl rfl ?_
        refine zs rfl rfl rfl ?_
        first | refine zs rfl rfl rfl ?_ | refine zbt (nI_le (a := 6) (by omega) (by omega)) rfl rfl rfl ?_
        refine zs rfl rfl rfl ?_
        exact zret rfl rfl ⟨rfl, rfl, hf2⟩
      | succ d ih =>
        intro i hi
        refine zs rfl rfl rfl ?_
        refine zs rfl rfl rfl ?_
        refine zbf (nI_ge (b := 6) (by omega) (by omega)) rfl rfl rfl ?_
        refine zs rfl rfl rfl ?_
        refine zs rfl rfl rfl ?_
        refine zcl rfl rfl (c_isDragging_h hv2 hn h12 hT (show i < 6 by omega)) ?_
        unfold nod
        cases decide (S (3 + i) < loa S n (Str S n w) (nI (100 + i)))
        · refine zs rfl rfl rfl ?_
          refine zinc rfl rfl rfl ?_
          refine zs rfl rfl rfl ?_
          exact ih (i + 1) (by omega)
        · refine zs rfl rfl rfl ?_
          refine zs rfl rfl rfl ?_
          exact zret rfl rfl ⟨rfl, rfl, hf2⟩
    exact loop 6 0 rfl
  · unfold alh
    rw [h1]
    refine zbf (nI_pos (by omega)) rfl rfl rfl ?_
    refine zs rfl rfl rfl ?_
    refine zret rfl rfl ⟨?_, rfl, hf2⟩
    rw [decide_eq_false (nI_pos (by omega))]; rfl
theorem c_greatestHeld_h (hv : Vw M 1 S) (hn : S 0 = nI n) (h12 : n ≤ 12) (hk : Kok S n) : zV X 25 [.ref 1] M N (fun v M' N' => v = some (.int (ght S n)) ∧ N' = N ∧ Fr [9] M M') := by
  refine zVi [(0, .ref 1)] rfl ?_
  refine zs rfl rfl rfl ?_
  refine zs rfl rfl rfl ?_
  have loop : ∀ d i M1, i + d = 13 → Fr [9] M M1 → zW X 25 2 [(0, .ref 1), (1, .int (nI i))] [] M1 N (fun v M' N' => v = some (.int (nI (gtw (fun w => alh S n (nI w)) d i) - 1)) ∧ N' = N ∧ Fr [9] M M') := by
    intro d
    induction d with
    | zero =>
      intro i M1 hi hf
      obtain rfl : i = 13 := by omega
      refine zs rfl rfl rfl ?_
      refine zs rfl rfl rfl ?_
      first | refine zs rfl rfl rfl ?_ | refine zbt (nI_le (a := 13) (by omega) (by omega)) rfl rfl rfl ?_
      refine zs rfl rfl rfl ?_
      refine zs rfl rfl rfl ?_
      refine zs rfl rfl rfl ?_
      exact zret rfl rfl ⟨rfl, rfl, hf⟩
    | succ d ih =>
      intro i M1 hi hf
      refine zs rfl rfl rfl ?_
      refine zs rfl rfl rfl ?_
      refine zbf (nI_ge (b := 13) (by omega) (by omega)) rfl rfl rfl ?_
      refine zs rfl rfl rfl ?_
      refine zs rfl rfl rfl ?_
      refine zclQ rfl rfl (c_allHold_h (hv.fr1 hf) hn h12 hk (nI i)) ?_
      rintro v0 M2 N2 ⟨rfl, rfl, hf2⟩
      unfold gtw
      cases alh S n (nI i)
      · refine zs rfl rfl rfl ?_
        refine zs rfl rfl rfl ?_
        refine zs rfl rfl rfl ?_
        refine zs rfl rfl rfl ?_
        exact zret rfl rfl ⟨rfl, rfl, hf.trans hf2⟩
      · refine zs rfl rfl rfl ?_
        refine zinc rfl rfl rfl ?_
        refine zs rfl rfl rfl ?_
        exact ih (i + 1) M2 (by omega) (hf.trans hf2)
  exact loop 13 0 M rfl Fr.rfl'
theorem c_settle_t (hv : Vw M 19 S) (hn : S 0 = nI n) (h12 : n ≤ 12) (hk : Kok S n) (w : Int32) : zV X 20 [.ref 19, .int w] M N (fun v M' N' => v = none ∧ N' = N ∧ Fr [26, 27] M M' ∧ Vw M' 19 (stl S n w) ∧ ∀ k, k < 12 → M' 27 k = Str (stl S n w) n w k) := by
  refine zVi [(0, .ref 19), (1, .int w)] rfl ?_
  refine zs rfl rfl rfl ?_
  refine zs rfl rfl rfl ?_
  have drag : ∀ (T S1 : zS) (tl : zL), S1 0 = nI n → stl S n w = drg n T S1 6 → (∀ k, k < 12 → T k = Str (stl S n w) n w k) → ∀ d i M1, i + d = 6 → Fr [26, 27] M M1 → Vw M1 19 (drg n T S1 i) → (∀ k, k < 12 → M1 27 k = T k) →
      ∀ x : Int32, zW X 20 40 [(0, .ref 19), (1, .int w), (2, .int (nI i)), (3, .int x)] [] M1 N (fun v M' N' => v = none ∧ N' = N ∧ Fr [26, 27] M M' ∧ Vw M' 19 (stl S n w) ∧ ∀ k, k < 12 → M' 27 k = Str (stl S n w) n w k) := by
    intro T S1 tl hn1 hfin hTf d
    induction d with
    | zero =>
      intro i M1 hi hf hv1 hT x
      obtain rfl : i = 6 := by omega
      refine zs rfl rfl rfl ?_
      refine zs rfl rfl rfl ?_
      first | refine zs rfl rfl rfl ?_ | refine zbt (nI_le (a := 6) (by omega) (by omega)) rfl rfl rfl ?_
      refine zret rfl rfl ⟨rfl, rfl, hf, ?_, fun k hk => (hT k hk).trans (hTf k hk)⟩
      rw [hfin]; exact hv1
    | succ d ih =>
      intro i M1 hi hf hv1 hT x
      have hn2 : drg n T S1 i 0 = nI n := (els_lo (dn_drg n T S1 i).1 (by decide)).trans hn1
      refine zs rfl rfl rfl ?_
      refine zs rfl rfl rfl ?_
      refine zbf (nI_ge (b := 6) (by omega) (by omega)) rfl rfl rfl ?_
      refine zs rfl rfl rfl ?_
      refine zs rfl rfl rfl ?_
      refine zcl rfl rfl (c_isDragging_t hv1 hn2 h12 hT (show i < 6 by omega)) ?_
      by_cases hd : drg n T S1 i (3 + i) < loa (drg n T S1 i) n T (nI (100 + i))
      · rw [decide_eq_true hd]
        refine zs rfl rfl rfl ?_
        refine zs rfl rfl rfl ?_
        refine zs rfl rfl rfl ?_
        refine zs rfl rfl rfl ?_
        refine zs rfl rfl rfl ?_
        refine zto rfl rfl ?_
        refine zs rfl rfl rfl ?_
        refine zto rfl rfl ?_
        have e : (100 : Int32) + nI i = nI (100 + i) := nI_add 100 i
        rw [e]
        refine zclQ rfl rfl (c_hangAll_t hv1 hn2 h12 (nI (100 + i)) (-1)) ?_
        rintro v0 M2 N2 ⟨rfl, rfl, hf2, hv2⟩
        refine zinc rfl rfl rfl ?_
        refine zs rfl rfl rfl ?_
        refine ih (i + 1) M2 (by omega) (hf.trans (hf2.mono (by decide))) (by rw [drg_t hd]; exact hv2) (fun k hk => ?_) x
        rw [hf2 27 (by decide)]; exact hT k hk
      · rw [decide_eq_false hd]
        refine zs rfl rfl rfl ?_
        refine zinc rfl rfl rfl ?_
        refine zs rfl rfl rfl ?_
        exact ih (i + 1) M1 (by omega) hf (by rw [drg_f hd]; exact hv1) hT x
  have part : ∀ d i S1 M1 tl, i + d = 13 → (tl = [] ∨ ∃ a : Int32, tl = [(3, Value.int a)]) → Fr [26, 27] M M1 → Vw M1 19 S1 → Els S S1 → hct S1 n < d → prs n w d S1 = prs n w 13 S → zW X 20 2 ((0, .ref 19) :: (1, .int w) :: (2, .int (nI i)) :: tl) [] M1 N (fun v M' N' => v = none ∧ N' = N ∧ Fr [26, 27] M M' ∧ Vw M' 19 (stl S n w) ∧ ∀ k, k < 12 → M' 27 k = Str (stl S n w) n w k) := by
    intro d
    induction d with
    | zero => intro i S1 M1 tl _ _ _ _ _ h _; exact absurd h (Nat.not_lt_zero _)
    | succ d ih =>
      intro i S1 M1 tl hi htl hf hv1 he hct1 hp
      have hn1 : S1 0 = nI n := (els_lo he (by decide)).trans hn
      have hk1 : Kok S1 n := hk.els he
      have go : ∀ M2, Fr [27] M1 M2 → (∀ k, k < 12 → M2 27 k = Str S1 n w k) → zW X 20 18 [(0, .ref 19), (1, .int w), (2, .int (nI i)), (3, .int (fpt S1 n (Str S1 n w)))] [] M2 N (fun v M' N' => v = none ∧ N' = N ∧ Fr [26, 27] M M' ∧ Vw M' 19 (stl S n w) ∧ ∀ k, k < 12 → M' 27 k = Str (stl S n w) n w k) := by
        intro M2 hf2 hT
        have hv2 : Vw M2 19 S1 := hv1.fr1 hf2
        have hf3 : Fr [26, 27] M M2 := hf.trans (hf2.mono (by decide))
        rcases fpt_spec S1 n (Str S1 n w) with ⟨h1, _⟩ | ⟨k, hkn, h1, h2⟩
        · rw [h1]
          refine zs rfl rfl rfl ?_
          refine zs rfl rfl rfl ?_
          refine zs rfl rfl rfl ?_
          refine zs rfl rfl rfl ?_
          refine zs rfl rfl rfl ?_
          have e : prs n w 13 S = S1 := by rw [← hp, prs_0 h1]
          refine drag (Str S1 n w) S1 [] hn1 ?_ ?_ 6 0 M2 rfl hf3 hv2 hT _
          · unfold stl; rw [e]
          · intro k _
            rw [str_stl S h12 w, e]
        · rw [h1]
          refine zs rfl rfl rfl ?_
          refine zbt (nI_pos' (by omega)) rfl rfl rfl ?_
          refine zs rfl rfl rfl ?_
          refine zs rfl rfl rfl ?_
          refine zs rfl rfl rfl ?_
          refine zs rfl rfl rfl ?_
          refine zas rfl rfl rfl rfl (by omega) (by decide) ?_
          refine zinc rfl rfl rfl ?_
          refine zs rfl rfl rfl ?_
          refine ih (i + 1) (upl S1 k (-1)) _ _ (by omega) (Or.inr ⟨_, rfl⟩) (hf3.trans (Fr.up (by decide))) (hv2.upl (by omega) (-1)) (els_upl he k _) (by have := hct_lt hkn (prt_l h2); omega) ?_
          rw [← hp, prs_s h1 (by omega)]
      rcases htl with rfl | ⟨a, rfl⟩
      · refine zs rfl rfl rfl ?_
        refine zs rfl rfl rfl ?_
        refine zbf (nI_nlt (a := 12) (by omega) (by omega)) rfl rfl rfl ?_
        refine zs rfl rfl rfl ?_
        refine zs rfl rfl rfl ?_
        refine zclQ rfl rfl (c_fillStrains_t hv1 hn1 h12 hk1 w) ?_
        rintro v0 M2 N2 ⟨rfl, rfl, hf2, hT⟩
        refine zs rfl rfl rfl ?_
        refine zcl rfl rfl (c_firstToPart_t (hv1.fr1 hf2) hn1 h12 hT) ?_
        refine zs rfl rfl rfl ?_
        exact go M2 hf2 hT
      · refine zs rfl rfl rfl ?_
        refine zs rfl rfl rfl ?_
        refine zbf (nI_nlt (a := 12) (by omega) (by omega)) rfl rfl rfl ?_
        refine zs rfl rfl rfl ?_
        refine zs rfl rfl rfl ?_
        refine zclQ rfl rfl (c_fillStrains_t hv1 hn1 h12 hk1 w) ?_
        rintro v0 M2 N2 ⟨rfl, rfl, hf2, hT⟩
        refine zs rfl rfl rfl ?_
        refine zcl rfl rfl (c_firstToPart_t (hv1.fr1 hf2) hn1 h12 hT) ?_
        refine zs rfl rfl rfl ?_
        exact go M2 hf2 hT
  exact part 13 0 S M [] rfl (Or.inl rfl) Fr.rfl' hv Els.rfl' (by have := hct_le S n; omega) rfl
theorem c_cutOut_t (hv : Vw M 19 S) (hn : S 0 = nI n) (h12 : n ≤ 12) {k : Nat} (hk : k < n) : zV X 22 [.ref 19, .int (nI k)] M N (fun v M' N' => v = some (.int (nI (many (hg S n (nI k))))) ∧ N' = N ∧ Fr [26] M M' ∧ Vw M' 19 (cto S n k)) := by
  refine zVi [(0, .ref 19), (1, .int (nI k))] rfl ?_
  refine zs rfl rfl rfl ?_
  refine zs rfl rfl rfl ?_
  refine zcl rfl rfl (c_hangersOf_t (hv.s0.trans hn) h12 hv.fl (nI k)) ?_
  refine zcl rfl rfl (c_bitCount (hg_lt h12 _)) ?_
  refine zs rfl rfl rfl ?_
  refine zs rfl rfl rfl ?_
  refine zs rfl rfl rfl ?_
  refine zs rfl rfl rfl ?_
  refine zs rfl rfl rfl ?_
  refine zs rfl rfl rfl ?_
  refine zal rfl rfl rfl (by omega) (by decide) ?_
  try refine zto rfl (Vw.fl (by assumption) _ (by omega)) ?_
  refine zclQ rfl rfl (c_hangAll_t hv hn h12 (nI k) (lk S k)) ?_
  rintro v0 M2 N2 ⟨rfl, rfl, hf2, hv2⟩
  refine zs rfl rfl rfl ?_
  refine zs rfl rfl rfl ?_
  refine zs rfl rfl rfl ?_
  refine zs rfl rfl rfl ?_
  refine zas rfl rfl rfl rfl (by omega) (by decide) ?_
  refine zs rfl rfl rfl ?_
  refine zret rfl rfl ⟨rfl, rfl, hf2.trans (Fr.up (by decide)), hv2.upl (by omega) (-1)⟩
theorem c_passHour_t (hv : Vw M 19 S) (hn : S 0 = nI n) (h12 : n ≤ 12) (hk : Kok S n) (w : Int32) : zV X 23 [.ref 19, .int w] M N (fun v M' N' => v = none ∧ N' = N ∧ Fr [19, 25, 26, 27] M M' ∧ Vw M' 19 (phr S n w)) := by
  refine zVi [(0, .ref 19), (1, .int w)] rfl ?_
  refine zs rfl rfl rfl ?_
  refine zs rfl rfl rfl ?_
  refine zs rfl rfl rfl ?_
  refine zs rfl rfl rfl ?_
  refine zs rfl rfl rfl ?_
  refine zclQ rfl rfl (c_settle_t (hv.up2 w) ((s0_up2 S w).trans hn) h12 (hk.of (kd_up2 S · w)) w) ?_
  rintro v0 M0 N0 ⟨rfl, rfl, hf0, hv0, hT0⟩
  have hf0' : Fr [19, 25, 26, 27] M M0 := (Fr.up (by decide)).trans (hf0.mono (by decide))
  refine zs rfl rfl rfl ?_
  refine zs rfl rfl rfl ?_
  have loop : ∀ d i M1, i + d = n → Fr [19, 25, 26, 27] M M1 → (∀ k, k < 12 → M1 27 k = Str (stl (up2 S w) n w) n w k) → Vw M1 19 (wrs (Str (stl (up2 S w) n w) n w) (stl (up2 S w) n w) i) → zW X 23 12 [(0, .ref 19), (1, .int w), (2, .int (nI i))] [] M1 N0 (fun v M' N' => v = none ∧ N' = N0 ∧ Fr [19, 25, 26, 27] M M' ∧ Vw M' 19 (phr S n w)) := by
    intro d
    induction d with
    | zero =>
      intro i M1 hi hf hT hv1
      obtain rfl : i = n := by omega
      have hn0 : M1 19 8 = nI i := by rw [hv1.s0, wrs_lo _ _ _ (by decide), stl_lo _ _ _ (by decide), s0_up2]; exact hn
      refine zs rfl rfl rfl ?_
      refine zs rfl rfl rfl ?_
      refine zs rfl rfl rfl ?_
      try refine zto rfl hn0 ?_
      refine zbt (nI_le (by omega) (by omega)) rfl rfl rfl ?_
      refine zs rfl rfl rfl ?_
      refine zs rfl rfl rfl ?_
      refine zs rfl rfl rfl ?_
      refine zs rfl rfl rfl ?_
      refine zs rfl rfl rfl ?_
      refine zs rfl rfl rfl ?_
      refine zret rfl rfl ⟨rfl, rfl, hf.trans (Fr.up (by decide)), ?_⟩
      have h := hv1.up1 (S 1 + 1)
      have e : M1 19 10 = S 1 := by rw [hv1.s1, wrs_lo _ _ _ (by decide), stl_lo _ _ _ (by decide), s1_up2]
      rw [e]; exact h
    | succ d ih =>
      intro i M1 hi hf hT hv1
      have hn0 : M1 19 8 = nI n := by rw [hv1.s0, wrs_lo _ _ _ (by decide), stl_lo _ _ _ (by decide), s0_up2]; exact hn
      refine zs rfl rfl rfl ?_
      refine zs rfl rfl rfl ?_
      refine zs rfl rfl rfl ?_
      try refine zto rfl hn0 ?_
      refine zbf (nI_ge (by omega) (by omega)) rfl rfl rfl ?_
      refine zs rfl rfl rfl ?_
      refine zs rfl rfl rfl ?_
      refine zs rfl rfl rfl ?_
      refine zal rfl rfl rfl (by omega) (by decide) ?_
      try refine zto rfl (Vw.fl (by assumption) _ (by omega)) ?_
      refine zs rfl rfl rfl ?_
      refine zbr rfl rfl rfl (fun hc => ?_) (fun hc => ?_)
      · refine zinc rfl rfl rfl ?_
        refine zs rfl rfl rfl ?_
        exact ih (i + 1) M1 (by omega) hf hT (by rw [wrs_f (fun q => q.1 hc)]; exact hv1)
      · refine zs rfl rfl rfl ?_
        refine zs rfl rfl rfl ?_
        refine zs rfl rfl rfl ?_
        refine zal rfl rfl rfl (by omega) (by decide) ?_
        try refine zto rfl (hT _ (by omega)) ?_
        refine zs rfl rfl rfl ?_
        refine zs rfl rfl rfl ?_
        refine zcl rfl rfl (c_breaksAt_t hv1 (show i < 12 by omega)) ?_
        refine zs rfl rfl rfl ?_
        refine zs rfl rfl rfl ?_
        refine zbr rfl rfl rfl (fun hb => ?_) (fun hb => ?_)
        · refine zinc rfl rfl rfl ?_
          refine zs rfl rfl rfl ?_
          exact ih (i + 1) M1 (by omega) hf hT (by rw [wrs_f (fun q => i_nlt.mpr hb q.2)]; exact hv1)
        · refine zs rfl rfl rfl ?_
          refine zs rfl rfl rfl ?_
          refine zs rfl rfl rfl ?_
          refine zs rfl rfl rfl ?_
          refine zs rfl rfl rfl ?_
          refine zs rfl rfl rfl ?_
          refine zs rfl rfl rfl ?_
          refine zal rfl rfl rfl (by omega) (by decide) ?_
          try refine zto rfl (Vw.fw (by assumption) _ (by omega)) ?_
          refine zs rfl rfl rfl ?_
          refine zs rfl rfl rfl ?_
          refine zs rfl rfl rfl ?_
          refine zas rfl rfl rfl rfl (by omega) (by decide) ?_
          refine zinc rfl rfl rfl ?_
          refine zs rfl rfl rfl ?_
          refine ih (i + 1) _ (by omega) (hf.trans (Fr.up (by decide))) (fun k hk => ?_) ?_
          · rw [z_up_ne _ _ _ (by decide)]; exact hT k hk
          · rw [wrs_t ⟨hc, i_nle.mp hb⟩]; exact hv1.upw (by omega) _
  exact loop n 0 M0 (Nat.zero_add n) hf0' hT0 hv0
theorem c_allHold_t (hv : Vw M 19 S) (hn : S 0 = nI n) (h12 : n ≤ 12) (hk : Kok S n) (w : Int32) : zV X 24 [.ref 19, .int w] M N (fun v M' N' => v = some (.int (bI (alh S n w))) ∧ N' = N ∧ Fr [27] M M') := by
  refine zVi [(0, .ref 19), (1, .int w)] rfl ?_
  refine zs rfl rfl rfl ?_
  refine zs rfl rfl rfl ?_
  refine zclQ rfl rfl (c_fillStrains_t hv hn h12 hk w) ?_
  rintro v0 M2 N2 ⟨rfl, rfl, hf2, hT⟩
  have hv2 := hv.fr1 hf2
  refine zs rfl rfl rfl ?_
  refine zcl rfl rfl (c_firstToPart_t hv2 hn h12 hT) ?_
  rcases fpt_spec S n (Str S n w) with ⟨h1, _⟩ | ⟨k, hkn, h1, h2⟩
  · unfold alh
    rw [h1]
    refine zs rfl rfl rfl ?_
    refine zs rfl rfl rfl ?_
    refine zs rfl rfl rfl ?_
    have loop : ∀ d i, i + d = 6 → zW X 24 16 [(0, .ref 19), (1, .int w), (2, .int (nI i))] [] M2 N2 (fun v M' N' => v = some (.int (bI (nod S n (Str S n w) d i))) ∧ N' = N2 ∧ Fr [27] M M') := by
      intro d
      induction d with
      | zero =>
        intro i hi
        obtain rfl : i = 6 := by omega
        refine zs rfl rfl rfl ?_
        refine zs rfl rfl rfl ?_
        first | refine zs rfl rfl rfl ?_ | refine zbt (nI_le (a := 6) (by omega) (by omega)) rfl rfl rfl ?_
        refine zs rfl rfl rfl ?_
        exact zret rfl rfl ⟨rfl, rfl, hf2⟩
      | succ d ih =>
        intro i hi
        refine zs rfl rfl rfl ?_
        refine zs rfl rfl rfl ?_
        refine zbf (nI_ge (b := 6) (by omega) (by omega)) rfl rfl rfl ?_
        refine zs rfl rfl rfl ?_
        refine zs rfl rfl rfl ?_
        refine zcl rfl rfl (c_isDragging_t hv2 hn h12 hT (show i < 6 by omega)) ?_
        unfold nod
        cases decide (S (3 + i) < loa S n (Str S n w) (nI (100 + i)))
        · refine zs rfl rfl rfl ?_
          refine zinc rfl rfl rfl ?_
          refine zs rfl rfl rfl ?_
          exact ih (i + 1) (by omega)
        · refine zs rfl rfl rfl ?_
          refine zs rfl rfl rfl ?_
          exact zret rfl rfl ⟨rfl, rfl, hf2⟩
    exact loop 6 0 rfl
  · unfold alh
    rw [h1]
    refine zbf (nI_pos (by omega)) rfl rfl rfl ?_
    refine zs rfl rfl rfl ?_
    refine zret rfl rfl ⟨?_, rfl, hf2⟩
    rw [decide_eq_false (nI_pos (by omega))]; rfl
theorem c_greatestHeld_t (hv : Vw M 19 S) (hn : S 0 = nI n) (h12 : n ≤ 12) (hk : Kok S n) : zV X 25 [.ref 19] M N (fun v M' N' => v = some (.int (ght S n)) ∧ N' = N ∧ Fr [27] M M') := by
  refine zVi [(0, .ref 19)] rfl ?_
  refine zs rfl rfl rfl ?_
  refine zs rfl rfl rfl ?_
  have loop : ∀ d i M1, i + d = 13 → Fr [27] M M1 → zW X 25 2 [(0, .ref 19), (1, .int (nI i))] [] M1 N (fun v M' N' => v = some (.int (nI (gtw (fun w => alh S n (nI w)) d i) - 1)) ∧ N' = N ∧ Fr [27] M M') := by
    intro d
    induction d with
    | zero =>
      intro i M1 hi hf
      obtain rfl : i = 13 := by omega
      refine zs rfl rfl rfl ?_
      refine zs rfl rfl rfl ?_
      first | refine zs rfl rfl rfl ?_ | refine zbt (nI_le (a := 13) (by omega) (by omega)) rfl rfl rfl ?_
      refine zs rfl rfl rfl ?_
      refine zs rfl rfl rfl ?_
      refine zs rfl rfl rfl ?_
      exact zret rfl rfl ⟨rfl, rfl, hf⟩
    | succ d ih =>
      intro i M1 hi hf
      refine zs rfl rfl rfl ?_
      refine zs rfl rfl rfl ?_
      refine zbf (nI_ge (b := 13) (by omega) (by omega)) rfl rfl rfl ?_
      refine zs rfl rfl rfl ?_
      refine zs rfl rfl rfl ?_
      refine zclQ rfl rfl (c_allHold_t (hv.fr1 hf) hn h12 hk (nI i)) ?_
      rintro v0 M2 N2 ⟨rfl, rfl, hf2⟩
      unfold gtw
      cases alh S n (nI i)
      · refine zs rfl rfl rfl ?_
        refine zs rfl rfl rfl ?_
        refine zs rfl rfl rfl ?_
        refine zs rfl rfl rfl ?_
        exact zret rfl rfl ⟨rfl, rfl, hf.trans hf2⟩
      · refine zs rfl rfl rfl ?_
        refine zinc rfl rfl rfl ?_
        refine zs rfl rfl rfl ?_
        exact ih (i + 1) M2 (by omega) (hf.trans hf2)
  exact loop 13 0 M rfl Fr.rfl'
end CLS5
