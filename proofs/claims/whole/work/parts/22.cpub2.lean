/-- scratch cells of the class -/
def sL : List Nat := [9, 19, 20, 21, 22, 23, 24, 25, 26, 27]
/-- kinds above -/
def uf : Nat → Int32 → Int32 → Bool
  | 0, _, _ => false
  | d + 1, k, a => cond (decide (0 ≤ k ∧ k ≤ 5)) (cond (decide (k = a)) true (uf d (z_ka.getD k.toNatClampNeg 0) a)) false
theorem uf_und : ∀ c, c < 6 → ∀ m, m < 6 → uf 6 (nI c) (nI m) = und (nI c) (nI m) := by decide +kernel
def r_cut (S F : zS) (n : Nat) (s : Int32) : zR := if shp n s = true then (if lk S s.toNatClampNeg = -1 then rf S F 4 else (nI (many (hg S n s)), cto S n s.toNatClampNeg, F)) else rf S F 0
def r_canCut (S F : zS) (n : Nat) (s w : Int32) : zR := if shp n s = true then (if 0 ≤ w ∧ w ≤ 12 then (if lk S s.toNatClampNeg = -1 then rf S F 4 else (bI (alh (cto S n s.toNatClampNeg) n w), S, F)) else rf S F 0) else rf S F 0
section CPUB2
variable {X : Nat × (Nat → Int32)} {M M2 : zM} {N : zN} {S F T : zS} {n : Nat}
theorem cC.hF {l : List Nat} (h : cC M S F) (hf : Fr l M M2) (h2 : 35 ∉ l) : ∀ k, k < 7 → M2 35 k = F k := fun k hk => by
  rw [hf 35 h2]; exact h.2 k hk
theorem frs (h : Fr sL M M2) : Fr cL M M2 := h.mono (by decide)
theorem cC.sc (h : cC M S F) (hf : Fr sL M M2) : cC M2 S F := h.fr hf (by decide) (by decide)
theorem cC.n0 (h : cC M S F) (hO : Ok S n) : M 1 8 = nI n := h.1.s0.trans hO.s0
theorem c_ship (hC : cC M S F) (hO : Ok S n) (k s : Int32) : zV X 58 [.ref 0, .int k, .int s] M N (cP M N (r_ship S F n k s)) := by
  refine zVi [(0, .ref 0), (1, .int k), (2, .int s)] rfl ?_
  unfold r_ship
  have hn0 := hC.n0 hO
  have hle := hO.le
  refine zs rfl rfl rfl ?_
  refine zs rfl rfl rfl ?_
  refine zs rfl rfl rfl ?_
  refine zcl rfl rfl (c_isIn k 0 5) ?_
  by_cases h : 0 ≤ k ∧ k ≤ 5
  · rw [decide_eq_true h, if_pos h]
    refine zs rfl rfl rfl ?_
    refine zs rfl rfl rfl ?_
    refine zs rfl rfl rfl ?_
    refine zs rfl rfl rfl ?_
    refine zcl rfl rfl (c_isIn s 1 99) ?_
    by_cases h2 : 1 ≤ s ∧ s ≤ 99
    · rw [decide_eq_true h2, if_pos h2]
      refine zs rfl rfl rfl ?_
      refine zs rfl rfl rfl ?_
      refine zs rfl rfl rfl ?_
      refine zs rfl rfl rfl ?_
      try refine zto rfl hn0 ?_
      refine zs rfl rfl rfl ?_
      by_cases h3 : n < 12
      · rw [if_pos h3]
        first | refine zs rfl rfl rfl ?_ | refine zbt (nI_lt (b := 12) (by omega) (by omega)) rfl rfl rfl ?_
        refine zs rfl rfl rfl ?_
        refine zs rfl rfl rfl ?_
        refine zs rfl rfl rfl ?_
        refine zs rfl rfl rfl ?_
        refine zclQ rfl rfl (c_addShip_h hC.1 hO.s0 h3 k s) ?_
        rintro v0 M2 N2 ⟨rfl, rfl, hf2, hv2⟩
        exact zret rfl rfl (cP_ok (S' := ads S n k s) (F := F) rfl (hf2.mono (by decide)) (⟨hv2, hC.hF hf2 (by decide)⟩))
      · rw [if_neg h3]
        refine zbf (nI_nlt (b := 12) (by omega) (by omega)) rfl rfl rfl ?_
        refine zs rfl rfl rfl ?_
        refine zs rfl rfl rfl ?_
        refine zcl rfl rfl (c_refuse_1) ?_
        exact zret rfl rfl (cP_ref (S := S) (F := F) (c := 1) rfl (Fr.rfl') (hC))
    · rw [decide_eq_false h2, if_neg h2]
      refine zs rfl rfl rfl ?_
      refine zs rfl rfl rfl ?_
      refine zs rfl rfl rfl ?_
      refine zcl rfl rfl (c_refuse_0) ?_
      exact zret rfl rfl (cP_ref (S := S) (F := F) (c := 0) rfl (Fr.rfl') (hC))
  · rw [decide_eq_false h, if_neg h]
    refine zs rfl rfl rfl ?_
    refine zs rfl rfl rfl ?_
    refine zs rfl rfl rfl ?_
    refine zcl rfl rfl (c_refuse_0) ?_
    exact zret rfl rfl (cP_ref (S := S) (F := F) (c := 0) rfl (Fr.rfl') (hC))
theorem c_of (hC : cC M S F) (hO : Ok S n) (s w : Int32) : zV X 59 [.ref 0, .int s, .int w] M N (cP M N (r_of S F n s w)) := by
  refine zVi [(0, .ref 0), (1, .int s), (2, .int w)] rfl ?_
  unfold r_of
  have hv := hC.1
  have hle := hO.le
  have hn0 := hC.n0 hO
  refine zs rfl rfl rfl ?_
  refine zs rfl rfl rfl ?_
  refine zs rfl rfl rfl ?_
  refine zcl rfl rfl (c_hasShip_h hn0 s) ?_
  cases h : shp n s with
  | true =>
    rw [if_pos rfl]
    obtain ⟨j, hj, rfl⟩ := shp_of hle h
    rw [nI_clamp (by omega)]
    refine zs rfl rfl rfl ?_
    refine zs rfl rfl rfl ?_
    by_cases h0 : w = 0
    · subst h0
      rw [if_pos rfl]
      refine zs rfl rfl rfl ?_
      refine zs rfl rfl rfl ?_
      refine zs rfl rfl rfl ?_
      refine zs rfl rfl rfl ?_
      refine zs rfl rfl rfl ?_
      refine zal rfl rfl rfl (by omega) (by decide) ?_
      try refine zto rfl (Vw.fk (by assumption) _ (by omega)) ?_
      exact zret rfl rfl (cP_ok (S' := S) (F := F) rfl (Fr.rfl') (hC))
    by_cases h1 : w = 1
    · subst h1
      rw [if_neg h0, if_pos rfl]
      refine zs rfl rfl rfl ?_
      refine zs rfl rfl rfl ?_
      refine zs rfl rfl rfl ?_
      refine zs rfl rfl rfl ?_
      refine zs rfl rfl rfl ?_
      refine zal rfl rfl rfl (by omega) (by decide) ?_
      try refine zto rfl (Vw.fs (by assumption) _ (by omega)) ?_
      exact zret rfl rfl (cP_ok (S' := S) (F := F) rfl (Fr.rfl') (hC))
    by_cases h2 : w = 2
    · subst h2
      rw [if_neg h0, if_neg h1, if_pos rfl]
      refine zs rfl rfl rfl ?_
      refine zs rfl rfl rfl ?_
      refine zs rfl rfl rfl ?_
      refine zs rfl rfl rfl ?_
      refine zs rfl rfl rfl ?_
      refine zal rfl rfl rfl (by omega) (by decide) ?_
      try refine zto rfl (Vw.fc (by assumption) _ (by omega)) ?_
      exact zret rfl rfl (cP_ok (S' := S) (F := F) rfl (Fr.rfl') (hC))
    by_cases h3 : w = 3
    · subst h3
      rw [if_neg h0, if_neg h1, if_neg h2, if_pos rfl]
      refine zs rfl rfl rfl ?_
      refine zs rfl rfl rfl ?_
      refine zs rfl rfl rfl ?_
      refine zs rfl rfl rfl ?_
      refine zs rfl rfl rfl ?_
      refine zal rfl rfl rfl (by omega) (by decide) ?_
      try refine zto rfl (Vw.fw (by assumption) _ (by omega)) ?_
      exact zret rfl rfl (cP_ok (S' := S) (F := F) rfl (Fr.rfl') (hC))
    by_cases h4 : w = 4
    · subst h4
      rw [if_neg h0, if_neg h1, if_neg h2, if_neg h3, if_pos rfl]
      refine zs rfl rfl rfl ?_
      refine zs rfl rfl rfl ?_
      refine zs rfl rfl rfl ?_
      refine zs rfl rfl rfl ?_
      refine zs rfl rfl rfl ?_
      refine zal rfl rfl rfl (by omega) (by decide) ?_
      try refine zto rfl (Vw.fl (by assumption) _ (by omega)) ?_
      exact zret rfl rfl (cP_ok (S' := S) (F := F) rfl (Fr.rfl') (hC))
    by_cases h5 : w = 5
    · subst h5
      rw [if_neg h0, if_neg h1, if_neg h2, if_neg h3, if_neg h4, if_pos rfl]
      refine zs rfl rfl rfl ?_
      refine zs rfl rfl rfl ?_
      refine zs rfl rfl rfl ?_
      refine zs rfl rfl rfl ?_
      refine zs rfl rfl rfl ?_
      refine zs rfl rfl rfl ?_
      refine zs rfl rfl rfl ?_
      refine zto rfl hv.s2 ?_
      refine zcl rfl rfl (c_pullOf_h hv hO.s0 hle hO.k hj (S 2)) ?_
      exact zret rfl rfl (cP_ok (S' := S) (F := F) rfl (Fr.rfl') (hC))
    by_cases h6 : w = 6
    · subst h6
      rw [if_neg h0, if_neg h1, if_neg h2, if_neg h3, if_neg h4, if_neg h5, if_pos rfl]
      refine zs rfl rfl rfl ?_
      refine zs rfl rfl rfl ?_
      refine zs rfl rfl rfl ?_
      refine zs rfl rfl rfl ?_
      refine zs rfl rfl rfl ?_
      refine zs rfl rfl rfl ?_
      refine zto rfl hv.s2 ?_
      refine zclQ rfl rfl (c_fillStrains_h hv hO.s0 hle hO.k (S 2)) ?_
      rintro v0 M2 N2 ⟨rfl, rfl, hf2, hT⟩
      refine zs rfl rfl rfl ?_
      refine zs rfl rfl rfl ?_
      refine zs rfl rfl rfl ?_
      refine zs rfl rfl rfl ?_
      refine zal rfl rfl rfl (by omega) (by decide) ?_
      try refine zto rfl (hT _ (by omega)) ?_
      exact zret rfl rfl (cP_ok (S' := S) (F := F) rfl (fr9 hf2) (hC.fr hf2 (by decide) (by decide)))
    by_cases h7 : w = 7
    · subst h7
      rw [if_neg h0, if_neg h1, if_neg h2, if_neg h3, if_neg h4, if_neg h5, if_neg h6, if_pos rfl]
      refine zs rfl rfl rfl ?_
      refine zs rfl rfl rfl ?_
      refine zs rfl rfl rfl ?_
      refine zs rfl rfl rfl ?_
      refine zcl rfl rfl (c_breaksAt_h hv (show j < 12 by omega)) ?_
      exact zret rfl rfl (cP_ok (S' := S) (F := F) rfl (Fr.rfl') (hC))
    by_cases h8 : w = 8
    · subst h8
      rw [if_neg h0, if_neg h1, if_neg h2, if_neg h3, if_neg h4, if_neg h5, if_neg h6, if_neg h7, if_pos rfl]
      refine zs rfl rfl rfl ?_
      refine zs rfl rfl rfl ?_
      refine zs rfl rfl rfl ?_
      refine zs rfl rfl rfl ?_
      refine zcl rfl rfl (c_depthOf_h hn0 hle hv.fl (nI j)) ?_
      exact zret rfl rfl (cP_ok (S' := S) (F := F) rfl (Fr.rfl') (hC))
    by_cases h9 : w = 9
    · subst h9
      rw [if_neg h0, if_neg h1, if_neg h2, if_neg h3, if_neg h4, if_neg h5, if_neg h6, if_neg h7, if_neg h8, if_pos rfl]
      refine zs rfl rfl rfl ?_
      refine zs rfl rfl rfl ?_
      refine zs rfl rfl rfl ?_
      refine zs rfl rfl rfl ?_
      refine zcl rfl rfl (c_stringOf_h hn0 hle hv.fl (nI j)) ?_
      exact zret rfl rfl (cP_ok (S' := S) (F := F) rfl (Fr.rfl') (hC))
    rw [if_neg h0, if_neg h1, if_neg h2, if_neg h3, if_neg h4, if_neg h5, if_neg h6, if_neg h7, if_neg h8, if_neg h9]
    refine zsw rfl rfl (ne_rng (k := 10) (by decide) ?_) rfl ?_
    · intro i hi
      match i, hi with
      | 0, _ => exact h0
      | 1, _ => exact h1
      | 2, _ => exact h2
      | 3, _ => exact h3
      | 4, _ => exact h4
      | 5, _ => exact h5
      | 6, _ => exact h6
      | 7, _ => exact h7
      | 8, _ => exact h8
      | 9, _ => exact h9
    refine zs rfl rfl rfl ?_
    refine zs rfl rfl rfl ?_
    refine zcl rfl rfl (c_refuse_0) ?_
    exact zret rfl rfl (cP_ref (S := S) (F := F) (c := 0) rfl (Fr.rfl') (hC))
  | false =>
    rw [if_neg (by decide)]
    refine zs rfl rfl rfl ?_
    refine zs rfl rfl rfl ?_
    refine zs rfl rfl rfl ?_
    refine zcl rfl rfl (c_refuse_0) ?_
    exact zret rfl rfl (cP_ref (S := S) (F := F) (c := 0) rfl (Fr.rfl') (hC))
theorem ne_rng1 {x : Int32} (h1 : x ≠ 1) (h2 : x ≠ 2) (h3 : x ≠ 3) : x.toInt < 1 ∨ (3 : Int) < x.toInt := by
  have e1 : x.toInt ≠ 1 := fun e => h1 (i_eq.mpr (e.trans t_1.symm))
  have e2 : x.toInt ≠ 2 := fun e => h2 (i_eq.mpr (e.trans t_2.symm))
  have e3 : x.toInt ≠ 3 := fun e => h3 (i_eq.mpr (e.trans t_3.symm))
  omega
theorem c_set (hC : cC M S F) (hO : Ok S n) (s w v : Int32) : zV X 60 [.ref 0, .int s, .int w, .int v] M N (cP M N (r_set S F n s w v)) := by
  refine zVi [(0, .ref 0), (1, .int s), (2, .int w), (3, .int v)] rfl ?_
  unfold r_set
  have hv := hC.1
  have hle := hO.le
  have hn0 := hC.n0 hO
  refine zs rfl rfl rfl ?_
  refine zs rfl rfl rfl ?_
  refine zs rfl rfl rfl ?_
  refine zcl rfl rfl (c_hasShip_h hn0 s) ?_
  cases h : shp n s with
  | true =>
    rw [if_pos rfl]
    obtain ⟨j, hj, rfl⟩ := shp_of hle h
    rw [nI_clamp (by omega)]
    have hj12 : j < 12 := by omega
    refine zs rfl rfl rfl ?_
    refine zs rfl rfl rfl ?_
    by_cases h1 : w = 1
    · subst h1
      rw [if_pos rfl]
      refine zs rfl rfl rfl ?_
      refine zs rfl rfl rfl ?_
      refine zs rfl rfl rfl ?_
      refine zs rfl rfl rfl ?_
      refine zs rfl rfl rfl ?_
      refine zs rfl rfl rfl ?_
      refine zs rfl rfl rfl ?_
      refine zs rfl rfl rfl ?_
      refine zs rfl rfl rfl ?_
      refine zclQ rfl rfl (c_put_5 hj12 v 1 99) ?_
      rintro v0 M0 N0 ⟨rfl, ⟨h2, rfl, rfl⟩ | ⟨h2, rfl, rfl⟩⟩
      · rw [if_pos h2]
        refine zto rfl (hv.fs j hj12) ?_
        exact zret rfl rfl (cP_ok (S' := ups S j v) (F := F) rfl (Fr.up (by decide)) (⟨hv.ups hj12 v, hC.F35 (by decide)⟩))
      · rw [if_neg h2]
        exact zret rfl rfl (cP_ref (S := S) (F := F) (c := 0) rfl (Fr.rfl') (hC))
    by_cases h2 : w = 2
    · subst h2
      rw [if_neg h1, if_pos rfl]
      refine zs rfl rfl rfl ?_
      refine zs rfl rfl rfl ?_
      refine zs rfl rfl rfl ?_
      refine zs rfl rfl rfl ?_
      refine zs rfl rfl rfl ?_
      refine zs rfl rfl rfl ?_
      refine zs rfl rfl rfl ?_
      refine zs rfl rfl rfl ?_
      refine zs rfl rfl rfl ?_
      refine zclQ rfl rfl (c_put_6 hj12 v 0 9999) ?_
      rintro v0 M0 N0 ⟨rfl, ⟨h2, rfl, rfl⟩ | ⟨h2, rfl, rfl⟩⟩
      · rw [if_pos h2]
        refine zto rfl (hv.fc j hj12) ?_
        exact zret rfl rfl (cP_ok (S' := upc S j v) (F := F) rfl (Fr.up (by decide)) (⟨hv.upc hj12 v, hC.F35 (by decide)⟩))
      · rw [if_neg h2]
        exact zret rfl rfl (cP_ref (S := S) (F := F) (c := 0) rfl (Fr.rfl') (hC))
    by_cases h3 : w = 3
    · subst h3
      rw [if_neg h1, if_neg h2, if_pos rfl]
      refine zs rfl rfl rfl ?_
      refine zs rfl rfl rfl ?_
      refine zs rfl rfl rfl ?_
      refine zs rfl rfl rfl ?_
      refine zs rfl rfl rfl ?_
      refine zs rfl rfl rfl ?_
      refine zs rfl rfl rfl ?_
      refine zs rfl rfl rfl ?_
      refine zs rfl rfl rfl ?_
      refine zclQ rfl rfl (c_put_7 hj12 v 0 99) ?_
      rintro v0 M0 N0 ⟨rfl, ⟨h2, rfl, rfl⟩ | ⟨h2, rfl, rfl⟩⟩
      · rw [if_pos h2]
        refine zto rfl (hv.fw j hj12) ?_
        exact zret rfl rfl (cP_ok (S' := upw S j v) (F := F) rfl (Fr.up (by decide)) (⟨hv.upw hj12 v, hC.F35 (by decide)⟩))
      · rw [if_neg h2]
        exact zret rfl rfl (cP_ref (S := S) (F := F) (c := 0) rfl (Fr.rfl') (hC))
    rw [if_neg h1, if_neg h2, if_neg h3]
    refine zsw rfl rfl (ne_rng1 h1 h2 h3) rfl ?_
    refine zs rfl rfl rfl ?_
    refine zs rfl rfl rfl ?_
    refine zcl rfl rfl (c_refuse_0) ?_
    exact zret rfl rfl (cP_ref (S := S) (F := F) (c := 0) rfl (Fr.rfl') (hC))
  | false =>
    rw [if_neg (by decide)]
    refine zs rfl rfl rfl ?_
    refine zs rfl rfl rfl ?_
    refine zs rfl rfl rfl ?_
    refine zcl rfl rfl (c_refuse_0) ?_
    exact zret rfl rfl (cP_ref (S := S) (F := F) (c := 0) rfl (Fr.rfl') (hC))
theorem c_hang (hC : cC M S F) (hO : Ok S n) (s t : Int32) : zV X 61 [.ref 0, .int s, .int t] M N (cP M N (r_hang S F n s t)) := by
  refine zVi [(0, .ref 0), (1, .int s), (2, .int t)] rfl ?_
  unfold r_hang
  have hv := hC.1
  have hle := hO.le
  have hn0 := hC.n0 hO
  refine zs rfl rfl rfl ?_
  refine zs rfl rfl rfl ?_
  refine zs rfl rfl rfl ?_
  refine zcl rfl rfl (c_hasShip_h hn0 s) ?_
  cases h : shp n s with
  | true =>
    rw [if_pos rfl]
    obtain ⟨j, hj, rfl⟩ := shp_of hle h
    rw [nI_clamp (by omega)]
    have hj12 : j < 12 := by omega
    refine zs rfl rfl rfl ?_
    refine zs rfl rfl rfl ?_
    refine zs rfl rfl rfl ?_
    refine zs rfl rfl rfl ?_
    refine zcl rfl rfl (c_hasThing_h hn0 t) ?_
    show zW _ _ _ _ [.int (bI (thg n t))] _ _ _
    cases h2 : thg n t with
    | true =>
      rw [if_pos rfl]
      refine zs rfl rfl rfl ?_
      refine zs rfl rfl rfl ?_
      refine zs rfl rfl rfl ?_
      refine zbr rfl rfl rfl (fun hc => ?_) (fun hc => ?_)
      · rw [if_neg hc]
        refine zs rfl rfl rfl ?_
        refine zs rfl rfl rfl ?_
        refine zs rfl rfl rfl ?_
        refine zs rfl rfl rfl ?_
        refine zcl rfl rfl (c_liesOn_h hn0 hle hv.fl t (nI j)) ?_
        cases h3 : lo S n (nI j) 12 t with
        | true =>
          rw [if_pos rfl]
          refine zs rfl rfl rfl ?_
          refine zs rfl rfl rfl ?_
          refine zs rfl rfl rfl ?_
          refine zcl rfl rfl (c_refuse_4) ?_
          exact zret rfl rfl (cP_ref (S := S) (F := F) (c := 4) rfl (Fr.rfl') (hC))
        | false =>
          rw [if_neg (by decide)]
          refine zs rfl rfl rfl ?_
          refine zs rfl rfl rfl ?_
          refine zs rfl rfl rfl ?_
          refine zs rfl rfl rfl ?_
          refine zs rfl rfl rfl ?_
          refine zal rfl rfl rfl (by omega) (by decide) ?_
          try refine zto rfl (Vw.fl (by assumption) _ (by omega)) ?_
          refine zs rfl rfl rfl ?_
          refine zs rfl rfl rfl ?_
          refine zs rfl rfl rfl ?_
          refine zs rfl rfl rfl ?_
          refine zs rfl rfl rfl ?_
          refine zs rfl rfl rfl ?_
          refine zas rfl rfl rfl rfl (by omega) (by decide) ?_
          refine zs rfl rfl rfl ?_
          exact zret rfl rfl (cP_ok (S' := upl S j t) (F := F) rfl (Fr.up (by decide)) (⟨hv.upl hj12 t, hC.F35 (by decide)⟩))
      · rw [if_pos (Decidable.not_not.mp hc)]
        refine zs rfl rfl rfl ?_
        refine zs rfl rfl rfl ?_
        refine zcl rfl rfl (c_refuse_0) ?_
        exact zret rfl rfl (cP_ref (S := S) (F := F) (c := 0) rfl (Fr.rfl') (hC))
    | false =>
      rw [if_neg (by decide)]
      refine zs rfl rfl rfl ?_
      refine zs rfl rfl rfl ?_
      refine zs rfl rfl rfl ?_
      refine zcl rfl rfl (c_refuse_0) ?_
      exact zret rfl rfl (cP_ref (S := S) (F := F) (c := 0) rfl (Fr.rfl') (hC))
  | false =>
    rw [if_neg (by decide)]
    refine zs rfl rfl rfl ?_
    refine zs rfl rfl rfl ?_
    refine zs rfl rfl rfl ?_
    refine zcl rfl rfl (c_refuse_0) ?_
    exact zret rfl rfl (cP_ref (S := S) (F := F) (c := 0) rfl (Fr.rfl') (hC))
theorem c_turn (hC : cC M S F) (hO : Ok S n) (s k : Int32) : zV X 62 [.ref 0, .int s, .int k] M N (cP M N (r_turn S F n s k)) := by
  refine zVi [(0, .ref 0), (1, .int s), (2, .int k)] rfl ?_
  unfold r_turn
  have hv := hC.1
  have hle := hO.le
  have hn0 := hC.n0 hO
  refine zs rfl rfl rfl ?_
  refine zs rfl rfl rfl ?_
  refine zs rfl rfl rfl ?_
  refine zcl rfl rfl (c_hasShip_h hn0 s) ?_
  cases h : shp n s with
  | true =>
    rw [if_pos rfl]
    obtain ⟨j, hj, rfl⟩ := shp_of hle h
    rw [nI_clamp (by omega)]
    have hj12 : j < 12 := by omega
    refine zs rfl rfl rfl ?_
    refine zs rfl rfl rfl ?_
    refine zs rfl rfl rfl ?_
    refine zs rfl rfl rfl ?_
    refine zs rfl rfl rfl ?_
    refine zs rfl rfl rfl ?_
    refine zs rfl rfl rfl ?_
    refine zs rfl rfl rfl ?_
    refine zs rfl rfl rfl ?_
    refine zclQ rfl rfl (c_put_4 hj12 k 0 5) ?_
    rintro v0 M0 N0 ⟨rfl, ⟨h2, rfl, rfl⟩ | ⟨h2, rfl, rfl⟩⟩
    · rw [if_pos h2]
      refine zto rfl (hv.fk j hj12) ?_
      exact zret rfl rfl (cP_ok (S' := upk S j k) (F := F) rfl (Fr.up (by decide)) (⟨hv.upk hj12 k, hC.F35 (by decide)⟩))
    · rw [if_neg h2]
      exact zret rfl rfl (cP_ref (S := S) (F := F) (c := 0) rfl (Fr.rfl') (hC))
  | false =>
    rw [if_neg (by decide)]
    refine zs rfl rfl rfl ?_
    refine zs rfl rfl rfl ?_
    refine zs rfl rfl rfl ?_
    refine zcl rfl rfl (c_refuse_0) ?_
    exact zret rfl rfl (cP_ref (S := S) (F := F) (c := 0) rfl (Fr.rfl') (hC))
theorem c_isUnder (k a : Int32) : zE1 X 111 [.int k, .int a] M N (some (.int (bI (uf 6 k a)))) M N := by
  refine zE1i [(0, .int k), (1, .int a)] rfl ?_
  refine zs rfl rfl rfl ?_
  refine zs rfl rfl rfl ?_
  refine zs rfl rfl rfl ?_
  refine zs rfl rfl rfl ?_
  have loop : ∀ d i k', i + d = 6 → zW X 111 4 [(0, .int k), (1, .int a), (2, .int k'), (3, .int (nI i))] [] M N (fun v1 M1 N1 => v1 = some (.int (bI (uf d k' a))) ∧ M1 = M ∧ N1 = N) := by
    intro d
    induction d with
    | zero =>
      intro i k' hi
      obtain rfl : i = 6 := by omega
      refine zs rfl rfl rfl ?_
      refine zs rfl rfl rfl ?_
      first | refine zs rfl rfl rfl ?_ | refine zbt (nI_le (a := 6) (by omega) (by omega)) rfl rfl rfl ?_
      refine zs rfl rfl rfl ?_
      exact zret rfl rfl ⟨rfl, rfl, rfl⟩
    | succ d ih =>
      intro i k' hi
      refine zs rfl rfl rfl ?_
      refine zs rfl rfl rfl ?_
      refine zbf (nI_ge (b := 6) (by omega) (by omega)) rfl rfl rfl ?_
      refine zs rfl rfl rfl ?_
      refine zs rfl rfl rfl ?_
      refine zs rfl rfl rfl ?_
      refine zcl rfl rfl (c_isIn k' 0 5) ?_
      unfold uf
      by_cases h : 0 ≤ k' ∧ k' ≤ 5
      · rw [decide_eq_true h]
        refine zs rfl rfl rfl ?_
        refine zs rfl rfl rfl ?_
        refine zs rfl rfl rfl ?_
        refine zbr rfl rfl rfl (fun hc => ?_) (fun hc => ?_)
        · rw [decide_eq_false hc]
          obtain ⟨c, hc6, rfl⟩ := r6 h
          rw [nI_clamp (by omega)]
          refine zs rfl rfl rfl ?_
          refine zs rfl rfl rfl ?_
          refine zal rfl rfl rfl (by omega) (by decide) ?_
          refine zs rfl rfl rfl ?_
          refine zinc rfl rfl rfl ?_
          refine zs rfl rfl rfl ?_
          exact ih (i + 1) _ (by omega)
        · rw [decide_eq_true (Decidable.not_not.mp hc)]
          refine zs rfl rfl rfl ?_
          exact zret rfl rfl ⟨rfl, rfl, rfl⟩
      · rw [decide_eq_false h]
        refine zs rfl rfl rfl ?_
        refine zs rfl rfl rfl ?_
        exact zret rfl rfl ⟨rfl, rfl, rfl⟩
  exact loop 6 0 k rfl
theorem c_as (hC : cC M S F) (hO : Ok S n) (s k : Int32) : zV X 63 [.ref 0, .int s, .int k] M N (cP M N (r_as S F n s k)) := by
  refine zVi [(0, .ref 0), (1, .int s), (2, .int k)] rfl ?_
  unfold r_as
  have hv := hC.1
  have hle := hO.le
  have hn0 := hC.n0 hO
  refine zs rfl rfl rfl ?_
  refine zs rfl rfl rfl ?_
  refine zs rfl rfl rfl ?_
  refine zcl rfl rfl (c_hasShip_h hn0 s) ?_
  cases h : shp n s with
  | true =>
    rw [if_pos rfl]
    obtain ⟨j, hj, rfl⟩ := shp_of hle h
    rw [nI_clamp (by omega)]
    have hj12 : j < 12 := by omega
    refine zs rfl rfl rfl ?_
    refine zs rfl rfl rfl ?_
    refine zs rfl rfl rfl ?_
    refine zs rfl rfl rfl ?_
    refine zcl rfl rfl (c_isIn k 0 5) ?_
    by_cases h2 : 0 ≤ k ∧ k ≤ 5
    · rw [decide_eq_true h2, if_pos h2]
      refine zs rfl rfl rfl ?_
      refine zs rfl rfl rfl ?_
      refine zs rfl rfl rfl ?_
      refine zs rfl rfl rfl ?_
      refine zs rfl rfl rfl ?_
      refine zal rfl rfl rfl (by omega) (by decide) ?_
      try refine zto rfl (Vw.fk (by assumption) _ (by omega)) ?_
      refine zs rfl rfl rfl ?_
      refine zcl rfl rfl (c_isUnder (kd S j) k) ?_
      have e : uf 6 (kd S j) k = und (kd S j) k := by
        obtain ⟨c, hc, e1⟩ := hO.k j hj
        obtain ⟨m, hm, rfl⟩ := r6 h2
        rw [e1]; exact uf_und c hc m hm
      rw [e]
      cases und (kd S j) k with
      | true =>
        rw [if_pos rfl]
        refine zs rfl rfl rfl ?_
        refine zs rfl rfl rfl ?_
        refine zs rfl rfl rfl ?_
        refine zs rfl rfl rfl ?_
        refine zs rfl rfl rfl ?_
        refine zal rfl rfl rfl (by omega) (by decide) ?_
        try refine zto rfl (Vw.fs (by assumption) _ (by omega)) ?_
        exact zret rfl rfl (cP_ok (S' := S) (F := F) rfl (Fr.rfl') (hC))
      | false =>
        rw [if_neg (by decide)]
        refine zs rfl rfl rfl ?_
        refine zs rfl rfl rfl ?_
        refine zs rfl rfl rfl ?_
        refine zcl rfl rfl (c_refuse_2) ?_
        exact zret rfl rfl (cP_ref (S := S) (F := F) (c := 2) rfl (Fr.rfl') (hC))
    · rw [decide_eq_false h2, if_neg h2]
      refine zs rfl rfl rfl ?_
      refine zs rfl rfl rfl ?_
      refine zs rfl rfl rfl ?_
      refine zcl rfl rfl (c_refuse_0) ?_
      exact zret rfl rfl (cP_ref (S := S) (F := F) (c := 0) rfl (Fr.rfl') (hC))
  | false =>
    rw [if_neg (by decide)]
    refine zs rfl rfl rfl ?_
    refine zs rfl rfl rfl ?_
    refine zs rfl rfl rfl ?_
    refine zcl rfl rfl (c_refuse_0) ?_
    exact zret rfl rfl (cP_ref (S := S) (F := F) (c := 0) rfl (Fr.rfl') (hC))
theorem c_adrift (hC : cC M S F) (hO : Ok S n) : zV X 67 [.ref 0] M N (cP M N (nI (hg S n (-1)), S, F)) := by
  refine zVi [(0, .ref 0)] rfl ?_
  refine zs rfl rfl rfl ?_
  refine zs rfl rfl rfl ?_
  refine zs rfl rfl rfl ?_
  refine zcl rfl rfl (c_hangersOf_h (hC.n0 hO) hO.le hC.1.fl (-1)) ?_
  exact zret rfl rfl (cP_ok (S' := S) (F := F) rfl (Fr.rfl') (hC))
theorem c_lost (hC : cC M S F) (hO : Ok S n) : zV X 68 [.ref 0] M N (cP M N (nI (aon S n (-1)), S, F)) := by
  refine zVi [(0, .ref 0)] rfl ?_
  refine zs rfl rfl rfl ?_
  refine zs rfl rfl rfl ?_
  refine zs rfl rfl rfl ?_
  refine zcl rfl rfl (c_allOn_h (hC.n0 hO) hO.le hC.1.fl (-1)) ?_
  exact zret rfl rfl (cP_ok (S' := S) (F := F) rfl (Fr.rfl') (hC))
theorem c_now (hC : cC M S F) (hO : Ok S n) (w : Int32) : zV X 69 [.ref 0, .int w] M N (cP M N (r_now S F n w)) := by
  refine zVi [(0, .ref 0), (1, .int w)] rfl ?_
  unfold r_now
  have hv := hC.1
  refine zs rfl rfl rfl ?_
  by_cases h0 : w = 0
  · subst h0
    rw [if_pos rfl]
    refine zs rfl rfl rfl ?_
    refine zs rfl rfl rfl ?_
    refine zs rfl rfl rfl ?_
    refine zs rfl rfl rfl ?_
    refine zto rfl hv.s1 ?_
    exact zret rfl rfl (cP_ok (S' := S) (F := F) rfl (Fr.rfl') (hC))
  by_cases h1 : w = 1
  · subst h1
    rw [if_neg h0, if_pos rfl]
    refine zs rfl rfl rfl ?_
    refine zs rfl rfl rfl ?_
    refine zs rfl rfl rfl ?_
    refine zs rfl rfl rfl ?_
    refine zto rfl hv.s2 ?_
    exact zret rfl rfl (cP_ok (S' := S) (F := F) rfl (Fr.rfl') (hC))
  by_cases h2 : w = 2
  · subst h2
    rw [if_neg h0, if_neg h1, if_pos rfl]
    refine zs rfl rfl rfl ?_
    refine zs rfl rfl rfl ?_
    refine zs rfl rfl rfl ?_
    refine zs rfl rfl rfl ?_
    refine zs rfl rfl rfl ?_
    refine zs rfl rfl rfl ?_
    refine zto rfl hv.s2 ?_
    refine zclQ rfl rfl (c_allLoads_h hv hO.s0 hO.le hO.k (S 2)) ?_
    rintro v0 M2 N2 ⟨rfl, rfl, hf2⟩
    exact zret rfl rfl (cP_ok (S' := S) (F := F) rfl (fr9 hf2) (hC.fr hf2 (by decide) (by decide)))
  by_cases h3 : w = 3
  · subst h3
    rw [if_neg h0, if_neg h1, if_neg h2, if_pos rfl]
    refine zs rfl rfl rfl ?_
    refine zs rfl rfl rfl ?_
    refine zs rfl rfl rfl ?_
    refine zcl rfl rfl (c_greatestDepth_h hv hO.s0 hO.le) ?_
    exact zret rfl rfl (cP_ok (S' := S) (F := F) rfl (Fr.rfl') (hC))
  by_cases h4 : w = 4
  · subst h4
    rw [if_neg h0, if_neg h1, if_neg h2, if_neg h3, if_pos rfl]
    refine zs rfl rfl rfl ?_
    refine zs rfl rfl rfl ?_
    refine zs rfl rfl rfl ?_
    refine zcl rfl rfl (c_allWorn_h hv hO.s0 hO.le) ?_
    exact zret rfl rfl (cP_ok (S' := S) (F := F) rfl (Fr.rfl') (hC))
  rw [if_neg h0, if_neg h1, if_neg h2, if_neg h3, if_neg h4]
  refine zsw rfl rfl (ne_rng (k := 5) (by decide) ?_) rfl ?_
  · intro i hi
    match i, hi with
    | 0, _ => exact h0
    | 1, _ => exact h1
    | 2, _ => exact h2
    | 3, _ => exact h3
    | 4, _ => exact h4
  refine zs rfl rfl rfl ?_
  refine zs rfl rfl rfl ?_
  refine zcl rfl rfl (c_refuse_0) ?_
  exact zret rfl rfl (cP_ref (S := S) (F := F) (c := 0) rfl (Fr.rfl') (hC))
theorem c_would (hC : cC M S F) (hO : Ok S n) (w : Int32) : zV X 70 [.ref 0, .int w] M N (cP M N (r_would S F n w)) := by
  refine zVi [(0, .ref 0), (1, .int w)] rfl ?_
  unfold r_would
  have hv := hC.1
  refine zs rfl rfl rfl ?_
  refine zcl rfl rfl (c_isWind w) ?_
  by_cases h : 0 ≤ w ∧ w ≤ 12
  · rw [decide_eq_true h, if_pos h]
    refine zs rfl rfl rfl ?_
    refine zs rfl rfl rfl ?_
    refine zs rfl rfl rfl ?_
    refine zs rfl rfl rfl ?_
    refine zs rfl rfl rfl ?_
    refine zclQ rfl rfl (c_take_th hv) ?_
    rintro v0 M2 N2 ⟨rfl, rfl, hf2, hv2⟩
    refine zs rfl rfl rfl ?_
    refine zs rfl rfl rfl ?_
    refine zs rfl rfl rfl ?_
    refine zclQ rfl rfl (c_settle_t hv2 hO.s0 hO.le hO.k w) ?_
    rintro v3 M3 N3 ⟨rfl, rfl, hf3, hv3, hT⟩
    have hf : Fr sL M M3 := (hf2.mono (by decide)).trans (hf3.mono (by decide))
    refine zs rfl rfl rfl ?_
    refine zs rfl rfl rfl ?_
    refine zs rfl rfl rfl ?_
    refine zcl rfl rfl (c_hangersOf_t (hv3.s0.trans ((stl_lo S n w (by decide)).trans hO.s0)) hO.le hv3.fl (-1)) ?_
    exact zret rfl rfl (cP_ok (S' := S) (F := F) rfl (frs hf) (hC.sc hf))
  · rw [decide_eq_false h, if_neg h]
    refine zs rfl rfl rfl ?_
    refine zs rfl rfl rfl ?_
    refine zs rfl rfl rfl ?_
    refine zcl rfl rfl (c_refuse_0) ?_
    exact zret rfl rfl (cP_ref (S := S) (F := F) (c := 0) rfl (Fr.rfl') (hC))
theorem c_holds (hC : cC M S F) (hO : Ok S n) : zV X 71 [.ref 0] M N (cP M N (r_holds S F n)) := by
  refine zVi [(0, .ref 0)] rfl ?_
  unfold r_holds
  refine zs rfl rfl rfl ?_
  refine zs rfl rfl rfl ?_
  refine zclQ rfl rfl (c_greatestHeld_h hC.1 hO.s0 hO.le hO.k) ?_
  rintro v0 M2 N2 ⟨rfl, rfl, hf2⟩
  refine zs rfl rfl rfl ?_
  refine zs rfl rfl rfl ?_
  refine zbr rfl rfl rfl (fun hc => ?_) (fun hc => ?_)
  · rw [if_neg (i_nlt.mpr hc)]
    refine zs rfl rfl rfl ?_
    exact zret rfl rfl (cP_ok (S' := S) (F := F) rfl (fr9 hf2) (hC.fr hf2 (by decide) (by decide)))
  · rw [if_pos (i_nle.mp hc)]
    refine zs rfl rfl rfl ?_
    refine zs rfl rfl rfl ?_
    refine zcl rfl rfl (c_refuse_3) ?_
    refine zs rfl rfl rfl ?_
    exact zret rfl rfl (cP_ref (S := S) (F := F) (c := 3) rfl (fr9 hf2) (hC.fr hf2 (by decide) (by decide)))
theorem c_sure (hC : cC M S F) (hO : Ok S n) : zV X 74 [.ref 0] M N (cP M N (r_sure S F n)) := by
  refine zVi [(0, .ref 0)] rfl ?_
  unfold r_sure
  refine zs rfl rfl rfl ?_
  refine zs rfl rfl rfl ?_
  refine zs rfl rfl rfl ?_
  refine zs rfl rfl rfl ?_
  have loop : ∀ d i M1, i + d = 13 → Fr sL M M1 → zW X 74 4 [(0, .ref 0), (1, .int (csum i (fun w => alh S n (nI w)) (fun w => S (9 + w)))), (2, .int (nI i))] [] M1 N (cP M N (csum 13 (fun w => alh S n (nI w)) (fun w => S (9 + w)), S, F)) := by
    intro d
    induction d with
    | zero =>
      intro i M1 hi hf
      obtain rfl : i = 13 := by omega
      refine zs rfl rfl rfl ?_
      refine zs rfl rfl rfl ?_
      first | refine zs rfl rfl rfl ?_ | refine zbt (nI_le (a := 13) (by omega) (by omega)) rfl rfl rfl ?_
      refine zs rfl rfl rfl ?_
      exact zret rfl rfl (cP_ok (S' := S) (F := F) rfl (frs hf) (hC.sc hf))
    | succ d ih =>
      intro i M1 hi hf
      have hv1 := (hC.sc hf).1
      refine zs rfl rfl rfl ?_
      refine zs rfl rfl rfl ?_
      refine zbf (nI_ge (b := 13) (by omega) (by omega)) rfl rfl rfl ?_
      refine zs rfl rfl rfl ?_
      refine zs rfl rfl rfl ?_
      refine zs rfl rfl rfl ?_
      refine zclQ rfl rfl (c_allHold_h hv1 hO.s0 hO.le hO.k (nI i)) ?_
      rintro v0 M2 N2 ⟨rfl, rfl, hf2⟩
      have hf3 : Fr sL M M2 := hf.trans (hf2.mono (by decide))
      have hv2 := (hC.sc hf3).1
      have ih' := ih (i + 1) M2 (by omega) hf3
      cases ha : alh S n (nI i) with
      | true =>
        rw [csum_t ha] at ih'
        refine zs rfl rfl rfl ?_
        refine zs rfl rfl rfl ?_
        refine zs rfl rfl rfl ?_
        refine zs rfl rfl rfl ?_
        refine zs rfl rfl rfl ?_
        refine zs rfl rfl rfl ?_
        refine zal rfl rfl rfl (by omega) (by decide) ?_
        try refine zto rfl (Vw.od (by assumption) _ (by omega)) ?_
        refine zs rfl rfl rfl ?_
        refine zs rfl rfl rfl ?_
        refine zinc rfl rfl rfl ?_
        refine zs rfl rfl rfl ?_
        exact ih'
      | false =>
        rw [csum_f ha] at ih'
        refine zs rfl rfl rfl ?_
        refine zinc rfl rfl rfl ?_
        refine zs rfl rfl rfl ?_
        exact ih'
  exact loop 13 0 M rfl Fr.rfl'
theorem nI0 {a : Nat} (h : a < 2 ^ 31) : nI a = 0 ↔ a = 0 := nI_eq h (by decide)
theorem c_free (hC : cC M S F) (hO : Ok S n) : zV X 75 [.ref 0] M N (cP M N (r_free S F n)) := by
  refine zVi [(0, .ref 0)] rfl ?_
  unfold r_free
  have hn0 := hC.n0 hO
  have hv := hC.1
  have hle := hO.le
  refine zs rfl rfl rfl ?_
  refine zs rfl rfl rfl ?_
  refine zs rfl rfl rfl ?_
  refine zs rfl rfl rfl ?_
  have loop : ∀ d i, i + d = n → zW X 75 4 [(0, .ref 0), (1, .int (nI (bset i (fun k => decide (lk S k ≠ -1) && decide (hg S n (nI k) = 0))))), (2, .int (nI i))] [] M N (cP M N (nI (bset n (fun k => decide (lk S k ≠ -1) && decide (hg S n (nI k) = 0))), S, F)) := by
    intro d
    induction d with
    | zero =>
      intro i hi
      obtain rfl : i = n := by omega
      refine zs rfl rfl rfl ?_
      refine zs rfl rfl rfl ?_
      refine zs rfl rfl rfl ?_
      refine zs rfl rfl rfl ?_
      try refine zto rfl hn0 ?_
      refine zbt (nI_le (by omega) (by omega)) rfl rfl rfl ?_
      refine zs rfl rfl rfl ?_
      exact zret rfl rfl (cP_ok (S' := S) (F := F) rfl (Fr.rfl') (hC))
    | succ d ih =>
      intro i hi
      have ih' := ih (i + 1) (by omega)
      refine zs rfl rfl rfl ?_
      refine zs rfl rfl rfl ?_
      refine zs rfl rfl rfl ?_
      refine zs rfl rfl rfl ?_
      try refine zto rfl hn0 ?_
      refine zbf (nI_ge (by omega) (by omega)) rfl rfl rfl ?_
      refine zs rfl rfl rfl ?_
      refine zs rfl rfl rfl ?_
      refine zs rfl rfl rfl ?_
      refine zs rfl rfl rfl ?_
      refine zal rfl rfl rfl (by omega) (by decide) ?_
      try refine zto rfl (Vw.fl (by assumption) _ (by omega)) ?_
      refine zs rfl rfl rfl ?_
      refine zbr rfl rfl rfl (fun hc => ?_) (fun hc => ?_)
      · rw [bset_f (by rw [decide_eq_false (not_not_intro hc)]; rfl)] at ih'
        refine zinc rfl rfl rfl ?_
        refine zs rfl rfl rfl ?_
        exact ih'
      · refine zs rfl rfl rfl ?_
        refine zs rfl rfl rfl ?_
        refine zs rfl rfl rfl ?_
        refine zcl rfl rfl (c_hangersOf_h hn0 hle hv.fl (nI i)) ?_
        refine zbr rfl rfl rfl (fun hb => ?_) (fun hb => ?_)
        · rw [bset_f (by rw [decide_eq_false (fun q => hb ((nI0 (by have := hg_lt (S := S) hle (nI i); omega)).mpr q)), Bool.and_false])] at ih'
          refine zinc rfl rfl rfl ?_
          refine zs rfl rfl rfl ?_
          exact ih'
        · rw [bset_t (by rw [decide_eq_true hc, decide_eq_true ((nI0 (by have := hg_lt (S := S) hle (nI i); omega)).mp (Decidable.not_not.mp hb))]; rfl)] at ih'
          refine zs rfl rfl rfl ?_
          refine zs rfl rfl rfl ?_
          refine zs rfl rfl rfl ?_
          refine zs rfl rfl rfl ?_
          refine zs rfl rfl rfl ?_
          refine zto rfl (or_bit (bset_lt _ _) (by omega)) ?_
          refine zs rfl rfl rfl ?_
          refine zinc rfl rfl rfl ?_
          refine zs rfl rfl rfl ?_
          exact ih'
  exact loop n 0 (Nat.zero_add n)
theorem stg_lt (h12 : n ≤ 12) (t : Int32) : stg S n t < 4096 := Nat.lt_of_lt_of_le (bset_lt _ _) (Nat.pow_le_pow_right (by decide) h12 : 2 ^ n ≤ 2 ^ 12)
theorem c_ahead (hC : cC M S F) (hO : Ok S n) (s : Int32) : zV X 76 [.ref 0, .int s] M N (cP M N (r_ahead S F n s)) := by
  refine zVi [(0, .ref 0), (1, .int s)] rfl ?_
  unfold r_ahead
  have hn0 := hC.n0 hO
  refine zs rfl rfl rfl ?_
  refine zs rfl rfl rfl ?_
  refine zs rfl rfl rfl ?_
  refine zcl rfl rfl (c_hasShip_h hn0 s) ?_
  cases h : shp n s with
  | true =>
    rw [if_pos rfl]
    refine zs rfl rfl rfl ?_
    refine zs rfl rfl rfl ?_
    refine zs rfl rfl rfl ?_
    refine zs rfl rfl rfl ?_
    refine zcl rfl rfl (c_stringOf_h hn0 hO.le hC.1.fl s) ?_
    refine zcl rfl rfl (c_bitCount (stg_lt hO.le _)) ?_
    refine zs rfl rfl rfl ?_
    refine zs rfl rfl rfl ?_
    exact zret rfl rfl (cP_ok (S' := S) (F := F) rfl (Fr.rfl') (hC))
  | false =>
    rw [if_neg (by decide)]
    refine zs rfl rfl rfl ?_
    refine zs rfl rfl rfl ?_
    refine zs rfl rfl rfl ?_
    refine zcl rfl rfl (c_refuse_0) ?_
    exact zret rfl rfl (cP_ref (S := S) (F := F) (c := 0) rfl (Fr.rfl') (hC))
theorem c_cut (hC : cC M S F) (hO : Ok S n) (s : Int32) : zV X 79 [.ref 0, .int s] M N (cP M N (r_cut S F n s)) := by
  refine zVi [(0, .ref 0), (1, .int s)] rfl ?_
  unfold r_cut
  have hn0 := hC.n0 hO
  have hv := hC.1
  have hle := hO.le
  refine zs rfl rfl rfl ?_
  refine zs rfl rfl rfl ?_
  refine zs rfl rfl rfl ?_
  refine zcl rfl rfl (c_hasShip_h hn0 s) ?_
  cases h : shp n s with
  | true =>
    rw [if_pos rfl]
    obtain ⟨j, hj, rfl⟩ := shp_of hle h
    rw [nI_clamp (by omega)]
    refine zs rfl rfl rfl ?_
    refine zs rfl rfl rfl ?_
    refine zs rfl rfl rfl ?_
    refine zs rfl rfl rfl ?_
    refine zs rfl rfl rfl ?_
    refine zal rfl rfl rfl (by omega) (by decide) ?_
    try refine zto rfl (Vw.fl (by assumption) _ (by omega)) ?_
    refine zs rfl rfl rfl ?_
    refine zbr rfl rfl rfl (fun hc => ?_) (fun hc => ?_)
    · rw [if_neg hc]
      refine zs rfl rfl rfl ?_
      refine zs rfl rfl rfl ?_
      refine zs rfl rfl rfl ?_
      refine zclQ rfl rfl (c_cutOut_h hv hO.s0 hle hj) ?_
      rintro v0 M2 N2 ⟨rfl, rfl, hf2, hv2⟩
      exact zret rfl rfl (cP_ok (S' := cto S n j) (F := F) rfl (hf2.mono (by decide)) (⟨hv2, hC.hF hf2 (by decide)⟩))
    · rw [if_pos (Decidable.not_not.mp hc)]
      refine zs rfl rfl rfl ?_
      refine zs rfl rfl rfl ?_
      refine zcl rfl rfl (c_refuse_4) ?_
      exact zret rfl rfl (cP_ref (S := S) (F := F) (c := 4) rfl (Fr.rfl') (hC))
  | false =>
    rw [if_neg (by decide)]
    refine zs rfl rfl rfl ?_
    refine zs rfl rfl rfl ?_
    refine zs rfl rfl rfl ?_
    refine zcl rfl rfl (c_refuse_0) ?_
    exact zret rfl rfl (cP_ref (S := S) (F := F) (c := 0) rfl (Fr.rfl') (hC))
theorem cto_s0 (S : zS) (n k : Nat) : cto S n k 0 = S 0 := (s0_upl _ _ _).trans (els_lo (els_hal _ _ n) (by decide))
theorem cto_kd (S : zS) (n k j : Nat) : kd (cto S n k) j = kd S j := (kd_upl _ _ _ _).trans (els_kd (els_hal _ _ n) j)
theorem c_canCut (hC : cC M S F) (hO : Ok S n) (s w : Int32) : zV X 80 [.ref 0, .int s, .int w] M N (cP M N (r_canCut S F n s w)) := by
  refine zVi [(0, .ref 0), (1, .int s), (2, .int w)] rfl ?_
  unfold r_canCut
  have hn0 := hC.n0 hO
  have hv := hC.1
  have hle := hO.le
  refine zs rfl rfl rfl ?_
  refine zs rfl rfl rfl ?_
  refine zs rfl rfl rfl ?_
  refine zcl rfl rfl (c_hasShip_h hn0 s) ?_
  cases h : shp n s with
  | true =>
    rw [if_pos rfl]
    obtain ⟨j, hj, rfl⟩ := shp_of hle h
    rw [nI_clamp (by omega)]
    refine zs rfl rfl rfl ?_
    refine zs rfl rfl rfl ?_
    refine zcl rfl rfl (c_isWind w) ?_
    by_cases h2 : 0 ≤ w ∧ w ≤ 12
    · rw [decide_eq_true h2, if_pos h2]
      refine zs rfl rfl rfl ?_
      refine zs rfl rfl rfl ?_
      refine zs rfl rfl rfl ?_
      refine zs rfl rfl rfl ?_
      refine zs rfl rfl rfl ?_
      refine zal rfl rfl rfl (by omega) (by decide) ?_
      try refine zto rfl (Vw.fl (by assumption) _ (by omega)) ?_
      refine zs rfl rfl rfl ?_
      refine zbr rfl rfl rfl (fun hc => ?_) (fun hc => ?_)
      · rw [if_neg hc]
        refine zs rfl rfl rfl ?_
        refine zs rfl rfl rfl ?_
        refine zs rfl rfl rfl ?_
        refine zs rfl rfl rfl ?_
        refine zclQ rfl rfl (c_take_th hv) ?_
        rintro v0 M2 N2 ⟨rfl, rfl, hf2, hv2⟩
        refine zs rfl rfl rfl ?_
        refine zs rfl rfl rfl ?_
        refine zs rfl rfl rfl ?_
        refine zclQ rfl rfl (c_cutOut_t hv2 hO.s0 hle hj) ?_
        rintro v3 M3 N3 ⟨rfl, rfl, hf3, hv3⟩
        refine zs rfl rfl rfl ?_
        refine zs rfl rfl rfl ?_
        refine zs rfl rfl rfl ?_
        refine zs rfl rfl rfl ?_
        refine zclQ rfl rfl (c_allHold_t hv3 ((cto_s0 S n j).trans hO.s0) hle (hO.k.of (cto_kd S n j)) w) ?_
        rintro v4 M4 N4 ⟨rfl, rfl, hf4⟩
        have hf : Fr sL M M4 := ((hf2.mono (by decide)).trans (hf3.mono (by decide))).trans (hf4.mono (by decide))
        cases alh (cto S n j) n w
        · refine zs rfl rfl rfl ?_
          refine zs rfl rfl rfl ?_
          exact zret rfl rfl (cP_ok (S' := S) (F := F) rfl (frs hf) (hC.sc hf))
        · refine zs rfl rfl rfl ?_
          refine zs rfl rfl rfl ?_
          refine zs rfl rfl rfl ?_
          exact zret rfl rfl (cP_ok (S' := S) (F := F) rfl (frs hf) (hC.sc hf))
      · rw [if_pos (Decidable.not_not.mp hc)]
        refine zs rfl rfl rfl ?_
        refine zs rfl rfl rfl ?_
        refine zcl rfl rfl (c_refuse_4) ?_
        exact zret rfl rfl (cP_ref (S := S) (F := F) (c := 4) rfl (Fr.rfl') (hC))
    · rw [decide_eq_false h2, if_neg h2]
      refine zs rfl rfl rfl ?_
      refine zs rfl rfl rfl ?_
      refine zs rfl rfl rfl ?_
      refine zcl rfl rfl (c_refuse_0) ?_
      exact zret rfl rfl (cP_ref (S := S) (F := F) (c := 0) rfl (Fr.rfl') (hC))
  | false =>
    rw [if_neg (by decide)]
    refine zs rfl rfl rfl ?_
    refine zs rfl rfl rfl ?_
    refine zs rfl rfl rfl ?_
    refine zcl rfl rfl (c_refuse_0) ?_
    exact zret rfl rfl (cP_ref (S := S) (F := F) (c := 0) rfl (Fr.rfl') (hC))
end CPUB2
