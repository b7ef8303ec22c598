/-! Copies between the class's sheets; the calls on sheets whole. -/
theorem hrw_of {l : Nat} (hl : l ≤ 40) {f m : Int32} (h : hrw l f m) : ∃ a b, f = nI a ∧ m = nI b ∧ a + b ≤ l := by
  obtain ⟨h1, h2, h3, h4⟩ := h
  obtain ⟨a, ha, rfl⟩ := nI_of (i_nlt.mpr h1)
  obtain ⟨b, hb, rfl⟩ := nI_of (i_nlt.mpr h2)
  have hbl : b ≤ l := (nI_leI hb (by omega)).mp h3
  obtain ⟨c, rfl⟩ : ∃ c, l = c + b := ⟨l - b, by omega⟩
  rw [nI_sub] at h4
  have := (nI_leI ha (by omega)).mp h4
  exact ⟨a, b, rfl, rfl, by omega⟩
section CSHT3
variable {X : Nat × (Nat → Int32)} {j pc : Nat} {L : zL} {st r : List Value} {M M2 : zM} {N N2 : zN} {S F : zS} {B : zB} {Q : Option Value → zM → zN → Prop} {n : Nat}
theorem zcpL {nx tg b q0 q1 f g m : Nat} {v : Value} {ic : Nat} {r0 r1 : List (Option Nat)} (he : z_P j pc = some (.invokestatic ic, nx, tg, 999, b, v)) (hst : st = .int (nI m) :: .int (nI g) :: .ref q1 :: .int (nI f) :: .ref q0 :: r) (hr : Nat.ble (z_sum r) 8 = true) (hq0 : Nat.blt q0 56 = true) (hq1 : Nat.blt q1 56 = true) (hz0 : z_lay.get q0 = (1, 40, r0)) (hz1 : z_lay.get q1 = (1, 40, r1)) (h0 : f + m ≤ 40) (h1 : g + m ≤ 40) (k : zW X j nx L r M (z_rowL N q1 (va_cpy (N q0) (N q1) f g m)) Q) : zW X j pc L st M N Q := by
  subst hst
  refine zs he (M' := M) (N' := z_rowL N q1 (va_cpy (N q0) (N q1) f g m)) (L' := L) (st' := r) (pc' := nx) ?_ rfl k
  have e1 : Nat.beq 999 996 = false := rfl
  have e2 : Nat.beq 999 995 = false := rfl
  have e3 : Nat.beq 999 999 = true := rfl
  simp only [z_stp, z_hop2]
  rw [e1, e2, e3, hr, hq0, hq1, hz0, hz1]
  simp only [cond_false, cond_true, Bool.and_self]
  have hno : ¬ (nI f < 0 ∨ nI g < 0 ∨ nI m < 0 ∨ 40 < (nI f).toNatClampNeg + (nI m).toNatClampNeg ∨ 40 < (nI g).toNatClampNeg + (nI m).toNatClampNeg) := by
    rw [nI_clamp (by omega), nI_clamp (by omega), nI_clamp (by omega)]
    rintro (q | q | q | q | q)
    · exact nI_pos (by omega) q
    · exact nI_pos (by omega) q
    · exact nI_pos (by omega) q
    · omega
    · omega
  rw [if_neg hno, nI_clamp (by omega), nI_clamp (by omega), nI_clamp (by omega)]
theorem c_copy_00 (hC : cC M S F) (hS : cS M N B) (hB : Sok B) (f g m : Int32) : zV X 91 [.ref 0, .int (nI 0), .int f, .int (nI 0), .int g, .int m] M N (cX M N (r_copy S F B (nI 0) f (nI 0) g m)) := by
  refine zVi [(0, .ref 0), (1, .int (nI 0)), (2, .int f), (3, .int (nI 0)), (4, .int g), (5, .int m)] rfl ?_
  unfold r_copy
  have hS0 := hS 0 (by decide)
  have hS1 := hS 0 (by decide)
  have hB0 := (hB 0 (by decide)).1
  have hB1 := (hB 0 (by decide)).1
  rw [if_pos (by decide), if_pos (by decide), nI_clamp (by decide)]
  try rw [nI_clamp (by decide)]
  refine zs rfl rfl rfl ?_
  refine zs rfl rfl rfl ?_
  refine zcl rfl rfl (c_sheetAt_0) ?_
  refine zs rfl rfl rfl ?_
  refine zs rfl rfl rfl ?_
  refine zs rfl rfl rfl ?_
  refine zcl rfl rfl (c_sheetAt_0) ?_
  refine zs rfl rfl rfl ?_
  refine zs rfl rfl rfl ?_
  refine zs rfl rfl rfl ?_
  refine zs rfl rfl rfl ?_
  refine zs rfl rfl rfl ?_
  refine zs rfl rfl rfl ?_
  refine zcl rfl rfl (c_isMissing_0 hS0.1) ?_
  by_cases h : B.1 0 = 0
  · rw [decide_eq_true h, if_pos h]
    refine zs rfl rfl rfl ?_
    refine zs rfl rfl rfl ?_
    refine zs rfl rfl rfl ?_
    refine zcl rfl rfl (c_refuse_5) ?_
    exact zret rfl rfl (cX_ref (c := 5) rfl Fr.rfl' hC hS)
  · rw [decide_eq_false h, if_neg h]
    refine zs rfl rfl rfl ?_
    refine zs rfl rfl rfl ?_
    refine zcl rfl rfl (c_isMissing_0 hS1.1) ?_
    by_cases h2 : B.1 0 = 0
    · rw [decide_eq_true h2, if_pos h2]
      refine zs rfl rfl rfl ?_
      refine zs rfl rfl rfl ?_
      refine zs rfl rfl rfl ?_
      refine zcl rfl rfl (c_refuse_5) ?_
      exact zret rfl rfl (cX_ref (c := 5) rfl Fr.rfl' hC hS)
    · rw [decide_eq_false h2, if_neg h2]
      refine zs rfl rfl rfl ?_
      refine zs rfl rfl rfl ?_
      refine zs rfl rfl rfl ?_
      refine zto rfl hS0.1 ?_
      refine zs rfl rfl rfl ?_
      refine zs rfl rfl rfl ?_
      refine zto rfl hS1.1 ?_
      by_cases h3 : B.1 0 = B.1 0
      · rw [if_pos h3]
        refine zbt (h3) rfl rfl rfl ?_
        refine zs rfl rfl rfl ?_
        refine zs rfl rfl rfl ?_
        refine zs rfl rfl rfl ?_
        refine zcl rfl rfl (c_hasRow_0 hS0.2.1 f m) ?_
        by_cases h4 : hrw (B.2.1 0) f m
        · rw [decide_eq_true h4, if_pos h4]
          refine zs rfl rfl rfl ?_
          refine zs rfl rfl rfl ?_
          refine zs rfl rfl rfl ?_
          refine zs rfl rfl rfl ?_
          refine zcl rfl rfl (c_hasRow_0 hS1.2.1 g m) ?_
          by_cases h5 : hrw (B.2.1 0) g m
          · rw [decide_eq_true h5, if_pos h5]
            obtain ⟨a, b, rfl, rfl, hab⟩ := hrw_of hB0 h4
            obtain ⟨c, d, rfl, hd, hcd⟩ := hrw_of hB1 h5
            have hbd : b = d := by
              have q := congrArg Int32.toNatClampNeg hd
              have hb1 : b ≤ 40 := by omega
              have hd1 : d ≤ 40 := by omega
              rwa [nI_clamp (by omega), nI_clamp (by omega)] at q
            subst hbd
            refine zs rfl rfl rfl ?_
            refine zs rfl rfl rfl ?_
            refine zs rfl rfl rfl ?_
            refine zs rfl rfl rfl ?_
            refine zs rfl rfl rfl ?_
            refine zs rfl rfl rfl ?_
            refine zs rfl rfl rfl ?_
            refine zs rfl rfl rfl ?_
            refine zcpL rfl rfl rfl rfl rfl rfl rfl (by omega) (by omega) ?_
            refine zs rfl rfl rfl ?_
            rw [nI_clamp (by omega), nI_clamp (by omega), nI_clamp (by omega)]
            refine zret rfl rfl (cX_ok rfl Fr.rfl' hC (hS.up (t := 0) (by decide) (fun b hb => z_rowL_ne N _ hb) (fun i hi => ?_)) (z_rowL_ne N _ (by decide)))
            show z_rowL N 37 _ 37 i = _
            rw [z_rowL_same]
            unfold va_cpy
            by_cases q : c ≤ i ∧ i < c + b
            · rw [if_pos q, if_pos q]
              exact hS0.2.2 _ (by omega)
            · rw [if_neg q, if_neg q]
              exact hS1.2.2 i hi
          · rw [decide_eq_false h5, if_neg h5]
            refine zs rfl rfl rfl ?_
            refine zs rfl rfl rfl ?_
            refine zs rfl rfl rfl ?_
            refine zcl rfl rfl (c_refuse_0) ?_
            exact zret rfl rfl (cX_ref (c := 0) rfl Fr.rfl' hC hS)
        · rw [decide_eq_false h4, if_neg h4]
          refine zs rfl rfl rfl ?_
          refine zs rfl rfl rfl ?_
          refine zs rfl rfl rfl ?_
          refine zcl rfl rfl (c_refuse_0) ?_
          exact zret rfl rfl (cX_ref (c := 0) rfl Fr.rfl' hC hS)
      · rw [if_neg h3]
        refine zbf (h3) rfl rfl rfl ?_
        refine zs rfl rfl rfl ?_
        refine zs rfl rfl rfl ?_
        refine zcl rfl rfl (c_refuse_2) ?_
        exact zret rfl rfl (cX_ref (c := 2) rfl Fr.rfl' hC hS)
theorem c_copy_01 (hC : cC M S F) (hS : cS M N B) (hB : Sok B) (f g m : Int32) : zV X 91 [.ref 0, .int (nI 0), .int f, .int (nI 1), .int g, .int m] M N (cX M N (r_copy S F B (nI 0) f (nI 1) g m)) := by
  refine zVi [(0, .ref 0), (1, .int (nI 0)), (2, .int f), (3, .int (nI 1)), (4, .int g), (5, .int m)] rfl ?_
  unfold r_copy
  have hS0 := hS 0 (by decide)
  have hS1 := hS 1 (by decide)
  have hB0 := (hB 0 (by decide)).1
  have hB1 := (hB 1 (by decide)).1
  rw [if_pos (by decide), if_pos (by decide), nI_clamp (by decide)]
  try rw [nI_clamp (by decide)]
  refine zs rfl rfl rfl ?_
  refine zs rfl rfl rfl ?_
  refine zcl rfl rfl (c_sheetAt_0) ?_
  refine zs rfl rfl rfl ?_
  refine zs rfl rfl rfl ?_
  refine zs rfl rfl rfl ?_
  refine zcl rfl rfl (c_sheetAt_1) ?_
  refine zs rfl rfl rfl ?_
  refine zs rfl rfl rfl ?_
  refine zs rfl rfl rfl ?_
  refine zs rfl rfl rfl ?_
  refine zs rfl rfl rfl ?_
  refine zs rfl rfl rfl ?_
  refine zcl rfl rfl (c_isMissing_0 hS0.1) ?_
  by_cases h : B.1 0 = 0
  · rw [decide_eq_true h, if_pos h]
    refine zs rfl rfl rfl ?_
    refine zs rfl rfl rfl ?_
    refine zs rfl rfl rfl ?_
    refine zcl rfl rfl (c_refuse_5) ?_
    exact zret rfl rfl (cX_ref (c := 5) rfl Fr.rfl' hC hS)
  · rw [decide_eq_false h, if_neg h]
    refine zs rfl rfl rfl ?_
    refine zs rfl rfl rfl ?_
    refine zcl rfl rfl (c_isMissing_1 hS1.1) ?_
    by_cases h2 : B.1 1 = 0
    · rw [decide_eq_true h2, if_pos h2]
      refine zs rfl rfl rfl ?_
      refine zs rfl rfl rfl ?_
      refine zs rfl rfl rfl ?_
      refine zcl rfl rfl (c_refuse_5) ?_
      exact zret rfl rfl (cX_ref (c := 5) rfl Fr.rfl' hC hS)
    · rw [decide_eq_false h2, if_neg h2]
      refine zs rfl rfl rfl ?_
      refine zs rfl rfl rfl ?_
      refine zs rfl rfl rfl ?_
      refine zto rfl hS0.1 ?_
      refine zs rfl rfl rfl ?_
      refine zs rfl rfl rfl ?_
      refine zto rfl hS1.1 ?_
      by_cases h3 : B.1 0 = B.1 1
      · rw [if_pos h3]
        refine zbt (h3) rfl rfl rfl ?_
        refine zs rfl rfl rfl ?_
        refine zs rfl rfl rfl ?_
        refine zs rfl rfl rfl ?_
        refine zcl rfl rfl (c_hasRow_0 hS0.2.1 f m) ?_
        by_cases h4 : hrw (B.2.1 0) f m
        · rw [decide_eq_true h4, if_pos h4]
          refine zs rfl rfl rfl ?_
          refine zs rfl rfl rfl ?_
          refine zs rfl rfl rfl ?_
          refine zs rfl rfl rfl ?_
          refine zcl rfl rfl (c_hasRow_1 hS1.2.1 g m) ?_
          by_cases h5 : hrw (B.2.1 1) g m
          · rw [decide_eq_true h5, if_pos h5]
            obtain ⟨a, b, rfl, rfl, hab⟩ := hrw_of hB0 h4
            obtain ⟨c, d, rfl, hd, hcd⟩ := hrw_of hB1 h5
            have hbd : b = d := by
              have q := congrArg Int32.toNatClampNeg hd
              have hb1 : b ≤ 40 := by omega
              have hd1 : d ≤ 40 := by omega
              rwa [nI_clamp (by omega), nI_clamp (by omega)] at q
            subst hbd
            refine zs rfl rfl rfl ?_
            refine zs rfl rfl rfl ?_
            refine zs rfl rfl rfl ?_
            refine zs rfl rfl rfl ?_
            refine zs rfl rfl rfl ?_
            refine zs rfl rfl rfl ?_
            refine zs rfl rfl rfl ?_
            refine zs rfl rfl rfl ?_
            refine zcpL rfl rfl rfl rfl rfl rfl rfl (by omega) (by omega) ?_
            refine zs rfl rfl rfl ?_
            rw [nI_clamp (by omega), nI_clamp (by omega), nI_clamp (by omega)]
            refine zret rfl rfl (cX_ok rfl Fr.rfl' hC (hS.up (t := 1) (by decide) (fun b hb => z_rowL_ne N _ hb) (fun i hi => ?_)) (z_rowL_ne N _ (by decide)))
            show z_rowL N 39 _ 39 i = _
            rw [z_rowL_same]
            unfold va_cpy
            by_cases q : c ≤ i ∧ i < c + b
            · rw [if_pos q, if_pos q]
              exact hS0.2.2 _ (by omega)
            · rw [if_neg q, if_neg q]
              exact hS1.2.2 i hi
          · rw [decide_eq_false h5, if_neg h5]
            refine zs rfl rfl rfl ?_
            refine zs rfl rfl rfl ?_
            refine zs rfl rfl rfl ?_
            refine zcl rfl rfl (c_refuse_0) ?_
            exact zret rfl rfl (cX_ref (c := 0) rfl Fr.rfl' hC hS)
        · rw [decide_eq_false h4, if_neg h4]
          refine zs rfl rfl rfl ?_
          refine zs rfl rfl rfl ?_
          refine zs rfl rfl rfl ?_
          refine zcl rfl rfl (c_refuse_0) ?_
          exact zret rfl rfl (cX_ref (c := 0) rfl Fr.rfl' hC hS)
      · rw [if_neg h3]
        refine zbf (h3) rfl rfl rfl ?_
        refine zs rfl rfl rfl ?_
        refine zs rfl rfl rfl ?_
        refine zcl rfl rfl (c_refuse_2) ?_
        exact zret rfl rfl (cX_ref (c := 2) rfl Fr.rfl' hC hS)
theorem c_copy_02 (hC : cC M S F) (hS : cS M N B) (hB : Sok B) (f g m : Int32) : zV X 91 [.ref 0, .int (nI 0), .int f, .int (nI 2), .int g, .int m] M N (cX M N (r_copy S F B (nI 0) f (nI 2) g m)) := by
  refine zVi [(0, .ref 0), (1, .int (nI 0)), (2, .int f), (3, .int (nI 2)), (4, .int g), (5, .int m)] rfl ?_
  unfold r_copy
  have hS0 := hS 0 (by decide)
  have hS1 := hS 2 (by decide)
  have hB0 := (hB 0 (by decide)).1
  have hB1 := (hB 2 (by decide)).1
  rw [if_pos (by decide), if_pos (by decide), nI_clamp (by decide)]
  try rw [nI_clamp (by decide)]
  refine zs rfl rfl rfl ?_
  refine zs rfl rfl rfl ?_
  refine zcl rfl rfl (c_sheetAt_0) ?_
  refine zs rfl rfl rfl ?_
  refine zs rfl rfl rfl ?_
  refine zs rfl rfl rfl ?_
  refine zcl rfl rfl (c_sheetAt_2) ?_
  refine zs rfl rfl rfl ?_
  refine zs rfl rfl rfl ?_
  refine zs rfl rfl rfl ?_
  refine zs rfl rfl rfl ?_
  refine zs rfl rfl rfl ?_
  refine zs rfl rfl rfl ?_
  refine zcl rfl rfl (c_isMissing_0 hS0.1) ?_
  by_cases h : B.1 0 = 0
  · rw [decide_eq_true h, if_pos h]
    refine zs rfl rfl rfl ?_
    refine zs rfl rfl rfl ?_
    refine zs rfl rfl rfl ?_
    refine zcl rfl rfl (c_refuse_5) ?_
    exact zret rfl rfl (cX_ref (c := 5) rfl Fr.rfl' hC hS)
  · rw [decide_eq_false h, if_neg h]
    refine zs rfl rfl rfl ?_
    refine zs rfl rfl rfl ?_
    refine zcl rfl rfl (c_isMissing_2 hS1.1) ?_
    by_cases h2 : B.1 2 = 0
    · rw [decide_eq_true h2, if_pos h2]
      refine zs rfl rfl rfl ?_
      refine zs rfl rfl rfl ?_
      refine zs rfl rfl rfl ?_
      refine zcl rfl rfl (c_refuse_5) ?_
      exact zret rfl rfl (cX_ref (c := 5) rfl Fr.rfl' hC hS)
    · rw [decide_eq_false h2, if_neg h2]
      refine zs rfl rfl rfl ?_
      refine zs rfl rfl rfl ?_
      refine zs rfl rfl rfl ?_
      refine zto rfl hS0.1 ?_
      refine zs rfl rfl rfl ?_
      refine zs rfl rfl rfl ?_
      refine zto rfl hS1.1 ?_
      by_cases h3 : B.1 0 = B.1 2
      · rw [if_pos h3]
        refine zbt (h3) rfl rfl rfl ?_
        refine zs rfl rfl rfl ?_
        refine zs rfl rfl rfl ?_
        refine zs rfl rfl rfl ?_
        refine zcl rfl rfl (c_hasRow_0 hS0.2.1 f m) ?_
        by_cases h4 : hrw (B.2.1 0) f m
        · rw [decide_eq_true h4, if_pos h4]
          refine zs rfl rfl rfl ?_
          refine zs rfl rfl rfl ?_
          refine zs rfl rfl rfl ?_
          refine zs rfl rfl rfl ?_
          refine zcl rfl rfl (c_hasRow_2 hS1.2.1 g m) ?_
          by_cases h5 : hrw (B.2.1 2) g m
          · rw [decide_eq_true h5, if_pos h5]
            obtain ⟨a, b, rfl, rfl, hab⟩ := hrw_of hB0 h4
            obtain ⟨c, d, rfl, hd, hcd⟩ := hrw_of hB1 h5
            have hbd : b = d := by
              have q := congrArg Int32.toNatClampNeg hd
              have hb1 : b ≤ 40 := by omega
              have hd1 : d ≤ 40 := by omega
              rwa [nI_clamp (by omega), nI_clamp (by omega)] at q
            subst hbd
            refine zs rfl rfl rfl ?_
            refine zs rfl rfl rfl ?_
            refine zs rfl rfl rfl ?_
            refine zs rfl rfl rfl ?_
            refine zs rfl rfl rfl ?_
            refine zs rfl rfl rfl ?_
            refine zs rfl rfl rfl ?_
            refine zs rfl rfl rfl ?_
            refine zcpL rfl rfl rfl rfl rfl rfl rfl (by omega) (by omega) ?_
            refine zs rfl rfl rfl ?_
            rw [nI_clamp (by omega), nI_clamp (by omega), nI_clamp (by omega)]
            refine zret rfl rfl (cX_ok rfl Fr.rfl' hC (hS.up (t := 2) (by decide) (fun b hb => z_rowL_ne N _ hb) (fun i hi => ?_)) (z_rowL_ne N _ (by decide)))
            show z_rowL N 41 _ 41 i = _
            rw [z_rowL_same]
            unfold va_cpy
            by_cases q : c ≤ i ∧ i < c + b
            · rw [if_pos q, if_pos q]
              exact hS0.2.2 _ (by omega)
            · rw [if_neg q, if_neg q]
              exact hS1.2.2 i hi
          · rw [decide_eq_false h5, if_neg h5]
            refine zs rfl rfl rfl ?_
            refine zs rfl rfl rfl ?_
            refine zs rfl rfl rfl ?_
            refine zcl rfl rfl (c_refuse_0) ?_
            exact zret rfl rfl (cX_ref (c := 0) rfl Fr.rfl' hC hS)
        · rw [decide_eq_false h4, if_neg h4]
          refine zs rfl rfl rfl ?_
          refine zs rfl rfl rfl ?_
          refine zs rfl rfl rfl ?_
          refine zcl rfl rfl (c_refuse_0) ?_
          exact zret rfl rfl (cX_ref (c := 0) rfl Fr.rfl' hC hS)
      · rw [if_neg h3]
        refine zbf (h3) rfl rfl rfl ?_
        refine zs rfl rfl rfl ?_
        refine zs rfl rfl rfl ?_
        refine zcl rfl rfl (c_refuse_2) ?_
        exact zret rfl rfl (cX_ref (c := 2) rfl Fr.rfl' hC hS)
theorem c_copy_03 (hC : cC M S F) (hS : cS M N B) (hB : Sok B) (f g m : Int32) : zV X 91 [.ref 0, .int (nI 0), .int f, .int (nI 3), .int g, .int m] M N (cX M N (r_copy S F B (nI 0) f (nI 3) g m)) := by
  refine zVi [(0, .ref 0), (1, .int (nI 0)), (2, .int f), (3, .int (nI 3)), (4, .int g), (5, .int m)] rfl ?_
  unfold r_copy
  have hS0 := hS 0 (by decide)
  have hS1 := hS 3 (by decide)
  have hB0 := (hB 0 (by decide)).1
  have hB1 := (hB 3 (by decide)).1
  rw [if_pos (by decide), if_pos (by decide), nI_clamp (by decide)]
  try rw [nI_clamp (by decide)]
  refine zs rfl rfl rfl ?_
  refine zs rfl rfl rfl ?_
  refine zcl rfl rfl (c_sheetAt_0) ?_
  refine zs rfl rfl rfl ?_
  refine zs rfl rfl rfl ?_
  refine zs rfl rfl rfl ?_
  refine zcl rfl rfl (c_sheetAt_3) ?_
  refine zs rfl rfl rfl ?_
  refine zs rfl rfl rfl ?_
  refine zs rfl rfl rfl ?_
  refine zs rfl rfl rfl ?_
  refine zs rfl rfl rfl ?_
  refine zs rfl rfl rfl ?_
  refine zcl rfl rfl (c_isMissing_0 hS0.1) ?_
  by_cases h : B.1 0 = 0
  · rw [decide_eq_true h, if_pos h]
    refine zs rfl rfl rfl ?_
    refine zs rfl rfl rfl ?_
    refine zs rfl rfl rfl ?_
    refine zcl rfl rfl (c_refuse_5) ?_
    exact zret rfl rfl (cX_ref (c := 5) rfl Fr.rfl' hC hS)
  · rw [decide_eq_false h, if_neg h]
    refine zs rfl rfl rfl ?_
    refine zs rfl rfl rfl ?_
    refine zcl rfl rfl (c_isMissing_3 hS1.1) ?_
    by_cases h2 : B.1 3 = 0
    · rw [decide_eq_true h2, if_pos h2]
      refine zs rfl rfl rfl ?_
      refine zs rfl rfl rfl ?_
      refine zs rfl rfl rfl ?_
      refine zcl rfl rfl (c_refuse_5) ?_
      exact zret rfl rfl (cX_ref (c := 5) rfl Fr.rfl' hC hS)
    · rw [decide_eq_false h2, if_neg h2]
      refine zs rfl rfl rfl ?_
      refine zs rfl rfl rfl ?_
      refine zs rfl rfl rfl ?_
      refine zto rfl hS0.1 ?_
      refine zs rfl rfl rfl ?_
      refine zs rfl rfl rfl ?_
      refine zto rfl hS1.1 ?_
      by_cases h3 : B.1 0 = B.1 3
      · rw [if_pos h3]
        refine zbt (h3) rfl rfl rfl ?_
        refine zs rfl rfl rfl ?_
        refine zs rfl rfl rfl ?_
        refine zs rfl rfl rfl ?_
        refine zcl rfl rfl (c_hasRow_0 hS0.2.1 f m) ?_
        by_cases h4 : hrw (B.2.1 0) f m
        · rw [decide_eq_true h4, if_pos h4]
          refine zs rfl rfl rfl ?_
          refine zs rfl rfl rfl ?_
          refine zs rfl rfl rfl ?_
          refine zs rfl rfl rfl ?_
          refine zcl rfl rfl (c_hasRow_3 hS1.2.1 g m) ?_
          by_cases h5 : hrw (B.2.1 3) g m
          · rw [decide_eq_true h5, if_pos h5]
            obtain ⟨a, b, rfl, rfl, hab⟩ := hrw_of hB0 h4
            obtain ⟨c, d, rfl, hd, hcd⟩ := hrw_of hB1 h5
            have hbd : b = d := by
              have q := congrArg Int32.toNatClampNeg hd
              have hb1 : b ≤ 40 := by omega
              have hd1 : d ≤ 40 := by omega
              rwa [nI_clamp (by omega), nI_clamp (by omega)] at q
            subst hbd
            refine zs rfl rfl rfl ?_
            refine zs rfl rfl rfl ?_
            refine zs rfl rfl rfl ?_
            refine zs rfl rfl rfl ?_
            refine zs rfl rfl rfl ?_
            refine zs rfl rfl rfl ?_
            refine zs rfl rfl rfl ?_
            refine zs rfl rfl rfl ?_
            refine zcpL rfl rfl rfl rfl rfl rfl rfl (by omega) (by omega) ?_
            refine zs rfl rfl rfl ?_
            rw [nI_clamp (by omega), nI_clamp (by omega), nI_clamp (by omega)]
            refine zret rfl rfl (cX_ok rfl Fr.rfl' hC (hS.up (t := 3) (by decide) (fun b hb => z_rowL_ne N _ hb) (fun i hi => ?_)) (z_rowL_ne N _ (by decide)))
            show z_rowL N 43 _ 43 i = _
            rw [z_rowL_same]
            unfold va_cpy
            by_cases q : c ≤ i ∧ i < c + b
            · rw [if_pos q, if_pos q]
              exact hS0.2.2 _ (by omega)
            · rw [if_neg q, if_neg q]
              exact hS1.2.2 i hi
          · rw [decide_eq_false h5, if_neg h5]
            refine zs rfl rfl rfl ?_
            refine zs rfl rfl rfl ?_
            refine zs rfl rfl rfl ?_
            refine zcl rfl rfl (c_refuse_0) ?_
            exact zret rfl rfl (cX_ref (c := 0) rfl Fr.rfl' hC hS)
        · rw [decide_eq_false h4, if_neg h4]
          refine zs rfl rfl rfl ?_
          refine zs rfl rfl rfl ?_
          refine zs rfl rfl rfl ?_
          refine zcl rfl rfl (c_refuse_0) ?_
          exact zret rfl rfl (cX_ref (c := 0) rfl Fr.rfl' hC hS)
      · rw [if_neg h3]
        refine zbf (h3) rfl rfl rfl ?_
        refine zs rfl rfl rfl ?_
        refine zs rfl rfl rfl ?_
        refine zcl rfl rfl (c_refuse_2) ?_
        exact zret rfl rfl (cX_ref (c := 2) rfl Fr.rfl' hC hS)
theorem c_copy_10 (hC : cC M S F) (hS : cS M N B) (hB : Sok B) (f g m : Int32) : zV X 91 [.ref 0, .int (nI 1), .int f, .int (nI 0), .int g, .int m] M N (cX M N (r_copy S F B (nI 1) f (nI 0) g m)) := by
  refine zVi [(0, .ref 0), (1, .int (nI 1)), (2, .int f), (3, .int (nI 0)), (4, .int g), (5, .int m)] rfl ?_
  unfold r_copy
  have hS0 := hS 1 (by decide)
  have hS1 := hS 0 (by decide)
  have hB0 := (hB 1 (by decide)).1
  have hB1 := (hB 0 (by decide)).1
  rw [if_pos (by decide), if_pos (by decide), nI_clamp (by decide)]
  try rw [nI_clamp (by decide)]
  refine zs rfl rfl rfl ?_
  refine zs rfl rfl rfl ?_
  refine zcl rfl rfl (c_sheetAt_1) ?_
  refine zs rfl rfl rfl ?_
  refine zs rfl rfl rfl ?_
  refine zs rfl rfl rfl ?_
  refine zcl rfl rfl (c_sheetAt_0) ?_
  refine zs rfl rfl rfl ?_
  refine zs rfl rfl rfl ?_
  refine zs rfl rfl rfl ?_
  refine zs rfl rfl rfl ?_
  refine zs rfl rfl rfl ?_
  refine zs rfl rfl rfl ?_
  refine zcl rfl rfl (c_isMissing_1 hS0.1) ?_
  by_cases h : B.1 1 = 0
  · rw [decide_eq_true h, if_pos h]
    refine zs rfl rfl rfl ?_
    refine zs rfl rfl rfl ?_
    refine zs rfl rfl rfl ?_
    refine zcl rfl rfl (c_refuse_5) ?_
    exact zret rfl rfl (cX_ref (c := 5) rfl Fr.rfl' hC hS)
  · rw [decide_eq_false h, if_neg h]
    refine zs rfl rfl rfl ?_
    refine zs rfl rfl rfl ?_
    refine zcl rfl rfl (c_isMissing_0 hS1.1) ?_
    by_cases h2 : B.1 0 = 0
    · rw [decide_eq_true h2, if_pos h2]
      refine zs rfl rfl rfl ?_
      refine zs rfl rfl rfl ?_
      refine zs rfl rfl rfl ?_
      refine zcl rfl rfl (c_refuse_5) ?_
      exact zret rfl rfl (cX_ref (c := 5) rfl Fr.rfl' hC hS)
    · rw [decide_eq_false h2, if_neg h2]
      refine zs rfl rfl rfl ?_
      refine zs rfl rfl rfl ?_
      refine zs rfl rfl rfl ?_
      refine zto rfl hS0.1 ?_
      refine zs rfl rfl rfl ?_
      refine zs rfl rfl rfl ?_
      refine zto rfl hS1.1 ?_
      by_cases h3 : B.1 1 = B.1 0
      · rw [if_pos h3]
        refine zbt (h3) rfl rfl rfl ?_
        refine zs rfl rfl rfl ?_
        refine zs rfl rfl rfl ?_
        refine zs rfl rfl rfl ?_
        refine zcl rfl rfl (c_hasRow_1 hS0.2.1 f m) ?_
        by_cases h4 : hrw (B.2.1 1) f m
        · rw [decide_eq_true h4, if_pos h4]
          refine zs rfl rfl rfl ?_
          refine zs rfl rfl rfl ?_
          refine zs rfl rfl rfl ?_
          refine zs rfl rfl rfl ?_
          refine zcl rfl rfl (c_hasRow_0 hS1.2.1 g m) ?_
          by_cases h5 : hrw (B.2.1 0) g m
          · rw [decide_eq_true h5, if_pos h5]
            obtain ⟨a, b, rfl, rfl, hab⟩ := hrw_of hB0 h4
            obtain ⟨c, d, rfl, hd, hcd⟩ := hrw_of hB1 h5
            have hbd : b = d := by
              have q := congrArg Int32.toNatClampNeg hd
              have hb1 : b ≤ 40 := by omega
              have hd1 : d ≤ 40 := by omega
              rwa [nI_clamp (by omega), nI_clamp (by omega)] at q
            subst hbd
            refine zs rfl rfl rfl ?_
            refine zs rfl rfl rfl ?_
            refine zs rfl rfl rfl ?_
            refine zs rfl rfl rfl ?_
            refine zs rfl rfl rfl ?_
            refine zs rfl rfl rfl ?_
            refine zs rfl rfl rfl ?_
            refine zs rfl rfl rfl ?_
            refine zcpL rfl rfl rfl rfl rfl rfl rfl (by omega) (by omega) ?_
            refine zs rfl rfl rfl ?_
            rw [nI_clamp (by omega), nI_clamp (by omega), nI_clamp (by omega)]
            refine zret rfl rfl (cX_ok rfl Fr.rfl' hC (hS.up (t := 0) (by decide) (fun b hb => z_rowL_ne N _ hb) (fun i hi => ?_)) (z_rowL_ne N _ (by decide)))
            show z_rowL N 37 _ 37 i = _
            rw [z_rowL_same]
            unfold va_cpy
            by_cases q : c ≤ i ∧ i < c + b
            · rw [if_pos q, if_pos q]
              exact hS0.2.2 _ (by omega)
            · rw [if_neg q, if_neg q]
              exact hS1.2.2 i hi
          · rw [decide_eq_false h5, if_neg h5]
            refine zs rfl rfl rfl ?_
            refine zs rfl rfl rfl ?_
            refine zs rfl rfl rfl ?_
            refine zcl rfl rfl (c_refuse_0) ?_
            exact zret rfl rfl (cX_ref (c := 0) rfl Fr.rfl' hC hS)
        · rw [decide_eq_false h4, if_neg h4]
          refine zs rfl rfl rfl ?_
          refine zs rfl rfl rfl ?_
          refine zs rfl rfl rfl ?_
          refine zcl rfl rfl (c_refuse_0) ?_
          exact zret rfl rfl (cX_ref (c := 0) rfl Fr.rfl' hC hS)
      · rw [if_neg h3]
        refine zbf (h3) rfl rfl rfl ?_
        refine zs rfl rfl rfl ?_
        refine zs rfl rfl rfl ?_
        refine zcl rfl rfl (c_refuse_2) ?_
        exact zret rfl rfl (cX_ref (c := 2) rfl Fr.rfl' hC hS)
theorem c_copy_11 (hC : cC M S F) (hS : cS M N B) (hB : Sok B) (f g m : Int32) : zV X 91 [.ref 0, .int (nI 1), .int f, .int (nI 1), .int g, .int m] M N (cX M N (r_copy S F B (nI 1) f (nI 1) g m)) := by
  refine zVi [(0, .ref 0), (1, .int (nI 1)), (2, .int f), (3, .int (nI 1)), (4, .int g), (5, .int m)] rfl ?_
  unfold r_copy
  have hS0 := hS 1 (by decide)
  have hS1 := hS 1 (by decide)
  have hB0 := (hB 1 (by decide)).1
  have hB1 := (hB 1 (by decide)).1
  rw [if_pos (by decide), if_pos (by decide), nI_clamp (by decide)]
  try rw [nI_clamp (by decide)]
  refine zs rfl rfl rfl ?_
  refine zs rfl rfl rfl ?_
  refine zcl rfl rfl (c_sheetAt_1) ?_
  refine zs rfl rfl rfl ?_
  refine zs rfl rfl rfl ?_
  refine zs rfl rfl rfl ?_
  refine zcl rfl rfl (c_sheetAt_1) ?_
  refine zs rfl rfl rfl ?_
  refine zs rfl rfl rfl ?_
  refine zs rfl rfl rfl ?_
  refine zs rfl rfl rfl ?_
  refine zs rfl rfl rfl ?_
  refine zs rfl rfl rfl ?_
  refine zcl rfl rfl (c_isMissing_1 hS0.1) ?_
  by_cases h : B.1 1 = 0
  · rw [decide_eq_true h, if_pos h]
    refine zs rfl rfl rfl ?_
    refine zs rfl rfl rfl ?_
    refine zs rfl rfl rfl ?_
    refine zcl rfl rfl (c_refuse_5) ?_
    exact zret rfl rfl (cX_ref (c := 5) rfl Fr.rfl' hC hS)
  · rw [decide_eq_false h, if_neg h]
    refine zs rfl rfl rfl ?_
    refine zs rfl rfl rfl ?_
    refine zcl rfl rfl (c_isMissing_1 hS1.1) ?_
    by_cases h2 : B.1 1 = 0
    · rw [decide_eq_true h2, if_pos h2]
      refine zs rfl rfl rfl ?_
      refine zs rfl rfl rfl ?_
      refine zs rfl rfl rfl ?_
      refine zcl rfl rfl (c_refuse_5) ?_
      exact zret rfl rfl (cX_ref (c := 5) rfl Fr.rfl' hC hS)
    · rw [decide_eq_false h2, if_neg h2]
      refine zs rfl rfl rfl ?_
      refine zs rfl rfl rfl ?_
      refine zs rfl rfl rfl ?_
      refine zto rfl hS0.1 ?_
      refine zs rfl rfl rfl ?_
      refine zs rfl rfl rfl ?_
      refine zto rfl hS1.1 ?_
      by_cases h3 : B.1 1 = B.1 1
      · rw [if_pos h3]
        refine zbt (h3) rfl rfl rfl ?_
        refine zs rfl rfl rfl ?_
        refine zs rfl rfl rfl ?_
        refine zs rfl rfl rfl ?_
        refine zcl rfl rfl (c_hasRow_1 hS0.2.1 f m) ?_
        by_cases h4 : hrw (B.2.1 1) f m
        · rw [decide_eq_true h4, if_pos h4]
          refine zs rfl rfl rfl ?_
          refine zs rfl rfl rfl ?_
          refine zs rfl rfl rfl ?_
          refine zs rfl rfl rfl ?_
          refine zcl rfl rfl (c_hasRow_1 hS1.2.1 g m) ?_
          by_cases h5 : hrw (B.2.1 1) g m
          · rw [decide_eq_true h5, if_pos h5]
            obtain ⟨a, b, rfl, rfl, hab⟩ := hrw_of hB0 h4
            obtain ⟨c, d, rfl, hd, hcd⟩ := hrw_of hB1 h5
            have hbd : b = d := by
              have q := congrArg Int32.toNatClampNeg hd
              have hb1 : b ≤ 40 := by omega
              have hd1 : d ≤ 40 := by omega
              rwa [nI_clamp (by omega), nI_clamp (by omega)] at q
            subst hbd
            refine zs rfl rfl rfl ?_
            refine zs rfl rfl rfl ?_
            refine zs rfl rfl rfl ?_
            refine zs rfl rfl rfl ?_
            refine zs rfl rfl rfl ?_
            refine zs rfl rfl rfl ?_
            refine zs rfl rfl rfl ?_
            refine zs rfl rfl rfl ?_
            refine zcpL rfl rfl rfl rfl rfl rfl rfl (by omega) (by omega) ?_
            refine zs rfl rfl rfl ?_
            rw [nI_clamp (by omega), nI_clamp (by omega), nI_clamp (by omega)]
            refine zret rfl rfl (cX_ok rfl Fr.rfl' hC (hS.up (t := 1) (by decide) (fun b hb => z_rowL_ne N _ hb) (fun i hi => ?_)) (z_rowL_ne N _ (by decide)))
            show z_rowL N 39 _ 39 i = _
            rw [z_rowL_same]
            unfold va_cpy
            by_cases q : c ≤ i ∧ i < c + b
            · rw [if_pos q, if_pos q]
              exact hS0.2.2 _ (by omega)
            · rw [if_neg q, if_neg q]
              exact hS1.2.2 i hi
          · rw [decide_eq_false h5, if_neg h5]
            refine zs rfl rfl rfl ?_
            refine zs rfl rfl rfl ?_
            refine zs rfl rfl rfl ?_
            refine zcl rfl rfl (c_refuse_0) ?_
            exact zret rfl rfl (cX_ref (c := 0) rfl Fr.rfl' hC hS)
        · rw [decide_eq_false h4, if_neg h4]
          refine zs rfl rfl rfl ?_
          refine zs rfl rfl rfl ?_
          refine zs rfl rfl rfl ?_
          refine zcl rfl rfl (c_refuse_0) ?_
          exact zret rfl rfl (cX_ref (c := 0) rfl Fr.rfl' hC hS)
      · rw [if_neg h3]
        refine zbf (h3) rfl rfl rfl ?_
        refine zs rfl rfl rfl ?_
        refine zs rfl rfl rfl ?_
        refine zcl rfl rfl (c_refuse_2) ?_
        exact zret rfl rfl (cX_ref (c := 2) rfl Fr.rfl' hC hS)
theorem c_copy_12 (hC : cC M S F) (hS : cS M N B) (hB : Sok B) (f g m : Int32) : zV X 91 [.ref 0, .int (nI 1), .int f, .int (nI 2), .int g, .int m] M N (cX M N (r_copy S F B (nI 1) f (nI 2) g m)) := by
  refine zVi [(0, .ref 0), (1, .int (nI 1)), (2, .int f), (3, .int (nI 2)), (4, .int g), (5, .int m)] rfl ?_
  unfold r_copy
  have hS0 := hS 1 (by decide)
  have hS1 := hS 2 (by decide)
  have hB0 := (hB 1 (by decide)).1
  have hB1 := (hB 2 (by decide)).1
  rw [if_pos (by decide), if_pos (by decide), nI_clamp (by decide)]
  try rw [nI_clamp (by decide)]
  refine zs rfl rfl rfl ?_
  refine zs rfl rfl rfl ?_
  refine zcl rfl rfl (c_sheetAt_1) ?_
  refine zs rfl rfl rfl ?_
  refine zs rfl rfl rfl ?_
  refine zs rfl rfl rfl ?_
  refine zcl rfl rfl (c_sheetAt_2) ?_
  refine zs rfl rfl rfl ?_
  refine zs rfl rfl rfl ?_
  refine zs rfl rfl rfl ?_
  refine zs rfl rfl rfl ?_
  refine zs rfl rfl rfl ?_
  refine zs rfl rfl rfl ?_
  refine zcl rfl rfl (c_isMissing_1 hS0.1) ?_
  by_cases h : B.1 1 = 0
  · rw [decide_eq_true h, if_pos h]
    refine zs rfl rfl rfl ?_
    refine zs rfl rfl rfl ?_
    refine zs rfl rfl rfl ?_
    refine zcl rfl rfl (c_refuse_5) ?_
    exact zret rfl rfl (cX_ref (c := 5) rfl Fr.rfl' hC hS)
  · rw [decide_eq_false h, if_neg h]
    refine zs rfl rfl rfl ?_
    refine zs rfl rfl rfl ?_
    refine zcl rfl rfl (c_isMissing_2 hS1.1) ?_
    by_cases h2 : B.1 2 = 0
    · rw [decide_eq_true h2, if_pos h2]
      refine zs rfl rfl rfl ?_
      refine zs rfl rfl rfl ?_
      refine zs rfl rfl rfl ?_
      refine zcl rfl rfl (c_refuse_5) ?_
      exact zret rfl rfl (cX_ref (c := 5) rfl Fr.rfl' hC hS)
    · rw [decide_eq_false h2, if_neg h2]
      refine zs rfl rfl rfl ?_
      refine zs rfl rfl rfl ?_
      refine zs rfl rfl rfl ?_
      refine zto rfl hS0.1 ?_
      refine zs rfl rfl rfl ?_
      refine zs rfl rfl rfl ?_
      refine zto rfl hS1.1 ?_
      by_cases h3 : B.1 1 = B.1 2
      · rw [if_pos h3]
        refine zbt (h3) rfl rfl rfl ?_
        refine zs rfl rfl rfl ?_
        refine zs rfl rfl rfl ?_
        refine zs rfl rfl rfl ?_
        refine zcl rfl rfl (c_hasRow_1 hS0.2.1 f m) ?_
        by_cases h4 : hrw (B.2.1 1) f m
        · rw [decide_eq_true h4, if_pos h4]
          refine zs rfl rfl rfl ?_
          refine zs rfl rfl rfl ?_
          refine zs rfl rfl rfl ?_
          refine zs rfl rfl rfl ?_
          refine zcl rfl rfl (c_hasRow_2 hS1.2.1 g m) ?_
          by_cases h5 : hrw (B.2.1 2) g m
          · rw [decide_eq_true h5, if_pos h5]
            obtain ⟨a, b, rfl, rfl, hab⟩ := hrw_of hB0 h4
            obtain ⟨c, d, rfl, hd, hcd⟩ := hrw_of hB1 h5
            have hbd : b = d := by
              have q := congrArg Int32.toNatClampNeg hd
              have hb1 : b ≤ 40 := by omega
              have hd1 : d ≤ 40 := by omega
              rwa [nI_clamp (by omega), nI_clamp (by omega)] at q
            subst hbd
            refine zs rfl rfl rfl ?_
            refine zs rfl rfl rfl ?_
            refine zs rfl rfl rfl ?_
            refine zs rfl rfl rfl ?_
            refine zs rfl rfl rfl ?_
            refine zs rfl rfl rfl ?_
            refine zs rfl rfl rfl ?_
            refine zs rfl rfl rfl ?_
            refine zcpL rfl rfl rfl rfl rfl rfl rfl (by omega) (by omega) ?_
            refine zs rfl rfl rfl ?_
            rw [nI_clamp (by omega), nI_clamp (by omega), nI_clamp (by omega)]
            refine zret rfl rfl (cX_ok rfl Fr.rfl' hC (hS.up (t := 2) (by decide) (fun b hb => z_rowL_ne N _ hb) (fun i hi => ?_)) (z_rowL_ne N _ (by decide)))
            show z_rowL N 41 _ 41 i = _
            rw [z_rowL_same]
            unfold va_cpy
            by_cases q : c ≤ i ∧ i < c + b
            · rw [if_pos q, if_pos q]
              exact hS0.2.2 _ (by omega)
            · rw [if_neg q, if_neg q]
              exact hS1.2.2 i hi
          · rw [decide_eq_false h5, if_neg h5]
            refine zs rfl rfl rfl ?_
            refine zs rfl rfl rfl ?_
            refine zs rfl rfl rfl ?_
            refine zcl rfl rfl (c_refuse_0) ?_
            exact zret rfl rfl (cX_ref (c := 0) rfl Fr.rfl' hC hS)
        · rw [decide_eq_false h4, if_neg h4]
          refine zs rfl rfl rfl ?_
          refine zs rfl rfl rfl ?_
          refine zs rfl rfl rfl ?_
          refine zcl rfl rfl (c_refuse_0) ?_
          exact zret rfl rfl (cX_ref (c := 0) rfl Fr.rfl' hC hS)
      · rw [if_neg h3]
        refine zbf (h3) rfl rfl rfl ?_
        refine zs rfl rfl rfl ?_
        refine zs rfl rfl rfl ?_
        refine zcl rfl rfl (c_refuse_2) ?_
        exact zret rfl rfl (cX_ref (c := 2) rfl Fr.rfl' hC hS)
theorem c_copy_13 (hC : cC M S F) (hS : cS M N B) (hB : Sok B) (f g m : Int32) : zV X 91 [.ref 0, .int (nI 1), .int f, .int (nI 3), .int g, .int m] M N (cX M N (r_copy S F B (nI 1) f (nI 3) g m)) := by
  refine zVi [(0, .ref 0), (1, .int (nI 1)), (2, .int f), (3, .int (nI 3)), (4, .int g), (5, .int m)] rfl ?_
  unfold r_copy
  have hS0 := hS 1 (by decide)
  have hS1 := hS 3 (by decide)
  have hB0 := (hB 1 (by decide)).1
  have hB1 := (hB 3 (by decide)).1
  rw [if_pos (by decide), if_pos (by decide), nI_clamp (by decide)]
  try rw [nI_clamp (by decide)]
  refine zs rfl rfl rfl ?_
  refine zs rfl rfl rfl ?_
  refine zcl rfl rfl (c_sheetAt_1) ?_
  refine zs rfl rfl rfl ?_
  refine zs rfl rfl rfl ?_
  refine zs rfl rfl rfl ?_
  refine zcl rfl rfl (c_sheetAt_3) ?_
  refine zs rfl rfl rfl ?_
  refine zs rfl rfl rfl ?_
  refine zs rfl rfl rfl ?_
  refine zs rfl rfl rfl ?_
  refine zs rfl rfl rfl ?_
  refine zs rfl rfl rfl ?_
  refine zcl rfl rfl (c_isMissing_1 hS0.1) ?_
  by_cases h : B.1 1 = 0
  · rw [decide_eq_true h, if_pos h]
    refine zs rfl rfl rfl ?_
    refine zs rfl rfl rfl ?_
    refine zs rfl rfl rfl ?_
    refine zcl rfl rfl (c_refuse_5) ?_
    exact zret rfl rfl (cX_ref (c := 5) rfl Fr.rfl' hC hS)
  · rw [decide_eq_false h, if_neg h]
    refine zs rfl rfl rfl ?_
    refine zs rfl rfl rfl ?_
    refine zcl rfl rfl (c_isMissing_3 hS1.1) ?_
    by_cases h2 : B.1 3 = 0
    · rw [decide_eq_true h2, if_pos h2]
      refine zs rfl rfl rfl ?_
      refine zs rfl rfl rfl ?_
      refine zs rfl rfl rfl ?_
      refine zcl rfl rfl (c_refuse_5) ?_
      exact zret rfl rfl (cX_ref (c := 5) rfl Fr.rfl' hC hS)
    · rw [decide_eq_false h2, if_neg h2]
      refine zs rfl rfl rfl ?_
      refine zs rfl rfl rfl ?_
      refine zs rfl rfl rfl ?_
      refine zto rfl hS0.1 ?_
      refine zs rfl rfl rfl ?_
      refine zs rfl rfl rfl ?_
      refine zto rfl hS1.1 ?_
      by_cases h3 : B.1 1 = B.1 3
      · rw [if_pos h3]
        refine zbt (h3) rfl rfl rfl ?_
        refine zs rfl rfl rfl ?_
        refine zs rfl rfl rfl ?_
        refine zs rfl rfl rfl ?_
        refine zcl rfl rfl (c_hasRow_1 hS0.2.1 f m) ?_
        by_cases h4 : hrw (B.2.1 1) f m
        · rw [decide_eq_true h4, if_pos h4]
          refine zs rfl rfl rfl ?_
          refine zs rfl rfl rfl ?_
          refine zs rfl rfl rfl ?_
          refine zs rfl rfl rfl ?_
          refine zcl rfl rfl (c_hasRow_3 hS1.2.1 g m) ?_
          by_cases h5 : hrw (B.2.1 3) g m
          · rw [decide_eq_true h5, if_pos h5]
            obtain ⟨a, b, rfl, rfl, hab⟩ := hrw_of hB0 h4
            obtain ⟨c, d, rfl, hd, hcd⟩ := hrw_of hB1 h5
            have hbd : b = d := by
              have q := congrArg Int32.toNatClampNeg hd
              have hb1 : b ≤ 40 := by omega
              have hd1 : d ≤ 40 := by omega
              rwa [nI_clamp (by omega), nI_clamp (by omega)] at q
            subst hbd
            refine zs rfl rfl rfl ?_
            refine zs rfl rfl rfl ?_
            refine zs rfl rfl rfl ?_
            refine zs rfl rfl rfl ?_
            refine zs rfl rfl rfl ?_
            refine zs rfl rfl rfl ?_
            refine zs rfl rfl rfl ?_
            refine zs rfl rfl rfl ?_
            refine zcpL rfl rfl rfl rfl rfl rfl rfl (by omega) (by omega) ?_
            refine zs rfl rfl rfl ?_
            rw [nI_clamp (by omega), nI_clamp (by omega), nI_clamp (by omega)]
            refine zret rfl rfl (cX_ok rfl Fr.rfl' hC (hS.up (t := 3) (by decide) (fun b hb => z_rowL_ne N _ hb) (fun i hi => ?_)) (z_rowL_ne N _ (by decide)))
            show z_rowL N 43 _ 43 i = _
            rw [z_rowL_same]
            unfold va_cpy
            by_cases q : c ≤ i ∧ i < c + b
            · rw [if_pos q, if_pos q]
              exact hS0.2.2 _ (by omega)
            · rw [if_neg q, if_neg q]
              exact hS1.2.2 i hi
          · rw [decide_eq_false h5, if_neg h5]
            refine zs rfl rfl rfl ?_
            refine zs rfl rfl rfl ?_
            refine zs rfl rfl rfl ?_
            refine zcl rfl rfl (c_refuse_0) ?_
            exact zret rfl rfl (cX_ref (c := 0) rfl Fr.rfl' hC hS)
        · rw [decide_eq_false h4, if_neg h4]
          refine zs rfl rfl rfl ?_
          refine zs rfl rfl rfl ?_
          refine zs rfl rfl rfl ?_
          refine zcl rfl rfl (c_refuse_0) ?_
          exact zret rfl rfl (cX_ref (c := 0) rfl Fr.rfl' hC hS)
      · rw [if_neg h3]
        refine zbf (h3) rfl rfl rfl ?_
        refine zs rfl rfl rfl ?_
        refine zs rfl rfl rfl ?_
        refine zcl rfl rfl (c_refuse_2) ?_
        exact zret rfl rfl (cX_ref (c := 2) rfl Fr.rfl' hC hS)
theorem c_copy_20 (hC : cC M S F) (hS : cS M N B) (hB : Sok B) (f g m : Int32) : zV X 91 [.ref 0, .int (nI 2), .int f, .int (nI 0), .int g, .int m] M N (cX M N (r_copy S F B (nI 2) f (nI 0) g m)) := by
  refine zVi [(0, .ref 0), (1, .int (nI 2)), (2, .int f), (3, .int (nI 0)), (4, .int g), (5, .int m)] rfl ?_
  unfold r_copy
  have hS0 := hS 2 (by decide)
  have hS1 := hS 0 (by decide)
  have hB0 := (hB 2 (by decide)).1
  have hB1 := (hB 0 (by decide)).1
  rw [if_pos (by decide), if_pos (by decide), nI_clamp (by decide)]
  try rw [nI_clamp (by decide)]
  refine zs rfl rfl rfl ?_
  refine zs rfl rfl rfl ?_
  refine zcl rfl rfl (c_sheetAt_2) ?_
  refine zs rfl rfl rfl ?_
  refine zs rfl rfl rfl ?_
  refine zs rfl rfl rfl ?_
  refine zcl rfl rfl (c_sheetAt_0) ?_
  refine zs rfl rfl rfl ?_
  refine zs rfl rfl rfl ?_
  refine zs rfl rfl rfl ?_
  refine zs rfl rfl rfl ?_
  refine zs rfl rfl rfl ?_
  refine zs rfl rfl rfl ?_
  refine zcl rfl rfl (c_isMissing_2 hS0.1) ?_
  by_cases h : B.1 2 = 0
  · rw [decide_eq_true h, if_pos h]
    refine zs rfl rfl rfl ?_
    refine zs rfl rfl rfl ?_
    refine zs rfl rfl rfl ?_
    refine zcl rfl rfl (c_refuse_5) ?_
    exact zret rfl rfl (cX_ref (c := 5) rfl Fr.rfl' hC hS)
  · rw [decide_eq_false h, if_neg h]
    refine zs rfl rfl rfl ?_
    refine zs rfl rfl rfl ?_
    refine zcl rfl rfl (c_isMissing_0 hS1.1) ?_
    by_cases h2 : B.1 0 = 0
    · rw [decide_eq_true h2, if_pos h2]
      refine zs rfl rfl rfl ?_
      refine zs rfl rfl rfl ?_
      refine zs rfl rfl rfl ?_
      refine zcl rfl rfl (c_refuse_5) ?_
      exact zret rfl rfl (cX_ref (c := 5) rfl Fr.rfl' hC hS)
    · rw [decide_eq_false h2, if_neg h2]
      refine zs rfl rfl rfl ?_
      refine zs rfl rfl rfl ?_
      refine zs rfl rfl rfl ?_
      refine zto rfl hS0.1 ?_
      refine zs rfl rfl rfl ?_
      refine zs rfl rfl rfl ?_
      refine zto rfl hS1.1 ?_
      by_cases h3 : B.1 2 = B.1 0
      · rw [if_pos h3]
        refine zbt (h3) rfl rfl rfl ?_
        refine zs rfl rfl rfl ?_
        refine zs rfl rfl rfl ?_
        refine zs rfl rfl rfl ?_
        refine zcl rfl rfl (c_hasRow_2 hS0.2.1 f m) ?_
        by_cases h4 : hrw (B.2.1 2) f m
        · rw [decide_eq_true h4, if_pos h4]
          refine zs rfl rfl rfl ?_
          refine zs rfl rfl rfl ?_
          refine zs rfl rfl rfl ?_
          refine zs rfl rfl rfl ?_
          refine zcl rfl rfl (c_hasRow_0 hS1.2.1 g m) ?_
          by_cases h5 : hrw (B.2.1 0) g m
          · rw [decide_eq_true h5, if_pos h5]
            obtain ⟨a, b, rfl, rfl, hab⟩ := hrw_of hB0 h4
            obtain ⟨c, d, rfl, hd, hcd⟩ := hrw_of hB1 h5
            have hbd : b = d := by
              have q := congrArg Int32.toNatClampNeg hd
              have hb1 : b ≤ 40 := by omega
              have hd1 : d ≤ 40 := by omega
              rwa [nI_clamp (by omega), nI_clamp (by omega)] at q
            subst hbd
            refine zs rfl rfl rfl ?_
            refine zs rfl rfl rfl ?_
            refine zs rfl rfl rfl ?_
            refine zs rfl rfl rfl ?_
            refine zs rfl rfl rfl ?_
            refine zs rfl rfl rfl ?_
            refine zs rfl rfl rfl ?_
            refine zs rfl rfl rfl ?_
            refine zcpL rfl rfl rfl rfl rfl rfl rfl (by omega) (by omega) ?_
            refine zs rfl rfl rfl ?_
            rw [nI_clamp (by omega), nI_clamp (by omega), nI_clamp (by omega)]
            refine zret rfl rfl (cX_ok rfl Fr.rfl' hC (hS.up (t := 0) (by decide) (fun b hb => z_rowL_ne N _ hb) (fun i hi => ?_)) (z_rowL_ne N _ (by decide)))
            show z_rowL N 37 _ 37 i = _
            rw [z_rowL_same]
            unfold va_cpy
            by_cases q : c ≤ i ∧ i < c + b
            · rw [if_pos q, if_pos q]
              exact hS0.2.2 _ (by omega)
            · rw [if_neg q, if_neg q]
              exact hS1.2.2 i hi
          · rw [decide_eq_false h5, if_neg h5]
            refine zs rfl rfl rfl ?_
            refine zs rfl rfl rfl ?_
            refine zs rfl rfl rfl ?_
            refine zcl rfl rfl (c_refuse_0) ?_
            exact zret rfl rfl (cX_ref (c := 0) rfl Fr.rfl' hC hS)
        · rw [decide_eq_false h4, if_neg h4]
          refine zs rfl rfl rfl ?_
          refine zs rfl rfl rfl ?_
          refine zs rfl rfl rfl ?_
          refine zcl rfl rfl (c_refuse_0) ?_
          exact zret rfl rfl (cX_ref (c := 0) rfl Fr.rfl' hC hS)
      · rw [if_neg h3]
        refine zbf (h3) rfl rfl rfl ?_
        refine zs rfl rfl rfl ?_
        refine zs rfl rfl rfl ?_
        refine zcl rfl rfl (c_refuse_2) ?_
        exact zret rfl rfl (cX_ref (c := 2) rfl Fr.rfl' hC hS)
theorem c_copy_21 (hC : cC M S F) (hS : cS M N B) (hB : Sok B) (f g m : Int32) : zV X 91 [.ref 0, .int (nI 2), .int f, .int (nI 1), .int g, .int m] M N (cX M N (r_copy S F B (nI 2) f (nI 1) g m)) := by
  refine zVi [(0, .ref 0), (1, .int (nI 2)), (2, .int f), (3, .int (nI 1)), (4, .int g), (5, .int m)] rfl ?_
  unfold r_copy
  have hS0 := hS 2 (by decide)
  have hS1 := hS 1 (by decide)
  have hB0 := (hB 2 (by decide)).1
  have hB1 := (hB 1 (by decide)).1
  rw [if_pos (by decide), if_pos (by decide), nI_clamp (by decide)]
  try rw [nI_clamp (by decide)]
  refine zs rfl rfl rfl ?_
  refine zs rfl rfl rfl ?_
  refine zcl rfl rfl (c_sheetAt_2) ?_
  refine zs rfl rfl rfl ?_
  refine zs rfl rfl rfl ?_
  refine zs rfl rfl rfl ?_
  refine zcl rfl rfl (c_sheetAt_1) ?_
  refine zs rfl rfl rfl ?_
  refine zs rfl rfl rfl ?_
  refine zs rfl rfl rfl ?_
  refine zs rfl rfl rfl ?_
  refine zs rfl rfl rfl ?_
  refine zs rfl rfl rfl ?_
  refine zcl rfl rfl (c_isMissing_2 hS0.1) ?_
  by_cases h : B.1 2 = 0
  · rw [decide_eq_true h, if_pos h]
    refine zs rfl rfl rfl ?_
    refine zs rfl rfl rfl ?_
    refine zs rfl rfl rfl ?_
    refine zcl rfl rfl (c_refuse_5) ?_
    exact zret rfl rfl (cX_ref (c := 5) rfl Fr.rfl' hC hS)
  · rw [decide_eq_false h, if_neg h]
    refine zs rfl rfl rfl ?_
    refine zs rfl rfl rfl ?_
    refine zcl rfl rfl (c_isMissing_1 hS1.1) ?_
    by_cases h2 : B.1 1 = 0
    · rw [decide_eq_true h2, if_pos h2]
      refine zs rfl rfl rfl ?_
      refine zs rfl rfl rfl ?_
      refine zs rfl rfl rfl ?_
      refine zcl rfl rfl (c_refuse_5) ?_
      exact zret rfl rfl (cX_ref (c := 5) rfl Fr.rfl' hC hS)
    · rw [decide_eq_false h2, if_neg h2]
      refine zs rfl rfl rfl ?_
      refine zs rfl rfl rfl ?_
      refine zs rfl rfl rfl ?_
      refine zto rfl hS0.1 ?_
      refine zs rfl rfl rfl ?_
      refine zs rfl rfl rfl ?_
      refine zto rfl hS1.1 ?_
      by_cases h3 : B.1 2 = B.1 1
      · rw [if_pos h3]
        refine zbt (h3) rfl rfl rfl ?_
        refine zs rfl rfl rfl ?_
        refine zs rfl rfl rfl ?_
        refine zs rfl rfl rfl ?_
        refine zcl rfl rfl (c_hasRow_2 hS0.2.1 f m) ?_
        by_cases h4 : hrw (B.2.1 2) f m
        · rw [decide_eq_true h4, if_pos h4]
          refine zs rfl rfl rfl ?_
          refine zs rfl rfl rfl ?_
          refine zs rfl rfl rfl ?_
          refine zs rfl rfl rfl ?_
          refine zcl rfl rfl (c_hasRow_1 hS1.2.1 g m) ?_
          by_cases h5 : hrw (B.2.1 1) g m
          · rw [decide_eq_true h5, if_pos h5]
            obtain ⟨a, b, rfl, rfl, hab⟩ := hrw_of hB0 h4
            obtain ⟨c, d, rfl, hd, hcd⟩ := hrw_of hB1 h5
            have hbd : b = d := by
              have q := congrArg Int32.toNatClampNeg hd
              have hb1 : b ≤ 40 := by omega
              have hd1 : d ≤ 40 := by omega
              rwa [nI_clamp (by omega), nI_clamp (by omega)] at q
            subst hbd
            refine zs rfl rfl rfl ?_
            refine zs rfl rfl rfl ?_
            refine zs rfl rfl rfl ?_
            refine zs rfl rfl rfl ?_
            refine zs rfl rfl rfl ?_
            refine zs rfl rfl rfl ?_
            refine zs rfl rfl rfl ?_
            refine zs rfl rfl rfl ?_
            refine zcpL rfl rfl rfl rfl rfl rfl rfl (by omega) (by omega) ?_
            refine zs rfl rfl rfl ?_
            rw [nI_clamp (by omega), nI_clamp (by omega), nI_clamp (by omega)]
            refine zret rfl rfl (cX_ok rfl Fr.rfl' hC (hS.up (t := 1) (by decide) (fun b hb => z_rowL_ne N _ hb) (fun i hi => ?_)) (z_rowL_ne N _ (by decide)))
            show z_rowL N 39 _ 39 i = _
            rw [z_rowL_same]
            unfold va_cpy
            by_cases q : c ≤ i ∧ i < c + b
            · rw [if_pos q, if_pos q]
              exact hS0.2.2 _ (by omega)
            · rw [if_neg q, if_neg q]
              exact hS1.2.2 i hi
          · rw [decide_eq_false h5, if_neg h5]
            refine zs rfl rfl rfl ?_
            refine zs rfl rfl rfl ?_
            refine zs rfl rfl rfl ?_
            refine zcl rfl rfl (c_refuse_0) ?_
            exact zret rfl rfl (cX_ref (c := 0) rfl Fr.rfl' hC hS)
        · rw [decide_eq_false h4, if_neg h4]
          refine zs rfl rfl rfl ?_
          refine zs rfl rfl rfl ?_
          refine zs rfl rfl rfl ?_
          refine zcl rfl rfl (c_refuse_0) ?_
          exact zret rfl rfl (cX_ref (c := 0) rfl Fr.rfl' hC hS)
      · rw [if_neg h3]
        refine zbf (h3) rfl rfl rfl ?_
        refine zs rfl rfl rfl ?_
        refine zs rfl rfl rfl ?_
        refine zcl rfl rfl (c_refuse_2) ?_
        exact zret rfl rfl (cX_ref (c := 2) rfl Fr.rfl' hC hS)
theorem c_copy_22 (hC : cC M S F) (hS : cS M N B) (hB : Sok B) (f g m : Int32) : zV X 91 [.ref 0, .int (nI 2), .int f, .int (nI 2), .int g, .int m] M N (cX M N (r_copy S F B (nI 2) f (nI 2) g m)) := by
  refine zVi [(0, .ref 0), (1, .int (nI 2)), (2, .int f), (3, .int (nI 2)), (4, .int g), (5, .int m)] rfl ?_
  unfold r_copy
  have hS0 := hS 2 (by decide)
  have hS1 := hS 2 (by decide)
  have hB0 := (hB 2 (by decide)).1
  have hB1 := (hB 2 (by decide)).1
  rw [if_pos (by decide), if_pos (by decide), nI_clamp (by decide)]
  try rw [nI_clamp (by decide)]
  refine zs rfl rfl rfl ?_
  refine zs rfl rfl rfl ?_
  refine zcl rfl rfl (c_sheetAt_2) ?_
  refine zs rfl rfl rfl ?_
  refine zs rfl rfl rfl ?_
  refine zs rfl rfl rfl ?_
  refine zcl rfl rfl (c_sheetAt_2) ?_
  refine zs rfl rfl rfl ?_
  refine zs rfl rfl rfl ?_
  refine zs rfl rfl rfl ?_
  refine zs rfl rfl rfl ?_
  refine zs rfl rfl rfl ?_
  refine zs rfl rfl rfl ?_
  refine zcl rfl rfl (c_isMissing_2 hS0.1) ?_
  by_cases h : B.1 2 = 0
  · rw [decide_eq_true h, if_pos h]
    refine zs rfl rfl rfl ?_
    refine zs rfl rfl rfl ?_
    refine zs rfl rfl rfl ?_
    refine zcl rfl rfl (c_refuse_5) ?_
    exact zret rfl rfl (cX_ref (c := 5) rfl Fr.rfl' hC hS)
  · rw [decide_eq_false h, if_neg h]
    refine zs rfl rfl rfl ?_
    refine zs rfl rfl rfl ?_
    refine zcl rfl rfl (c_isMissing_2 hS1.1) ?_
    by_cases h2 : B.1 2 = 0
    · rw [decide_eq_true h2, if_pos h2]
      refine zs rfl rfl rfl ?_
      refine zs rfl rfl rfl ?_
      refine zs rfl rfl rfl ?_
      refine zcl rfl rfl (c_refuse_5) ?_
      exact zret rfl rfl (cX_ref (c := 5) rfl Fr.rfl' hC hS)
    · rw [decide_eq_false h2, if_neg h2]
      refine zs rfl rfl rfl ?_
      refine zs rfl rfl rfl ?_
      refine zs rfl rfl rfl ?_
      refine zto rfl hS0.1 ?_
      refine zs rfl rfl rfl ?_
      refine zs rfl rfl rfl ?_
      refine zto rfl hS1.1 ?_
      by_cases h3 : B.1 2 = B.1 2
      · rw [if_pos h3]
        refine zbt (h3) rfl rfl rfl ?_
        refine zs rfl rfl rfl ?_
        refine zs rfl rfl rfl ?_
        refine zs rfl rfl rfl ?_
        refine zcl rfl rfl (c_hasRow_2 hS0.2.1 f m) ?_
        by_cases h4 : hrw (B.2.1 2) f m
        · rw [decide_eq_true h4, if_pos h4]
          refine zs rfl rfl rfl ?_
          refine zs rfl rfl rfl ?_
          refine zs rfl rfl rfl ?_
          refine zs rfl rfl rfl ?_
          refine zcl rfl rfl (c_hasRow_2 hS1.2.1 g m) ?_
          by_cases h5 : hrw (B.2.1 2) g m
          · rw [decide_eq_true h5, if_pos h5]
            obtain ⟨a, b, rfl, rfl, hab⟩ := hrw_of hB0 h4
            obtain ⟨c, d, rfl, hd, hcd⟩ := hrw_of hB1 h5
            have hbd : b = d := by
              have q := congrArg Int32.toNatClampNeg hd
              have hb1 : b ≤ 40 := by omega
              have hd1 : d ≤ 40 := by omega
              rwa [nI_clamp (by omega), nI_clamp (by omega)] at q
            subst hbd
            refine zs rfl rfl rfl ?_
            refine zs rfl rfl rfl ?_
            refine zs rfl rfl rfl ?_
            refine zs rfl rfl rfl ?_
            refine zs rfl rfl rfl ?_
            refine zs rfl rfl rfl ?_
            refine zs rfl rfl rfl ?_
            refine zs rfl rfl rfl ?_
            refine zcpL rfl rfl rfl rfl rfl rfl rfl (by omega) (by omega) ?_
            refine zs rfl rfl rfl ?_
            rw [nI_clamp (by omega), nI_clamp (by omega), nI_clamp (by omega)]
            refine zret rfl rfl (cX_ok rfl Fr.rfl' hC (hS.up (t := 2) (by decide) (fun b hb => z_rowL_ne N _ hb) (fun i hi => ?_)) (z_rowL_ne N _ (by decide)))
            show z_rowL N 41 _ 41 i = _
            rw [z_rowL_same]
            unfold va_cpy
            by_cases q : c ≤ i ∧ i < c + b
            · rw [if_pos q, if_pos q]
              exact hS0.2.2 _ (by omega)
            · rw [if_neg q, if_neg q]
              exact hS1.2.2 i hi
          · rw [decide_eq_false h5, if_neg h5]
            refine zs rfl rfl rfl ?_
            refine zs rfl rfl rfl ?_
            refine zs rfl rfl rfl ?_
            refine zcl rfl rfl (c_refuse_0) ?_
            exact zret rfl rfl (cX_ref (c := 0) rfl Fr.rfl' hC hS)
        · rw [decide_eq_false h4, if_neg h4]
          refine zs rfl rfl rfl ?_
          refine zs rfl rfl rfl ?_
          refine zs rfl rfl rfl ?_
          refine zcl rfl rfl (c_refuse_0) ?_
          exact zret rfl rfl (cX_ref (c := 0) rfl Fr.rfl' hC hS)
      · rw [if_neg h3]
        refine zbf (h3) rfl rfl rfl ?_
        refine zs rfl rfl rfl ?_
        refine zs rfl rfl rfl ?_
        refine zcl rfl rfl (c_refuse_2) ?_
        exact zret rfl rfl (cX_ref (c := 2) rfl Fr.rfl' hC hS)
theorem c_copy_23 (hC : cC M S F) (hS : cS M N B) (hB : Sok B) (f g m : Int32) : zV X 91 [.ref 0, .int (nI 2), .int f, .int (nI 3), .int g, .int m] M N (cX M N (r_copy S F B (nI 2) f (nI 3) g m)) := by
  refine zVi [(0, .ref 0), (1, .int (nI 2)), (2, .int f), (3, .int (nI 3)), (4, .int g), (5, .int m)] rfl ?_
  unfold r_copy
  have hS0 := hS 2 (by decide)
  have hS1 := hS 3 (by decide)
  have hB0 := (hB 2 (by decide)).1
  have hB1 := (hB 3 (by decide)).1
  rw [if_pos (by decide), if_pos (by decide), nI_clamp (by decide)]
  try rw [nI_clamp (by decide)]
  refine zs rfl rfl rfl ?_
  refine zs rfl rfl rfl ?_
  refine zcl rfl rfl (c_sheetAt_2) ?_
  refine zs rfl rfl rfl ?_
  refine zs rfl rfl rfl ?_
  refine zs rfl rfl rfl ?_
  refine zcl rfl rfl (c_sheetAt_3) ?_
  refine zs rfl rfl rfl ?_
  refine zs rfl rfl rfl ?_
  refine zs rfl rfl rfl ?_
  refine zs rfl rfl rfl ?_
  refine zs rfl rfl rfl ?_
  refine zs rfl rfl rfl ?_
  refine zcl rfl rfl (c_isMissing_2 hS0.1) ?_
  by_cases h : B.1 2 = 0
  · rw [decide_eq_true h, if_pos h]
    refine zs rfl rfl rfl ?_
    refine zs rfl rfl rfl ?_
    refine zs rfl rfl rfl ?_
    refine zcl rfl rfl (c_refuse_5) ?_
    exact zret rfl rfl (cX_ref (c := 5) rfl Fr.rfl' hC hS)
  · rw [decide_eq_false h, if_neg h]
    refine zs rfl rfl rfl ?_
    refine zs rfl rfl rfl ?_
    refine zcl rfl rfl (c_isMissing_3 hS1.1) ?_
    by_cases h2 : B.1 3 = 0
    · rw [decide_eq_true h2, if_pos h2]
      refine zs rfl rfl rfl ?_
      refine zs rfl rfl rfl ?_
      refine zs rfl rfl rfl ?_
      refine zcl rfl rfl (c_refuse_5) ?_
      exact zret rfl rfl (cX_ref (c := 5) rfl Fr.rfl' hC hS)
    · rw [decide_eq_false h2, if_neg h2]
      refine zs rfl rfl rfl ?_
      refine zs rfl rfl rfl ?_
      refine zs rfl rfl rfl ?_
      refine zto rfl hS0.1 ?_
      refine zs rfl rfl rfl ?_
      refine zs rfl rfl rfl ?_
      refine zto rfl hS1.1 ?_
      by_cases h3 : B.1 2 = B.1 3
      · rw [if_pos h3]
        refine zbt (h3) rfl rfl rfl ?_
        refine zs rfl rfl rfl ?_
        refine zs rfl rfl rfl ?_
        refine zs rfl rfl rfl ?_
        refine zcl rfl rfl (c_hasRow_2 hS0.2.1 f m) ?_
        by_cases h4 : hrw (B.2.1 2) f m
        · rw [decide_eq_true h4, if_pos h4]
          refine zs rfl rfl rfl ?_
          refine zs rfl rfl rfl ?_
          refine zs rfl rfl rfl ?_
          refine zs rfl rfl rfl ?_
          refine zcl rfl rfl (c_hasRow_3 hS1.2.1 g m) ?_
          by_cases h5 : hrw (B.2.1 3) g m
          · rw [decide_eq_true h5, if_pos h5]
            obtain ⟨a, b, rfl, rfl, hab⟩ := hrw_of hB0 h4
            obtain ⟨c, d, rfl, hd, hcd⟩ := hrw_of hB1 h5
            have hbd : b = d := by
              have q := congrArg Int32.toNatClampNeg hd
              have hb1 : b ≤ 40 := by omega
              have hd1 : d ≤ 40 := by omega
              rwa [nI_clamp (by omega), nI_clamp (by omega)] at q
            subst hbd
            refine zs rfl rfl rfl ?_
            refine zs rfl rfl rfl ?_
            refine zs rfl rfl rfl ?_
            refine zs rfl rfl rfl ?_
            refine zs rfl rfl rfl ?_
            refine zs rfl rfl rfl ?_
            refine zs rfl rfl rfl ?_
            refine zs rfl rfl rfl ?_
            refine zcpL rfl rfl rfl rfl rfl rfl rfl (by omega) (by omega) ?_
            refine zs rfl rfl rfl ?_
            rw [nI_clamp (by omega), nI_clamp (by omega), nI_clamp (by omega)]
            refine zret rfl rfl (cX_ok rfl Fr.rfl' hC (hS.up (t := 3) (by decide) (fun b hb => z_rowL_ne N _ hb) (fun i hi => ?_)) (z_rowL_ne N _ (by decide)))
            show z_rowL N 43 _ 43 i = _
            rw [z_rowL_same]
            unfold va_cpy
            by_cases q : c ≤ i ∧ i < c + b
            · rw [if_pos q, if_pos q]
              exact hS0.2.2 _ (by omega)
            · rw [if_neg q, if_neg q]
              exact hS1.2.2 i hi
          · rw [decide_eq_false h5, if_neg h5]
            refine zs rfl rfl rfl ?_
            refine zs rfl rfl rfl ?_
            refine zs rfl rfl rfl ?_
            refine zcl rfl rfl (c_refuse_0) ?_
            exact zret rfl rfl (cX_ref (c := 0) rfl Fr.rfl' hC hS)
        · rw [decide_eq_false h4, if_neg h4]
          refine zs rfl rfl rfl ?_
          refine zs rfl rfl rfl ?_
          refine zs rfl rfl rfl ?_
          refine zcl rfl rfl (c_refuse_0) ?_
          exact zret rfl rfl (cX_ref (c := 0) rfl Fr.rfl' hC hS)
      · rw [if_neg h3]
        refine zbf (h3) rfl rfl rfl ?_
        refine zs rfl rfl rfl ?_
        refine zs rfl rfl rfl ?_
        refine zcl rfl rfl (c_refuse_2) ?_
        exact zret rfl rfl (cX_ref (c := 2) rfl Fr.rfl' hC hS)
theorem c_copy_30 (hC : cC M S F) (hS : cS M N B) (hB : Sok B) (f g m : Int32) : zV X 91 [.ref 0, .int (nI 3), .int f, .int (nI 0), .int g, .int m] M N (cX M N (r_copy S F B (nI 3) f (nI 0) g m)) := by
  refine zVi [(0, .ref 0), (1, .int (nI 3)), (2, .int f), (3, .int (nI 0)), (4, .int g), (5, .int m)] rfl ?_
  unfold r_copy
  have hS0 := hS 3 (by decide)
  have hS1 := hS 0 (by decide)
  have hB0 := (hB 3 (by decide)).1
  have hB1 := (hB 0 (by decide)).1
  rw [if_pos (by decide), if_pos (by decide), nI_clamp (by decide)]
  try rw [nI_clamp (by decide)]
  refine zs rfl rfl rfl ?_
  refine zs rfl rfl rfl ?_
  refine zcl rfl rfl (c_sheetAt_3) ?_
  refine zs rfl rfl rfl ?_
  refine zs rfl rfl rfl ?_
  refine zs rfl rfl rfl ?_
  refine zcl rfl rfl (c_sheetAt_0) ?_
  refine zs rfl rfl rfl ?_
  refine zs rfl rfl rfl ?_
  refine zs rfl rfl rfl ?_
  refine zs rfl rfl rfl ?_
  refine zs rfl rfl rfl ?_
  refine zs rfl rfl rfl ?_
  refine zcl rfl rfl (c_isMissing_3 hS0.1) ?_
  by_cases h : B.1 3 = 0
  · rw [decide_eq_true h, if_pos h]
    refine zs rfl rfl rfl ?_
    refine zs rfl rfl rfl ?_
    refine zs rfl rfl rfl ?_
    refine zcl rfl rfl (c_refuse_5) ?_
    exact zret rfl rfl (cX_ref (c := 5) rfl Fr.rfl' hC hS)
  · rw [decide_eq_false h, if_neg h]
    refine zs rfl rfl rfl ?_
    refine zs rfl rfl rfl ?_
    refine zcl rfl rfl (c_isMissing_0 hS1.1) ?_
    by_cases h2 : B.1 0 = 0
    · rw [decide_eq_true h2, if_pos h2]
      refine zs rfl rfl rfl ?_
      refine zs rfl rfl rfl ?_
      refine zs rfl rfl rfl ?_
      refine zcl rfl rfl (c_refuse_5) ?_
      exact zret rfl rfl (cX_ref (c := 5) rfl Fr.rfl' hC hS)
    · rw [decide_eq_false h2, if_neg h2]
      refine zs rfl rfl rfl ?_
      refine zs rfl rfl rfl ?_
      refine zs rfl rfl rfl ?_
      refine zto rfl hS0.1 ?_
      refine zs rfl rfl rfl ?_
      refine zs rfl rfl rfl ?_
      refine zto rfl hS1.1 ?_
      by_cases h3 : B.1 3 = B.1 0
      · rw [if_pos h3]
        refine zbt (h3) rfl rfl rfl ?_
        refine zs rfl rfl rfl ?_
        refine zs rfl rfl rfl ?_
        refine zs rfl rfl rfl ?_
        refine zcl rfl rfl (c_hasRow_3 hS0.2.1 f m) ?_
        by_cases h4 : hrw (B.2.1 3) f m
        · rw [decide_eq_true h4, if_pos h4]
          refine zs rfl rfl rfl ?_
          refine zs rfl rfl rfl ?_
          refine zs rfl rfl rfl ?_
          refine zs rfl rfl rfl ?_
          refine zcl rfl rfl (c_hasRow_0 hS1.2.1 g m) ?_
          by_cases h5 : hrw (B.2.1 0) g m
          · rw [decide_eq_true h5, if_pos h5]
            obtain ⟨a, b, rfl, rfl, hab⟩ := hrw_of hB0 h4
            obtain ⟨c, d, rfl, hd, hcd⟩ := hrw_of hB1 h5
            have hbd : b = d := by
              have q := congrArg Int32.toNatClampNeg hd
              have hb1 : b ≤ 40 := by omega
              have hd1 : d ≤ 40 := by omega
              rwa [nI_clamp (by omega), nI_clamp (by omega)] at q
            subst hbd
            refine zs rfl rfl rfl ?_
            refine zs rfl rfl rfl ?_
            refine zs rfl rfl rfl ?_
            refine zs rfl rfl rfl ?_
            refine zs rfl rfl rfl ?_
            refine zs rfl rfl rfl ?_
            refine zs rfl rfl rfl ?_
            refine zs rfl rfl rfl ?_
            refine zcpL rfl rfl rfl rfl rfl rfl rfl (by omega) (by omega) ?_
            refine zs rfl rfl rfl ?_
            rw [nI_clamp (by omega), nI_clamp (by omega), nI_clamp (by omega)]
            refine zret rfl rfl (cX_ok rfl Fr.rfl' hC (hS.up (t := 0) (by decide) (fun b hb => z_rowL_ne N _ hb) (fun i hi => ?_)) (z_rowL_ne N _ (by decide)))
            show z_rowL N 37 _ 37 i = _
            rw [z_rowL_same]
            unfold va_cpy
            by_cases q : c ≤ i ∧ i < c + b
            · rw [if_pos q, if_pos q]
              exact hS0.2.2 _ (by omega)
            · rw [if_neg q, if_neg q]
              exact hS1.2.2 i hi
          · rw [decide_eq_false h5, if_neg h5]
            refine zs rfl rfl rfl ?_
            refine zs rfl rfl rfl ?_
            refine zs rfl rfl rfl ?_
            refine zcl rfl rfl (c_refuse_0) ?_
            exact zret rfl rfl (cX_ref (c := 0) rfl Fr.rfl' hC hS)
        · rw [decide_eq_false h4, if_neg h4]
          refine zs rfl rfl rfl ?_
          refine zs rfl rfl rfl ?_
          refine zs rfl rfl rfl ?_
          refine zcl rfl rfl (c_refuse_0) ?_
          exact zret rfl rfl (cX_ref (c := 0) rfl Fr.rfl' hC hS)
      · rw [if_neg h3]
        refine zbf (h3) rfl rfl rfl ?_
        refine zs rfl rfl rfl ?_
        refine zs rfl rfl rfl ?_
        refine zcl rfl rfl (c_refuse_2) ?_
        exact zret rfl rfl (cX_ref (c := 2) rfl Fr.rfl' hC hS)
theorem c_copy_31 (hC : cC M S F) (hS : cS M N B) (hB : Sok B) (f g m : Int32) : zV X 91 [.ref 0, .int (nI 3), .int f, .int (nI 1), .int g, .int m] M N (cX M N (r_copy S F B (nI 3) f (nI 1) g m)) := by
  refine zVi [(0, .ref 0), (1, .int (nI 3)), (2, .int f), (3, .int (nI 1)), (4, .int g), (5, .int m)] rfl ?_
  unfold r_copy
  have hS0 := hS 3 (by decide)
  have hS1 := hS 1 (by decide)
  have hB0 := (hB 3 (by decide)).1
  have hB1 := (hB 1 (by decide)).1
  rw [if_pos (by decide), if_pos (by decide), nI_clamp (by decide)]
  try rw [nI_clamp (by decide)]
  refine zs rfl rfl rfl ?_
  refine zs rfl rfl rfl ?_
  refine zcl rfl rfl (c_sheetAt_3) ?_
  refine zs rfl rfl rfl ?_
  refine zs rfl rfl rfl ?_
  refine zs rfl rfl rfl ?_
  refine zcl rfl rfl (c_sheetAt_1) ?_
  refine zs rfl rfl rfl ?_
  refine zs rfl rfl rfl ?_
  refine zs rfl rfl rfl ?_
  refine zs rfl rfl rfl ?_
  refine zs rfl rfl rfl ?_
  refine zs rfl rfl rfl ?_
  refine zcl rfl rfl (c_isMissing_3 hS0.1) ?_
  by_cases h : B.1 3 = 0
  · rw [decide_eq_true h, if_pos h]
    refine zs rfl rfl rfl ?_
    refine zs rfl rfl rfl ?_
    refine zs rfl rfl rfl ?_
    refine zcl rfl rfl (c_refuse_5) ?_
    exact zret rfl rfl (cX_ref (c := 5) rfl Fr.rfl' hC hS)
  · rw [decide_eq_false h, if_neg h]
    refine zs rfl rfl rfl ?_
    refine zs rfl rfl rfl ?_
    refine zcl rfl rfl (c_isMissing_1 hS1.1) ?_
    by_cases h2 : B.1 1 = 0
    · rw [decide_eq_true h2, if_pos h2]
      refine zs rfl rfl rfl ?_
      refine zs rfl rfl rfl ?_
      refine zs rfl rfl rfl ?_
      refine zcl rfl rfl (c_refuse_5) ?_
      exact zret rfl rfl (cX_ref (c := 5) rfl Fr.rfl' hC hS)
    · rw [decide_eq_false h2, if_neg h2]
      refine zs rfl rfl rfl ?_
      refine zs rfl rfl rfl ?_
      refine zs rfl rfl rfl ?_
      refine zto rfl hS0.1 ?_
      refine zs rfl rfl rfl ?_
      refine zs rfl rfl rfl ?_
      refine zto rfl hS1.1 ?_
      by_cases h3 : B.1 3 = B.1 1
      · rw [if_pos h3]
        refine zbt (h3) rfl rfl rfl ?_
        refine zs rfl rfl rfl ?_
        refine zs rfl rfl rfl ?_
        refine zs rfl rfl rfl ?_
        refine zcl rfl rfl (c_hasRow_3 hS0.2.1 f m) ?_
        by_cases h4 : hrw (B.2.1 3) f m
        · rw [decide_eq_true h4, if_pos h4]
          refine zs rfl rfl rfl ?_
          refine zs rfl rfl rfl ?_
          refine zs rfl rfl rfl ?_
          refine zs rfl rfl rfl ?_
          refine zcl rfl rfl (c_hasRow_1 hS1.2.1 g m) ?_
          by_cases h5 : hrw (B.2.1 1) g m
          · rw [decide_eq_true h5, if_pos h5]
            obtain ⟨a, b, rfl, rfl, hab⟩ := hrw_of hB0 h4
            obtain ⟨c, d, rfl, hd, hcd⟩ := hrw_of hB1 h5
            have hbd : b = d := by
              have q := congrArg Int32.toNatClampNeg hd
              have hb1 : b ≤ 40 := by omega
              have hd1 : d ≤ 40 := by omega
              rwa [nI_clamp (by omega), nI_clamp (by omega)] at q
            subst hbd
            refine zs rfl rfl rfl ?_
            refine zs rfl rfl rfl ?_
            refine zs rfl rfl rfl ?_
            refine zs rfl rfl rfl ?_
            refine zs rfl rfl rfl ?_
            refine zs rfl rfl rfl ?_
            refine zs rfl rfl rfl ?_
            refine zs rfl rfl rfl ?_
            refine zcpL rfl rfl rfl rfl rfl rfl rfl (by omega) (by omega) ?_
            refine zs rfl rfl rfl ?_
            rw [nI_clamp (by omega), nI_clamp (by omega), nI_clamp (by omega)]
            refine zret rfl rfl (cX_ok rfl Fr.rfl' hC (hS.up (t := 1) (by decide) (fun b hb => z_rowL_ne N _ hb) (fun i hi => ?_)) (z_rowL_ne N _ (by decide)))
            show z_rowL N 39 _ 39 i = _
            rw [z_rowL_same]
            unfold va_cpy
            by_cases q : c ≤ i ∧ i < c + b
            · rw [if_pos q, if_pos q]
              exact hS0.2.2 _ (by omega)
            · rw [if_neg q, if_neg q]
              exact hS1.2.2 i hi
          · rw [decide_eq_false h5, if_neg h5]
            refine zs rfl rfl rfl ?_
            refine zs rfl rfl rfl ?_
            refine zs rfl rfl rfl ?_
            refine zcl rfl rfl (c_refuse_0) ?_
            exact zret rfl rfl (cX_ref (c := 0) rfl Fr.rfl' hC hS)
        · rw [decide_eq_false h4, if_neg h4]
          refine zs rfl rfl rfl ?_
          refine zs rfl rfl rfl ?_
          refine zs rfl rfl rfl ?_
          refine zcl rfl rfl (c_refuse_0) ?_
          exact zret rfl rfl (cX_ref (c := 0) rfl Fr.rfl' hC hS)
      · rw [if_neg h3]
        refine zbf (h3) rfl rfl rfl ?_
        refine zs rfl rfl rfl ?_
        refine zs rfl rfl rfl ?_
        refine zcl rfl rfl (c_refuse_2) ?_
        exact zret rfl rfl (cX_ref (c := 2) rfl Fr.rfl' hC hS)
theorem c_copy_32 (hC : cC M S F) (hS : cS M N B) (hB : Sok B) (f g m : Int32) : zV X 91 [.ref 0, .int (nI 3), .int f, .int (nI 2), .int g, .int m] M N (cX M N (r_copy S F B (nI 3) f (nI 2) g m)) := by
  refine zVi [(0, .ref 0), (1, .int (nI 3)), (2, .int f), (3, .int (nI 2)), (4, .int g), (5, .int m)] rfl ?_
  unfold r_copy
  have hS0 := hS 3 (by decide)
  have hS1 := hS 2 (by decide)
  have hB0 := (hB 3 (by decide)).1
  have hB1 := (hB 2 (by decide)).1
  rw [if_pos (by decide), if_pos (by decide), nI_clamp (by decide)]
  try rw [nI_clamp (by decide)]
  refine zs rfl rfl rfl ?_
  refine zs rfl rfl rfl ?_
  refine zcl rfl rfl (c_sheetAt_3) ?_
  refine zs rfl rfl rfl ?_
  refine zs rfl rfl rfl ?_
  refine zs rfl rfl rfl ?_
  refine zcl rfl rfl (c_sheetAt_2) ?_
  refine zs rfl rfl rfl ?_
  refine zs rfl rfl rfl ?_
  refine zs rfl rfl rfl ?_
  refine zs rfl rfl rfl ?_
  refine zs rfl rfl rfl ?_
  refine zs rfl rfl rfl ?_
  refine zcl rfl rfl (c_isMissing_3 hS0.1) ?_
  by_cases h : B.1 3 = 0
  · rw [decide_eq_true h, if_pos h]
    refine zs rfl rfl rfl ?_
    refine zs rfl rfl rfl ?_
    refine zs rfl rfl rfl ?_
    refine zcl rfl rfl (c_refuse_5) ?_
    exact zret rfl rfl (cX_ref (c := 5) rfl Fr.rfl' hC hS)
  · rw [decide_eq_false h, if_neg h]
    refine zs rfl rfl rfl ?_
    refine zs rfl rfl rfl ?_
    refine zcl rfl rfl (c_isMissing_2 hS1.1) ?_
    by_cases h2 : B.1 2 = 0
    · rw [decide_eq_true h2, if_pos h2]
      refine zs rfl rfl rfl ?_
      refine zs rfl rfl rfl ?_
      refine zs rfl rfl rfl ?_
      refine zcl rfl rfl (c_refuse_5) ?_
      exact zret rfl rfl (cX_ref (c := 5) rfl Fr.rfl' hC hS)
    · rw [decide_eq_false h2, if_neg h2]
      refine zs rfl rfl rfl ?_
      refine zs rfl rfl rfl ?_
      refine zs rfl rfl rfl ?_
      refine zto rfl hS0.1 ?_
      refine zs rfl rfl rfl ?_
      refine zs rfl rfl rfl ?_
      refine zto rfl hS1.1 ?_
      by_cases h3 : B.1 3 = B.1 2
      · rw [if_pos h3]
        refine zbt (h3) rfl rfl rfl ?_
        refine zs rfl rfl rfl ?_
        refine zs rfl rfl rfl ?_
        refine zs rfl rfl rfl ?_
        refine zcl rfl rfl (c_hasRow_3 hS0.2.1 f m) ?_
        by_cases h4 : hrw (B.2.1 3) f m
        · rw [decide_eq_true h4, if_pos h4]
          refine zs rfl rfl rfl ?_
          refine zs rfl rfl rfl ?_
          refine zs rfl rfl rfl ?_
          refine zs rfl rfl rfl ?_
          refine zcl rfl rfl (c_hasRow_2 hS1.2.1 g m) ?_
          by_cases h5 : hrw (B.2.1 2) g m
          · rw [decide_eq_true h5, if_pos h5]
            obtain ⟨a, b, rfl, rfl, hab⟩ := hrw_of hB0 h4
            obtain ⟨c, d, rfl, hd, hcd⟩ := hrw_of hB1 h5
            have hbd : b = d := by
              have q := congrArg Int32.toNatClampNeg hd
              have hb1 : b ≤ 40 := by omega
              have hd1 : d ≤ 40 := by omega
              rwa [nI_clamp (by omega), nI_clamp (by omega)] at q
            subst hbd
            refine zs rfl rfl rfl ?_
            refine zs rfl rfl rfl ?_
            refine zs rfl rfl rfl ?_
            refine zs rfl rfl rfl ?_
            refine zs rfl rfl rfl ?_
            refine zs rfl rfl rfl ?_
            refine zs rfl rfl rfl ?_
            refine zs rfl rfl rfl ?_
            refine zcpL rfl rfl rfl rfl rfl rfl rfl (by omega) (by omega) ?_
            refine zs rfl rfl rfl ?_
            rw [nI_clamp (by omega), nI_clamp (by omega), nI_clamp (by omega)]
            refine zret rfl rfl (cX_ok rfl Fr.rfl' hC (hS.up (t := 2) (by decide) (fun b hb => z_rowL_ne N _ hb) (fun i hi => ?_)) (z_rowL_ne N _ (by decide)))
            show z_rowL N 41 _ 41 i = _
            rw [z_rowL_same]
            unfold va_cpy
            by_cases q : c ≤ i ∧ i < c + b
            · rw [if_pos q, if_pos q]
              exact hS0.2.2 _ (by omega)
            · rw [if_neg q, if_neg q]
              exact hS1.2.2 i hi
          · rw [decide_eq_false h5, if_neg h5]
            refine zs rfl rfl rfl ?_
            refine zs rfl rfl rfl ?_
            refine zs rfl rfl rfl ?_
            refine zcl rfl rfl (c_refuse_0) ?_
            exact zret rfl rfl (cX_ref (c := 0) rfl Fr.rfl' hC hS)
        · rw [decide_eq_false h4, if_neg h4]
          refine zs rfl rfl rfl ?_
          refine zs rfl rfl rfl ?_
          refine zs rfl rfl rfl ?_
          refine zcl rfl rfl (c_refuse_0) ?_
          exact zret rfl rfl (cX_ref (c := 0) rfl Fr.rfl' hC hS)
      · rw [if_neg h3]
        refine zbf (h3) rfl rfl rfl ?_
        refine zs rfl rfl rfl ?_
        refine zs rfl rfl rfl ?_
        refine zcl rfl rfl (c_refuse_2) ?_
        exact zret rfl rfl (cX_ref (c := 2) rfl Fr.rfl' hC hS)
theorem c_copy_33 (hC : cC M S F) (hS : cS M N B) (hB : Sok B) (f g m : Int32) : zV X 91 [.ref 0, .int (nI 3), .int f, .int (nI 3), .int g, .int m] M N (cX M N (r_copy S F B (nI 3) f (nI 3) g m)) := by
  refine zVi [(0, .ref 0), (1, .int (nI 3)), (2, .int f), (3, .int (nI 3)), (4, .int g), (5, .int m)] rfl ?_
  unfold r_copy
  have hS0 := hS 3 (by decide)
  have hS1 := hS 3 (by decide)
  have hB0 := (hB 3 (by decide)).1
  have hB1 := (hB 3 (by decide)).1
  rw [if_pos (by decide), if_pos (by decide), nI_clamp (by decide)]
  try rw [nI_clamp (by decide)]
  refine zs rfl rfl rfl ?_
  refine zs rfl rfl rfl ?_
  refine zcl rfl rfl (c_sheetAt_3) ?_
  refine zs rfl rfl rfl ?_
  refine zs rfl rfl rfl ?_
  refine zs rfl rfl rfl ?_
  refine zcl rfl rfl (c_sheetAt_3) ?_
  refine zs rfl rfl rfl ?_
  refine zs rfl rfl rfl ?_
  refine zs rfl rfl rfl ?_
  refine zs rfl rfl rfl ?_
  refine zs rfl rfl rfl ?_
  refine zs rfl rfl rfl ?_
  refine zcl rfl rfl (c_isMissing_3 hS0.1) ?_
  by_cases h : B.1 3 = 0
  · rw [decide_eq_true h, if_pos h]
    refine zs rfl rfl rfl ?_
    refine zs rfl rfl rfl ?_
    refine zs rfl rfl rfl ?_
    refine zcl rfl rfl (c_refuse_5) ?_
    exact zret rfl rfl (cX_ref (c := 5) rfl Fr.rfl' hC hS)
  · rw [decide_eq_false h, if_neg h]
    refine zs rfl rfl rfl ?_
    refine zs rfl rfl rfl ?_
    refine zcl rfl rfl (c_isMissing_3 hS1.1) ?_
    by_cases h2 : B.1 3 = 0
    · rw [decide_eq_true h2, if_pos h2]
      refine zs rfl rfl rfl ?_
      refine zs rfl rfl rfl ?_
      refine zs rfl rfl rfl ?_
      refine zcl rfl rfl (c_refuse_5) ?_
      exact zret rfl rfl (cX_ref (c := 5) rfl Fr.rfl' hC hS)
    · rw [decide_eq_false h2, if_neg h2]
      refine zs rfl rfl rfl ?_
      refine zs rfl rfl rfl ?_
      refine zs rfl rfl rfl ?_
      refine zto rfl hS0.1 ?_
      refine zs rfl rfl rfl ?_
      refine zs rfl rfl rfl ?_
      refine zto rfl hS1.1 ?_
      by_cases h3 : B.1 3 = B.1 3
      · rw [if_pos h3]
        refine zbt (h3) rfl rfl rfl ?_
        refine zs rfl rfl rfl ?_
        refine zs rfl rfl rfl ?_
        refine zs rfl rfl rfl ?_
        refine zcl rfl rfl (c_hasRow_3 hS0.2.1 f m) ?_
        by_cases h4 : hrw (B.2.1 3) f m
        · rw [decide_eq_true h4, if_pos h4]
          refine zs rfl rfl rfl ?_
          refine zs rfl rfl rfl ?_
          refine zs rfl rfl rfl ?_
          refine zs rfl rfl rfl ?_
          refine zcl rfl rfl (c_hasRow_3 hS1.2.1 g m) ?_
          by_cases h5 : hrw (B.2.1 3) g m
          · rw [decide_eq_true h5, if_pos h5]
            obtain ⟨a, b, rfl, rfl, hab⟩ := hrw_of hB0 h4
            obtain ⟨c, d, rfl, hd, hcd⟩ := hrw_of hB1 h5
            have hbd : b = d := by
              have q := congrArg Int32.toNatClampNeg hd
              have hb1 : b ≤ 40 := by omega
              have hd1 : d ≤ 40 := by omega
              rwa [nI_clamp (by omega), nI_clamp (by omega)] at q
            subst hbd
            refine zs rfl rfl rfl ?_
            refine zs rfl rfl rfl ?_
            refine zs rfl rfl rfl ?_
            refine zs rfl rfl rfl ?_
            refine zs rfl rfl rfl ?_
            refine zs rfl rfl rfl ?_
            refine zs rfl rfl rfl ?_
            refine zs rfl rfl rfl ?_
            refine zcpL rfl rfl rfl rfl rfl rfl rfl (by omega) (by omega) ?_
            refine zs rfl rfl rfl ?_
            rw [nI_clamp (by omega), nI_clamp (by omega), nI_clamp (by omega)]
            refine zret rfl rfl (cX_ok rfl Fr.rfl' hC (hS.up (t := 3) (by decide) (fun b hb => z_rowL_ne N _ hb) (fun i hi => ?_)) (z_rowL_ne N _ (by decide)))
            show z_rowL N 43 _ 43 i = _
            rw [z_rowL_same]
            unfold va_cpy
            by_cases q : c ≤ i ∧ i < c + b
            · rw [if_pos q, if_pos q]
              exact hS0.2.2 _ (by omega)
            · rw [if_neg q, if_neg q]
              exact hS1.2.2 i hi
          · rw [decide_eq_false h5, if_neg h5]
            refine zs rfl rfl rfl ?_
            refine zs rfl rfl rfl ?_
            refine zs rfl rfl rfl ?_
            refine zcl rfl rfl (c_refuse_0) ?_
            exact zret rfl rfl (cX_ref (c := 0) rfl Fr.rfl' hC hS)
        · rw [decide_eq_false h4, if_neg h4]
          refine zs rfl rfl rfl ?_
          refine zs rfl rfl rfl ?_
          refine zs rfl rfl rfl ?_
          refine zcl rfl rfl (c_refuse_0) ?_
          exact zret rfl rfl (cX_ref (c := 0) rfl Fr.rfl' hC hS)
      · rw [if_neg h3]
        refine zbf (h3) rfl rfl rfl ?_
        refine zs rfl rfl rfl ?_
        refine zs rfl rfl rfl ?_
        refine zcl rfl rfl (c_refuse_2) ?_
        exact zret rfl rfl (cX_ref (c := 2) rfl Fr.rfl' hC hS)
theorem c_copy (hC : cC M S F) (hS : cS M N B) (hB : Sok B) (s f t g m : Int32) : zV X 91 [.ref 0, .int s, .int f, .int t, .int g, .int m] M N (cX M N (r_copy S F B s f t g m)) := by
  by_cases h : 0 ≤ s ∧ s ≤ 3
  · by_cases h2 : 0 ≤ t ∧ t ≤ 3
    · rcases r4 h with rfl | rfl | rfl | rfl <;> rcases r4 h2 with rfl | rfl | rfl | rfl
      · exact c_copy_00 hC hS hB f g m
      · exact c_copy_01 hC hS hB f g m
      · exact c_copy_02 hC hS hB f g m
      · exact c_copy_03 hC hS hB f g m
      · exact c_copy_10 hC hS hB f g m
      · exact c_copy_11 hC hS hB f g m
      · exact c_copy_12 hC hS hB f g m
      · exact c_copy_13 hC hS hB f g m
      · exact c_copy_20 hC hS hB f g m
      · exact c_copy_21 hC hS hB f g m
      · exact c_copy_22 hC hS hB f g m
      · exact c_copy_23 hC hS hB f g m
      · exact c_copy_30 hC hS hB f g m
      · exact c_copy_31 hC hS hB f g m
      · exact c_copy_32 hC hS hB f g m
      · exact c_copy_33 hC hS hB f g m
    · unfold r_copy
      rw [if_pos h, if_neg h2]
      refine zVi [(0, .ref 0), (1, .int s), (2, .int f), (3, .int t), (4, .int g), (5, .int m)] rfl ?_
      rcases r4 h with rfl | rfl | rfl | rfl
      · refine zs rfl rfl rfl ?_
        refine zs rfl rfl rfl ?_
        refine zcl rfl rfl (c_sheetAt_0) ?_
        refine zs rfl rfl rfl ?_
        refine zs rfl rfl rfl ?_
        refine zs rfl rfl rfl ?_
        refine zcl rfl rfl (c_sheetAt_no h2) ?_
        refine zs rfl rfl rfl ?_
        refine zs rfl rfl rfl ?_
        refine zs rfl rfl rfl ?_
        refine zs rfl rfl rfl ?_
        refine zs rfl rfl rfl ?_
        refine zs rfl rfl rfl ?_
        refine zs rfl rfl rfl ?_
        refine zcl rfl rfl (c_refuse_0) ?_
        exact zret rfl rfl (cX_ref (c := 0) rfl Fr.rfl' hC hS)
      · refine zs rfl rfl rfl ?_
        refine zs rfl rfl rfl ?_
        refine zcl rfl rfl (c_sheetAt_1) ?_
        refine zs rfl rfl rfl ?_
        refine zs rfl rfl rfl ?_
        refine zs rfl rfl rfl ?_
        refine zcl rfl rfl (c_sheetAt_no h2) ?_
        refine zs rfl rfl rfl ?_
        refine zs rfl rfl rfl ?_
        refine zs rfl rfl rfl ?_
        refine zs rfl rfl rfl ?_
        refine zs rfl rfl rfl ?_
        refine zs rfl rfl rfl ?_
        refine zs rfl rfl rfl ?_
        refine zcl rfl rfl (c_refuse_0) ?_
        exact zret rfl rfl (cX_ref (c := 0) rfl Fr.rfl' hC hS)
      · refine zs rfl rfl rfl ?_
        refine zs rfl rfl rfl ?_
        refine zcl rfl rfl (c_sheetAt_2) ?_
        refine zs rfl rfl rfl ?_
        refine zs rfl rfl rfl ?_
        refine zs rfl rfl rfl ?_
        refine zcl rfl rfl (c_sheetAt_no h2) ?_
        refine zs rfl rfl rfl ?_
        refine zs rfl rfl rfl ?_
        refine zs rfl rfl rfl ?_
        refine zs rfl rfl rfl ?_
        refine zs rfl rfl rfl ?_
        refine zs rfl rfl rfl ?_
        refine zs rfl rfl rfl ?_
        refine zcl rfl rfl (c_refuse_0) ?_
        exact zret rfl rfl (cX_ref (c := 0) rfl Fr.rfl' hC hS)
      · refine zs rfl rfl rfl ?_
        refine zs rfl rfl rfl ?_
        refine zcl rfl rfl (c_sheetAt_3) ?_
        refine zs rfl rfl rfl ?_
        refine zs rfl rfl rfl ?_
        refine zs rfl rfl rfl ?_
        refine zcl rfl rfl (c_sheetAt_no h2) ?_
        refine zs rfl rfl rfl ?_
        refine zs rfl rfl rfl ?_
        refine zs rfl rfl rfl ?_
        refine zs rfl rfl rfl ?_
        refine zs rfl rfl rfl ?_
        refine zs rfl rfl rfl ?_
        refine zs rfl rfl rfl ?_
        refine zcl rfl rfl (c_refuse_0) ?_
        exact zret rfl rfl (cX_ref (c := 0) rfl Fr.rfl' hC hS)
  · unfold r_copy
    rw [if_neg h]
    refine zVi [(0, .ref 0), (1, .int s), (2, .int f), (3, .int t), (4, .int g), (5, .int m)] rfl ?_
    refine zs rfl rfl rfl ?_
    refine zs rfl rfl rfl ?_
    refine zcl rfl rfl (c_sheetAt_no h) ?_
    by_cases h2 : 0 ≤ t ∧ t ≤ 3
    · rcases r4 h2 with rfl | rfl | rfl | rfl
      · refine zs rfl rfl rfl ?_
        refine zs rfl rfl rfl ?_
        refine zs rfl rfl rfl ?_
        refine zcl rfl rfl (c_sheetAt_0) ?_
        refine zs rfl rfl rfl ?_
        refine zs rfl rfl rfl ?_
        refine zs rfl rfl rfl ?_
        refine zs rfl rfl rfl ?_
        refine zs rfl rfl rfl ?_
        refine zcl rfl rfl (c_refuse_0) ?_
        exact zret rfl rfl (cX_ref (c := 0) rfl Fr.rfl' hC hS)
      · refine zs rfl rfl rfl ?_
        refine zs rfl rfl rfl ?_
        refine zs rfl rfl rfl ?_
        refine zcl rfl rfl (c_sheetAt_1) ?_
        refine zs rfl rfl rfl ?_
        refine zs rfl rfl rfl ?_
        refine zs rfl rfl rfl ?_
        refine zs rfl rfl rfl ?_
        refine zs rfl rfl rfl ?_
        refine zcl rfl rfl (c_refuse_0) ?_
        exact zret rfl rfl (cX_ref (c := 0) rfl Fr.rfl' hC hS)
      · refine zs rfl rfl rfl ?_
        refine zs rfl rfl rfl ?_
        refine zs rfl rfl rfl ?_
        refine zcl rfl rfl (c_sheetAt_2) ?_
        refine zs rfl rfl rfl ?_
        refine zs rfl rfl rfl ?_
        refine zs rfl rfl rfl ?_
        refine zs rfl rfl rfl ?_
        refine zs rfl rfl rfl ?_
        refine zcl rfl rfl (c_refuse_0) ?_
        exact zret rfl rfl (cX_ref (c := 0) rfl Fr.rfl' hC hS)
      · refine zs rfl rfl rfl ?_
        refine zs rfl rfl rfl ?_
        refine zs rfl rfl rfl ?_
        refine zcl rfl rfl (c_sheetAt_3) ?_
        refine zs rfl rfl rfl ?_
        refine zs rfl rfl rfl ?_
        refine zs rfl rfl rfl ?_
        refine zs rfl rfl rfl ?_
        refine zs rfl rfl rfl ?_
        refine zcl rfl rfl (c_refuse_0) ?_
        exact zret rfl rfl (cX_ref (c := 0) rfl Fr.rfl' hC hS)
    · refine zs rfl rfl rfl ?_
      refine zs rfl rfl rfl ?_
      refine zs rfl rfl rfl ?_
      refine zcl rfl rfl (c_sheetAt_no h2) ?_
      refine zs rfl rfl rfl ?_
      refine zs rfl rfl rfl ?_
      refine zs rfl rfl rfl ?_
      refine zs rfl rfl rfl ?_
      refine zs rfl rfl rfl ?_
      refine zcl rfl rfl (c_refuse_0) ?_
      exact zret rfl rfl (cX_ref (c := 0) rfl Fr.rfl' hC hS)
theorem c_write (hC : cC M S F) (hS : cS M N B) (hB : Sok B) (s i : Int32) (v : Int64) : zV X 90 [.ref 0, .int s, .int i, .long v] M N (cXL M N S (r_write F B s i v)) := by
  by_cases h : 0 ≤ s ∧ s ≤ 3
  · rcases r4 h with rfl | rfl | rfl | rfl
    · exact c_write_0 hC hS hB i v
    · exact c_write_1 hC hS hB i v
    · exact c_write_2 hC hS hB i v
    · exact c_write_3 hC hS hB i v
  · unfold r_write
    rw [if_neg h]
    refine zVi [(0, .ref 0), (1, .int s), (2, .int i), (3, .long v), (4, .retAddr 0)] rfl ?_
    refine zs rfl rfl rfl ?_
    refine zs rfl rfl rfl ?_
    refine zcl rfl rfl (c_sheetAt_no h) ?_
    refine zs rfl rfl rfl ?_
    refine zs rfl rfl rfl ?_
    refine zs rfl rfl rfl ?_
    refine zs rfl rfl rfl ?_
    refine zs rfl rfl rfl ?_
    refine zcl rfl rfl (c_refuse_0) ?_
    refine zs rfl rfl rfl ?_
    exact zret rfl rfl (cW_ref (c := 0) Fr.rfl' hC hS _)
theorem c_lays (hC : cC M S F) (hS : cS M N B) (hB : Sok B) (s : Int32) : zV X 92 [.ref 0, .int s] M N (cX M N (r_lays S F B s)) := by
  by_cases h : 0 ≤ s ∧ s ≤ 3
  · rcases r4 h with rfl | rfl | rfl | rfl
    · exact c_lays_0 hC hS hB
    · exact c_lays_1 hC hS hB
    · exact c_lays_2 hC hS hB
    · exact c_lays_3 hC hS hB
  · unfold r_lays
    rw [if_neg h]
    refine zVi [(0, .ref 0), (1, .int s)] rfl ?_
    refine zs rfl rfl rfl ?_
    refine zs rfl rfl rfl ?_
    refine zcl rfl rfl (c_sheetAt_no h) ?_
    refine zs rfl rfl rfl ?_
    refine zs rfl rfl rfl ?_
    refine zs rfl rfl rfl ?_
    refine zs rfl rfl rfl ?_
    refine zs rfl rfl rfl ?_
    refine zcl rfl rfl (c_refuse_0) ?_
    exact zret rfl rfl (cX_ref (c := 0) rfl Fr.rfl' hC hS)
theorem c_dawn (hC : cC M S F) (hS : cS M N B) (hB : Sok B) (hO : Ok S n) (s : Int32) : zV X 93 [.ref 0, .int s] M N (cX M N (r_dawn S F n B s)) := by
  by_cases h : 0 ≤ s ∧ s ≤ 3
  · rcases r4 h with rfl | rfl | rfl | rfl
    · exact c_dawn_0 hC hS hB hO
    · exact c_dawn_1 hC hS hB hO
    · exact c_dawn_2 hC hS hB hO
    · exact c_dawn_3 hC hS hB hO
  · unfold r_dawn
    rw [if_neg h]
    refine zVi [(0, .ref 0), (1, .int s)] rfl ?_
    refine zs rfl rfl rfl ?_
    refine zs rfl rfl rfl ?_
    refine zcl rfl rfl (c_sheetAt_no h) ?_
    refine zs rfl rfl rfl ?_
    refine zs rfl rfl rfl ?_
    refine zs rfl rfl rfl ?_
    refine zs rfl rfl rfl ?_
    refine zs rfl rfl rfl ?_
    refine zcl rfl rfl (c_refuse_0) ?_
    exact zret rfl rfl (cX_ref (c := 0) rfl Fr.rfl' hC hS)
theorem c_read (hC : cC M S F) (hS : cS M N B) (hB : Sok B) (hO : Ok S n) (s : Int32) : zV X 94 [.ref 0, .int s] M N (cX M N (r_read S F n B s)) := by
  by_cases h : 0 ≤ s ∧ s ≤ 3
  · rcases r4 h with rfl | rfl | rfl | rfl
    · exact c_read_0 hC hS hB hO
    · exact c_read_1 hC hS hB hO
    · exact c_read_2 hC hS hB hO
    · exact c_read_3 hC hS hB hO
  · unfold r_read
    rw [if_neg h]
    refine zVi [(0, .ref 0), (1, .int s)] rfl ?_
    refine zs rfl rfl rfl ?_
    refine zs rfl rfl rfl ?_
    refine zcl rfl rfl (c_sheetAt_no h) ?_
    refine zs rfl rfl rfl ?_
    refine zs rfl rfl rfl ?_
    refine zs rfl rfl rfl ?_
    refine zs rfl rfl rfl ?_
    refine zs rfl rfl rfl ?_
    refine zcl rfl rfl (c_refuse_0) ?_
    exact zret rfl rfl (cX_ref (c := 0) rfl Fr.rfl' hC hS)
end CSHT3
