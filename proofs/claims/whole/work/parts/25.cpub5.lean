/-! More calls of the class: choices, images, counts, the tape. -/
def r_count (S F : zS) (n tl : Nat) (w : Int32) : zR := if w = 0 then (nI n, S, F) else if w = 1 then (nI (many (hg S n (-1))), S, F) else if w = 2 then (nI tl, S, F) else if w = 3 then (isum 13 (fun a => S (9 + a)), S, F) else rf S F 0
def r_status (S F : zS) (w : Int32) : zR := if w = -1 then (isum 7 F, S, F) else if 0 ≤ w ∧ w ≤ 6 then (F w.toNatClampNeg, S, F) else rf S F 0
def byt (x : Int32) (m : Nat) : Int32 := (x.toUInt32 >>> ((nI (8 * m)).toUInt32 &&& Int32.toUInt32 31)).toInt32 &&& 255
/-- the tape behind m bytes of x more -/
def fdt (x : Int32) : Nat → Nat → zS → zS
  | 0, _, tb => tb
  | m + 1, tl, tb => fdt x m (tl + 1) (upd tb tl (byt x m))
theorem nI_dec (k : Nat) : nI (k + 1) + (-1) = nI k := by
  rw [← nI_1, Int32.add_assoc, show (1 : Int32) + (-1) = 0 by decide, Int32.add_zero]
section CPUB5
variable {X : Nat × (Nat → Int32)} {M M2 : zM} {N : zN} {S F T tb : zS} {n tl : Nat}
theorem c_matters (hC : cC M S F) (hO : Ok S n) : zV X 81 [.ref 0] M N (cP M N (r_matters S F n)) := by
  refine zVi [(0, .ref 0)] rfl ?_
  unfold r_matters
  have hn0 := hC.n0 hO
  have hv := hC.1
  have hle := hO.le
  refine zs rfl rfl rfl ?_
  refine zs rfl rfl rfl ?_
  refine zs rfl rfl rfl ?_
  refine zs rfl rfl rfl ?_
  refine zs rfl rfl rfl ?_
  refine zs rfl rfl rfl ?_
  have loop : ∀ d i tl, i + d = n → (tl = [] ∨ ∃ a : Int32, tl = [(4, Value.int a)]) → zW X 81 7 ((0, .ref 0) :: (1, .int (cho (mtt S n) (-1000000004) 0 i).1) :: (2, .int (cho (mtt S n) (-1000000004) 0 i).2) :: (3, .int (nI i)) :: tl) [] M N (cP M N (r_ch S F (cho (mtt S n) (-1000000004) 0 n).1)) := by
    intro d
    induction d with
    | zero =>
      intro i tl hi htl
      obtain rfl : i = n := by omega
      unfold r_ch
      rcases htl with rfl | ⟨a, rfl⟩
      · refine zs rfl rfl rfl ?_
        refine zs rfl rfl rfl ?_
        refine zs rfl rfl rfl ?_
        refine zs rfl rfl rfl ?_
        try refine zto rfl hn0 ?_
        refine zbt (nI_le (by omega) (by omega)) rfl rfl rfl ?_
        refine zs rfl rfl rfl ?_
        refine zs rfl rfl rfl ?_
        refine zbr rfl rfl rfl (fun hc => ?_) (fun hc => ?_)
        · rw [if_neg hc]
          refine zs rfl rfl rfl ?_
          exact zret rfl rfl (cP_ok (S' := S) (F := F) rfl (Fr.rfl') (hC))
        · rw [if_pos (Decidable.not_not.mp hc)]
          refine zs rfl rfl rfl ?_
          refine zs rfl rfl rfl ?_
          refine zcl rfl rfl (c_refuse_3) ?_
          refine zs rfl rfl rfl ?_
          exact zret rfl rfl (cP_ref (S := S) (F := F) (c := 3) rfl (Fr.rfl') (hC))
      · refine zs rfl rfl rfl ?_
        refine zs rfl rfl rfl ?_
        refine zs rfl rfl rfl ?_
        refine zs rfl rfl rfl ?_
        try refine zto rfl hn0 ?_
        refine zbt (nI_le (by omega) (by omega)) rfl rfl rfl ?_
        refine zs rfl rfl rfl ?_
        refine zs rfl rfl rfl ?_
        refine zbr rfl rfl rfl (fun hc => ?_) (fun hc => ?_)
        · rw [if_neg hc]
          refine zs rfl rfl rfl ?_
          exact zret rfl rfl (cP_ok (S' := S) (F := F) rfl (Fr.rfl') (hC))
        · rw [if_pos (Decidable.not_not.mp hc)]
          refine zs rfl rfl rfl ?_
          refine zs rfl rfl rfl ?_
          refine zcl rfl rfl (c_refuse_3) ?_
          refine zs rfl rfl rfl ?_
          exact zret rfl rfl (cP_ref (S := S) (F := F) (c := 3) rfl (Fr.rfl') (hC))
    | succ d ih =>
      intro i tl hi htl
      have tail : zW X 81 46 [(0, .ref 0), (1, .int (cho (mtt S n) (-1000000004) 0 i).1), (2, .int (cho (mtt S n) (-1000000004) 0 i).2), (3, .int (nI i)), (4, .int (mtt S n i))] [] M N (cP M N (r_ch S F (cho (mtt S n) (-1000000004) 0 n).1)) := by
        have ih' := ih (i + 1) [(4, .int (mtt S n i))] (by omega) (Or.inr ⟨_, rfl⟩)
        refine zs rfl rfl rfl ?_
        refine zs rfl rfl rfl ?_
        refine zbr rfl rfl rfl (fun hc => ?_) (fun hc => ?_)
        · rw [cho_f (i_nlt.mpr hc)] at ih'
          refine zinc rfl rfl rfl ?_
          refine zs rfl rfl rfl ?_
          exact ih'
        · rw [cho_t (i_nle.mp hc)] at ih'
          refine zs rfl rfl rfl ?_
          refine zs rfl rfl rfl ?_
          refine zs rfl rfl rfl ?_
          refine zs rfl rfl rfl ?_
          refine zinc rfl rfl rfl ?_
          refine zs rfl rfl rfl ?_
          exact ih'
      rcases htl with rfl | ⟨a, rfl⟩
      · refine zs rfl rfl rfl ?_
        refine zs rfl rfl rfl ?_
        refine zs rfl rfl rfl ?_
        refine zs rfl rfl rfl ?_
        try refine zto rfl hn0 ?_
        refine zbf (nI_ge (by omega) (by omega)) rfl rfl rfl ?_
        refine zs rfl rfl rfl ?_
        refine zs rfl rfl rfl ?_
        refine zs rfl rfl rfl ?_
        refine zcl rfl rfl (c_depthOf_h hn0 hle hv.fl (nI i)) ?_
        refine zbr rfl rfl rfl (fun hc => ?_) (fun hc => ?_)
        · have e : mtt S n i = nI (many (stg S n (nI i))) := by unfold mtt; rw [if_neg hc]
          rw [e] at tail
          refine zs rfl rfl rfl ?_
          refine zs rfl rfl rfl ?_
          refine zs rfl rfl rfl ?_
          refine zcl rfl rfl (c_stringOf_h hn0 hle hv.fl (nI i)) ?_
          refine zcl rfl rfl (c_bitCount (stg_lt hle _)) ?_
          refine zs rfl rfl rfl ?_
          exact tail
        · have e : mtt S n i = 0 := by unfold mtt; rw [if_pos (Decidable.not_not.mp hc)]
          rw [e] at tail
          refine zs rfl rfl rfl ?_
          refine zs rfl rfl rfl ?_
          refine zs rfl rfl rfl ?_
          exact tail
      · refine zs rfl rfl rfl ?_
        refine zs rfl rfl rfl ?_
        refine zs rfl rfl rfl ?_
        refine zs rfl rfl rfl ?_
        try refine zto rfl hn0 ?_
        refine zbf (nI_ge (by omega) (by omega)) rfl rfl rfl ?_
        refine zs rfl rfl rfl ?_
        refine zs rfl rfl rfl ?_
        refine zs rfl rfl rfl ?_
        refine zcl rfl rfl (c_depthOf_h hn0 hle hv.fl (nI i)) ?_
        refine zbr rfl rfl rfl (fun hc => ?_) (fun hc => ?_)
        · have e : mtt S n i = nI (many (stg S n (nI i))) := by unfold mtt; rw [if_neg hc]
          rw [e] at tail
          refine zs rfl rfl rfl ?_
          refine zs rfl rfl rfl ?_
          refine zs rfl rfl rfl ?_
          refine zcl rfl rfl (c_stringOf_h hn0 hle hv.fl (nI i)) ?_
          refine zcl rfl rfl (c_bitCount (stg_lt hle _)) ?_
          refine zs rfl rfl rfl ?_
          exact tail
        · have e : mtt S n i = 0 := by unfold mtt; rw [if_pos (Decidable.not_not.mp hc)]
          rw [e] at tail
          refine zs rfl rfl rfl ?_
          refine zs rfl rfl rfl ?_
          refine zs rfl rfl rfl ?_
          exact tail
  exact loop n 0 [] (Nat.zero_add n) (Or.inl rfl)
theorem c_weakest (hC : cC M S F) (hO : Ok S n) (w : Int32) : zV X 83 [.ref 0, .int w] M N (cP M N (r_weakest S F n w)) := by
  refine zVi [(0, .ref 0), (1, .int w)] rfl ?_
  unfold r_weakest
  have hle := hO.le
  refine zs rfl rfl rfl ?_
  refine zcl rfl rfl (c_isWind w) ?_
  by_cases h2 : 0 ≤ w ∧ w ≤ 12
  · rw [decide_eq_true h2, if_pos h2]
    refine zs rfl rfl rfl ?_
    refine zs rfl rfl rfl ?_
    refine zs rfl rfl rfl ?_
    refine zs rfl rfl rfl ?_
    refine zclQ rfl rfl (c_fillStrains_h hC.1 hO.s0 hle hO.k w) ?_
    rintro v2 M2 N2 ⟨rfl, rfl, hf2, hT⟩
    have hC2 := hC.fr hf2 (by decide) (by decide)
    have hv := hC2.1
    have hn0 := hC2.n0 hO
    refine zs rfl rfl rfl ?_
    refine zs rfl rfl rfl ?_
    refine zs rfl rfl rfl ?_
    refine zs rfl rfl rfl ?_
    refine zs rfl rfl rfl ?_
    refine zs rfl rfl rfl ?_
    have loop : ∀ d i tl, i + d = n → (tl = [] ∨ ∃ a : Int32, tl = [(5, Value.int a)]) → zW X 83 30 ((0, .ref 0) :: (1, .int w) :: (2, .int (wks S (Str S n w) i).1) :: (3, .int (wks S (Str S n w) i).2) :: (4, .int (nI i)) :: tl) [] M2 N2 (cP M N2 (r_ch S F (wks S (Str S n w) n).1)) := by
      intro d
      induction d with
      | zero =>
        intro i tl hi htl
        obtain rfl : i = n := by omega
        unfold r_ch
        rcases htl with rfl | ⟨a, rfl⟩
        · refine zs rfl rfl rfl ?_
          refine zs rfl rfl rfl ?_
          refine zs rfl rfl rfl ?_
          refine zs rfl rfl rfl ?_
          try refine zto rfl hn0 ?_
          refine zbt (nI_le (by omega) (by omega)) rfl rfl rfl ?_
          refine zs rfl rfl rfl ?_
          refine zs rfl rfl rfl ?_
          refine zbr rfl rfl rfl (fun hc => ?_) (fun hc => ?_)
          · rw [if_neg hc]
            refine zs rfl rfl rfl ?_
            exact zret rfl rfl (cP_ok (S' := S) (F := F) rfl (fr9 hf2) (hC2))
          · rw [if_pos (Decidable.not_not.mp hc)]
            refine zs rfl rfl rfl ?_
            refine zs rfl rfl rfl ?_
            refine zcl rfl rfl (c_refuse_3) ?_
            refine zs rfl rfl rfl ?_
            exact zret rfl rfl (cP_ref (S := S) (F := F) (c := 3) rfl (fr9 hf2) (hC2))
        · refine zs rfl rfl rfl ?_
          refine zs rfl rfl rfl ?_
          refine zs rfl rfl rfl ?_
          refine zs rfl rfl rfl ?_
          try refine zto rfl hn0 ?_
          refine zbt (nI_le (by omega) (by omega)) rfl rfl rfl ?_
          refine zs rfl rfl rfl ?_
          refine zs rfl rfl rfl ?_
          refine zbr rfl rfl rfl (fun hc => ?_) (fun hc => ?_)
          · rw [if_neg hc]
            refine zs rfl rfl rfl ?_
            exact zret rfl rfl (cP_ok (S' := S) (F := F) rfl (fr9 hf2) (hC2))
          · rw [if_pos (Decidable.not_not.mp hc)]
            refine zs rfl rfl rfl ?_
            refine zs rfl rfl rfl ?_
            refine zcl rfl rfl (c_refuse_3) ?_
            refine zs rfl rfl rfl ?_
            exact zret rfl rfl (cP_ref (S := S) (F := F) (c := 3) rfl (fr9 hf2) (hC2))
      | succ d ih =>
        intro i tl hi htl
        have ih' := ih (i + 1) [(5, .int (brk S i - Str S n w i))] (by omega) (Or.inr ⟨_, rfl⟩)
        have tail : zW X 83 64 [(0, .ref 0), (1, .int w), (2, .int (wks S (Str S n w) i).1), (3, .int (wks S (Str S n w) i).2), (4, .int (nI i)), (5, .int (brk S i - Str S n w i))] [] M2 N2 (cP M N2 (r_ch S F (wks S (Str S n w) n).1)) := by
          refine zs rfl rfl rfl ?_
          refine zs rfl rfl rfl ?_
          refine zs rfl rfl rfl ?_
          refine zs rfl rfl rfl ?_
          refine zal rfl rfl rfl (by omega) (by decide) ?_
          try refine zto rfl (Vw.fl (by assumption) _ (by omega)) ?_
          refine zs rfl rfl rfl ?_
          refine zbr rfl rfl rfl (fun hc => ?_) (fun hc => ?_)
          · rw [wks_f (fun q => q.1 hc)] at ih'
            refine zinc rfl rfl rfl ?_
            refine zs rfl rfl rfl ?_
            exact ih'
          · refine zs rfl rfl rfl ?_
            refine zs rfl rfl rfl ?_
            refine zbr rfl rfl rfl (fun hb => ?_) (fun hb => ?_)
            · rw [wks_t ⟨hc, Or.inl hb⟩] at ih'
              refine zs rfl rfl rfl ?_
              refine zs rfl rfl rfl ?_
              refine zs rfl rfl rfl ?_
              refine zs rfl rfl rfl ?_
              refine zinc rfl rfl rfl ?_
              refine zs rfl rfl rfl ?_
              exact ih'
            · refine zs rfl rfl rfl ?_
              refine zs rfl rfl rfl ?_
              refine zbr rfl rfl rfl (fun hd => ?_) (fun hd => ?_)
              · rw [wks_f (fun q => by rcases q.2 with q | q; exact hb q; exact i_nlt.mpr hd q)] at ih'
                refine zinc rfl rfl rfl ?_
                refine zs rfl rfl rfl ?_
                exact ih'
              · rw [wks_t ⟨hc, Or.inr (i_nle.mp hd)⟩] at ih'
                refine zs rfl rfl rfl ?_
                refine zs rfl rfl rfl ?_
                refine zs rfl rfl rfl ?_
                refine zs rfl rfl rfl ?_
                refine zinc rfl rfl rfl ?_
                refine zs rfl rfl rfl ?_
                exact ih'
        rcases htl with rfl | ⟨a, rfl⟩
        · refine zs rfl rfl rfl ?_
          refine zs rfl rfl rfl ?_
          refine zs rfl rfl rfl ?_
          refine zs rfl rfl rfl ?_
          try refine zto rfl hn0 ?_
          refine zbf (nI_ge (by omega) (by omega)) rfl rfl rfl ?_
          refine zs rfl rfl rfl ?_
          refine zs rfl rfl rfl ?_
          refine zs rfl rfl rfl ?_
          refine zcl rfl rfl (c_breaksAt_h hv (show i < 12 by omega)) ?_
          refine zs rfl rfl rfl ?_
          refine zs rfl rfl rfl ?_
          refine zs rfl rfl rfl ?_
          refine zs rfl rfl rfl ?_
          refine zal rfl rfl rfl (by omega) (by decide) ?_
          try refine zto rfl (hT _ (by omega)) ?_
          refine zs rfl rfl rfl ?_
          refine zs rfl rfl rfl ?_
          exact tail
        · refine zs rfl rfl rfl ?_
          refine zs rfl rfl rfl ?_
          refine zs rfl rfl rfl ?_
          refine zs rfl rfl rfl ?_
          try refine zto rfl hn0 ?_
          refine zbf (nI_ge (by omega) (by omega)) rfl rfl rfl ?_
          refine zs rfl rfl rfl ?_
          refine zs rfl rfl rfl ?_
          refine zs rfl rfl rfl ?_
          refine zcl rfl rfl (c_breaksAt_h hv (show i < 12 by omega)) ?_
          refine zs rfl rfl rfl ?_
          refine zs rfl rfl rfl ?_
          refine zs rfl rfl rfl ?_
          refine zs rfl rfl rfl ?_
          refine zal rfl rfl rfl (by omega) (by decide) ?_
          try refine zto rfl (hT _ (by omega)) ?_
          refine zs rfl rfl rfl ?_
          refine zs rfl rfl rfl ?_
          exact tail
    exact loop n 0 [] (Nat.zero_add n) (Or.inl rfl)
  · rw [decide_eq_false h2, if_neg h2]
    refine zs rfl rfl rfl ?_
    refine zs rfl rfl rfl ?_
    refine zs rfl rfl rfl ?_
    refine zcl rfl rfl (c_refuse_0) ?_
    exact zret rfl rfl (cP_ref (S := S) (F := F) (c := 0) rfl (Fr.rfl') (hC))
theorem c_kind (hC : cC M S F) (hO : Ok S n) (s : Int32) : zV X 84 [.ref 0, .int s] M N (cP M N (r_kind S F n s)) := by
  refine zVi [(0, .ref 0), (1, .int s)] rfl ?_
  unfold r_kind
  have hn0 := hC.n0 hO
  have hle := hO.le
  refine zs rfl rfl rfl ?_
  refine zs rfl rfl rfl ?_
  refine zs rfl rfl rfl ?_
  refine zcl rfl rfl (c_hasShip_h hn0 s) ?_
  cases h : shp n s with
  | true =>
    rw [if_pos rfl]
    obtain ⟨j, hj, rfl⟩ := shp_of hle h
    rw [nI_clamp (by omega)]
    refine zs rfl rfl rfl ?_
    refine zs rfl rfl rfl ?_
    refine zs rfl rfl rfl ?_
    refine zs rfl rfl rfl ?_
    refine zs rfl rfl rfl ?_
    refine zclQ rfl rfl (c_take_th hC.1) ?_
    rintro v2 M2 N2 ⟨rfl, rfl, hf2, hv2⟩
    have hf2' : Fr sL M M2 := hf2.mono (by decide)
    refine zs rfl rfl rfl ?_
    refine zs rfl rfl rfl ?_
    refine zs rfl rfl rfl ?_
    refine zs rfl rfl rfl ?_
    refine zs rfl rfl rfl ?_
    refine zs rfl rfl rfl ?_
    have loop : ∀ d i M1 S1 tl, i + d = 6 → (tl = [] ∨ ∃ a : Int32, tl = [(5, Value.int a)]) → Fr sL M M1 → Vw M1 19 S1 → (∀ y, upk S1 j y = upk S j y) → zW X 84 36 ((0, .ref 0) :: (1, .int (nI j)) :: (2, .int (cho (knd S n j) 0 (-1) i).1) :: (3, .int (cho (knd S n j) 0 (-1) i).2) :: (4, .int (nI i)) :: tl) [] M1 N2 (cP M N2 ((cho (knd S n j) 0 (-1) 6).1, S, F)) := by
      intro d
      induction d with
      | zero =>
        intro i M1 S1 tl hi htl hf hv1 he
        obtain rfl : i = 6 := by omega
        rcases htl with rfl | ⟨a, rfl⟩
        · refine zs rfl rfl rfl ?_
          refine zs rfl rfl rfl ?_
          first | refine zs rfl rfl rfl ?_ | refine zbt (nI_le (a := 6) (by omega) (by omega)) rfl rfl rfl ?_
          refine zs rfl rfl rfl ?_
          exact zret rfl rfl (cP_ok (S' := S) (F := F) rfl (frs hf) (hC.sc hf))
        · refine zs rfl rfl rfl ?_
          refine zs rfl rfl rfl ?_
          first | refine zs rfl rfl rfl ?_ | refine zbt (nI_le (a := 6) (by omega) (by omega)) rfl rfl rfl ?_
          refine zs rfl rfl rfl ?_
          exact zret rfl rfl (cP_ok (S' := S) (F := F) rfl (frs hf) (hC.sc hf))
      | succ d ih =>
        intro i M1 S1 tl hi htl hf hv1 he
        have hv3 := hv1.upk (show j < 12 by omega) (nI i)
        rw [he] at hv3
        have hf3 : Fr sL M (z_up M1 22 j (nI i)) := hf.trans (Fr.up (by decide))
        have hk3 : Kok (upk S j (nI i)) n := fun k hk => by
          rw [kd_upk]
          by_cases e : k = j
          · rw [if_pos e]; exact ⟨i, by omega, rfl⟩
          · rw [if_neg e]; exact hO.k k hk
        have hn3 : upk S j (nI i) 0 = nI n := (s0_upk S j _).trans hO.s0
        have tail : ∀ M4, Fr [27] (z_up M1 22 j (nI i)) M4 → zW X 84 63 [(0, .ref 0), (1, .int (nI j)), (2, .int (cho (knd S n j) 0 (-1) i).1), (3, .int (cho (knd S n j) 0 (-1) i).2), (4, .int (nI i)), (5, .int (knd S n j i))] [] M4 N2 (cP M N2 ((cho (knd S n j) 0 (-1) 6).1, S, F)) := by
          intro M4 hf4
          have ih' := ih (i + 1) M4 (upk S j (nI i)) [(5, .int (knd S n j i))] (by omega) (Or.inr ⟨_, rfl⟩) (hf3.trans (hf4.mono (by decide))) (hv3.fr1 hf4) (fun y => upd_upd _ _ _ _)
          refine zs rfl rfl rfl ?_
          refine zs rfl rfl rfl ?_
          refine zbr rfl rfl rfl (fun hc => ?_) (fun hc => ?_)
          · rw [cho_f (i_nlt.mpr hc)] at ih'
            refine zinc rfl rfl rfl ?_
            refine zs rfl rfl rfl ?_
            exact ih'
          · rw [cho_t (i_nle.mp hc)] at ih'
            refine zs rfl rfl rfl ?_
            refine zs rfl rfl rfl ?_
            refine zs rfl rfl rfl ?_
            refine zs rfl rfl rfl ?_
            refine zinc rfl rfl rfl ?_
            refine zs rfl rfl rfl ?_
            exact ih'
        rcases htl with rfl | ⟨a, rfl⟩
        · refine zs rfl rfl rfl ?_
          refine zs rfl rfl rfl ?_
          refine zbf (nI_ge (b := 6) (by omega) (by omega)) rfl rfl rfl ?_
          refine zs rfl rfl rfl ?_
          refine zs rfl rfl rfl ?_
          refine zs rfl rfl rfl ?_
          refine zs rfl rfl rfl ?_
          refine zs rfl rfl rfl ?_
          refine zas rfl rfl rfl rfl (by omega) (by decide) ?_
          refine zs rfl rfl rfl ?_
          refine zs rfl rfl rfl ?_
          refine zclQ rfl rfl (c_greatestHeld_t hv3 hn3 hle hk3) ?_
          rintro v4 M4 N4 ⟨rfl, rfl, hf4⟩
          refine zs rfl rfl rfl ?_
          exact tail M4 hf4
        · refine zs rfl rfl rfl ?_
          refine zs rfl rfl rfl ?_
          refine zbf (nI_ge (b := 6) (by omega) (by omega)) rfl rfl rfl ?_
          refine zs rfl rfl rfl ?_
          refine zs rfl rfl rfl ?_
          refine zs rfl rfl rfl ?_
          refine zs rfl rfl rfl ?_
          refine zs rfl rfl rfl ?_
          refine zas rfl rfl rfl rfl (by omega) (by decide) ?_
          refine zs rfl rfl rfl ?_
          refine zs rfl rfl rfl ?_
          refine zclQ rfl rfl (c_greatestHeld_t hv3 hn3 hle hk3) ?_
          rintro v4 M4 N4 ⟨rfl, rfl, hf4⟩
          refine zs rfl rfl rfl ?_
          exact tail M4 hf4
    exact loop 6 0 M2 S [] rfl (Or.inl rfl) hf2' hv2 (fun _ => rfl)
  | false =>
    rw [if_neg (by decide)]
    refine zs rfl rfl rfl ?_
    refine zs rfl rfl rfl ?_
    refine zs rfl rfl rfl ?_
    refine zcl rfl rfl (c_refuse_0) ?_
    exact zret rfl rfl (cP_ref (S := S) (F := F) (c := 0) rfl (Fr.rfl') (hC))
theorem c_stronger (hC : cC M S F) (hO : Ok S n) : zV X 85 [.ref 0] M N (cP M N (r_stronger S F n)) := by
  refine zVi [(0, .ref 0)] rfl ?_
  unfold r_stronger
  have hle := hO.le
  refine zs rfl rfl rfl ?_
  refine zs rfl rfl rfl ?_
  refine zs rfl rfl rfl ?_
  refine zs rfl rfl rfl ?_
  refine zclQ rfl rfl (c_take_th hC.1) ?_
  rintro v2 M2 N2 ⟨rfl, rfl, hf2, hv2⟩
  have hf2' : Fr sL M M2 := hf2.mono (by decide)
  refine zs rfl rfl rfl ?_
  refine zs rfl rfl rfl ?_
  refine zs rfl rfl rfl ?_
  refine zs rfl rfl rfl ?_
  refine zs rfl rfl rfl ?_
  refine zs rfl rfl rfl ?_
  have loop : ∀ d i M1 tl, i + d = 6 → (tl = [] ∨ ∃ a : Int32, tl = [(4, Value.int a)]) → Fr sL M M1 → Vw M1 19 S → zW X 85 17 ((0, .ref 0) :: (1, .int (cho (sth S n) 0 (-1) i).1) :: (2, .int (cho (sth S n) 0 (-1) i).2) :: (3, .int (nI i)) :: tl) [] M1 N2 (cP M N2 ((cho (sth S n) 0 (-1) 6).1, S, F)) := by
    intro d
    induction d with
    | zero =>
      intro i M1 tl hi htl hf hv1
      obtain rfl : i = 6 := by omega
      rcases htl with rfl | ⟨a, rfl⟩
      · refine zs rfl rfl rfl ?_
        refine zs rfl rfl rfl ?_
        first | refine zs rfl rfl rfl ?_ | refine zbt (nI_le (a := 6) (by omega) (by omega)) rfl rfl rfl ?_
        refine zs rfl rfl rfl ?_
        exact zret rfl rfl (cP_ok (S' := S) (F := F) rfl (frs hf) (hC.sc hf))
      · refine zs rfl rfl rfl ?_
        refine zs rfl rfl rfl ?_
        first | refine zs rfl rfl rfl ?_ | refine zbt (nI_le (a := 6) (by omega) (by omega)) rfl rfl rfl ?_
        refine zs rfl rfl rfl ?_
        exact zret rfl rfl (cP_ok (S' := S) (F := F) rfl (frs hf) (hC.sc hf))
    | succ d ih =>
      intro i M1 tl hi htl hf hv1
      have hC1 := hC.sc hf
      have hvh := hC1.1
      have hh : M1 2 i = S (3 + i) := hvh.ho i (by omega)
      have hv3 := hv1.uph (show i < 6 by omega) (S (3 + i) + 1000)
      have hf3 : Fr sL M (z_up M1 20 i (S (3 + i) + 1000)) := hf.trans (Fr.up (by decide))
      have hn3 : uph S i (S (3 + i) + 1000) 0 = nI n := (s0_uph S i _).trans hO.s0
      have hk3 : Kok (uph S i (S (3 + i) + 1000)) n := hO.k.of (fun k => kd_uph S (show i < 6 by omega) k _)
      have tail : ∀ M4, Fr [27] (z_up M1 20 i (S (3 + i) + 1000)) M4 → zW X 85 54 [(0, .ref 0), (1, .int (cho (sth S n) 0 (-1) i).1), (2, .int (cho (sth S n) 0 (-1) i).2), (3, .int (nI i)), (4, .int (sth S n i))] [] M4 N2 (cP M N2 ((cho (sth S n) 0 (-1) 6).1, S, F)) := by
        intro M4 hf4
        have hv4 := (hv3.fr1 hf4).uph (show i < 6 by omega) (S (3 + i))
        have e : uph (uph S i (S (3 + i) + 1000)) i (S (3 + i)) = S := (upd_upd _ _ _ _).trans (upd_self _ _)
        rw [e] at hv4
        have hf5 : Fr sL M (z_up M4 20 i (S (3 + i))) := (hf3.trans (hf4.mono (by decide))).trans (Fr.up (by decide))
        have hh4 : M4 2 i = S (3 + i) := by
          rw [hf4 2 (by decide), z_up_ne _ _ _ (by decide)]; exact hh
        have ih' := ih (i + 1) (z_up M4 20 i (S (3 + i))) [(4, .int (sth S n i))] (by omega) (Or.inr ⟨_, rfl⟩) hf5 hv4
        refine zs rfl rfl rfl ?_
        refine zs rfl rfl rfl ?_
        refine zs rfl rfl rfl ?_
        refine zs rfl rfl rfl ?_
        refine zs rfl rfl rfl ?_
        refine zs rfl rfl rfl ?_
        refine zs rfl rfl rfl ?_
        refine zs rfl rfl rfl ?_
        refine zal rfl rfl rfl (by omega) (by decide) ?_
        refine zto rfl hh4 ?_
        refine zas rfl rfl rfl rfl (by omega) (by decide) ?_
        refine zs rfl rfl rfl ?_
        refine zs rfl rfl rfl ?_
        refine zbr rfl rfl rfl (fun hc => ?_) (fun hc => ?_)
        · rw [cho_f (i_nlt.mpr hc)] at ih'
          refine zinc rfl rfl rfl ?_
          refine zs rfl rfl rfl ?_
          exact ih'
        · rw [cho_t (i_nle.mp hc)] at ih'
          refine zs rfl rfl rfl ?_
          refine zs rfl rfl rfl ?_
          refine zs rfl rfl rfl ?_
          refine zs rfl rfl rfl ?_
          refine zinc rfl rfl rfl ?_
          refine zs rfl rfl rfl ?_
          exact ih'
      rcases htl with rfl | ⟨a, rfl⟩
      · refine zs rfl rfl rfl ?_
        refine zs rfl rfl rfl ?_
        refine zbf (nI_ge (b := 6) (by omega) (by omega)) rfl rfl rfl ?_
        refine zs rfl rfl rfl ?_
        refine zs rfl rfl rfl ?_
        refine zs rfl rfl rfl ?_
        refine zs rfl rfl rfl ?_
        refine zs rfl rfl rfl ?_
        refine zs rfl rfl rfl ?_
        refine zs rfl rfl rfl ?_
        refine zs rfl rfl rfl ?_
        refine zal rfl rfl rfl (by omega) (by decide) ?_
        refine zto rfl hh ?_
        refine zs rfl rfl rfl ?_
        refine zs rfl rfl rfl ?_
        refine zas rfl rfl rfl rfl (by omega) (by decide) ?_
        refine zs rfl rfl rfl ?_
        refine zs rfl rfl rfl ?_
        refine zclQ rfl rfl (c_greatestHeld_t hv3 hn3 hle hk3) ?_
        rintro v4 M4 N4 ⟨rfl, rfl, hf4⟩
        refine zs rfl rfl rfl ?_
        exact tail M4 hf4
      · refine zs rfl rfl rfl ?_
        refine zs rfl rfl rfl ?_
        refine zbf (nI_ge (b := 6) (by omega) (by omega)) rfl rfl rfl ?_
        refine zs rfl rfl rfl ?_
        refine zs rfl rfl rfl ?_
        refine zs rfl rfl rfl ?_
        refine zs rfl rfl rfl ?_
        refine zs rfl rfl rfl ?_
        refine zs rfl rfl rfl ?_
        refine zs rfl rfl rfl ?_
        refine zs rfl rfl rfl ?_
        refine zal rfl rfl rfl (by omega) (by decide) ?_
        refine zto rfl hh ?_
        refine zs rfl rfl rfl ?_
        refine zs rfl rfl rfl ?_
        refine zas rfl rfl rfl rfl (by omega) (by decide) ?_
        refine zs rfl rfl rfl ?_
        refine zs rfl rfl rfl ?_
        refine zclQ rfl rfl (c_greatestHeld_t hv3 hn3 hle hk3) ?_
        rintro v4 M4 N4 ⟨rfl, rfl, hf4⟩
        refine zs rfl rfl rfl ?_
        exact tail M4 hf4
  exact loop 6 0 M2 [] rfl (Or.inl rfl) hf2' hv2
theorem c_count (hC : cC M S F) (hO : Ok S n) (ht : M 29 1 = nI tl) (w : Int32) : zV X 98 [.ref 0, .int w] M N (cP M N (r_count S F n tl w)) := by
  refine zVi [(0, .ref 0), (1, .int w)] rfl ?_
  unfold r_count
  have hv := hC.1
  have hn0 := hC.n0 hO
  refine zs rfl rfl rfl ?_
  by_cases h0 : w = 0
  · subst h0
    rw [if_pos rfl]
    refine zs rfl rfl rfl ?_
    refine zs rfl rfl rfl ?_
    refine zs rfl rfl rfl ?_
    refine zs rfl rfl rfl ?_
    try refine zto rfl hn0 ?_
    exact zret rfl rfl (cP_ok (S' := S) (F := F) rfl (Fr.rfl') (hC))
  by_cases h1 : w = 1
  · subst h1
    rw [if_neg h0, if_pos rfl]
    refine zs rfl rfl rfl ?_
    refine zs rfl rfl rfl ?_
    refine zs rfl rfl rfl ?_
    refine zs rfl rfl rfl ?_
    refine zcl rfl rfl (c_hangersOf_h hn0 hO.le hv.fl (-1)) ?_
    refine zcl rfl rfl (c_bitCount (hg_lt hO.le _)) ?_
    exact zret rfl rfl (cP_ok (S' := S) (F := F) rfl (Fr.rfl') (hC))
  by_cases h2 : w = 2
  · subst h2
    rw [if_neg h0, if_neg h1, if_pos rfl]
    refine zs rfl rfl rfl ?_
    refine zs rfl rfl rfl ?_
    refine zs rfl rfl rfl ?_
    refine zs rfl rfl rfl ?_
    refine zs rfl rfl rfl ?_
    refine zto rfl ht ?_
    exact zret rfl rfl (cP_ok (S' := S) (F := F) rfl (Fr.rfl') (hC))
  by_cases h3 : w = 3
  · subst h3
    rw [if_neg h0, if_neg h1, if_neg h2, if_pos rfl]
    refine zs rfl rfl rfl ?_
    refine zs rfl rfl rfl ?_
    refine zs rfl rfl rfl ?_
    refine zs rfl rfl rfl ?_
    refine zs rfl rfl rfl ?_
    refine zcl rfl rfl (c_sumOf_3 (m := 13) (Nat.le_refl _)) ?_
    refine zto rfl (isum_congr (fun k hk => hv.od k hk)) ?_
    exact zret rfl rfl (cP_ok (S' := S) (F := F) rfl (Fr.rfl') (hC))
  rw [if_neg h0, if_neg h1, if_neg h2, if_neg h3]
  refine zsw rfl rfl (ne_rng (k := 4) (by decide) ?_) rfl ?_
  · intro i hi
    match i, hi with
    | 0, _ => exact h0
    | 1, _ => exact h1
    | 2, _ => exact h2
    | 3, _ => exact h3
  refine zs rfl rfl rfl ?_
  refine zs rfl rfl rfl ?_
  refine zcl rfl rfl (c_refuse_0) ?_
  exact zret rfl rfl (cP_ref (S := S) (F := F) (c := 0) rfl (Fr.rfl') (hC))
theorem c_status (hC : cC M S F) (w : Int32) : zV X 99 [.ref 0, .int w] M N (cP M N (r_status S F w)) := by
  refine zVi [(0, .ref 0), (1, .int w)] rfl ?_
  unfold r_status
  refine zs rfl rfl rfl ?_
  refine zs rfl rfl rfl ?_
  refine zbr rfl rfl rfl (fun hc => ?_) (fun hc => ?_)
  · rw [if_neg hc]
    refine zs rfl rfl rfl ?_
    refine zs rfl rfl rfl ?_
    refine zs rfl rfl rfl ?_
    refine zcl rfl rfl (c_isIn w 0 6) ?_
    by_cases h : 0 ≤ w ∧ w ≤ 6
    · rw [decide_eq_true h, if_pos h]
      obtain ⟨j, hj, rfl⟩ := nI_of2 (n := 6) t_6 (i_nlt.mpr h.1) h.2
      rw [nI_clamp (by omega)]
      refine zs rfl rfl rfl ?_
      refine zs rfl rfl rfl ?_
      refine zs rfl rfl rfl ?_
      refine zs rfl rfl rfl ?_
      refine zal rfl rfl rfl (by omega) (by decide) ?_
      refine zto rfl (hC.2 j (by omega)) ?_
      exact zret rfl rfl (cP_ok (S' := S) (F := F) rfl (Fr.rfl') (hC))
    · rw [decide_eq_false h, if_neg h]
      refine zs rfl rfl rfl ?_
      refine zs rfl rfl rfl ?_
      refine zs rfl rfl rfl ?_
      refine zcl rfl rfl (c_refuse_0) ?_
      exact zret rfl rfl (cP_ref (S := S) (F := F) (c := 0) rfl (Fr.rfl') (hC))
  · rw [if_pos (Decidable.not_not.mp hc)]
    refine zs rfl rfl rfl ?_
    refine zs rfl rfl rfl ?_
    refine zs rfl rfl rfl ?_
    refine zcl rfl rfl (c_sumOf_35 (m := 7) (Nat.le_refl _)) ?_
    refine zto rfl (isum_congr (fun k hk => hC.2 k hk)) ?_
    exact zret rfl rfl (cP_ok (S' := S) (F := F) rfl (Fr.rfl') (hC))
theorem c_image (hv : Vw M 1 S) : zV X 95 [.ref 0] M N (fun v M' N' => v = some (.int 1) ∧ N' = N ∧ Fr [0, 10, 11, 12, 13, 14, 15, 16, 17] M M' ∧ M' 0 6 = 1 ∧ Vw M' 10 S) := by
  refine zVi [(0, .ref 0)] rfl ?_
  refine zs rfl rfl rfl ?_
  refine zs rfl rfl rfl ?_
  refine zs rfl rfl rfl ?_
  refine zs rfl rfl rfl ?_
  refine zclQ rfl rfl (c_take_kh hv) ?_
  rintro v2 M2 N2 ⟨rfl, rfl, hf2, hv2⟩
  refine zs rfl rfl rfl ?_
  refine zs rfl rfl rfl ?_
  refine zs rfl rfl rfl ?_
  refine zs rfl rfl rfl ?_
  exact zret rfl rfl ⟨rfl, rfl, (hf2.mono (by decide)).trans (Fr.up (by decide)), rfl, hv2.fr (Fr.up (l := [0]) (by decide)) (by decide)⟩
theorem c_undo1 {K : zS} (hb : M 0 6 = 1) (hk : Vw M 10 K) : zV X 96 [.ref 0] M N (fun v M' N' => v = some (.int (K 0)) ∧ N' = N ∧ Fr [1, 2, 3, 4, 5, 6, 7, 8] M M' ∧ Vw M' 1 K) := by
  refine zVi [(0, .ref 0)] rfl ?_
  refine zs rfl rfl rfl ?_
  refine zs rfl rfl rfl ?_
  refine zto rfl hb ?_
  refine zs rfl rfl rfl ?_
  refine zs rfl rfl rfl ?_
  refine zs rfl rfl rfl ?_
  refine zs rfl rfl rfl ?_
  refine zs rfl rfl rfl ?_
  refine zclQ rfl rfl (c_take_hk hk) ?_
  rintro v2 M2 N2 ⟨rfl, rfl, hf2, hv2⟩
  refine zs rfl rfl rfl ?_
  refine zs rfl rfl rfl ?_
  refine zs rfl rfl rfl ?_
  try refine zto rfl hn0 ?_
  refine zto rfl hv2.s0 ?_
  exact zret rfl rfl ⟨rfl, rfl, hf2, hv2⟩
theorem c_undo0 (hC : cC M S F) (hb : M 0 6 = 0) : zV X 96 [.ref 0] M N (cP M N (rf S F 3)) := by
  refine zVi [(0, .ref 0)] rfl ?_
  refine zs rfl rfl rfl ?_
  refine zs rfl rfl rfl ?_
  refine zto rfl hb ?_
  refine zs rfl rfl rfl ?_
  refine zs rfl rfl rfl ?_
  refine zs rfl rfl rfl ?_
  refine zcl rfl rfl (c_refuse_3) ?_
  exact zret rfl rfl (cP_ref (S := S) (F := F) (c := 3) rfl (Fr.rfl') (hC))
theorem c_tear {b : Bool} (hb : M 0 6 = bI b) : zE1 X 97 [.ref 0] M N (some (.int (bI b))) (z_up M 0 6 0) N := by
  refine zE1i [(0, .ref 0)] rfl ?_
  refine zs rfl rfl rfl ?_
  refine zs rfl rfl rfl ?_
  refine zto rfl hb ?_
  cases b
  · refine zs rfl rfl rfl ?_
    refine zs rfl rfl rfl ?_
    refine zs rfl rfl rfl ?_
    refine zs rfl rfl rfl ?_
    refine zs rfl rfl rfl ?_
    refine zs rfl rfl rfl ?_
    refine zs rfl rfl rfl ?_
    exact zret rfl rfl ⟨rfl, rfl, rfl⟩
  · refine zs rfl rfl rfl ?_
    refine zs rfl rfl rfl ?_
    refine zs rfl rfl rfl ?_
    refine zs rfl rfl rfl ?_
    refine zs rfl rfl rfl ?_
    refine zs rfl rfl rfl ?_
    refine zs rfl rfl rfl ?_
    refine zs rfl rfl rfl ?_
    exact zret rfl rfl ⟨rfl, rfl, rfl⟩
theorem c_wipe (ht : M 29 1 = nI tl) : zE1 X 87 [.ref 0] M N (some (.int (nI tl))) (z_up M 29 1 0) N := by
  refine zE1i [(0, .ref 0)] rfl ?_
  refine zs rfl rfl rfl ?_
  refine zs rfl rfl rfl ?_
  refine zs rfl rfl rfl ?_
  refine zs rfl rfl rfl ?_
  refine zto rfl ht ?_
  refine zs rfl rfl rfl ?_
  refine zs rfl rfl rfl ?_
  refine zs rfl rfl rfl ?_
  refine zs rfl rfl rfl ?_
  refine zs rfl rfl rfl ?_
  refine zs rfl rfl rfl ?_
  refine zs rfl rfl rfl ?_
  exact zret rfl rfl ⟨rfl, rfl, rfl⟩
theorem c_add (ht : M 29 1 = nI tl) (h : tl < 120) (b : Int32) : zE1 X 32 [.ref 29, .int b] M N none (z_up (z_up M 30 tl b) 29 1 (nI (tl + 1))) N := by
  refine zE1i [(0, .ref 29), (1, .int b)] rfl ?_
  refine zs rfl rfl rfl ?_
  refine zs rfl rfl rfl ?_
  refine zs rfl rfl rfl ?_
  refine zs rfl rfl rfl ?_
  refine zto rfl ht ?_
  refine zs rfl rfl rfl ?_
  refine zas rfl rfl rfl rfl (by omega) (by decide) ?_
  refine zs rfl rfl rfl ?_
  refine zs rfl rfl rfl ?_
  refine zs rfl rfl rfl ?_
  refine zto rfl ht ?_
  refine zs rfl rfl rfl ?_
  refine zs rfl rfl rfl ?_
  refine zto rfl (nI_1 tl) ?_
  refine zs rfl rfl rfl ?_
  exact zret rfl rfl ⟨rfl, rfl, rfl⟩
theorem c_feed (hC : cC M S F) (ht : M 29 1 = nI tl) (h120 : tl ≤ 120) (hb : ∀ i, i < tl → M 30 i = tb i) (x m : Int32) : zV X 86 [.ref 0, .int x, .int m] M N (fun v M' N' => (1 ≤ m ∧ m ≤ 4 → (tl + m.toNatClampNeg ≤ 120 → v = some (.int (nI (tl + m.toNatClampNeg))) ∧ N' = N ∧ Fr [29, 30] M M' ∧ M' 29 1 = nI (tl + m.toNatClampNeg) ∧ ∀ i, i < tl + m.toNatClampNeg → M' 30 i = fdt x m.toNatClampNeg tl tb i) ∧ (¬ tl + m.toNatClampNeg ≤ 120 → cP M N (rf S F 1) v M' N')) ∧ (¬ (1 ≤ m ∧ m ≤ 4) → cP M N (rf S F 0) v M' N')) := by
  refine zVi [(0, .ref 0), (1, .int x), (2, .int m)] rfl ?_
  refine zs rfl rfl rfl ?_
  refine zs rfl rfl rfl ?_
  refine zs rfl rfl rfl ?_
  refine zcl rfl rfl (c_isIn m 1 4) ?_
  by_cases h : 1 ≤ m ∧ m ≤ 4
  · rw [decide_eq_true h]
    have hm1 := i_le.mp h.1
    have hm2 := i_le.mp h.2
    rw [t_1] at hm1
    rw [t_4] at hm2
    obtain ⟨a, ha, rfl⟩ := nI_of (x := m) (by rw [i_lt, t_0]; omega)
    rw [nI_toInt ha] at hm1 hm2
    rw [nI_clamp ha]
    refine zs rfl rfl rfl ?_
    refine zs rfl rfl rfl ?_
    refine zs rfl rfl rfl ?_
    refine zs rfl rfl rfl ?_
    refine zs rfl rfl rfl ?_
    refine zto rfl ht ?_
    refine zs rfl rfl rfl ?_
    refine zs rfl rfl rfl ?_
    refine zto rfl (nI_add tl a) ?_
    refine zs rfl rfl rfl ?_
    by_cases h2 : tl + a ≤ 120
    · first | refine zs rfl rfl rfl ?_ | refine zbt (nI_le (b := 120) (by omega) (by omega)) rfl rfl rfl ?_
      obtain ⟨e, rfl⟩ : ∃ e, a = e + 1 := ⟨a - 1, by omega⟩
      refine zs rfl rfl rfl ?_
      refine zs rfl rfl rfl ?_
      refine zs rfl rfl rfl ?_
      refine zto rfl (nI_pred e) ?_
      refine zs rfl rfl rfl ?_
      have loop : ∀ (d : Nat) (y : Int32) (tl1 : Nat) (tb1 : zS) (M1 : zM), (d = 0 ∧ y = -1 ∨ ∃ e, d = e + 1 ∧ y = nI e) → tl1 + d ≤ 120 → d ≤ 4 → Fr [29, 30] M M1 → M1 29 1 = nI tl1 → (∀ i, i < tl1 → M1 30 i = tb1 i) → zW X 86 44 [(0, .ref 0), (1, .int x), (2, .int (nI (e + 1))), (3, .int y)] [] M1 N (fun v M' N' => v = some (.int (nI (tl1 + d))) ∧ N' = N ∧ Fr [29, 30] M M' ∧ M' 29 1 = nI (tl1 + d) ∧ ∀ i, i < tl1 + d → M' 30 i = fdt x d tl1 tb1 i) := by
        intro d
        induction d with
        | zero =>
          intro y tl1 tb1 M1 hy h1 h4 hf ht1 hb1
          rcases hy with ⟨_, rfl⟩ | ⟨e, he, _⟩
          · refine zs rfl rfl rfl ?_
            refine zs rfl rfl rfl ?_
            refine zs rfl rfl rfl ?_
            refine zs rfl rfl rfl ?_
            refine zs rfl rfl rfl ?_
            refine zs rfl rfl rfl ?_
            refine zto rfl ht1 ?_
            exact zret rfl rfl ⟨rfl, rfl, hf, ht1, hb1⟩
          · cases he
        | succ d ih =>
          intro y tl1 tb1 M1 hy h1 h4 hf ht1 hb1
          rcases hy with ⟨he, _⟩ | ⟨e2, he, rfl⟩
          · cases he
          · cases he
            have e8 : (8 : Int32) * nI d = nI (8 * d) := (Int32.ofNat_mul 8 d).symm
            refine zs rfl rfl rfl ?_
            refine zbf (nI_pos (by omega)) rfl rfl rfl ?_
            refine zs rfl rfl rfl ?_
            refine zs rfl rfl rfl ?_
            refine zs rfl rfl rfl ?_
            refine zs rfl rfl rfl ?_
            refine zs rfl rfl rfl ?_
            refine zs rfl rfl rfl ?_
            refine zs rfl rfl rfl ?_
            refine zto rfl e8 ?_
            refine zs rfl rfl rfl ?_
            refine zs rfl rfl rfl ?_
            refine zs rfl rfl rfl ?_
            refine zcl rfl rfl (c_add ht1 (by omega) (byt x d)) ?_
            refine zs rfl rfl rfl ?_
            rw [show (nI d + -1 : Int32) = nI d + (-1) from rfl]
            refine zs rfl rfl rfl ?_
            have h5 : tl1 + (d + 1) = tl1 + 1 + d := by omega
            rw [h5]
            show zW _ _ _ _ _ _ _ (fun v M' N' => v = some (.int (nI (tl1 + 1 + d))) ∧ N' = N ∧ Fr [29, 30] M M' ∧ M' 29 1 = nI (tl1 + 1 + d) ∧ ∀ i, i < tl1 + 1 + d → M' 30 i = fdt x d (tl1 + 1) (upd tb1 tl1 (byt x d)) i)
            refine ih (nI d + (-1)) (tl1 + 1) (upd tb1 tl1 (byt x d)) _ ?_ (by omega) (by omega) ((hf.trans (Fr.up (by decide))).trans (Fr.up (by decide))) rfl ?_
            · cases d with
              | zero => exact Or.inl ⟨rfl, by decide⟩
              | succ d => exact Or.inr ⟨d, rfl, nI_dec d⟩
            · intro i hi
              show z_up M1 30 tl1 (byt x d) 30 i = if i = tl1 then byt x d else tb1 i
              rw [z_up_a]
              by_cases e : i = tl1
              · rw [if_pos e, if_pos e]
              · rw [if_neg e, if_neg e]; exact hb1 i (by omega)
      refine zW_mono (loop (e + 1) (nI e) tl tb M (Or.inr ⟨e, rfl, rfl⟩) h2 (by omega) Fr.rfl' ht hb) ?_
      intro v M' N' hq
      exact ⟨fun _ => ⟨fun _ => hq, fun q => absurd h2 q⟩, fun q => absurd h q⟩
    · refine zbf (nI_ge (a := 120) (by omega) (by omega)) rfl rfl rfl ?_
      refine zs rfl rfl rfl ?_
      refine zs rfl rfl rfl ?_
      refine zcl rfl rfl (c_refuse_1) ?_
      exact zret rfl rfl ⟨fun _ => ⟨fun q => absurd q h2, fun _ => cP_ref (S := S) (F := F) (c := 1) rfl Fr.rfl' hC⟩, fun q => absurd h q⟩
  · rw [decide_eq_false h]
    refine zs rfl rfl rfl ?_
    refine zs rfl rfl rfl ?_
    refine zs rfl rfl rfl ?_
    refine zcl rfl rfl (c_refuse_0) ?_
    exact zret rfl rfl ⟨fun q => absurd q h, fun _ => cP_ref (S := S) (F := F) (c := 0) rfl Fr.rfl' hC⟩
end CPUB5
