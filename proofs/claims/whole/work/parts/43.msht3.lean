/-! The model's sheets: odds, dawn, the reader. -/
section MSHT3
variable {X : Nat × (Nat → Int32)} {M M2 : zM} {N N2 : zN} {S F : zS} {B : zB} {n : Nat}
theorem isInL (v : Int64) : zE1 X 114 [.long v, .long 0, .long 99] M N (some (.int (bI (decide (0 ≤ v ∧ v ≤ 99))))) M N := m_isIn v 0 99
theorem m_lays (hC : mC M S F) (hS : mS M N B) (hB : Sok B) (s : Int32) : zV X 211 [.ref 44, .int s] M N (mX M N (r_lays S F B s)) := by
  refine zVi [(0, .ref 44), (1, .int s)] rfl ?_
  unfold r_lays
  refine zs rfl rfl rfl ?_
  refine zs rfl rfl rfl ?_
  refine zcl rfl rfl (m_wants hS hB s) ?_
  by_cases h : 0 ≤ s ∧ s ≤ 3
  · rw [if_pos h, if_pos h]
    obtain ⟨t, ht, rfl⟩ := r4n h
    rw [nI_clamp (by omega)]
    have hS0 := hS t ht
    have hB0 := (hB t ht).1
    by_cases e0 : B.1 t = 0
    · rw [if_pos e0, if_pos e0]
      refine zs rfl rfl rfl ?_
      refine zs rfl rfl rfl ?_
      refine zs rfl rfl rfl ?_
      refine zs rfl rfl rfl ?_
      refine zcl rfl rfl (m_wants hS hB (nI t)) ?_
      rw [if_pos h, nI_clamp (by omega), if_pos e0]
      refine zcl rfl rfl (m_finds_5) ?_
      exact zret rfl rfl (mX_ref (c := 5) rfl Fr.rfl' hC hS)
    · rw [if_neg e0, if_neg e0]
      refine zs rfl rfl rfl ?_
      refine zs rfl rfl rfl ?_
      refine zs rfl rfl rfl ?_
      refine zs rfl rfl rfl ?_
      refine zs rfl rfl rfl ?_
      have loop : ∀ d i M1 tl, i + d = min 13 (B.2.1 t) → (tl = [] ∨ ∃ a : Int64, tl = [(4, Value.long a), (5, Value.retAddr 0)]) → Fr [45] M M1 → Rw M1 45 (lys (B.2.2 t) S i) → zW X 211 22 ((0, .ref 44) :: (1, .int (nI t)) :: (2, .int (nI (lyc (B.2.2 t) i))) :: (3, .int (nI i)) :: tl) [] M1 N (mX M N (nI (lyc (B.2.2 t) (min 13 (B.2.1 t))), lys (B.2.2 t) S (min 13 (B.2.1 t)), F, B)) := by
        intro d
        induction d with
        | zero =>
          intro i M1 tl hi htl hf hr1
          have hl : M1 53 t = nI (B.2.1 t) := by rw [hf 53 (by decide)]; exact hS0.2.1
          have fin : zW X 211 84 ((0, .ref 44) :: (1, .int (nI t)) :: (2, .int (nI (lyc (B.2.2 t) i))) :: (3, .int (nI i)) :: tl) [] M1 N (mX M N (nI (lyc (B.2.2 t) (min 13 (B.2.1 t))), lys (B.2.2 t) S (min 13 (B.2.1 t)), F, B)) := by
            rw [← hi, Nat.add_zero]
            rcases htl with rfl | ⟨a, rfl⟩
            · refine zs rfl rfl rfl ?_
              exact zret rfl rfl (mX_ok rfl (hf.mono (by decide)) (hC.to hf (by decide) hr1) (hS.fr hf (by decide) (by decide)))
            · refine zs rfl rfl rfl ?_
              exact zret rfl rfl (mX_ok rfl (hf.mono (by decide)) (hC.to hf (by decide) hr1) (hS.fr hf (by decide) (by decide)))
          by_cases hq : B.2.1 t ≤ i
          · rcases htl with rfl | ⟨a, rfl⟩
            · refine zs rfl rfl rfl ?_
              refine zs rfl rfl rfl ?_
              refine zs rfl rfl rfl ?_
              refine zs rfl rfl rfl ?_
              refine zal rfl rfl rfl (by omega) (by decide) ?_
              refine zto rfl hl ?_
              refine zbt (nI_le (by omega) (by omega)) rfl rfl rfl ?_
              exact fin
            · refine zs rfl rfl rfl ?_
              refine zs rfl rfl rfl ?_
              refine zs rfl rfl rfl ?_
              refine zs rfl rfl rfl ?_
              refine zal rfl rfl rfl (by omega) (by decide) ?_
              refine zto rfl hl ?_
              refine zbt (nI_le (by omega) (by omega)) rfl rfl rfl ?_
              exact fin
          · obtain rfl : i = 13 := by omega
            rcases htl with rfl | ⟨a, rfl⟩
            · refine zs rfl rfl rfl ?_
              refine zs rfl rfl rfl ?_
              refine zs rfl rfl rfl ?_
              refine zs rfl rfl rfl ?_
              refine zal rfl rfl rfl (by omega) (by decide) ?_
              refine zto rfl hl ?_
              refine zbf (nI_ge (a := 13) (by omega) (by omega)) rfl rfl rfl ?_
              refine zs rfl rfl rfl ?_
              refine zs rfl rfl rfl ?_
              refine zs rfl rfl rfl ?_
              exact fin
            · refine zs rfl rfl rfl ?_
              refine zs rfl rfl rfl ?_
              refine zs rfl rfl rfl ?_
              refine zs rfl rfl rfl ?_
              refine zal rfl rfl rfl (by omega) (by decide) ?_
              refine zto rfl hl ?_
              refine zbf (nI_ge (a := 13) (by omega) (by omega)) rfl rfl rfl ?_
              refine zs rfl rfl rfl ?_
              refine zs rfl rfl rfl ?_
              refine zs rfl rfl rfl ?_
              exact fin
        | succ d ih =>
          intro i M1 tl hi htl hf hr1
          have hl : M1 53 t = nI (B.2.1 t) := by rw [hf 53 (by decide)]; exact hS0.2.1
          have hi13 : i < 13 := by omega
          have tail : zW X 211 51 [(0, .ref 44), (1, .int (nI t)), (2, .int (nI (lyc (B.2.2 t) i))), (3, .int (nI i)), (4, .long (B.2.2 t i)), (5, .retAddr 0)] [] M1 N (mX M N (nI (lyc (B.2.2 t) (min 13 (B.2.1 t))), lys (B.2.2 t) S (min 13 (B.2.1 t)), F, B)) := by
            refine zs rfl rfl rfl ?_
            refine zs rfl rfl rfl ?_
            refine zs rfl rfl rfl ?_
            refine zcl rfl rfl (isInL (B.2.2 t i)) ?_
            by_cases hc : 0 ≤ B.2.2 t i ∧ B.2.2 t i ≤ 99
            · have ih' := ih (i + 1) (z_up M1 45 (9 + i) (B.2.2 t i).toInt32) [(4, .long (B.2.2 t i)), (5, .retAddr 0)] (by omega) (Or.inr ⟨_, rfl⟩) (hf.trans (Fr.up (by decide))) (by rw [lys, if_pos hc]; exact hr1.up _ _)
              rw [show lyc (B.2.2 t) (i + 1) = lyc (B.2.2 t) i + 1 from cnt_t (decide_eq_true hc)] at ih'
              rw [decide_eq_true hc]
              refine zs rfl rfl rfl ?_
              refine zs rfl rfl rfl ?_
              refine zs rfl rfl rfl ?_
              refine zs rfl rfl rfl ?_
              refine zs rfl rfl rfl ?_
              refine zs rfl rfl rfl ?_
              refine zto rfl (nI_add 9 i) ?_
              refine zs rfl rfl rfl ?_
              refine zs rfl rfl rfl ?_
              refine zas rfl rfl rfl rfl (by omega) (by decide) ?_
              refine zinc rfl rfl rfl ?_
              refine zinc rfl rfl rfl ?_
              refine zs rfl rfl rfl ?_
              exact ih'
            · have ih' := ih (i + 1) M1 [(4, .long (B.2.2 t i)), (5, .retAddr 0)] (by omega) (Or.inr ⟨_, rfl⟩) hf (by rw [lys, if_neg hc]; exact hr1)
              rw [show lyc (B.2.2 t) (i + 1) = lyc (B.2.2 t) i from cnt_f (decide_eq_false hc)] at ih'
              rw [decide_eq_false hc]
              refine zs rfl rfl rfl ?_
              refine zinc rfl rfl rfl ?_
              refine zs rfl rfl rfl ?_
              exact ih'
          rcases htl with rfl | ⟨a, rfl⟩
          · refine zs rfl rfl rfl ?_
            refine zs rfl rfl rfl ?_
            refine zs rfl rfl rfl ?_
            refine zs rfl rfl rfl ?_
            refine zal rfl rfl rfl (by omega) (by decide) ?_
            refine zto rfl hl ?_
            refine zbf (nI_ge (by omega) (by omega)) rfl rfl rfl ?_
            refine zs rfl rfl rfl ?_
            refine zs rfl rfl rfl ?_
            refine zbf (nI_ge (b := 13) (by omega) (by omega)) rfl rfl rfl ?_
            refine zs rfl rfl rfl ?_
            refine zs rfl rfl rfl ?_
            refine zs rfl rfl rfl ?_
            refine zs rfl rfl rfl ?_
            refine zs rfl rfl rfl ?_
            refine zs rfl rfl rfl ?_
            refine zs rfl rfl rfl ?_
            refine zto rfl (m40 t i) ?_
            refine zlal rfl rfl rfl rfl (by omega) (by decide) ?_
            refine ztoL rfl (hS0.2.2 i (by omega)) ?_
            refine zs rfl rfl rfl ?_
            exact tail
          · refine zs rfl rfl rfl ?_
            refine zs rfl rfl rfl ?_
            refine zs rfl rfl rfl ?_
            refine zs rfl rfl rfl ?_
            refine zal rfl rfl rfl (by omega) (by decide) ?_
            refine zto rfl hl ?_
            refine zbf (nI_ge (by omega) (by omega)) rfl rfl rfl ?_
            refine zs rfl rfl rfl ?_
            refine zs rfl rfl rfl ?_
            refine zbf (nI_ge (b := 13) (by omega) (by omega)) rfl rfl rfl ?_
            refine zs rfl rfl rfl ?_
            refine zs rfl rfl rfl ?_
            refine zs rfl rfl rfl ?_
            refine zs rfl rfl rfl ?_
            refine zs rfl rfl rfl ?_
            refine zs rfl rfl rfl ?_
            refine zs rfl rfl rfl ?_
            refine zto rfl (m40 t i) ?_
            refine zlal rfl rfl rfl rfl (by omega) (by decide) ?_
            refine ztoL rfl (hS0.2.2 i (by omega)) ?_
            refine zs rfl rfl rfl ?_
            exact tail
      exact loop (min 13 (B.2.1 t)) 0 M [] (Nat.zero_add _) (Or.inl rfl) Fr.rfl' hC.1
  · rw [if_neg h, if_neg h]
    refine zs rfl rfl rfl ?_
    refine zs rfl rfl rfl ?_
    refine zs rfl rfl rfl ?_
    refine zs rfl rfl rfl ?_
    refine zcl rfl rfl (m_wants hS hB s) ?_
    rw [if_neg h]
    refine zcl rfl rfl (m_finds_0) ?_
    exact zret rfl rfl (mX_ref (c := 0) rfl Fr.rfl' hC hS)
theorem m_dawn (hC : mC M S F) (hS : mS M N B) (hB : Sok B) (hO : Ok S n) (s : Int32) : zV X 212 [.ref 44, .int s] M N (mX M N (r_dawn S F n B s)) := by
  refine zVi [(0, .ref 44), (1, .int s)] rfl ?_
  unfold r_dawn
  have hn0 := hC.n0 hO
  have hle := hO.le
  refine zs rfl rfl rfl ?_
  refine zs rfl rfl rfl ?_
  refine zcl rfl rfl (m_wants hS hB s) ?_
  by_cases h : 0 ≤ s ∧ s ≤ 3
  · rw [if_pos h, if_pos h]
    obtain ⟨t, ht, rfl⟩ := r4n h
    rw [nI_clamp (by omega)]
    have hS0 := hS t ht
    have hB0 := (hB t ht).1
    by_cases e0 : B.1 t = 0
    · rw [if_pos e0, if_pos e0]
      refine zs rfl rfl rfl ?_
      refine zs rfl rfl rfl ?_
      refine zs rfl rfl rfl ?_
      refine zs rfl rfl rfl ?_
      refine zcl rfl rfl (m_wants hS hB (nI t)) ?_
      rw [if_pos h, nI_clamp (by omega), if_pos e0]
      refine zcl rfl rfl (m_finds_5) ?_
      exact zret rfl rfl (mX_ref (c := 5) rfl Fr.rfl' hC hS)
    · rw [if_neg e0, if_neg e0]
      rw [mbt_n e0] at hS0
      refine zs rfl rfl rfl ?_
      refine zs rfl rfl rfl ?_
      refine zs rfl rfl rfl ?_
      refine zs rfl rfl rfl ?_
      refine zs rfl rfl rfl ?_
      have loop : ∀ d i N1, i + d = min n (B.2.1 t) → (∀ b, b ≠ 54 → N1 b = N b) → (∀ u, u < 4 → u ≠ t → ∀ i, i < 40 → N1 54 (40 * u + i) = N 54 (40 * u + i)) → (∀ k, k < 40 → N1 54 (40 * t + k) = dwn (B.1 t) S (B.2.2 t) i k) → zW X 212 22 [(0, .ref 44), (1, .int (nI t)), (2, .int (nI i)), (3, .int (nI i))] [] M N1 (mX M N (nI (min n (B.2.1 t)), S, F, B.1, B.2.1, up' B.2.2 t (dwn (B.1 t) S (B.2.2 t) (min n (B.2.1 t))))) := by
        intro d
        induction d with
        | zero =>
          intro i N1 hi h1 h2 h3
          rw [Nat.add_zero] at hi
          rw [← hi]
          by_cases hq : B.2.1 t ≤ i
          · refine zs rfl rfl rfl ?_
            refine zs rfl rfl rfl ?_
            refine zs rfl rfl rfl ?_
            refine zs rfl rfl rfl ?_
            refine zal rfl rfl rfl (by omega) (by decide) ?_
            refine zto rfl hS0.2.1 ?_
            refine zbt (nI_le (by omega) (by omega)) rfl rfl rfl ?_
            refine zs rfl rfl rfl ?_
            exact zret rfl rfl (mX_ok rfl Fr.rfl' hC (hS.up ht h2 h3) h1)
          · refine zs rfl rfl rfl ?_
            refine zs rfl rfl rfl ?_
            refine zs rfl rfl rfl ?_
            refine zs rfl rfl rfl ?_
            refine zal rfl rfl rfl (by omega) (by decide) ?_
            refine zto rfl hS0.2.1 ?_
            refine zbf (nI_ge (by omega) (by omega)) rfl rfl rfl ?_
            refine zs rfl rfl rfl ?_
            refine zs rfl rfl rfl ?_
            refine zs rfl rfl rfl ?_
            refine zs rfl rfl rfl ?_
            refine zal (i := 0) rfl rfl rfl (by decide) (by decide) ?_
            try refine zto rfl hn0 ?_
            refine zbt (nI_le (by omega) (by omega)) rfl rfl rfl ?_
            refine zs rfl rfl rfl ?_
            exact zret rfl rfl (mX_ok rfl Fr.rfl' hC (hS.up ht h2 h3) h1)
        | succ d ih =>
          intro i N1 hi h1 h2 h3
          refine zs rfl rfl rfl ?_
          refine zs rfl rfl rfl ?_
          refine zs rfl rfl rfl ?_
          refine zs rfl rfl rfl ?_
          refine zal rfl rfl rfl (by omega) (by decide) ?_
          refine zto rfl hS0.2.1 ?_
          refine zbf (nI_ge (by omega) (by omega)) rfl rfl rfl ?_
          refine zs rfl rfl rfl ?_
          refine zs rfl rfl rfl ?_
          refine zs rfl rfl rfl ?_
          refine zs rfl rfl rfl ?_
          refine zal (i := 0) rfl rfl rfl (by decide) (by decide) ?_
          try refine zto rfl hn0 ?_
          refine zbf (nI_ge (by omega) (by omega)) rfl rfl rfl ?_
          refine zs rfl rfl rfl ?_
          refine zs rfl rfl rfl ?_
          refine zs rfl rfl rfl ?_
          refine zs rfl rfl rfl ?_
          refine zs rfl rfl rfl ?_
          refine zs rfl rfl rfl ?_
          refine zs rfl rfl rfl ?_
          refine zto rfl (m40 t i) ?_
          refine zs rfl rfl rfl ?_
          refine zs rfl rfl rfl ?_
          refine zs rfl rfl rfl ?_
          refine zal rfl rfl rfl (by omega) (by decide) ?_
          refine zto rfl hS0.1 ?_
          refine zs rfl rfl rfl ?_
          refine zs rfl rfl rfl ?_
          refine zs rfl rfl rfl ?_
          refine zcl rfl rfl (m_is4 hC.1 (show i < 12 by omega)) ?_
          refine zs rfl rfl rfl ?_
          refine zcl rfl rfl (m_narrow (B.1 t) (lk S i).toInt64) ?_
          refine zlas rfl rfl rfl rfl (by omega) (by decide) ?_
          refine zinc rfl rfl rfl ?_
          refine zinc rfl rfl rfl ?_
          refine zs rfl rfl rfl ?_
          refine ih (i + 1) _ (by omega) (fun b hb => (z_upL_ne N1 _ _ hb).trans (h1 b hb)) (fun u hu hut k hk => ?_) (fun k hk => ?_)
          · rw [upL_a, if_neg (by omega)]; exact h2 u hu hut k hk
          · rw [upL_a]
            show _ = if k = i then _ else _
            by_cases q : k = i
            · rw [if_pos (by omega), if_pos q]
            · rw [if_neg (by omega), if_neg q]; exact h3 k hk
      exact loop (min n (B.2.1 t)) 0 N (Nat.zero_add _) (fun _ _ => rfl) (fun _ _ _ _ _ => rfl) hS0.2.2
  · rw [if_neg h, if_neg h]
    refine zs rfl rfl rfl ?_
    refine zs rfl rfl rfl ?_
    refine zs rfl rfl rfl ?_
    refine zs rfl rfl rfl ?_
    refine zcl rfl rfl (m_wants hS hB s) ?_
    rw [if_neg h]
    refine zcl rfl rfl (m_finds_0) ?_
    exact zret rfl rfl (mX_ref (c := 0) rfl Fr.rfl' hC hS)
/-- as the model asks it: with an 'and' that goes on -/
def tla (f : Nat → Int64) (T : zS) : Nat → Bool
  | 0 => true
  | i + 1 => tla f T i && decide (f i = (lk T i).toInt64)
theorem tll_tla (f : Nat → Int64) (T : zS) : ∀ d i, (tla f T i && tll f T d i) = tla f T (i + d)
  | 0, i => Bool.and_true _
  | d + 1, i => by
    have ih := tll_tla f T d (i + 1)
    rw [show i + (d + 1) = i + 1 + d by omega, ← ih]
    show (tla f T i && cond (decide (f i = (lk T i).toInt64)) (tll f T d (i + 1)) false) = ((tla f T i && decide (f i = (lk T i).toInt64)) && tll f T d (i + 1))
    cases decide (f i = (lk T i).toInt64) <;> cases tla f T i <;> cases tll f T d (i + 1) <;> rfl
theorem tll_0 (f : Nat → Int64) (T : zS) (m : Nat) : tll f T m 0 = tla f T m := by
  have := tll_tla f T m 0
  rw [Nat.zero_add] at this
  rw [← this]; rfl
theorem m_liesSo (hC : mC M S F) (hS : mS M N B) (hB : Sok B) (hO : Ok S n) {t : Nat} (ht : t < 4) (w : Nat) : zV X 213 [.ref 44, .int (nI t), .int (nI w)] M N (fun v M' N' => v = some (.int (bI (rdp S n (B.2.2 t) (B.2.1 t) w))) ∧ N' = N ∧ Fr [45, 47, 55] M M' ∧ Rw M' 45 S) := by
  refine zVi [(0, .ref 44), (1, .int (nI t)), (2, .int (nI w))] rfl ?_
  have hle := hO.le
  have hB0 := (hB t ht).1
  unfold rdp
  rw [tll_0]
  refine zs rfl rfl rfl ?_
  refine zs rfl rfl rfl ?_
  refine zs rfl rfl rfl ?_
  refine zs rfl rfl rfl ?_
  refine zclQ rfl rfl (m_copyRow_45_47 hC.1) ?_
  rintro v1 M1 N1 ⟨rfl, rfl, hf1, hr1⟩
  refine zs rfl rfl rfl ?_
  refine zs rfl rfl rfl ?_
  refine zclQ rfl rfl (m_settles (hC.1.fr hf1 (by decide)) hO.b (nI w)) ?_
  rintro v2 M2 N2 ⟨rfl, rfl, hf2, hr2⟩
  have hf : Fr [45, 47, 55] M M2 := (hf1.mono (by decide)).trans (hf2.mono (by decide))
  have hS2 := hS.fr hf (by decide) (by decide)
  have hS0 := hS2 t ht
  have hB2 := hO.b.stl (nI w)
  have hn0 := hr2.n0 hB2
  refine zs rfl rfl rfl ?_
  refine zs rfl rfl rfl ?_
  refine zs rfl rfl rfl ?_
  refine zs rfl rfl rfl ?_
  have fin : ∀ (x : Bool) (i : Int32), zW X 213 83 [(0, .ref 44), (1, .int (nI t)), (2, .int (nI w)), (3, .int (bI x)), (4, .int i)] [] M2 N2 (fun v M' N' => v = some (.int (bI x)) ∧ N' = N2 ∧ Fr [45, 47, 55] M M' ∧ Rw M' 45 S) := by
    intro x i
    refine zs rfl rfl rfl ?_
    refine zs rfl rfl rfl ?_
    refine zs rfl rfl rfl ?_
    refine zs rfl rfl rfl ?_
    refine zclQ rfl rfl (m_copyRow_47_45 (hr1.fr hf2 (by decide))) ?_
    rintro v3 M3 N3 ⟨rfl, rfl, hf3, hr3⟩
    refine zs rfl rfl rfl ?_
    cases x
    · exact zret rfl rfl ⟨rfl, rfl, hf.trans (hf3.mono (by decide)), hr3⟩
    · exact zret rfl rfl ⟨rfl, rfl, hf.trans (hf3.mono (by decide)), hr3⟩
  have loop : ∀ d i, i + d = min n (B.2.1 t) → zW X 213 21 [(0, .ref 44), (1, .int (nI t)), (2, .int (nI w)), (3, .int (bI (tla (B.2.2 t) (stl S n (nI w)) i))), (4, .int (nI i))] [] M2 N2 (fun v M' N' => v = some (.int (bI (tla (B.2.2 t) (stl S n (nI w)) (min n (B.2.1 t))))) ∧ N' = N2 ∧ Fr [45, 47, 55] M M' ∧ Rw M' 45 S) := by
    intro d
    induction d with
    | zero =>
      intro i hi
      rw [Nat.add_zero] at hi
      rw [← hi]
      by_cases hq : B.2.1 t ≤ i
      · refine zs rfl rfl rfl ?_
        refine zs rfl rfl rfl ?_
        refine zs rfl rfl rfl ?_
        refine zs rfl rfl rfl ?_
        refine zal rfl rfl rfl (by omega) (by decide) ?_
        refine zto rfl hS0.2.1 ?_
        refine zbt (nI_le (by omega) (by omega)) rfl rfl rfl ?_
        exact fin _ _
      · refine zs rfl rfl rfl ?_
        refine zs rfl rfl rfl ?_
        refine zs rfl rfl rfl ?_
        refine zs rfl rfl rfl ?_
        refine zal rfl rfl rfl (by omega) (by decide) ?_
        refine zto rfl hS0.2.1 ?_
        refine zbf (nI_ge (by omega) (by omega)) rfl rfl rfl ?_
        refine zs rfl rfl rfl ?_
        refine zs rfl rfl rfl ?_
        refine zs rfl rfl rfl ?_
        refine zs rfl rfl rfl ?_
        refine zal (i := 0) rfl rfl rfl (by decide) (by decide) ?_
        try refine zto rfl hn0 ?_
        refine zbt (nI_le (by omega) (by omega)) rfl rfl rfl ?_
        exact fin _ _
    | succ d ih =>
      intro i hi
      have ih' := ih (i + 1) (by omega)
      rw [show tla (B.2.2 t) (stl S n (nI w)) (i + 1) = (tla (B.2.2 t) (stl S n (nI w)) i && decide (B.2.2 t i = (lk (stl S n (nI w)) i).toInt64)) from rfl] at ih'
      refine zs rfl rfl rfl ?_
      refine zs rfl rfl rfl ?_
      refine zs rfl rfl rfl ?_
      refine zs rfl rfl rfl ?_
      refine zal rfl rfl rfl (by omega) (by decide) ?_
      refine zto rfl hS0.2.1 ?_
      refine zbf (nI_ge (by omega) (by omega)) rfl rfl rfl ?_
      refine zs rfl rfl rfl ?_
      refine zs rfl rfl rfl ?_
      refine zs rfl rfl rfl ?_
      refine zs rfl rfl rfl ?_
      refine zal (i := 0) rfl rfl rfl (by decide) (by decide) ?_
      try refine zto rfl hn0 ?_
      refine zbf (nI_ge (by omega) (by omega)) rfl rfl rfl ?_
      refine zs rfl rfl rfl ?_
      cases hx : tla (B.2.2 t) (stl S n (nI w)) i with
      | false =>
        rw [hx] at ih'
        refine zs rfl rfl rfl ?_
        refine zs rfl rfl rfl ?_
        refine zs rfl rfl rfl ?_
        refine zinc rfl rfl rfl ?_
        refine zs rfl rfl rfl ?_
        exact ih'
      | true =>
        rw [hx] at ih'
        refine zs rfl rfl rfl ?_
        refine zs rfl rfl rfl ?_
        refine zs rfl rfl rfl ?_
        refine zs rfl rfl rfl ?_
        refine zs rfl rfl rfl ?_
        refine zs rfl rfl rfl ?_
        refine zs rfl rfl rfl ?_
        refine zs rfl rfl rfl ?_
        refine zto rfl (m40 t i) ?_
        refine zlal rfl rfl rfl rfl (by omega) (by decide) ?_
        refine ztoL rfl (hS0.2.2 i (by omega)) ?_
        refine zs rfl rfl rfl ?_
        refine zs rfl rfl rfl ?_
        refine zs rfl rfl rfl ?_
        refine zcl rfl rfl (m_is4 hr2 (show i < 12 by omega)) ?_
        refine zs rfl rfl rfl ?_
        refine zs rfl rfl rfl ?_
        refine zbr rfl rfl rfl (fun hc => ?_) (fun hc => ?_)
        · rw [decide_eq_false (fun q => hc ((lg_cmp_eq _ _).mpr q))] at ih'
          refine zs rfl rfl rfl ?_
          refine zs rfl rfl rfl ?_
          refine zinc rfl rfl rfl ?_
          refine zs rfl rfl rfl ?_
          exact ih'
        · rw [decide_eq_true ((lg_cmp_eq _ _).mp (Decidable.not_not.mp hc))] at ih'
          refine zs rfl rfl rfl ?_
          refine zs rfl rfl rfl ?_
          refine zs rfl rfl rfl ?_
          refine zinc rfl rfl rfl ?_
          refine zs rfl rfl rfl ?_
          exact ih'
  exact loop (min n (B.2.1 t)) 0 (Nat.zero_add _)
theorem m_read (hC : mC M S F) (hS : mS M N B) (hB : Sok B) (hO : Ok S n) (s : Int32) : zV X 214 [.ref 44, .int s] M N (mX M N (r_read S F n B s)) := by
  refine zVi [(0, .ref 44), (1, .int s)] rfl ?_
  unfold r_read
  refine zs rfl rfl rfl ?_
  refine zs rfl rfl rfl ?_
  refine zcl rfl rfl (m_wants hS hB s) ?_
  by_cases h : 0 ≤ s ∧ s ≤ 3
  · rw [if_pos h, if_pos h]
    obtain ⟨t, ht, rfl⟩ := r4n h
    rw [nI_clamp (by omega)]
    by_cases e0 : B.1 t = 0
    · rw [if_pos e0, if_pos e0]
      refine zs rfl rfl rfl ?_
      refine zs rfl rfl rfl ?_
      refine zs rfl rfl rfl ?_
      refine zs rfl rfl rfl ?_
      refine zcl rfl rfl (m_wants hS hB (nI t)) ?_
      rw [if_pos h, nI_clamp (by omega), if_pos e0]
      refine zcl rfl rfl (m_finds_5) ?_
      exact zret rfl rfl (mX_ref (c := 5) rfl Fr.rfl' hC hS)
    · rw [if_neg e0, if_neg e0]
      refine zs rfl rfl rfl ?_
      refine zs rfl rfl rfl ?_
      refine zs rfl rfl rfl ?_
      have loop : ∀ d i M1, i + d = 13 → Fr [45, 47, 55] M M1 → Rw M1 45 S → zW X 214 20 [(0, .ref 44), (1, .int (nI t)), (2, .int (nI i))] [] M1 N (mX M N (r_fstB S F B (fst1 (rdp S n (B.2.2 t) (B.2.1 t)) d i))) := by
        intro d
        induction d with
        | zero =>
          intro i M1 hi hf hr1
          obtain rfl : i = 13 := by omega
          refine zs rfl rfl rfl ?_
          refine zs rfl rfl rfl ?_
          first | refine zs rfl rfl rfl ?_ | refine zbt (nI_le (a := 13) (by omega) (by omega)) rfl rfl rfl ?_
          refine zs rfl rfl rfl ?_
          refine zs rfl rfl rfl ?_
          refine zcl rfl rfl (m_finds_3) ?_
          exact zret rfl rfl (mX_ref (c := 3) rfl (hf.mono (by decide)) (hC.to hf (by decide) hr1) (hS.fr hf (by decide) (by decide)))
        | succ d ih =>
          intro i M1 hi hf hr1
          have hC1 := hC.to hf (by decide) hr1
          refine zs rfl rfl rfl ?_
          refine zs rfl rfl rfl ?_
          refine zbf (nI_ge (b := 13) (by omega) (by omega)) rfl rfl rfl ?_
          refine zs rfl rfl rfl ?_
          refine zs rfl rfl rfl ?_
          refine zs rfl rfl rfl ?_
          refine zclQ rfl rfl (m_liesSo hC1 (hS.fr hf (by decide) (by decide)) hB hO ht i) ?_
          rintro v2 M2 N2 ⟨rfl, rfl, hf2, hr2⟩
          have hf' := hf.trans hf2
          cases hp : rdp S n (B.2.2 t) (B.2.1 t) i with
          | true =>
            have e : fst1 (rdp S n (B.2.2 t) (B.2.1 t)) (d + 1) i = nI i := by
              show cond _ _ _ = _
              rw [hp]; rfl
            have e2 : r_fstB S F B (nI i) = (nI i, S, F, B) := by
              unfold r_fstB
              rw [if_neg (nI_m1 (by omega))]
            rw [e, e2]
            refine zs rfl rfl rfl ?_
            refine zs rfl rfl rfl ?_
            exact zret rfl rfl (mX_ok rfl (hf'.mono (by decide)) (hC.to hf' (by decide) hr2) (hS.fr hf' (by decide) (by decide)))
          | false =>
            have e : fst1 (rdp S n (B.2.2 t) (B.2.1 t)) (d + 1) i = fst1 (rdp S n (B.2.2 t) (B.2.1 t)) d (i + 1) := by
              show cond _ _ _ = _
              rw [hp]; rfl
            rw [e]
            refine zs rfl rfl rfl ?_
            refine zinc rfl rfl rfl ?_
            refine zs rfl rfl rfl ?_
            exact ih (i + 1) M2 (by omega) hf' hr2
      exact loop 13 0 M rfl Fr.rfl' hC.1
  · rw [if_neg h, if_neg h]
    refine zs rfl rfl rfl ?_
    refine zs rfl rfl rfl ?_
    refine zs rfl rfl rfl ?_
    refine zs rfl rfl rfl ?_
    refine zcl rfl rfl (m_wants hS hB s) ?_
    rw [if_neg h]
    refine zcl rfl rfl (m_finds_0) ?_
    exact zret rfl rfl (mX_ref (c := 0) rfl Fr.rfl' hC hS)
end MSHT3
