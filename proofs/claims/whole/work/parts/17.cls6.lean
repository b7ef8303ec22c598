/-- the greatest depth of the first i -/
def gdp (S : zS) (n : Nat) : Nat → Int32
  | 0 => 0
  | i + 1 => if gdp S n i < dep S n (nI i) then dep S n (nI i) else gdp S n i
section CLS6
variable {X : Nat × (Nat → Int32)} {M : zM} {N : zN} {S T : zS} {n : Nat}
theorem cpy0 (f g : Nat → Int32) {m i : Nat} (h : i < m) : va_cpy f g 0 0 m i = f i := by
  unfold va_cpy
  rw [if_pos ⟨Nat.zero_le _, by omega⟩]
  congr 1; omega
theorem c_take_th (hv : Vw M 1 S) : zV X 1 [.ref 19, .ref 1] M N (fun v M' N' => v = none ∧ N' = N ∧ Fr [19, 20, 21, 22, 23, 24, 25, 26] M M' ∧ Vw M' 19 S) := by
  refine zVi [(0, .ref 19), (1, .ref 1)] rfl ?_
  refine zs rfl rfl rfl ?_
  refine zs rfl rfl rfl ?_
  refine zs rfl rfl rfl ?_
  refine zs rfl rfl rfl ?_
  refine zs rfl rfl rfl ?_
  refine zs rfl rfl rfl ?_
  refine zs rfl rfl rfl ?_
  refine zs rfl rfl rfl ?_
  refine zs rfl rfl rfl ?_
  refine zs rfl rfl rfl ?_
  refine zs rfl rfl rfl ?_
  refine zs rfl rfl rfl ?_
  refine zs rfl rfl rfl ?_
  refine zs rfl rfl rfl ?_
  refine zs rfl rfl rfl ?_
  refine zs rfl rfl rfl ?_
  refine zs rfl rfl rfl ?_
  refine zs rfl rfl rfl ?_
  refine zs rfl rfl rfl ?_
  refine zs rfl rfl rfl ?_
  refine zs rfl rfl rfl ?_
  refine zs rfl rfl rfl ?_
  refine zs rfl rfl rfl ?_
  refine zs rfl rfl rfl ?_
  refine zs rfl rfl rfl ?_
  refine zs rfl rfl rfl ?_
  refine zs rfl rfl rfl ?_
  refine zs rfl rfl rfl ?_
  refine zs rfl rfl rfl ?_
  refine zs rfl rfl rfl ?_
  refine zs rfl rfl rfl ?_
  refine zs rfl rfl rfl ?_
  refine zs rfl rfl rfl ?_
  refine zs rfl rfl rfl ?_
  refine zs rfl rfl rfl ?_
  refine zs rfl rfl rfl ?_
  refine zs rfl rfl rfl ?_
  refine zs rfl rfl rfl ?_
  refine zs rfl rfl rfl ?_
  refine zs rfl rfl rfl ?_
  refine zs rfl rfl rfl ?_
  refine zs rfl rfl rfl ?_
  refine zs rfl rfl rfl ?_
  refine zs rfl rfl rfl ?_
  refine zs rfl rfl rfl ?_
  refine zs rfl rfl rfl ?_
  refine zs rfl rfl rfl ?_
  refine zs rfl rfl rfl ?_
  refine zs rfl rfl rfl ?_
  refine zs rfl rfl rfl ?_
  refine zs rfl rfl rfl ?_
  refine zs rfl rfl rfl ?_
  refine zs rfl rfl rfl ?_
  refine zs rfl rfl rfl ?_
  refine zs rfl rfl rfl ?_
  refine zs rfl rfl rfl ?_
  refine zs rfl rfl rfl ?_
  refine zs rfl rfl rfl ?_
  refine zs rfl rfl rfl ?_
  try refine zto rfl hn0 ?_
  refine zs rfl rfl rfl ?_
  refine zs rfl rfl rfl ?_
  refine zs rfl rfl rfl ?_
  refine zs rfl rfl rfl ?_
  refine zs rfl rfl rfl ?_
  refine zs rfl rfl rfl ?_
  refine zs rfl rfl rfl ?_
  refine zs rfl rfl rfl ?_
  refine zs rfl rfl rfl ?_
  refine zret rfl rfl ⟨rfl, rfl, ?_, ?_⟩
  · exact ((((((((((Fr.row (by decide)).trans (Fr.row (by decide))).trans (Fr.row (by decide))).trans (Fr.row (by decide))).trans (Fr.row (by decide))).trans (Fr.row (by decide))).trans (Fr.row (by decide))).trans (Fr.up (by decide))).trans (Fr.up (by decide))).trans (Fr.up (by decide)))
  · exact ⟨hv.s0, hv.s1, hv.s2, fun a ha => (cpy0 _ _ ha).trans (hv.ho a ha), fun a ha => (cpy0 _ _ ha).trans (hv.od a ha), fun a ha => (cpy0 _ _ ha).trans (hv.fk a ha), fun a ha => (cpy0 _ _ ha).trans (hv.fs a ha), fun a ha => (cpy0 _ _ ha).trans (hv.fc a ha), fun a ha => (cpy0 _ _ ha).trans (hv.fw a ha), fun a ha => (cpy0 _ _ ha).trans (hv.fl a ha)⟩
theorem c_take_kh (hv : Vw M 1 S) : zV X 1 [.ref 10, .ref 1] M N (fun v M' N' => v = none ∧ N' = N ∧ Fr [10, 11, 12, 13, 14, 15, 16, 17] M M' ∧ Vw M' 10 S) := by
  refine zVi [(0, .ref 10), (1, .ref 1)] rfl ?_
  refine zs rfl rfl rfl ?_
  refine zs rfl rfl rfl ?_
  refine zs rfl rfl rfl ?_
  refine zs rfl rfl rfl ?_
  refine zs rfl rfl rfl ?_
  refine zs rfl rfl rfl ?_
  refine zs rfl rfl rfl ?_
  refine zs rfl rfl rfl ?_
  refine zs rfl rfl rfl ?_
  refine zs rfl rfl rfl ?_
  refine zs rfl rfl rfl ?_
  refine zs rfl rfl rfl ?_
  refine zs rfl rfl rfl ?_
  refine zs rfl rfl rfl ?_
  refine zs rfl rfl rfl ?_
  refine zs rfl rfl rfl ?_
  refine zs rfl rfl rfl ?_
  refine zs rfl rfl rfl ?_
  refine zs rfl rfl rfl ?_
  refine zs rfl rfl rfl ?_
  refine zs rfl rfl rfl ?_
  refine zs rfl rfl rfl ?_
  refine zs rfl rfl rfl ?_
  refine zs rfl rfl rfl ?_
  refine zs rfl rfl rfl ?_
  refine zs rfl rfl rfl ?_
  refine zs rfl rfl rfl ?_
  refine zs rfl rfl rfl ?_
  refine zs rfl rfl rfl ?_
  refine zs rfl rfl rfl ?_
  refine zs rfl rfl rfl ?_
  refine zs rfl rfl rfl ?_
  refine zs rfl rfl rfl ?_
  refine zs rfl rfl rfl ?_
  refine zs rfl rfl rfl ?_
  refine zs rfl rfl rfl ?_
  refine zs rfl rfl rfl ?_
  refine zs rfl rfl rfl ?_
  refine zs rfl rfl rfl ?_
  refine zs rfl rfl rfl ?_
  refine zs rfl rfl rfl ?_
  refine zs rfl rfl rfl ?_
  refine zs rfl rfl rfl ?_
  refine zs rfl rfl rfl ?_
  refine zs rfl rfl rfl ?_
  refine zs rfl rfl rfl ?_
  refine zs rfl rfl rfl ?_
  refine zs rfl rfl rfl ?_
  refine zs rfl rfl rfl ?_
  refine zs rfl rfl rfl ?_
  refine zs rfl rfl rfl ?_
  refine zs rfl rfl rfl ?_
  refine zs rfl rfl rfl ?_
  refine zs rfl rfl rfl ?_
  refine zs rfl rfl rfl ?_
  refine zs rfl rfl rfl ?_
  refine zs rfl rfl rfl ?_
  refine zs rfl rfl rfl ?_
  refine zs rfl rfl rfl ?_
  try refine zto rfl hn0 ?_
  refine zs rfl rfl rfl ?_
  refine zs rfl rfl rfl ?_
  refine zs rfl rfl rfl ?_
  refine zs rfl rfl rfl ?_
  refine zs rfl rfl rfl ?_
  refine zs rfl rfl rfl ?_
  refine zs rfl rfl rfl ?_
  refine zs rfl rfl rfl ?_
  refine zs rfl rfl rfl ?_
  refine zret rfl rfl ⟨rfl, rfl, ?_, ?_⟩
  · exact ((((((((((Fr.row (by decide)).trans (Fr.row (by decide))).trans (Fr.row (by decide))).trans (Fr.row (by decide))).trans (Fr.row (by decide))).trans (Fr.row (by decide))).trans (Fr.row (by decide))).trans (Fr.up (by decide))).trans (Fr.up (by decide))).trans (Fr.up (by decide)))
  · exact ⟨hv.s0, hv.s1, hv.s2, fun a ha => (cpy0 _ _ ha).trans (hv.ho a ha), fun a ha => (cpy0 _ _ ha).trans (hv.od a ha), fun a ha => (cpy0 _ _ ha).trans (hv.fk a ha), fun a ha => (cpy0 _ _ ha).trans (hv.fs a ha), fun a ha => (cpy0 _ _ ha).trans (hv.fc a ha), fun a ha => (cpy0 _ _ ha).trans (hv.fw a ha), fun a ha => (cpy0 _ _ ha).trans (hv.fl a ha)⟩
theorem c_take_hk (hv : Vw M 10 S) : zV X 1 [.ref 1, .ref 10] M N (fun v M' N' => v = none ∧ N' = N ∧ Fr [1, 2, 3, 4, 5, 6, 7, 8] M M' ∧ Vw M' 1 S) := by
  refine zVi [(0, .ref 1), (1, .ref 10)] rfl ?_
  refine zs rfl rfl rfl ?_
  refine zs rfl rfl rfl ?_
  refine zs rfl rfl rfl ?_
  refine zs rfl rfl rfl ?_
  refine zs rfl rfl rfl ?_
  refine zs rfl rfl rfl ?_
  refine zs rfl rfl rfl ?_
  refine zs rfl rfl rfl ?_
  refine zs rfl rfl rfl ?_
  refine zs rfl rfl rfl ?_
  refine zs rfl rfl rfl ?_
  refine zs rfl rfl rfl ?_
  refine zs rfl rfl rfl ?_
  refine zs rfl rfl rfl ?_
  refine zs rfl rfl rfl ?_
  refine zs rfl rfl rfl ?_
  refine zs rfl rfl rfl ?_
  refine zs rfl rfl rfl ?_
  refine zs rfl rfl rfl ?_
  refine zs rfl rfl rfl ?_
  refine zs rfl rfl rfl ?_
  refine zs rfl rfl rfl ?_
  refine zs rfl rfl rfl ?_
  refine zs rfl rfl rfl ?_
  refine zs rfl rfl rfl ?_
  refine zs rfl rfl rfl ?_
  refine zs rfl rfl rfl ?_
  refine zs rfl rfl rfl ?_
  refine zs rfl rfl rfl ?_
  refine zs rfl rfl rfl ?_
  refine zs rfl rfl rfl ?_
  refine zs rfl rfl rfl ?_
  refine zs rfl rfl rfl ?_
  refine zs rfl rfl rfl ?_
  refine zs rfl rfl rfl ?_
  refine zs rfl rfl rfl ?_
  refine zs rfl rfl rfl ?_
  refine zs rfl rfl rfl ?_
  refine zs rfl rfl rfl ?_
  refine zs rfl rfl rfl ?_
  refine zs rfl rfl rfl ?_
  refine zs rfl rfl rfl ?_
  refine zs rfl rfl rfl ?_
  refine zs rfl rfl rfl ?_
  refine zs rfl rfl rfl ?_
  refine zs rfl rfl rfl ?_
  refine zs rfl rfl rfl ?_
  refine zs rfl rfl rfl ?_
  refine zs rfl rfl rfl ?_
  refine zs rfl rfl rfl ?_
  refine zs rfl rfl rfl ?_
  refine zs rfl rfl rfl ?_
  refine zs rfl rfl rfl ?_
  refine zs rfl rfl rfl ?_
  refine zs rfl rfl rfl ?_
  refine zs rfl rfl rfl ?_
  refine zs rfl rfl rfl ?_
  refine zs rfl rfl rfl ?_
  refine zs rfl rfl rfl ?_
  try refine zto rfl hn0 ?_
  refine zs rfl rfl rfl ?_
  refine zs rfl rfl rfl ?_
  refine zs rfl rfl rfl ?_
  refine zs rfl rfl rfl ?_
  refine zs rfl rfl rfl ?_
  refine zs rfl rfl rfl ?_
  refine zs rfl rfl rfl ?_
  refine zs rfl rfl rfl ?_
  refine zs rfl rfl rfl ?_
  refine zret rfl rfl ⟨rfl, rfl, ?_, ?_⟩
  · exact ((((((((((Fr.row (by decide)).trans (Fr.row (by decide))).trans (Fr.row (by decide))).trans (Fr.row (by decide))).trans (Fr.row (by decide))).trans (Fr.row (by decide))).trans (Fr.row (by decide))).trans (Fr.up (by decide))).trans (Fr.up (by decide))).trans (Fr.up (by decide)))
  · exact ⟨hv.s0, hv.s1, hv.s2, fun a ha => (cpy0 _ _ ha).trans (hv.ho a ha), fun a ha => (cpy0 _ _ ha).trans (hv.od a ha), fun a ha => (cpy0 _ _ ha).trans (hv.fk a ha), fun a ha => (cpy0 _ _ ha).trans (hv.fs a ha), fun a ha => (cpy0 _ _ ha).trans (hv.fc a ha), fun a ha => (cpy0 _ _ ha).trans (hv.fw a ha), fun a ha => (cpy0 _ _ ha).trans (hv.fl a ha)⟩
theorem c_take_ht (hv : Vw M 19 S) : zV X 1 [.ref 1, .ref 19] M N (fun v M' N' => v = none ∧ N' = N ∧ Fr [1, 2, 3, 4, 5, 6, 7, 8] M M' ∧ Vw M' 1 S) := by
  refine zVi [(0, .ref 1), (1, .ref 19)] rfl ?_
  refine zs rfl rfl rfl ?_
  refine zs rfl rfl rfl ?_
  refine zs rfl rfl rfl ?_
  refine zs rfl rfl rfl ?_
  refine zs rfl rfl rfl ?_
  refine zs rfl rfl rfl ?_
  refine zs rfl rfl rfl ?_
  refine zs rfl rfl rfl ?_
  refine zs rfl rfl rfl ?_
  refine zs rfl rfl rfl ?_
  refine zs rfl rfl rfl ?_
  refine zs rfl rfl rfl ?_
  refine zs rfl rfl rfl ?_
  refine zs rfl rfl rfl ?_
  refine zs rfl rfl rfl ?_
  refine zs rfl rfl rfl ?_
  refine zs rfl rfl rfl ?_
  refine zs rfl rfl rfl ?_
  refine zs rfl rfl rfl ?_
  refine zs rfl rfl rfl ?_
  refine zs rfl rfl rfl ?_
  refine zs rfl rfl rfl ?_
  refine zs rfl rfl rfl ?_
  refine zs rfl rfl rfl ?_
  refine zs rfl rfl rfl ?_
  refine zs rfl rfl rfl ?_
  refine zs rfl rfl rfl ?_
  refine zs rfl rfl rfl ?_
  refine zs rfl rfl rfl ?_
  refine zs rfl rfl rfl ?_
  refine zs rfl rfl rfl ?_
  refine zs rfl rfl rfl ?_
  refine zs rfl rfl rfl ?_
  refine zs rfl rfl rfl ?_
  refine zs rfl rfl rfl ?_
  refine zs rfl rfl rfl ?_
  refine zs rfl rfl rfl ?_
  refine zs rfl rfl rfl ?_
  refine zs rfl rfl rfl ?_
  refine zs rfl rfl rfl ?_
  refine zs rfl rfl rfl ?_
  refine zs rfl rfl rfl ?_
  refine zs rfl rfl rfl ?_
  refine zs rfl rfl rfl ?_
  refine zs rfl rfl rfl ?_
  refine zs rfl rfl rfl ?_
  refine zs rfl rfl rfl ?_
  refine zs rfl rfl rfl ?_
  refine zs rfl rfl rfl ?_
  refine zs rfl rfl rfl ?_
  refine zs rfl rfl rfl ?_
  refine zs rfl rfl rfl ?_
  refine zs rfl rfl rfl ?_
  refine zs rfl rfl rfl ?_
  refine zs rfl rfl rfl ?_
  refine zs rfl rfl rfl ?_
  refine zs rfl rfl rfl ?_
  refine zs rfl rfl rfl ?_
  refine zs rfl rfl rfl ?_
  try refine zto rfl hn0 ?_
  refine zs rfl rfl rfl ?_
  refine zs rfl rfl rfl ?_
  refine zs rfl rfl rfl ?_
  refine zs rfl rfl rfl ?_
  refine zs rfl rfl rfl ?_
  refine zs rfl rfl rfl ?_
  refine zs rfl rfl rfl ?_
  refine zs rfl rfl rfl ?_
  refine zs rfl rfl rfl ?_
  refine zret rfl rfl ⟨rfl, rfl, ?_, ?_⟩
  · exact ((((((((((Fr.row (by decide)).trans (Fr.row (by decide))).trans (Fr.row (by decide))).trans (Fr.row (by decide))).trans (Fr.row (by decide))).trans (Fr.row (by decide))).trans (Fr.row (by decide))).trans (Fr.up (by decide))).trans (Fr.up (by decide))).trans (Fr.up (by decide)))
  · exact ⟨hv.s0, hv.s1, hv.s2, fun a ha => (cpy0 _ _ ha).trans (hv.ho a ha), fun a ha => (cpy0 _ _ ha).trans (hv.od a ha), fun a ha => (cpy0 _ _ ha).trans (hv.fk a ha), fun a ha => (cpy0 _ _ ha).trans (hv.fs a ha), fun a ha => (cpy0 _ _ ha).trans (hv.fc a ha), fun a ha => (cpy0 _ _ ha).trans (hv.fw a ha), fun a ha => (cpy0 _ _ ha).trans (hv.fl a ha)⟩
/-- a new ship -/
def ads (S : zS) (n : Nat) (kd sz : Int32) : zS := up0 (upl (upw (upc (ups (upk S n kd) n sz) n 50) n 0) n (-1)) (nI (n + 1))
theorem c_addShip_h (hv : Vw M 1 S) (hn : S 0 = nI n) (h12 : n < 12) (kd sz : Int32) : zV X 2 [.ref 1, .int kd, .int sz] M N (fun v M' N' => v = some (.int (nI n)) ∧ N' = N ∧ Fr [1, 4, 5, 6, 7, 8] M M' ∧ Vw M' 1 (ads S n kd sz)) := by
  refine zVi [(0, .ref 1), (1, .int kd), (2, .int sz)] rfl ?_
  have hn0 : M 1 8 = nI n := hv.s0.trans hn
  refine zs rfl rfl rfl ?_
  refine zs rfl rfl rfl ?_
  try refine zto rfl hn0 ?_
  refine zs rfl rfl rfl ?_
  refine zs rfl rfl rfl ?_
  refine zs rfl rfl rfl ?_
  refine zs rfl rfl rfl ?_
  refine zs rfl rfl rfl ?_
  refine zas rfl rfl rfl rfl (by omega) (by decide) ?_
  refine zs rfl rfl rfl ?_
  refine zs rfl rfl rfl ?_
  refine zs rfl rfl rfl ?_
  refine zs rfl rfl rfl ?_
  refine zas rfl rfl rfl rfl (by omega) (by decide) ?_
  refine zs rfl rfl rfl ?_
  refine zs rfl rfl rfl ?_
  refine zs rfl rfl rfl ?_
  refine zs rfl rfl rfl ?_
  refine zas rfl rfl rfl rfl (by omega) (by decide) ?_
  refine zs rfl rfl rfl ?_
  refine zs rfl rfl rfl ?_
  refine zs rfl rfl rfl ?_
  refine zs rfl rfl rfl ?_
  refine zas rfl rfl rfl rfl (by omega) (by decide) ?_
  refine zs rfl rfl rfl ?_
  refine zs rfl rfl rfl ?_
  refine zs rfl rfl rfl ?_
  refine zs rfl rfl rfl ?_
  refine zas rfl rfl rfl rfl (by omega) (by decide) ?_
  refine zs rfl rfl rfl ?_
  refine zs rfl rfl rfl ?_
  refine zs rfl rfl rfl ?_
  try refine zto rfl hn0 ?_
  refine zs rfl rfl rfl ?_
  refine zs rfl rfl rfl ?_
  refine zs rfl rfl rfl ?_
  refine zs rfl rfl rfl ?_
  refine zret rfl rfl ⟨rfl, rfl, ?_, ?_⟩
  · exact ((((((Fr.up (by decide)).trans (Fr.up (by decide))).trans (Fr.up (by decide))).trans (Fr.up (by decide))).trans (Fr.up (by decide))).trans (Fr.up (by decide)))
  · have h := (((((hv.upk h12 kd).ups h12 sz).upc h12 50).upw h12 0).upl h12 (-1)).up0 (nI (n + 1))
    have e : nI n + 1 = nI (n + 1) := nI_1 n
    rw [e]
    exact h
theorem c_greatestDepth_h (hv : Vw M 1 S) (hn : S 0 = nI n) (h12 : n ≤ 12) : zE1 X 8 [.ref 1] M N (some (.int (gdp S n n))) M N := by
  refine zE1i [(0, .ref 1)] rfl ?_
  have hn0 : M 1 8 = nI n := hv.s0.trans hn
  refine zs rfl rfl rfl ?_
  refine zs rfl rfl rfl ?_
  refine zs rfl rfl rfl ?_
  refine zs rfl rfl rfl ?_
  have loop : ∀ d i, i + d = n → zW X 8 4 [(0, .ref 1), (1, .int (gdp S n i)), (2, .int (nI i))] [] M N (fun v1 M1 N1 => v1 = some (.int (gdp S n n)) ∧ M1 = M ∧ N1 = N) := by
    intro d
    induction d with
    | zero =>
      intro i hi
      obtain rfl : i = n := by omega
      refine zs rfl rfl rfl ?_
      refine zs rfl rfl rfl ?_
      refine zs rfl rfl rfl ?_
      try refine zto rfl hn0 ?_
      refine zbt (nI_le (by omega) (by omega)) rfl rfl rfl ?_
      refine zs rfl rfl rfl ?_
      exact zret rfl rfl ⟨rfl, rfl, rfl⟩
    | succ d ih =>
      intro i hi
      refine zs rfl rfl rfl ?_
      refine zs rfl rfl rfl ?_
      refine zs rfl rfl rfl ?_
      try refine zto rfl hn0 ?_
      refine zbf (nI_ge (by omega) (by omega)) rfl rfl rfl ?_
      refine zs rfl rfl rfl ?_
      refine zs rfl rfl rfl ?_
      refine zs rfl rfl rfl ?_
      refine zcl rfl rfl (c_depthOf_h hn0 h12 hv.fl (nI i)) ?_
      refine zs rfl rfl rfl ?_
      refine zs rfl rfl rfl ?_
      refine zinc rfl rfl rfl ?_
      refine zs rfl rfl rfl ?_
      exact ih (i + 1) (by omega)
  exact loop n 0 (Nat.zero_add n)
theorem c_allLoads_h (hv : Vw M 1 S) (hn : S 0 = nI n) (h12 : n ≤ 12) (hk : Kok S n) (w : Int32) : zV X 15 [.ref 1, .int w] M N (fun v M' N' => v = some (.int (isum 6 (fun a => loa S n (Str S n w) (nI (100 + a))))) ∧ N' = N ∧ Fr [9] M M') := by
  refine zVi [(0, .ref 1), (1, .int w)] rfl ?_
  refine zs rfl rfl rfl ?_
  refine zs rfl rfl rfl ?_
  refine zclQ rfl rfl (c_fillStrains_h hv hn h12 hk w) ?_
  rintro v0 M2 N2 ⟨rfl, rfl, hf2, hT⟩
  have hv2 := hv.fr1 hf2
  refine zs rfl rfl rfl ?_
  refine zs rfl rfl rfl ?_
  refine zs rfl rfl rfl ?_
  refine zs rfl rfl rfl ?_
  have loop : ∀ d i, i + d = 6 → zW X 15 9 [(0, .ref 1), (1, .int w), (2, .int (isum i (fun a => loa S n (Str S n w) (nI (100 + a))))), (3, .int (nI i))] [] M2 N2 (fun v M' N' => v = some (.int (isum 6 (fun a => loa S n (Str S n w) (nI (100 + a))))) ∧ N' = N2 ∧ Fr [9] M M') := by
    intro d
    induction d with
    | zero =>
      intro i hi
      obtain rfl : i = 6 := by omega
      refine zs rfl rfl rfl ?_
      refine zs rfl rfl rfl ?_
      first | refine zs rfl rfl rfl ?_ | refine zbt (nI_le (a := 6) (by omega) (by omega)) rfl rfl rfl ?_
      refine zs rfl rfl rfl ?_
      exact zret rfl rfl ⟨rfl, rfl, hf2⟩
    | succ d ih =>
      intro i hi
      refine zs rfl rfl rfl ?_
      refine zs rfl rfl rfl ?_
      refine zbf (nI_ge (b := 6) (by omega) (by omega)) rfl rfl rfl ?_
      refine zs rfl rfl rfl ?_
      refine zs rfl rfl rfl ?_
      refine zs rfl rfl rfl ?_
      refine zcl rfl rfl (c_loadOf_h (hv2.s0.trans hn) h12 hv2.fl hT) ?_
      refine zs rfl rfl rfl ?_
      refine zs rfl rfl rfl ?_
      refine zinc rfl rfl rfl ?_
      refine zs rfl rfl rfl ?_
      exact ih (i + 1) (by omega)
  exact loop 6 0 rfl
theorem c_addShip_t (hv : Vw M 19 S) (hn : S 0 = nI n) (h12 : n < 12) (kd sz : Int32) : zV X 2 [.ref 19, .int kd, .int sz] M N (fun v M' N' => v = some (.int (nI n)) ∧ N' = N ∧ Fr [19, 22, 23, 24, 25, 26] M M' ∧ Vw M' 19 (ads S n kd sz)) := by
  refine zVi [(0, .ref 19), (1, .int kd), (2, .int sz)] rfl ?_
  have hn0 : M 19 8 = nI n := hv.s0.trans hn
  refine zs rfl rfl rfl ?_
  refine zs rfl rfl rfl ?_
  try refine zto rfl hn0 ?_
  refine zs rfl rfl rfl ?_
  refine zs rfl rfl rfl ?_
  refine zs rfl rfl rfl ?_
  refine zs rfl rfl rfl ?_
  refine zs rfl rfl rfl ?_
  refine zas rfl rfl rfl rfl (by omega) (by decide) ?_
  refine zs rfl rfl rfl ?_
  refine zs rfl rfl rfl ?_
  refine zs rfl rfl rfl ?_
  refine zs rfl rfl rfl ?_
  refine zas rfl rfl rfl rfl (by omega) (by decide) ?_
  refine zs rfl rfl rfl ?_
  refine zs rfl rfl rfl ?_
  refine zs rfl rfl rfl ?_
  refine zs rfl rfl rfl ?_
  refine zas rfl rfl rfl rfl (by omega) (by decide) ?_
  refine zs rfl rfl rfl ?_
  refine zs rfl rfl rfl ?_
  refine zs rfl rfl rfl ?_
  refine zs rfl rfl rfl ?_
  refine zas rfl rfl rfl rfl (by omega) (by decide) ?_
  refine zs rfl rfl rfl ?_
  refine zs rfl rfl rfl ?_
  refine zs rfl rfl rfl ?_
  refine zs rfl rfl rfl ?_
  refine zas rfl rfl rfl rfl (by omega) (by decide) ?_
  refine zs rfl rfl rfl ?_
  refine zs rfl rfl rfl ?_
  refine zs rfl rfl rfl ?_
  try refine zto rfl hn0 ?_
  refine zs rfl rfl rfl ?_
  refine zs rfl rfl rfl ?_
  refine zs rfl rfl rfl ?_
  refine zs rfl rfl rfl ?_
  refine zret rfl rfl ⟨rfl, rfl, ?_, ?_⟩
  · exact ((((((Fr.up (by decide)).trans (Fr.up (by decide))).trans (Fr.up (by decide))).trans (Fr.up (by decide))).trans (Fr.up (by decide))).trans (Fr.up (by decide)))
  · have h := (((((hv.upk h12 kd).ups h12 sz).upc h12 50).upw h12 0).upl h12 (-1)).up0 (nI (n + 1))
    have e : nI n + 1 = nI (n + 1) := nI_1 n
    rw [e]
    exact h
theorem c_greatestDepth_t (hv : Vw M 19 S) (hn : S 0 = nI n) (h12 : n ≤ 12) : zE1 X 8 [.ref 19] M N (some (.int (gdp S n n))) M N := by
  refine zE1i [(0, .ref 19)] rfl ?_
  have hn0 : M 19 8 = nI n := hv.s0.trans hn
  refine zs rfl rfl rfl ?_
  refine zs rfl rfl rfl ?_
  refine zs rfl rfl rfl ?_
  refine zs rfl rfl rfl ?_
  have loop : ∀ d i, i + d = n → zW X 8 4 [(0, .ref 19), (1, .int (gdp S n i)), (2, .int (nI i))] [] M N (fun v1 M1 N1 => v1 = some (.int (gdp S n n)) ∧ M1 = M ∧ N1 = N) := by
    intro d
    induction d with
    | zero =>
      intro i hi
      obtain rfl : i = n := by omega
      refine zs rfl rfl rfl ?_
      refine zs rfl rfl rfl ?_
      refine zs rfl rfl rfl ?_
      try refine zto rfl hn0 ?_
      refine zbt (nI_le (by omega) (by omega)) rfl rfl rfl ?_
      refine zs rfl rfl rfl ?_
      exact zret rfl rfl ⟨rfl, rfl, rfl⟩
    | succ d ih =>
      intro i hi
      refine zs rfl rfl rfl ?_
      refine zs rfl rfl rfl ?_
      refine zs rfl rfl rfl ?_
      try refine zto rfl hn0 ?_
      refine zbf (nI_ge (by omega) (by omega)) rfl rfl rfl ?_
      refine zs rfl rfl rfl ?_
      refine zs rfl rfl rfl ?_
      refine zs rfl rfl rfl ?_
      refine zcl rfl rfl (c_depthOf_t hn0 h12 hv.fl (nI i)) ?_
      refine zs rfl rfl rfl ?_
      refine zs rfl rfl rfl ?_
      refine zinc rfl rfl rfl ?_
      refine zs rfl rfl rfl ?_
      exact ih (i + 1) (by omega)
  exact loop n 0 (Nat.zero_add n)
theorem c_allLoads_t (hv : Vw M 19 S) (hn : S 0 = nI n) (h12 : n ≤ 12) (hk : Kok S n) (w : Int32) : zV X 15 [.ref 19, .int w] M N (fun v M' N' => v = some (.int (isum 6 (fun a => loa S n (Str S n w) (nI (100 + a))))) ∧ N' = N ∧ Fr [27] M M') := by
  refine zVi [(0, .ref 19), (1, .int w)] rfl ?_
  refine zs rfl rfl rfl ?_
  refine zs rfl rfl rfl ?_
  refine zclQ rfl rfl (c_fillStrains_t hv hn h12 hk w) ?_
  rintro v0 M2 N2 ⟨rfl, rfl, hf2, hT⟩
  have hv2 := hv.fr1 hf2
  refine zs rfl rfl rfl ?_
  refine zs rfl rfl rfl ?_
  refine zs rfl rfl rfl ?_
  refine zs rfl rfl rfl ?_
  have loop : ∀ d i, i + d = 6 → zW X 15 9 [(0, .ref 19), (1, .int w), (2, .int (isum i (fun a => loa S n (Str S n w) (nI (100 + a))))), (3, .int (nI i))] [] M2 N2 (fun v M' N' => v = some (.int (isum 6 (fun a => loa S n (Str S n w) (nI (100 + a))))) ∧ N' = N2 ∧ Fr [27] M M') := by
    intro d
    induction d with
    | zero =>
      intro i hi
      obtain rfl : i = 6 := by omega
      refine zs rfl rfl rfl ?_
      refine zs rfl rfl rfl ?_
      first | refine zs rfl rfl rfl ?_ | refine zbt (nI_le (a := 6) (by omega) (by omega)) rfl rfl rfl ?_
      refine zs rfl rfl rfl ?_
      exact zret rfl rfl ⟨rfl, rfl, hf2⟩
    | succ d ih =>
      intro i hi
      refine zs rfl rfl rfl ?_
      refine zs rfl rfl rfl ?_
      refine zbf (nI_ge (b := 6) (by omega) (by omega)) rfl rfl rfl ?_
      refine zs rfl rfl rfl ?_
      refine zs rfl rfl rfl ?_
      refine zs rfl rfl rfl ?_
      refine zcl rfl rfl (c_loadOf_t (hv2.s0.trans hn) h12 hv2.fl hT) ?_
      refine zs rfl rfl rfl ?_
      refine zs rfl rfl rfl ?_
      refine zinc rfl rfl rfl ?_
      refine zs rfl rfl rfl ?_
      exact ih (i + 1) (by omega)
  exact loop 6 0 rfl
theorem c_sumOf_7 {m : Nat} (hm : m ≤ 12) : zE1 X 112 [.ref 7, .int (nI m)] M N (some (.int (isum m (M 7)))) M N := by
  refine zE1i [(0, .ref 7), (1, .int (nI m))] rfl ?_
  refine zs rfl rfl rfl ?_
  refine zs rfl rfl rfl ?_
  refine zs rfl rfl rfl ?_
  refine zs rfl rfl rfl ?_
  have loop : ∀ d i, i + d = m → zW X 112 4 [(0, .ref 7), (1, .int (nI m)), (2, .int (isum i (M 7))), (3, .int (nI i))] [] M N (fun v1 M1 N1 => v1 = some (.int (isum m (M 7))) ∧ M1 = M ∧ N1 = N) := by
    intro d
    induction d with
    | zero =>
      intro i hi
      obtain rfl : i = m := by omega
      refine zs rfl rfl rfl ?_
      refine zs rfl rfl rfl ?_
      refine zbt (nI_le (by omega) (by omega)) rfl rfl rfl ?_
      refine zs rfl rfl rfl ?_
      exact zret rfl rfl ⟨rfl, rfl, rfl⟩
    | succ d ih =>
      intro i hi
      refine zs rfl rfl rfl ?_
      refine zs rfl rfl rfl ?_
      refine zbf (nI_ge (by omega) (by omega)) rfl rfl rfl ?_
      refine zs rfl rfl rfl ?_
      refine zs rfl rfl rfl ?_
      refine zs rfl rfl rfl ?_
      refine zbf (nI_ge (b := 12) (by omega) (by omega)) rfl rfl rfl ?_
      refine zs rfl rfl rfl ?_
      refine zs rfl rfl rfl ?_
      refine zs rfl rfl rfl ?_
      refine zal rfl rfl rfl (by omega) (by decide) ?_
      refine zs rfl rfl rfl ?_
      refine zs rfl rfl rfl ?_
      refine zinc rfl rfl rfl ?_
      refine zs rfl rfl rfl ?_
      exact ih (i + 1) (by omega)
  exact loop m 0 (Nat.zero_add m)
theorem c_sumOf_35 {m : Nat} (hm : m ≤ 7) : zE1 X 112 [.ref 35, .int (nI m)] M N (some (.int (isum m (M 35)))) M N := by
  refine zE1i [(0, .ref 35), (1, .int (nI m))] rfl ?_
  refine zs rfl rfl rfl ?_
  refine zs rfl rfl rfl ?_
  refine zs rfl rfl rfl ?_
  refine zs rfl rfl rfl ?_
  have loop : ∀ d i, i + d = m → zW X 112 4 [(0, .ref 35), (1, .int (nI m)), (2, .int (isum i (M 35))), (3, .int (nI i))] [] M N (fun v1 M1 N1 => v1 = some (.int (isum m (M 35))) ∧ M1 = M ∧ N1 = N) := by
    intro d
    induction d with
    | zero =>
      intro i hi
      obtain rfl : i = m := by omega
      refine zs rfl rfl rfl ?_
      refine zs rfl rfl rfl ?_
      refine zbt (nI_le (by omega) (by omega)) rfl rfl rfl ?_
      refine zs rfl rfl rfl ?_
      exact zret rfl rfl ⟨rfl, rfl, rfl⟩
    | succ d ih =>
      intro i hi
      refine zs rfl rfl rfl ?_
      refine zs rfl rfl rfl ?_
      refine zbf (nI_ge (by omega) (by omega)) rfl rfl rfl ?_
      refine zs rfl rfl rfl ?_
      refine zs rfl rfl rfl ?_
      refine zs rfl rfl rfl ?_
      refine zbf (nI_ge (b := 7) (by omega) (by omega)) rfl rfl rfl ?_
      refine zs rfl rfl rfl ?_
      refine zs rfl rfl rfl ?_
      refine zs rfl rfl rfl ?_
      refine zal rfl rfl rfl (by omega) (by decide) ?_
      refine zs rfl rfl rfl ?_
      refine zs rfl rfl rfl ?_
      refine zinc rfl rfl rfl ?_
      refine zs rfl rfl rfl ?_
      exact ih (i + 1) (by omega)
  exact loop m 0 (Nat.zero_add m)
theorem c_sumOf_3 {m : Nat} (hm : m ≤ 13) : zE1 X 112 [.ref 3, .int (nI m)] M N (some (.int (isum m (M 3)))) M N := by
  refine zE1i [(0, .ref 3), (1, .int (nI m))] rfl ?_
  refine zs rfl rfl rfl ?_
  refine zs rfl rfl rfl ?_
  refine zs rfl rfl rfl ?_
  refine zs rfl rfl rfl ?_
  have loop : ∀ d i, i + d = m → zW X 112 4 [(0, .ref 3), (1, .int (nI m)), (2, .int (isum i (M 3))), (3, .int (nI i))] [] M N (fun v1 M1 N1 => v1 = some (.int (isum m (M 3))) ∧ M1 = M ∧ N1 = N) := by
    intro d
    induction d with
    | zero =>
      intro i hi
      obtain rfl : i = m := by omega
      refine zs rfl rfl rfl ?_
      refine zs rfl rfl rfl ?_
      refine zbt (nI_le (by omega) (by omega)) rfl rfl rfl ?_
      refine zs rfl rfl rfl ?_
      exact zret rfl rfl ⟨rfl, rfl, rfl⟩
    | succ d ih =>
      intro i hi
      refine zs rfl rfl rfl ?_
      refine zs rfl rfl rfl ?_
      refine zbf (nI_ge (by omega) (by omega)) rfl rfl rfl ?_
      refine zs rfl rfl rfl ?_
      refine zs rfl rfl rfl ?_
      refine zs rfl rfl rfl ?_
      refine zbf (nI_ge (b := 13) (by omega) (by omega)) rfl rfl rfl ?_
      refine zs rfl rfl rfl ?_
      refine zs rfl rfl rfl ?_
      refine zs rfl rfl rfl ?_
      refine zal rfl rfl rfl (by omega) (by decide) ?_
      refine zs rfl rfl rfl ?_
      refine zs rfl rfl rfl ?_
      refine zinc rfl rfl rfl ?_
      refine zs rfl rfl rfl ?_
      exact ih (i + 1) (by omega)
  exact loop m 0 (Nat.zero_add m)
theorem isum_congr : ∀ {i : Nat} {f g : zS}, (∀ k, k < i → f k = g k) → isum i f = isum i g
  | 0, _, _, _ => rfl
  | i + 1, f, g, h => by
    show isum i f + f i = isum i g + g i
    rw [h i (by omega), isum_congr (fun k hk => h k (by omega))]
theorem c_allWorn_h (hv : Vw M 1 S) (hn : S 0 = nI n) (h12 : n ≤ 12) : zE1 X 16 [.ref 1] M N (some (.int (isum n (wo S)))) M N := by
  refine zE1i [(0, .ref 1)] rfl ?_
  have hn0 : M 1 8 = nI n := hv.s0.trans hn
  refine zs rfl rfl rfl ?_
  refine zs rfl rfl rfl ?_
  refine zs rfl rfl rfl ?_
  refine zs rfl rfl rfl ?_
  try refine zto rfl hn0 ?_
  refine zcl rfl rfl (c_sumOf_7 h12) ?_
  refine zret rfl rfl ⟨?_, rfl, rfl⟩
  rw [isum_congr (fun k hk => hv.fw k (by omega))]
end CLS6
