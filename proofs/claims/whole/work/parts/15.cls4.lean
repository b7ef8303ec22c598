/-! Rows that fail fast. -/
section ZR2
variable {X : Nat × (Nat → Int32)} {j pc : Nat} {L : zL} {st r : List Value} {M : zM} {N : zN} {Q : Option Value → zM → zN → Prop}
theorem zto {x y : Int32} (hst : st = .int x :: r) (h : x = y) (k : zW X j pc L (.int y :: r) M N Q) : zW X j pc L st M N Q := by
  subst hst; exact h ▸ k
theorem zal {nx tg a b q n i : Nat} {v : Value} {f : Nat → Int32} (he : z_P j pc = some (.iaload, nx, tg, a, b, v)) (hst : st = .int (nI i) :: .ref q :: r) (hz : z_ints2 X q M = some (n, f)) (hi : i < n) (hn : n < 2 ^ 31) (k : zW X j nx L (.int (f i) :: r) M N Q) : zW X j pc L st M N Q := by
  subst hst; exact zald he hz hi hn k
theorem zas {nx tg a b q n i : Nat} {v : Value} {x : Int32} {rs : List (Option Nat)} (he : z_P j pc = some (.iastore, nx, tg, a, b, v)) (hst : st = .int x :: .int (nI i) :: .ref q :: r) (hq : Nat.ble 56 q = false) (hz : z_lay.get q = (0, n, rs)) (hi : i < n) (hn : n < 2 ^ 31) (k : zW X j nx L r (z_up M q i x) N Q) : zW X j pc L st M N Q := by
  subst hst; exact zast he hq hz hi hn k
end ZR2
/-- cell q holds the row S -/
def Rw (M : zM) (q : Nat) (S : zS) : Prop := ∀ j, j < 82 → M q j = S j
theorem Rw.at {M : zM} {q : Nat} {S : zS} (h : Rw M q S) {j : Nat} (hj : j < 82) : M q j = S j := h j hj
section CLS4
variable {X : Nat × (Nat → Int32)} {M : zM} {N : zN} {S T : zS} {n : Nat}
theorem Vw.fr1 {M' : zM} {rb : Nat} (h : Vw M rb S) (hf : Fr [rb + 8] M M') : Vw M' rb S := h.fr hf (fun c hc hm => by
  rw [List.mem_singleton] at hm; omega)
theorem c_hangAll_h (hv : Vw M 1 S) (hn : S 0 = nI n) (h12 : n ≤ 12) (f t : Int32) : zV X 21 [.ref 1, .int f, .int t] M N (fun v M' N' => v = none ∧ N' = N ∧ Fr [8] M M' ∧ Vw M' 1 (hal S f t n)) := by
  refine zVi [(0, .ref 1), (1, .int f), (2, .int t)] rfl ?_
  refine zs rfl rfl rfl ?_
  refine zs rfl rfl rfl ?_
  have loop : ∀ d i M1, i + d = n → Fr [8] M M1 → Vw M1 1 (hal S f t i) → zW X 21 2 [(0, .ref 1), (1, .int f), (2, .int t), (3, .int (nI i))] [] M1 N (fun v M' N' => v = none ∧ N' = N ∧ Fr [8] M M' ∧ Vw M' 1 (hal S f t n)) := by
    intro d
    induction d with
    | zero =>
      intro i M1 hi hf hv1
      obtain rfl : i = n := by omega
      have hn0 : M1 1 8 = nI i := by rw [hf 1 (by decide), hv.s0]; exact hn
      refine zs rfl rfl rfl ?_
      refine zs rfl rfl rfl ?_
      refine zs rfl rfl rfl ?_
      try refine zto rfl hn0 ?_
      refine zbt (nI_le (by omega) (by omega)) rfl rfl rfl ?_
      exact zret rfl rfl ⟨rfl, rfl, hf, hv1⟩
    | succ d ih =>
      intro i M1 hi hf hv1
      have hn0 : M1 1 8 = nI n := by rw [hf 1 (by decide), hv.s0]; exact hn
      refine zs rfl rfl rfl ?_
      refine zs rfl rfl rfl ?_
      refine zs rfl rfl rfl ?_
      try refine zto rfl hn0 ?_
      refine zbf (nI_ge (by omega) (by omega)) rfl rfl rfl ?_
      refine zs rfl rfl rfl ?_
      refine zs rfl rfl rfl ?_
      refine zs rfl rfl rfl ?_
      refine zal rfl rfl rfl (by omega) (by decide) ?_
      try refine zto rfl (Vw.fl (by assumption) _ (by omega)) ?_
      refine zs rfl rfl rfl ?_
      refine zbr rfl rfl rfl (fun hc => ?_) (fun hc => ?_)
      · refine zinc rfl rfl rfl ?_
        refine zs rfl rfl rfl ?_
        exact ih (i + 1) M1 (by omega) hf (by rw [hal_f hc]; exact hv1)
      · refine zs rfl rfl rfl ?_
        refine zs rfl rfl rfl ?_
        refine zs rfl rfl rfl ?_
        refine zs rfl rfl rfl ?_
        refine zas rfl rfl rfl rfl (by omega) (by decide) ?_
        refine zinc rfl rfl rfl ?_
        refine zs rfl rfl rfl ?_
        exact ih (i + 1) _ (by omega) (hf.trans (Fr.up (by decide))) (by rw [hal_t (Decidable.not_not.mp hc)]; exact hv1.upl (by omega) t)
  exact loop n 0 M (Nat.zero_add n) Fr.rfl' hv
theorem c_hangAll_t (hv : Vw M 19 S) (hn : S 0 = nI n) (h12 : n ≤ 12) (f t : Int32) : zV X 21 [.ref 19, .int f, .int t] M N (fun v M' N' => v = none ∧ N' = N ∧ Fr [26] M M' ∧ Vw M' 19 (hal S f t n)) := by
  refine zVi [(0, .ref 19), (1, .int f), (2, .int t)] rfl ?_
  refine zs rfl rfl rfl ?_
  refine zs rfl rfl rfl ?_
  have loop : ∀ d i M1, i + d = n → Fr [26] M M1 → Vw M1 19 (hal S f t i) → zW X 21 2 [(0, .ref 19), (1, .int f), (2, .int t), (3, .int (nI i))] [] M1 N (fun v M' N' => v = none ∧ N' = N ∧ Fr [26] M M' ∧ Vw M' 19 (hal S f t n)) := by
    intro d
    induction d with
    | zero =>
      intro i M1 hi hf hv1
      obtain rfl : i = n := by omega
      have hn0 : M1 19 8 = nI i := by rw [hf 19 (by decide), hv.s0]; exact hn
      refine zs rfl rfl rfl ?_
      refine zs rfl rfl rfl ?_
      refine zs rfl rfl rfl ?_
      try refine zto rfl hn0 ?_
      refine zbt (nI_le (by omega) (by omega)) rfl rfl rfl ?_
      exact zret rfl rfl ⟨rfl, rfl, hf, hv1⟩
    | succ d ih =>
      intro i M1 hi hf hv1
      have hn0 : M1 19 8 = nI n := by rw [hf 19 (by decide), hv.s0]; exact hn
      refine zs rfl rfl rfl ?_
      refine zs rfl rfl rfl ?_
      refine zs rfl rfl rfl ?_
      try refine zto rfl hn0 ?_
      refine zbf (nI_ge (by omega) (by omega)) rfl rfl rfl ?_
      refine zs rfl rfl rfl ?_
      refine zs rfl rfl rfl ?_
      refine zs rfl rfl rfl ?_
      refine zal rfl rfl rfl (by omega) (by decide) ?_
      try refine zto rfl (Vw.fl (by assumption) _ (by omega)) ?_
      refine zs rfl rfl rfl ?_
      refine zbr rfl rfl rfl (fun hc => ?_) (fun hc => ?_)
      · refine zinc rfl rfl rfl ?_
        refine zs rfl rfl rfl ?_
        exact ih (i + 1) M1 (by omega) hf (by rw [hal_f hc]; exact hv1)
      · refine zs rfl rfl rfl ?_
        refine zs rfl rfl rfl ?_
        refine zs rfl rfl rfl ?_
        refine zs rfl rfl rfl ?_
        refine zas rfl rfl rfl rfl (by omega) (by decide) ?_
        refine zinc rfl rfl rfl ?_
        refine zs rfl rfl rfl ?_
        exact ih (i + 1) _ (by omega) (hf.trans (Fr.up (by decide))) (by rw [hal_t (Decidable.not_not.mp hc)]; exact hv1.upl (by omega) t)
  exact loop n 0 M (Nat.zero_add n) Fr.rfl' hv
end CLS4
