/-! The law's loop. -/
theorem and63 (y : Int32) : ∃ c, c < 64 ∧ y &&& 63 = nI c := by
  refine ⟨y.toBitVec.toNat % 64, Nat.mod_lt _ (by decide), ?_⟩
  apply Int32.toBitVec_inj.mp
  rw [Int32.toBitVec_and]
  apply BitVec.eq_of_toNat_eq
  rw [BitVec.toNat_and]
  show y.toBitVec.toNat &&& 63 = (BitVec.ofNat 32 _).toNat
  rw [BitVec.toNat_ofNat, show 63 = 2 ^ 6 - 1 by decide, Nat.and_two_pow_sub_one_eq_mod]
  omega
section LOOP
variable {L : Nat} {xs : Nat → Int32} {M : zM} {N : zN} {Q : Option Value → zM → zN → Prop}
theorem zinc6 {X : Nat × (Nat → Int32)} {j pc : Nat} {L : zL} {st : List Value} {nx tg a b i : Nat} {ic : Nat} {nc : Int} (he : z_P j pc = some (.iinc ic nc, nx, tg, a, b, .int 6)) (hl : z_lk L a = some (.int (nI i))) {L' : zL} (hs : z_st1 L a (.int (nI (i + 6))) = some L') (k : zW X j nx L' st M N Q) : zW X j pc L st M N Q := by
  refine zs he (pc' := nx) (L' := L') (st' := st) (M' := M) (N' := N) ?_ rfl k
  simp only [z_stp]
  rw [hl]
  dsimp only
  rw [show nI i + 6 = nI (i + 6) from nI_add i 6, hs]
theorem law_case (hL : L ≤ 3072) {i : Nat} (hi : i + 6 ≤ L) (hI : Inv M N) (kk : ∀ M' N', Inv M' N' → zW (L, xs) 232 1377 [(0, .ref 3001), (1, .ref 0), (2, .ref 44), (3, .int (nI i))] [] M' N' Q) : ∀ (c : Nat), c < 64 → zW (L, xs) 232 33 [(0, .ref 3001), (1, .ref 0), (2, .ref 44), (3, .int (nI i))] [.int (nI c)] M N Q
  | 0, _ => by
    refine zs rfl rfl rfl ?_
    exact law_0 hL hi hI kk
  | 1, _ => by
    refine zs rfl rfl rfl ?_
    exact law_1 hL hi hI kk
  | 2, _ => by
    refine zs rfl rfl rfl ?_
    exact law_2 hL hi hI kk
  | 3, _ => by
    refine zs rfl rfl rfl ?_
    exact law_3 hL hi hI kk
  | 4, _ => by
    refine zs rfl rfl rfl ?_
    exact law_4 hL hi hI kk
  | 5, _ => by
    refine zs rfl rfl rfl ?_
    exact law_5 hL hi hI kk
  | 6, _ => by
    refine zs rfl rfl rfl ?_
    exact law_6 hL hi hI kk
  | 7, _ => by
    refine zs rfl rfl rfl ?_
    exact law_7 hL hi hI kk
  | 8, _ => by
    refine zs rfl rfl rfl ?_
    exact law_8 hL hi hI kk
  | 9, _ => by
    refine zs rfl rfl rfl ?_
    exact law_9 hL hi hI kk
  | 10, _ => by
    refine zs rfl rfl rfl ?_
    exact law_10 hL hi hI kk
  | 11, _ => by
    refine zs rfl rfl rfl ?_
    exact law_11 hL hi hI kk
  | 12, _ => by
    refine zs rfl rfl rfl ?_
    exact law_12 hL hi hI kk
  | 13, _ => by
    refine zs rfl rfl rfl ?_
    exact law_13 hL hi hI kk
  | 14, _ => by
    refine zs rfl rfl rfl ?_
    exact law_14 hL hi hI kk
  | 15, _ => by
    refine zs rfl rfl rfl ?_
    exact law_15 hL hi hI kk
  | 16, _ => by
    refine zs rfl rfl rfl ?_
    exact law_16 hL hi hI kk
  | 17, _ => by
    refine zs rfl rfl rfl ?_
    exact law_17 hL hi hI kk
  | 18, _ => by
    refine zs rfl rfl rfl ?_
    exact law_18 hL hi hI kk
  | 19, _ => by
    refine zs rfl rfl rfl ?_
    exact law_19 hL hi hI kk
  | 20, _ => by
    refine zs rfl rfl rfl ?_
    exact law_20 hL hi hI kk
  | 21, _ => by
    refine zs rfl rfl rfl ?_
    exact law_21 hL hi hI kk
  | 22, _ => by
    refine zs rfl rfl rfl ?_
    exact law_22 hL hi hI kk
  | 23, _ => by
    refine zs rfl rfl rfl ?_
    exact law_23 hL hi hI kk
  | 24, _ => by
    refine zs rfl rfl rfl ?_
    exact law_24 hL hi hI kk
  | 25, _ => by
    refine zs rfl rfl rfl ?_
    exact law_25 hL hi hI kk
  | 26, _ => by
    refine zs rfl rfl rfl ?_
    exact law_26 hL hi hI kk
  | 27, _ => by
    refine zs rfl rfl rfl ?_
    exact law_27 hL hi hI kk
  | 28, _ => by
    refine zs rfl rfl rfl ?_
    exact law_28 hL hi hI kk
  | 29, _ => by
    refine zs rfl rfl rfl ?_
    exact law_29 hL hi hI kk
  | 30, _ => by
    refine zs rfl rfl rfl ?_
    exact law_30 hL hi hI kk
  | 31, _ => by
    refine zs rfl rfl rfl ?_
    exact law_31 hL hi hI kk
  | 32, _ => by
    refine zs rfl rfl rfl ?_
    exact law_32 hL hi hI kk
  | 33, _ => by
    refine zs rfl rfl rfl ?_
    exact law_33 hL hi hI kk
  | 34, _ => by
    refine zs rfl rfl rfl ?_
    exact law_34 hL hi hI kk
  | 35, _ => by
    refine zs rfl rfl rfl ?_
    exact law_35 hL hi hI kk
  | 36, _ => by
    refine zs rfl rfl rfl ?_
    exact law_36 hL hi hI kk
  | 37, _ => by
    refine zs rfl rfl rfl ?_
    exact law_37 hL hi hI kk
  | 38, _ => by
    refine zs rfl rfl rfl ?_
    exact law_38 hL hi hI kk
  | 39, _ => by
    refine zs rfl rfl rfl ?_
    exact law_39 hL hi hI kk
  | 40, _ => by
    refine zs rfl rfl rfl ?_
    exact law_40 hL hi hI kk
  | 41, _ => by
    refine zs rfl rfl rfl ?_
    exact law_41 hL hi hI kk
  | 42, _ => by
    refine zs rfl rfl rfl ?_
    exact law_42 hL hi hI kk
  | 43, _ => by
    refine zs rfl rfl rfl ?_
    exact law_43 hL hi hI kk
  | c + 44, hc => by
    refine zsw rfl rfl (Or.inr ?_) (p := 1377) rfl (kk M N hI)
    rw [nI_toInt (by omega)]
    show (43 : Int) < _
    omega
theorem law_loop (hL : L ≤ 3072) : ∀ (d i : Nat) (M : zM) (N : zN), L ≤ i + d → i ≤ L + 6 → Inv M N → zW (L, xs) 232 18 [(0, .ref 3001), (1, .ref 0), (2, .ref 44), (3, .int (nI i))] [] M N (fun v _ _ => v = some (.int 1)) := by
  intro d
  induction d with
  | zero =>
    intro i M N hd hi hI
    refine zs rfl rfl rfl ?_
    refine zs rfl rfl rfl ?_
    refine zs rfl rfl rfl ?_
    refine zs rfl rfl rfl ?_
    refine zs rfl rfl rfl ?_
    refine zbt (show nI L - 6 < nI i from ?_) rfl rfl rfl ?_
    · rw [i_lt, Int32.toInt_sub, nI_toInt (by omega), nI_toInt (by omega), t_6, Int.bmod_eq_of_le (by omega) (by omega)]
      omega
    · refine zs rfl rfl rfl ?_
      exact zret rfl rfl rfl
  | succ d ih =>
    intro i M N hd hi hI
    by_cases h : i + 6 ≤ L
    · refine zs rfl rfl rfl ?_
      refine zs rfl rfl rfl ?_
      refine zs rfl rfl rfl ?_
      refine zs rfl rfl rfl ?_
      refine zs rfl rfl rfl ?_
      refine zbf (show ¬ nI L - 6 < nI i from ?_) rfl rfl rfl ?_
      · rw [i_lt, Int32.toInt_sub, nI_toInt (by omega), nI_toInt (by omega), t_6, Int.bmod_eq_of_le (by omega) (by omega)]
        omega
      · obtain ⟨c, hc, ec⟩ := and63 (xs i)
        refine zs rfl rfl rfl ?_
        refine zs rfl rfl rfl ?_
        refine zal rfl rfl rfl (by omega) (by omega) ?_
        refine zs rfl rfl rfl ?_
        refine zs rfl rfl rfl ?_
        refine zto rfl ec ?_
        refine law_case hL h hI (fun M' N' hI' => ?_) c hc
        refine zinc6 rfl rfl rfl ?_
        refine zs rfl rfl rfl ?_
        exact ih (i + 6) M' N' (by omega) (by omega) hI'
    · refine zs rfl rfl rfl ?_
      refine zs rfl rfl rfl ?_
      refine zs rfl rfl rfl ?_
      refine zs rfl rfl rfl ?_
      refine zs rfl rfl rfl ?_
      refine zbt (show nI L - 6 < nI i from ?_) rfl rfl rfl ?_
      · rw [i_lt, Int32.toInt_sub, nI_toInt (by omega), nI_toInt (by omega), t_6, Int.bmod_eq_of_le (by omega) (by omega)]
        omega
      · refine zs rfl rfl rfl ?_
        exact zret rfl rfl rfl
theorem law_all (hL : L ≤ 3072) (hI : Inv M N) : zW (L, xs) 232 16 [(0, .ref 3001), (1, .ref 0), (2, .ref 44)] [] M N (fun v _ _ => v = some (.int 1)) := by
  refine zs rfl rfl rfl ?_
  refine zs rfl rfl rfl ?_
  exact law_loop hL L 0 M N (by omega) (by omega) hI
end LOOP
