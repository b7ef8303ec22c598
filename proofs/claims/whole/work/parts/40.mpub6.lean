/-! The model's calls: hours ahead, images, counts, the tape. -/
theorem and255 (y : Int32) : y &&& 255 = nI (y.toBitVec.toNat % 256) := by
  apply Int32.toBitVec_inj.mp
  rw [Int32.toBitVec_and]
  apply BitVec.eq_of_toNat_eq
  rw [BitVec.toNat_and]
  show y.toBitVec.toNat &&& 255 = (BitVec.ofNat 32 _).toNat
  rw [BitVec.toNat_ofNat, show 255 = 2 ^ 8 - 1 by decide, Nat.and_two_pow_sub_one_eq_mod]
  omega
theorem nat_int (z : Int32) : (z.toBitVec.toNat : Int) = z.toInt ∨ (z.toBitVec.toNat : Int) = z.toInt + 4294967296 := by
  have h : z.toInt = z.toBitVec.toInt := rfl
  rw [h, BitVec.toInt_eq_toNat_cond]
  split <;> omega
theorem feed_b (x : Int32) : ∀ m, m < 4 → (x >>> (nI (8 * m) &&& 31)) &&& 255 = byt x m := by
  intro m hm
  unfold byt
  rw [and255, and255]
  congr 1
  have h1 := nat_int x
  have h2 := nat_int (x >>> (nI (8 * m) &&& 31))
  have hm' : m = 0 ∨ m = 1 ∨ m = 2 ∨ m = 3 := by omega
  rcases hm' with rfl | rfl | rfl | rfl
  · have e1 := pk_shr x (nI (8 * 0) &&& 31) 0 (by decide)
    have e2 := pk_ushr x (nI (8 * 0)) 0 (by decide)
    rw [Int.shiftRight_eq_div_pow] at e1
    rw [e2]
    rw [e1] at h2
    omega
  · have e1 := pk_shr x (nI (8 * 1) &&& 31) 8 (by decide)
    have e2 := pk_ushr x (nI (8 * 1)) 8 (by decide)
    rw [Int.shiftRight_eq_div_pow] at e1
    rw [e2]
    rw [e1] at h2
    omega
  · have e1 := pk_shr x (nI (8 * 2) &&& 31) 16 (by decide)
    have e2 := pk_ushr x (nI (8 * 2)) 16 (by decide)
    rw [Int.shiftRight_eq_div_pow] at e1
    rw [e2]
    rw [e1] at h2
    omega
  · have e1 := pk_shr x (nI (8 * 3) &&& 31) 24 (by decide)
    have e2 := pk_ushr x (nI (8 * 3)) 24 (by decide)
    rw [Int.shiftRight_eq_div_pow] at e1
    rw [e2]
    rw [e1] at h2
    omega
section MPUB6
variable {X : Nat × (Nat → Int32)} {M M2 : zM} {N : zN} {S F T tb : zS} {n tl : Nat}
theorem mP_ok2 {a : Int32} {r : zR} {S' : zS} (hr : r = (a, S', F)) (hf : Fr mL M M2) (h44 : ∀ c, c < 13 → M2 44 c = M 44 c) (hC : mC M2 S' F) : mP M N r (some (.int a)) M2 N := by
  subst hr
  exact ⟨rfl, rfl, hf, h44, hC⟩
theorem mP_ref2 {c : Nat} {r : zR} (hr : r = rf S F c) (hf : Fr mL M M2) (h44 : ∀ c, c < 13 → M2 44 c = M 44 c) (hC : mC M2 S F) (hc : c < 7 := by decide) : mP M N r (some (.int (fd c))) (z_up (z_up M2 50 0 (M2 50 0 + 1)) 50 (c + 1) (M2 50 (c + 1) + 1)) N := by
  have h := mP_ref (M := M2) (N := N) (r := r) hr Fr.rfl' hC hc
  exact ⟨h.1, h.2.1, hf.trans h.2.2.1, fun k hk => (h.2.2.2.1 k hk).trans (h44 k hk), h.2.2.2.2⟩
theorem far_iff (hO : Ok S n) : S 1 + 100 ≤ 9999 ↔ S 1 ≤ 9899 := by
  have h1 := i_le.mp hO.hr.1
  have h2 := i_le.mp hO.hr.2
  rw [t_0] at h1
  rw [t_9999] at h2
  obtain ⟨x, hx, ex⟩ := nI_of (x := S 1) (by rw [i_lt, t_0]; omega)
  rw [ex, nI_toInt hx] at h2
  rw [ex, show (100 : Int32) = nI 100 from rfl, nI_add, i_le, i_le, nI_toInt (by omega), nI_toInt hx, t_9999, t_9899]
  omega
theorem m_lowest (h12 : n ≤ 12) (p : Nat → Bool) (hex : ∃ k, k < n ∧ p k = true) : zE1 X 165 [.int (nI (bset n p))] M N (some (.int (fst1 p n 0))) M N := by
  refine zE1i [(0, .int (nI (bset n p)))] rfl ?_
  refine zs rfl rfl rfl ?_
  refine zs rfl rfl rfl ?_
  have loop : ∀ d i, i + d = n → (∃ k, i ≤ k ∧ k < n ∧ p k = true) → zW X 165 2 [(0, .int (nI (bset n p))), (1, .int (nI i))] [] M N (fun v1 M1 N1 => v1 = some (.int (fst1 p d i)) ∧ M1 = M ∧ N1 = N) := by
    intro d
    induction d with
    | zero =>
      intro i hi ⟨k, h1, h2, _⟩
      omega
    | succ d ih =>
      intro i hi ⟨k, h1, h2, h3⟩
      have hin : i < n := by omega
      refine zs rfl rfl rfl ?_
      refine zs rfl rfl rfl ?_
      refine zs rfl rfl rfl ?_
      refine zs rfl rfl rfl ?_
      refine zs rfl rfl rfl ?_
      refine zto rfl (bit_at h12 p hin) ?_
      unfold fst1
      cases hp : p i with
      | true =>
        refine zs rfl rfl rfl ?_
        refine zs rfl rfl rfl ?_
        exact zret rfl rfl ⟨rfl, rfl, rfl⟩
      | false =>
        refine zs rfl rfl rfl ?_
        refine zinc rfl rfl rfl ?_
        refine zs rfl rfl rfl ?_
        refine ih (i + 1) (by omega) ⟨k, ?_, h2, h3⟩
        by_cases e : i = k
        · rw [e, h3] at hp; cases hp
        · omega
  obtain ⟨k, h1, h2⟩ := hex
  exact loop n 0 (Nat.zero_add n) ⟨k, Nat.zero_le _, h1, h2⟩
theorem m_when (hC : mC M S F) (hO : Ok S n) (w : Int32) : zV X 166 [.ref 44, .int w] M N (mP M N (r_when S F n w)) := by
  refine zVi [(0, .ref 44), (1, .int w)] rfl ?_
  unfold r_when
  have hB := hO.b
  refine zs rfl rfl rfl ?_
  refine zcl rfl rfl (m_isWind w) ?_
  by_cases h2 : 0 ≤ w ∧ w ≤ 12
  · rw [decide_eq_true h2, if_pos h2]
    refine zs rfl rfl rfl ?_
    refine zs rfl rfl rfl ?_
    refine zs rfl rfl rfl ?_
    refine zcl rfl rfl (m_isFar hC.1 100) ?_
    by_cases h3 : S 1 ≤ 9899
    · rw [decide_eq_false (not_not_intro ((far_iff hO).mpr h3)), if_pos h3]
      refine zs rfl rfl rfl ?_
      refine zs rfl rfl rfl ?_
      refine zs rfl rfl rfl ?_
      refine zclQ rfl rfl (m_firstHour hC.1 hB w) ?_
      rintro v3 M3 N3 ⟨rfl, rfl, hf3, h44, hr3, _, _, hk⟩
      have hC3 := hC.to hf3 (by decide) hr3
      rcases hk with e | ⟨k, hk0, hk1, e⟩
      · rw [if_pos e, if_pos e]
        refine zs rfl rfl rfl ?_
        refine zs rfl rfl rfl ?_
        refine zs rfl rfl rfl ?_
        refine zs rfl rfl rfl ?_
        refine zs rfl rfl rfl ?_
        refine zcl rfl rfl (m_finds_3) ?_
        refine zs rfl rfl rfl ?_
        exact zret rfl rfl (mP_ref2 (S := S) (F := F) (c := 3) rfl (hf3.mono (by decide)) h44 hC3)
      · have ne : ¬ flh n w (hg S n (-1)) 100 1 S = 0 := by
          rw [e]; intro q; have := (nI0 (by omega)).mp q; omega
        rw [if_neg ne, if_neg ne, e]
        refine zs rfl rfl rfl ?_
        refine zs rfl rfl rfl ?_
        refine zbt (nI_pos' (by omega)) rfl rfl rfl ?_
        refine zs rfl rfl rfl ?_
        exact zret rfl rfl (mP_ok2 (S' := S) (F := F) rfl (hf3.mono (by decide)) h44 hC3)
    · rw [decide_eq_true (p := ¬ S 1 + 100 ≤ 9999) (fun q => h3 ((far_iff hO).mp q)), if_neg h3]
      refine zs rfl rfl rfl ?_
      refine zs rfl rfl rfl ?_
      refine zs rfl rfl rfl ?_
      refine zcl rfl rfl (m_finds_4) ?_
      exact zret rfl rfl (mP_ref (S := S) (F := F) (c := 4) rfl (Fr.rfl') (hC))
  · rw [decide_eq_false h2, if_neg h2]
    refine zs rfl rfl rfl ?_
    refine zs rfl rfl rfl ?_
    refine zs rfl rfl rfl ?_
    refine zcl rfl rfl (m_finds_0) ?_
    exact zret rfl rfl (mP_ref (S := S) (F := F) (c := 0) rfl (Fr.rfl') (hC))
theorem m_who (hC : mC M S F) (hO : Ok S n) (w : Int32) : zV X 167 [.ref 44, .int w] M N (mP M N (r_who S F n w)) := by
  refine zVi [(0, .ref 44), (1, .int w)] rfl ?_
  unfold r_who
  have hB := hO.b
  refine zs rfl rfl rfl ?_
  refine zcl rfl rfl (m_isWind w) ?_
  by_cases h2 : 0 ≤ w ∧ w ≤ 12
  · rw [decide_eq_true h2, if_pos h2]
    refine zs rfl rfl rfl ?_
    refine zs rfl rfl rfl ?_
    refine zs rfl rfl rfl ?_
    refine zcl rfl rfl (m_isFar hC.1 100) ?_
    by_cases h3 : S 1 ≤ 9899
    · rw [decide_eq_false (not_not_intro ((far_iff hO).mpr h3)), if_pos h3]
      refine zs rfl rfl rfl ?_
      refine zs rfl rfl rfl ?_
      refine zs rfl rfl rfl ?_
      refine zclQ rfl rfl (m_firstHour hC.1 hB w) ?_
      rintro v3 M3 N3 ⟨rfl, rfl, hf3, h44, hr3, h13, h0, hk⟩
      have hC3 := hC.to hf3 (by decide) hr3
      generalize hT : fls n w (hg S n (-1)) 100 S = T at h13 h0 ⊢
      rcases hk with e | ⟨k, hk0, hk1, e⟩
      · have hz := h0.mp e
        have ef : fst1 (nly S T) n 0 = -1 := by
          rcases fst1_spec (nly S T) n 0 with ⟨q, _⟩ | ⟨k, _, q2, _, q4, _⟩
          · exact q
          · have := bset_bit n (nly S T) k
            rw [hz, q4, decide_eq_true (by omega)] at this
            rw [Nat.zero_testBit] at this
            cases this
        unfold r_fst
        rw [if_pos e, ef, if_pos rfl]
        refine zs rfl rfl rfl ?_
        refine zs rfl rfl rfl ?_
        refine zs rfl rfl rfl ?_
        refine zcl rfl rfl (m_finds_3) ?_
        refine zs rfl rfl rfl ?_
        exact zret rfl rfl (mP_ref2 (S := S) (F := F) (c := 3) rfl (hf3.mono (by decide)) h44 hC3)
      · have ne : ¬ flh n w (hg S n (-1)) 100 1 S = 0 := by
          rw [e]; intro q; have := (nI0 (by omega)).mp q; omega
        have hex : ∃ k, k < n ∧ nly S T k = true := by
          apply Classical.byContradiction
          intro hno
          apply ne
          apply h0.mpr
          have : bset n (nly S T) = bset n (fun _ => false) := bset_congr (fun k hk => by
            cases q : nly S T k
            · rfl
            · exact absurd ⟨k, hk, q⟩ hno)
          rw [this]
          have : ∀ m, bset m (fun _ => false) = 0 := fun m => by
            induction m with
            | zero => rfl
            | succ m ih => rw [bset_f rfl]; exact ih
          exact this n
        have er : r_fst S F (fst1 (nly S T) n 0) = (fst1 (nly S T) n 0, S, F) := by
          unfold r_fst
          rw [if_neg]
          rcases fst1_spec (nly S T) n 0 with ⟨_, q⟩ | ⟨k, _, q2, q3, _, _⟩
          · obtain ⟨k, hk, hp⟩ := hex
            rw [q k (Nat.zero_le _) (by omega)] at hp
            cases hp
          · rw [q3]; exact nI_m1 (by have := hO.le; omega)
        rw [if_neg ne, e, er]
        refine zbt (nI_pos' (by omega)) rfl rfl rfl ?_
        refine zs rfl rfl rfl ?_
        refine zs rfl rfl rfl ?_
        refine zto rfl h13 ?_
        refine zcl rfl rfl (m_lowest hO.le (nly S T) hex) ?_
        exact zret rfl rfl (mP_ok2 (S' := S) (F := F) rfl (hf3.mono (by decide)) h44 hC3)
    · rw [decide_eq_true (p := ¬ S 1 + 100 ≤ 9999) (fun q => h3 ((far_iff hO).mp q)), if_neg h3]
      refine zs rfl rfl rfl ?_
      refine zs rfl rfl rfl ?_
      refine zs rfl rfl rfl ?_
      refine zcl rfl rfl (m_finds_4) ?_
      exact zret rfl rfl (mP_ref (S := S) (F := F) (c := 4) rfl (Fr.rfl') (hC))
  · rw [decide_eq_false h2, if_neg h2]
    refine zs rfl rfl rfl ?_
    refine zs rfl rfl rfl ?_
    refine zs rfl rfl rfl ?_
    refine zcl rfl rfl (m_finds_0) ?_
    exact zret rfl rfl (mP_ref (S := S) (F := F) (c := 0) rfl (Fr.rfl') (hC))
theorem m_count (hC : mC M S F) (hO : Ok S n) (ht : M 44 8 = nI tl) (w : Int32) : zV X 218 [.ref 44, .int w] M N (mP M N (r_count S F n tl w)) := by
  refine zVi [(0, .ref 44), (1, .int w)] rfl ?_
  unfold r_count
  have hr := hC.1
  have hn0 := hC.n0 hO
  refine zs rfl rfl rfl ?_
  refine zs rfl rfl rfl ?_
  refine zs rfl rfl rfl ?_
  by_cases h0 : w = 0
  · subst h0
    rw [if_pos rfl]
    refine zs rfl rfl rfl ?_
    refine zs rfl rfl rfl ?_
    refine zs rfl rfl rfl ?_
    refine zs rfl rfl rfl ?_
    refine zal (i := 0) rfl rfl rfl (by decide) (by decide) ?_
    try refine zto rfl hn0 ?_
    exact zret rfl rfl (mP_ok (S' := S) (F := F) rfl (Fr.rfl') (hC))
  by_cases h1 : w = 1
  · subst h1
    rw [if_neg h0, if_pos rfl]
    refine zs rfl rfl rfl ?_
    refine zs rfl rfl rfl ?_
    refine zcl rfl rfl (m_adriftSet hr hO.b) ?_
    refine zcl rfl rfl (m_manyIn (hg_lt hO.le _)) ?_
    exact zret rfl rfl (mP_ok (S' := S) (F := F) rfl (Fr.rfl') (hC))
  by_cases h2 : w = 2
  · subst h2
    rw [if_neg h0, if_neg h1, if_pos rfl]
    refine zs rfl rfl rfl ?_
    refine zs rfl rfl rfl ?_
    refine zs rfl rfl rfl ?_
    refine zto rfl ht ?_
    exact zret rfl rfl (mP_ok (S' := S) (F := F) rfl (Fr.rfl') (hC))
  by_cases h3 : w = 3
  · subst h3
    rw [if_neg h0, if_neg h1, if_neg h2, if_pos rfl]
    refine zs rfl rfl rfl ?_
    refine zs rfl rfl rfl ?_
    refine zs rfl rfl rfl ?_
    have loop : ∀ d i, i + d = 13 → zW X 218 54 [(0, .ref 44), (1, .int 3), (2, .int (isum i (fun a => S (9 + a)))), (3, .int (nI i))] [] M N (mP M N (isum 13 (fun a => S (9 + a)), S, F)) := by
      intro d
      induction d with
      | zero =>
        intro i hi
        obtain rfl : i = 13 := by omega
        refine zs rfl rfl rfl ?_
        refine zs rfl rfl rfl ?_
        first | refine zs rfl rfl rfl ?_ | refine zbt (nI_le (a := 13) (by omega) (by omega)) rfl rfl rfl ?_
        refine zs rfl rfl rfl ?_
        exact zret rfl rfl (mP_ok (S' := S) (F := F) rfl (Fr.rfl') (hC))
      | succ d ih =>
        intro i hi
        refine zs rfl rfl rfl ?_
        refine zs rfl rfl rfl ?_
        refine zbf (nI_ge (b := 13) (by omega) (by omega)) rfl rfl rfl ?_
        refine zs rfl rfl rfl ?_
        refine zs rfl rfl rfl ?_
        refine zs rfl rfl rfl ?_
        refine zs rfl rfl rfl ?_
        refine zs rfl rfl rfl ?_
        refine zs rfl rfl rfl ?_
        refine zto rfl (nI_add 9 i) ?_
        refine zal rfl rfl rfl (by omega) (by decide) ?_
        refine zto rfl (hr _ (by omega)) ?_
        refine zs rfl rfl rfl ?_
        refine zs rfl rfl rfl ?_
        refine zinc rfl rfl rfl ?_
        refine zs rfl rfl rfl ?_
        exact ih (i + 1) (by omega)
    exact loop 13 0 rfl
  rw [if_neg h0, if_neg h1, if_neg h2, if_neg h3]
  refine zsw rfl rfl (ne_rng (k := 4) (by decide) ?_) rfl ?_
  · intro i hi
    match i, hi with
    | 0, _ => exact h0
    | 1, _ => exact h1
    | 2, _ => exact h2
    | 3, _ => exact h3
  refine zs rfl rfl rfl ?_
  refine zs rfl rfl rfl ?_
  refine zcl rfl rfl (m_finds_0) ?_
  exact zret rfl rfl (mP_ref (S := S) (F := F) (c := 0) rfl (Fr.rfl') (hC))
theorem m_status (hC : mC M S F) (w : Int32) : zV X 219 [.ref 44, .int w] M N (mP M N (r_status S F w)) := by
  refine zVi [(0, .ref 44), (1, .int w)] rfl ?_
  unfold r_status
  refine zs rfl rfl rfl ?_
  refine zs rfl rfl rfl ?_
  refine zs rfl rfl rfl ?_
  refine zs rfl rfl rfl ?_
  refine zcl rfl rfl (m_isInI w (-1) 6) ?_
  by_cases h1 : w = -1
  · subst h1
    rw [if_pos rfl, show decide ((-1 : Int32) ≤ -1 ∧ (-1 : Int32) ≤ 6) = true by decide]
    refine zs rfl rfl rfl ?_
    refine zs rfl rfl rfl ?_
    refine zs rfl rfl rfl ?_
    refine zs rfl rfl rfl ?_
    refine zs rfl rfl rfl ?_
    refine zs rfl rfl rfl ?_
    refine zal (i := 0) rfl rfl rfl (by decide) (by decide) ?_
    refine zto rfl hC.2.2 ?_
    refine zs rfl rfl rfl ?_
    exact zret rfl rfl (mP_ok (S' := S) (F := F) rfl (Fr.rfl') (hC))
  · rw [if_neg h1]
    by_cases h : 0 ≤ w ∧ w ≤ 6
    · have hd : (-1 : Int32) ≤ w ∧ w ≤ 6 := ⟨by have := i_le.mp h.1; rw [t_0] at this; rw [i_le, t_m1]; omega, h.2⟩
      rw [decide_eq_true hd, if_pos h]
      obtain ⟨j, hj, rfl⟩ := nI_of2 (n := 6) t_6 (i_nlt.mpr h.1) h.2
      rw [nI_clamp (by omega)]
      refine zs rfl rfl rfl ?_
      refine zs rfl rfl rfl ?_
      refine zs rfl rfl rfl ?_
      refine zs rfl rfl rfl ?_
      refine zs rfl rfl rfl ?_
      refine zs rfl rfl rfl ?_
      refine zto rfl (nI_1 j) ?_
      refine zal rfl rfl rfl (by omega) (by decide) ?_
      refine zto rfl (hC.2.1 j (by omega)) ?_
      refine zs rfl rfl rfl ?_
      exact zret rfl rfl (mP_ok (S' := S) (F := F) rfl (Fr.rfl') (hC))
    · have hd : ¬ ((-1 : Int32) ≤ w ∧ w ≤ 6) := fun q => by
        have a := i_le.mp q.1
        rw [t_m1] at a
        have b : w.toInt ≠ -1 := fun e => h1 (i_eq.mpr (by rw [t_m1]; exact e))
        exact h ⟨by rw [i_le, t_0]; omega, q.2⟩
      rw [decide_eq_false hd, if_neg h]
      refine zs rfl rfl rfl ?_
      refine zs rfl rfl rfl ?_
      refine zs rfl rfl rfl ?_
      refine zcl rfl rfl (m_finds_0) ?_
      exact zret rfl rfl (mP_ref (S := S) (F := F) (c := 0) rfl (Fr.rfl') (hC))
theorem m_image (hr : Rw M 45 S) : zV X 215 [.ref 44] M N (fun v M' N' => v = some (.int 1) ∧ N' = N ∧ Fr [44, 46] M M' ∧ M' 44 5 = 1 ∧ M' 44 8 = M 44 8 ∧ Rw M' 46 S) := by
  refine zVi [(0, .ref 44)] rfl ?_
  refine zs rfl rfl rfl ?_
  refine zs rfl rfl rfl ?_
  refine zs rfl rfl rfl ?_
  refine zs rfl rfl rfl ?_
  refine zclQ rfl rfl (m_copyRow_45_46 hr) ?_
  rintro v2 M2 N2 ⟨rfl, rfl, hf2, hr2⟩
  refine zs rfl rfl rfl ?_
  refine zs rfl rfl rfl ?_
  refine zs rfl rfl rfl ?_
  refine zs rfl rfl rfl ?_
  exact zret rfl rfl ⟨rfl, rfl, (hf2.mono (by decide)).trans (Fr.up (by decide)), rfl, by rw [z_up_a, if_neg (by decide), hf2 44 (by decide)], hr2.fr (Fr.up (l := [44]) (by decide)) (by decide)⟩
theorem m_undo1 {K : zS} (hb : M 44 5 = 1) (hk : Rw M 46 K) : zV X 216 [.ref 44] M N (fun v M' N' => v = some (.int (K 0)) ∧ N' = N ∧ Fr [45] M M' ∧ Rw M' 45 K) := by
  refine zVi [(0, .ref 44)] rfl ?_
  refine zs rfl rfl rfl ?_
  refine zs rfl rfl rfl ?_
  refine zto rfl hb ?_
  refine zs rfl rfl rfl ?_
  refine zs rfl rfl rfl ?_
  refine zs rfl rfl rfl ?_
  refine zs rfl rfl rfl ?_
  refine zs rfl rfl rfl ?_
  refine zclQ rfl rfl (m_copyRow_46_45 hk) ?_
  rintro v2 M2 N2 ⟨rfl, rfl, hf2, hr2⟩
  refine zs rfl rfl rfl ?_
  refine zs rfl rfl rfl ?_
  refine zs rfl rfl rfl ?_
  refine zal (i := 0) rfl rfl rfl (by decide) (by decide) ?_
  try refine zto rfl hn0 ?_
  refine zto rfl (hr2 0 (by decide)) ?_
  exact zret rfl rfl ⟨rfl, rfl, hf2, hr2⟩
theorem m_undo0 (hC : mC M S F) (hb : M 44 5 = 0) : zV X 216 [.ref 44] M N (mP M N (rf S F 3)) := by
  refine zVi [(0, .ref 44)] rfl ?_
  refine zs rfl rfl rfl ?_
  refine zs rfl rfl rfl ?_
  refine zto rfl hb ?_
  refine zs rfl rfl rfl ?_
  refine zs rfl rfl rfl ?_
  refine zs rfl rfl rfl ?_
  refine zcl rfl rfl (m_finds_3) ?_
  exact zret rfl rfl (mP_ref (S := S) (F := F) (c := 3) rfl (Fr.rfl') (hC))
theorem m_tear {b : Bool} (hb : M 44 5 = bI b) : zE1 X 217 [.ref 44] M N (some (.int (bI b))) (z_up M 44 5 0) N := by
  refine zE1i [(0, .ref 44)] rfl ?_
  refine zs rfl rfl rfl ?_
  refine zs rfl rfl rfl ?_
  refine zto rfl hb ?_
  refine zs rfl rfl rfl ?_
  refine zs rfl rfl rfl ?_
  refine zs rfl rfl rfl ?_
  refine zs rfl rfl rfl ?_
  refine zs rfl rfl rfl ?_
  cases b
  · refine zs rfl rfl rfl ?_
    refine zs rfl rfl rfl ?_
    exact zret rfl rfl ⟨rfl, rfl, rfl⟩
  · refine zs rfl rfl rfl ?_
    refine zs rfl rfl rfl ?_
    refine zs rfl rfl rfl ?_
    exact zret rfl rfl ⟨rfl, rfl, rfl⟩
theorem m_wipe (ht : M 44 8 = nI tl) : zE1 X 184 [.ref 44] M N (some (.int (nI tl))) (z_up M 44 8 0) N := by
  refine zE1i [(0, .ref 44)] rfl ?_
  refine zs rfl rfl rfl ?_
  refine zs rfl rfl rfl ?_
  refine zto rfl ht ?_
  refine zs rfl rfl rfl ?_
  refine zs rfl rfl rfl ?_
  refine zs rfl rfl rfl ?_
  refine zs rfl rfl rfl ?_
  refine zs rfl rfl rfl ?_
  exact zret rfl rfl ⟨rfl, rfl, rfl⟩
theorem m_feed (hC : mC M S F) (ht : M 44 8 = nI tl) (h120 : tl ≤ 120) (hb : ∀ i, i < tl → M 51 i = tb i) (x m : Int32) : zV X 183 [.ref 44, .int x, .int m] M N (fun v M' N' => (1 ≤ m ∧ m ≤ 4 → (tl + m.toNatClampNeg ≤ 120 → v = some (.int (nI (tl + m.toNatClampNeg))) ∧ N' = N ∧ Fr [44, 51] M M' ∧ (∀ c, c ≠ 8 → M' 44 c = M 44 c) ∧ M' 44 8 = nI (tl + m.toNatClampNeg) ∧ ∀ i, i < tl + m.toNatClampNeg → M' 51 i = fdt x m.toNatClampNeg tl tb i) ∧ (¬ tl + m.toNatClampNeg ≤ 120 → mP M N (rf S F 1) v M' N')) ∧ (¬ (1 ≤ m ∧ m ≤ 4) → mP M N (rf S F 0) v M' N')) := by
  refine zVi [(0, .ref 44), (1, .int x), (2, .int m)] rfl ?_
  refine zs rfl rfl rfl ?_
  refine zs rfl rfl rfl ?_
  refine zs rfl rfl rfl ?_
  refine zs rfl rfl rfl ?_
  refine zcl rfl rfl (m_isInI m 1 4) ?_
  by_cases h : 1 ≤ m ∧ m ≤ 4
  · rw [decide_eq_true h]
    have hm1 := i_le.mp h.1
    have hm2 := i_le.mp h.2
    rw [t_1] at hm1
    rw [t_4] at hm2
    obtain ⟨a, ha, rfl⟩ := nI_of (x := m) (by rw [i_lt, t_0]; omega)
    rw [nI_toInt ha] at hm1 hm2
    rw [nI_clamp ha]
    refine zs rfl rfl rfl ?_
    refine zs rfl rfl rfl ?_
    refine zs rfl rfl rfl ?_
    refine zto rfl ht ?_
    refine zs rfl rfl rfl ?_
    refine zs rfl rfl rfl ?_
    refine zto rfl (nI_add tl a) ?_
    refine zs rfl rfl rfl ?_
    by_cases h2 : tl + a ≤ 120
    · first | refine zs rfl rfl rfl ?_ | refine zbt (nI_le (b := 120) (by omega) (by omega)) rfl rfl rfl ?_
      obtain ⟨e, rfl⟩ : ∃ e, a = e + 1 := ⟨a - 1, by omega⟩
      refine zs rfl rfl rfl ?_
      refine zs rfl rfl rfl ?_
      refine zs rfl rfl rfl ?_
      refine zto rfl (nI_pred e) ?_
      refine zs rfl rfl rfl ?_
      have loop : ∀ (d : Nat) (y : Int32) (tl1 : Nat) (tb1 : zS) (M1 : zM), (d = 0 ∧ y = -1 ∨ ∃ e, d = e + 1 ∧ y = nI e) → tl1 + d ≤ 120 → d ≤ 4 → Fr [44, 51] M M1 → (∀ c, c ≠ 8 → M1 44 c = M 44 c) → M1 44 8 = nI tl1 → (∀ i, i < tl1 → M1 51 i = tb1 i) → zW X 183 41 [(0, .ref 44), (1, .int x), (2, .int (nI (e + 1))), (3, .int y)] [] M1 N (fun v M' N' => v = some (.int (nI (tl1 + d))) ∧ N' = N ∧ Fr [44, 51] M M' ∧ (∀ c, c ≠ 8 → M' 44 c = M 44 c) ∧ M' 44 8 = nI (tl1 + d) ∧ ∀ i, i < tl1 + d → M' 51 i = fdt x d tl1 tb1 i) := by
        intro d
        induction d with
        | zero =>
          intro y tl1 tb1 M1 hy h1 h4 hf h44 ht1 hb1
          rcases hy with ⟨_, rfl⟩ | ⟨e, he, _⟩
          · refine zs rfl rfl rfl ?_
            refine zs rfl rfl rfl ?_
            refine zs rfl rfl rfl ?_
            refine zs rfl rfl rfl ?_
            refine zto rfl ht1 ?_
            exact zret rfl rfl ⟨rfl, rfl, hf, h44, ht1, hb1⟩
          · cases he
        | succ d ih =>
          intro y tl1 tb1 M1 hy h1 h4 hf h44 ht1 hb1
          rcases hy with ⟨he, _⟩ | ⟨e2, he, rfl⟩
          · cases he
          · cases he
            have e8 : (8 : Int32) * nI d = nI (8 * d) := (Int32.ofNat_mul 8 d).symm
            have ht2 : z_up M1 51 tl1 (byt x d) 44 8 = nI tl1 := ht1
            refine zs rfl rfl rfl ?_
            refine zbf (nI_pos (by omega)) rfl rfl rfl ?_
            refine zs rfl rfl rfl ?_
            refine zs rfl rfl rfl ?_
            refine zs rfl rfl rfl ?_
            refine zs rfl rfl rfl ?_
            refine zto rfl ht1 ?_
            refine zs rfl rfl rfl ?_
            refine zs rfl rfl rfl ?_
            refine zs rfl rfl rfl ?_
            refine zs rfl rfl rfl ?_
            refine zto rfl e8 ?_
            refine zs rfl rfl rfl ?_
            refine zs rfl rfl rfl ?_
            refine zs rfl rfl rfl ?_
            refine zto rfl (feed_b x d (by omega)) ?_
            refine zas rfl rfl rfl rfl (by omega) (by decide) ?_
            refine zs rfl rfl rfl ?_
            refine zs rfl rfl rfl ?_
            refine zs rfl rfl rfl ?_
            refine zto rfl ht2 ?_
            refine zs rfl rfl rfl ?_
            refine zs rfl rfl rfl ?_
            refine zto rfl (nI_1 tl1) ?_
            refine zs rfl rfl rfl ?_
            refine zs rfl rfl rfl ?_
            refine zs rfl rfl rfl ?_
            have h5 : tl1 + (d + 1) = tl1 + 1 + d := by omega
            rw [h5]
            show zW _ _ _ _ _ _ _ (fun v M' N' => v = some (.int (nI (tl1 + 1 + d))) ∧ N' = N ∧ Fr [44, 51] M M' ∧ (∀ c, c ≠ 8 → M' 44 c = M 44 c) ∧ M' 44 8 = nI (tl1 + 1 + d) ∧ ∀ i, i < tl1 + 1 + d → M' 51 i = fdt x d (tl1 + 1) (upd tb1 tl1 (byt x d)) i)
            refine ih (nI d + (-1)) (tl1 + 1) (upd tb1 tl1 (byt x d)) _ ?_ (by omega) (by omega) ((hf.trans (Fr.up (by decide))).trans (Fr.up (by decide))) ?_ rfl ?_
            · cases d with
              | zero => exact Or.inl ⟨rfl, by decide⟩
              | succ d => exact Or.inr ⟨d, rfl, nI_dec d⟩
            · intro c hc
              rw [z_up_a, if_neg hc]
              exact h44 c hc
            · intro i hi
              show z_up M1 51 tl1 (byt x d) 51 i = if i = tl1 then byt x d else tb1 i
              rw [z_up_a]
              by_cases e : i = tl1
              · rw [if_pos e, if_pos e]
              · rw [if_neg e, if_neg e]; exact hb1 i (by omega)
      refine zW_mono (loop (e + 1) (nI e) tl tb M (Or.inr ⟨e, rfl, rfl⟩) h2 (by omega) Fr.rfl' (fun _ _ => rfl) ht hb) ?_
      intro v M' N' hq
      exact ⟨fun _ => ⟨fun _ => hq, fun q => absurd h2 q⟩, fun q => absurd h q⟩
    · refine zbf (nI_ge (a := 120) (by omega) (by omega)) rfl rfl rfl ?_
      refine zs rfl rfl rfl ?_
      refine zs rfl rfl rfl ?_
      refine zcl rfl rfl (m_finds_1) ?_
      exact zret rfl rfl ⟨fun _ => ⟨fun q => absurd q h2, fun _ => mP_ref (S := S) (F := F) (c := 1) rfl Fr.rfl' hC⟩, fun q => absurd h q⟩
  · rw [decide_eq_false h]
    refine zs rfl rfl rfl ?_
    refine zs rfl rfl rfl ?_
    refine zs rfl rfl rfl ?_
    refine zcl rfl rfl (m_finds_0) ?_
    exact zret rfl rfl ⟨fun q => absurd q h, fun _ => mP_ref (S := S) (F := F) (c := 0) rfl Fr.rfl' hC⟩
end MPUB6
