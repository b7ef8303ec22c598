/-! The model's methods: what is tried. -/
theorem upd_comm (S : zS) {i j : Nat} (h : i ≠ j) (x y : Int32) : upd (upd S i x) j y = upd (upd S j y) i x := by
  funext k
  show (if k = j then y else if k = i then x else S k) = if k = i then x else if k = j then y else S k
  by_cases e : k = j
  · rw [if_pos e, if_pos e, if_neg (by omega)]
  · rw [if_neg e, if_neg e]
theorem and_nI (a b : Nat) : nI a &&& nI b = nI (a &&& b) := by
  apply Int32.toBitVec_inj.mp
  rw [Int32.toBitVec_and]
  show BitVec.ofNat 32 a &&& BitVec.ofNat 32 b = BitVec.ofNat 32 (a &&& b)
  apply BitVec.eq_of_toNat_eq
  rw [BitVec.toNat_and, BitVec.toNat_ofNat, BitVec.toNat_ofNat, BitVec.toNat_ofNat, Nat.and_mod_two_pow]
theorem sh_k : ∀ k, k < 12 → ((nI k &&& 31).toBitVec.smod 32).toNat = k := by decide +kernel
theorem bit_at {n : Nat} (h12 : n ≤ 12) (p : Nat → Bool) {k : Nat} (hk : k < n) : (nI (bset n p) >>> (nI k &&& 31)) &&& 1 = bI (p k) := by
  have hlt : bset n p < 4096 := Nat.lt_of_lt_of_le (bset_lt _ _) (Nat.pow_le_pow_right (by decide) h12 : 2 ^ n ≤ 2 ^ 12)
  rw [pk_shrN (by omega) _ k (sh_k k (by omega)), show (1 : Int32) = nI 1 from rfl, and_nI, Nat.and_one_is_mod]
  have hb := bset_bit n p k
  rw [Nat.testBit_eq_decide_div_mod_eq, decide_eq_true hk, Bool.true_and] at hb
  cases hp : p k with
  | true =>
    rw [hp] at hb
    rw [of_decide_eq_true hb]; rfl
  | false =>
    rw [hp] at hb
    have : bset n p / 2 ^ k % 2 = 0 := by
      have := of_decide_eq_false hb
      omega
    rw [this]; rfl
theorem tele (a b c : Int32) : (a - b) + (c - a) = c - b := by grind
theorem sub_self0 (a : Int32) : a - a = 0 := by grind
def mh (S : zS) (n j i : Nat) : Bool := cond (Nat.ble 100 i) true (decide (i < n) && (!lo S n (nI j) 12 (nI i) && decide (rt S n 12 (nI i) ≠ -1)))
section MOD3
variable {X : Nat × (Nat → Int32)} {M M2 : zM} {N : zN} {S T : zS} {n : Nat}
theorem m_comes (hr : Rw M 45 S) (hB : Bas S n) (h12 : n < 12) (k s : Int32) : zV X 142 [.ref 44, .int k, .int s] M N (fun v M' N' => v = some (.int (nI n)) ∧ N' = N ∧ Fr [45] M M' ∧ Rw M' 45 (ads S n k s)) := by
  refine zVi [(0, .ref 44), (1, .int k), (2, .int s)] rfl ?_
  have hn0 := hr.n0 hB
  refine zs rfl rfl rfl ?_
  refine zs rfl rfl rfl ?_
  refine zs rfl rfl rfl ?_
  refine zal (i := 0) rfl rfl rfl (by decide) (by decide) ?_
  try refine zto rfl hn0 ?_
  refine zs rfl rfl rfl ?_
  refine zs rfl rfl rfl ?_
  refine zs rfl rfl rfl ?_
  refine zs rfl rfl rfl ?_
  refine zs rfl rfl rfl ?_
  refine zal (i := 0) rfl rfl rfl (by decide) (by decide) ?_
  try refine zto rfl hn0 ?_
  refine zs rfl rfl rfl ?_
  refine zs rfl rfl rfl ?_
  refine zas (i := 0) rfl rfl rfl rfl (by decide) (by decide) ?_
  refine zs rfl rfl rfl ?_
  refine zs rfl rfl rfl ?_
  refine zs rfl rfl rfl ?_
  refine zs rfl rfl rfl ?_
  refine zcl rfl rfl (m_puts0 h12 k) ?_
  refine zs rfl rfl rfl ?_
  refine zs rfl rfl rfl ?_
  refine zs rfl rfl rfl ?_
  refine zs rfl rfl rfl ?_
  refine zcl rfl rfl (m_puts1 h12 s) ?_
  refine zs rfl rfl rfl ?_
  refine zs rfl rfl rfl ?_
  refine zs rfl rfl rfl ?_
  refine zs rfl rfl rfl ?_
  refine zcl rfl rfl (m_puts2 h12 50) ?_
  refine zs rfl rfl rfl ?_
  refine zs rfl rfl rfl ?_
  refine zs rfl rfl rfl ?_
  refine zs rfl rfl rfl ?_
  refine zcl rfl rfl (m_puts3 h12 0) ?_
  refine zs rfl rfl rfl ?_
  refine zs rfl rfl rfl ?_
  refine zs rfl rfl rfl ?_
  refine zs rfl rfl rfl ?_
  refine zcl rfl rfl (m_puts4 h12 (-1)) ?_
  refine zs rfl rfl rfl ?_
  refine zret rfl rfl ⟨rfl, rfl, (((((Fr.up (by decide)).trans (Fr.up (by decide))).trans (Fr.up (by decide))).trans (Fr.up (by decide))).trans (Fr.up (by decide))).trans (Fr.up (by decide)), ?_⟩
  have h := (((((hr.up 0 (nI n + 1)).up (22 + 5 * n) k).up (23 + 5 * n) s).up (24 + 5 * n) 50).up (25 + 5 * n) 0).up (26 + 5 * n) (-1)
  rw [upd_comm S (show (0 : Nat) ≠ 22 + 5 * n by omega), upd_comm _ (show (0 : Nat) ≠ 23 + 5 * n by omega), upd_comm _ (show (0 : Nat) ≠ 24 + 5 * n by omega), upd_comm _ (show (0 : Nat) ≠ 25 + 5 * n by omega), upd_comm _ (show (0 : Nat) ≠ 26 + 5 * n by omega)] at h
  unfold ads
  rw [← nI_1]
  exact h
theorem m_cuts (hr : Rw M 45 S) (hB : Bas S n) {k : Nat} (hk : k < n) : zV X 174 [.ref 44, .int (nI k)] M N (fun v M' N' => v = some (.int (nI (many (hg S n (nI k))))) ∧ N' = N ∧ Fr [45] M M' ∧ Rw M' 45 (cto S n k)) := by
  refine zVi [(0, .ref 44), (1, .int (nI k))] rfl ?_
  have hle := hB.le
  have hself : lk S k ≠ nI k := fun e => by
    obtain ⟨r, h⟩ := hB.a
    have := h k k hk hk e
    omega
  have hhal : ∀ i, lk (hal S (nI k) (lk S k) i) k = lk S k := fun i => by
    rw [lk_hal, if_neg (fun q => hself q.2)]
  refine zs rfl rfl rfl ?_
  refine zs rfl rfl rfl ?_
  refine zs rfl rfl rfl ?_
  refine zs rfl rfl rfl ?_
  have loop : ∀ d i M1, i + d = n → Fr [45] M M1 → Rw M1 45 (hal S (nI k) (lk S k) i) → zW X 174 4 [(0, .ref 44), (1, .int (nI k)), (2, .int (nI (cnt i (fun j => decide (lk S j = nI k))))), (3, .int (nI i))] [] M1 N (fun v M' N' => v = some (.int (nI (many (hg S n (nI k))))) ∧ N' = N ∧ Fr [45] M M' ∧ Rw M' 45 (cto S n k)) := by
    intro d
    induction d with
    | zero =>
      intro i M1 hi hf hr1
      obtain rfl : i = n := by omega
      have hn0 : M1 45 0 = nI i := (hr1 0 (by decide)).trans ((els_lo (els_hal _ _ i) (by decide)).trans hB.s0)
      refine zs rfl rfl rfl ?_
      refine zs rfl rfl rfl ?_
      refine zs rfl rfl rfl ?_
      refine zs rfl rfl rfl ?_
      refine zal (i := 0) rfl rfl rfl (by decide) (by decide) ?_
      try refine zto rfl hn0 ?_
      refine zbt (nI_le (by omega) (by omega)) rfl rfl rfl ?_
      refine zs rfl rfl rfl ?_
      refine zs rfl rfl rfl ?_
      refine zs rfl rfl rfl ?_
      refine zs rfl rfl rfl ?_
      refine zcl rfl rfl (m_puts4 (show k < 12 by omega) (-1)) ?_
      refine zs rfl rfl rfl ?_
      refine zret rfl rfl ⟨?_, rfl, hf.trans (Fr.up (by decide)), hr1.up _ _⟩
      unfold hg
      rw [many_bset hle]
    | succ d ih =>
      intro i M1 hi hf hr1
      have hn0 : M1 45 0 = nI n := (hr1 0 (by decide)).trans ((els_lo (els_hal _ _ i) (by decide)).trans hB.s0)
      have hi0 : lk (hal S (nI k) (lk S k) i) i = lk S i := by rw [lk_hal, if_neg (fun q => absurd q.1 (Nat.lt_irrefl i))]
      refine zs rfl rfl rfl ?_
      refine zs rfl rfl rfl ?_
      refine zs rfl rfl rfl ?_
      refine zs rfl rfl rfl ?_
      refine zal (i := 0) rfl rfl rfl (by decide) (by decide) ?_
      try refine zto rfl hn0 ?_
      refine zbf (nI_ge (by omega) (by omega)) rfl rfl rfl ?_
      refine zs rfl rfl rfl ?_
      refine zs rfl rfl rfl ?_
      refine zs rfl rfl rfl ?_
      refine zcl rfl rfl (m_is4 hr1 (show i < 12 by omega)) ?_
      refine zs rfl rfl rfl ?_
      refine zbr rfl rfl rfl (fun hc => ?_) (fun hc => ?_)
      · have ih' := ih (i + 1) M1 (by omega) hf (by rw [hal_f hc]; exact hr1)
        rw [cnt_f (decide_eq_false (by rw [← hi0]; exact hc))] at ih'
        refine zinc rfl rfl rfl ?_
        refine zs rfl rfl rfl ?_
        exact ih'
      · have hc' := Decidable.not_not.mp hc
        have ih' := ih (i + 1) (z_up M1 45 (26 + 5 * i) (lk S k)) (by omega) (hf.trans (Fr.up (by decide))) (by rw [hal_t hc']; exact hr1.up _ _)
        rw [cnt_t (decide_eq_true (by rw [← hi0]; exact hc'))] at ih'
        refine zs rfl rfl rfl ?_
        refine zs rfl rfl rfl ?_
        refine zs rfl rfl rfl ?_
        refine zs rfl rfl rfl ?_
        refine zs rfl rfl rfl ?_
        refine zs rfl rfl rfl ?_
        refine zcl rfl rfl (m_is4 hr1 (show k < 12 by omega)) ?_
        refine zto rfl (hhal i) ?_
        refine zcl rfl rfl (m_puts4 (show i < 12 by omega) (lk S k)) ?_
        refine zinc rfl rfl rfl ?_
        refine zinc rfl rfl rfl ?_
        refine zs rfl rfl rfl ?_
        exact ih'
  exact loop n 0 M (Nat.zero_add n) Fr.rfl' hr
theorem m_goesOn (hr : Rw M 45 S) (hB : Bas S n) (w : Int32) : zV X 151 [.ref 44, .int w] M N (fun v M' N' => v = some (.int (nI (many (hg (phr S n w) n (-1))) - nI (many (hg S n (-1))))) ∧ N' = N ∧ Fr [45, 55] M M' ∧ Rw M' 45 (phr S n w)) := by
  refine zVi [(0, .ref 44), (1, .int w)] rfl ?_
  have hle := hB.le
  refine zs rfl rfl rfl ?_
  refine zcl rfl rfl (m_adriftSet hr hB) ?_
  refine zcl rfl rfl (m_manyIn (hg_lt hle _)) ?_
  refine zs rfl rfl rfl ?_
  refine zs rfl rfl rfl ?_
  refine zs rfl rfl rfl ?_
  refine zs rfl rfl rfl ?_
  refine zs rfl rfl rfl ?_
  refine zas (i := 2) rfl rfl rfl rfl (by decide) (by decide) ?_
  have hr0 : Rw (z_up M 45 2 w) 45 (up2 S w) := hr.up 2 w
  refine zs rfl rfl rfl ?_
  refine zs rfl rfl rfl ?_
  refine zclQ rfl rfl (m_settles hr0 (hB.up2 w) w) ?_
  rintro v1 M1 N1 ⟨rfl, rfl, hf1, hr1⟩
  have hB1 : Bas (stl (up2 S w) n w) n := (hB.up2 w).stl w
  have hf1' : Fr [45, 55] M M1 := (Fr.up (by decide)).trans hf1
  refine zs rfl rfl rfl ?_
  refine zs rfl rfl rfl ?_
  refine zclQ rfl rfl (m_findStrains hr1 hB1 w) ?_
  rintro v2 M2 N2 ⟨rfl, rfl, hf2, hT⟩
  have hf2' : Fr [45, 55] M M2 := hf1'.trans (hf2.mono (by decide))
  have hr2 := hr1.fr hf2 (by decide)
  refine zs rfl rfl rfl ?_
  refine zs rfl rfl rfl ?_
  have loop : ∀ d i M3, i + d = n → Fr [45, 55] M M3 → (∀ k, k < n → M3 55 k = Str (stl (up2 S w) n w) n w k) → Rw M3 45 (wrs (Str (stl (up2 S w) n w) n w) (stl (up2 S w) n w) i) → zW X 151 27 [(0, .ref 44), (1, .int w), (2, .int (nI (many (hg S n (-1))))), (3, .int (nI i))] [] M3 N2 (fun v M' N' => v = some (.int (nI (many (hg (phr S n w) n (-1))) - nI (many (hg S n (-1))))) ∧ N' = N2 ∧ Fr [45, 55] M M' ∧ Rw M' 45 (phr S n w)) := by
    intro d
    induction d with
    | zero =>
      intro i M3 hi hf hT hr3
      obtain rfl : i = n := by omega
      have hB3 := wrs_b hB1 (Str (stl (up2 S w) i w) i w) i (Nat.le_refl _)
      have hn0 : M3 45 0 = nI i := hr3.n0 hB3
      have h1 : M3 45 1 = S 1 := by rw [hr3 1 (by decide), wrs_lo _ _ _ (by decide), stl_lo _ _ _ (by decide), s1_up2]
      refine zs rfl rfl rfl ?_
      refine zs rfl rfl rfl ?_
      refine zs rfl rfl rfl ?_
      refine zs rfl rfl rfl ?_
      refine zal (i := 0) rfl rfl rfl (by decide) (by decide) ?_
      try refine zto rfl hn0 ?_
      refine zbt (nI_le (by omega) (by omega)) rfl rfl rfl ?_
      refine zs rfl rfl rfl ?_
      refine zs rfl rfl rfl ?_
      refine zs rfl rfl rfl ?_
      refine zs rfl rfl rfl ?_
      refine zal (i := 1) rfl rfl rfl (by decide) (by decide) ?_
      refine zto rfl h1 ?_
      refine zs rfl rfl rfl ?_
      refine zs rfl rfl rfl ?_
      refine zas (i := 1) rfl rfl rfl rfl (by decide) (by decide) ?_
      have hr4 : Rw (z_up M3 45 1 (S 1 + 1)) 45 (phr S i w) := hr3.up 1 _
      refine zs rfl rfl rfl ?_
      refine zcl rfl rfl (m_adriftSet hr4 (hB.phr w)) ?_
      refine zcl rfl rfl (m_manyIn (hg_lt hle _)) ?_
      refine zs rfl rfl rfl ?_
      refine zs rfl rfl rfl ?_
      exact zret rfl rfl ⟨rfl, rfl, hf.trans (Fr.up (by decide)), hr4⟩
    | succ d ih =>
      intro i M3 hi hf hT hr3
      have hB3 := wrs_b hB1 (Str (stl (up2 S w) n w) n w) i (by omega)
      have hn0 : M3 45 0 = nI n := hr3.n0 hB3
      have hin : i < n := by omega
      refine zs rfl rfl rfl ?_
      refine zs rfl rfl rfl ?_
      refine zs rfl rfl rfl ?_
      refine zs rfl rfl rfl ?_
      refine zal (i := 0) rfl rfl rfl (by decide) (by decide) ?_
      try refine zto rfl hn0 ?_
      refine zbf (nI_ge (by omega) (by omega)) rfl rfl rfl ?_
      refine zs rfl rfl rfl ?_
      refine zs rfl rfl rfl ?_
      refine zcl rfl rfl (m_hangs hr3 hle hB3.l hin) ?_
      by_cases hc : lk (wrs (Str (stl (up2 S w) n w) n w) (stl (up2 S w) n w) i) i ≠ -1
      · rw [decide_eq_true hc]
        refine zs rfl rfl rfl ?_
        refine zs rfl rfl rfl ?_
        refine zs rfl rfl rfl ?_
        refine zs rfl rfl rfl ?_
        refine zal rfl rfl rfl (by omega) (by decide) ?_
        try refine zto rfl (hT _ (by omega)) ?_
        refine zs rfl rfl rfl ?_
        refine zs rfl rfl rfl ?_
        refine zcl rfl rfl (m_breaksAt hr3 hB3 hin) ?_
        refine zs rfl rfl rfl ?_
        refine zs rfl rfl rfl ?_
        refine zbr rfl rfl rfl (fun hb => ?_) (fun hb => ?_)
        · refine zinc rfl rfl rfl ?_
          refine zs rfl rfl rfl ?_
          exact ih (i + 1) M3 (by omega) hf hT (by rw [wrs_f (fun q => i_nlt.mpr hb q.2)]; exact hr3)
        · have hw := hB3.w i hin
          refine zs rfl rfl rfl ?_
          refine zs rfl rfl rfl ?_
          refine zs rfl rfl rfl ?_
          refine zcl rfl rfl (m_is3 hr3 (show i < 12 by omega)) ?_
          refine zs rfl rfl rfl ?_
          refine zbr rfl rfl rfl (fun hd => ?_) (fun hd => ?_)
          · refine zinc rfl rfl rfl ?_
            refine zs rfl rfl rfl ?_
            refine ih (i + 1) M3 (by omega) hf hT ?_
            rw [wrs_t ⟨hc, i_nle.mp hb⟩]
            have e : wo (wrs (Str (stl (up2 S w) n w) n w) (stl (up2 S w) n w) i) i = 99 := by
              have h2 := i_le.mp hw.2
              have h3 := i_le.mp hd
              exact i_eq.mpr (by omega)
            rw [e, show (if (99 : Int32) + 1 < 99 then (99 : Int32) + 1 else 99) = 99 by decide, ← e]
            unfold upw wo
            rw [upd_self]
            exact hr3
          · refine zs rfl rfl rfl ?_
            refine zs rfl rfl rfl ?_
            refine zs rfl rfl rfl ?_
            refine zs rfl rfl rfl ?_
            refine zs rfl rfl rfl ?_
            refine zs rfl rfl rfl ?_
            refine zcl rfl rfl (m_is3 hr3 (show i < 12 by omega)) ?_
            refine zs rfl rfl rfl ?_
            refine zs rfl rfl rfl ?_
            refine zcl rfl rfl (m_puts3 (show i < 12 by omega) _) ?_
            refine zinc rfl rfl rfl ?_
            refine zs rfl rfl rfl ?_
            refine ih (i + 1) _ (by omega) (hf.trans (Fr.up (by decide))) (fun k hk => by rw [z_up_ne _ _ _ (by decide)]; exact hT k hk) ?_
            rw [wrs_t ⟨hc, i_nle.mp hb⟩]
            have e : (if wo (wrs (Str (stl (up2 S w) n w) n w) (stl (up2 S w) n w) i) i + 1 < 99 then wo (wrs (Str (stl (up2 S w) n w) n w) (stl (up2 S w) n w) i) i + 1 else 99) = wo (wrs (Str (stl (up2 S w) n w) n w) (stl (up2 S w) n w) i) i + 1 := by
              have h1 := i_le.mp hw.1
              rw [t_0] at h1
              have h3 := i_lt.mp (i_nle.mp hd)
              rw [t_99] at h3
              obtain ⟨a, ha, ea⟩ := nI_of (x := wo (wrs (Str (stl (up2 S w) n w) n w) (stl (up2 S w) n w) i) i) (by rw [i_lt, t_0]; omega)
              rw [ea, nI_toInt ha] at h3
              rw [ea, nI_1]
              by_cases q : nI (a + 1) < 99
              · rw [if_pos q]
              · rw [if_neg q]
                apply i_eq.mpr
                rw [i_lt, nI_toInt (by omega), t_99] at q
                rw [nI_toInt (by omega), t_99]
                omega
            rw [e]
            exact hr3.up _ _
      · rw [decide_eq_false hc]
        refine zs rfl rfl rfl ?_
        refine zinc rfl rfl rfl ?_
        refine zs rfl rfl rfl ?_
        exact ih (i + 1) M3 (by omega) hf hT (by rw [wrs_f (fun q => hc q.1)]; exact hr3)
  exact loop n 0 M2 (Nat.zero_add n) hf2' hT hr2
theorem m_hoursGo (hr : Rw M 45 S) (hB : Bas S n) {a : Nat} (ha : a ≤ 100) (w : Int32) : zV X 152 [.ref 44, .int (nI a), .int w] M N (fun v M' N' => v = some (.int (nI (many (hg (phn S n w a) n (-1))) - nI (many (hg S n (-1))))) ∧ N' = N ∧ Fr [45, 55] M M' ∧ Rw M' 45 (phn S n w a)) := by
  refine zVi [(0, .ref 44), (1, .int (nI a)), (2, .int w)] rfl ?_
  refine zs rfl rfl rfl ?_
  refine zs rfl rfl rfl ?_
  refine zs rfl rfl rfl ?_
  refine zs rfl rfl rfl ?_
  have loop : ∀ d i M1 x, i + d = a → x = nI (many (hg (phn S n w i) n (-1))) - nI (many (hg S n (-1))) → Fr [45, 55] M M1 → Rw M1 45 (phn S n w i) → zW X 152 5 [(0, .ref 44), (1, .int (nI a)), (2, .int w), (3, .int x), (4, .int (nI i))] [] M1 N (fun v M' N' => v = some (.int (nI (many (hg (phn S n w a) n (-1))) - nI (many (hg S n (-1))))) ∧ N' = N ∧ Fr [45, 55] M M' ∧ Rw M' 45 (phn S n w a)) := by
    intro d
    induction d with
    | zero =>
      intro i M1 x hi hx hf hr1
      obtain rfl : i = a := by omega
      rw [hx]
      refine zs rfl rfl rfl ?_
      refine zs rfl rfl rfl ?_
      refine zbt (nI_le (by omega) (by omega)) rfl rfl rfl ?_
      refine zs rfl rfl rfl ?_
      exact zret rfl rfl ⟨rfl, rfl, hf, hr1⟩
    | succ d ih =>
      intro i M1 x hi hx hf hr1
      refine zs rfl rfl rfl ?_
      refine zs rfl rfl rfl ?_
      refine zbf (nI_ge (by omega) (by omega)) rfl rfl rfl ?_
      refine zs rfl rfl rfl ?_
      refine zs rfl rfl rfl ?_
      refine zs rfl rfl rfl ?_
      refine zclQ rfl rfl (m_goesOn hr1 (hB.phn w i) w) ?_
      rintro v2 M2 N2 ⟨rfl, rfl, hf2, hr2⟩
      refine zs rfl rfl rfl ?_
      refine zs rfl rfl rfl ?_
      refine zinc rfl rfl rfl ?_
      refine zs rfl rfl rfl ?_
      refine ih (i + 1) M2 _ (by omega) ?_ (hf.trans hf2) hr2
      rw [hx]
      exact tele _ _ _
  exact loop a 0 M 0 (Nat.zero_add a) (sub_self0 _).symm Fr.rfl' hr
theorem m_lostSet (hr : Rw M 45 S) (hB : Bas S n) : zE1 X 156 [.ref 44] M N (some (.int (nI (aon S n (-1))))) M N := by
  refine zE1i [(0, .ref 44)] rfl ?_
  have hn0 := hr.n0 hB
  have hle := hB.le
  refine zs rfl rfl rfl ?_
  refine zs rfl rfl rfl ?_
  refine zs rfl rfl rfl ?_
  refine zs rfl rfl rfl ?_
  have loop : ∀ d i, i + d = n → zW X 156 4 [(0, .ref 44), (1, .int (nI (bset i (fun k => decide (rt S n 12 (nI k) = -1))))), (2, .int (nI i))] [] M N (fun v1 M1 N1 => v1 = some (.int (nI (aon S n (-1)))) ∧ M1 = M ∧ N1 = N) := by
    intro d
    induction d with
    | zero =>
      intro i hi
      obtain rfl : i = n := by omega
      refine zs rfl rfl rfl ?_
      refine zs rfl rfl rfl ?_
      refine zs rfl rfl rfl ?_
      refine zs rfl rfl rfl ?_
      refine zal (i := 0) rfl rfl rfl (by decide) (by decide) ?_
      try refine zto rfl hn0 ?_
      refine zbt (nI_le (by omega) (by omega)) rfl rfl rfl ?_
      refine zs rfl rfl rfl ?_
      exact zret rfl rfl ⟨rfl, rfl, rfl⟩
    | succ d ih =>
      intro i hi
      have ih' := ih (i + 1) (by omega)
      refine zs rfl rfl rfl ?_
      refine zs rfl rfl rfl ?_
      refine zs rfl rfl rfl ?_
      refine zs rfl rfl rfl ?_
      refine zal (i := 0) rfl rfl rfl (by decide) (by decide) ?_
      try refine zto rfl hn0 ?_
      refine zbf (nI_ge (by omega) (by omega)) rfl rfl rfl ?_
      refine zs rfl rfl rfl ?_
      refine zs rfl rfl rfl ?_
      refine zs rfl rfl rfl ?_
      refine zcl rfl rfl (m_topOf hr hle hB.l hB.lv (Th_s (show i < n by omega))) ?_
      rcases rt_end hle hB.l hB.lv (Th_s (show i < n by omega)) with e | ⟨a, ha, e⟩
      · rw [bset_t (decide_eq_true e)] at ih'
        refine zto rfl e ?_
        refine zs rfl rfl rfl ?_
        refine zs rfl rfl rfl ?_
        refine zs rfl rfl rfl ?_
        refine zs rfl rfl rfl ?_
        refine zs rfl rfl rfl ?_
        refine zs rfl rfl rfl ?_
        refine zto rfl (or_bit (bset_lt _ _) (by omega)) ?_
        refine zs rfl rfl rfl ?_
        refine zinc rfl rfl rfl ?_
        refine zs rfl rfl rfl ?_
        exact ih'
      · rw [bset_f (decide_eq_false (by rw [e]; exact nI_m1 (by omega)))] at ih'
        refine zto rfl e ?_
        refine zbt (nI_pos' (by omega)) rfl rfl rfl ?_
        refine zs rfl rfl rfl ?_
        refine zs rfl rfl rfl ?_
        refine zto rfl (or0 _) ?_
        refine zs rfl rfl rfl ?_
        refine zinc rfl rfl rfl ?_
        refine zs rfl rfl rfl ?_
        exact ih'
  exact loop n 0 (Nat.zero_add n)
theorem m_wouldSet (hr : Rw M 45 S) (hB : Bas S n) (w : Int32) : zV X 159 [.ref 44, .int w] M N (fun v M' N' => v = some (.int (nI (hg (stl S n w) n (-1)))) ∧ N' = N ∧ Fr [45, 47, 55] M M' ∧ Rw M' 45 S) := by
  refine zVi [(0, .ref 44), (1, .int w)] rfl ?_
  refine zs rfl rfl rfl ?_
  refine zs rfl rfl rfl ?_
  refine zs rfl rfl rfl ?_
  refine zs rfl rfl rfl ?_
  refine zclQ rfl rfl (m_copyRow_45_47 hr) ?_
  rintro v1 M1 N1 ⟨rfl, rfl, hf1, hr1⟩
  refine zs rfl rfl rfl ?_
  refine zs rfl rfl rfl ?_
  refine zclQ rfl rfl (m_settles (hr.fr hf1 (by decide)) hB w) ?_
  rintro v2 M2 N2 ⟨rfl, rfl, hf2, hr2⟩
  refine zs rfl rfl rfl ?_
  refine zcl rfl rfl (m_adriftSet hr2 (hB.stl w)) ?_
  refine zs rfl rfl rfl ?_
  refine zs rfl rfl rfl ?_
  refine zs rfl rfl rfl ?_
  refine zs rfl rfl rfl ?_
  refine zs rfl rfl rfl ?_
  refine zclQ rfl rfl (m_copyRow_47_45 (hr1.fr hf2 (by decide))) ?_
  rintro v3 M3 N3 ⟨rfl, rfl, hf3, hr3⟩
  refine zs rfl rfl rfl ?_
  exact zret rfl rfl ⟨rfl, rfl, ((hf1.mono (by decide)).trans (hf2.mono (by decide))).trans (hf3.mono (by decide)), hr3⟩
theorem m_holdIn (hr : Rw M 45 S) (hB : Bas S n) (hh : ∀ a, a < 6 → 0 ≤ S (3 + a)) (w : Int32) : zV X 160 [.ref 44, .int w] M N (fun v M' N' => v = some (.int (bI (alh S n w))) ∧ N' = N ∧ Fr [45, 47, 55] M M' ∧ Rw M' 45 S) := by
  refine zVi [(0, .ref 44), (1, .int w)] rfl ?_
  have hle := hB.le
  rw [alh_iff hle hh w]
  refine zs rfl rfl rfl ?_
  refine zs rfl rfl rfl ?_
  refine zclQ rfl rfl (m_wouldSet hr hB w) ?_
  rintro v1 M1 N1 ⟨rfl, rfl, hf1, hr1⟩
  refine zs rfl rfl rfl ?_
  refine zcl rfl rfl (m_adriftSet hr1 hB) ?_
  have e : nI (hg (stl S n w) n (-1)) = nI (hg S n (-1)) ↔ hg (stl S n w) n (-1) = hg S n (-1) := nI_eq (by have := hg_lt (S := stl S n w) hle (-1); omega) (by have := hg_lt (S := S) hle (-1); omega)
  refine zbr rfl rfl rfl (fun hc => ?_) (fun hc => ?_)
  · rw [decide_eq_false (fun q => hc (e.mpr q))]
    refine zs rfl rfl rfl ?_
    exact zret rfl rfl ⟨rfl, rfl, hf1, hr1⟩
  · rw [decide_eq_true (e.mp (Decidable.not_not.mp hc))]
    refine zs rfl rfl rfl ?_
    refine zs rfl rfl rfl ?_
    exact zret rfl rfl ⟨rfl, rfl, hf1, hr1⟩
theorem m_holdsTo (hr : Rw M 45 S) (hB : Bas S n) (hh : ∀ a, a < 6 → 0 ≤ S (3 + a)) : zV X 161 [.ref 44] M N (fun v M' N' => v = some (.int (ght S n)) ∧ N' = N ∧ Fr [45, 47, 55] M M' ∧ Rw M' 45 S) := by
  refine zVi [(0, .ref 44)] rfl ?_
  refine zs rfl rfl rfl ?_
  refine zs rfl rfl rfl ?_
  have loop : ∀ d i M1, i + d = 13 → Fr [45, 47, 55] M M1 → Rw M1 45 S → zW X 161 2 [(0, .ref 44), (1, .int (nI i))] [] M1 N (fun v M' N' => v = some (.int (nI (gtw (fun w => alh S n (nI w)) d i) - 1)) ∧ N' = N ∧ Fr [45, 47, 55] M M' ∧ Rw M' 45 S) := by
    intro d
    induction d with
    | zero =>
      intro i M1 hi hf hr1
      obtain rfl : i = 13 := by omega
      refine zs rfl rfl rfl ?_
      refine zs rfl rfl rfl ?_
      first | refine zs rfl rfl rfl ?_ | refine zbt (nI_le (a := 13) (by omega) (by omega)) rfl rfl rfl ?_
      refine zs rfl rfl rfl ?_
      refine zs rfl rfl rfl ?_
      refine zs rfl rfl rfl ?_
      exact zret rfl rfl ⟨rfl, rfl, hf, hr1⟩
    | succ d ih =>
      intro i M1 hi hf hr1
      refine zs rfl rfl rfl ?_
      refine zs rfl rfl rfl ?_
      refine zbf (nI_ge (b := 13) (by omega) (by omega)) rfl rfl rfl ?_
      refine zs rfl rfl rfl ?_
      refine zs rfl rfl rfl ?_
      refine zclQ rfl rfl (m_holdIn hr1 hB hh (nI i)) ?_
      rintro v0 M2 N2 ⟨rfl, rfl, hf2, hr2⟩
      unfold gtw
      cases alh S n (nI i)
      · refine zs rfl rfl rfl ?_
        refine zs rfl rfl rfl ?_
        refine zs rfl rfl rfl ?_
        refine zs rfl rfl rfl ?_
        exact zret rfl rfl ⟨rfl, rfl, hf.trans hf2, hr2⟩
      · refine zs rfl rfl rfl ?_
        refine zinc rfl rfl rfl ?_
        refine zs rfl rfl rfl ?_
        exact ih (i + 1) M2 (by omega) (hf.trans hf2) hr2
  exact loop 13 0 M rfl Fr.rfl' hr
theorem m_staysBy (hr : Rw M 45 S) (hB : Bas S n) {j : Nat} (hj : j < n) {c : Int32} (hc : 0 ≤ c ∧ c ≤ 9999) (w : Int32) : zV X 178 [.ref 44, .int (nI j), .int w, .int c] M N (fun v M' N' => v = some (.int (bI (sty S n j w c))) ∧ N' = N ∧ Fr [45, 47, 55] M M' ∧ Rw M' 45 S) := by
  refine zVi [(0, .ref 44), (1, .int (nI j)), (2, .int w), (3, .int c)] rfl ?_
  have hle := hB.le
  have hj12 : j < 12 := by omega
  unfold sty
  refine zs rfl rfl rfl ?_
  refine zs rfl rfl rfl ?_
  refine zs rfl rfl rfl ?_
  refine zcl rfl rfl (m_is2 hr hj12) ?_
  refine zs rfl rfl rfl ?_
  refine zs rfl rfl rfl ?_
  refine zs rfl rfl rfl ?_
  refine zs rfl rfl rfl ?_
  refine zs rfl rfl rfl ?_
  refine zcl rfl rfl (m_puts2 hj12 c) ?_
  have hr1 : Rw (z_up M 45 (24 + 5 * j) c) 45 (upc S j c) := hr.up _ _
  refine zs rfl rfl rfl ?_
  refine zs rfl rfl rfl ?_
  refine zclQ rfl rfl (m_wouldSet hr1 (hB.upc j hc) w) ?_
  rintro v2 M2 N2 ⟨rfl, rfl, hf2, hr2⟩
  have hr3 : Rw (z_up M2 45 (24 + 5 * j) (ch S j)) 45 S := by
    have := hr2.up (24 + 5 * j) (ch S j)
    unfold upc at this
    rw [upd_upd] at this
    unfold ch at this
    rw [upd_self] at this
    exact this
  have hf3 : Fr [45, 47, 55] M (z_up M2 45 (24 + 5 * j) (ch S j)) := ((Fr.up (by decide)).trans hf2).trans (Fr.up (by decide))
  have eb : (nI (hg (stl (upc S j c) n w) n (-1)) >>> (nI j &&& 31)) &&& 1 = bI (decide (lk (stl (upc S j c) n w) j = -1)) := bit_at hle _ hj
  refine zs rfl rfl rfl ?_
  refine zs rfl rfl rfl ?_
  refine zs rfl rfl rfl ?_
  refine zs rfl rfl rfl ?_
  refine zto rfl eb ?_
  by_cases q : lk (stl (upc S j c) n w) j = -1
  · rw [decide_eq_true q, decide_eq_false (not_not_intro q)]
    refine zs rfl rfl rfl ?_
    refine zs rfl rfl rfl ?_
    refine zs rfl rfl rfl ?_
    refine zs rfl rfl rfl ?_
    refine zs rfl rfl rfl ?_
    refine zs rfl rfl rfl ?_
    refine zs rfl rfl rfl ?_
    refine zcl rfl rfl (m_puts2 hj12 (ch S j)) ?_
    refine zs rfl rfl rfl ?_
    exact zret rfl rfl ⟨rfl, rfl, hf3, hr3⟩
  · rw [decide_eq_false q, decide_eq_true q]
    refine zs rfl rfl rfl ?_
    refine zs rfl rfl rfl ?_
    refine zs rfl rfl rfl ?_
    refine zs rfl rfl rfl ?_
    refine zs rfl rfl rfl ?_
    refine zs rfl rfl rfl ?_
    refine zs rfl rfl rfl ?_
    refine zs rfl rfl rfl ?_
    refine zcl rfl rfl (m_puts2 hj12 (ch S j)) ?_
    refine zs rfl rfl rfl ?_
    exact zret rfl rfl ⟨rfl, rfl, hf3, hr3⟩
theorem m_mayHang (hr : Rw M 45 S) (hB : Bas S n) {j i : Nat} (hi : i < 106) (s : Int32) (hs : s = nI j) : zE1 X 171 [.ref 44, .int s, .int (nI i)] M N (some (.int (bI (mh S n j i)))) M N := by
  subst hs
  refine zE1i [(0, .ref 44), (1, .int (nI j)), (2, .int (nI i))] rfl ?_
  have hle := hB.le
  have hn0 := hr.n0 hB
  unfold mh
  by_cases h100 : 100 ≤ i
  · rw [show Nat.ble 100 i = true from Nat.ble_eq.mpr h100]
    refine zs rfl rfl rfl ?_
    refine zs rfl rfl rfl ?_
    refine zbf (nI_nlt (b := 100) h100 (by omega)) rfl rfl rfl ?_
    refine zs rfl rfl rfl ?_
    exact zret rfl rfl ⟨rfl, rfl, rfl⟩
  · rw [show Nat.ble 100 i = false from by
      cases q : Nat.ble 100 i
      · rfl
      · exact absurd (Nat.ble_eq.mp q) h100]
    refine zs rfl rfl rfl ?_
    refine zs rfl rfl rfl ?_
    refine zbt (nI_lt (b := 100) (by omega) (by omega)) rfl rfl rfl ?_
    refine zs rfl rfl rfl ?_
    refine zs rfl rfl rfl ?_
    refine zs rfl rfl rfl ?_
    refine zs rfl rfl rfl ?_
    refine zal (i := 0) rfl rfl rfl (by decide) (by decide) ?_
    try refine zto rfl hn0 ?_
    by_cases hin : i < n
    · rw [decide_eq_true hin]
      refine zbf (nI_ge hin (by omega)) rfl rfl rfl ?_
      refine zs rfl rfl rfl ?_
      refine zs rfl rfl rfl ?_
      refine zs rfl rfl rfl ?_
      refine zcl rfl rfl (m_isInString hr hle hB.l hB.lv (Th_s hin) (nI j)) ?_
      cases lo S n (nI j) 12 (nI i)
      · refine zs rfl rfl rfl ?_
        refine zs rfl rfl rfl ?_
        refine zs rfl rfl rfl ?_
        refine zcl rfl rfl (m_topOf hr hle hB.l hB.lv (Th_s hin)) ?_
        rcases rt_end hle hB.l hB.lv (Th_s hin) with e | ⟨a, ha, e⟩
        · rw [e, decide_eq_false (not_not_intro rfl)]
          refine zs rfl rfl rfl ?_
          refine zs rfl rfl rfl ?_
          exact zret rfl rfl ⟨rfl, rfl, rfl⟩
        · rw [e, decide_eq_true (nI_m1 (by omega))]
          refine zbf (nI_pos (by omega)) rfl rfl rfl ?_
          refine zs rfl rfl rfl ?_
          refine zs rfl rfl rfl ?_
          exact zret rfl rfl ⟨rfl, rfl, rfl⟩
      · refine zs rfl rfl rfl ?_
        refine zs rfl rfl rfl ?_
        exact zret rfl rfl ⟨rfl, rfl, rfl⟩
    · rw [decide_eq_false hin]
      refine zbt (nI_le (by omega) (by omega)) rfl rfl rfl ?_
      refine zs rfl rfl rfl ?_
      exact zret rfl rfl ⟨rfl, rfl, rfl⟩
end MOD3
