/-! The class's calls that try. -/
theorem nI_half {a : Nat} (h : a < 2 ^ 31) : nI a / 2 = nI (a / 2) := by
  apply Int32.toInt_inj.mp
  rw [Int32.toInt_div, nI_toInt h, t_2, nI_toInt (by omega)]
  rw [show ((a : Int).tdiv 2) = ((a / 2 : Nat) : Int) by rw [Int.tdiv_eq_ediv_of_nonneg (by omega)]; omega]
  rw [Int.bmod_eq_of_le (by omega) (by omega)]
def phn (S : zS) (n : Nat) (w : Int32) : Nat → zS
  | 0 => S
  | k + 1 => phr (phn S n w k) n w
theorem phr_s0 (S : zS) (n : Nat) (w : Int32) : phr S n w 0 = S 0 := by
  unfold phr
  rw [s0_up1, wrs_lo _ _ _ (by decide), stl_lo _ _ _ (by decide), s0_up2]
theorem wrs_kd (T S : zS) : ∀ i k, kd (wrs T S i) k = kd S k
  | 0, _ => rfl
  | i + 1, k => by
    unfold wrs
    by_cases h : lk (wrs T S i) i ≠ -1 ∧ brk (wrs T S i) i / 2 < T i
    · rw [if_pos h, kd_upw]; exact wrs_kd T S i k
    · rw [if_neg h]; exact wrs_kd T S i k
theorem phr_kd (S : zS) (n : Nat) (w : Int32) (k : Nat) : kd (phr S n w) k = kd S k := by
  unfold phr
  rw [kd_up1, wrs_kd, els_kd (dn_stl _ _ _).1, kd_up2]
theorem phn_s0 (S : zS) (n : Nat) (w : Int32) : ∀ i, phn S n w i 0 = S 0
  | 0 => rfl
  | i + 1 => (phr_s0 _ n w).trans (phn_s0 S n w i)
theorem phn_kd (S : zS) (n : Nat) (w : Int32) (k : Nat) : ∀ i, kd (phn S n w i) k = kd S k
  | 0 => rfl
  | i + 1 => (phr_kd _ n w k).trans (phn_kd S n w k i)
theorem and_not {n : Nat} (h : n ≤ 12) (p q : Nat → Bool) : nI (bset n p) &&& (nI (bset n q) ^^^ (-1)) = nI (bset n (fun k => p k && !q k)) := by
  apply Int32.toBitVec_inj.mp
  rw [Int32.toBitVec_and, Int32.toBitVec_xor]
  show BitVec.ofNat 32 _ &&& (BitVec.ofNat 32 _ ^^^ BitVec.ofInt 32 (-1)) = BitVec.ofNat 32 _
  apply BitVec.eq_of_getLsbD_eq
  intro i hi
  rw [BitVec.getLsbD_and, BitVec.getLsbD_xor, BitVec.getLsbD_ofNat, BitVec.getLsbD_ofNat, BitVec.getLsbD_ofNat, bset_bit, bset_bit, bset_bit]
  have e : (BitVec.ofInt 32 (-1)).getLsbD i = true := by
    have : ∀ i, i < 32 → (BitVec.ofInt 32 (-1)).getLsbD i = true := by decide
    exact this i hi
  rw [e, decide_eq_true hi]
  cases decide (i < n) <;> cases p i <;> cases q i <;> rfl
theorem many_bset {n : Nat} (h : n ≤ 12) (p : Nat → Bool) : many (bset n p) = cnt n p := by
  have key : ∀ d, cnt (n + d) (fun k => (bset n p).testBit k) = cnt n p := by
    intro d
    induction d with
    | zero => exact cnt_congr (fun k hk => by rw [bset_bit, decide_eq_true (show k < n from hk)]; rfl)
    | succ d ih => 
      have : (fun k => (bset n p).testBit k) (n + d) = false := by
        show (bset n p).testBit (n + d) = false
        rw [bset_bit, decide_eq_false (by omega)]; rfl
      rw [show n + (d + 1) = (n + d) + 1 from rfl, cnt_f this]; exact ih
  have := key (12 - n)
  rw [show n + (12 - n) = 12 by omega] at this
  exact this
theorem cnt_sub : ∀ {n : Nat} {p q : Nat → Bool}, (∀ k, k < n → q k = true → p k = true) → cnt n (fun k => p k && !q k) + cnt n q = cnt n p
  | 0, _, _, _ => rfl
  | n + 1, p, q, h => by
    have ih := cnt_sub (n := n) (p := p) (q := q) (fun k hk => h k (by omega))
    cases hp : p n
    · have hq : q n = false := by
        cases hq : q n
        · rfl
        · rw [h n (by omega) hq] at hp; cases hp
      rw [cnt_f hp, cnt_f hq, cnt_f (by rw [hp]; rfl)]; exact ih
    · cases hq : q n
      · rw [cnt_t hp, cnt_f hq, cnt_t (by rw [hp, hq]; rfl)]; omega
      · rw [cnt_t hp, cnt_t hq, cnt_f (by rw [hp, hq]; rfl)]; omega
theorem nI_sub {a b : Nat} : nI (a + b) - nI b = nI a := by
  rw [← nI_add]
  apply Int32.toBitVec_inj.mp
  rw [Int32.toBitVec_sub, Int32.toBitVec_add, BitVec.add_sub_cancel]
/-- adrift stays adrift over the hours -/
theorem wrs_lk (T S : zS) : ∀ i k, lk (wrs T S i) k = lk S k
  | 0, _ => rfl
  | i + 1, k => by
    unfold wrs
    by_cases h : lk (wrs T S i) i ≠ -1 ∧ brk (wrs T S i) i / 2 < T i
    · rw [if_pos h, lk_upw]; exact wrs_lk T S i k
    · rw [if_neg h]; exact wrs_lk T S i k
theorem phr_lk (S : zS) (n : Nat) (w : Int32) (k : Nat) : lk (phr S n w) k = lk (stl (up2 S w) n w) k := by
  unfold phr
  rw [lk_up1, wrs_lk]
theorem phr_m1 {S : zS} {n : Nat} {w : Int32} {k : Nat} (h : lk S k = -1) : lk (phr S n w) k = -1 := by
  rw [phr_lk]
  exact (dn_stl (up2 S w) n w).m1 (by rw [lk_up2]; exact h)
theorem phn_m1 {S : zS} {n : Nat} {w : Int32} {k : Nat} (h : lk S k = -1) : ∀ i, lk (phn S n w i) k = -1
  | 0 => h
  | i + 1 => phr_m1 (phn_m1 h i)
def r_hours (S F : zS) (n : Nat) (m w : Int32) : zR :=
  if 1 ≤ m ∧ m ≤ 100 then (if 0 ≤ w ∧ w ≤ 12 then (if S 1 + m ≤ 9999 then (nI (many (hg (phn S n w m.toNatClampNeg) n (-1))) - nI (many (hg S n (-1))), phn S n w m.toNatClampNeg, F) else rf S F 4) else rf S F 0) else rf S F 0
/-- the hour of the first loss, the road behind it -/
def flh (n : Nat) (w : Int32) (B : Nat) : Nat → Nat → zS → Int32
  | 0, _, _ => 0
  | d + 1, k, T => if hg (phr T n w) n (-1) = B then flh n w B d (k + 1) (phr T n w) else nI k
def fls (n : Nat) (w : Int32) (B : Nat) : Nat → zS → zS
  | 0, T => T
  | d + 1, T => if hg (phr T n w) n (-1) = B then fls n w B d (phr T n w) else phr T n w
def r_when (S F : zS) (n : Nat) (w : Int32) : zR :=
  if 0 ≤ w ∧ w ≤ 12 then (if S 1 ≤ 9899 then (if flh n w (hg S n (-1)) 100 1 S = 0 then rf S F 3 else (flh n w (hg S n (-1)) 100 1 S, S, F)) else rf S F 4) else rf S F 0
def nly (S T : zS) (k : Nat) : Bool := decide (lk T k = -1) && decide (lk S k ≠ -1)
def r_fst (S F : zS) (x : Int32) : zR := if x = -1 then rf S F 3 else (x, S, F)
def r_who (S F : zS) (n : Nat) (w : Int32) : zR :=
  if 0 ≤ w ∧ w ≤ 12 then (if S 1 ≤ 9899 then r_fst S F (fst1 (nly S (fls n w (hg S n (-1)) 100 S)) n 0) else rf S F 4) else rf S F 0
section CPUB3
variable {X : Nat × (Nat → Int32)} {M M2 : zM} {N : zN} {S F T : zS} {n : Nat}
theorem c_passHours (hC : cC M S F) (hO : Ok S n) (m w : Int32) : zV X 103 [.ref 0, .int m, .int w] M N (cP M N (r_hours S F n m w)) := by
  refine zVi [(0, .ref 0), (1, .int m), (2, .int w)] rfl ?_
  unfold r_hours
  have hn0 := hC.n0 hO
  have hv := hC.1
  have hle := hO.le
  refine zs rfl rfl rfl ?_
  refine zs rfl rfl rfl ?_
  refine zs rfl rfl rfl ?_
  refine zcl rfl rfl (c_isIn m 1 100) ?_
  by_cases h : 1 ≤ m ∧ m ≤ 100
  · rw [decide_eq_true h, if_pos h]
    obtain ⟨a, ha, rfl⟩ := nI_of2 (n := 100) t_100 (i_nlt.mpr (by have := i_le.mp h.1; rw [i_le, t_0]; rw [t_1] at this; omega)) h.2
    rw [nI_clamp (by omega)]
    refine zs rfl rfl rfl ?_
    refine zs rfl rfl rfl ?_
    refine zcl rfl rfl (c_isWind w) ?_
    by_cases h2 : 0 ≤ w ∧ w ≤ 12
    · rw [decide_eq_true h2, if_pos h2]
      refine zs rfl rfl rfl ?_
      refine zs rfl rfl rfl ?_
      refine zs rfl rfl rfl ?_
      refine zs rfl rfl rfl ?_
      refine zto rfl hv.s1 ?_
      refine zs rfl rfl rfl ?_
      refine zs rfl rfl rfl ?_
      refine zs rfl rfl rfl ?_
      refine zbr rfl rfl rfl (fun hc => ?_) (fun hc => ?_)
      · rw [if_pos hc]
        refine zs rfl rfl rfl ?_
        refine zs rfl rfl rfl ?_
        refine zs rfl rfl rfl ?_
        refine zcl rfl rfl (c_hangersOf_h hn0 hle hv.fl (-1)) ?_
        refine zs rfl rfl rfl ?_
        refine zs rfl rfl rfl ?_
        refine zs rfl rfl rfl ?_
        have loop : ∀ d i M1, i + d = a → Fr [1, 7, 8, 9] M M1 → Vw M1 1 (phn S n w i) → zW X 103 58 [(0, .ref 0), (1, .int (nI a)), (2, .int w), (3, .int (nI (hg S n (-1)))), (4, .int (nI i))] [] M1 N (cP M N (nI (many (hg (phn S n w a) n (-1))) - nI (many (hg S n (-1))), phn S n w a, F)) := by
          intro d
          induction d with
          | zero =>
            intro i M1 hi hf hv1
            obtain rfl : i = a := by omega
            refine zs rfl rfl rfl ?_
            refine zs rfl rfl rfl ?_
            refine zbt (nI_le (by omega) (by omega)) rfl rfl rfl ?_
            refine zs rfl rfl rfl ?_
            refine zs rfl rfl rfl ?_
            refine zs rfl rfl rfl ?_
            refine zcl rfl rfl (c_hangersOf_h (hv1.s0.trans ((phn_s0 S n w i).trans hO.s0)) hle hv1.fl (-1)) ?_
            refine zs rfl rfl rfl ?_
            refine zs rfl rfl rfl ?_
            refine zs rfl rfl rfl ?_
            refine zs rfl rfl rfl ?_
            refine zto rfl (and_not hle _ _) ?_
            refine zcl rfl rfl (c_bitCount (Nat.lt_of_lt_of_le (bset_lt _ _) (Nat.pow_le_pow_right (by decide) hle : 2 ^ n ≤ 2 ^ 12))) ?_
            have e : nI (many (bset n (fun k => decide (lk (phn S n w i) k = -1) && !decide (lk S k = -1)))) = nI (many (hg (phn S n w i) n (-1))) - nI (many (hg S n (-1))) := by
              unfold hg
              rw [many_bset hle, many_bset hle, many_bset hle]
              rw [← cnt_sub (p := fun k => decide (lk (phn S n w i) k = -1)) (q := fun k => decide (lk S k = -1)) (fun k _ hk => decide_eq_true (phn_m1 (of_decide_eq_true hk) i)), nI_sub]
            refine zto rfl e ?_
            exact zret rfl rfl (cP_ok (S' := phn S n w i) (F := F) rfl (hf.mono (by decide)) (⟨hv1, hC.hF hf (by decide)⟩))
          | succ d ih =>
            intro i M1 hi hf hv1
            refine zs rfl rfl rfl ?_
            refine zs rfl rfl rfl ?_
            refine zbf (nI_ge (by omega) (by omega)) rfl rfl rfl ?_
            refine zs rfl rfl rfl ?_
            refine zs rfl rfl rfl ?_
            refine zs rfl rfl rfl ?_
            refine zclQ rfl rfl (c_passHour_h hv1 ((phn_s0 S n w i).trans hO.s0) hle (hO.k.of (phn_kd S n w · i)) w) ?_
            rintro v2 M2 N2 ⟨rfl, rfl, hf2, hv2⟩
            refine zinc rfl rfl rfl ?_
            refine zs rfl rfl rfl ?_
            exact ih (i + 1) M2 (by omega) (hf.trans hf2) hv2
        exact loop a 0 M (Nat.zero_add a) Fr.rfl' hv
      · rw [if_neg hc]
        refine zs rfl rfl rfl ?_
        refine zs rfl rfl rfl ?_
        refine zcl rfl rfl (c_refuse_4) ?_
        exact zret rfl rfl (cP_ref (S := S) (F := F) (c := 4) rfl (Fr.rfl') (hC))
    · rw [decide_eq_false h2, if_neg h2]
      refine zs rfl rfl rfl ?_
      refine zs rfl rfl rfl ?_
      refine zs rfl rfl rfl ?_
      refine zcl rfl rfl (c_refuse_0) ?_
      exact zret rfl rfl (cP_ref (S := S) (F := F) (c := 0) rfl (Fr.rfl') (hC))
  · rw [decide_eq_false h, if_neg h]
    refine zs rfl rfl rfl ?_
    refine zs rfl rfl rfl ?_
    refine zs rfl rfl rfl ?_
    refine zcl rfl rfl (c_refuse_0) ?_
    exact zret rfl rfl (cP_ref (S := S) (F := F) (c := 0) rfl (Fr.rfl') (hC))
theorem cP_tr {r : zR} {v : Option Value} {M' : zM} {N' : zN} (h : cP M N r v M' N') : cP M N r v M' N' := h
theorem c_hours (hC : cC M S F) (hO : Ok S n) (m w : Int32) : zV X 66 [.ref 0, .int m, .int w] M N (cP M N (r_hours S F n m w)) := by
  refine zVi [(0, .ref 0), (1, .int m), (2, .int w)] rfl ?_
  refine zs rfl rfl rfl ?_
  refine zs rfl rfl rfl ?_
  refine zs rfl rfl rfl ?_
  refine zclQ rfl rfl (c_passHours hC hO m w) ?_
  rintro v M' N' ⟨rfl, rfl, h⟩
  exact zret rfl rfl ⟨rfl, rfl, h⟩
theorem c_hour (hC : cC M S F) (hO : Ok S n) (w : Int32) : zV X 65 [.ref 0, .int w] M N (cP M N (r_hours S F n 1 w)) := by
  refine zVi [(0, .ref 0), (1, .int w)] rfl ?_
  refine zs rfl rfl rfl ?_
  refine zs rfl rfl rfl ?_
  refine zs rfl rfl rfl ?_
  refine zclQ rfl rfl (c_passHours hC hO 1 w) ?_
  rintro v M' N' ⟨rfl, rfl, h⟩
  exact zret rfl rfl ⟨rfl, rfl, h⟩
theorem c_whyNo (hC : cC M S F) (w : Int32) : zE1 X 104 [.ref 0, .int w] M N (some (.int (if 0 ≤ w ∧ w ≤ 12 then (if S 1 ≤ 9899 then 0 else -1000000005) else -1000000001))) M N := by
  refine zE1i [(0, .ref 0), (1, .int w)] rfl ?_
  have hv := hC.1
  refine zs rfl rfl rfl ?_
  refine zcl rfl rfl (c_isWind w) ?_
  by_cases h2 : 0 ≤ w ∧ w ≤ 12
  · rw [decide_eq_true h2, if_pos h2]
    refine zs rfl rfl rfl ?_
    refine zs rfl rfl rfl ?_
    refine zs rfl rfl rfl ?_
    refine zs rfl rfl rfl ?_
    refine zto rfl hv.s1 ?_
    refine zs rfl rfl rfl ?_
    refine zbr rfl rfl rfl (fun hc => ?_) (fun hc => ?_)
    · rw [if_pos hc]
      refine zs rfl rfl rfl ?_
      exact zret rfl rfl ⟨rfl, rfl, rfl⟩
    · rw [if_neg hc]
      refine zs rfl rfl rfl ?_
      refine zs rfl rfl rfl ?_
      exact zret rfl rfl ⟨rfl, rfl, rfl⟩
  · rw [decide_eq_false h2, if_neg h2]
    refine zs rfl rfl rfl ?_
    refine zs rfl rfl rfl ?_
    exact zret rfl rfl ⟨rfl, rfl, rfl⟩
theorem c_firstLoss (hC : cC M S F) (hO : Ok S n) (w : Int32) : zV X 105 [.ref 0, .int w] M N (fun v M' N' => v = some (.int (flh n w (hg S n (-1)) 100 1 S)) ∧ N' = N ∧ Fr sL M M' ∧ Vw M' 19 (fls n w (hg S n (-1)) 100 S)) := by
  refine zVi [(0, .ref 0), (1, .int w)] rfl ?_
  have hle := hO.le
  refine zs rfl rfl rfl ?_
  refine zs rfl rfl rfl ?_
  refine zs rfl rfl rfl ?_
  refine zs rfl rfl rfl ?_
  refine zclQ rfl rfl (c_take_th hC.1) ?_
  rintro v0 M2 N2 ⟨rfl, rfl, hf2, hv2⟩
  have hf2' : Fr sL M M2 := hf2.mono (by decide)
  have hC2 := hC.sc hf2'
  refine zs rfl rfl rfl ?_
  refine zs rfl rfl rfl ?_
  refine zs rfl rfl rfl ?_
  refine zcl rfl rfl (c_hangersOf_h (hC2.n0 hO) hle hC2.1.fl (-1)) ?_
  refine zs rfl rfl rfl ?_
  refine zs rfl rfl rfl ?_
  refine zs rfl rfl rfl ?_
  have loop : ∀ d i M1 T, i + d = 101 → Fr sL M M1 → Vw M1 19 T → T 0 = nI n → Kok T n → zW X 105 22 [(0, .ref 0), (1, .int w), (2, .int (nI (hg S n (-1)))), (3, .int (nI i))] [] M1 N2 (fun v M' N' => v = some (.int (flh n w (hg S n (-1)) d i T)) ∧ N' = N2 ∧ Fr sL M M' ∧ Vw M' 19 (fls n w (hg S n (-1)) d T)) := by
    intro d
    induction d with
    | zero =>
      intro i M1 T hi hf hv1 _ _
      obtain rfl : i = 101 := by omega
      refine zs rfl rfl rfl ?_
      refine zs rfl rfl rfl ?_
      first | refine zs rfl rfl rfl ?_ | refine zbt (nI_lt (a := 100) (by omega) (by omega)) rfl rfl rfl ?_
      refine zs rfl rfl rfl ?_
      exact zret rfl rfl ⟨rfl, rfl, hf, hv1⟩
    | succ d ih =>
      intro i M1 T hi hf hv1 hn1 hk1
      refine zs rfl rfl rfl ?_
      refine zs rfl rfl rfl ?_
      refine zbf (nI_nlt (a := 100) (by omega) (by omega)) rfl rfl rfl ?_
      refine zs rfl rfl rfl ?_
      refine zs rfl rfl rfl ?_
      refine zs rfl rfl rfl ?_
      refine zclQ rfl rfl (c_passHour_t hv1 hn1 hle hk1 w) ?_
      rintro v3 M3 N3 ⟨rfl, rfl, hf3, hv3⟩
      have hf' : Fr sL M M3 := hf.trans (hf3.mono (by decide))
      refine zs rfl rfl rfl ?_
      refine zs rfl rfl rfl ?_
      refine zs rfl rfl rfl ?_
      refine zcl rfl rfl (c_hangersOf_t (hv3.s0.trans ((phr_s0 T n w).trans hn1)) hle hv3.fl (-1)) ?_
      unfold flh fls
      refine zs rfl rfl rfl ?_
      refine zbr rfl rfl rfl (fun hc => ?_) (fun hc => ?_)
      · have e := (nI_eq (by have := hg_lt (S := phr T n w) hle (-1); omega) (by have := hg_lt (S := S) hle (-1); omega)).mp hc
        rw [if_pos e, if_pos e]
        refine zinc rfl rfl rfl ?_
        refine zs rfl rfl rfl ?_
        exact ih (i + 1) M3 _ (by omega) hf' hv3 ((phr_s0 T n w).trans hn1) (hk1.of (phr_kd T n w))
      · have e : ¬ hg (phr T n w) n (-1) = hg S n (-1) := fun q => hc (by rw [q])
        rw [if_neg e, if_neg e]
        refine zs rfl rfl rfl ?_
        exact zret rfl rfl ⟨rfl, rfl, hf', hv3⟩
  exact loop 100 1 M2 S rfl hf2' hv2 hO.s0 hO.k
theorem c_when (hC : cC M S F) (hO : Ok S n) (w : Int32) : zV X 72 [.ref 0, .int w] M N (cP M N (r_when S F n w)) := by
  refine zVi [(0, .ref 0), (1, .int w)] rfl ?_
  unfold r_when
  refine zs rfl rfl rfl ?_
  refine zs rfl rfl rfl ?_
  refine zcl rfl rfl (c_whyNo hC w) ?_
  by_cases h2 : 0 ≤ w ∧ w ≤ 12
  · rw [if_pos h2, if_pos h2]
    by_cases h3 : S 1 ≤ 9899
    · rw [if_pos h3, if_pos h3]
      refine zs rfl rfl rfl ?_
      refine zs rfl rfl rfl ?_
      refine zs rfl rfl rfl ?_
      refine zs rfl rfl rfl ?_
      refine zs rfl rfl rfl ?_
      refine zclQ rfl rfl (c_firstLoss hC hO w) ?_
      rintro v3 M3 N3 ⟨rfl, rfl, hf3, hv3⟩
      refine zs rfl rfl rfl ?_
      refine zs rfl rfl rfl ?_
      refine zbr rfl rfl rfl (fun hc => ?_) (fun hc => ?_)
      · rw [if_neg hc]
        refine zs rfl rfl rfl ?_
        exact zret rfl rfl (cP_ok (S' := S) (F := F) rfl (frs hf3) (hC.sc hf3))
      · rw [if_pos (Decidable.not_not.mp hc)]
        refine zs rfl rfl rfl ?_
        refine zs rfl rfl rfl ?_
        refine zcl rfl rfl (c_refuse_3) ?_
        refine zs rfl rfl rfl ?_
        exact zret rfl rfl (cP_ref (S := S) (F := F) (c := 3) rfl (frs hf3) (hC.sc hf3))
    · rw [if_neg h3, if_neg h3]
      refine zs rfl rfl rfl ?_
      refine zs rfl rfl rfl ?_
      refine zs rfl rfl rfl ?_
      refine zs rfl rfl rfl ?_
      refine zs rfl rfl rfl ?_
      refine zcl rfl rfl (c_refuse_4) ?_
      exact zret rfl rfl (cP_ref (S := S) (F := F) (c := 4) rfl (Fr.rfl') (hC))
  · rw [if_neg h2, if_neg h2]
    refine zs rfl rfl rfl ?_
    refine zs rfl rfl rfl ?_
    refine zs rfl rfl rfl ?_
    refine zs rfl rfl rfl ?_
    refine zs rfl rfl rfl ?_
    refine zcl rfl rfl (c_refuse_0) ?_
    exact zret rfl rfl (cP_ref (S := S) (F := F) (c := 0) rfl (Fr.rfl') (hC))
theorem c_who (hC : cC M S F) (hO : Ok S n) (w : Int32) : zV X 73 [.ref 0, .int w] M N (cP M N (r_who S F n w)) := by
  refine zVi [(0, .ref 0), (1, .int w)] rfl ?_
  unfold r_who
  have hle := hO.le
  refine zs rfl rfl rfl ?_
  refine zs rfl rfl rfl ?_
  refine zcl rfl rfl (c_whyNo hC w) ?_
  by_cases h2 : 0 ≤ w ∧ w ≤ 12
  · rw [if_pos h2, if_pos h2]
    by_cases h3 : S 1 ≤ 9899
    · rw [if_pos h3, if_pos h3]
      refine zs rfl rfl rfl ?_
      refine zs rfl rfl rfl ?_
      refine zs rfl rfl rfl ?_
      refine zs rfl rfl rfl ?_
      refine zs rfl rfl rfl ?_
      refine zclQ rfl rfl (c_firstLoss hC hO w) ?_
      rintro v3 M3 N3 ⟨rfl, rfl, hf3, hv3⟩
      have hC3 := hC.sc hf3
      have hv1 := hC3.1
      have hn0 := hC3.n0 hO
      refine zs rfl rfl rfl ?_
      refine zs rfl rfl rfl ?_
      refine zs rfl rfl rfl ?_
      have loop : ∀ d i, i + d = n → zW X 73 24 [(0, .ref 0), (1, .int w), (2, .int 0), (3, .int (nI i))] [] M3 N3 (cP M N3 (r_fst S F (fst1 (nly S (fls n w (hg S n (-1)) 100 S)) d i))) := by
        intro d
        induction d with
        | zero =>
          intro i hi
          obtain rfl : i = n := by omega
          refine zs rfl rfl rfl ?_
          refine zs rfl rfl rfl ?_
          refine zs rfl rfl rfl ?_
          refine zs rfl rfl rfl ?_
          try refine zto rfl hn0 ?_
          refine zbt (nI_le (by omega) (by omega)) rfl rfl rfl ?_
          refine zs rfl rfl rfl ?_
          refine zs rfl rfl rfl ?_
          refine zcl rfl rfl (c_refuse_3) ?_
          exact zret rfl rfl (cP_ref (S := S) (F := F) (c := 3) rfl (frs hf3) (hC3))
        | succ d ih =>
          intro i hi
          have ih' := ih (i + 1) (by omega)
          have ef : nly S (fls n w (hg S n (-1)) 100 S) i = false → fst1 (nly S (fls n w (hg S n (-1)) 100 S)) (d + 1) i = fst1 (nly S (fls n w (hg S n (-1)) 100 S)) d (i + 1) := fun e => by
            show cond _ _ _ = _
            rw [e]; rfl
          refine zs rfl rfl rfl ?_
          refine zs rfl rfl rfl ?_
          refine zs rfl rfl rfl ?_
          refine zs rfl rfl rfl ?_
          try refine zto rfl hn0 ?_
          refine zbf (nI_ge (by omega) (by omega)) rfl rfl rfl ?_
          refine zs rfl rfl rfl ?_
          refine zs rfl rfl rfl ?_
          refine zs rfl rfl rfl ?_
          refine zs rfl rfl rfl ?_
          refine zal rfl rfl rfl (by omega) (by decide) ?_
          try refine zto rfl (Vw.fl (by assumption) _ (by omega)) ?_
          refine zs rfl rfl rfl ?_
          refine zbr rfl rfl rfl (fun hc => ?_) (fun hc => ?_)
          · rw [ef (by unfold nly; rw [decide_eq_false hc]; rfl)]
            refine zinc rfl rfl rfl ?_
            refine zs rfl rfl rfl ?_
            exact ih'
          · refine zs rfl rfl rfl ?_
            refine zs rfl rfl rfl ?_
            refine zs rfl rfl rfl ?_
            refine zs rfl rfl rfl ?_
            refine zal rfl rfl rfl (by omega) (by decide) ?_
            try refine zto rfl (Vw.fl (by assumption) _ (by omega)) ?_
            refine zs rfl rfl rfl ?_
            refine zbr rfl rfl rfl (fun hb => ?_) (fun hb => ?_)
            · rw [ef (by unfold nly; rw [decide_eq_false (not_not_intro hb), Bool.and_false])]
              refine zinc rfl rfl rfl ?_
              refine zs rfl rfl rfl ?_
              exact ih'
            · have e : fst1 (nly S (fls n w (hg S n (-1)) 100 S)) (d + 1) i = nI i := by
                show cond _ _ _ = _
                rw [show nly S (fls n w (hg S n (-1)) 100 S) i = true by unfold nly; rw [decide_eq_true (Decidable.not_not.mp hc), decide_eq_true hb]; rfl]; rfl
              rw [e]
              have e2 : r_fst S F (nI i) = (nI i, S, F) := by
                unfold r_fst
                rw [if_neg]
                intro q
                have := congrArg Int32.toInt q
                rw [nI_toInt (by omega), t_m1] at this
                omega
              rw [e2]
              refine zs rfl rfl rfl ?_
              exact zret rfl rfl (cP_ok (S' := S) (F := F) rfl (frs hf3) (hC3))
      exact loop n 0 (Nat.zero_add n)
    · rw [if_neg h3, if_neg h3]
      refine zs rfl rfl rfl ?_
      refine zs rfl rfl rfl ?_
      refine zs rfl rfl rfl ?_
      refine zs rfl rfl rfl ?_
      refine zs rfl rfl rfl ?_
      refine zcl rfl rfl (c_refuse_4) ?_
      exact zret rfl rfl (cP_ref (S := S) (F := F) (c := 4) rfl (Fr.rfl') (hC))
  · rw [if_neg h2, if_neg h2]
    refine zs rfl rfl rfl ?_
    refine zs rfl rfl rfl ?_
    refine zs rfl rfl rfl ?_
    refine zs rfl rfl rfl ?_
    refine zs rfl rfl rfl ?_
    refine zcl rfl rfl (c_refuse_0) ?_
    exact zret rfl rfl (cP_ref (S := S) (F := F) (c := 0) rfl (Fr.rfl') (hC))
end CPUB3
