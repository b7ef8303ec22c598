/-! Tokens, and the class's tape. -/
def isL (tb : zS) (p : Nat) : Bool := decide (97 ≤ tb p ∧ tb p ≤ 122)
def isD (tb : zS) (p : Nat) : Bool := decide (48 ≤ tb p ∧ tb p ≤ 57)
def isB (tb : zS) (p : Nat) : Bool := decide (tb p = 32)
/-- a number as the class reads it: d digits from p on -/
def cnv (tb : zS) : Nat → Nat → Int32 → Int32
  | 0, _, a => a
  | d + 1, p, a => cnv tb d (p + 1) (if a * 10 + tb p - 48 < 10000 then a * 10 + tb p - 48 else 10000)
/-- the bytes from p + k on are those of L -/
def sp (tb : zS) (p : Nat) (L : List Int32) : Nat → Nat → Bool
  | 0, _ => true
  | d + 1, k => cond (decide (tb (p + k) = L.getD k 0)) (sp tb p L d (k + 1)) false
def spl (tb : zS) (p e i : Nat) : Bool := decide (e - p = (z_wb i).length) && sp tb p (z_wb i) (z_wb i).length 0
def wdo (tb : zS) (p e : Nat) : Int32 := fst1 (spl tb p e) 14 0
section LEX
variable (tb : zS) (tl : Nat)
def sk (p : Nat) : Nat := gtw (isB tb) (tl - p) p
def eL (p : Nat) : Nat := gtw (isL tb) (tl - p) p
def eD (p : Nat) : Nat := gtw (isD tb) (tl - p) p
def tk (p : Nat) : Nat := if p < tl then (if isL tb p = true then 1 else if isD tb p = true then 2 else if tb p = 59 then 3 else 4) else 0
def en (p : Nat) : Nat := if p < tl then (if isL tb p = true then eL tb tl p else if isD tb p = true then eD tb tl p else p + 1) else p
def cv (p : Nat) : Int32 := if p < tl then (if isL tb p = true then wdo tb p (eL tb tl p) else if isD tb p = true then cnv tb (eD tb tl p - p) p 0 else 0) else 0
def nx (p : Nat) : Nat := sk tb tl (en tb tl p)
def ps : Nat → Nat
  | 0 => sk tb tl 0
  | i + 1 => nx tb tl (ps i)
end LEX
theorem gtw_ge (p : Nat → Bool) (d w : Nat) : w ≤ gtw p d w ∧ gtw p d w ≤ w + d := ⟨(gtw_le p d w).2, (gtw_le p d w).1⟩
theorem gtw_t {p : Nat → Bool} {d w : Nat} (h : p w = true) : gtw p (d + 1) w = gtw p d (w + 1) := by
  show cond (p w) _ _ = _
  rw [h]; rfl
theorem gtw_f {p : Nat → Bool} {d w : Nat} (h : p w = false) : gtw p (d + 1) w = w := by
  show cond (p w) _ _ = _
  rw [h]; rfl
section LEX2
variable {tb : zS} {tl : Nat}
theorem sk_le {p : Nat} (h : p ≤ tl) : p ≤ sk tb tl p ∧ sk tb tl p ≤ tl := by
  have := gtw_ge (isB tb) (tl - p) p
  unfold sk; omega
theorem sk_b {p : Nat} (h : p < tl) (hb : isB tb p = true) : sk tb tl p = sk tb tl (p + 1) := by
  unfold sk
  rw [show tl - p = (tl - (p + 1)) + 1 by omega, gtw_t hb]
theorem sk_n {p : Nat} (hb : isB tb p = false) : sk tb tl p = p := by
  unfold sk
  cases h : tl - p with
  | zero => rfl
  | succ d => rw [gtw_f hb]
theorem sk_end {p : Nat} (h : tl ≤ p) : sk tb tl p = p := by
  unfold sk
  rw [show tl - p = 0 by omega]; rfl
theorem eL_gt {p : Nat} (h : p < tl) (hl : isL tb p = true) : p < eL tb tl p ∧ eL tb tl p ≤ tl := by
  unfold eL
  rw [show tl - p = (tl - (p + 1)) + 1 by omega, gtw_t hl]
  have := gtw_ge (isL tb) (tl - (p + 1)) (p + 1)
  omega
theorem eD_gt {p : Nat} (h : p < tl) (hl : isD tb p = true) : p < eD tb tl p ∧ eD tb tl p ≤ tl := by
  unfold eD
  rw [show tl - p = (tl - (p + 1)) + 1 by omega, gtw_t hl]
  have := gtw_ge (isD tb) (tl - (p + 1)) (p + 1)
  omega
theorem en_gt {p : Nat} (h : p < tl) : p < en tb tl p ∧ en tb tl p ≤ tl := by
  unfold en
  rw [if_pos h]
  by_cases h1 : isL tb p = true
  · rw [if_pos h1]; exact eL_gt h h1
  · rw [if_neg h1]
    by_cases h2 : isD tb p = true
    · rw [if_pos h2]; exact eD_gt h h2
    · rw [if_neg h2]; omega
theorem en_end {p : Nat} (h : tl ≤ p) : en tb tl p = p := if_neg (by omega)
theorem nx_le {p : Nat} (h : p ≤ tl) : p ≤ nx tb tl p ∧ nx tb tl p ≤ tl := by
  unfold nx
  by_cases q : p < tl
  · have h1 := en_gt (tb := tb) q
    have h2 := sk_le (tb := tb) h1.2
    omega
  · rw [en_end (by omega)]
    exact sk_le h
theorem nx_gt {p : Nat} (h : p < tl) : p < nx tb tl p := by
  unfold nx
  have h1 := en_gt (tb := tb) h
  have h2 := sk_le (tb := tb) h1.2
  omega
theorem nx_end : nx tb tl tl = tl := by
  unfold nx
  rw [en_end (Nat.le_refl _), sk_end (Nat.le_refl _)]
theorem ps_le : ∀ i, ps tb tl i ≤ tl
  | 0 => (sk_le (Nat.zero_le _)).2
  | i + 1 => (nx_le (ps_le i)).2
end LEX2
section TAPE
variable {X : Nat × (Nat → Int32)} {M M2 : zM} {N : zN} {tb : zS} {tl : Nat}
/-- the class's tape -/
def cT (M : zM) (tb : zS) (tl : Nat) : Prop := M 29 1 = nI tl ∧ ∀ i, i < tl → M 30 i = tb i
theorem cT.fr {l : List Nat} (h : cT M tb tl) (hf : Fr l M M2) (h1 : 29 ∉ l) (h2 : 30 ∉ l) : cT M2 tb tl := ⟨by rw [hf 29 h1]; exact h.1, fun i hi => by rw [hf 30 h2]; exact h.2 i hi⟩
theorem c_hasLetter (hT : cT M tb tl) (h120 : tl ≤ 120) {p : Nat} (hp : p < tl) : zE1 X 35 [.ref 29, .int (nI p)] M N (some (.int (bI (isL tb p)))) M N := by
  refine zE1i [(0, .ref 29), (1, .int (nI p))] rfl ?_
  refine zs rfl rfl rfl ?_
  refine zs rfl rfl rfl ?_
  refine zs rfl rfl rfl ?_
  refine zal rfl rfl rfl (by omega) (by decide) ?_
  refine zto rfl (hT.2 p hp) ?_
  refine zs rfl rfl rfl ?_
  refine zs rfl rfl rfl ?_
  refine zcl rfl rfl (c_isIn (tb p) 97 122) ?_
  unfold isL
  cases decide (97 ≤ tb p ∧ tb p ≤ 122)
  · exact zret rfl rfl ⟨rfl, rfl, rfl⟩
  · exact zret rfl rfl ⟨rfl, rfl, rfl⟩
theorem c_hasDigit (hT : cT M tb tl) (h120 : tl ≤ 120) {p : Nat} (hp : p < tl) : zE1 X 36 [.ref 29, .int (nI p)] M N (some (.int (bI (isD tb p)))) M N := by
  refine zE1i [(0, .ref 29), (1, .int (nI p))] rfl ?_
  refine zs rfl rfl rfl ?_
  refine zs rfl rfl rfl ?_
  refine zs rfl rfl rfl ?_
  refine zal rfl rfl rfl (by omega) (by decide) ?_
  refine zto rfl (hT.2 p hp) ?_
  refine zs rfl rfl rfl ?_
  refine zs rfl rfl rfl ?_
  refine zcl rfl rfl (c_isIn (tb p) 48 57) ?_
  unfold isD
  cases decide (48 ≤ tb p ∧ tb p ≤ 57)
  · exact zret rfl rfl ⟨rfl, rfl, rfl⟩
  · exact zret rfl rfl ⟨rfl, rfl, rfl⟩
theorem c_behindLetters (hT : cT M tb tl) (h120 : tl ≤ 120) {p : Nat} (hp : p < tl) : zE1 X 37 [.ref 29, .int (nI p)] M N (some (.int (nI (eL tb tl p)))) M N := by
  refine zE1i [(0, .ref 29), (1, .int (nI p))] rfl ?_
  unfold eL
  refine zs rfl rfl rfl ?_
  refine zs rfl rfl rfl ?_
  have loop : ∀ d i, i + d = tl → zW X 37 2 [(0, .ref 29), (1, .int (nI p)), (2, .int (nI i))] [] M N (fun v1 M1 N1 => v1 = some (.int (nI (gtw (isL tb) d i))) ∧ M1 = M ∧ N1 = N) := by
    intro d
    induction d with
    | zero =>
      intro i hi
      obtain rfl : i = tl := by omega
      refine zs rfl rfl rfl ?_
      refine zs rfl rfl rfl ?_
      refine zs rfl rfl rfl ?_
      refine zto rfl hT.1 ?_
      refine zbt (nI_le (by omega) (by omega)) rfl rfl rfl ?_
      refine zs rfl rfl rfl ?_
      exact zret rfl rfl ⟨rfl, rfl, rfl⟩
    | succ d ih =>
      intro i hi
      refine zs rfl rfl rfl ?_
      refine zs rfl rfl rfl ?_
      refine zs rfl rfl rfl ?_
      refine zto rfl hT.1 ?_
      refine zbf (nI_ge (by omega) (by omega)) rfl rfl rfl ?_
      refine zs rfl rfl rfl ?_
      refine zs rfl rfl rfl ?_
      refine zcl rfl rfl (c_hasLetter hT h120 (show i < tl by omega)) ?_
      cases h : isL tb i with
      | true =>
        rw [gtw_t h]
        refine zs rfl rfl rfl ?_
        refine zinc rfl rfl rfl ?_
        refine zs rfl rfl rfl ?_
        exact ih (i + 1) (by omega)
      | false =>
        rw [gtw_f h]
        refine zs rfl rfl rfl ?_
        refine zs rfl rfl rfl ?_
        exact zret rfl rfl ⟨rfl, rfl, rfl⟩
  exact loop (tl - p) p (by omega)
theorem c_behindDigits (hT : cT M tb tl) (h120 : tl ≤ 120) {p : Nat} (hp : p < tl) : zE1 X 38 [.ref 29, .int (nI p)] M N (some (.int (nI (eD tb tl p)))) M N := by
  refine zE1i [(0, .ref 29), (1, .int (nI p))] rfl ?_
  unfold eD
  refine zs rfl rfl rfl ?_
  refine zs rfl rfl rfl ?_
  have loop : ∀ d i, i + d = tl → zW X 38 2 [(0, .ref 29), (1, .int (nI p)), (2, .int (nI i))] [] M N (fun v1 M1 N1 => v1 = some (.int (nI (gtw (isD tb) d i))) ∧ M1 = M ∧ N1 = N) := by
    intro d
    induction d with
    | zero =>
      intro i hi
      obtain rfl : i = tl := by omega
      refine zs rfl rfl rfl ?_
      refine zs rfl rfl rfl ?_
      refine zs rfl rfl rfl ?_
      refine zto rfl hT.1 ?_
      refine zbt (nI_le (by omega) (by omega)) rfl rfl rfl ?_
      refine zs rfl rfl rfl ?_
      exact zret rfl rfl ⟨rfl, rfl, rfl⟩
    | succ d ih =>
      intro i hi
      refine zs rfl rfl rfl ?_
      refine zs rfl rfl rfl ?_
      refine zs rfl rfl rfl ?_
      refine zto rfl hT.1 ?_
      refine zbf (nI_ge (by omega) (by omega)) rfl rfl rfl ?_
      refine zs rfl rfl rfl ?_
      refine zs rfl rfl rfl ?_
      refine zcl rfl rfl (c_hasDigit hT h120 (show i < tl by omega)) ?_
      cases h : isD tb i with
      | true =>
        rw [gtw_t h]
        refine zs rfl rfl rfl ?_
        refine zinc rfl rfl rfl ?_
        refine zs rfl rfl rfl ?_
        exact ih (i + 1) (by omega)
      | false =>
        rw [gtw_f h]
        refine zs rfl rfl rfl ?_
        refine zs rfl rfl rfl ?_
        exact zret rfl rfl ⟨rfl, rfl, rfl⟩
  exact loop (tl - p) p (by omega)
theorem c_numberOf (hT : cT M tb tl) (h120 : tl ≤ 120) {p e : Nat} (hp : p ≤ e) (he : e ≤ tl) : zE1 X 39 [.ref 29, .int (nI p), .int (nI e)] M N (some (.int (cnv tb (e - p) p 0))) M N := by
  refine zE1i [(0, .ref 29), (1, .int (nI p)), (2, .int (nI e))] rfl ?_
  refine zs rfl rfl rfl ?_
  refine zs rfl rfl rfl ?_
  refine zs rfl rfl rfl ?_
  refine zs rfl rfl rfl ?_
  have loop : ∀ d i a, i + d = e → zW X 39 5 [(0, .ref 29), (1, .int (nI p)), (2, .int (nI e)), (3, .int a), (4, .int (nI i))] [] M N (fun v1 M1 N1 => v1 = some (.int (cnv tb d i a)) ∧ M1 = M ∧ N1 = N) := by
    intro d
    induction d with
    | zero =>
      intro i a hi
      obtain rfl : i = e := by omega
      refine zs rfl rfl rfl ?_
      refine zs rfl rfl rfl ?_
      refine zbt (nI_le (by omega) (by omega)) rfl rfl rfl ?_
      refine zs rfl rfl rfl ?_
      exact zret rfl rfl ⟨rfl, rfl, rfl⟩
    | succ d ih =>
      intro i a hi
      refine zs rfl rfl rfl ?_
      refine zs rfl rfl rfl ?_
      refine zbf (nI_ge (by omega) (by omega)) rfl rfl rfl ?_
      refine zs rfl rfl rfl ?_
      refine zs rfl rfl rfl ?_
      refine zs rfl rfl rfl ?_
      refine zs rfl rfl rfl ?_
      refine zs rfl rfl rfl ?_
      refine zs rfl rfl rfl ?_
      refine zs rfl rfl rfl ?_
      refine zal rfl rfl rfl (by omega) (by decide) ?_
      refine zto rfl (hT.2 i (by omega)) ?_
      refine zs rfl rfl rfl ?_
      refine zs rfl rfl rfl ?_
      refine zs rfl rfl rfl ?_
      refine zs rfl rfl rfl ?_
      refine zs rfl rfl rfl ?_
      refine zinc rfl rfl rfl ?_
      refine zs rfl rfl rfl ?_
      exact ih (i + 1) _ (by omega)
  exact loop (e - p) p 0 (by omega)
theorem c_len_0 : zE1 X 223 [.ref 1000] M N (some (.int (nI 4))) M N := ⟨40, _, _, rfl, rfl, rfl, rfl⟩
theorem c_ch_0_0 : zE1 X 224 [.ref 1000, .int (nI 0)] M N (some (.int ((z_wb 0).getD 0 0))) M N := ⟨60, _, _, rfl, rfl, rfl, rfl⟩
theorem c_ch_0_1 : zE1 X 224 [.ref 1000, .int (nI 1)] M N (some (.int ((z_wb 0).getD 1 0))) M N := ⟨60, _, _, rfl, rfl, rfl, rfl⟩
theorem c_ch_0_2 : zE1 X 224 [.ref 1000, .int (nI 2)] M N (some (.int ((z_wb 0).getD 2 0))) M N := ⟨60, _, _, rfl, rfl, rfl, rfl⟩
theorem c_ch_0_3 : zE1 X 224 [.ref 1000, .int (nI 3)] M N (some (.int ((z_wb 0).getD 3 0))) M N := ⟨60, _, _, rfl, rfl, rfl, rfl⟩
theorem c_chr_0 : ∀ {k : Nat}, k < 4 → zE1 X 224 [.ref 1000, .int (nI k)] M N (some (.int ((z_wb 0).getD k 0))) M N
  | 0, _ => c_ch_0_0
  | 1, _ => c_ch_0_1
  | 2, _ => c_ch_0_2
  | 3, _ => c_ch_0_3
  | _ + 4, h => absurd h (by omega)
theorem c_len_1 : zE1 X 223 [.ref 1001] M N (some (.int (nI 4))) M N := ⟨40, _, _, rfl, rfl, rfl, rfl⟩
theorem c_ch_1_0 : zE1 X 224 [.ref 1001, .int (nI 0)] M N (some (.int ((z_wb 1).getD 0 0))) M N := ⟨60, _, _, rfl, rfl, rfl, rfl⟩
theorem c_ch_1_1 : zE1 X 224 [.ref 1001, .int (nI 1)] M N (some (.int ((z_wb 1).getD 1 0))) M N := ⟨60, _, _, rfl, rfl, rfl, rfl⟩
theorem c_ch_1_2 : zE1 X 224 [.ref 1001, .int (nI 2)] M N (some (.int ((z_wb 1).getD 2 0))) M N := ⟨60, _, _, rfl, rfl, rfl, rfl⟩
theorem c_ch_1_3 : zE1 X 224 [.ref 1001, .int (nI 3)] M N (some (.int ((z_wb 1).getD 3 0))) M N := ⟨60, _, _, rfl, rfl, rfl, rfl⟩
theorem c_chr_1 : ∀ {k : Nat}, k < 4 → zE1 X 224 [.ref 1001, .int (nI k)] M N (some (.int ((z_wb 1).getD k 0))) M N
  | 0, _ => c_ch_1_0
  | 1, _ => c_ch_1_1
  | 2, _ => c_ch_1_2
  | 3, _ => c_ch_1_3
  | _ + 4, h => absurd h (by omega)
theorem c_len_2 : zE1 X 223 [.ref 1002] M N (some (.int (nI 5))) M N := ⟨40, _, _, rfl, rfl, rfl, rfl⟩
theorem c_ch_2_0 : zE1 X 224 [.ref 1002, .int (nI 0)] M N (some (.int ((z_wb 2).getD 0 0))) M N := ⟨60, _, _, rfl, rfl, rfl, rfl⟩
theorem c_ch_2_1 : zE1 X 224 [.ref 1002, .int (nI 1)] M N (some (.int ((z_wb 2).getD 1 0))) M N := ⟨60, _, _, rfl, rfl, rfl, rfl⟩
theorem c_ch_2_2 : zE1 X 224 [.ref 1002, .int (nI 2)] M N (some (.int ((z_wb 2).getD 2 0))) M N := ⟨60, _, _, rfl, rfl, rfl, rfl⟩
theorem c_ch_2_3 : zE1 X 224 [.ref 1002, .int (nI 3)] M N (some (.int ((z_wb 2).getD 3 0))) M N := ⟨60, _, _, rfl, rfl, rfl, rfl⟩
theorem c_ch_2_4 : zE1 X 224 [.ref 1002, .int (nI 4)] M N (some (.int ((z_wb 2).getD 4 0))) M N := ⟨60, _, _, rfl, rfl, rfl, rfl⟩
theorem c_chr_2 : ∀ {k : Nat}, k < 5 → zE1 X 224 [.ref 1002, .int (nI k)] M N (some (.int ((z_wb 2).getD k 0))) M N
  | 0, _ => c_ch_2_0
  | 1, _ => c_ch_2_1
  | 2, _ => c_ch_2_2
  | 3, _ => c_ch_2_3
  | 4, _ => c_ch_2_4
  | _ + 5, h => absurd h (by omega)
theorem c_len_3 : zE1 X 223 [.ref 1003] M N (some (.int (nI 8))) M N := ⟨40, _, _, rfl, rfl, rfl, rfl⟩
theorem c_ch_3_0 : zE1 X 224 [.ref 1003, .int (nI 0)] M N (some (.int ((z_wb 3).getD 0 0))) M N := ⟨60, _, _, rfl, rfl, rfl, rfl⟩
theorem c_ch_3_1 : zE1 X 224 [.ref 1003, .int (nI 1)] M N (some (.int ((z_wb 3).getD 1 0))) M N := ⟨60, _, _, rfl, rfl, rfl, rfl⟩
theorem c_ch_3_2 : zE1 X 224 [.ref 1003, .int (nI 2)] M N (some (.int ((z_wb 3).getD 2 0))) M N := ⟨60, _, _, rfl, rfl, rfl, rfl⟩
theorem c_ch_3_3 : zE1 X 224 [.ref 1003, .int (nI 3)] M N (some (.int ((z_wb 3).getD 3 0))) M N := ⟨60, _, _, rfl, rfl, rfl, rfl⟩
theorem c_ch_3_4 : zE1 X 224 [.ref 1003, .int (nI 4)] M N (some (.int ((z_wb 3).getD 4 0))) M N := ⟨60, _, _, rfl, rfl, rfl, rfl⟩
theorem c_ch_3_5 : zE1 X 224 [.ref 1003, .int (nI 5)] M N (some (.int ((z_wb 3).getD 5 0))) M N := ⟨60, _, _, rfl, rfl, rfl, rfl⟩
theorem c_ch_3_6 : zE1 X 224 [.ref 1003, .int (nI 6)] M N (some (.int ((z_wb 3).getD 6 0))) M N := ⟨60, _, _, rfl, rfl, rfl, rfl⟩
theorem c_ch_3_7 : zE1 X 224 [.ref 1003, .int (nI 7)] M N (some (.int ((z_wb 3).getD 7 0))) M N := ⟨60, _, _, rfl, rfl, rfl, rfl⟩
theorem c_chr_3 : ∀ {k : Nat}, k < 8 → zE1 X 224 [.ref 1003, .int (nI k)] M N (some (.int ((z_wb 3).getD k 0))) M N
  | 0, _ => c_ch_3_0
  | 1, _ => c_ch_3_1
  | 2, _ => c_ch_3_2
  | 3, _ => c_ch_3_3
  | 4, _ => c_ch_3_4
  | 5, _ => c_ch_3_5
  | 6, _ => c_ch_3_6
  | 7, _ => c_ch_3_7
  | _ + 8, h => absurd h (by omega)
theorem c_len_4 : zE1 X 223 [.ref 1004] M N (some (.int (nI 7))) M N := ⟨40, _, _, rfl, rfl, rfl, rfl⟩
theorem c_ch_4_0 : zE1 X 224 [.ref 1004, .int (nI 0)] M N (some (.int ((z_wb 4).getD 0 0))) M N := ⟨60, _, _, rfl, rfl, rfl, rfl⟩
theorem c_ch_4_1 : zE1 X 224 [.ref 1004, .int (nI 1)] M N (some (.int ((z_wb 4).getD 1 0))) M N := ⟨60, _, _, rfl, rfl, rfl, rfl⟩
theorem c_ch_4_2 : zE1 X 224 [.ref 1004, .int (nI 2)] M N (some (.int ((z_wb 4).getD 2 0))) M N := ⟨60, _, _, rfl, rfl, rfl, rfl⟩
theorem c_ch_4_3 : zE1 X 224 [.ref 1004, .int (nI 3)] M N (some (.int ((z_wb 4).getD 3 0))) M N := ⟨60, _, _, rfl, rfl, rfl, rfl⟩
theorem c_ch_4_4 : zE1 X 224 [.ref 1004, .int (nI 4)] M N (some (.int ((z_wb 4).getD 4 0))) M N := ⟨60, _, _, rfl, rfl, rfl, rfl⟩
theorem c_ch_4_5 : zE1 X 224 [.ref 1004, .int (nI 5)] M N (some (.int ((z_wb 4).getD 5 0))) M N := ⟨60, _, _, rfl, rfl, rfl, rfl⟩
theorem c_ch_4_6 : zE1 X 224 [.ref 1004, .int (nI 6)] M N (some (.int ((z_wb 4).getD 6 0))) M N := ⟨60, _, _, rfl, rfl, rfl, rfl⟩
theorem c_chr_4 : ∀ {k : Nat}, k < 7 → zE1 X 224 [.ref 1004, .int (nI k)] M N (some (.int ((z_wb 4).getD k 0))) M N
  | 0, _ => c_ch_4_0
  | 1, _ => c_ch_4_1
  | 2, _ => c_ch_4_2
  | 3, _ => c_ch_4_3
  | 4, _ => c_ch_4_4
  | 5, _ => c_ch_4_5
  | 6, _ => c_ch_4_6
  | _ + 7, h => absurd h (by omega)
theorem c_len_5 : zE1 X 223 [.ref 1005] M N (some (.int (nI 8))) M N := ⟨40, _, _, rfl, rfl, rfl, rfl⟩
theorem c_ch_5_0 : zE1 X 224 [.ref 1005, .int (nI 0)] M N (some (.int ((z_wb 5).getD 0 0))) M N := ⟨60, _, _, rfl, rfl, rfl, rfl⟩
theorem c_ch_5_1 : zE1 X 224 [.ref 1005, .int (nI 1)] M N (some (.int ((z_wb 5).getD 1 0))) M N := ⟨60, _, _, rfl, rfl, rfl, rfl⟩
theorem c_ch_5_2 : zE1 X 224 [.ref 1005, .int (nI 2)] M N (some (.int ((z_wb 5).getD 2 0))) M N := ⟨60, _, _, rfl, rfl, rfl, rfl⟩
theorem c_ch_5_3 : zE1 X 224 [.ref 1005, .int (nI 3)] M N (some (.int ((z_wb 5).getD 3 0))) M N := ⟨60, _, _, rfl, rfl, rfl, rfl⟩
theorem c_ch_5_4 : zE1 X 224 [.ref 1005, .int (nI 4)] M N (some (.int ((z_wb 5).getD 4 0))) M N := ⟨60, _, _, rfl, rfl, rfl, rfl⟩
theorem c_ch_5_5 : zE1 X 224 [.ref 1005, .int (nI 5)] M N (some (.int ((z_wb 5).getD 5 0))) M N := ⟨60, _, _, rfl, rfl, rfl, rfl⟩
theorem c_ch_5_6 : zE1 X 224 [.ref 1005, .int (nI 6)] M N (some (.int ((z_wb 5).getD 6 0))) M N := ⟨60, _, _, rfl, rfl, rfl, rfl⟩
theorem c_ch_5_7 : zE1 X 224 [.ref 1005, .int (nI 7)] M N (some (.int ((z_wb 5).getD 7 0))) M N := ⟨60, _, _, rfl, rfl, rfl, rfl⟩
theorem c_chr_5 : ∀ {k : Nat}, k < 8 → zE1 X 224 [.ref 1005, .int (nI k)] M N (some (.int ((z_wb 5).getD k 0))) M N
  | 0, _ => c_ch_5_0
  | 1, _ => c_ch_5_1
  | 2, _ => c_ch_5_2
  | 3, _ => c_ch_5_3
  | 4, _ => c_ch_5_4
  | 5, _ => c_ch_5_5
  | 6, _ => c_ch_5_6
  | 7, _ => c_ch_5_7
  | _ + 8, h => absurd h (by omega)
theorem c_len_6 : zE1 X 223 [.ref 1006] M N (some (.int (nI 4))) M N := ⟨40, _, _, rfl, rfl, rfl, rfl⟩
theorem c_ch_6_0 : zE1 X 224 [.ref 1006, .int (nI 0)] M N (some (.int ((z_wb 6).getD 0 0))) M N := ⟨60, _, _, rfl, rfl, rfl, rfl⟩
theorem c_ch_6_1 : zE1 X 224 [.ref 1006, .int (nI 1)] M N (some (.int ((z_wb 6).getD 1 0))) M N := ⟨60, _, _, rfl, rfl, rfl, rfl⟩
theorem c_ch_6_2 : zE1 X 224 [.ref 1006, .int (nI 2)] M N (some (.int ((z_wb 6).getD 2 0))) M N := ⟨60, _, _, rfl, rfl, rfl, rfl⟩
theorem c_ch_6_3 : zE1 X 224 [.ref 1006, .int (nI 3)] M N (some (.int ((z_wb 6).getD 3 0))) M N := ⟨60, _, _, rfl, rfl, rfl, rfl⟩
theorem c_chr_6 : ∀ {k : Nat}, k < 4 → zE1 X 224 [.ref 1006, .int (nI k)] M N (some (.int ((z_wb 6).getD k 0))) M N
  | 0, _ => c_ch_6_0
  | 1, _ => c_ch_6_1
  | 2, _ => c_ch_6_2
  | 3, _ => c_ch_6_3
  | _ + 4, h => absurd h (by omega)
theorem c_len_7 : zE1 X 223 [.ref 1007] M N (some (.int (nI 5))) M N := ⟨40, _, _, rfl, rfl, rfl, rfl⟩
theorem c_ch_7_0 : zE1 X 224 [.ref 1007, .int (nI 0)] M N (some (.int ((z_wb 7).getD 0 0))) M N := ⟨60, _, _, rfl, rfl, rfl, rfl⟩
theorem c_ch_7_1 : zE1 X 224 [.ref 1007, .int (nI 1)] M N (some (.int ((z_wb 7).getD 1 0))) M N := ⟨60, _, _, rfl, rfl, rfl, rfl⟩
theorem c_ch_7_2 : zE1 X 224 [.ref 1007, .int (nI 2)] M N (some (.int ((z_wb 7).getD 2 0))) M N := ⟨60, _, _, rfl, rfl, rfl, rfl⟩
theorem c_ch_7_3 : zE1 X 224 [.ref 1007, .int (nI 3)] M N (some (.int ((z_wb 7).getD 3 0))) M N := ⟨60, _, _, rfl, rfl, rfl, rfl⟩
theorem c_ch_7_4 : zE1 X 224 [.ref 1007, .int (nI 4)] M N (some (.int ((z_wb 7).getD 4 0))) M N := ⟨60, _, _, rfl, rfl, rfl, rfl⟩
theorem c_chr_7 : ∀ {k : Nat}, k < 5 → zE1 X 224 [.ref 1007, .int (nI k)] M N (some (.int ((z_wb 7).getD k 0))) M N
  | 0, _ => c_ch_7_0
  | 1, _ => c_ch_7_1
  | 2, _ => c_ch_7_2
  | 3, _ => c_ch_7_3
  | 4, _ => c_ch_7_4
  | _ + 5, h => absurd h (by omega)
theorem c_len_8 : zE1 X 223 [.ref 1008] M N (some (.int (nI 4))) M N := ⟨40, _, _, rfl, rfl, rfl, rfl⟩
theorem c_ch_8_0 : zE1 X 224 [.ref 1008, .int (nI 0)] M N (some (.int ((z_wb 8).getD 0 0))) M N := ⟨60, _, _, rfl, rfl, rfl, rfl⟩
theorem c_ch_8_1 : zE1 X 224 [.ref 1008, .int (nI 1)] M N (some (.int ((z_wb 8).getD 1 0))) M N := ⟨60, _, _, rfl, rfl, rfl, rfl⟩
theorem c_ch_8_2 : zE1 X 224 [.ref 1008, .int (nI 2)] M N (some (.int ((z_wb 8).getD 2 0))) M N := ⟨60, _, _, rfl, rfl, rfl, rfl⟩
theorem c_ch_8_3 : zE1 X 224 [.ref 1008, .int (nI 3)] M N (some (.int ((z_wb 8).getD 3 0))) M N := ⟨60, _, _, rfl, rfl, rfl, rfl⟩
theorem c_chr_8 : ∀ {k : Nat}, k < 4 → zE1 X 224 [.ref 1008, .int (nI k)] M N (some (.int ((z_wb 8).getD k 0))) M N
  | 0, _ => c_ch_8_0
  | 1, _ => c_ch_8_1
  | 2, _ => c_ch_8_2
  | 3, _ => c_ch_8_3
  | _ + 4, h => absurd h (by omega)
theorem c_len_9 : zE1 X 223 [.ref 1009] M N (some (.int (nI 2))) M N := ⟨40, _, _, rfl, rfl, rfl, rfl⟩
theorem c_ch_9_0 : zE1 X 224 [.ref 1009, .int (nI 0)] M N (some (.int ((z_wb 9).getD 0 0))) M N := ⟨60, _, _, rfl, rfl, rfl, rfl⟩
theorem c_ch_9_1 : zE1 X 224 [.ref 1009, .int (nI 1)] M N (some (.int ((z_wb 9).getD 1 0))) M N := ⟨60, _, _, rfl, rfl, rfl, rfl⟩
theorem c_chr_9 : ∀ {k : Nat}, k < 2 → zE1 X 224 [.ref 1009, .int (nI k)] M N (some (.int ((z_wb 9).getD k 0))) M N
  | 0, _ => c_ch_9_0
  | 1, _ => c_ch_9_1
  | _ + 2, h => absurd h (by omega)
theorem c_len_10 : zE1 X 223 [.ref 1010] M N (some (.int (nI 2))) M N := ⟨40, _, _, rfl, rfl, rfl, rfl⟩
theorem c_ch_10_0 : zE1 X 224 [.ref 1010, .int (nI 0)] M N (some (.int ((z_wb 10).getD 0 0))) M N := ⟨60, _, _, rfl, rfl, rfl, rfl⟩
theorem c_ch_10_1 : zE1 X 224 [.ref 1010, .int (nI 1)] M N (some (.int ((z_wb 10).getD 1 0))) M N := ⟨60, _, _, rfl, rfl, rfl, rfl⟩
theorem c_chr_10 : ∀ {k : Nat}, k < 2 → zE1 X 224 [.ref 1010, .int (nI k)] M N (some (.int ((z_wb 10).getD k 0))) M N
  | 0, _ => c_ch_10_0
  | 1, _ => c_ch_10_1
  | _ + 2, h => absurd h (by omega)
theorem c_len_11 : zE1 X 223 [.ref 1011] M N (some (.int (nI 6))) M N := ⟨40, _, _, rfl, rfl, rfl, rfl⟩
theorem c_ch_11_0 : zE1 X 224 [.ref 1011, .int (nI 0)] M N (some (.int ((z_wb 11).getD 0 0))) M N := ⟨60, _, _, rfl, rfl, rfl, rfl⟩
theorem c_ch_11_1 : zE1 X 224 [.ref 1011, .int (nI 1)] M N (some (.int ((z_wb 11).getD 1 0))) M N := ⟨60, _, _, rfl, rfl, rfl, rfl⟩
theorem c_ch_11_2 : zE1 X 224 [.ref 1011, .int (nI 2)] M N (some (.int ((z_wb 11).getD 2 0))) M N := ⟨60, _, _, rfl, rfl, rfl, rfl⟩
theorem c_ch_11_3 : zE1 X 224 [.ref 1011, .int (nI 3)] M N (some (.int ((z_wb 11).getD 3 0))) M N := ⟨60, _, _, rfl, rfl, rfl, rfl⟩
theorem c_ch_11_4 : zE1 X 224 [.ref 1011, .int (nI 4)] M N (some (.int ((z_wb 11).getD 4 0))) M N := ⟨60, _, _, rfl, rfl, rfl, rfl⟩
theorem c_ch_11_5 : zE1 X 224 [.ref 1011, .int (nI 5)] M N (some (.int ((z_wb 11).getD 5 0))) M N := ⟨60, _, _, rfl, rfl, rfl, rfl⟩
theorem c_chr_11 : ∀ {k : Nat}, k < 6 → zE1 X 224 [.ref 1011, .int (nI k)] M N (some (.int ((z_wb 11).getD k 0))) M N
  | 0, _ => c_ch_11_0
  | 1, _ => c_ch_11_1
  | 2, _ => c_ch_11_2
  | 3, _ => c_ch_11_3
  | 4, _ => c_ch_11_4
  | 5, _ => c_ch_11_5
  | _ + 6, h => absurd h (by omega)
theorem c_len_12 : zE1 X 223 [.ref 1012] M N (some (.int (nI 4))) M N := ⟨40, _, _, rfl, rfl, rfl, rfl⟩
theorem c_ch_12_0 : zE1 X 224 [.ref 1012, .int (nI 0)] M N (some (.int ((z_wb 12).getD 0 0))) M N := ⟨60, _, _, rfl, rfl, rfl, rfl⟩
theorem c_ch_12_1 : zE1 X 224 [.ref 1012, .int (nI 1)] M N (some (.int ((z_wb 12).getD 1 0))) M N := ⟨60, _, _, rfl, rfl, rfl, rfl⟩
theorem c_ch_12_2 : zE1 X 224 [.ref 1012, .int (nI 2)] M N (some (.int ((z_wb 12).getD 2 0))) M N := ⟨60, _, _, rfl, rfl, rfl, rfl⟩
theorem c_ch_12_3 : zE1 X 224 [.ref 1012, .int (nI 3)] M N (some (.int ((z_wb 12).getD 3 0))) M N := ⟨60, _, _, rfl, rfl, rfl, rfl⟩
theorem c_chr_12 : ∀ {k : Nat}, k < 4 → zE1 X 224 [.ref 1012, .int (nI k)] M N (some (.int ((z_wb 12).getD k 0))) M N
  | 0, _ => c_ch_12_0
  | 1, _ => c_ch_12_1
  | 2, _ => c_ch_12_2
  | 3, _ => c_ch_12_3
  | _ + 4, h => absurd h (by omega)
theorem c_len_13 : zE1 X 223 [.ref 1013] M N (some (.int (nI 4))) M N := ⟨40, _, _, rfl, rfl, rfl, rfl⟩
theorem c_ch_13_0 : zE1 X 224 [.ref 1013, .int (nI 0)] M N (some (.int ((z_wb 13).getD 0 0))) M N := ⟨60, _, _, rfl, rfl, rfl, rfl⟩
theorem c_ch_13_1 : zE1 X 224 [.ref 1013, .int (nI 1)] M N (some (.int ((z_wb 13).getD 1 0))) M N := ⟨60, _, _, rfl, rfl, rfl, rfl⟩
theorem c_ch_13_2 : zE1 X 224 [.ref 1013, .int (nI 2)] M N (some (.int ((z_wb 13).getD 2 0))) M N := ⟨60, _, _, rfl, rfl, rfl, rfl⟩
theorem c_ch_13_3 : zE1 X 224 [.ref 1013, .int (nI 3)] M N (some (.int ((z_wb 13).getD 3 0))) M N := ⟨60, _, _, rfl, rfl, rfl, rfl⟩
theorem c_chr_13 : ∀ {k : Nat}, k < 4 → zE1 X 224 [.ref 1013, .int (nI k)] M N (some (.int ((z_wb 13).getD k 0))) M N
  | 0, _ => c_ch_13_0
  | 1, _ => c_ch_13_1
  | 2, _ => c_ch_13_2
  | 3, _ => c_ch_13_3
  | _ + 4, h => absurd h (by omega)
end TAPE
