/-! The class's tokens. -/
theorem nI_sube {p e : Nat} (h : p ≤ e) : nI e - nI p = nI (e - p) := by
  obtain ⟨c, rfl⟩ : ∃ c, e = c + p := ⟨e - p, by omega⟩
  rw [nI_sub, Nat.add_sub_cancel]
def Tks (M : zM) (tb : zS) (tl c : Nat) : Prop := 1 ≤ c ∧ c ≤ 121 ∧ M 29 5 = nI c ∧ (∀ i, i < c → M 31 i = nI (tk tb tl (ps tb tl i)) ∧ M 32 i = nI (ps tb tl i) ∧ M 33 i = cv tb tl (ps tb tl i)) ∧ ps tb tl (c - 1) = tl
section TOK
variable {X : Nat × (Nat → Int32)} {M M2 : zM} {N : zN} {tb : zS} {tl : Nat}
theorem c_isSpelled_0 (hT : cT M tb tl) (h120 : tl ≤ 120) {p e : Nat} (hp : p ≤ e) (he : e ≤ tl) : zE1 X 41 [.ref 29, .int (nI p), .int (nI e), .ref 1000] M N (some (.int (bI (spl tb p e 0)))) M N := by
  refine zE1i [(0, .ref 29), (1, .int (nI p)), (2, .int (nI e)), (3, .ref 1000)] rfl ?_
  unfold spl
  rw [show (z_wb 0).length = 4 from rfl]
  refine zs rfl rfl rfl ?_
  refine zs rfl rfl rfl ?_
  refine zs rfl rfl rfl ?_
  refine zto rfl (nI_sube hp) ?_
  refine zs rfl rfl rfl ?_
  refine zcl rfl rfl (c_len_0) ?_
  by_cases h : e - p = 4
  · rw [decide_eq_true h, Bool.true_and]
    refine zbt ((congrArg nI h)) rfl rfl rfl ?_
    refine zs rfl rfl rfl ?_
    refine zs rfl rfl rfl ?_
    have loop : ∀ d k, k + d = 4 → zW X 41 15 [(0, .ref 29), (1, .int (nI p)), (2, .int (nI e)), (3, .ref 1000), (4, .int (nI k))] [] M N (fun v1 M1 N1 => v1 = some (.int (bI (sp tb p (z_wb 0) d k))) ∧ M1 = M ∧ N1 = N) := by
      intro d
      induction d with
      | zero =>
        intro k hk
        obtain rfl : k = 4 := by omega
        refine zs rfl rfl rfl ?_
        refine zs rfl rfl rfl ?_
        refine zcl rfl rfl (c_len_0) ?_
        refine zs rfl rfl rfl ?_
        refine zs rfl rfl rfl ?_
        exact zret rfl rfl ⟨rfl, rfl, rfl⟩
      | succ d ih =>
        intro k hk
        unfold sp
        refine zs rfl rfl rfl ?_
        refine zs rfl rfl rfl ?_
        refine zcl rfl rfl (c_len_0) ?_
        refine zbf (nI_ge (by omega) (by omega)) rfl rfl rfl ?_
        refine zs rfl rfl rfl ?_
        refine zs rfl rfl rfl ?_
        refine zs rfl rfl rfl ?_
        refine zs rfl rfl rfl ?_
        refine zs rfl rfl rfl ?_
        refine zto rfl (nI_add p k) ?_
        refine zal rfl rfl rfl (by omega) (by decide) ?_
        refine zto rfl (hT.2 (p + k) (by omega)) ?_
        refine zs rfl rfl rfl ?_
        refine zs rfl rfl rfl ?_
        refine zcl rfl rfl (c_chr_0 (show k < 4 by omega)) ?_
        refine zbr rfl rfl rfl (fun hc => ?_) (fun hc => ?_)
        · rw [decide_eq_true hc]
          refine zinc rfl rfl rfl ?_
          refine zs rfl rfl rfl ?_
          exact ih (k + 1) (by omega)
        · rw [decide_eq_false hc]
          refine zs rfl rfl rfl ?_
          exact zret rfl rfl ⟨rfl, rfl, rfl⟩
    exact loop 4 0 rfl
  · rw [decide_eq_false h, Bool.false_and]
    refine zbf (fun q => h (nI_inj (by omega) (by decide) q)) rfl rfl rfl ?_
    refine zs rfl rfl rfl ?_
    exact zret rfl rfl ⟨rfl, rfl, rfl⟩
theorem c_spellingOf_0 : zE1 X 42 [.int (nI 0)] M N (some (.ref 1000)) M N := by
  refine zE1i [(0, .int (nI 0))] rfl ?_
  refine zs rfl rfl rfl ?_
  refine zs rfl rfl rfl ?_
  refine zs rfl rfl rfl ?_
  exact zret rfl rfl ⟨rfl, rfl, rfl⟩
theorem c_isSpelled_1 (hT : cT M tb tl) (h120 : tl ≤ 120) {p e : Nat} (hp : p ≤ e) (he : e ≤ tl) : zE1 X 41 [.ref 29, .int (nI p), .int (nI e), .ref 1001] M N (some (.int (bI (spl tb p e 1)))) M N := by
  refine zE1i [(0, .ref 29), (1, .int (nI p)), (2, .int (nI e)), (3, .ref 1001)] rfl ?_
  unfold spl
  rw [show (z_wb 1).length = 4 from rfl]
  refine zs rfl rfl rfl ?_
  refine zs rfl rfl rfl ?_
  refine zs rfl rfl rfl ?_
  refine zto rfl (nI_sube hp) ?_
  refine zs rfl rfl rfl ?_
  refine zcl rfl rfl (c_len_1) ?_
  by_cases h : e - p = 4
  · rw [decide_eq_true h, Bool.true_and]
    refine zbt ((congrArg nI h)) rfl rfl rfl ?_
    refine zs rfl rfl rfl ?_
    refine zs rfl rfl rfl ?_
    have loop : ∀ d k, k + d = 4 → zW X 41 15 [(0, .ref 29), (1, .int (nI p)), (2, .int (nI e)), (3, .ref 1001), (4, .int (nI k))] [] M N (fun v1 M1 N1 => v1 = some (.int (bI (sp tb p (z_wb 1) d k))) ∧ M1 = M ∧ N1 = N) := by
      intro d
      induction d with
      | zero =>
        intro k hk
        obtain rfl : k = 4 := by omega
        refine zs rfl rfl rfl ?_
        refine zs rfl rfl rfl ?_
        refine zcl rfl rfl (c_len_1) ?_
        refine zs rfl rfl rfl ?_
        refine zs rfl rfl rfl ?_
        exact zret rfl rfl ⟨rfl, rfl, rfl⟩
      | succ d ih =>
        intro k hk
        unfold sp
        refine zs rfl rfl rfl ?_
        refine zs rfl rfl rfl ?_
        refine zcl rfl rfl (c_len_1) ?_
        refine zbf (nI_ge (by omega) (by omega)) rfl rfl rfl ?_
        refine zs rfl rfl rfl ?_
        refine zs rfl rfl rfl ?_
        refine zs rfl rfl rfl ?_
        refine zs rfl rfl rfl ?_
        refine zs rfl rfl rfl ?_
        refine zto rfl (nI_add p k) ?_
        refine zal rfl rfl rfl (by omega) (by decide) ?_
        refine zto rfl (hT.2 (p + k) (by omega)) ?_
        refine zs rfl rfl rfl ?_
        refine zs rfl rfl rfl ?_
        refine zcl rfl rfl (c_chr_1 (show k < 4 by omega)) ?_
        refine zbr rfl rfl rfl (fun hc => ?_) (fun hc => ?_)
        · rw [decide_eq_true hc]
          refine zinc rfl rfl rfl ?_
          refine zs rfl rfl rfl ?_
          exact ih (k + 1) (by omega)
        · rw [decide_eq_false hc]
          refine zs rfl rfl rfl ?_
          exact zret rfl rfl ⟨rfl, rfl, rfl⟩
    exact loop 4 0 rfl
  · rw [decide_eq_false h, Bool.false_and]
    refine zbf (fun q => h (nI_inj (by omega) (by decide) q)) rfl rfl rfl ?_
    refine zs rfl rfl rfl ?_
    exact zret rfl rfl ⟨rfl, rfl, rfl⟩
theorem c_spellingOf_1 : zE1 X 42 [.int (nI 1)] M N (some (.ref 1001)) M N := by
  refine zE1i [(0, .int (nI 1))] rfl ?_
  refine zs rfl rfl rfl ?_
  refine zs rfl rfl rfl ?_
  refine zs rfl rfl rfl ?_
  exact zret rfl rfl ⟨rfl, rfl, rfl⟩
theorem c_isSpelled_2 (hT : cT M tb tl) (h120 : tl ≤ 120) {p e : Nat} (hp : p ≤ e) (he : e ≤ tl) : zE1 X 41 [.ref 29, .int (nI p), .int (nI e), .ref 1002] M N (some (.int (bI (spl tb p e 2)))) M N := by
  refine zE1i [(0, .ref 29), (1, .int (nI p)), (2, .int (nI e)), (3, .ref 1002)] rfl ?_
  unfold spl
  rw [show (z_wb 2).length = 5 from rfl]
  refine zs rfl rfl rfl ?_
  refine zs rfl rfl rfl ?_
  refine zs rfl rfl rfl ?_
  refine zto rfl (nI_sube hp) ?_
  refine zs rfl rfl rfl ?_
  refine zcl rfl rfl (c_len_2) ?_
  by_cases h : e - p = 5
  · rw [decide_eq_true h, Bool.true_and]
    refine zbt ((congrArg nI h)) rfl rfl rfl ?_
    refine zs rfl rfl rfl ?_
    refine zs rfl rfl rfl ?_
    have loop : ∀ d k, k + d = 5 → zW X 41 15 [(0, .ref 29), (1, .int (nI p)), (2, .int (nI e)), (3, .ref 1002), (4, .int (nI k))] [] M N (fun v1 M1 N1 => v1 = some (.int (bI (sp tb p (z_wb 2) d k))) ∧ M1 = M ∧ N1 = N) := by
      intro d
      induction d with
      | zero =>
        intro k hk
        obtain rfl : k = 5 := by omega
        refine zs rfl rfl rfl ?_
        refine zs rfl rfl rfl ?_
        refine zcl rfl rfl (c_len_2) ?_
        refine zs rfl rfl rfl ?_
        refine zs rfl rfl rfl ?_
        exact zret rfl rfl ⟨rfl, rfl, rfl⟩
      | succ d ih =>
        intro k hk
        unfold sp
        refine zs rfl rfl rfl ?_
        refine zs rfl rfl rfl ?_
        refine zcl rfl rfl (c_len_2) ?_
        refine zbf (nI_ge (by omega) (by omega)) rfl rfl rfl ?_
        refine zs rfl rfl rfl ?_
        refine zs rfl rfl rfl ?_
        refine zs rfl rfl rfl ?_
        refine zs rfl rfl rfl ?_
        refine zs rfl rfl rfl ?_
        refine zto rfl (nI_add p k) ?_
        refine zal rfl rfl rfl (by omega) (by decide) ?_
        refine zto rfl (hT.2 (p + k) (by omega)) ?_
        refine zs rfl rfl rfl ?_
        refine zs rfl rfl rfl ?_
        refine zcl rfl rfl (c_chr_2 (show k < 5 by omega)) ?_
        refine zbr rfl rfl rfl (fun hc => ?_) (fun hc => ?_)
        · rw [decide_eq_true hc]
          refine zinc rfl rfl rfl ?_
          refine zs rfl rfl rfl ?_
          exact ih (k + 1) (by omega)
        · rw [decide_eq_false hc]
          refine zs rfl rfl rfl ?_
          exact zret rfl rfl ⟨rfl, rfl, rfl⟩
    exact loop 5 0 rfl
  · rw [decide_eq_false h, Bool.false_and]
    refine zbf (fun q => h (nI_inj (by omega) (by decide) q)) rfl rfl rfl ?_
    refine zs rfl rfl rfl ?_
    exact zret rfl rfl ⟨rfl, rfl, rfl⟩
theorem c_spellingOf_2 : zE1 X 42 [.int (nI 2)] M N (some (.ref 1002)) M N := by
  refine zE1i [(0, .int (nI 2))] rfl ?_
  refine zs rfl rfl rfl ?_
  refine zs rfl rfl rfl ?_
  refine zs rfl rfl rfl ?_
  exact zret rfl rfl ⟨rfl, rfl, rfl⟩
theorem c_isSpelled_3 (hT : cT M tb tl) (h120 : tl ≤ 120) {p e : Nat} (hp : p ≤ e) (he : e ≤ tl) : zE1 X 41 [.ref 29, .int (nI p), .int (nI e), .ref 1003] M N (some (.int (bI (spl tb p e 3)))) M N := by
  refine zE1i [(0, .ref 29), (1, .int (nI p)), (2, .int (nI e)), (3, .ref 1003)] rfl ?_
  unfold spl
  rw [show (z_wb 3).length = 8 from rfl]
  refine zs rfl rfl rfl ?_
  refine zs rfl rfl rfl ?_
  refine zs rfl rfl rfl ?_
  refine zto rfl (nI_sube hp) ?_
  refine zs rfl rfl rfl ?_
  refine zcl rfl rfl (c_len_3) ?_
  by_cases h : e - p = 8
  · rw [decide_eq_true h, Bool.true_and]
    refine zbt ((congrArg nI h)) rfl rfl rfl ?_
    refine zs rfl rfl rfl ?_
    refine zs rfl rfl rfl ?_
    have loop : ∀ d k, k + d = 8 → zW X 41 15 [(0, .ref 29), (1, .int (nI p)), (2, .int (nI e)), (3, .ref 1003), (4, .int (nI k))] [] M N (fun v1 M1 N1 => v1 = some (.int (bI (sp tb p (z_wb 3) d k))) ∧ M1 = M ∧ N1 = N) := by
      intro d
      induction d with
      | zero =>
        intro k hk
        obtain rfl : k = 8 := by omega
        refine zs rfl rfl rfl ?_
        refine zs rfl rfl rfl ?_
        refine zcl rfl rfl (c_len_3) ?_
        refine zs rfl rfl rfl ?_
        refine zs rfl rfl rfl ?_
        exact zret rfl rfl ⟨rfl, rfl, rfl⟩
      | succ d ih =>
        intro k hk
        unfold sp
        refine zs rfl rfl rfl ?_
        refine zs rfl rfl rfl ?_
        refine zcl rfl rfl (c_len_3) ?_
        refine zbf (nI_ge (by omega) (by omega)) rfl rfl rfl ?_
        refine zs rfl rfl rfl ?_
        refine zs rfl rfl rfl ?_
        refine zs rfl rfl rfl ?_
        refine zs rfl rfl rfl ?_
        refine zs rfl rfl rfl ?_
        refine zto rfl (nI_add p k) ?_
        refine zal rfl rfl rfl (by omega) (by decide) ?_
        refine zto rfl (hT.2 (p + k) (by omega)) ?_
        refine zs rfl rfl rfl ?_
        refine zs rfl rfl rfl ?_
        refine zcl rfl rfl (c_chr_3 (show k < 8 by omega)) ?_
        refine zbr rfl rfl rfl (fun hc => ?_) (fun hc => ?_)
        · rw [decide_eq_true hc]
          refine zinc rfl rfl rfl ?_
          refine zs rfl rfl rfl ?_
          exact ih (k + 1) (by omega)
        · rw [decide_eq_false hc]
          refine zs rfl rfl rfl ?_
          exact zret rfl rfl ⟨rfl, rfl, rfl⟩
    exact loop 8 0 rfl
  · rw [decide_eq_false h, Bool.false_and]
    refine zbf (fun q => h (nI_inj (by omega) (by decide) q)) rfl rfl rfl ?_
    refine zs rfl rfl rfl ?_
    exact zret rfl rfl ⟨rfl, rfl, rfl⟩
theorem c_spellingOf_3 : zE1 X 42 [.int (nI 3)] M N (some (.ref 1003)) M N := by
  refine zE1i [(0, .int (nI 3))] rfl ?_
  refine zs rfl rfl rfl ?_
  refine zs rfl rfl rfl ?_
  refine zs rfl rfl rfl ?_
  exact zret rfl rfl ⟨rfl, rfl, rfl⟩
theorem c_isSpelled_4 (hT : cT M tb tl) (h120 : tl ≤ 120) {p e : Nat} (hp : p ≤ e) (he : e ≤ tl) : zE1 X 41 [.ref 29, .int (nI p), .int (nI e), .ref 1004] M N (some (.int (bI (spl tb p e 4)))) M N := by
  refine zE1i [(0, .ref 29), (1, .int (nI p)), (2, .int (nI e)), (3, .ref 1004)] rfl ?_
  unfold spl
  rw [show (z_wb 4).length = 7 from rfl]
  refine zs rfl rfl rfl ?_
  refine zs rfl rfl rfl ?_
  refine zs rfl rfl rfl ?_
  refine zto rfl (nI_sube hp) ?_
  refine zs rfl rfl rfl ?_
  refine zcl rfl rfl (c_len_4) ?_
  by_cases h : e - p = 7
  · rw [decide_eq_true h, Bool.true_and]
    refine zbt ((congrArg nI h)) rfl rfl rfl ?_
    refine zs rfl rfl rfl ?_
    refine zs rfl rfl rfl ?_
    have loop : ∀ d k, k + d = 7 → zW X 41 15 [(0, .ref 29), (1, .int (nI p)), (2, .int (nI e)), (3, .ref 1004), (4, .int (nI k))] [] M N (fun v1 M1 N1 => v1 = some (.int (bI (sp tb p (z_wb 4) d k))) ∧ M1 = M ∧ N1 = N) := by
      intro d
      induction d with
      | zero =>
        intro k hk
        obtain rfl : k = 7 := by omega
        refine zs rfl rfl rfl ?_
        refine zs rfl rfl rfl ?_
        refine zcl rfl rfl (c_len_4) ?_
        refine zs rfl rfl rfl ?_
        refine zs rfl rfl rfl ?_
        exact zret rfl rfl ⟨rfl, rfl, rfl⟩
      | succ d ih =>
        intro k hk
        unfold sp
        refine zs rfl rfl rfl ?_
        refine zs rfl rfl rfl ?_
        refine zcl rfl rfl (c_len_4) ?_
        refine zbf (nI_ge (by omega) (by omega)) rfl rfl rfl ?_
        refine zs rfl rfl rfl ?_
        refine zs rfl rfl rfl ?_
        refine zs rfl rfl rfl ?_
        refine zs rfl rfl rfl ?_
        refine zs rfl rfl rfl ?_
        refine zto rfl (nI_add p k) ?_
        refine zal rfl rfl rfl (by omega) (by decide) ?_
        refine zto rfl (hT.2 (p + k) (by omega)) ?_
        refine zs rfl rfl rfl ?_
        refine zs rfl rfl rfl ?_
        refine zcl rfl rfl (c_chr_4 (show k < 7 by omega)) ?_
        refine zbr rfl rfl rfl (fun hc => ?_) (fun hc => ?_)
        · rw [decide_eq_true hc]
          refine zinc rfl rfl rfl ?_
          refine zs rfl rfl rfl ?_
          exact ih (k + 1) (by omega)
        · rw [decide_eq_false hc]
          refine zs rfl rfl rfl ?_
          exact zret rfl rfl ⟨rfl, rfl, rfl⟩
    exact loop 7 0 rfl
  · rw [decide_eq_false h, Bool.false_and]
    refine zbf (fun q => h (nI_inj (by omega) (by decide) q)) rfl rfl rfl ?_
    refine zs rfl rfl rfl ?_
    exact zret rfl rfl ⟨rfl, rfl, rfl⟩
theorem c_spellingOf_4 : zE1 X 42 [.int (nI 4)] M N (some (.ref 1004)) M N := by
  refine zE1i [(0, .int (nI 4))] rfl ?_
  refine zs rfl rfl rfl ?_
  refine zs rfl rfl rfl ?_
  refine zs rfl rfl rfl ?_
  exact zret rfl rfl ⟨rfl, rfl, rfl⟩
theorem c_isSpelled_5 (hT : cT M tb tl) (h120 : tl ≤ 120) {p e : Nat} (hp : p ≤ e) (he : e ≤ tl) : zE1 X 41 [.ref 29, .int (nI p), .int (nI e), .ref 1005] M N (some (.int (bI (spl tb p e 5)))) M N := by
  refine zE1i [(0, .ref 29), (1, .int (nI p)), (2, .int (nI e)), (3, .ref 1005)] rfl ?_
  unfold spl
  rw [show (z_wb 5).length = 8 from rfl]
  refine zs rfl rfl rfl ?_
  refine zs rfl rfl rfl ?_
  refine zs rfl rfl rfl ?_
  refine zto rfl (nI_sube hp) ?_
  refine zs rfl rfl rfl ?_
  refine zcl rfl rfl (c_len_5) ?_
  by_cases h : e - p = 8
  · rw [decide_eq_true h, Bool.true_and]
    refine zbt ((congrArg nI h)) rfl rfl rfl ?_
    refine zs rfl rfl rfl ?_
    refine zs rfl rfl rfl ?_
    have loop : ∀ d k, k + d = 8 → zW X 41 15 [(0, .ref 29), (1, .int (nI p)), (2, .int (nI e)), (3, .ref 1005), (4, .int (nI k))] [] M N (fun v1 M1 N1 => v1 = some (.int (bI (sp tb p (z_wb 5) d k))) ∧ M1 = M ∧ N1 = N) := by
      intro d
      induction d with
      | zero =>
        intro k hk
        obtain rfl : k = 8 := by omega
        refine zs rfl rfl rfl ?_
        refine zs rfl rfl rfl ?_
        refine zcl rfl rfl (c_len_5) ?_
        refine zs rfl rfl rfl ?_
        refine zs rfl rfl rfl ?_
        exact zret rfl rfl ⟨rfl, rfl, rfl⟩
      | succ d ih =>
        intro k hk
        unfold sp
        refine zs rfl rfl rfl ?_
        refine zs rfl rfl rfl ?_
        refine zcl rfl rfl (c_len_5) ?_
        refine zbf (nI_ge (by omega) (by omega)) rfl rfl rfl ?_
        refine zs rfl rfl rfl ?_
        refine zs rfl rfl rfl ?_
        refine zs rfl rfl rfl ?_
        refine zs rfl rfl rfl ?_
        refine zs rfl rfl rfl ?_
        refine zto rfl (nI_add p k) ?_
        refine zal rfl rfl rfl (by omega) (by decide) ?_
        refine zto rfl (hT.2 (p + k) (by omega)) ?_
        refine zs rfl rfl rfl ?_
        refine zs rfl rfl rfl ?_
        refine zcl rfl rfl (c_chr_5 (show k < 8 by omega)) ?_
        refine zbr rfl rfl rfl (fun hc => ?_) (fun hc => ?_)
        · rw [decide_eq_true hc]
          refine zinc rfl rfl rfl ?_
          refine zs rfl rfl rfl ?_
          exact ih (k + 1) (by omega)
        · rw [decide_eq_false hc]
          refine zs rfl rfl rfl ?_
          exact zret rfl rfl ⟨rfl, rfl, rfl⟩
    exact loop 8 0 rfl
  · rw [decide_eq_false h, Bool.false_and]
    refine zbf (fun q => h (nI_inj (by omega) (by decide) q)) rfl rfl rfl ?_
    refine zs rfl rfl rfl ?_
    exact zret rfl rfl ⟨rfl, rfl, rfl⟩
theorem c_spellingOf_5 : zE1 X 42 [.int (nI 5)] M N (some (.ref 1005)) M N := by
  refine zE1i [(0, .int (nI 5))] rfl ?_
  refine zs rfl rfl rfl ?_
  refine zs rfl rfl rfl ?_
  refine zs rfl rfl rfl ?_
  exact zret rfl rfl ⟨rfl, rfl, rfl⟩
theorem c_isSpelled_6 (hT : cT M tb tl) (h120 : tl ≤ 120) {p e : Nat} (hp : p ≤ e) (he : e ≤ tl) : zE1 X 41 [.ref 29, .int (nI p), .int (nI e), .ref 1006] M N (some (.int (bI (spl tb p e 6)))) M N := by
  refine zE1i [(0, .ref 29), (1, .int (nI p)), (2, .int (nI e)), (3, .ref 1006)] rfl ?_
  unfold spl
  rw [show (z_wb 6).length = 4 from rfl]
  refine zs rfl rfl rfl ?_
  refine zs rfl rfl rfl ?_
  refine zs rfl rfl rfl ?_
  refine zto rfl (nI_sube hp) ?_
  refine zs rfl rfl rfl ?_
  refine zcl rfl rfl (c_len_6) ?_
  by_cases h : e - p = 4
  · rw [decide_eq_true h, Bool.true_and]
    refine zbt ((congrArg nI h)) rfl rfl rfl ?_
    refine zs rfl rfl rfl ?_
    refine zs rfl rfl rfl ?_
    have loop : ∀ d k, k + d = 4 → zW X 41 15 [(0, .ref 29), (1, .int (nI p)), (2, .int (nI e)), (3, .ref 1006), (4, .int (nI k))] [] M N (fun v1 M1 N1 => v1 = some (.int (bI (sp tb p (z_wb 6) d k))) ∧ M1 = M ∧ N1 = N) := by
      intro d
      induction d with
      | zero =>
        intro k hk
        obtain rfl : k = 4 := by omega
        refine zs rfl rfl rfl ?_
        refine zs rfl rfl rfl ?_
        refine zcl rfl rfl (c_len_6) ?_
        refine zs rfl rfl rfl ?_
        refine zs rfl rfl rfl ?_
        exact zret rfl rfl ⟨rfl, rfl, rfl⟩
      | succ d ih =>
        intro k hk
        unfold sp
        refine zs rfl rfl rfl ?_
        refine zs rfl rfl rfl ?_
        refine zcl rfl rfl (c_len_6) ?_
        refine zbf (nI_ge (by omega) (by omega)) rfl rfl rfl ?_
        refine zs rfl rfl rfl ?_
        refine zs rfl rfl rfl ?_
        refine zs rfl rfl rfl ?_
        refine zs rfl rfl rfl ?_
        refine zs rfl rfl rfl ?_
        refine zto rfl (nI_add p k) ?_
        refine zal rfl rfl rfl (by omega) (by decide) ?_
        refine zto rfl (hT.2 (p + k) (by omega)) ?_
        refine zs rfl rfl rfl ?_
        refine zs rfl rfl rfl ?_
        refine zcl rfl rfl (c_chr_6 (show k < 4 by omega)) ?_
        refine zbr rfl rfl rfl (fun hc => ?_) (fun hc => ?_)
        · rw [decide_eq_true hc]
          refine zinc rfl rfl rfl ?_
          refine zs rfl rfl rfl ?_
          exact ih (k + 1) (by omega)
        · rw [decide_eq_false hc]
          refine zs rfl rfl rfl ?_
          exact zret rfl rfl ⟨rfl, rfl, rfl⟩
    exact loop 4 0 rfl
  · rw [decide_eq_false h, Bool.false_and]
    refine zbf (fun q => h (nI_inj (by omega) (by decide) q)) rfl rfl rfl ?_
    refine zs rfl rfl rfl ?_
    exact zret rfl rfl ⟨rfl, rfl, rfl⟩
theorem c_spellingOf_6 : zE1 X 42 [.int (nI 6)] M N (some (.ref 1006)) M N := by
  refine zE1i [(0, .int (nI 6))] rfl ?_
  refine zs rfl rfl rfl ?_
  refine zs rfl rfl rfl ?_
  refine zs rfl rfl rfl ?_
  exact zret rfl rfl ⟨rfl, rfl, rfl⟩
theorem c_isSpelled_7 (hT : cT M tb tl) (h120 : tl ≤ 120) {p e : Nat} (hp : p ≤ e) (he : e ≤ tl) : zE1 X 41 [.ref 29, .int (nI p), .int (nI e), .ref 1007] M N (some (.int (bI (spl tb p e 7)))) M N := by
  refine zE1i [(0, .ref 29), (1, .int (nI p)), (2, .int (nI e)), (3, .ref 1007)] rfl ?_
  unfold spl
  rw [show (z_wb 7).length = 5 from rfl]
  refine zs rfl rfl rfl ?_
  refine zs rfl rfl rfl ?_
  refine zs rfl rfl rfl ?_
  refine zto rfl (nI_sube hp) ?_
  refine zs rfl rfl rfl ?_
  refine zcl rfl rfl (c_len_7) ?_
  by_cases h : e - p = 5
  · rw [decide_eq_true h, Bool.true_and]
    refine zbt ((congrArg nI h)) rfl rfl rfl ?_
    refine zs rfl rfl rfl ?_
    refine zs rfl rfl rfl ?_
    have loop : ∀ d k, k + d = 5 → zW X 41 15 [(0, .ref 29), (1, .int (nI p)), (2, .int (nI e)), (3, .ref 1007), (4, .int (nI k))] [] M N (fun v1 M1 N1 => v1 = some (.int (bI (sp tb p (z_wb 7) d k))) ∧ M1 = M ∧ N1 = N) := by
      intro d
      induction d with
      | zero =>
        intro k hk
        obtain rfl : k = 5 := by omega
        refine zs rfl rfl rfl ?_
        refine zs rfl rfl rfl ?_
        refine zcl rfl rfl (c_len_7) ?_
        refine zs rfl rfl rfl ?_
        refine zs rfl rfl rfl ?_
        exact zret rfl rfl ⟨rfl, rfl, rfl⟩
      | succ d ih =>
        intro k hk
        unfold sp
        refine zs rfl rfl rfl ?_
        refine zs rfl rfl rfl ?_
        refine zcl rfl rfl (c_len_7) ?_
        refine zbf (nI_ge (by omega) (by omega)) rfl rfl rfl ?_
        refine zs rfl rfl rfl ?_
        refine zs rfl rfl rfl ?_
        refine zs rfl rfl rfl ?_
        refine zs rfl rfl rfl ?_
        refine zs rfl rfl rfl ?_
        refine zto rfl (nI_add p k) ?_
        refine zal rfl rfl rfl (by omega) (by decide) ?_
        refine zto rfl (hT.2 (p + k) (by omega)) ?_
        refine zs rfl rfl rfl ?_
        refine zs rfl rfl rfl ?_
        refine zcl rfl rfl (c_chr_7 (show k < 5 by omega)) ?_
        refine zbr rfl rfl rfl (fun hc => ?_) (fun hc => ?_)
        · rw [decide_eq_true hc]
          refine zinc rfl rfl rfl ?_
          refine zs rfl rfl rfl ?_
          exact ih (k + 1) (by omega)
        · rw [decide_eq_false hc]
          refine zs rfl rfl rfl ?_
          exact zret rfl rfl ⟨rfl, rfl, rfl⟩
    exact loop 5 0 rfl
  · rw [decide_eq_false h, Bool.false_and]
    refine zbf (fun q => h (nI_inj (by omega) (by decide) q)) rfl rfl rfl ?_
    refine zs rfl rfl rfl ?_
    exact zret rfl rfl ⟨rfl, rfl, rfl⟩
theorem c_spellingOf_7 : zE1 X 42 [.int (nI 7)] M N (some (.ref 1007)) M N := by
  refine zE1i [(0, .int (nI 7))] rfl ?_
  refine zs rfl rfl rfl ?_
  refine zs rfl rfl rfl ?_
  refine zs rfl rfl rfl ?_
  exact zret rfl rfl ⟨rfl, rfl, rfl⟩
theorem c_isSpelled_8 (hT : cT M tb tl) (h120 : tl ≤ 120) {p e : Nat} (hp : p ≤ e) (he : e ≤ tl) : zE1 X 41 [.ref 29, .int (nI p), .int (nI e), .ref 1008] M N (some (.int (bI (spl tb p e 8)))) M N := by
  refine zE1i [(0, .ref 29), (1, .int (nI p)), (2, .int (nI e)), (3, .ref 1008)] rfl ?_
  unfold spl
  rw [show (z_wb 8).length = 4 from rfl]
  refine zs rfl rfl rfl ?_
  refine zs rfl rfl rfl ?_
  refine zs rfl rfl rfl ?_
  refine zto rfl (nI_sube hp) ?_
  refine zs rfl rfl rfl ?_
  refine zcl rfl rfl (c_len_8) ?_
  by_cases h : e - p = 4
  · rw [decide_eq_true h, Bool.true_and]
    refine zbt ((congrArg nI h)) rfl rfl rfl ?_
    refine zs rfl rfl rfl ?_
    refine zs rfl rfl rfl ?_
    have loop : ∀ d k, k + d = 4 → zW X 41 15 [(0, .ref 29), (1, .int (nI p)), (2, .int (nI e)), (3, .ref 1008), (4, .int (nI k))] [] M N (fun v1 M1 N1 => v1 = some (.int (bI (sp tb p (z_wb 8) d k))) ∧ M1 = M ∧ N1 = N) := by
      intro d
      induction d with
      | zero =>
        intro k hk
        obtain rfl : k = 4 := by omega
        refine zs rfl rfl rfl ?_
        refine zs rfl rfl rfl ?_
        refine zcl rfl rfl (c_len_8) ?_
        refine zs rfl rfl rfl ?_
        refine zs rfl rfl rfl ?_
        exact zret rfl rfl ⟨rfl, rfl, rfl⟩
      | succ d ih =>
        intro k hk
        unfold sp
        refine zs rfl rfl rfl ?_
        refine zs rfl rfl rfl ?_
        refine zcl rfl rfl (c_len_8) ?_
        refine zbf (nI_ge (by omega) (by omega)) rfl rfl rfl ?_
        refine zs rfl rfl rfl ?_
        refine zs rfl rfl rfl ?_
        refine zs rfl rfl rfl ?_
        refine zs rfl rfl rfl ?_
        refine zs rfl rfl rfl ?_
        refine zto rfl (nI_add p k) ?_
        refine zal rfl rfl rfl (by omega) (by decide) ?_
        refine zto rfl (hT.2 (p + k) (by omega)) ?_
        refine zs rfl rfl rfl ?_
        refine zs rfl rfl rfl ?_
        refine zcl rfl rfl (c_chr_8 (show k < 4 by omega)) ?_
        refine zbr rfl rfl rfl (fun hc => ?_) (fun hc => ?_)
        · rw [decide_eq_true hc]
          refine zinc rfl rfl rfl ?_
          refine zs rfl rfl rfl ?_
          exact ih (k + 1) (by omega)
        · rw [decide_eq_false hc]
          refine zs rfl rfl rfl ?_
          exact zret rfl rfl ⟨rfl, rfl, rfl⟩
    exact loop 4 0 rfl
  · rw [decide_eq_false h, Bool.false_and]
    refine zbf (fun q => h (nI_inj (by omega) (by decide) q)) rfl rfl rfl ?_
    refine zs rfl rfl rfl ?_
    exact zret rfl rfl ⟨rfl, rfl, rfl⟩
theorem c_spellingOf_8 : zE1 X 42 [.int (nI 8)] M N (some (.ref 1008)) M N := by
  refine zE1i [(0, .int (nI 8))] rfl ?_
  refine zs rfl rfl rfl ?_
  refine zs rfl rfl rfl ?_
  refine zs rfl rfl rfl ?_
  exact zret rfl rfl ⟨rfl, rfl, rfl⟩
theorem c_isSpelled_9 (hT : cT M tb tl) (h120 : tl ≤ 120) {p e : Nat} (hp : p ≤ e) (he : e ≤ tl) : zE1 X 41 [.ref 29, .int (nI p), .int (nI e), .ref 1009] M N (some (.int (bI (spl tb p e 9)))) M N := by
  refine zE1i [(0, .ref 29), (1, .int (nI p)), (2, .int (nI e)), (3, .ref 1009)] rfl ?_
  unfold spl
  rw [show (z_wb 9).length = 2 from rfl]
  refine zs rfl rfl rfl ?_
  refine zs rfl rfl rfl ?_
  refine zs rfl rfl rfl ?_
  refine zto rfl (nI_sube hp) ?_
  refine zs rfl rfl rfl ?_
  refine zcl rfl rfl (c_len_9) ?_
  by_cases h : e - p = 2
  · rw [decide_eq_true h, Bool.true_and]
    refine zbt ((congrArg nI h)) rfl rfl rfl ?_
    refine zs rfl rfl rfl ?_
    refine zs rfl rfl rfl ?_
    have loop : ∀ d k, k + d = 2 → zW X 41 15 [(0, .ref 29), (1, .int (nI p)), (2, .int (nI e)), (3, .ref 1009), (4, .int (nI k))] [] M N (fun v1 M1 N1 => v1 = some (.int (bI (sp tb p (z_wb 9) d k))) ∧ M1 = M ∧ N1 = N) := by
      intro d
      induction d with
      | zero =>
        intro k hk
        obtain rfl : k = 2 := by omega
        refine zs rfl rfl rfl ?_
        refine zs rfl rfl rfl ?_
        refine zcl rfl rfl (c_len_9) ?_
        refine zs rfl rfl rfl ?_
        refine zs rfl rfl rfl ?_
        exact zret rfl rfl ⟨rfl, rfl, rfl⟩
      | succ d ih =>
        intro k hk
        unfold sp
        refine zs rfl rfl rfl ?_
        refine zs rfl rfl rfl ?_
        refine zcl rfl rfl (c_len_9) ?_
        refine zbf (nI_ge (by omega) (by omega)) rfl rfl rfl ?_
        refine zs rfl rfl rfl ?_
        refine zs rfl rfl rfl ?_
        refine zs rfl rfl rfl ?_
        refine zs rfl rfl rfl ?_
        refine zs rfl rfl rfl ?_
        refine zto rfl (nI_add p k) ?_
        refine zal rfl rfl rfl (by omega) (by decide) ?_
        refine zto rfl (hT.2 (p + k) (by omega)) ?_
        refine zs rfl rfl rfl ?_
        refine zs rfl rfl rfl ?_
        refine zcl rfl rfl (c_chr_9 (show k < 2 by omega)) ?_
        refine zbr rfl rfl rfl (fun hc => ?_) (fun hc => ?_)
        · rw [decide_eq_true hc]
          refine zinc rfl rfl rfl ?_
          refine zs rfl rfl rfl ?_
          exact ih (k + 1) (by omega)
        · rw [decide_eq_false hc]
          refine zs rfl rfl rfl ?_
          exact zret rfl rfl ⟨rfl, rfl, rfl⟩
    exact loop 2 0 rfl
  · rw [decide_eq_false h, Bool.false_and]
    refine zbf (fun q => h (nI_inj (by omega) (by decide) q)) rfl rfl rfl ?_
    refine zs rfl rfl rfl ?_
    exact zret rfl rfl ⟨rfl, rfl, rfl⟩
theorem c_spellingOf_9 : zE1 X 42 [.int (nI 9)] M N (some (.ref 1009)) M N := by
  refine zE1i [(0, .int (nI 9))] rfl ?_
  refine zs rfl rfl rfl ?_
  refine zs rfl rfl rfl ?_
  refine zs rfl rfl rfl ?_
  exact zret rfl rfl ⟨rfl, rfl, rfl⟩
theorem c_isSpelled_10 (hT : cT M tb tl) (h120 : tl ≤ 120) {p e : Nat} (hp : p ≤ e) (he : e ≤ tl) : zE1 X 41 [.ref 29, .int (nI p), .int (nI e), .ref 1010] M N (some (.int (bI (spl tb p e 10)))) M N := by
  refine zE1i [(0, .ref 29), (1, .int (nI p)), (2, .int (nI e)), (3, .ref 1010)] rfl ?_
  unfold spl
  rw [show (z_wb 10).length = 2 from rfl]
  refine zs rfl rfl rfl ?_
  refine zs rfl rfl rfl ?_
  refine zs rfl rfl rfl ?_
  refine zto rfl (nI_sube hp) ?_
  refine zs rfl rfl rfl ?_
  refine zcl rfl rfl (c_len_10) ?_
  by_cases h : e - p = 2
  · rw [decide_eq_true h, Bool.true_and]
    refine zbt ((congrArg nI h)) rfl rfl rfl ?_
    refine zs rfl rfl rfl ?_
    refine zs rfl rfl rfl ?_
    have loop : ∀ d k, k + d = 2 → zW X 41 15 [(0, .ref 29), (1, .int (nI p)), (2, .int (nI e)), (3, .ref 1010), (4, .int (nI k))] [] M N (fun v1 M1 N1 => v1 = some (.int (bI (sp tb p (z_wb 10) d k))) ∧ M1 = M ∧ N1 = N) := by
      intro d
      induction d with
      | zero =>
        intro k hk
        obtain rfl : k = 2 := by omega
        refine zs rfl rfl rfl ?_
        refine zs rfl rfl rfl ?_
        refine zcl rfl rfl (c_len_10) ?_
        refine zs rfl rfl rfl ?_
        refine zs rfl rfl rfl ?_
        exact zret rfl rfl ⟨rfl, rfl, rfl⟩
      | succ d ih =>
        intro k hk
        unfold sp
        refine zs rfl rfl rfl ?_
        refine zs rfl rfl rfl ?_
        refine zcl rfl rfl (c_len_10) ?_
        refine zbf (nI_ge (by omega) (by omega)) rfl rfl rfl ?_
        refine zs rfl rfl rfl ?_
        refine zs rfl rfl rfl ?_
        refine zs rfl rfl rfl ?_
        refine zs rfl rfl rfl ?_
        refine zs rfl rfl rfl ?_
        refine zto rfl (nI_add p k) ?_
        refine zal rfl rfl rfl (by omega) (by decide) ?_
        refine zto rfl (hT.2 (p + k) (by omega)) ?_
        refine zs rfl rfl rfl ?_
        refine zs rfl rfl rfl ?_
        refine zcl rfl rfl (c_chr_10 (show k < 2 by omega)) ?_
        refine zbr rfl rfl rfl (fun hc => ?_) (fun hc => ?_)
        · rw [decide_eq_true hc]
          refine zinc rfl rfl rfl ?_
          refine zs rfl rfl rfl ?_
          exact ih (k + 1) (by omega)
        · rw [decide_eq_false hc]
          refine zs rfl rfl rfl ?_
          exact zret rfl rfl ⟨rfl, rfl, rfl⟩
    exact loop 2 0 rfl
  · rw [decide_eq_false h, Bool.false_and]
    refine zbf (fun q => h (nI_inj (by omega) (by decide) q)) rfl rfl rfl ?_
    refine zs rfl rfl rfl ?_
    exact zret rfl rfl ⟨rfl, rfl, rfl⟩
theorem c_spellingOf_10 : zE1 X 42 [.int (nI 10)] M N (some (.ref 1010)) M N := by
  refine zE1i [(0, .int (nI 10))] rfl ?_
  refine zs rfl rfl rfl ?_
  refine zs rfl rfl rfl ?_
  refine zs rfl rfl rfl ?_
  exact zret rfl rfl ⟨rfl, rfl, rfl⟩
theorem c_isSpelled_11 (hT : cT M tb tl) (h120 : tl ≤ 120) {p e : Nat} (hp : p ≤ e) (he : e ≤ tl) : zE1 X 41 [.ref 29, .int (nI p), .int (nI e), .ref 1011] M N (some (.int (bI (spl tb p e 11)))) M N := by
  refine zE1i [(0, .ref 29), (1, .int (nI p)), (2, .int (nI e)), (3, .ref 1011)] rfl ?_
  unfold spl
  rw [show (z_wb 11).length = 6 from rfl]
  refine zs rfl rfl rfl ?_
  refine zs rfl rfl rfl ?_
  refine zs rfl rfl rfl ?_
  refine zto rfl (nI_sube hp) ?_
  refine zs rfl rfl rfl ?_
  refine zcl rfl rfl (c_len_11) ?_
  by_cases h : e - p = 6
  · rw [decide_eq_true h, Bool.true_and]
    refine zbt ((congrArg nI h)) rfl rfl rfl ?_
    refine zs rfl rfl rfl ?_
    refine zs rfl rfl rfl ?_
    have loop : ∀ d k, k + d = 6 → zW X 41 15 [(0, .ref 29), (1, .int (nI p)), (2, .int (nI e)), (3, .ref 1011), (4, .int (nI k))] [] M N (fun v1 M1 N1 => v1 = some (.int (bI (sp tb p (z_wb 11) d k))) ∧ M1 = M ∧ N1 = N) := by
      intro d
      induction d with
      | zero =>
        intro k hk
        obtain rfl : k = 6 := by omega
        refine zs rfl rfl rfl ?_
        refine zs rfl rfl rfl ?_
        refine zcl rfl rfl (c_len_11) ?_
        refine zs rfl rfl rfl ?_
        refine zs rfl rfl rfl ?_
        exact zret rfl rfl ⟨rfl, rfl, rfl⟩
      | succ d ih =>
        intro k hk
        unfold sp
        refine zs rfl rfl rfl ?_
        refine zs rfl rfl rfl ?_
        refine zcl rfl rfl (c_len_11) ?_
        refine zbf (nI_ge (by omega) (by omega)) rfl rfl rfl ?_
        refine zs rfl rfl rfl ?_
        refine zs rfl rfl rfl ?_
        refine zs rfl rfl rfl ?_
        refine zs rfl rfl rfl ?_
        refine zs rfl rfl rfl ?_
        refine zto rfl (nI_add p k) ?_
        refine zal rfl rfl rfl (by omega) (by decide) ?_
        refine zto rfl (hT.2 (p + k) (by omega)) ?_
        refine zs rfl rfl rfl ?_
        refine zs rfl rfl rfl ?_
        refine zcl rfl rfl (c_chr_11 (show k < 6 by omega)) ?_
        refine zbr rfl rfl rfl (fun hc => ?_) (fun hc => ?_)
        · rw [decide_eq_true hc]
          refine zinc rfl rfl rfl ?_
          refine zs rfl rfl rfl ?_
          exact ih (k + 1) (by omega)
        · rw [decide_eq_false hc]
          refine zs rfl rfl rfl ?_
          exact zret rfl rfl ⟨rfl, rfl, rfl⟩
    exact loop 6 0 rfl
  · rw [decide_eq_false h, Bool.false_and]
    refine zbf (fun q => h (nI_inj (by omega) (by decide) q)) rfl rfl rfl ?_
    refine zs rfl rfl rfl ?_
    exact zret rfl rfl ⟨rfl, rfl, rfl⟩
theorem c_spellingOf_11 : zE1 X 42 [.int (nI 11)] M N (some (.ref 1011)) M N := by
  refine zE1i [(0, .int (nI 11))] rfl ?_
  refine zs rfl rfl rfl ?_
  refine zs rfl rfl rfl ?_
  refine zs rfl rfl rfl ?_
  exact zret rfl rfl ⟨rfl, rfl, rfl⟩
theorem c_isSpelled_12 (hT : cT M tb tl) (h120 : tl ≤ 120) {p e : Nat} (hp : p ≤ e) (he : e ≤ tl) : zE1 X 41 [.ref 29, .int (nI p), .int (nI e), .ref 1012] M N (some (.int (bI (spl tb p e 12)))) M N := by
  refine zE1i [(0, .ref 29), (1, .int (nI p)), (2, .int (nI e)), (3, .ref 1012)] rfl ?_
  unfold spl
  rw [show (z_wb 12).length = 4 from rfl]
  refine zs rfl rfl rfl ?_
  refine zs rfl rfl rfl ?_
  refine zs rfl rfl rfl ?_
  refine zto rfl (nI_sube hp) ?_
  refine zs rfl rfl rfl ?_
  refine zcl rfl rfl (c_len_12) ?_
  by_cases h : e - p = 4
  · rw [decide_eq_true h, Bool.true_and]
    refine zbt ((congrArg nI h)) rfl rfl rfl ?_
    refine zs rfl rfl rfl ?_
    refine zs rfl rfl rfl ?_
    have loop : ∀ d k, k + d = 4 → zW X 41 15 [(0, .ref 29), (1, .int (nI p)), (2, .int (nI e)), (3, .ref 1012), (4, .int (nI k))] [] M N (fun v1 M1 N1 => v1 = some (.int (bI (sp tb p (z_wb 12) d k))) ∧ M1 = M ∧ N1 = N) := by
      intro d
      induction d with
      | zero =>
        intro k hk
        obtain rfl : k = 4 := by omega
        refine zs rfl rfl rfl ?_
        refine zs rfl rfl rfl ?_
        refine zcl rfl rfl (c_len_12) ?_
        refine zs rfl rfl rfl ?_
        refine zs rfl rfl rfl ?_
        exact zret rfl rfl ⟨rfl, rfl, rfl⟩
      | succ d ih =>
        intro k hk
        unfold sp
        refine zs rfl rfl rfl ?_
        refine zs rfl rfl rfl ?_
        refine zcl rfl rfl (c_len_12) ?_
        refine zbf (nI_ge (by omega) (by omega)) rfl rfl rfl ?_
        refine zs rfl rfl rfl ?_
        refine zs rfl rfl rfl ?_
        refine zs rfl rfl rfl ?_
        refine zs rfl rfl rfl ?_
        refine zs rfl rfl rfl ?_
        refine zto rfl (nI_add p k) ?_
        refine zal rfl rfl rfl (by omega) (by decide) ?_
        refine zto rfl (hT.2 (p + k) (by omega)) ?_
        refine zs rfl rfl rfl ?_
        refine zs rfl rfl rfl ?_
        refine zcl rfl rfl (c_chr_12 (show k < 4 by omega)) ?_
        refine zbr rfl rfl rfl (fun hc => ?_) (fun hc => ?_)
        · rw [decide_eq_true hc]
          refine zinc rfl rfl rfl ?_
          refine zs rfl rfl rfl ?_
          exact ih (k + 1) (by omega)
        · rw [decide_eq_false hc]
          refine zs rfl rfl rfl ?_
          exact zret rfl rfl ⟨rfl, rfl, rfl⟩
    exact loop 4 0 rfl
  · rw [decide_eq_false h, Bool.false_and]
    refine zbf (fun q => h (nI_inj (by omega) (by decide) q)) rfl rfl rfl ?_
    refine zs rfl rfl rfl ?_
    exact zret rfl rfl ⟨rfl, rfl, rfl⟩
theorem c_spellingOf_12 : zE1 X 42 [.int (nI 12)] M N (some (.ref 1012)) M N := by
  refine zE1i [(0, .int (nI 12))] rfl ?_
  refine zs rfl rfl rfl ?_
  refine zs rfl rfl rfl ?_
  refine zs rfl rfl rfl ?_
  exact zret rfl rfl ⟨rfl, rfl, rfl⟩
theorem c_isSpelled_13 (hT : cT M tb tl) (h120 : tl ≤ 120) {p e : Nat} (hp : p ≤ e) (he : e ≤ tl) : zE1 X 41 [.ref 29, .int (nI p), .int (nI e), .ref 1013] M N (some (.int (bI (spl tb p e 13)))) M N := by
  refine zE1i [(0, .ref 29), (1, .int (nI p)), (2, .int (nI e)), (3, .ref 1013)] rfl ?_
  unfold spl
  rw [show (z_wb 13).length = 4 from rfl]
  refine zs rfl rfl rfl ?_
  refine zs rfl rfl rfl ?_
  refine zs rfl rfl rfl ?_
  refine zto rfl (nI_sube hp) ?_
  refine zs rfl rfl rfl ?_
  refine zcl rfl rfl (c_len_13) ?_
  by_cases h : e - p = 4
  · rw [decide_eq_true h, Bool.true_and]
    refine zbt ((congrArg nI h)) rfl rfl rfl ?_
    refine zs rfl rfl rfl ?_
    refine zs rfl rfl rfl ?_
    have loop : ∀ d k, k + d = 4 → zW X 41 15 [(0, .ref 29), (1, .int (nI p)), (2, .int (nI e)), (3, .ref 1013), (4, .int (nI k))] [] M N (fun v1 M1 N1 => v1 = some (.int (bI (sp tb p (z_wb 13) d k))) ∧ M1 = M ∧ N1 = N) := by
      intro d
      induction d with
      | zero =>
        intro k hk
        obtain rfl : k = 4 := by omega
        refine zs rfl rfl rfl ?_
        refine zs rfl rfl rfl ?_
        refine zcl rfl rfl (c_len_13) ?_
        refine zs rfl rfl rfl ?_
        refine zs rfl rfl rfl ?_
        exact zret rfl rfl ⟨rfl, rfl, rfl⟩
      | succ d ih =>
        intro k hk
        unfold sp
        refine zs rfl rfl rfl ?_
        refine zs rfl rfl rfl ?_
        refine zcl rfl rfl (c_len_13) ?_
        refine zbf (nI_ge (by omega) (by omega)) rfl rfl rfl ?_
        refine zs rfl rfl rfl ?_
        refine zs rfl rfl rfl ?_
        refine zs rfl rfl rfl ?_
        refine zs rfl rfl rfl ?_
        refine zs rfl rfl rfl ?_
        refine zto rfl (nI_add p k) ?_
        refine zal rfl rfl rfl (by omega) (by decide) ?_
        refine zto rfl (hT.2 (p + k) (by omega)) ?_
        refine zs rfl rfl rfl ?_
        refine zs rfl rfl rfl ?_
        refine zcl rfl rfl (c_chr_13 (show k < 4 by omega)) ?_
        refine zbr rfl rfl rfl (fun hc => ?_) (fun hc => ?_)
        · rw [decide_eq_true hc]
          refine zinc rfl rfl rfl ?_
          refine zs rfl rfl rfl ?_
          exact ih (k + 1) (by omega)
        · rw [decide_eq_false hc]
          refine zs rfl rfl rfl ?_
          exact zret rfl rfl ⟨rfl, rfl, rfl⟩
    exact loop 4 0 rfl
  · rw [decide_eq_false h, Bool.false_and]
    refine zbf (fun q => h (nI_inj (by omega) (by decide) q)) rfl rfl rfl ?_
    refine zs rfl rfl rfl ?_
    exact zret rfl rfl ⟨rfl, rfl, rfl⟩
theorem c_spellingOf_13 : zE1 X 42 [.int (nI 13)] M N (some (.ref 1013)) M N := by
  refine zE1i [(0, .int (nI 13))] rfl ?_
  refine zs rfl rfl rfl ?_
  refine zs rfl rfl rfl ?_
  refine zs rfl rfl rfl ?_
  exact zret rfl rfl ⟨rfl, rfl, rfl⟩
theorem c_spellingOf : ∀ {i : Nat}, i < 14 → zE1 X 42 [.int (nI i)] M N (some (.ref (1000 + i))) M N
  | 0, _ => c_spellingOf_0
  | 1, _ => c_spellingOf_1
  | 2, _ => c_spellingOf_2
  | 3, _ => c_spellingOf_3
  | 4, _ => c_spellingOf_4
  | 5, _ => c_spellingOf_5
  | 6, _ => c_spellingOf_6
  | 7, _ => c_spellingOf_7
  | 8, _ => c_spellingOf_8
  | 9, _ => c_spellingOf_9
  | 10, _ => c_spellingOf_10
  | 11, _ => c_spellingOf_11
  | 12, _ => c_spellingOf_12
  | 13, _ => c_spellingOf_13
  | _ + 14, h => absurd h (by omega)
theorem c_isSpelled (hT : cT M tb tl) (h120 : tl ≤ 120) {p e : Nat} (hp : p ≤ e) (he : e ≤ tl) : ∀ {i : Nat}, i < 14 → zE1 X 41 [.ref 29, .int (nI p), .int (nI e), .ref (1000 + i)] M N (some (.int (bI (spl tb p e i)))) M N
  | 0, _ => c_isSpelled_0 hT h120 hp he
  | 1, _ => c_isSpelled_1 hT h120 hp he
  | 2, _ => c_isSpelled_2 hT h120 hp he
  | 3, _ => c_isSpelled_3 hT h120 hp he
  | 4, _ => c_isSpelled_4 hT h120 hp he
  | 5, _ => c_isSpelled_5 hT h120 hp he
  | 6, _ => c_isSpelled_6 hT h120 hp he
  | 7, _ => c_isSpelled_7 hT h120 hp he
  | 8, _ => c_isSpelled_8 hT h120 hp he
  | 9, _ => c_isSpelled_9 hT h120 hp he
  | 10, _ => c_isSpelled_10 hT h120 hp he
  | 11, _ => c_isSpelled_11 hT h120 hp he
  | 12, _ => c_isSpelled_12 hT h120 hp he
  | 13, _ => c_isSpelled_13 hT h120 hp he
  | _ + 14, h => absurd h (by omega)
theorem c_wordOf (hT : cT M tb tl) (h120 : tl ≤ 120) {p e : Nat} (hp : p ≤ e) (he : e ≤ tl) : zE1 X 40 [.ref 29, .int (nI p), .int (nI e)] M N (some (.int (wdo tb p e))) M N := by
  refine zE1i [(0, .ref 29), (1, .int (nI p)), (2, .int (nI e))] rfl ?_
  unfold wdo
  refine zs rfl rfl rfl ?_
  refine zs rfl rfl rfl ?_
  have loop : ∀ d i, i + d = 14 → zW X 40 2 [(0, .ref 29), (1, .int (nI p)), (2, .int (nI e)), (3, .int (nI i))] [] M N (fun v1 M1 N1 => v1 = some (.int (fst1 (spl tb p e) d i)) ∧ M1 = M ∧ N1 = N) := by
    intro d
    induction d with
    | zero =>
      intro i hi
      obtain rfl : i = 14 := by omega
      refine zs rfl rfl rfl ?_
      refine zs rfl rfl rfl ?_
      first | refine zs rfl rfl rfl ?_ | refine zbt (nI_le (a := 14) (by omega) (by omega)) rfl rfl rfl ?_
      refine zs rfl rfl rfl ?_
      exact zret rfl rfl ⟨rfl, rfl, rfl⟩
    | succ d ih =>
      intro i hi
      unfold fst1
      refine zs rfl rfl rfl ?_
      refine zs rfl rfl rfl ?_
      refine zbf (nI_ge (b := 14) (by omega) (by omega)) rfl rfl rfl ?_
      refine zs rfl rfl rfl ?_
      refine zs rfl rfl rfl ?_
      refine zs rfl rfl rfl ?_
      refine zs rfl rfl rfl ?_
      refine zcl rfl rfl (c_spellingOf (show i < 14 by omega)) ?_
      refine zcl rfl rfl (c_isSpelled hT h120 hp he (show i < 14 by omega)) ?_
      cases spl tb p e i
      · refine zs rfl rfl rfl ?_
        refine zinc rfl rfl rfl ?_
        refine zs rfl rfl rfl ?_
        exact ih (i + 1) (by omega)
      · refine zs rfl rfl rfl ?_
        refine zs rfl rfl rfl ?_
        exact zret rfl rfl ⟨rfl, rfl, rfl⟩
  exact loop 14 0 rfl
theorem c_addToken {t : Nat} (ht : M 29 5 = nI t) (h : t < 121) (k s v : Int32) : zE1 X 34 [.ref 29, .int k, .int s, .int v] M N none (z_up (z_up (z_up (z_up M 31 t k) 32 t s) 33 t v) 29 5 (nI (t + 1))) N := by
  refine zE1i [(0, .ref 29), (1, .int k), (2, .int s), (3, .int v)] rfl ?_
  refine zs rfl rfl rfl ?_
  refine zs rfl rfl rfl ?_
  refine zs rfl rfl rfl ?_
  refine zs rfl rfl rfl ?_
  refine zto rfl ht ?_
  refine zs rfl rfl rfl ?_
  refine zas rfl rfl rfl rfl (by omega) (by decide) ?_
  refine zs rfl rfl rfl ?_
  refine zs rfl rfl rfl ?_
  refine zs rfl rfl rfl ?_
  refine zs rfl rfl rfl ?_
  refine zto rfl ht ?_
  refine zs rfl rfl rfl ?_
  refine zas rfl rfl rfl rfl (by omega) (by decide) ?_
  refine zs rfl rfl rfl ?_
  refine zs rfl rfl rfl ?_
  refine zs rfl rfl rfl ?_
  refine zs rfl rfl rfl ?_
  refine zto rfl ht ?_
  refine zs rfl rfl rfl ?_
  refine zas rfl rfl rfl rfl (by omega) (by decide) ?_
  refine zs rfl rfl rfl ?_
  refine zs rfl rfl rfl ?_
  refine zs rfl rfl rfl ?_
  refine zto rfl ht ?_
  refine zs rfl rfl rfl ?_
  refine zs rfl rfl rfl ?_
  refine zto rfl (nI_1 t) ?_
  refine zs rfl rfl rfl ?_
  exact zret rfl rfl ⟨rfl, rfl, rfl⟩
theorem cT.tok (h : cT M tb tl) (t : Nat) (k s v x : Int32) : cT (z_up (z_up (z_up (z_up M 31 t k) 32 t s) 33 t v) 29 5 x) tb tl := ⟨h.1, fun i hi => h.2 i hi⟩
/-- the tokens so far -/
def Tsf (M : zM) (tb : zS) (tl t : Nat) : Prop := ∀ i, i < t → M 31 i = nI (tk tb tl (ps tb tl i)) ∧ M 32 i = nI (ps tb tl i) ∧ M 33 i = cv tb tl (ps tb tl i)
theorem Tsf.add {t : Nat} (h : Tsf M tb tl t) {k s v x : Int32} (hk : k = nI (tk tb tl (ps tb tl t))) (hs : s = nI (ps tb tl t)) (hv : v = cv tb tl (ps tb tl t)) : Tsf (z_up (z_up (z_up (z_up M 31 t k) 32 t s) 33 t v) 29 5 x) tb tl (t + 1) := fun i hi => by
  have e1 : z_up (z_up (z_up (z_up M 31 t k) 32 t s) 33 t v) 29 5 x 31 i = if i = t then k else M 31 i := by
    rw [z_up_ne _ _ _ (by decide), z_up_ne _ _ _ (by decide), z_up_ne _ _ _ (by decide), z_up_a]
  have e2 : z_up (z_up (z_up (z_up M 31 t k) 32 t s) 33 t v) 29 5 x 32 i = if i = t then s else M 32 i := by
    rw [z_up_ne _ _ _ (by decide), z_up_ne _ _ _ (by decide), z_up_a, z_up_ne _ _ _ (by decide)]
  have e3 : z_up (z_up (z_up (z_up M 31 t k) 32 t s) 33 t v) 29 5 x 33 i = if i = t then v else M 33 i := by
    rw [z_up_ne _ _ _ (by decide), z_up_a, z_up_ne _ _ _ (by decide), z_up_ne _ _ _ (by decide)]
  rw [e1, e2, e3]
  by_cases e : i = t
  · subst e
    rw [if_pos rfl, if_pos rfl, if_pos rfl]
    exact ⟨hk, hs, hv⟩
  · rw [if_neg e, if_neg e, if_neg e]
    exact h i (by omega)
theorem c_findTokens (hT : cT M tb tl) (h120 : tl ≤ 120) : zV X 33 [.ref 29] M N (fun v M' N' => v = none ∧ N' = N ∧ Fr [29, 31, 32, 33] M M' ∧ cT M' tb tl ∧ ∃ c, Tks M' tb tl c) := by
  refine zVi [(0, .ref 29)] rfl ?_
  refine zs rfl rfl rfl ?_
  refine zs rfl rfl rfl ?_
  refine zs rfl rfl rfl ?_
  refine zs rfl rfl rfl ?_
  refine zs rfl rfl rfl ?_
  refine zs rfl rfl rfl ?_
  refine zs rfl rfl rfl ?_
  have frT : ∀ {M1 : zM} {t : Nat} {k s v x : Int32}, Fr [29, 31, 32, 33] M M1 → Fr [29, 31, 32, 33] M (z_up (z_up (z_up (z_up M1 31 t k) 32 t s) 33 t v) 29 5 x) := fun hf => (((hf.trans (Fr.up (by decide))).trans (Fr.up (by decide))).trans (Fr.up (by decide))).trans (Fr.up (by decide))
  have loop : ∀ d p step t M1 lc, tl ≤ p + d → p ≤ tl → step ≤ p → t ≤ p → (lc = [] ∨ ∃ a : Int32, lc = [(3, Value.int a)]) → Fr [29, 31, 32, 33] M M1 → cT M1 tb tl → M1 29 5 = nI t → Tsf M1 tb tl t → sk tb tl p = ps tb tl t → zW X 33 9 ((0, .ref 29) :: (1, .int (nI p)) :: (2, .int (nI step)) :: lc) [] M1 N (fun v M' N' => v = none ∧ N' = N ∧ Fr [29, 31, 32, 33] M M' ∧ cT M' tb tl ∧ ∃ c, Tks M' tb tl c) := by
    intro d
    have done : ∀ p step t M1 lc, p = tl → step ≤ p → t ≤ p → (lc = [] ∨ ∃ a : Int32, lc = [(3, Value.int a)]) → Fr [29, 31, 32, 33] M M1 → cT M1 tb tl → M1 29 5 = nI t → Tsf M1 tb tl t → sk tb tl p = ps tb tl t → zW X 33 9 ((0, .ref 29) :: (1, .int (nI p)) :: (2, .int (nI step)) :: lc) [] M1 N (fun v M' N' => v = none ∧ N' = N ∧ Fr [29, 31, 32, 33] M M' ∧ cT M' tb tl ∧ ∃ c, Tks M' tb tl c) := by
      intro p step t M1 lc hp hs ht hlc hf hT1 h5 hts hsk
      subst hp
      rw [sk_end (Nat.le_refl _)] at hsk
      have fin : ∀ lc, (lc = [] ∨ ∃ a : Int32, lc = [(3, Value.int a)]) → zW X 33 132 ((0, .ref 29) :: (1, .int (nI p)) :: (2, .int (nI step)) :: lc) [] M1 N (fun v M' N' => v = none ∧ N' = N ∧ Fr [29, 31, 32, 33] M M' ∧ cT M' tb p ∧ ∃ c, Tks M' tb p c) := by
        intro lc hlc
        have post : (none : Option Value) = none ∧ N = N ∧ Fr [29, 31, 32, 33] M (z_up (z_up (z_up (z_up M1 31 t 0) 32 t (nI p)) 33 t 0) 29 5 (nI (t + 1))) ∧ cT (z_up (z_up (z_up (z_up M1 31 t 0) 32 t (nI p)) 33 t 0) 29 5 (nI (t + 1))) tb p ∧ ∃ c, Tks (z_up (z_up (z_up (z_up M1 31 t 0) 32 t (nI p)) 33 t 0) 29 5 (nI (t + 1))) tb p c := by
          refine ⟨rfl, rfl, frT hf, hT1.tok _ _ _ _ _, t + 1, by omega, by omega, rfl, hts.add ?_ ?_ ?_, ?_⟩
          · rw [← hsk]; unfold tk; rw [if_neg (Nat.lt_irrefl _)]; rfl
          · rw [← hsk]
          · rw [← hsk]; unfold cv; rw [if_neg (Nat.lt_irrefl _)]
          · rw [Nat.add_sub_cancel]; exact hsk.symm
        rcases hlc with rfl | ⟨a, rfl⟩
        · refine zs rfl rfl rfl ?_
          refine zs rfl rfl rfl ?_
          refine zs rfl rfl rfl ?_
          refine zs rfl rfl rfl ?_
          refine zto rfl hT1.1 ?_
          refine zs rfl rfl rfl ?_
          refine zcl rfl rfl (c_addToken h5 (by omega) 0 (nI p) 0) ?_
          exact zret rfl rfl post
        · refine zs rfl rfl rfl ?_
          refine zs rfl rfl rfl ?_
          refine zs rfl rfl rfl ?_
          refine zs rfl rfl rfl ?_
          refine zto rfl hT1.1 ?_
          refine zs rfl rfl rfl ?_
          refine zcl rfl rfl (c_addToken h5 (by omega) 0 (nI p) 0) ?_
          exact zret rfl rfl post
      have f := fin lc hlc
      by_cases h : step = 120
      · subst h
        rcases hlc with rfl | ⟨a, rfl⟩
        · refine zs rfl rfl rfl ?_
          refine zs rfl rfl rfl ?_
          refine zs rfl rfl rfl ?_
          exact f
        · refine zs rfl rfl rfl ?_
          refine zs rfl rfl rfl ?_
          refine zs rfl rfl rfl ?_
          exact f
      · rcases hlc with rfl | ⟨a, rfl⟩
        · refine zs rfl rfl rfl ?_
          refine zs rfl rfl rfl ?_
          refine zbf (nI_ge (b := 120) (by omega) (by omega)) rfl rfl rfl ?_
          refine zs rfl rfl rfl ?_
          refine zs rfl rfl rfl ?_
          refine zs rfl rfl rfl ?_
          refine zto rfl hT1.1 ?_
          refine zbt (nI_le (by omega) (by omega)) rfl rfl rfl ?_
          exact f
        · refine zs rfl rfl rfl ?_
          refine zs rfl rfl rfl ?_
          refine zbf (nI_ge (b := 120) (by omega) (by omega)) rfl rfl rfl ?_
          refine zs rfl rfl rfl ?_
          refine zs rfl rfl rfl ?_
          refine zs rfl rfl rfl ?_
          refine zto rfl hT1.1 ?_
          refine zbt (nI_le (by omega) (by omega)) rfl rfl rfl ?_
          exact f
    induction d with
    | zero =>
      intro p step t M1 lc hd hp
      exact done p step t M1 lc (by omega)
    | succ d ih =>
      intro p step t M1 lc hd hp hs ht hlc hf hT1 h5 hts hsk
      by_cases hpe : p = tl
      · exact done p step t M1 lc hpe hs ht hlc hf hT1 h5 hts hsk
      · have hpl : p < tl := by omega
        have adv : ∀ p' t' M3, p < p' → p' ≤ tl → t' ≤ p' → Fr [29, 31, 32, 33] M M3 → cT M3 tb tl → M3 29 5 = nI t' → Tsf M3 tb tl t' → sk tb tl p' = ps tb tl t' → zW X 33 124 [(0, .ref 29), (1, .int (nI p)), (2, .int (nI step)), (3, .int (nI p'))] [] M3 N (fun v M' N' => v = none ∧ N' = N ∧ Fr [29, 31, 32, 33] M M' ∧ cT M' tb tl ∧ ∃ c, Tks M' tb tl c) := by
          intro p' t' M3 h1 h2 h3 hf3 hT3 h53 hts3 hsk3
          refine zs rfl rfl rfl ?_
          refine zs rfl rfl rfl ?_
          refine zinc rfl rfl rfl ?_
          refine zs rfl rfl rfl ?_
          exact ih p' (step + 1) t' M3 [(3, .int (nI p'))] (by omega) h2 (by omega) h3 (Or.inr ⟨_, rfl⟩) hf3 hT3 h53 hts3 hsk3
        have body : zW X 33 27 [(0, .ref 29), (1, .int (nI p)), (2, .int (nI step)), (3, .int (nI (p + 1)))] [] M1 N (fun v M' N' => v = none ∧ N' = N ∧ Fr [29, 31, 32, 33] M M' ∧ cT M' tb tl ∧ ∃ c, Tks M' tb tl c) := by
          refine zs rfl rfl rfl ?_
          refine zs rfl rfl rfl ?_
          refine zcl rfl rfl (c_hasLetter hT1 h120 hpl) ?_
          have nb : isB tb p = false → ps tb tl t = p := fun h => by rw [← hsk, sk_n h]
          have nxt : isB tb p = false → sk tb tl (en tb tl p) = ps tb tl (t + 1) := fun h => by
            show _ = nx tb tl (ps tb tl t)
            rw [nb h]; rfl
          cases hL : isL tb p with
          | true =>
            have hb : isB tb p = false := by
              unfold isL at hL
              unfold isB
              have := of_decide_eq_true hL
              refine decide_eq_false (fun q => ?_)
              rw [q] at this
              exact absurd this (by decide)
            have hen : en tb tl p = eL tb tl p := by unfold en; rw [if_pos hpl, if_pos hL]
            have heL := eL_gt hpl hL
            refine zs rfl rfl rfl ?_
            refine zs rfl rfl rfl ?_
            refine zs rfl rfl rfl ?_
            refine zcl rfl rfl (c_behindLetters hT1 h120 hpl) ?_
            refine zs rfl rfl rfl ?_
            refine zs rfl rfl rfl ?_
            refine zs rfl rfl rfl ?_
            refine zs rfl rfl rfl ?_
            refine zs rfl rfl rfl ?_
            refine zs rfl rfl rfl ?_
            refine zs rfl rfl rfl ?_
            refine zcl rfl rfl (c_wordOf hT1 h120 (show p ≤ eL tb tl p by omega) heL.2) ?_
            refine zcl rfl rfl (c_addToken h5 (by omega) 1 (nI p) (wdo tb p (eL tb tl p))) ?_
            refine zs rfl rfl rfl ?_
            refine adv (eL tb tl p) (t + 1) _ heL.1 heL.2 (by omega) (frT hf) (hT1.tok _ _ _ _ _) rfl (hts.add ?_ ?_ ?_) ?_
            · rw [nb hb]; unfold tk; rw [if_pos hpl, if_pos hL]; rfl
            · rw [nb hb]
            · rw [nb hb]; unfold cv; rw [if_pos hpl, if_pos hL]
            · rw [← hen]; exact nxt hb
          | false =>
            refine zs rfl rfl rfl ?_
            refine zs rfl rfl rfl ?_
            refine zs rfl rfl rfl ?_
            refine zcl rfl rfl (c_hasDigit hT1 h120 hpl) ?_
            cases hD : isD tb p with
            | true =>
              have hb : isB tb p = false := by
                unfold isD at hD
                unfold isB
                have := of_decide_eq_true hD
                refine decide_eq_false (fun q => ?_)
                rw [q] at this
                exact absurd this (by decide)
              have hen : en tb tl p = eD tb tl p := by unfold en; rw [if_pos hpl, if_neg (by rw [hL]; decide), if_pos hD]
              have heD := eD_gt hpl hD
              refine zs rfl rfl rfl ?_
              refine zs rfl rfl rfl ?_
              refine zs rfl rfl rfl ?_
              refine zcl rfl rfl (c_behindDigits hT1 h120 hpl) ?_
              refine zs rfl rfl rfl ?_
              refine zs rfl rfl rfl ?_
              refine zs rfl rfl rfl ?_
              refine zs rfl rfl rfl ?_
              refine zs rfl rfl rfl ?_
              refine zs rfl rfl rfl ?_
              refine zs rfl rfl rfl ?_
              refine zcl rfl rfl (c_numberOf hT1 h120 (show p ≤ eD tb tl p by omega) heD.2) ?_
              refine zcl rfl rfl (c_addToken h5 (by omega) 2 (nI p) (cnv tb (eD tb tl p - p) p 0)) ?_
              refine zs rfl rfl rfl ?_
              refine adv (eD tb tl p) (t + 1) _ heD.1 heD.2 (by omega) (frT hf) (hT1.tok _ _ _ _ _) rfl (hts.add ?_ ?_ ?_) ?_
              · rw [nb hb]; unfold tk; rw [if_pos hpl, if_neg (by rw [hL]; decide), if_pos hD]; rfl
              · rw [nb hb]
              · rw [nb hb]; unfold cv; rw [if_pos hpl, if_neg (by rw [hL]; decide), if_pos hD]
              · rw [← hen]; exact nxt hb
            | false =>
              have hen : en tb tl p = p + 1 := by unfold en; rw [if_pos hpl, if_neg (by rw [hL]; decide), if_neg (by rw [hD]; decide)]
              have hcv : cv tb tl p = 0 := by unfold cv; rw [if_pos hpl, if_neg (by rw [hL]; decide), if_neg (by rw [hD]; decide)]
              refine zs rfl rfl rfl ?_
              refine zs rfl rfl rfl ?_
              refine zs rfl rfl rfl ?_
              refine zs rfl rfl rfl ?_
              refine zal rfl rfl rfl (by omega) (by decide) ?_
              refine zto rfl (hT1.2 p hpl) ?_
              refine zs rfl rfl rfl ?_
              refine zbr rfl rfl rfl (fun hc => ?_) (fun hc => ?_)
              · refine zs rfl rfl rfl ?_
                refine zs rfl rfl rfl ?_
                refine zs rfl rfl rfl ?_
                refine zal rfl rfl rfl (by omega) (by decide) ?_
                refine zto rfl (hT1.2 p hpl) ?_
                refine zs rfl rfl rfl ?_
                refine zbr rfl rfl rfl (fun hd => ?_) (fun hd => ?_)
                · have hb : isB tb p = true := decide_eq_true hd
                  refine adv (p + 1) t M1 (by omega) (by omega) (by omega) hf hT1 h5 hts ?_
                  rw [← hsk]; exact (sk_b hpl hb).symm
                · have hb : isB tb p = false := decide_eq_false hd
                  refine zs rfl rfl rfl ?_
                  refine zs rfl rfl rfl ?_
                  refine zs rfl rfl rfl ?_
                  refine zs rfl rfl rfl ?_
                  refine zcl rfl rfl (c_addToken h5 (by omega) 4 (nI p) 0) ?_
                  refine adv (p + 1) (t + 1) _ (by omega) (by omega) (by omega) (frT hf) (hT1.tok _ _ _ _ _) rfl (hts.add ?_ ?_ ?_) ?_
                  · rw [nb hb]; unfold tk; rw [if_pos hpl, if_neg (by rw [hL]; decide), if_neg (by rw [hD]; decide), if_neg hc]; rfl
                  · rw [nb hb]
                  · rw [nb hb, hcv]
                  · rw [← hen]; exact nxt hb
              · have hc' := Decidable.not_not.mp hc
                have hb : isB tb p = false := by unfold isB; rw [hc']; decide
                refine zs rfl rfl rfl ?_
                refine zs rfl rfl rfl ?_
                refine zs rfl rfl rfl ?_
                refine zs rfl rfl rfl ?_
                refine zcl rfl rfl (c_addToken h5 (by omega) 3 (nI p) 0) ?_
                refine zs rfl rfl rfl ?_
                refine adv (p + 1) (t + 1) _ (by omega) (by omega) (by omega) (frT hf) (hT1.tok _ _ _ _ _) rfl (hts.add ?_ ?_ ?_) ?_
                · rw [nb hb]; unfold tk; rw [if_pos hpl, if_neg (by rw [hL]; decide), if_neg (by rw [hD]; decide), if_pos hc']; rfl
                · rw [nb hb]
                · rw [nb hb, hcv]
                · rw [← hen]; exact nxt hb
        rcases hlc with rfl | ⟨a, rfl⟩
        · refine zs rfl rfl rfl ?_
          refine zs rfl rfl rfl ?_
          refine zbf (nI_ge (b := 120) (by omega) (by omega)) rfl rfl rfl ?_
          refine zs rfl rfl rfl ?_
          refine zs rfl rfl rfl ?_
          refine zs rfl rfl rfl ?_
          refine zto rfl hT1.1 ?_
          refine zbf (nI_ge (by omega) (by omega)) rfl rfl rfl ?_
          refine zs rfl rfl rfl ?_
          refine zs rfl rfl rfl ?_
          refine zs rfl rfl rfl ?_
          refine zto rfl (nI_1 p) ?_
          refine zs rfl rfl rfl ?_
          exact body
        · refine zs rfl rfl rfl ?_
          refine zs rfl rfl rfl ?_
          refine zbf (nI_ge (b := 120) (by omega) (by omega)) rfl rfl rfl ?_
          refine zs rfl rfl rfl ?_
          refine zs rfl rfl rfl ?_
          refine zs rfl rfl rfl ?_
          refine zto rfl hT1.1 ?_
          refine zbf (nI_ge (by omega) (by omega)) rfl rfl rfl ?_
          refine zs rfl rfl rfl ?_
          refine zs rfl rfl rfl ?_
          refine zs rfl rfl rfl ?_
          refine zto rfl (nI_1 p) ?_
          refine zs rfl rfl rfl ?_
          exact body
  exact loop tl 0 0 0 (z_up M 29 5 0) [] (by omega) (Nat.zero_le _) (Nat.le_refl _) (Nat.le_refl _) (Or.inl rfl) (Fr.up (by decide)) ⟨hT.1, fun i hi => hT.2 i hi⟩ rfl (fun i hi => absurd hi (Nat.not_lt_zero i)) rfl
end TOK
