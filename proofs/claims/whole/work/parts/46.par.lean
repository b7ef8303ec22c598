/-! The text: one parser for both sides, over places on the tape; the class's teller. -/
abbrev zT : Type := (zS × Nat) ⊕ Nat
section PARS
variable (tb : zS) (tl : Nat)
def pN (p : Nat) (lw hi : Int32) : Bool := decide (tk tb tl p = 2 ∧ lw ≤ cv tb tl p ∧ cv tb tl p ≤ hi)
def pW (p : Nat) (w : Int32) : Bool := decide (tk tb tl p = 1 ∧ cv tb tl p = w)
def isBr (p : Nat) : Bool := pW tb tl p 9 || pW tb tl p 10
def pPer (w lw hi : Int32) (g : zS → Int32 → zS) (S : zS) (p : Nat) : zT := cond (pW tb tl p w) (cond (pN tb tl (nx tb tl p) lw hi) (.inl (g S (cv tb tl (nx tb tl p)), nx tb tl (nx tb tl p))) (.inr (nx tb tl p))) (.inl (S, p))
def pPair (g : zS → Nat → Int32 → zS) (m hi : Int32) (S : zS) (p : Nat) : zT := cond (pN tb tl (nx tb tl p) 0 m) (cond (pN tb tl (nx tb tl (nx tb tl p)) 0 hi) (.inl (g S (cv tb tl (nx tb tl p)).toNatClampNeg (cv tb tl (nx tb tl (nx tb tl p))), nx tb tl (nx tb tl (nx tb tl p)))) (.inr (nx tb tl (nx tb tl p)))) (.inr (nx tb tl p))
def pBer (n s : Nat) (S : zS) (p : Nat) : zT := cond (pW tb tl p 9) (cond (lo S n (nI s) 12 (cv tb tl (nx tb tl p))) (.inr (nx tb tl p)) (cond (pN tb tl (nx tb tl p) 0 (nI n - 1)) (.inl (upl S s (cv tb tl (nx tb tl p)), nx tb tl (nx tb tl p))) (.inr (nx tb tl p)))) (cond (pN tb tl (nx tb tl p) 0 5) (.inl (upl S s (100 + cv tb tl (nx tb tl p)), nx tb tl (nx tb tl p))) (.inr (nx tb tl p)))
def pHang (n : Nat) (S : zS) (p : Nat) : zT := cond (pN tb tl (nx tb tl p) 0 (nI n - 1)) (cond (isBr tb tl (nx tb tl (nx tb tl p))) (pBer tb tl n (cv tb tl (nx tb tl p)).toNatClampNeg S (nx tb tl (nx tb tl p))) (.inr (nx tb tl (nx tb tl p)))) (.inr (nx tb tl p))
def pbind (r : zT) (f : zS → Nat → zT) : zT := match r with
  | .inl (S, p) => f S p
  | .inr p => .inr p
def pEnd (n : Nat) (S : zS) (p : Nat) : zT := cond (isBr tb tl p) (pBer tb tl (n + 1) n S p) (.inl (S, p))
def pShip (n : Nat) (k : Int32) (S : zS) (p : Nat) : zT := if n < 12 then pbind (pPer tb tl 6 1 99 (fun S v => ups S n v) (ads S n k 10) (nx tb tl p)) (fun S1 p1 => pbind (pPer tb tl 7 0 9999 (fun S v => upc S n v) S1 p1) (fun S2 p2 => pbind (pPer tb tl 8 0 99 (fun S v => upw S n v) S2 p2) (fun S3 p3 => pEnd tb tl n S3 p3))) else .inr p
def pItem (n : Nat) (S : zS) (p : Nat) : zT :=
  if tk tb tl p = 1 then (if cv tb tl p = 11 then pPair tb tl uph 5 9999 S p else if cv tb tl p = 12 then pHang tb tl n S p else if cv tb tl p = 13 then pPair tb tl upo 12 99 S p else if 0 ≤ cv tb tl p ∧ cv tb tl p ≤ 5 then pShip tb tl n (cv tb tl p) S p else .inr p) else .inr p
end PARS
section TEL
variable {X : Nat × (Nat → Int32)} {M M2 : zM} {N : zN} {S : zS} {n : Nat} {tb : zS} {tl c : Nat} {p : Nat}
def cAt (M : zM) (tb : zS) (tl c p : Nat) : Prop := ∃ j, j < c ∧ M 28 1 = nI j ∧ ps tb tl j = p
def tL : List Nat := [19, 20, 21, 22, 23, 24, 25, 26, 28]
def tP (M : zM) (N : zN) (tb : zS) (tl c : Nat) (r : zT) : Option Value → zM → zN → Prop := fun v M' N' => N' = N ∧ Fr tL M M' ∧ match r with
  | .inl (S', p') => v = some (.int 1) ∧ Vw M' 19 S' ∧ cAt M' tb tl c p'
  | .inr p' => v = some (.int 0) ∧ cAt M' tb tl c p'
theorem Tks.fr {l : List Nat} (h : Tks M tb tl c) (hf : Fr l M M2) (h1 : 29 ∉ l) (h2 : 31 ∉ l) (h3 : 32 ∉ l) (h4 : 33 ∉ l) : Tks M2 tb tl c := ⟨h.1, h.2.1, by rw [hf 29 h1]; exact h.2.2.1, fun i hi => by rw [hf 31 h2, hf 32 h3, hf 33 h4]; exact h.2.2.2.1 i hi, h.2.2.2.2⟩
theorem Tks.tk (h : Tks M tb tl c) (hf : Fr tL M M2) : Tks M2 tb tl c := h.fr hf (by decide) (by decide) (by decide) (by decide)
theorem cAt.fr {l : List Nat} (h : cAt M tb tl c p) (hf : Fr l M M2) (h1 : 28 ∉ l) : cAt M2 tb tl c p := by
  obtain ⟨j, hj, h2, h3⟩ := h
  exact ⟨j, hj, by rw [hf 28 h1]; exact h2, h3⟩
theorem c_pass (hK : Tks M tb tl c) (hA : cAt M tb tl c p) : zV X 54 [.ref 28] M N (fun v M' N' => v = none ∧ N' = N ∧ Fr [28] M M' ∧ M' 28 2 = M 28 2 ∧ cAt M' tb tl c (nx tb tl p)) := by
  refine zVi [(0, .ref 28)] rfl ?_
  obtain ⟨j, hj, h1, rfl⟩ := hA
  have hc := hK.2.1
  obtain ⟨e, rfl⟩ : ∃ e, c = e + 1 := ⟨c - 1, by have := hK.1; omega⟩
  refine zs rfl rfl rfl ?_
  refine zs rfl rfl rfl ?_
  refine zto rfl h1 ?_
  refine zs rfl rfl rfl ?_
  refine zs rfl rfl rfl ?_
  refine zs rfl rfl rfl ?_
  refine zto rfl hK.2.2.1 ?_
  refine zs rfl rfl rfl ?_
  refine zs rfl rfl rfl ?_
  refine zto rfl (nI_pred e) ?_
  by_cases h : j < e
  · refine zbf (nI_ge (by omega) (by omega)) rfl rfl rfl ?_
    refine zs rfl rfl rfl ?_
    refine zs rfl rfl rfl ?_
    refine zs rfl rfl rfl ?_
    refine zto rfl h1 ?_
    refine zs rfl rfl rfl ?_
    refine zs rfl rfl rfl ?_
    refine zto rfl (nI_1 j) ?_
    refine zs rfl rfl rfl ?_
    exact zret rfl rfl ⟨rfl, rfl, Fr.up (by decide), by rw [z_up_a, if_neg (by decide)], j + 1, by omega, rfl, rfl⟩
  · refine zbt (nI_le (by omega) (by omega)) rfl rfl rfl ?_
    have hje : j = e := by omega
    have hend : ps tb tl j = tl := by rw [hje]; exact hK.2.2.2.2
    exact zret rfl rfl ⟨rfl, rfl, Fr.rfl', rfl, j, hj, h1, by rw [hend, nx_end]⟩
theorem c_isWord (hK : Tks M tb tl c) (hA : cAt M tb tl c p) (w : Int32) : zE1 X 53 [.ref 28, .int w] M N (some (.int (bI (pW tb tl p w)))) M N := by
  refine zE1i [(0, .ref 28), (1, .int w)] rfl ?_
  obtain ⟨j, hj, h1, rfl⟩ := hA
  have hc := hK.2.1
  have hk := hK.2.2.2.1 j hj
  have ht4 : tk tb tl (ps tb tl j) < 5 := by
    unfold tk
    repeat (first | split | omega)
  unfold pW
  refine zs rfl rfl rfl ?_
  refine zs rfl rfl rfl ?_
  refine zs rfl rfl rfl ?_
  refine zs rfl rfl rfl ?_
  refine zs rfl rfl rfl ?_
  refine zto rfl h1 ?_
  refine zal rfl rfl rfl (by omega) (by decide) ?_
  refine zto rfl hk.1 ?_
  refine zs rfl rfl rfl ?_
  refine zbr rfl rfl rfl (fun hc => ?_) (fun hc => ?_)
  · rw [decide_eq_false (fun q => hc (by rw [q.1]; rfl))]
    refine zs rfl rfl rfl ?_
    exact zret rfl rfl ⟨rfl, rfl, rfl⟩
  · have e1 : tk tb tl (ps tb tl j) = 1 := nI_inj (b := 1) (by omega) (by decide) (Decidable.not_not.mp hc)
    refine zs rfl rfl rfl ?_
    refine zs rfl rfl rfl ?_
    refine zs rfl rfl rfl ?_
    refine zs rfl rfl rfl ?_
    refine zs rfl rfl rfl ?_
    refine zto rfl h1 ?_
    refine zal rfl rfl rfl (by omega) (by decide) ?_
    refine zto rfl hk.2.2 ?_
    refine zs rfl rfl rfl ?_
    refine zbr rfl rfl rfl (fun hd => ?_) (fun hd => ?_)
    · rw [decide_eq_false (fun q => hd q.2)]
      refine zs rfl rfl rfl ?_
      exact zret rfl rfl ⟨rfl, rfl, rfl⟩
    · rw [decide_eq_true ⟨e1, Decidable.not_not.mp hd⟩]
      refine zs rfl rfl rfl ?_
      refine zs rfl rfl rfl ?_
      exact zret rfl rfl ⟨rfl, rfl, rfl⟩
theorem tk_lt (p : Nat) : tk tb tl p < 5 := by
  unfold tk
  repeat (first | split | omega)
theorem c_takeNumber (hK : Tks M tb tl c) (hA : cAt M tb tl c p) (lw hi : Int32) : zV X 52 [.ref 28, .int lw, .int hi] M N (fun v M' N' => v = some (.int (bI (pN tb tl p lw hi))) ∧ N' = N ∧ Fr [28] M M' ∧ (pN tb tl p lw hi = true → M' 28 2 = cv tb tl p ∧ cAt M' tb tl c (nx tb tl p)) ∧ (pN tb tl p lw hi = false → cAt M' tb tl c p)) := by
  refine zVi [(0, .ref 28), (1, .int lw), (2, .int hi)] rfl ?_
  have hA' := hA
  obtain ⟨j, hj, h1, rfl⟩ := hA
  have hc := hK.2.1
  have hk := hK.2.2.2.1 j hj
  have ht4 := tk_lt (tb := tb) (tl := tl) (ps tb tl j)
  refine zs rfl rfl rfl ?_
  refine zs rfl rfl rfl ?_
  refine zs rfl rfl rfl ?_
  refine zs rfl rfl rfl ?_
  refine zs rfl rfl rfl ?_
  refine zto rfl h1 ?_
  refine zal rfl rfl rfl (by omega) (by decide) ?_
  refine zto rfl hk.1 ?_
  refine zs rfl rfl rfl ?_
  refine zbr rfl rfl rfl (fun hq => ?_) (fun hq => ?_)
  · have e : pN tb tl (ps tb tl j) lw hi = false := decide_eq_false (fun q => hq (by rw [q.1]; rfl))
    rw [e]
    refine zs rfl rfl rfl ?_
    exact zret rfl rfl ⟨rfl, rfl, Fr.rfl', fun q => (nomatch q), fun _ => hA'⟩
  · have e1 : tk tb tl (ps tb tl j) = 2 := nI_inj (b := 2) (by omega) (by decide) (Decidable.not_not.mp hq)
    refine zs rfl rfl rfl ?_
    refine zs rfl rfl rfl ?_
    refine zs rfl rfl rfl ?_
    refine zs rfl rfl rfl ?_
    refine zs rfl rfl rfl ?_
    refine zto rfl h1 ?_
    refine zal rfl rfl rfl (by omega) (by decide) ?_
    refine zto rfl hk.2.2 ?_
    refine zs rfl rfl rfl ?_
    refine zs rfl rfl rfl ?_
    refine zcl rfl rfl (c_isIn (cv tb tl (ps tb tl j)) lw hi) ?_
    by_cases hr : lw ≤ cv tb tl (ps tb tl j) ∧ cv tb tl (ps tb tl j) ≤ hi
    · have e : pN tb tl (ps tb tl j) lw hi = true := decide_eq_true ⟨e1, hr⟩
      rw [e, decide_eq_true hr]
      have hK2 : Tks (z_up M 28 2 (cv tb tl (ps tb tl j))) tb tl c := hK.fr (Fr.up (l := [28]) (by decide)) (by decide) (by decide) (by decide) (by decide)
      have hA2 : cAt (z_up M 28 2 (cv tb tl (ps tb tl j))) tb tl c (ps tb tl j) := ⟨j, hj, by rw [z_up_a, if_neg (by decide)]; exact h1, rfl⟩
      refine zs rfl rfl rfl ?_
      refine zs rfl rfl rfl ?_
      refine zs rfl rfl rfl ?_
      refine zs rfl rfl rfl ?_
      refine zs rfl rfl rfl ?_
      refine zs rfl rfl rfl ?_
      refine zs rfl rfl rfl ?_
      refine zto rfl h1 ?_
      refine zal rfl rfl rfl (by omega) (by decide) ?_
      refine zto rfl hk.2.2 ?_
      refine zs rfl rfl rfl ?_
      refine zs rfl rfl rfl ?_
      refine zclQ rfl rfl (c_pass hK2 hA2) ?_
      rintro v3 M3 N3 ⟨rfl, rfl, hf3, h32, hA3⟩
      refine zs rfl rfl rfl ?_
      exact zret rfl rfl ⟨rfl, rfl, (Fr.up (by decide)).trans hf3, fun _ => ⟨by rw [h32, z_up_a, if_pos rfl], hA3⟩, fun q => (nomatch q)⟩
    · have e : pN tb tl (ps tb tl j) lw hi = false := decide_eq_false (fun q => hr q.2)
      rw [e, decide_eq_false hr]
      refine zs rfl rfl rfl ?_
      refine zs rfl rfl rfl ?_
      exact zret rfl rfl ⟨rfl, rfl, Fr.rfl', fun q => (nomatch q), fun _ => hA'⟩
theorem c_isBerth (hK : Tks M tb tl c) (hA : cAt M tb tl c p) : zE1 X 50 [.ref 28] M N (some (.int (bI (isBr tb tl p)))) M N := by
  refine zE1i [(0, .ref 28)] rfl ?_
  unfold isBr
  refine zs rfl rfl rfl ?_
  refine zs rfl rfl rfl ?_
  refine zcl rfl rfl (c_isWord hK hA 9) ?_
  cases pW tb tl p 9
  · refine zs rfl rfl rfl ?_
    refine zs rfl rfl rfl ?_
    refine zs rfl rfl rfl ?_
    refine zcl rfl rfl (c_isWord hK hA 10) ?_
    cases pW tb tl p 10
    · refine zs rfl rfl rfl ?_
      refine zs rfl rfl rfl ?_
      exact zret rfl rfl ⟨rfl, rfl, rfl⟩
    · refine zs rfl rfl rfl ?_
      refine zs rfl rfl rfl ?_
      refine zs rfl rfl rfl ?_
      exact zret rfl rfl ⟨rfl, rfl, rfl⟩
  · refine zs rfl rfl rfl ?_
    refine zs rfl rfl rfl ?_
    refine zs rfl rfl rfl ?_
    exact zret rfl rfl ⟨rfl, rfl, rfl⟩
theorem tP_no {q : Nat} {r : zT} (hr : r = .inr q) (hf : Fr tL M M2) (hA : cAt M2 tb tl c q) : tP M N tb tl c r (some (.int 0)) M2 N := by
  subst hr
  exact ⟨rfl, hf, rfl, hA⟩
theorem tP_ok {q : Nat} {S' : zS} {r : zT} (hr : r = .inl (S', q)) (hf : Fr tL M M2) (hv : Vw M2 19 S') (hA : cAt M2 tb tl c q) : tP M N tb tl c r (some (.int 1)) M2 N := by
  subst hr
  exact ⟨rfl, hf, rfl, hv, hA⟩
theorem fr28 (h : Fr [28] M M2) : Fr tL M M2 := h.mono (by decide)
theorem pN_rng {lw hi : Int32} (h : pN tb tl p lw hi = true) : lw ≤ cv tb tl p ∧ cv tb tl p ≤ hi := (of_decide_eq_true h).2
theorem vw28 (hv : Vw M 19 S) (hf : Fr [28] M M2) : Vw M2 19 S := hv.fr hf (by decide)
theorem c_takeBerth (hK : Tks M tb tl c) (hA : cAt M tb tl c p) (hv : Vw M 19 S) (hn : S 0 = nI n) (h12 : n ≤ 12) {s : Nat} (hs : s < n) : zV X 51 [.ref 28, .ref 19, .int (nI s)] M N (tP M N tb tl c (pBer tb tl n s S p)) := by
  refine zVi [(0, .ref 28), (1, .ref 19), (2, .int (nI s))] rfl ?_
  unfold pBer
  have hc := hK.2.1
  refine zs rfl rfl rfl ?_
  refine zs rfl rfl rfl ?_
  refine zcl rfl rfl (c_isWord hK hA 9) ?_
  refine zs rfl rfl rfl ?_
  refine zs rfl rfl rfl ?_
  refine zclQ rfl rfl (c_pass hK hA) ?_
  rintro v1 M1 N1 ⟨rfl, rfl, hf1, _, hA1⟩
  have hK1 := hK.tk (fr28 hf1)
  have hv1 := vw28 hv hf1
  have hn0 : M1 19 8 = nI n := hv1.s0.trans hn
  have hA1' := hA1
  obtain ⟨j, hj, h1, hps⟩ := hA1'
  have hk := hK1.2.2.2.1 j hj
  rw [hps] at hk
  have e1 : nI n - 1 = nI n - 1 := rfl
  refine zs rfl rfl rfl ?_
  cases hw : pW tb tl p 9 with
  | true =>
    refine zs rfl rfl rfl ?_
    refine zs rfl rfl rfl ?_
    refine zs rfl rfl rfl ?_
    refine zs rfl rfl rfl ?_
    refine zs rfl rfl rfl ?_
    refine zs rfl rfl rfl ?_
    refine zs rfl rfl rfl ?_
    refine zto rfl h1 ?_
    refine zal rfl rfl rfl (by omega) (by decide) ?_
    refine zto rfl hk.2.2 ?_
    refine zs rfl rfl rfl ?_
    refine zcl rfl rfl (c_liesOn_t hn0 h12 hv1.fl (cv tb tl (nx tb tl p)) (nI s)) ?_
    cases hl : lo S n (nI s) 12 (cv tb tl (nx tb tl p)) with
    | true =>
      refine zs rfl rfl rfl ?_
      refine zs rfl rfl rfl ?_
      exact zret rfl rfl (tP_no rfl (fr28 hf1) hA1)
    | false =>
      refine zs rfl rfl rfl ?_
      refine zs rfl rfl rfl ?_
      refine zs rfl rfl rfl ?_
      refine zs rfl rfl rfl ?_
      refine zs rfl rfl rfl ?_
      refine zs rfl rfl rfl ?_
      refine zs rfl rfl rfl ?_
      try refine zto rfl hn0 ?_
      refine zs rfl rfl rfl ?_
      refine zs rfl rfl rfl ?_
      refine zs rfl rfl rfl ?_
      refine zclQ rfl rfl (c_takeNumber hK1 hA1 0 (nI n - 1)) ?_
      rintro v2 M2 N2 ⟨rfl, rfl, hf2, h2t, h2f⟩
      cases hp : pN tb tl (nx tb tl p) 0 (nI n - 1) with
      | false =>
        refine zs rfl rfl rfl ?_
        refine zs rfl rfl rfl ?_
        exact zret rfl rfl (tP_no rfl (fr28 (hf1.trans hf2)) (h2f hp))
      | true =>
        obtain ⟨h22, hA2⟩ := h2t hp
        have hv2 := vw28 hv1 hf2
        refine zs rfl rfl rfl ?_
        refine zs rfl rfl rfl ?_
        refine zs rfl rfl rfl ?_
        refine zs rfl rfl rfl ?_
        refine zs rfl rfl rfl ?_
        refine zs rfl rfl rfl ?_
        refine zs rfl rfl rfl ?_
        refine zs rfl rfl rfl ?_
        refine zto rfl h22 ?_
        refine zs rfl rfl rfl ?_
        refine zas rfl rfl rfl rfl (by omega) (by decide) ?_
        refine zs rfl rfl rfl ?_
        exact zret rfl rfl (tP_ok rfl ((fr28 (hf1.trans hf2)).trans (Fr.up (by decide))) (hv2.upl (by omega) _) (hA2.fr (Fr.up (l := [26]) (by decide)) (by decide)))
  | false =>
    refine zs rfl rfl rfl ?_
    refine zs rfl rfl rfl ?_
    refine zs rfl rfl rfl ?_
    refine zs rfl rfl rfl ?_
    refine zs rfl rfl rfl ?_
    refine zs rfl rfl rfl ?_
    refine zclQ rfl rfl (c_takeNumber hK1 hA1 0 5) ?_
    rintro v2 M2 N2 ⟨rfl, rfl, hf2, h2t, h2f⟩
    cases hp : pN tb tl (nx tb tl p) 0 5 with
    | false =>
      refine zs rfl rfl rfl ?_
      refine zs rfl rfl rfl ?_
      exact zret rfl rfl (tP_no rfl (fr28 (hf1.trans hf2)) (h2f hp))
    | true =>
      obtain ⟨h22, hA2⟩ := h2t hp
      have hv2 := vw28 hv1 hf2
      refine zs rfl rfl rfl ?_
      refine zs rfl rfl rfl ?_
      refine zs rfl rfl rfl ?_
      refine zs rfl rfl rfl ?_
      refine zs rfl rfl rfl ?_
      refine zs rfl rfl rfl ?_
      refine zs rfl rfl rfl ?_
      refine zs rfl rfl rfl ?_
      refine zs rfl rfl rfl ?_
      refine zto rfl h22 ?_
      refine zs rfl rfl rfl ?_
      refine zas rfl rfl rfl rfl (by omega) (by decide) ?_
      refine zs rfl rfl rfl ?_
      exact zret rfl rfl (tP_ok rfl ((fr28 (hf1.trans hf2)).trans (Fr.up (by decide))) (hv2.upl (by omega) _) (hA2.fr (Fr.up (l := [26]) (by decide)) (by decide)))
theorem c_takePerhaps_6 (hK : Tks M tb tl c) (hA : cAt M tb tl c p) (hv : Vw M 19 S) {s : Nat} (hs : s < 12) (lw hi : Int32) : zV X 47 [.ref 28, .int 6, .ref 23, .int (nI s), .int lw, .int hi] M N (tP M N tb tl c (pPer tb tl 6 lw hi (fun S v => ups S s v) S p)) := by
  refine zVi [(0, .ref 28), (1, .int 6), (2, .ref 23), (3, .int (nI s)), (4, .int lw), (5, .int hi)] rfl ?_
  unfold pPer
  refine zs rfl rfl rfl ?_
  refine zs rfl rfl rfl ?_
  refine zcl rfl rfl (c_isWord hK hA 6) ?_
  cases pW tb tl p 6
  · refine zs rfl rfl rfl ?_
    refine zs rfl rfl rfl ?_
    exact zret rfl rfl (tP_ok rfl Fr.rfl' hv hA)
  · refine zs rfl rfl rfl ?_
    refine zs rfl rfl rfl ?_
    refine zclQ rfl rfl (c_pass hK hA) ?_
    rintro v1 M1 N1 ⟨rfl, rfl, hf1, _, hA1⟩
    have hK1 := hK.tk (fr28 hf1)
    refine zs rfl rfl rfl ?_
    refine zs rfl rfl rfl ?_
    refine zs rfl rfl rfl ?_
    refine zclQ rfl rfl (c_takeNumber hK1 hA1 lw hi) ?_
    rintro v2 M2 N2 ⟨rfl, rfl, hf2, h2t, h2f⟩
    cases hp : pN tb tl (nx tb tl p) lw hi with
    | false =>
      refine zs rfl rfl rfl ?_
      refine zs rfl rfl rfl ?_
      exact zret rfl rfl (tP_no rfl (fr28 (hf1.trans hf2)) (h2f hp))
    | true =>
      obtain ⟨h22, hA2⟩ := h2t hp
      have hv2 := vw28 (vw28 hv hf1) hf2
      refine zs rfl rfl rfl ?_
      refine zs rfl rfl rfl ?_
      refine zs rfl rfl rfl ?_
      refine zs rfl rfl rfl ?_
      refine zs rfl rfl rfl ?_
      refine zto rfl h22 ?_
      refine zas rfl rfl rfl rfl (by omega) (by decide) ?_
      refine zs rfl rfl rfl ?_
      exact zret rfl rfl (tP_ok rfl ((fr28 (hf1.trans hf2)).trans (Fr.up (by decide))) (hv2.ups hs _) (hA2.fr (Fr.up (l := [23]) (by decide)) (by decide)))
theorem c_takePerhaps_7 (hK : Tks M tb tl c) (hA : cAt M tb tl c p) (hv : Vw M 19 S) {s : Nat} (hs : s < 12) (lw hi : Int32) : zV X 47 [.ref 28, .int 7, .ref 24, .int (nI s), .int lw, .int hi] M N (tP M N tb tl c (pPer tb tl 7 lw hi (fun S v => upc S s v) S p)) := by
  refine zVi [(0, .ref 28), (1, .int 7), (2, .ref 24), (3, .int (nI s)), (4, .int lw), (5, .int hi)] rfl ?_
  unfold pPer
  refine zs rfl rfl rfl ?_
  refine zs rfl rfl rfl ?_
  refine zcl rfl rfl (c_isWord hK hA 7) ?_
  cases pW tb tl p 7
  · refine zs rfl rfl rfl ?_
    refine zs rfl rfl rfl ?_
    exact zret rfl rfl (tP_ok rfl Fr.rfl' hv hA)
  · refine zs rfl rfl rfl ?_
    refine zs rfl rfl rfl ?_
    refine zclQ rfl rfl (c_pass hK hA) ?_
    rintro v1 M1 N1 ⟨rfl, rfl, hf1, _, hA1⟩
    have hK1 := hK.tk (fr28 hf1)
    refine zs rfl rfl rfl ?_
    refine zs rfl rfl rfl ?_
    refine zs rfl rfl rfl ?_
    refine zclQ rfl rfl (c_takeNumber hK1 hA1 lw hi) ?_
    rintro v2 M2 N2 ⟨rfl, rfl, hf2, h2t, h2f⟩
    cases hp : pN tb tl (nx tb tl p) lw hi with
    | false =>
      refine zs rfl rfl rfl ?_
      refine zs rfl rfl rfl ?_
      exact zret rfl rfl (tP_no rfl (fr28 (hf1.trans hf2)) (h2f hp))
    | true =>
      obtain ⟨h22, hA2⟩ := h2t hp
      have hv2 := vw28 (vw28 hv hf1) hf2
      refine zs rfl rfl rfl ?_
      refine zs rfl rfl rfl ?_
      refine zs rfl rfl rfl ?_
      refine zs rfl rfl rfl ?_
      refine zs rfl rfl rfl ?_
      refine zto rfl h22 ?_
      refine zas rfl rfl rfl rfl (by omega) (by decide) ?_
      refine zs rfl rfl rfl ?_
      exact zret rfl rfl (tP_ok rfl ((fr28 (hf1.trans hf2)).trans (Fr.up (by decide))) (hv2.upc hs _) (hA2.fr (Fr.up (l := [24]) (by decide)) (by decide)))
theorem c_takePerhaps_8 (hK : Tks M tb tl c) (hA : cAt M tb tl c p) (hv : Vw M 19 S) {s : Nat} (hs : s < 12) (lw hi : Int32) : zV X 47 [.ref 28, .int 8, .ref 25, .int (nI s), .int lw, .int hi] M N (tP M N tb tl c (pPer tb tl 8 lw hi (fun S v => upw S s v) S p)) := by
  refine zVi [(0, .ref 28), (1, .int 8), (2, .ref 25), (3, .int (nI s)), (4, .int lw), (5, .int hi)] rfl ?_
  unfold pPer
  refine zs rfl rfl rfl ?_
  refine zs rfl rfl rfl ?_
  refine zcl rfl rfl (c_isWord hK hA 8) ?_
  cases pW tb tl p 8
  · refine zs rfl rfl rfl ?_
    refine zs rfl rfl rfl ?_
    exact zret rfl rfl (tP_ok rfl Fr.rfl' hv hA)
  · refine zs rfl rfl rfl ?_
    refine zs rfl rfl rfl ?_
    refine zclQ rfl rfl (c_pass hK hA) ?_
    rintro v1 M1 N1 ⟨rfl, rfl, hf1, _, hA1⟩
    have hK1 := hK.tk (fr28 hf1)
    refine zs rfl rfl rfl ?_
    refine zs rfl rfl rfl ?_
    refine zs rfl rfl rfl ?_
    refine zclQ rfl rfl (c_takeNumber hK1 hA1 lw hi) ?_
    rintro v2 M2 N2 ⟨rfl, rfl, hf2, h2t, h2f⟩
    cases hp : pN tb tl (nx tb tl p) lw hi with
    | false =>
      refine zs rfl rfl rfl ?_
      refine zs rfl rfl rfl ?_
      exact zret rfl rfl (tP_no rfl (fr28 (hf1.trans hf2)) (h2f hp))
    | true =>
      obtain ⟨h22, hA2⟩ := h2t hp
      have hv2 := vw28 (vw28 hv hf1) hf2
      refine zs rfl rfl rfl ?_
      refine zs rfl rfl rfl ?_
      refine zs rfl rfl rfl ?_
      refine zs rfl rfl rfl ?_
      refine zs rfl rfl rfl ?_
      refine zto rfl h22 ?_
      refine zas rfl rfl rfl rfl (by omega) (by decide) ?_
      refine zs rfl rfl rfl ?_
      exact zret rfl rfl (tP_ok rfl ((fr28 (hf1.trans hf2)).trans (Fr.up (by decide))) (hv2.upw hs _) (hA2.fr (Fr.up (l := [25]) (by decide)) (by decide)))
theorem c_takePair_20 (hK : Tks M tb tl c) (hA : cAt M tb tl c p) (hv : Vw M 19 S) : zV X 48 [.ref 28, .ref 20, .int 6, .int 9999] M N (tP M N tb tl c (pPair tb tl uph 5 9999 S p)) := by
  refine zVi [(0, .ref 28), (1, .ref 20), (2, .int 6), (3, .int 9999)] rfl ?_
  unfold pPair
  refine zs rfl rfl rfl ?_
  refine zclQ rfl rfl (c_pass hK hA) ?_
  rintro v1 M1 N1 ⟨rfl, rfl, hf1, _, hA1⟩
  have hK1 := hK.tk (fr28 hf1)
  refine zs rfl rfl rfl ?_
  refine zs rfl rfl rfl ?_
  refine zs rfl rfl rfl ?_
  refine zs rfl rfl rfl ?_
  refine zs rfl rfl rfl ?_
  refine zto rfl (show (6 : Int32) - 1 = 5 by decide) ?_
  refine zclQ rfl rfl (c_takeNumber hK1 hA1 0 5) ?_
  rintro v2 M2 N2 ⟨rfl, rfl, hf2, h2t, h2f⟩
  cases hp : pN tb tl (nx tb tl p) 0 5 with
  | false =>
    refine zs rfl rfl rfl ?_
    refine zs rfl rfl rfl ?_
    exact zret rfl rfl (tP_no rfl (fr28 (hf1.trans hf2)) (h2f hp))
  | true =>
    obtain ⟨h22, hA2⟩ := h2t hp
    obtain ⟨i, hi, ei⟩ := r6 (pN_rng hp)
    rw [ei] at h22
    have hK2 := hK1.tk (fr28 hf2)
    refine zs rfl rfl rfl ?_
    refine zs rfl rfl rfl ?_
    refine zs rfl rfl rfl ?_
    refine zto rfl h22 ?_
    refine zs rfl rfl rfl ?_
    refine zs rfl rfl rfl ?_
    refine zs rfl rfl rfl ?_
    refine zs rfl rfl rfl ?_
    refine zclQ rfl rfl (c_takeNumber hK2 hA2 0 9999) ?_
    rintro v3 M3 N3 ⟨rfl, rfl, hf3, h3t, h3f⟩
    cases hp3 : pN tb tl (nx tb tl (nx tb tl p)) 0 9999 with
    | false =>
      refine zs rfl rfl rfl ?_
      refine zs rfl rfl rfl ?_
      exact zret rfl rfl (tP_no rfl (fr28 ((hf1.trans hf2).trans hf3)) (h3f hp3))
    | true =>
      obtain ⟨h33, hA3⟩ := h3t hp3
      have hv3 := vw28 (vw28 (vw28 hv hf1) hf2) hf3
      refine zs rfl rfl rfl ?_
      refine zs rfl rfl rfl ?_
      refine zs rfl rfl rfl ?_
      refine zs rfl rfl rfl ?_
      refine zs rfl rfl rfl ?_
      refine zto rfl h33 ?_
      refine zas rfl rfl rfl rfl (by omega) (by decide) ?_
      refine zs rfl rfl rfl ?_
      rw [ei, nI_clamp (by omega)]
      exact zret rfl rfl (tP_ok rfl ((fr28 ((hf1.trans hf2).trans hf3)).trans (Fr.up (by decide))) (hv3.uph hi _) (hA3.fr (Fr.up (l := [20]) (by decide)) (by decide)))
theorem c_takePair_21 (hK : Tks M tb tl c) (hA : cAt M tb tl c p) (hv : Vw M 19 S) : zV X 48 [.ref 28, .ref 21, .int 13, .int 99] M N (tP M N tb tl c (pPair tb tl upo 12 99 S p)) := by
  refine zVi [(0, .ref 28), (1, .ref 21), (2, .int 13), (3, .int 99)] rfl ?_
  unfold pPair
  refine zs rfl rfl rfl ?_
  refine zclQ rfl rfl (c_pass hK hA) ?_
  rintro v1 M1 N1 ⟨rfl, rfl, hf1, _, hA1⟩
  have hK1 := hK.tk (fr28 hf1)
  refine zs rfl rfl rfl ?_
  refine zs rfl rfl rfl ?_
  refine zs rfl rfl rfl ?_
  refine zs rfl rfl rfl ?_
  refine zs rfl rfl rfl ?_
  refine zto rfl (show (13 : Int32) - 1 = 12 by decide) ?_
  refine zclQ rfl rfl (c_takeNumber hK1 hA1 0 12) ?_
  rintro v2 M2 N2 ⟨rfl, rfl, hf2, h2t, h2f⟩
  cases hp : pN tb tl (nx tb tl p) 0 12 with
  | false =>
    refine zs rfl rfl rfl ?_
    refine zs rfl rfl rfl ?_
    exact zret rfl rfl (tP_no rfl (fr28 (hf1.trans hf2)) (h2f hp))
  | true =>
    obtain ⟨h22, hA2⟩ := h2t hp
    obtain ⟨i, hi, ei⟩ := r13 (pN_rng hp)
    rw [ei] at h22
    have hK2 := hK1.tk (fr28 hf2)
    refine zs rfl rfl rfl ?_
    refine zs rfl rfl rfl ?_
    refine zs rfl rfl rfl ?_
    refine zto rfl h22 ?_
    refine zs rfl rfl rfl ?_
    refine zs rfl rfl rfl ?_
    refine zs rfl rfl rfl ?_
    refine zs rfl rfl rfl ?_
    refine zclQ rfl rfl (c_takeNumber hK2 hA2 0 99) ?_
    rintro v3 M3 N3 ⟨rfl, rfl, hf3, h3t, h3f⟩
    cases hp3 : pN tb tl (nx tb tl (nx tb tl p)) 0 99 with
    | false =>
      refine zs rfl rfl rfl ?_
      refine zs rfl rfl rfl ?_
      exact zret rfl rfl (tP_no rfl (fr28 ((hf1.trans hf2).trans hf3)) (h3f hp3))
    | true =>
      obtain ⟨h33, hA3⟩ := h3t hp3
      have hv3 := vw28 (vw28 (vw28 hv hf1) hf2) hf3
      refine zs rfl rfl rfl ?_
      refine zs rfl rfl rfl ?_
      refine zs rfl rfl rfl ?_
      refine zs rfl rfl rfl ?_
      refine zs rfl rfl rfl ?_
      refine zto rfl h33 ?_
      refine zas rfl rfl rfl rfl (by omega) (by decide) ?_
      refine zs rfl rfl rfl ?_
      rw [ei, nI_clamp (by omega)]
      exact zret rfl rfl (tP_ok rfl ((fr28 ((hf1.trans hf2).trans hf3)).trans (Fr.up (by decide))) (hv3.upo hi _) (hA3.fr (Fr.up (l := [21]) (by decide)) (by decide)))
theorem c_takeHang (hK : Tks M tb tl c) (hA : cAt M tb tl c p) (hv : Vw M 19 S) (hn : S 0 = nI n) (h12 : n ≤ 12) : zV X 49 [.ref 28, .ref 19] M N (tP M N tb tl c (pHang tb tl n S p)) := by
  refine zVi [(0, .ref 28), (1, .ref 19)] rfl ?_
  unfold pHang
  refine zs rfl rfl rfl ?_
  refine zclQ rfl rfl (c_pass hK hA) ?_
  rintro v1 M1 N1 ⟨rfl, rfl, hf1, _, hA1⟩
  have hK1 := hK.tk (fr28 hf1)
  have hv1 := vw28 hv hf1
  have hn0 : M1 19 8 = nI n := hv1.s0.trans hn
  refine zs rfl rfl rfl ?_
  refine zs rfl rfl rfl ?_
  refine zs rfl rfl rfl ?_
  refine zs rfl rfl rfl ?_
  try refine zto rfl hn0 ?_
  refine zs rfl rfl rfl ?_
  refine zs rfl rfl rfl ?_
  refine zclQ rfl rfl (c_takeNumber hK1 hA1 0 (nI n - 1)) ?_
  rintro v2 M2 N2 ⟨rfl, rfl, hf2, h2t, h2f⟩
  cases hp : pN tb tl (nx tb tl p) 0 (nI n - 1) with
  | false =>
    refine zs rfl rfl rfl ?_
    refine zs rfl rfl rfl ?_
    exact zret rfl rfl (tP_no rfl (fr28 (hf1.trans hf2)) (h2f hp))
  | true =>
    obtain ⟨h22, hA2⟩ := h2t hp
    obtain ⟨hr1, hr2⟩ := pN_rng hp
    obtain ⟨i, hi, ei⟩ := nI_of (i_nlt.mpr hr1)
    have hin : i < n := by
      rw [ei] at hr2
      cases n with
      | zero =>
        have q := i_le.mp hr2
        rw [nI_toInt hi, show (nI 0 - 1 : Int32).toInt = -1 by decide] at q
        omega
      | succ m =>
        rw [nI_pred] at hr2
        have := (nI_leI hi (by omega)).mp hr2
        omega
    rw [ei] at h22
    rw [ei, nI_clamp hi]
    have hK2 := hK1.tk (fr28 hf2)
    have hv2 := vw28 hv1 hf2
    have hf12 := fr28 (hf1.trans hf2)
    refine zs rfl rfl rfl ?_
    refine zs rfl rfl rfl ?_
    refine zcl rfl rfl (c_isBerth hK2 hA2) ?_
    cases hb : isBr tb tl (nx tb tl (nx tb tl p)) with
    | false =>
      refine zs rfl rfl rfl ?_
      refine zs rfl rfl rfl ?_
      exact zret rfl rfl (tP_no rfl hf12 hA2)
    | true =>
      refine zs rfl rfl rfl ?_
      refine zs rfl rfl rfl ?_
      refine zs rfl rfl rfl ?_
      refine zs rfl rfl rfl ?_
      refine zs rfl rfl rfl ?_
      refine zto rfl h22 ?_
      refine zclQ rfl rfl (c_takeBerth hK2 hA2 hv2 hn h12 hin) ?_
      rintro v3 M3 N3 ⟨rfl, hf3, h3⟩
      show zW _ _ _ _ _ _ _ (tP M N3 tb tl c (pBer tb tl n i S (nx tb tl (nx tb tl p))))
      generalize pBer tb tl n i S (nx tb tl (nx tb tl p)) = r at h3
      match r, h3 with
      | .inl (S', q), ⟨hv3, h4, h5⟩ =>
        subst hv3
        refine zs rfl rfl rfl ?_
        refine zs rfl rfl rfl ?_
        refine zs rfl rfl rfl ?_
        exact zret rfl rfl (tP_ok rfl (hf12.trans hf3) h4 h5)
      | .inr q, ⟨hv3, h4⟩ =>
        subst hv3
        refine zs rfl rfl rfl ?_
        refine zs rfl rfl rfl ?_
        exact zret rfl rfl (tP_no rfl (hf12.trans hf3) h4)
end TEL
