/-! The model's text. -/
section MTEXT
variable {X : Nat × (Nat → Int32)} {M M1 M2 : zM} {N : zN} {S : zS} {n : Nat} {tb : zS} {tl : Nat} {p : Nat}
/-- which word it is, if it is one -/
theorem wd_cases (tb : zS) (tl p : Nat) : (∀ w, w < 14 → pW tb tl p (nI w) = false) ∧ (tk tb tl p = 1 → cv tb tl p = -1) ∨ ∃ w, w < 14 ∧ tk tb tl p = 1 ∧ cv tb tl p = nI w := by
  by_cases h : tk tb tl p = 1
  · obtain ⟨hp, hl⟩ := tk1 h
    have e : cv tb tl p = wdo tb p (eL tb tl p) := by unfold cv; rw [if_pos hp, if_pos hl]
    unfold wdo at e
    rcases fst1_spec (spl tb p (eL tb tl p)) 14 0 with ⟨q, _⟩ | ⟨k, _, q2, q3, _, _⟩
    · rw [q] at e
      exact Or.inl ⟨fun w hw => decide_eq_false (fun z => nI_m1 (by omega) (z.2.symm.trans e)), fun _ => e⟩
    · rw [q3] at e
      exact Or.inr ⟨k, by omega, h, e⟩
  · exact Or.inl ⟨fun w _ => decide_eq_false (fun z => h z.1), fun q => absurd q h⟩
theorem pW_w {w : Nat} (h1 : tk tb tl p = 1) (h2 : cv tb tl p = nI w) : pW tb tl p (nI w) = true := decide_eq_true ⟨h1, h2⟩
theorem pW_o {w v : Nat} (hw : w < 14) (hv : v < 14) (h2 : cv tb tl p = nI w) (hne : w ≠ v) : pW tb tl p (nI v) = false := decide_eq_false (fun q => hne (nI_inj (by omega) (by omega) (h2.symm.trans q.2)))
/-- the model's way behind the kinds' names -/
theorem m_rest (hT : mT M tb tl) (hm : mTk M tb tl p) (hp : p ≤ tl) (hr : Rw M 45 S) (hB : Bas S n) {r : zT} (h11 : pW tb tl p (nI 11) = true → r = pPair tb tl uph 5 9999 S p) (h12 : pW tb tl p (nI 12) = true → r = pHang tb tl n S p) (h13 : pW tb tl p (nI 13) = true → r = pPair tb tl upo 12 99 S p) (hno : pW tb tl p (nI 11) = false → pW tb tl p (nI 12) = false → pW tb tl p (nI 13) = false → r = .inr p) (y : Int32) : zW X 203 15 [(0, .ref 44), (1, .int y)] [] M N (mQ M N tb tl r) := by
  have pass : ∀ {r1 : zT} {pc : Nat} {M3 : zM} {v : Option Value}, r = r1 → (match r1 with
      | .inl (S', q) => v = some (.int 1) ∧ Rw M3 45 S' ∧ mTk M3 tb tl q
      | .inr q => v = some (.int 0) ∧ M3 44 18 = nI q) → Mf M M3 → (v = some (.int 1) ∨ v = some (.int 0)) ∧ ∀ N3, N3 = N → mQ M N tb tl r v M3 N3 := by
    intro r1 pc M3 v e h hf
    subst e
    refine ⟨?_, fun N3 hN => ⟨hN, hf, h⟩⟩
    match r, h with
    | .inl (S', q), h => exact Or.inl h.1
    | .inr q, h => exact Or.inr h.1
  have odds : pW tb tl p (nI 11) = false → pW tb tl p (nI 12) = false → zW X 203 77 [(0, .ref 44), (1, .int y)] [] M N (mQ M N tb tl r) := by
    intro e11 e12
    refine zs rfl rfl rfl ?_
    refine zs rfl rfl rfl ?_
    refine zs rfl rfl rfl ?_
    refine zs rfl rfl rfl ?_
    refine zs rfl rfl rfl ?_
    refine zcl rfl rfl (m_word_13 hT hm hp) ?_
    cases e13 : pW tb tl p (nI 13) with
    | true =>
      refine zs rfl rfl rfl ?_
      refine zs rfl rfl rfl ?_
      refine zclQ rfl rfl (m_oddsHere hT hm hp hr) ?_
      rintro v3 M3 N3 ⟨rfl, hf3, h3⟩
      obtain ⟨h4, h5⟩ := pass (pc := 0) (h13 e13) h3 hf3
      rcases h4 with rfl | rfl
      · refine zs rfl rfl rfl ?_
        exact zret rfl rfl (h5 _ rfl)
      · refine zs rfl rfl rfl ?_
        exact zret rfl rfl (h5 _ rfl)
    | false =>
      refine zs rfl rfl rfl ?_
      refine zs rfl rfl rfl ?_
      refine zcl rfl rfl (m_fails hm) ?_
      exact zret rfl rfl (mQ_no (hno e11 e12 e13) (Mf.rfl'.up18 _) rfl)
  have hang : pW tb tl p (nI 11) = false → zW X 203 57 [(0, .ref 44), (1, .int y)] [] M N (mQ M N tb tl r) := by
    intro e11
    refine zs rfl rfl rfl ?_
    refine zs rfl rfl rfl ?_
    refine zs rfl rfl rfl ?_
    refine zs rfl rfl rfl ?_
    refine zs rfl rfl rfl ?_
    refine zcl rfl rfl (m_word_12 hT hm hp) ?_
    cases e12 : pW tb tl p (nI 12) with
    | true =>
      refine zs rfl rfl rfl ?_
      refine zs rfl rfl rfl ?_
      refine zclQ rfl rfl (m_hangHere hT hm hp hr hB) ?_
      rintro v3 M3 N3 ⟨rfl, hf3, h3⟩
      obtain ⟨h4, h5⟩ := pass (pc := 0) (h12 e12) h3 hf3
      rcases h4 with rfl | rfl
      · exact zret rfl rfl (h5 _ rfl)
      · exact zret rfl rfl (h5 _ rfl)
    | false =>
      refine zs rfl rfl rfl ?_
      exact odds e11 e12
  refine zs rfl rfl rfl ?_
  refine zs rfl rfl rfl ?_
  refine zcl rfl rfl (m_isWordN (k := 6) hm hp hT.1 (by decide)) ?_
  by_cases hw : tk tb tl p = 1 ∧ en tb tl p - p = 6
  · rw [decide_eq_true hw]
    refine zs rfl rfl rfl ?_
    refine zs rfl rfl rfl ?_
    refine zs rfl rfl rfl ?_
    refine zs rfl rfl rfl ?_
    refine zs rfl rfl rfl ?_
    refine zs rfl rfl rfl ?_
    refine zclQ rfl rfl (m_has3 (i := 0) hT hm hp (by decide) 97 110 99) ?_
    rintro v1 M1 N1 ⟨rfl, rfl, ⟨rfl, g0⟩ | ⟨rfl, g0⟩⟩
    · refine zs rfl rfl rfl ?_
      refine zs rfl rfl rfl ?_
      refine zs rfl rfl rfl ?_
      refine zs rfl rfl rfl ?_
      refine zs rfl rfl rfl ?_
      refine zs rfl rfl rfl ?_
      refine zclQ rfl rfl (m_has3 (i := 3) hT hm hp (by decide) 104 111 114) ?_
      rintro v2 M2 N2 ⟨rfl, rfl, ⟨rfl, g1⟩ | ⟨rfl, g1⟩⟩
      · have k0 := H3_tb hw.1 (by omega) g0
        have k1 := H3_tb hw.1 (by omega) g1
        have e : pW tb tl p (nI 11) = true := (pW_iff (by decide)).mpr ⟨hw.1, hw.2, fun j hj => by
          match j, hj with
          | 0, _ => exact k0.1
          | 1, _ => exact k0.2.1
          | 2, _ => exact k0.2.2
          | 3, _ => exact k1.1
          | 4, _ => exact k1.2.1
          | 5, _ => exact k1.2.2
          | _ + 6, h => exact absurd h (by show ¬ _ < 6; omega)⟩
        refine zs rfl rfl rfl ?_
        refine zs rfl rfl rfl ?_
        refine zclQ rfl rfl (m_anchorHere hT hm hp hr) ?_
        rintro v3 M3 N3 ⟨rfl, hf3, h3⟩
        obtain ⟨h4, h5⟩ := pass (pc := 0) (h11 e) h3 hf3
        rcases h4 with rfl | rfl
        · exact zret rfl rfl (h5 _ rfl)
        · exact zret rfl rfl (h5 _ rfl)
      · have e : pW tb tl p (nI 11) = false := pW_f (w := 11) (by decide) (fun q => g1 (sp_H3 (i := 3) q.1 q.2 (by decide)))
        refine zs rfl rfl rfl ?_
        exact hang e
    · have e : pW tb tl p (nI 11) = false := pW_f (w := 11) (by decide) (fun q => g0 (sp_H3 (i := 0) q.1 q.2 (by decide)))
      refine zs rfl rfl rfl ?_
      exact hang e
  · have e : pW tb tl p (nI 11) = false := pW_f (w := 11) (by decide) (fun q => hw ⟨q.1, q.2.1⟩)
    rw [decide_eq_false hw]
    refine zs rfl rfl rfl ?_
    exact hang e
theorem m_itemHere (hT : mT M tb tl) (hm : mTk M tb tl p) (hp : p ≤ tl) (hr : Rw M 45 S) (hB : Bas S n) : zV X 203 [.ref 44] M N (mQ M N tb tl (pItem tb tl n S p)) := by
  refine zVi [(0, .ref 44)] rfl ?_
  refine zs rfl rfl rfl ?_
  refine zcl rfl rfl (m_kindHere hT hm hp) ?_
  rcases wd_cases tb tl p with ⟨h0, h1⟩ | ⟨w, hw, h1, h2⟩
  · rw [h0 0 (by decide), h0 1 (by decide), h0 2 (by decide), h0 3 (by decide), h0 4 (by decide), h0 5 (by decide)]
    have ei : pItem tb tl n S p = .inr p := by
      unfold pItem
      by_cases h : tk tb tl p = 1
      · rw [if_pos h, h1 h, if_neg (by decide), if_neg (by decide), if_neg (by decide), if_neg (by decide)]
      · rw [if_neg h]
    refine zs rfl rfl rfl ?_
    refine zs rfl rfl rfl ?_
    refine zs rfl rfl rfl ?_
    exact m_rest hT hm hp hr hB (fun q => by rw [h0 11 (by decide)] at q; cases q) (fun q => by rw [h0 12 (by decide)] at q; cases q) (fun q => by rw [h0 13 (by decide)] at q; cases q) (fun _ _ _ => ei) _
  · have ship : ∀ c, c < 6 → w = c → zW X 203 5 [(0, .ref 44), (1, .int (nI c))] [] M N (mQ M N tb tl (pItem tb tl n S p)) := by
      intro c hc e
      subst e
      have ei : pItem tb tl n S p = pShip tb tl n (nI w) S p := by
        unfold pItem
        rw [if_pos h1, h2]
        have a1 : ¬ nI w = 11 := fun q => by have := nI_inj (b := 11) (by omega) (by decide) q; omega
        have a2 : ¬ nI w = 12 := fun q => by have := nI_inj (b := 12) (by omega) (by decide) q; omega
        have a3 : ¬ nI w = 13 := fun q => by have := nI_inj (b := 13) (by omega) (by decide) q; omega
        rw [if_neg a1, if_neg a2, if_neg a3, if_pos ⟨nI_pos' (by omega), nI_le (b := 5) (by omega) (by decide)⟩]
      rw [ei]
      refine zs rfl rfl rfl ?_
      refine zbf (nI_pos (by omega)) rfl rfl rfl ?_
      refine zs rfl rfl rfl ?_
      refine zs rfl rfl rfl ?_
      refine zclQ rfl rfl (m_shipHere hT hm hp hr hB (nI w)) ?_
      rintro v3 M3 N3 ⟨rfl, hf3, h3⟩
      generalize pShip tb tl n (nI w) S p = r at h3
      match r, h3 with
      | .inl (S', q), ⟨hv, h4, h5⟩ =>
        subst hv
        exact zret rfl rfl (mQ_ok rfl hf3 h4 h5)
      | .inr q, ⟨hv, h4⟩ =>
        subst hv
        exact zret rfl rfl (mQ_no rfl hf3 h4)
    have t := pW_w h1 h2
    have f := fun v (hv : v < 14) (hne : w ≠ v) => pW_o (tb := tb) (tl := tl) (p := p) hw hv h2 hne
    have nokind : 6 ≤ w → (cond (pW tb tl p (nI 0)) 0 (cond (pW tb tl p (nI 1)) 1 (cond (pW tb tl p (nI 2)) 2 (cond (pW tb tl p (nI 3)) 3 (cond (pW tb tl p (nI 4)) 4 (cond (pW tb tl p (nI 5)) 5 (-1 : Int32))))))) = -1 := fun h => by
      rw [f 0 (by decide) (by omega), f 1 (by decide) (by omega), f 2 (by decide) (by omega), f 3 (by decide) (by omega), f 4 (by decide) (by omega), f 5 (by decide) (by omega)]; rfl
    by_cases h6 : 6 ≤ w
    · rw [nokind h6]
      refine zs rfl rfl rfl ?_
      refine zs rfl rfl rfl ?_
      refine zs rfl rfl rfl ?_
      refine m_rest hT hm hp hr hB (fun q => ?_) (fun q => ?_) (fun q => ?_) (fun q1 q2 q3 => ?_) _
      · have e : cv tb tl p = 11 := (of_decide_eq_true q).2
        unfold pItem
        rw [if_pos h1, if_pos e]
      · have e : cv tb tl p = 12 := (of_decide_eq_true q).2
        unfold pItem
        rw [if_pos h1, if_neg (by rw [e]; decide), if_pos e]
      · have e : cv tb tl p = 13 := (of_decide_eq_true q).2
        unfold pItem
        rw [if_pos h1, if_neg (by rw [e]; decide), if_neg (by rw [e]; decide), if_pos e]
      · have w11 : w ≠ 11 := fun e => by rw [e] at t; rw [t] at q1; cases q1
        have w12 : w ≠ 12 := fun e => by rw [e] at t; rw [t] at q2; cases q2
        have w13 : w ≠ 13 := fun e => by rw [e] at t; rw [t] at q3; cases q3
        unfold pItem
        rw [if_pos h1, h2]
        have a1 : ¬ nI w = 11 := fun q => w11 (nI_inj (b := 11) (by omega) (by decide) q)
        have a2 : ¬ nI w = 12 := fun q => w12 (nI_inj (b := 12) (by omega) (by decide) q)
        have a3 : ¬ nI w = 13 := fun q => w13 (nI_inj (b := 13) (by omega) (by decide) q)
        have a4 : ¬ (0 ≤ nI w ∧ nI w ≤ 5) := fun q => by
          have := (nI_leI (b := 5) (by omega) (by decide)).mp q.2
          omega
        rw [if_neg a1, if_neg a2, if_neg a3, if_neg a4]
    · have h6' : w = 0 ∨ w = 1 ∨ w = 2 ∨ w = 3 ∨ w = 4 ∨ w = 5 := by omega
      have ek : (cond (pW tb tl p (nI 0)) 0 (cond (pW tb tl p (nI 1)) 1 (cond (pW tb tl p (nI 2)) 2 (cond (pW tb tl p (nI 3)) 3 (cond (pW tb tl p (nI 4)) 4 (cond (pW tb tl p (nI 5)) 5 (-1 : Int32))))))) = nI w := by
        rcases h6' with rfl | rfl | rfl | rfl | rfl | rfl
        · rw [t]; rfl
        · rw [f 0 (by decide) (by decide), t]; rfl
        · rw [f 0 (by decide) (by decide), f 1 (by decide) (by decide), t]; rfl
        · rw [f 0 (by decide) (by decide), f 1 (by decide) (by decide), f 2 (by decide) (by decide), t]; rfl
        · rw [f 0 (by decide) (by decide), f 1 (by decide) (by decide), f 2 (by decide) (by decide), f 3 (by decide) (by decide), t]; rfl
        · rw [f 0 (by decide) (by decide), f 1 (by decide) (by decide), f 2 (by decide) (by decide), f 3 (by decide) (by decide), f 4 (by decide) (by decide), t]; rfl
      rw [ek]
      refine zs rfl rfl rfl ?_
      exact ship w (by omega) rfl
/-- what becomes of a text behind an item -/
def pStep (tb : zS) (tl f i : Nat) : zT → (Nat × zS) ⊕ Nat
  | .inr q => .inr q
  | .inl (S', q) => if tk tb tl q = 0 then .inl (i, S') else if tk tb tl q = 3 then pText tb tl f (i + 1) S' (nx tb tl q) else .inr q
theorem pText_s (tb : zS) (tl f i : Nat) (S : zS) (p : Nat) : pText tb tl (f + 1) i S p = pStep tb tl f i (pItem tb tl (S 0).toNatClampNeg S p) := by
  rw [pText]
  generalize pItem tb tl (S 0).toNatClampNeg S p = w
  match w with
  | .inl (S', q) => rfl
  | .inr q => rfl
theorem m_text (hT : mT M tb tl) (hr : Rw M 45 S) (hO : Ok S n) : zV X 204 [.ref 44] M N (fun v M' N' => v = some (.int (told (pText tb tl 120 1 S (sk tb tl 0)))) ∧ N' = N ∧ Fr [44, 45, 49] M M' ∧ (∀ c, c < 14 → c ≠ 8 → M' 44 c = M 44 c) ∧ M' 44 8 = 0 ∧ Rw M' 45 (match pText tb tl 120 1 S (sk tb tl 0) with
    | .inl (_, S') => S'
    | .inr _ => S)) := by
  refine zVi [(0, .ref 44)] rfl ?_
  have h120 := hT.1
  refine zs rfl rfl rfl ?_
  refine zs rfl rfl rfl ?_
  refine zs rfl rfl rfl ?_
  refine zs rfl rfl rfl ?_
  refine zclQ rfl rfl (m_copyRow_45_49 hr) ?_
  rintro v1 M1 N1 ⟨rfl, rfl, hf1, hr1⟩
  have hr1' := hr.fr hf1 (by decide)
  have hT1 : mT M1 tb tl := ⟨hT.1, by rw [hf1 44 (by decide)]; exact hT.2.1, fun i hi => by rw [hf1 51 (by decide)]; exact hT.2.2.1 i hi, hT.2.2.2⟩
  have hT1' : mT (z_up M1 44 16 0) tb tl := hT1.nf (Nf.rfl'.up (by decide) 0)
  -- the frame from the start
  have Fx : ∀ {M3 : zM}, Mf M1 M3 → Fr [44, 45, 49] M M3 ∧ (∀ c, c < 14 → M3 44 c = M 44 c) ∧ Rw M3 49 S := fun h => ⟨(hf1.mono (by decide)).trans (h.1.mono (by decide)), fun c hc => (h.2 c hc).trans (by rw [hf1 44 (by decide)]), hr1.fr h.1 (by decide)⟩
  have ret : ∀ (res : (Nat × zS) ⊕ Nat) (i y : Int32) (M3 : zM) (g : Bool), Mf M1 M3 → (match res with
      | .inl (k, S') => g = true ∧ i = nI k ∧ Rw M3 45 S'
      | .inr q => g = false ∧ M3 44 18 = nI q) → zW X 204 77 [(0, .ref 44), (1, .int i), (2, .int y)] [.int (bI g)] M3 N1 (fun v M' N' => v = some (.int (told res)) ∧ N' = N1 ∧ Fr [44, 45, 49] M M' ∧ (∀ c, c < 14 → c ≠ 8 → M' 44 c = M 44 c) ∧ M' 44 8 = 0 ∧ Rw M' 45 (match res with
        | .inl (_, S') => S'
        | .inr _ => S)) := by
    intro res i y M3 g hf h
    obtain ⟨f1, f2, f3⟩ := Fx hf
    have f1' : Fr [44, 45, 49] M (z_up M3 44 8 0) := f1.trans (Fr.up (by decide))
    have f2' : ∀ c, c < 14 → c ≠ 8 → z_up M3 44 8 0 44 c = M 44 c := fun c hc h8 => by rw [z_up_a, if_neg h8]; exact f2 c hc
    match res, h with
    | .inl (k, S'), ⟨hg, hi, h5⟩ =>
      subst hg
      subst hi
      refine zs rfl rfl rfl ?_
      refine zs rfl rfl rfl ?_
      refine zs rfl rfl rfl ?_
      refine zs rfl rfl rfl ?_
      refine zs rfl rfl rfl ?_
      refine zs rfl rfl rfl ?_
      refine zs rfl rfl rfl ?_
      refine zs rfl rfl rfl ?_
      refine zs rfl rfl rfl ?_
      refine zs rfl rfl rfl ?_
      exact zret rfl rfl ⟨rfl, rfl, f1', f2', rfl, h5.fr (Fr.up (l := [44]) (by decide)) (by decide)⟩
    | .inr q, ⟨hg, h5⟩ =>
      subst hg
      refine zs rfl rfl rfl ?_
      refine zs rfl rfl rfl ?_
      refine zs rfl rfl rfl ?_
      refine zs rfl rfl rfl ?_
      refine zs rfl rfl rfl ?_
      refine zs rfl rfl rfl ?_
      refine zs rfl rfl rfl ?_
      refine zs rfl rfl rfl ?_
      refine zs rfl rfl rfl ?_
      refine zs rfl rfl rfl ?_
      refine zclQ rfl rfl (m_copyRow_49_45 (f3.fr (Fr.up (l := [44]) (by decide)) (by decide))) ?_
      rintro v4 M4 N4 ⟨rfl, rfl, hf4, hr4⟩
      have h18 : M4 44 18 = nI q := by rw [hf4 44 (by decide), z_up_a, if_neg (by decide)]; exact h5
      refine zs rfl rfl rfl ?_
      refine zs rfl rfl rfl ?_
      refine zs rfl rfl rfl ?_
      refine zs rfl rfl rfl ?_
      refine zs rfl rfl rfl ?_
      refine zto rfl h18 ?_
      refine zs rfl rfl rfl ?_
      exact zret rfl rfl ⟨rfl, rfl, f1'.trans (hf4.mono (by decide)), fun c hc h8 => by rw [hf4 44 (by decide)]; exact f2' c hc h8, by rw [hf4 44 (by decide)]; rfl, hr4⟩
  have loop : ∀ f i S2 n2 p2 M2 (r : zT), i + f = 120 → 1 ≤ i → 2 * (i - 1) ≤ p2 → p2 ≤ tl → Ok S2 n2 → r = pItem tb tl n2 S2 p2 → Mf M1 M2 → (match r with
      | .inl (S', q) => Rw M2 45 S' ∧ mTk M2 tb tl q
      | .inr q => M2 44 18 = nI q) → ∀ g : Bool, (match r with
      | .inl _ => g = true
      | .inr _ => g = false) → zW X 204 27 [(0, .ref 44), (1, .int (nI i)), (2, .int (bI g))] [] M2 N1 (fun v M' N' => v = some (.int (told (pText tb tl (f + 1) i S2 p2))) ∧ N' = N1 ∧ Fr [44, 45, 49] M M' ∧ (∀ c, c < 14 → c ≠ 8 → M' 44 c = M 44 c) ∧ M' 44 8 = 0 ∧ Rw M' 45 (match pText tb tl (f + 1) i S2 p2 with
        | .inl (_, S') => S'
        | .inr _ => S)) := by
    intro f
    induction f with
    | zero =>
      intro i S2 n2 p2 M2 r hi h1 h2 h3
      omega
    | succ f ih =>
      intro i S2 n2 p2 M2 r hi hi1 h2i h3 hO2 er hf2 h2 g hg
      have en2 : (S2 0).toNatClampNeg = n2 := by rw [hO2.s0, nI_clamp (by have := hO2.le; omega)]
      rw [pText_s, en2, ← er]
      match r, er, h2, hg with
      | .inr q, _, h2, hg =>
        subst hg
        refine zs rfl rfl rfl ?_
        refine zs rfl rfl rfl ?_
        refine zs rfl rfl rfl ?_
        refine zs rfl rfl rfl ?_
        refine zs rfl rfl rfl ?_
        exact ret (.inr q) (nI i) _ M2 false hf2 ⟨rfl, h2⟩
      | .inl (S', q), er, ⟨hr2, hm2⟩, hg =>
        subst hg
        obtain ⟨⟨n', o'⟩, g1, g2, g4⟩ := pItem_ok hO2 h3 er.symm
        have ht4 := tk_lt (tb := tb) (tl := tl) q
        have hT2 := hT1.mf hf2
        show zW _ _ _ _ _ _ _ (fun v M' N' => v = some (.int (told (if tk tb tl q = 0 then .inl (i, S') else if tk tb tl q = 3 then pText tb tl (f + 1) (i + 1) S' (nx tb tl q) else .inr q))) ∧ N' = N1 ∧ Fr [44, 45, 49] M M' ∧ (∀ c, c < 14 → c ≠ 8 → M' 44 c = M 44 c) ∧ M' 44 8 = 0 ∧ Rw M' 45 (match (if tk tb tl q = 0 then .inl (i, S') else if tk tb tl q = 3 then pText tb tl (f + 1) (i + 1) S' (nx tb tl q) else .inr q : (Nat × zS) ⊕ Nat) with
          | .inl (_, S') => S'
          | .inr _ => S))
        by_cases t3 : tk tb tl q = 3
        · rw [if_neg (by omega), if_pos t3]
          have hql := tk_pos t3 (by decide)
          have hnq := nx_gt (tb := tb) hql
          have hnl := (nx_le (tb := tb) g2).2
          refine zs rfl rfl rfl ?_
          refine zs rfl rfl rfl ?_
          refine zs rfl rfl rfl ?_
          refine zs rfl rfl rfl ?_
          refine zto rfl (hm2.1.trans (congrArg nI t3)) ?_
          refine zs rfl rfl rfl ?_
          refine zs rfl rfl rfl ?_
          refine zs rfl rfl rfl ?_
          refine zclQ rfl rfl (m_next hT2 hm2 g2) ?_
          rintro v4 M4 N4 ⟨rfl, rfl, hn4, hm4⟩
          have hT4 := hT2.nf hn4
          refine zs rfl rfl rfl ?_
          refine zclQ rfl rfl (m_itemHere hT4 hm4 hnl (hr2.nf (by decide) hn4) o'.b) ?_
          rintro v5 M5 N5 ⟨rfl, hf5, h5⟩
          have hf5' := (hf2.trans hn4.mf).trans hf5
          have ih' := ih (i + 1) S' n' (nx tb tl q) M5 (pItem tb tl n' S' (nx tb tl q)) (by omega) (by omega) (by omega) hnl o' rfl hf5'
          generalize pItem tb tl n' S' (nx tb tl q) = w at h5 ih'
          match w, h5, ih' with
          | .inl (S5, q5), ⟨hv, h6, h7⟩, ih' =>
            subst hv
            refine zs rfl rfl rfl ?_
            refine zinc rfl rfl rfl ?_
            refine zs rfl rfl rfl ?_
            exact ih' ⟨h6, h7⟩ true rfl
          | .inr q5, ⟨hv, h6⟩, ih' =>
            subst hv
            refine zs rfl rfl rfl ?_
            refine zinc rfl rfl rfl ?_
            refine zs rfl rfl rfl ?_
            exact ih' h6 false rfl
        · by_cases t0 : tk tb tl q = 0
          · rw [if_pos t0]
            refine zs rfl rfl rfl ?_
            refine zs rfl rfl rfl ?_
            refine zs rfl rfl rfl ?_
            refine zs rfl rfl rfl ?_
            refine zto rfl (hm2.1.trans (congrArg nI t0)) ?_
            refine zs rfl rfl rfl ?_
            refine zs rfl rfl rfl ?_
            refine zs rfl rfl rfl ?_
            refine zs rfl rfl rfl ?_
            refine zs rfl rfl rfl ?_
            refine zs rfl rfl rfl ?_
            refine zto rfl (hm2.1.trans (congrArg nI t0)) ?_
            refine zs rfl rfl rfl ?_
            refine zs rfl rfl rfl ?_
            refine zs rfl rfl rfl ?_
            exact ret (.inl (i, S')) (nI i) _ M2 true hf2 ⟨rfl, rfl, hr2⟩
          · rw [if_neg t0, if_neg t3]
            have n3 : nI (tk tb tl q) ≠ 3 := fun z => t3 (nI_inj (b := 3) (by omega) (by decide) z)
            have n0 : ¬ nI (tk tb tl q) = 0 := fun z => t0 ((nI0 (by omega)).mp z)
            refine zs rfl rfl rfl ?_
            refine zs rfl rfl rfl ?_
            refine zs rfl rfl rfl ?_
            refine zs rfl rfl rfl ?_
            refine zto rfl hm2.1 ?_
            refine zs rfl rfl rfl ?_
            refine zbt (n3) rfl rfl rfl ?_
            refine zs rfl rfl rfl ?_
            refine zs rfl rfl rfl ?_
            refine zs rfl rfl rfl ?_
            refine zs rfl rfl rfl ?_
            refine zto rfl hm2.1 ?_
            refine zbf (n0) rfl rfl rfl ?_
            refine zs rfl rfl rfl ?_
            refine zcl rfl rfl (m_fails hm2) ?_
            refine zs rfl rfl rfl ?_
            refine zs rfl rfl rfl ?_
            exact ret (.inr q) (nI i) _ _ false (hf2.up18 (nI q)) ⟨rfl, rfl⟩
  refine zs rfl rfl rfl ?_
  refine zs rfl rfl rfl ?_
  refine zs rfl rfl rfl ?_
  refine zs rfl rfl rfl ?_
  refine zclQ rfl rfl (m_nextToken (e := 0) hT1' (Nat.zero_le _) rfl) ?_
  rintro v2 M2 N2 ⟨rfl, rfl, hn2, hm2⟩
  have hs := (sk_le (tb := tb) (tl := tl) (Nat.zero_le tl)).2
  have hf2 : Mf M1 M2 := (Nf.rfl'.up (by decide) 0).mf.trans hn2.mf
  have hr2 : Rw M2 45 S := (hr1'.fr (Fr.up (l := [44]) (x := 0) (k := 16) (by decide)) (by decide)).nf (by decide) hn2
  refine zs rfl rfl rfl ?_
  refine zs rfl rfl rfl ?_
  refine zs rfl rfl rfl ?_
  refine zclQ rfl rfl (m_itemHere (hT1.mf hf2) hm2 hs hr2 hO.b) ?_
  rintro v5 M5 N5 ⟨rfl, hf5, h5⟩
  have l := loop 119 1 S n (sk tb tl 0) M5 (pItem tb tl n S (sk tb tl 0)) rfl (by decide) (by omega) hs hO rfl (hf2.trans hf5)
  generalize pItem tb tl n S (sk tb tl 0) = w at h5 l
  match w, h5, l with
  | .inl (S5, q5), ⟨hv, h6, h7⟩, l =>
    subst hv
    refine zs rfl rfl rfl ?_
    exact l ⟨h6, h7⟩ true rfl
  | .inr q5, ⟨hv, h6⟩, l =>
    subst hv
    refine zs rfl rfl rfl ?_
    exact l h6 false rfl
end MTEXT
