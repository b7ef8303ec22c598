/-! The model's items. -/
section MITEM
variable {X : Nat × (Nat → Int32)} {M M1 M2 : zM} {N : zN} {S : zS} {n : Nat} {tb : zS} {tl : Nat} {p : Nat}
def Mf (M M' : zM) : Prop := Fr [44, 45] M M' ∧ ∀ c, c < 14 → M' 44 c = M 44 c
theorem Mf.rfl' : Mf M M := ⟨Fr.rfl', fun _ _ => rfl⟩
theorem Mf.trans (h : Mf M M1) (h2 : Mf M1 M2) : Mf M M2 := ⟨h.1.trans h2.1, fun c hc => (h2.2 c hc).trans (h.2 c hc)⟩
theorem Nf.mf (h : Nf M M2) : Mf M M2 := ⟨h.1.mono (by decide), fun c hc => h.2 c (Or.inl hc)⟩
theorem Mf.up45 (h : Mf M M1) (i : Nat) (x : Int32) : Mf M (z_up M1 45 i x) := ⟨h.1.trans (Fr.up (by decide)), fun c hc => by rw [z_up_ne _ _ _ (by decide)]; exact h.2 c hc⟩
theorem Mf.up18 (h : Mf M M1) (x : Int32) : Mf M (z_up M1 44 18 x) := ⟨h.1.trans (Fr.up (by decide)), fun c hc => by rw [z_up_a, if_neg (by omega)]; exact h.2 c hc⟩
theorem mT.mf (h : mT M tb tl) (hn : Mf M M2) : mT M2 tb tl := ⟨h.1, by rw [hn.2 8 (by omega)]; exact h.2.1, fun i hi => by rw [hn.1 51 (by decide)]; exact h.2.2.1 i hi, h.2.2.2⟩
theorem mTk.up45 (h : mTk M tb tl p) (i : Nat) (x : Int32) : mTk (z_up M 45 i x) tb tl p := h
theorem Rw.nf {q : Nat} (h : Rw M q S) (hq : q ≠ 44) (hn : Nf M M2) : Rw M2 q S := h.fr hn.1 (by rw [List.mem_singleton]; exact hq)
def mQ (M : zM) (N : zN) (tb : zS) (tl : Nat) (r : zT) : Option Value → zM → zN → Prop := fun v M' N' => N' = N ∧ Mf M M' ∧ match r with
  | .inl (S', q) => v = some (.int 1) ∧ Rw M' 45 S' ∧ mTk M' tb tl q
  | .inr q => v = some (.int 0) ∧ M' 44 18 = nI q
theorem mQ_no {q : Nat} {r : zT} (hr : r = .inr q) (hf : Mf M M2) (hA : M2 44 18 = nI q) : mQ M N tb tl r (some (.int 0)) M2 N := by
  subst hr
  exact ⟨rfl, hf, rfl, hA⟩
theorem mQ_ok {q : Nat} {S' : zS} {r : zT} (hr : r = .inl (S', q)) (hf : Mf M M2) (hv : Rw M2 45 S') (hA : mTk M2 tb tl q) : mQ M N tb tl r (some (.int 1)) M2 N := by
  subst hr
  exact ⟨rfl, hf, rfl, hv, hA⟩
theorem en_le (hp : p ≤ tl) : en tb tl p ≤ tl := by
  by_cases h : p < tl
  · exact (en_gt h).2
  · rw [en_end (by omega)]; exact hp
theorem m_next (hT : mT M tb tl) (hm : mTk M tb tl p) (hp : p ≤ tl) : zV X 188 [.ref 44] M N (fun v M' N' => v = none ∧ N' = N ∧ Nf M M' ∧ mTk M' tb tl (nx tb tl p)) := m_nextToken hT (en_le hp) hm.2.2.1
theorem m_fails (hm : mTk M tb tl p) : zE1 X 191 [.ref 44] M N (some (.int 0)) (z_up M 44 18 (nI p)) N := by
  refine zE1i [(0, .ref 44)] rfl ?_
  refine zs rfl rfl rfl ?_
  refine zs rfl rfl rfl ?_
  refine zs rfl rfl rfl ?_
  refine zto rfl hm.2.1 ?_
  refine zs rfl rfl rfl ?_
  refine zs rfl rfl rfl ?_
  exact zret rfl rfl ⟨rfl, rfl, rfl⟩
theorem m_isNumber (hm : mTk M tb tl p) {lw hi : Int32} (hl : 0 ≤ lw) (hh : hi ≤ 9999) : zV X 196 [.ref 44, .int lw, .int hi] M N (fun v M' N' => N' = N ∧ (pN tb tl p lw hi = true ∧ v = some (.int 1) ∧ M' = M ∨ pN tb tl p lw hi = false ∧ v = some (.int 0) ∧ M' = z_up M 44 18 (nI p))) := by
  refine zVi [(0, .ref 44), (1, .int lw), (2, .int hi)] rfl ?_
  have ht := tk_lt (tb := tb) (tl := tl) p
  have no : pN tb tl p lw hi = false → zW X 196 23 [(0, .ref 44), (1, .int lw), (2, .int hi)] [] M N (fun v M' N' => N' = N ∧ (pN tb tl p lw hi = true ∧ v = some (.int 1) ∧ M' = M ∨ pN tb tl p lw hi = false ∧ v = some (.int 0) ∧ M' = z_up M 44 18 (nI p))) := by
    intro e
    refine zs rfl rfl rfl ?_
    refine zcl rfl rfl (m_fails hm) ?_
    refine zs rfl rfl rfl ?_
    refine zs rfl rfl rfl ?_
    exact zret rfl rfl ⟨rfl, Or.inr ⟨e, rfl, rfl⟩⟩
  refine zs rfl rfl rfl ?_
  refine zs rfl rfl rfl ?_
  refine zto rfl hm.1 ?_
  refine zs rfl rfl rfl ?_
  refine zbr rfl rfl rfl (fun h2 => ?_) (fun h2 => ?_)
  · exact no (decide_eq_false (fun q => h2 (by rw [q.1]; rfl)))
  · have e2 : tk tb tl p = 2 := nI_inj (b := 2) (by omega) (by decide) (Decidable.not_not.mp h2)
    refine zs rfl rfl rfl ?_
    refine zs rfl rfl rfl ?_
    refine zto rfl hm.2.2.2 ?_
    refine zs rfl rfl rfl ?_
    refine zs rfl rfl rfl ?_
    refine zs rfl rfl rfl ?_
    refine zs rfl rfl rfl ?_
    refine zs rfl rfl rfl ?_
    refine zcl rfl rfl (m_isInI (mv tb tl p) lw hi) ?_
    by_cases h3 : lw ≤ mv tb tl p ∧ mv tb tl p ≤ hi
    · rw [decide_eq_true h3]
      refine zs rfl rfl rfl ?_
      refine zs rfl rfl rfl ?_
      refine zs rfl rfl rfl ?_
      exact zret rfl rfl ⟨rfl, Or.inl ⟨decide_eq_true ⟨e2, (nv_in e2 hl hh).mp h3⟩, rfl, rfl⟩⟩
    · rw [decide_eq_false h3]
      refine zs rfl rfl rfl ?_
      exact no (decide_eq_false (fun q => h3 ((nv_in e2 hl hh).mpr q.2)))
theorem m_comesTo (hT : mT M tb tl) (hm : mTk M tb tl p) (hp : p ≤ tl) (hr : Rw M 45 S) {i : Nat} (hi : i < 82) {lw hi' : Int32} (hl : 0 ≤ lw) (hh : hi' ≤ 9999) : zV X 197 [.ref 44, .int (nI i), .int lw, .int hi'] M N (mQ M N tb tl (cond (pN tb tl p lw hi') (.inl (upd S i (cv tb tl p), nx tb tl p)) (.inr p))) := by
  refine zVi [(0, .ref 44), (1, .int (nI i)), (2, .int lw), (3, .int hi')] rfl ?_
  refine zs rfl rfl rfl ?_
  refine zs rfl rfl rfl ?_
  refine zs rfl rfl rfl ?_
  refine zclQ rfl rfl (m_isNumber hm hl hh) ?_
  rintro v1 M1 N1 ⟨rfl, ⟨e, rfl, rfl⟩ | ⟨e, rfl, rfl⟩⟩
  · rw [e]
    have ev : M1 44 17 = cv tb tl p := hm.2.2.2.trans (nv_eq hh e)
    refine zs rfl rfl rfl ?_
    refine zs rfl rfl rfl ?_
    refine zs rfl rfl rfl ?_
    refine zs rfl rfl rfl ?_
    refine zs rfl rfl rfl ?_
    refine zs rfl rfl rfl ?_
    refine zto rfl ev ?_
    refine zas rfl rfl rfl rfl (by omega) (by decide) ?_
    refine zs rfl rfl rfl ?_
    refine zclQ rfl rfl (m_next (hT.mf (Mf.rfl'.up45 i (cv tb tl p))) (hm.up45 i (cv tb tl p)) hp) ?_
    rintro v2 M2 N2 ⟨rfl, rfl, hn2, hm2⟩
    refine zs rfl rfl rfl ?_
    exact zret rfl rfl (mQ_ok rfl ((Mf.rfl'.up45 _ _).trans hn2.mf) ((hr.up _ _).nf (by decide) hn2) hm2)
  · rw [e]
    refine zs rfl rfl rfl ?_
    refine zs rfl rfl rfl ?_
    exact zret rfl rfl (mQ_no rfl (Mf.rfl'.up18 _) rfl)
theorem m_anchorComes (hT : mT M tb tl) (hm : mTk M tb tl p) (hp : p ≤ tl) (hr : Rw M 45 S) {k : Nat} (hk : k < 12) : zV X 198 [.ref 44, .int (nI k)] M N (mQ M N tb tl (cond (pN tb tl (nx tb tl p) 0 5) (.inl (upl S k (100 + cv tb tl (nx tb tl p)), nx tb tl (nx tb tl p))) (.inr (nx tb tl p)))) := by
  refine zVi [(0, .ref 44), (1, .int (nI k))] rfl ?_
  have hq := (nx_le (tb := tb) hp).2
  refine zs rfl rfl rfl ?_
  refine zclQ rfl rfl (m_next hT hm hp) ?_
  rintro v1 M1 N1 ⟨rfl, rfl, hn1, hm1⟩
  have hT1 := hT.nf hn1
  refine zs rfl rfl rfl ?_
  refine zs rfl rfl rfl ?_
  refine zs rfl rfl rfl ?_
  refine zclQ rfl rfl (m_isNumber hm1 (lw := 0) (hi := 5) (by decide) (by decide)) ?_
  rintro v2 M2 N2 ⟨rfl, ⟨e, rfl, rfl⟩ | ⟨e, rfl, rfl⟩⟩
  · rw [e]
    have ev : M2 44 17 = cv tb tl (nx tb tl p) := hm1.2.2.2.trans (nv_eq (by decide) e)
    refine zs rfl rfl rfl ?_
    refine zs rfl rfl rfl ?_
    refine zs rfl rfl rfl ?_
    refine zs rfl rfl rfl ?_
    refine zs rfl rfl rfl ?_
    refine zs rfl rfl rfl ?_
    refine zs rfl rfl rfl ?_
    refine zto rfl ev ?_
    refine zs rfl rfl rfl ?_
    refine zcl rfl rfl (m_puts4 hk (100 + cv tb tl (nx tb tl p))) ?_
    refine zs rfl rfl rfl ?_
    refine zclQ rfl rfl (m_next (hT1.mf (Mf.rfl'.up45 (26 + 5 * k) (100 + cv tb tl (nx tb tl p)))) (hm1.up45 (26 + 5 * k) (100 + cv tb tl (nx tb tl p))) hq) ?_
    rintro v3 M3 N3 ⟨rfl, rfl, hn3, hm3⟩
    refine zs rfl rfl rfl ?_
    exact zret rfl rfl (mQ_ok rfl ((hn1.mf.up45 _ _).trans hn3.mf) (((hr.nf (by decide) hn1).up _ _).nf (by decide) hn3) hm3)
  · rw [e]
    refine zs rfl rfl rfl ?_
    refine zs rfl rfl rfl ?_
    exact zret rfl rfl (mQ_no rfl (hn1.mf.up18 _) rfl)
theorem m_kindHere (hT : mT M tb tl) (hm : mTk M tb tl p) (hp : p ≤ tl) : zE1 X 195 [.ref 44] M N (some (.int (cond (pW tb tl p (nI 0)) 0 (cond (pW tb tl p (nI 1)) 1 (cond (pW tb tl p (nI 2)) 2 (cond (pW tb tl p (nI 3)) 3 (cond (pW tb tl p (nI 4)) 4 (cond (pW tb tl p (nI 5)) 5 (-1))))))))) M N := by
  refine zE1i [(0, .ref 44)] rfl ?_
  have at159 : zW X 195 159 [(0, .ref 44)] [] M N (fun v1 M1 N1 => v1 = some (.int (cond (pW tb tl p (nI 5)) 5 (-1))) ∧ M1 = M ∧ N1 = N) := by
    refine zs rfl rfl rfl ?_
    refine zs rfl rfl rfl ?_
    refine zcl rfl rfl (m_isWordN (k := 8) hm hp hT.1 (by decide)) ?_
    by_cases hw : tk tb tl p = 1 ∧ en tb tl p - p = 8
    · rw [decide_eq_true hw]
      refine zs rfl rfl rfl ?_
      refine zs rfl rfl rfl ?_
      refine zs rfl rfl rfl ?_
      refine zs rfl rfl rfl ?_
      refine zs rfl rfl rfl ?_
      refine zs rfl rfl rfl ?_
      refine zclQ rfl rfl (m_has3 (i := 0) hT hm hp (by decide) 115 109 117) ?_
      rintro v1 M1 N1 ⟨rfl, rfl, ⟨rfl, g0⟩ | ⟨rfl, g0⟩⟩
      · refine zs rfl rfl rfl ?_
        refine zs rfl rfl rfl ?_
        refine zs rfl rfl rfl ?_
        refine zs rfl rfl rfl ?_
        refine zs rfl rfl rfl ?_
        refine zs rfl rfl rfl ?_
        refine zclQ rfl rfl (m_has3 (i := 3) hT hm hp (by decide) 103 103 108) ?_
        rintro v2 M2 N2 ⟨rfl, rfl, ⟨rfl, g1⟩ | ⟨rfl, g1⟩⟩
        · refine zs rfl rfl rfl ?_
          refine zs rfl rfl rfl ?_
          refine zs rfl rfl rfl ?_
          refine zs rfl rfl rfl ?_
          refine zs rfl rfl rfl ?_
          refine zs rfl rfl rfl ?_
          refine zclQ rfl rfl (m_has3 (i := 5) hT hm hp (by decide) 108 101 114) ?_
          rintro v3 M3 N3 ⟨rfl, rfl, ⟨rfl, g2⟩ | ⟨rfl, g2⟩⟩
          · refine zs rfl rfl rfl ?_
            have k0 := H3_tb hw.1 (by omega) g0
            have k1 := H3_tb hw.1 (by omega) g1
            have k2 := H3_tb hw.1 (by omega) g2
            have e : pW tb tl p (nI 5) = true := (pW_iff (by decide)).mpr ⟨hw.1, hw.2, fun j hj => by
              match j, hj with
              | 0, _ => exact k0.1
              | 1, _ => exact k0.2.1
              | 2, _ => exact k0.2.2
              | 3, _ => exact k1.1
              | 4, _ => exact k1.2.1
              | 5, _ => exact k1.2.2
              | 6, _ => exact k2.2.1
              | 7, _ => exact k2.2.2
              | _ + 8, h => exact absurd h (by show ¬ _ < 8; omega)⟩
            rw [e]
            refine zs rfl rfl rfl ?_
            refine zs rfl rfl rfl ?_
            exact zret rfl rfl ⟨rfl, rfl, rfl⟩
          · rw [pW_f (w := 5) (by decide) (fun q => g2 (sp_H3 (i := 5) q.1 q.2 (by decide)))]
            refine zs rfl rfl rfl ?_
            refine zs rfl rfl rfl ?_
            exact zret rfl rfl ⟨rfl, rfl, rfl⟩
        · rw [pW_f (w := 5) (by decide) (fun q => g1 (sp_H3 (i := 3) q.1 q.2 (by decide)))]
          refine zs rfl rfl rfl ?_
          refine zs rfl rfl rfl ?_
          exact zret rfl rfl ⟨rfl, rfl, rfl⟩
      · rw [pW_f (w := 5) (by decide) (fun q => g0 (sp_H3 (i := 0) q.1 q.2 (by decide)))]
        refine zs rfl rfl rfl ?_
        refine zs rfl rfl rfl ?_
        exact zret rfl rfl ⟨rfl, rfl, rfl⟩
    · rw [decide_eq_false hw, pW_f (w := 5) (by decide) (fun q => hw ⟨q.1, q.2.1⟩)]
      refine zs rfl rfl rfl ?_
      refine zs rfl rfl rfl ?_
      exact zret rfl rfl ⟨rfl, rfl, rfl⟩
  have at106 : zW X 195 106 [(0, .ref 44)] [] M N (fun v1 M1 N1 => v1 = some (.int (cond (pW tb tl p (nI 4)) 4 (cond (pW tb tl p (nI 5)) 5 (-1)))) ∧ M1 = M ∧ N1 = N) := by
    refine zs rfl rfl rfl ?_
    refine zs rfl rfl rfl ?_
    refine zcl rfl rfl (m_isWordN (k := 7) hm hp hT.1 (by decide)) ?_
    by_cases hw : tk tb tl p = 1 ∧ en tb tl p - p = 7
    · rw [decide_eq_true hw]
      refine zs rfl rfl rfl ?_
      refine zs rfl rfl rfl ?_
      refine zs rfl rfl rfl ?_
      refine zs rfl rfl rfl ?_
      refine zs rfl rfl rfl ?_
      refine zs rfl rfl rfl ?_
      refine zclQ rfl rfl (m_has3 (i := 0) hT hm hp (by decide) 98 117 114) ?_
      rintro v1 M1 N1 ⟨rfl, rfl, ⟨rfl, g0⟩ | ⟨rfl, g0⟩⟩
      · refine zs rfl rfl rfl ?_
        refine zs rfl rfl rfl ?_
        refine zs rfl rfl rfl ?_
        refine zs rfl rfl rfl ?_
        refine zs rfl rfl rfl ?_
        refine zs rfl rfl rfl ?_
        refine zclQ rfl rfl (m_has3 (i := 3) hT hm hp (by decide) 110 105 110) ?_
        rintro v2 M2 N2 ⟨rfl, rfl, ⟨rfl, g1⟩ | ⟨rfl, g1⟩⟩
        · refine zs rfl rfl rfl ?_
          refine zs rfl rfl rfl ?_
          refine zs rfl rfl rfl ?_
          refine zs rfl rfl rfl ?_
          refine zs rfl rfl rfl ?_
          refine zs rfl rfl rfl ?_
          refine zclQ rfl rfl (m_has3 (i := 4) hT hm hp (by decide) 105 110 103) ?_
          rintro v3 M3 N3 ⟨rfl, rfl, ⟨rfl, g2⟩ | ⟨rfl, g2⟩⟩
          · refine zs rfl rfl rfl ?_
            have k0 := H3_tb hw.1 (by omega) g0
            have k1 := H3_tb hw.1 (by omega) g1
            have k2 := H3_tb hw.1 (by omega) g2
            have e : pW tb tl p (nI 4) = true := (pW_iff (by decide)).mpr ⟨hw.1, hw.2, fun j hj => by
              match j, hj with
              | 0, _ => exact k0.1
              | 1, _ => exact k0.2.1
              | 2, _ => exact k0.2.2
              | 3, _ => exact k1.1
              | 4, _ => exact k1.2.1
              | 5, _ => exact k1.2.2
              | 6, _ => exact k2.2.2
              | _ + 7, h => exact absurd h (by show ¬ _ < 7; omega)⟩
            rw [e]
            refine zs rfl rfl rfl ?_
            exact zret rfl rfl ⟨rfl, rfl, rfl⟩
          · rw [pW_f (w := 4) (by decide) (fun q => g2 (sp_H3 (i := 4) q.1 q.2 (by decide)))]
            refine zs rfl rfl rfl ?_
            exact at159
        · rw [pW_f (w := 4) (by decide) (fun q => g1 (sp_H3 (i := 3) q.1 q.2 (by decide)))]
          refine zs rfl rfl rfl ?_
          exact at159
      · rw [pW_f (w := 4) (by decide) (fun q => g0 (sp_H3 (i := 0) q.1 q.2 (by decide)))]
        refine zs rfl rfl rfl ?_
        exact at159
    · rw [decide_eq_false hw, pW_f (w := 4) (by decide) (fun q => hw ⟨q.1, q.2.1⟩)]
      refine zs rfl rfl rfl ?_
      exact at159
  have at53 : zW X 195 53 [(0, .ref 44)] [] M N (fun v1 M1 N1 => v1 = some (.int (cond (pW tb tl p (nI 3)) 3 (cond (pW tb tl p (nI 4)) 4 (cond (pW tb tl p (nI 5)) 5 (-1))))) ∧ M1 = M ∧ N1 = N) := by
    refine zs rfl rfl rfl ?_
    refine zs rfl rfl rfl ?_
    refine zcl rfl rfl (m_isWordN (k := 8) hm hp hT.1 (by decide)) ?_
    by_cases hw : tk tb tl p = 1 ∧ en tb tl p - p = 8
    · rw [decide_eq_true hw]
      refine zs rfl rfl rfl ?_
      refine zs rfl rfl rfl ?_
      refine zs rfl rfl rfl ?_
      refine zs rfl rfl rfl ?_
      refine zs rfl rfl rfl ?_
      refine zs rfl rfl rfl ?_
      refine zclQ rfl rfl (m_has3 (i := 0) hT hm hp (by decide) 100 114 97) ?_
      rintro v1 M1 N1 ⟨rfl, rfl, ⟨rfl, g0⟩ | ⟨rfl, g0⟩⟩
      · refine zs rfl rfl rfl ?_
        refine zs rfl rfl rfl ?_
        refine zs rfl rfl rfl ?_
        refine zs rfl rfl rfl ?_
        refine zs rfl rfl rfl ?_
        refine zs rfl rfl rfl ?_
        refine zclQ rfl rfl (m_has3 (i := 3) hT hm hp (by decide) 103 103 105) ?_
        rintro v2 M2 N2 ⟨rfl, rfl, ⟨rfl, g1⟩ | ⟨rfl, g1⟩⟩
        · refine zs rfl rfl rfl ?_
          refine zs rfl rfl rfl ?_
          refine zs rfl rfl rfl ?_
          refine zs rfl rfl rfl ?_
          refine zs rfl rfl rfl ?_
          refine zs rfl rfl rfl ?_
          refine zclQ rfl rfl (m_has3 (i := 5) hT hm hp (by decide) 105 110 103) ?_
          rintro v3 M3 N3 ⟨rfl, rfl, ⟨rfl, g2⟩ | ⟨rfl, g2⟩⟩
          · refine zs rfl rfl rfl ?_
            have k0 := H3_tb hw.1 (by omega) g0
            have k1 := H3_tb hw.1 (by omega) g1
            have k2 := H3_tb hw.1 (by omega) g2
            have e : pW tb tl p (nI 3) = true := (pW_iff (by decide)).mpr ⟨hw.1, hw.2, fun j hj => by
              match j, hj with
              | 0, _ => exact k0.1
              | 1, _ => exact k0.2.1
              | 2, _ => exact k0.2.2
              | 3, _ => exact k1.1
              | 4, _ => exact k1.2.1
              | 5, _ => exact k1.2.2
              | 6, _ => exact k2.2.1
              | 7, _ => exact k2.2.2
              | _ + 8, h => exact absurd h (by show ¬ _ < 8; omega)⟩
            rw [e]
            refine zs rfl rfl rfl ?_
            exact zret rfl rfl ⟨rfl, rfl, rfl⟩
          · rw [pW_f (w := 3) (by decide) (fun q => g2 (sp_H3 (i := 5) q.1 q.2 (by decide)))]
            refine zs rfl rfl rfl ?_
            exact at106
        · rw [pW_f (w := 3) (by decide) (fun q => g1 (sp_H3 (i := 3) q.1 q.2 (by decide)))]
          refine zs rfl rfl rfl ?_
          exact at106
      · rw [pW_f (w := 3) (by decide) (fun q => g0 (sp_H3 (i := 0) q.1 q.2 (by decide)))]
        refine zs rfl rfl rfl ?_
        exact at106
    · rw [decide_eq_false hw, pW_f (w := 3) (by decide) (fun q => hw ⟨q.1, q.2.1⟩)]
      refine zs rfl rfl rfl ?_
      exact at106
  refine zs rfl rfl rfl ?_
  refine zs rfl rfl rfl ?_
  refine zs rfl rfl rfl ?_
  refine zs rfl rfl rfl ?_
  refine zs rfl rfl rfl ?_
  refine zcl rfl rfl (m_word_0 hT hm hp) ?_
  cases pW tb tl p (nI 0)
  · refine zs rfl rfl rfl ?_
    refine zs rfl rfl rfl ?_
    refine zs rfl rfl rfl ?_
    refine zs rfl rfl rfl ?_
    refine zs rfl rfl rfl ?_
    refine zs rfl rfl rfl ?_
    refine zcl rfl rfl (m_word_1 hT hm hp) ?_
    cases pW tb tl p (nI 1)
    · refine zs rfl rfl rfl ?_
      refine zs rfl rfl rfl ?_
      refine zs rfl rfl rfl ?_
      refine zs rfl rfl rfl ?_
      refine zs rfl rfl rfl ?_
      refine zs rfl rfl rfl ?_
      refine zs rfl rfl rfl ?_
      refine zcl rfl rfl (m_word_2 hT hm hp) ?_
      cases pW tb tl p (nI 2)
      · refine zs rfl rfl rfl ?_
        exact at53
      · refine zs rfl rfl rfl ?_
        refine zs rfl rfl rfl ?_
        exact zret rfl rfl ⟨rfl, rfl, rfl⟩
    · refine zs rfl rfl rfl ?_
      refine zs rfl rfl rfl ?_
      exact zret rfl rfl ⟨rfl, rfl, rfl⟩
  · refine zs rfl rfl rfl ?_
    refine zs rfl rfl rfl ?_
    exact zret rfl rfl ⟨rfl, rfl, rfl⟩
end MITEM
