/-! More of the model's sheets. -/
theorem hrw_iff {l : Nat} (hl : l ≤ 40) (f m : Int32) : hrw l f m ↔ (0 ≤ f ∧ 0 ≤ m ∧ m ≤ nI l - f) := by
  have hf := t_rng f
  have hm := t_rng m
  have hb : ∀ x : Int32, 0 ≤ x.toInt → (nI l - x).toInt = (l : Int) - x.toInt := fun x hx => by
    have := t_rng x
    rw [Int32.toInt_sub, nI_toInt (by omega), Int.bmod_eq_of_le (by omega) (by omega)]
  constructor
  · rintro ⟨h1, h2, h3, h4⟩
    refine ⟨h1, h2, ?_⟩
    rw [i_le, t_0] at h1 h2
    rw [i_le, nI_toInt (by omega)] at h3
    rw [i_le, hb m h2] at h4
    rw [i_le, hb f h1]
    omega
  · rintro ⟨h1, h2, h3⟩
    have h1' := h1
    have h2' := h2
    rw [i_le, t_0] at h1' h2'
    rw [i_le, hb f h1'] at h3
    refine ⟨h1, h2, ?_, ?_⟩
    · rw [i_le, nI_toInt (by omega)]; omega
    · rw [i_le, hb m h2']; omega
section MSHT2
variable {X : Nat × (Nat → Int32)} {M M2 : zM} {N N2 : zN} {S F : zS} {B : zB} {n : Nat}
theorem m_copy (hC : mC M S F) (hS : mS M N B) (hB : Sok B) (s f u g m : Int32) : zV X 209 [.ref 44, .int s, .int f, .int u, .int g, .int m] M N (mX M N (r_copy S F B s f u g m)) := by
  refine zVi [(0, .ref 44), (1, .int s), (2, .int f), (3, .int u), (4, .int g), (5, .int m)] rfl ?_
  unfold r_copy
  refine zs rfl rfl rfl ?_
  refine zcl rfl rfl (m_isSheet s) ?_
  by_cases h : 0 ≤ s ∧ s ≤ 3
  · rw [decide_eq_true h, if_pos h]
    obtain ⟨t, ht, rfl⟩ := r4n h
    rw [nI_clamp (n := t) (by omega)]
    refine zs rfl rfl rfl ?_
    refine zs rfl rfl rfl ?_
    refine zcl rfl rfl (m_isSheet u) ?_
    by_cases h2 : 0 ≤ u ∧ u ≤ 3
    · rw [decide_eq_true h2, if_pos h2]
      obtain ⟨v, hv, rfl⟩ := r4n h2
      rw [nI_clamp (n := v) (by omega)]
      have hS0 := hS t ht
      have hS1 := hS v hv
      have hB0 := (hB t ht).1
      have hB1 := (hB v hv).1
      have b0 := bitsN hB ht
      have b1 := bitsN hB hv
      refine zs rfl rfl rfl ?_
      refine zs rfl rfl rfl ?_
      refine zs rfl rfl rfl ?_
      refine zs rfl rfl rfl ?_
      refine zal rfl rfl rfl (by omega) (by decide) ?_
      refine zto rfl hS0.1 ?_
      by_cases e0 : B.1 t = 0
      · rw [mbt_0 e0, if_pos e0]
        refine zs rfl rfl rfl ?_
        refine zs rfl rfl rfl ?_
        refine zs rfl rfl rfl ?_
        refine zcl rfl rfl (m_finds_5) ?_
        exact zret rfl rfl (mX_ref (c := 5) rfl Fr.rfl' hC hS)
      · rw [if_neg e0]
        refine zbf (i_nlt.mpr (b0.mpr e0)) rfl rfl rfl ?_
        refine zs rfl rfl rfl ?_
        refine zs rfl rfl rfl ?_
        refine zs rfl rfl rfl ?_
        refine zal rfl rfl rfl (by omega) (by decide) ?_
        refine zto rfl hS1.1 ?_
        by_cases e1 : B.1 v = 0
        · rw [mbt_0 e1, if_pos e1]
          refine zs rfl rfl rfl ?_
          refine zs rfl rfl rfl ?_
          refine zs rfl rfl rfl ?_
          refine zcl rfl rfl (m_finds_5) ?_
          exact zret rfl rfl (mX_ref (c := 5) rfl Fr.rfl' hC hS)
        · rw [if_neg e1]
          rw [mbt_n e0] at hS0
          rw [mbt_n e1] at hS1 b1 ⊢
          refine zbt (b1.mpr e1) rfl rfl rfl ?_
          refine zs rfl rfl rfl ?_
          refine zs rfl rfl rfl ?_
          refine zs rfl rfl rfl ?_
          refine zal rfl rfl rfl (by omega) (by decide) ?_
          refine zto rfl hS0.1 ?_
          refine zs rfl rfl rfl ?_
          refine zs rfl rfl rfl ?_
          refine zs rfl rfl rfl ?_
          refine zal rfl rfl rfl (by omega) (by decide) ?_
          refine zto rfl hS1.1 ?_
          by_cases e2 : B.1 t = B.1 v
          · rw [if_pos e2]
            refine zbt (e2) rfl rfl rfl ?_
            have bad : ¬ (hrw (B.2.1 t) f m ∧ hrw (B.2.1 v) g m) → zW X 209 110 [(0, .ref 44), (1, .int (nI t)), (2, .int f), (3, .int (nI v)), (4, .int g), (5, .int m)] [] M N (mX M N (if hrw (B.2.1 t) f m then (if hrw (B.2.1 v) g m then (m, S, F, B.1, B.2.1, up' B.2.2 v (va_cpy (B.2.2 t) (B.2.2 v) f.toNatClampNeg g.toNatClampNeg m.toNatClampNeg)) else rfB S F B 0) else rfB S F B 0)) := by
              intro hno
              have e : (if hrw (B.2.1 t) f m then (if hrw (B.2.1 v) g m then (m, S, F, B.1, B.2.1, up' B.2.2 v (va_cpy (B.2.2 t) (B.2.2 v) f.toNatClampNeg g.toNatClampNeg m.toNatClampNeg)) else rfB S F B 0) else rfB S F B 0) = rfB S F B 0 := by
                by_cases q : hrw (B.2.1 t) f m
                · rw [if_pos q, if_neg (fun w => hno ⟨q, w⟩)]
                · rw [if_neg q]
              rw [e]
              refine zs rfl rfl rfl ?_
              refine zs rfl rfl rfl ?_
              refine zcl rfl rfl (m_finds_0) ?_
              exact zret rfl rfl (mX_ref (c := 0) rfl Fr.rfl' hC hS)
            refine zs rfl rfl rfl ?_
            refine zbr rfl rfl rfl (fun k1 => ?_) (fun k1 => ?_)
            · exact bad (fun q => i_nlt.mpr q.1.1 k1)
            · refine zs rfl rfl rfl ?_
              refine zbr rfl rfl rfl (fun k2 => ?_) (fun k2 => ?_)
              · exact bad (fun q => i_nlt.mpr q.2.1 k2)
              · refine zs rfl rfl rfl ?_
                refine zbr rfl rfl rfl (fun k3 => ?_) (fun k3 => ?_)
                · exact bad (fun q => i_nlt.mpr q.1.2.1 k3)
                · refine zs rfl rfl rfl ?_
                  refine zs rfl rfl rfl ?_
                  refine zs rfl rfl rfl ?_
                  refine zs rfl rfl rfl ?_
                  refine zal rfl rfl rfl (by omega) (by decide) ?_
                  refine zto rfl hS0.2.1 ?_
                  refine zs rfl rfl rfl ?_
                  refine zs rfl rfl rfl ?_
                  refine zbr rfl rfl rfl (fun k4 => ?_) (fun k4 => ?_)
                  · exact bad (fun q => i_nlt.mpr ((hrw_iff hB0 f m).mp q.1).2.2 k4)
                  · refine zs rfl rfl rfl ?_
                    refine zs rfl rfl rfl ?_
                    refine zs rfl rfl rfl ?_
                    refine zs rfl rfl rfl ?_
                    refine zal rfl rfl rfl (by omega) (by decide) ?_
                    refine zto rfl hS1.2.1 ?_
                    refine zs rfl rfl rfl ?_
                    refine zs rfl rfl rfl ?_
                    refine zbr rfl rfl rfl (fun k5 => ?_) (fun k5 => ?_)
                    · have h4 : hrw (B.2.1 t) f m := (hrw_iff hB0 f m).mpr ⟨i_nlt.mp k1, i_nlt.mp k3, i_nlt.mp k4⟩
                      have h5 : hrw (B.2.1 v) g m := (hrw_iff hB1 g m).mpr ⟨i_nlt.mp k2, i_nlt.mp k3, k5⟩
                      rw [if_pos h4, if_pos h5]
                      obtain ⟨a, b, rfl, rfl, hab⟩ := hrw_of hB0 h4
                      obtain ⟨c, d, rfl, hd, hcd⟩ := hrw_of hB1 h5
                      have hbd : b = d := nI_inj (by omega) (by omega) hd
                      subst hbd
                      rw [nI_clamp (n := a) (by omega), nI_clamp (n := c) (by omega), nI_clamp (n := b) (by omega)]
                      refine zs rfl rfl rfl ?_
                      refine zs rfl rfl rfl ?_
                      refine zs rfl rfl rfl ?_
                      refine zs rfl rfl rfl ?_
                      refine zs rfl rfl rfl ?_
                      refine zto rfl (m40 t a) ?_
                      refine zs rfl rfl rfl ?_
                      refine zs rfl rfl rfl ?_
                      refine zs rfl rfl rfl ?_
                      refine zs rfl rfl rfl ?_
                      refine zs rfl rfl rfl ?_
                      refine zs rfl rfl rfl ?_
                      refine zto rfl (m40 v c) ?_
                      refine zs rfl rfl rfl ?_
                      refine zs rfl rfl rfl ?_
                      refine zs rfl rfl rfl ?_
                      have fin : ∀ N1 : zN, (∀ q, q ≠ 54 → N1 q = N q) → (∀ x, N1 54 x = if 40 * v + c ≤ x ∧ x < 40 * v + c + b then N 54 (40 * t + a + (x - (40 * v + c))) else N 54 x) → ∀ tl, (tl = [] ∨ ∃ z : Int32, tl = [(9, Value.int z)]) → zW X 209 191 ((0, .ref 44) :: (1, .int (nI t)) :: (2, .int (nI a)) :: (3, .int (nI v)) :: (4, .int (nI c)) :: (5, .int (nI b)) :: (6, .int (nI (40 * t + a))) :: (7, .int (nI (40 * v + c))) :: (8, .int (nI b)) :: tl) [] M N1 (mX M N (nI b, S, F, B.1, B.2.1, up' B.2.2 v (va_cpy (B.2.2 t) (B.2.2 v) a c b))) := by
                        intro N1 hN1 hx tl htl
                        have hnew : mS M N1 (B.1, B.2.1, up' B.2.2 v (va_cpy (B.2.2 t) (B.2.2 v) a c b)) := by
                          refine hS.up (t := v) hv (fun w hw hwv i hi => ?_) (fun i hi => ?_)
                          · rw [hx, if_neg (by omega)]
                          · rw [hx]
                            unfold va_cpy
                            by_cases q : c ≤ i ∧ i < c + b
                            · rw [if_pos (by omega), if_pos q]
                              rw [show 40 * t + a + (40 * v + i - (40 * v + c)) = 40 * t + (a + (i - c)) by omega]
                              exact hS0.2.2 _ (by omega)
                            · rw [if_neg (by omega), if_neg q]
                              exact hS1.2.2 i hi
                        rcases htl with rfl | ⟨z, rfl⟩
                        · refine zs rfl rfl rfl ?_
                          exact zret rfl rfl (mX_ok rfl Fr.rfl' hC hnew hN1)
                        · refine zs rfl rfl rfl ?_
                          exact zret rfl rfl (mX_ok rfl Fr.rfl' hC hnew hN1)
                      by_cases hdir : 40 * v + c ≤ 40 * t + a
                      · have loop : ∀ e k N1 tl, k + e = b → (tl = [] ∨ ∃ z : Int32, tl = [(9, Value.int z)]) → (∀ q, q ≠ 54 → N1 q = N q) → (∀ x, N1 54 x = if 40 * v + c ≤ x ∧ x < 40 * v + c + k then N 54 (40 * t + a + (x - (40 * v + c))) else N 54 x) → zW X 209 137 ((0, .ref 44) :: (1, .int (nI t)) :: (2, .int (nI a)) :: (3, .int (nI v)) :: (4, .int (nI c)) :: (5, .int (nI b)) :: (6, .int (nI (40 * t + a))) :: (7, .int (nI (40 * v + c))) :: (8, .int (nI k)) :: tl) [] M N1 (mX M N (nI b, S, F, B.1, B.2.1, up' B.2.2 v (va_cpy (B.2.2 t) (B.2.2 v) a c b))) := by
                          intro e
                          induction e with
                          | zero =>
                            intro k N1 tl hk htl hN1 hx
                            obtain rfl : k = b := by omega
                            have f1 := fin N1 hN1 hx tl htl
                            rcases htl with rfl | ⟨z, rfl⟩
                            · refine zs rfl rfl rfl ?_
                              refine zs rfl rfl rfl ?_
                              refine zbt (nI_le (by omega) (by omega)) rfl rfl rfl ?_
                              exact f1
                            · refine zs rfl rfl rfl ?_
                              refine zs rfl rfl rfl ?_
                              refine zbt (nI_le (by omega) (by omega)) rfl rfl rfl ?_
                              exact f1
                          | succ e ih =>
                            intro k N1 tl hk htl hN1 hx
                            have rd : N1 54 (40 * t + a + k) = N 54 (40 * t + a + k) := by rw [hx, if_neg (by omega)]
                            have body : zW X 209 165 [(0, .ref 44), (1, .int (nI t)), (2, .int (nI a)), (3, .int (nI v)), (4, .int (nI c)), (5, .int (nI b)), (6, .int (nI (40 * t + a))), (7, .int (nI (40 * v + c))), (8, .int (nI k)), (9, .int (nI k))] [] M N1 (mX M N (nI b, S, F, B.1, B.2.1, up' B.2.2 v (va_cpy (B.2.2 t) (B.2.2 v) a c b))) := by
                              refine zs rfl rfl rfl ?_
                              refine zs rfl rfl rfl ?_
                              refine zs rfl rfl rfl ?_
                              refine zs rfl rfl rfl ?_
                              refine zs rfl rfl rfl ?_
                              refine zto rfl (nI_add (40 * v + c) k) ?_
                              refine zs rfl rfl rfl ?_
                              refine zs rfl rfl rfl ?_
                              refine zs rfl rfl rfl ?_
                              refine zs rfl rfl rfl ?_
                              refine zs rfl rfl rfl ?_
                              refine zto rfl (nI_add (40 * t + a) k) ?_
                              refine zlal rfl rfl rfl rfl (by omega) (by decide) ?_
                              refine ztoL rfl rd ?_
                              refine zlas rfl rfl rfl rfl (by omega) (by decide) ?_
                              refine zinc rfl rfl rfl ?_
                              refine zs rfl rfl rfl ?_
                              refine ih (k + 1) _ _ (by omega) (Or.inr ⟨_, rfl⟩) (fun q hq => (z_upL_ne N1 _ _ hq).trans (hN1 q hq)) (fun x => ?_)
                              rw [upL_a]
                              by_cases q : x = 40 * v + c + k
                              · rw [if_pos q, if_pos (by omega)]
                                congr 1; omega
                              · rw [if_neg q, hx]
                                by_cases w : 40 * v + c ≤ x ∧ x < 40 * v + c + k
                                · rw [if_pos w, if_pos (by omega)]
                                · rw [if_neg w, if_neg (by omega)]
                            rcases htl with rfl | ⟨z, rfl⟩
                            · refine zs rfl rfl rfl ?_
                              refine zs rfl rfl rfl ?_
                              refine zbf (nI_ge (by omega) (by omega)) rfl rfl rfl ?_
                              refine zs rfl rfl rfl ?_
                              refine zs rfl rfl rfl ?_
                              refine zbt (nI_le hdir (by omega)) rfl rfl rfl ?_
                              refine zs rfl rfl rfl ?_
                              refine zs rfl rfl rfl ?_
                              exact body
                            · refine zs rfl rfl rfl ?_
                              refine zs rfl rfl rfl ?_
                              refine zbf (nI_ge (by omega) (by omega)) rfl rfl rfl ?_
                              refine zs rfl rfl rfl ?_
                              refine zs rfl rfl rfl ?_
                              refine zbt (nI_le hdir (by omega)) rfl rfl rfl ?_
                              refine zs rfl rfl rfl ?_
                              refine zs rfl rfl rfl ?_
                              exact body
                        exact loop b 0 N [] (Nat.zero_add b) (Or.inl rfl) (fun _ _ => rfl) (fun x => by rw [if_neg (by omega)])
                      · have loop : ∀ e k N1 tl, k + e = b → (tl = [] ∨ ∃ z : Int32, tl = [(9, Value.int z)]) → (∀ q, q ≠ 54 → N1 q = N q) → (∀ x, N1 54 x = if 40 * v + c + (b - k) ≤ x ∧ x < 40 * v + c + b then N 54 (40 * t + a + (x - (40 * v + c))) else N 54 x) → zW X 209 137 ((0, .ref 44) :: (1, .int (nI t)) :: (2, .int (nI a)) :: (3, .int (nI v)) :: (4, .int (nI c)) :: (5, .int (nI b)) :: (6, .int (nI (40 * t + a))) :: (7, .int (nI (40 * v + c))) :: (8, .int (nI k)) :: tl) [] M N1 (mX M N (nI b, S, F, B.1, B.2.1, up' B.2.2 v (va_cpy (B.2.2 t) (B.2.2 v) a c b))) := by
                          intro e
                          induction e with
                          | zero =>
                            intro k N1 tl hk htl hN1 hx
                            obtain rfl : k = b := by omega
                            have f1 := fin N1 hN1 (fun x => by rw [hx, Nat.sub_self, Nat.add_zero]) tl htl
                            rcases htl with rfl | ⟨z, rfl⟩
                            · refine zs rfl rfl rfl ?_
                              refine zs rfl rfl rfl ?_
                              refine zbt (nI_le (by omega) (by omega)) rfl rfl rfl ?_
                              exact f1
                            · refine zs rfl rfl rfl ?_
                              refine zs rfl rfl rfl ?_
                              refine zbt (nI_le (by omega) (by omega)) rfl rfl rfl ?_
                              exact f1
                          | succ e ih =>
                            intro k N1 tl hk htl hN1 hx
                            obtain ⟨r, hr⟩ : ∃ r, b = r + 1 + k := ⟨b - 1 - k, by omega⟩
                            have ei : nI b - 1 - nI k = nI r := by
                              rw [hr, show r + 1 + k = (r + k) + 1 by omega, nI_pred, nI_sub]
                            have rd : N1 54 (40 * t + a + r) = N 54 (40 * t + a + r) := by rw [hx, if_neg (by omega)]
                            have body : zW X 209 165 [(0, .ref 44), (1, .int (nI t)), (2, .int (nI a)), (3, .int (nI v)), (4, .int (nI c)), (5, .int (nI b)), (6, .int (nI (40 * t + a))), (7, .int (nI (40 * v + c))), (8, .int (nI k)), (9, .int (nI r))] [] M N1 (mX M N (nI b, S, F, B.1, B.2.1, up' B.2.2 v (va_cpy (B.2.2 t) (B.2.2 v) a c b))) := by
                              refine zs rfl rfl rfl ?_
                              refine zs rfl rfl rfl ?_
                              refine zs rfl rfl rfl ?_
                              refine zs rfl rfl rfl ?_
                              refine zs rfl rfl rfl ?_
                              refine zto rfl (nI_add (40 * v + c) r) ?_
                              refine zs rfl rfl rfl ?_
                              refine zs rfl rfl rfl ?_
                              refine zs rfl rfl rfl ?_
                              refine zs rfl rfl rfl ?_
                              refine zs rfl rfl rfl ?_
                              refine zto rfl (nI_add (40 * t + a) r) ?_
                              refine zlal rfl rfl rfl rfl (by omega) (by decide) ?_
                              refine ztoL rfl rd ?_
                              refine zlas rfl rfl rfl rfl (by omega) (by decide) ?_
                              refine zinc rfl rfl rfl ?_
                              refine zs rfl rfl rfl ?_
                              refine ih (k + 1) _ _ (by omega) (Or.inr ⟨_, rfl⟩) (fun q hq => (z_upL_ne N1 _ _ hq).trans (hN1 q hq)) (fun x => ?_)
                              rw [upL_a]
                              by_cases q : x = 40 * v + c + r
                              · rw [if_pos q, if_pos (by omega)]
                                congr 1; omega
                              · rw [if_neg q, hx]
                                by_cases w : 40 * v + c + (b - k) ≤ x ∧ x < 40 * v + c + b
                                · rw [if_pos w, if_pos (by omega)]
                                · rw [if_neg w, if_neg (by omega)]
                            rcases htl with rfl | ⟨z, rfl⟩
                            · refine zs rfl rfl rfl ?_
                              refine zs rfl rfl rfl ?_
                              refine zbf (nI_ge (by omega) (by omega)) rfl rfl rfl ?_
                              refine zs rfl rfl rfl ?_
                              refine zs rfl rfl rfl ?_
                              refine zbf (nI_ge (by omega) (by omega)) rfl rfl rfl ?_
                              refine zs rfl rfl rfl ?_
                              refine zs rfl rfl rfl ?_
                              refine zs rfl rfl rfl ?_
                              refine zs rfl rfl rfl ?_
                              refine zs rfl rfl rfl ?_
                              refine zto rfl ei ?_
                              refine zs rfl rfl rfl ?_
                              refine zs rfl rfl rfl ?_
                              exact body
                            · refine zs rfl rfl rfl ?_
                              refine zs rfl rfl rfl ?_
                              refine zbf (nI_ge (by omega) (by omega)) rfl rfl rfl ?_
                              refine zs rfl rfl rfl ?_
                              refine zs rfl rfl rfl ?_
                              refine zbf (nI_ge (by omega) (by omega)) rfl rfl rfl ?_
                              refine zs rfl rfl rfl ?_
                              refine zs rfl rfl rfl ?_
                              refine zs rfl rfl rfl ?_
                              refine zs rfl rfl rfl ?_
                              refine zs rfl rfl rfl ?_
                              refine zto rfl ei ?_
                              refine zs rfl rfl rfl ?_
                              refine zs rfl rfl rfl ?_
                              exact body
                        exact loop b 0 N [] (Nat.zero_add b) (Or.inl rfl) (fun _ _ => rfl) (fun x => by rw [if_neg (by omega)])
                    · exact bad (fun q => k5 ((hrw_iff hB1 g m).mp q.2).2.2)
          · rw [if_neg e2]
            refine zbf (e2) rfl rfl rfl ?_
            refine zs rfl rfl rfl ?_
            refine zs rfl rfl rfl ?_
            refine zcl rfl rfl (m_finds_2) ?_
            exact zret rfl rfl (mX_ref (c := 2) rfl Fr.rfl' hC hS)
    · rw [decide_eq_false h2, if_neg h2]
      refine zs rfl rfl rfl ?_
      refine zs rfl rfl rfl ?_
      refine zs rfl rfl rfl ?_
      refine zcl rfl rfl (m_finds_0) ?_
      exact zret rfl rfl (mX_ref (c := 0) rfl Fr.rfl' hC hS)
  · rw [decide_eq_false h, if_neg h]
    refine zs rfl rfl rfl ?_
    refine zs rfl rfl rfl ?_
    refine zs rfl rfl rfl ?_
    refine zcl rfl rfl (m_finds_0) ?_
    exact zret rfl rfl (mX_ref (c := 0) rfl Fr.rfl' hC hS)
end MSHT2
