/-! The model's sheets. -/
def mbt (b : Int32) : Int32 := if b = 0 then -1 else b
theorem mbt_0 {b : Int32} (h : b = 0) : mbt b = -1 := if_pos h
theorem mbt_n {b : Int32} (h : b ≠ 0) : mbt b = b := if_neg h
def mS (M : zM) (N : zN) (B : zB) : Prop := ∀ t, t < 4 → M 52 t = mbt (B.1 t) ∧ M 53 t = nI (B.2.1 t) ∧ ∀ i, i < 40 → N 54 (40 * t + i) = B.2.2 t i
def mLs : List Nat := [44, 45, 47, 48, 49, 50, 52, 53, 55]
def mW (M : zM) (N : zN) (a : Value) (S F : zS) (B : zB) : Option Value → zM → zN → Prop := fun v M' N' => v = some a ∧ Fr mLs M M' ∧ (∀ c, c < 13 → M' 44 c = M 44 c) ∧ mC M' S F ∧ mS M' N' B ∧ ∀ b, b ≠ 54 → N' b = N b
def mX (M : zM) (N : zN) (r : zRB) : Option Value → zM → zN → Prop := mW M N (.int r.1) r.2.1 r.2.2.1 r.2.2.2
def mXL (M : zM) (N : zN) (S : zS) (r : Int64 × zS × zB) : Option Value → zM → zN → Prop := mW M N (.long r.1) S r.2.1 r.2.2
section MSHT
variable {X : Nat × (Nat → Int32)} {M M2 : zM} {N N2 : zN} {S F : zS} {B : zB} {n : Nat}
theorem mS.fr {l : List Nat} (h : mS M N B) (hf : Fr l M M2) (h1 : 52 ∉ l) (h2 : 53 ∉ l) : mS M2 N B := fun t ht => by
  rw [hf 52 h1, hf 53 h2]; exact h t ht
def ms2 : List Nat := [45, 47, 48, 49, 50, 52, 53, 55]
theorem mW_ref {c : Nat} (hc : c < 7) (hf : Fr ms2 M M2) (hC : mC M2 S F) (hS : mS M2 N B) (a : Value) : mW M N a S (bump F c) B (some a) (z_up (z_up M2 50 0 (M2 50 0 + 1)) 50 (c + 1) (M2 50 (c + 1) + 1)) N := by
  have h := mP_ref (M := M2) (N := N) (c := c) (r := rf S F c) rfl Fr.rfl' hC hc
  have hf2 : Fr ms2 M (z_up (z_up M2 50 0 (M2 50 0 + 1)) 50 (c + 1) (M2 50 (c + 1) + 1)) := (hf.trans (Fr.up (by decide))).trans (Fr.up (by decide))
  exact ⟨rfl, hf2.mono (by decide), fun k _ => by rw [hf2 44 (by decide)], h.2.2.2.2, hS.fr ((Fr.up (l := [50]) (by decide)).trans (Fr.up (by decide))) (by decide) (by decide), fun _ _ => rfl⟩
theorem mX_ref {c : Nat} {r : zRB} (hr : r = rfB S F B c) (hf : Fr ms2 M M2) (hC : mC M2 S F) (hS : mS M2 N B) (hc : c < 7 := by decide) : mX M N r (some (.int (fd c))) (z_up (z_up M2 50 0 (M2 50 0 + 1)) 50 (c + 1) (M2 50 (c + 1) + 1)) N := by
  subst hr
  exact mW_ref hc hf hC hS _
theorem mX_ok {a : Int32} {r : zRB} {S' : zS} {B' : zB} (hr : r = (a, S', F, B')) (hf : Fr ms2 M M2) (hC : mC M2 S' F) (hS : mS M2 N2 B') (hN : ∀ b, b ≠ 54 → N2 b = N b := by intro _ _; rfl) : mX M N r (some (.int a)) M2 N2 := by
  subst hr
  exact ⟨rfl, hf.mono (by decide), fun k _ => by rw [hf 44 (by decide)], hC, hS, hN⟩
theorem mS.up {t : Nat} (ht : t < 4) (h : mS M N B) {f : Nat → Int64} (h1 : ∀ u, u < 4 → u ≠ t → ∀ i, i < 40 → N2 54 (40 * u + i) = N 54 (40 * u + i)) (h2 : ∀ i, i < 40 → N2 54 (40 * t + i) = f i) : mS M N2 (B.1, B.2.1, up' B.2.2 t f) := fun u hu => by
  dsimp only
  by_cases e : u = t
  · subst e
    rw [up'_s]
    exact ⟨(h u hu).1, (h u hu).2.1, h2⟩
  · rw [up'_n _ _ e]
    exact ⟨(h u hu).1, (h u hu).2.1, fun i hi => (h1 u hu e i hi).trans ((h u hu).2.2 i hi)⟩
theorem m_isSheet (t : Int32) : zE1 X 205 [.int t] M N (some (.int (bI (decide (0 ≤ t ∧ t ≤ 3))))) M N := by
  refine zE1i [(0, .int t)] rfl ?_
  have e : (4 : Int32) ≤ t ↔ ¬ t ≤ 3 := by
    rw [i_le, i_le, t_4, t_3]; omega
  refine zs rfl rfl rfl ?_
  refine zbr rfl rfl rfl (fun hc => ?_) (fun hc => ?_)
  · rw [decide_eq_false (fun q => i_nlt.mpr q.1 hc)]
    refine zs rfl rfl rfl ?_
    exact zret rfl rfl ⟨rfl, rfl, rfl⟩
  · refine zs rfl rfl rfl ?_
    refine zs rfl rfl rfl ?_
    refine zbr rfl rfl rfl (fun hd => ?_) (fun hd => ?_)
    · rw [decide_eq_false (fun q => e.mp hd q.2)]
      refine zs rfl rfl rfl ?_
      exact zret rfl rfl ⟨rfl, rfl, rfl⟩
    · rw [decide_eq_true ⟨i_nlt.mp hc, Decidable.not_not.mp (fun q => hd (e.mpr q))⟩]
      refine zs rfl rfl rfl ?_
      refine zs rfl rfl rfl ?_
      exact zret rfl rfl ⟨rfl, rfl, rfl⟩
theorem m_narrow (b : Int32) (v : Int64) : zE1 X 206 [.int b, .long v] M N (some (.long (nar b v))) M N := by
  refine zE1i [(0, .int b), (1, .long v), (2, .retAddr 0)] rfl ?_
  unfold nar
  refine zs rfl rfl rfl ?_
  refine zs rfl rfl rfl ?_
  refine zbr rfl rfl rfl (fun hc => ?_) (fun hc => ?_)
  · rw [if_neg hc]
    refine zs rfl rfl rfl ?_
    refine zs rfl rfl rfl ?_
    refine zbr rfl rfl rfl (fun hd => ?_) (fun hd => ?_)
    · rw [if_neg hd]
      refine zs rfl rfl rfl ?_
      exact zret rfl rfl ⟨rfl, rfl, rfl⟩
    · rw [if_pos (Decidable.not_not.mp hd)]
      refine zs rfl rfl rfl ?_
      refine zs rfl rfl rfl ?_
      refine zs rfl rfl rfl ?_
      refine zs rfl rfl rfl ?_
      refine zs rfl rfl rfl ?_
      exact zret rfl rfl ⟨rfl, rfl, rfl⟩
  · rw [if_pos (Decidable.not_not.mp hc)]
    refine zs rfl rfl rfl ?_
    refine zs rfl rfl rfl ?_
    refine zs rfl rfl rfl ?_
    refine zs rfl rfl rfl ?_
    refine zs rfl rfl rfl ?_
    exact zret rfl rfl ⟨rfl, rfl, rfl⟩
theorem r4n {x : Int32} (h : 0 ≤ x ∧ x ≤ 3) : ∃ t, t < 4 ∧ x = nI t := by
  obtain ⟨j, hj, e⟩ := nI_of2 (n := 3) t_3 (i_nlt.mpr h.1) h.2
  exact ⟨j, by omega, e⟩
theorem m40 (t i : Nat) : (40 : Int32) * nI t + nI i = nI (40 * t + i) := by
  rw [show (40 : Int32) * nI t = nI (40 * t) from (Int32.ofNat_mul 40 t).symm, nI_add]
/-- a sheet's bits as the model has them -/
theorem bitsN (hB : Sok B) {t : Nat} (ht : t < 4) : (0 ≤ mbt (B.1 t)) ↔ B.1 t ≠ 0 := by
  rcases (hB t ht).2 with e | e | e | e
  · rw [mbt_0 e]
    exact ⟨fun q => absurd q (by decide), fun q => absurd e q⟩
  · rw [e]; decide
  · rw [e]; decide
  · rw [e]; decide
theorem m_wants (hS : mS M N B) (hB : Sok B) (s : Int32) : zE1 X 210 [.ref 44, .int s] M N (some (.int (if 0 ≤ s ∧ s ≤ 3 then (if B.1 s.toNatClampNeg = 0 then -1000000006 else 0) else -1000000001))) M N := by
  refine zE1i [(0, .ref 44), (1, .int s)] rfl ?_
  refine zs rfl rfl rfl ?_
  refine zcl rfl rfl (m_isSheet s) ?_
  by_cases h : 0 ≤ s ∧ s ≤ 3
  · rw [decide_eq_true h, if_pos h]
    obtain ⟨t, ht, rfl⟩ := r4n h
    rw [nI_clamp (by omega)]
    have hb := bitsN hB ht
    refine zs rfl rfl rfl ?_
    refine zs rfl rfl rfl ?_
    refine zs rfl rfl rfl ?_
    refine zs rfl rfl rfl ?_
    refine zal rfl rfl rfl (by omega) (by decide) ?_
    refine zto rfl (hS t ht).1 ?_
    by_cases e : B.1 t = 0
    · rw [mbt_0 e, if_pos e]
      refine zs rfl rfl rfl ?_
      refine zs rfl rfl rfl ?_
      refine zs rfl rfl rfl ?_
      exact zret rfl rfl ⟨rfl, rfl, rfl⟩
    · rw [if_neg e]
      refine zbt (hb.mpr e) rfl rfl rfl ?_
      refine zs rfl rfl rfl ?_
      exact zret rfl rfl ⟨rfl, rfl, rfl⟩
  · rw [decide_eq_false h, if_neg h]
    refine zs rfl rfl rfl ?_
    refine zs rfl rfl rfl ?_
    refine zs rfl rfl rfl ?_
    exact zret rfl rfl ⟨rfl, rfl, rfl⟩
theorem m_write (hC : mC M S F) (hS : mS M N B) (hB : Sok B) (s i : Int32) (v : Int64) : zV X 208 [.ref 44, .int s, .int i, .long v] M N (mXL M N S (r_write F B s i v)) := by
  refine zVi [(0, .ref 44), (1, .int s), (2, .int i), (3, .long v), (4, .retAddr 0)] rfl ?_
  unfold r_write
  refine zs rfl rfl rfl ?_
  refine zcl rfl rfl (m_isSheet s) ?_
  by_cases h : 0 ≤ s ∧ s ≤ 3
  · rw [decide_eq_true h, if_pos h]
    obtain ⟨t, ht, rfl⟩ := r4n h
    rw [nI_clamp (by omega)]
    have hb := bitsN hB ht
    have hS0 := hS t ht
    have hB0 := (hB t ht).1
    refine zs rfl rfl rfl ?_
    refine zs rfl rfl rfl ?_
    refine zs rfl rfl rfl ?_
    refine zs rfl rfl rfl ?_
    refine zal rfl rfl rfl (by omega) (by decide) ?_
    refine zto rfl hS0.1 ?_
    by_cases e : B.1 t = 0
    · rw [mbt_0 e, if_pos e]
      refine zs rfl rfl rfl ?_
      refine zs rfl rfl rfl ?_
      refine zs rfl rfl rfl ?_
      refine zcl rfl rfl (m_finds_5) ?_
      refine zs rfl rfl rfl ?_
      exact zret rfl rfl (mW_ref (c := 5) (by decide) Fr.rfl' hC hS _)
    · rw [mbt_n e] at hb hS0 ⊢
      rw [if_neg e]
      refine zbt (hb.mpr e) rfl rfl rfl ?_
      refine zs rfl rfl rfl ?_
      refine zs rfl rfl rfl ?_
      refine zs rfl rfl rfl ?_
      refine zs rfl rfl rfl ?_
      refine zs rfl rfl rfl ?_
      refine zs rfl rfl rfl ?_
      refine zal rfl rfl rfl (by omega) (by decide) ?_
      refine zto rfl hS0.2.1 ?_
      refine zs rfl rfl rfl ?_
      refine zs rfl rfl rfl ?_
      refine zs rfl rfl rfl ?_
      refine zcl rfl rfl (m_isInI i 0 (nI (B.2.1 t) - 1)) ?_
      by_cases h2 : 0 ≤ i ∧ i ≤ nI (B.2.1 t) - 1
      · rw [decide_eq_true h2, if_pos h2]
        obtain ⟨a, ha, rfl⟩ := nI_of (i_nlt.mpr h2.1)
        have ha2 : a < B.2.1 t := by
          have q := i_le.mp h2.2
          rw [nI_toInt ha] at q
          cases hl : B.2.1 t with
          | zero =>
            rw [hl] at q
            have e : (nI 0 - 1 : Int32).toInt = -1 := by decide
            rw [e] at q; omega
          | succ l =>
            rw [hl, nI_pred, nI_toInt (by omega)] at q; omega
        rw [nI_clamp ha]
        refine zs rfl rfl rfl ?_
        refine zs rfl rfl rfl ?_
        refine zs rfl rfl rfl ?_
        refine zs rfl rfl rfl ?_
        refine zs rfl rfl rfl ?_
        refine zs rfl rfl rfl ?_
        refine zs rfl rfl rfl ?_
        refine zs rfl rfl rfl ?_
        refine zto rfl (m40 t a) ?_
        refine zlal rfl rfl rfl rfl (by omega) (by decide) ?_
        refine ztoL rfl (hS0.2.2 a (by omega)) ?_
        refine zs rfl rfl rfl ?_
        refine zs rfl rfl rfl ?_
        refine zs rfl rfl rfl ?_
        refine zs rfl rfl rfl ?_
        refine zs rfl rfl rfl ?_
        refine zs rfl rfl rfl ?_
        refine zs rfl rfl rfl ?_
        refine zs rfl rfl rfl ?_
        refine zto rfl (m40 t a) ?_
        refine zs rfl rfl rfl ?_
        refine zs rfl rfl rfl ?_
        refine zs rfl rfl rfl ?_
        refine zal rfl rfl rfl (by omega) (by decide) ?_
        refine zto rfl hS0.1 ?_
        refine zs rfl rfl rfl ?_
        refine zcl rfl rfl (m_narrow (B.1 t) v) ?_
        refine zlas rfl rfl rfl rfl (by omega) (by decide) ?_
        refine zs rfl rfl rfl ?_
        refine zret rfl rfl ⟨rfl, Fr.rfl', fun _ _ => rfl, hC, ?_, fun b hb => z_upL_ne N _ _ hb⟩
        refine hS.up (t := t) ht (fun u hu hut k hk => ?_) (fun k hk => ?_)
        · rw [upL_a, if_neg (by omega)]
        · rw [upL_a, hS0.2.2 k hk]
          show _ = if k = a then _ else _
          by_cases q : k = a
          · rw [if_pos (by omega), if_pos q]
          · rw [if_neg (by omega), if_neg q]
      · rw [decide_eq_false h2, if_neg h2]
        refine zs rfl rfl rfl ?_
        refine zs rfl rfl rfl ?_
        refine zs rfl rfl rfl ?_
        refine zcl rfl rfl (m_finds_0) ?_
        refine zs rfl rfl rfl ?_
        exact zret rfl rfl (mW_ref (c := 0) (by decide) Fr.rfl' hC hS _)
  · rw [decide_eq_false h, if_neg h]
    refine zs rfl rfl rfl ?_
    refine zs rfl rfl rfl ?_
    refine zs rfl rfl rfl ?_
    refine zcl rfl rfl (m_finds_0) ?_
    refine zs rfl rfl rfl ?_
    exact zret rfl rfl (mW_ref (c := 0) (by decide) Fr.rfl' hC hS _)
theorem m_sheet (hC : mC M S F) (hS : mS M N B) (s b m : Int32) : zV X 207 [.ref 44, .int s, .int b, .int m] M N (mX M N (r_sheet S F B s b m)) := by
  refine zVi [(0, .ref 44), (1, .int s), (2, .int b), (3, .int m)] rfl ?_
  unfold r_sheet
  refine zs rfl rfl rfl ?_
  refine zcl rfl rfl (m_isSheet s) ?_
  by_cases h : 0 ≤ s ∧ s ≤ 3
  · rw [decide_eq_true h, if_pos h]
    obtain ⟨t, ht, rfl⟩ := r4n h
    rw [nI_clamp (by omega)]
    have good : (b = 0 ∨ b = 8 ∨ b = 16 ∨ b = 64) → zW X 207 36 [(0, .ref 44), (1, .int (nI t)), (2, .int b), (3, .int m)] [] M N (mX M N (if 0 ≤ m then (if m ≤ 40 then (if b = 0 then (0, S, F, up' B.1 t 0, up' B.2.1 t 0, up' B.2.2 t (fun _ => 0)) else (m, S, F, up' B.1 t b, up' B.2.1 t m.toNatClampNeg, up' B.2.2 t (fun _ => 0))) else rfB S F B 0) else rfB S F B 6)) := by
      intro hb
      have fin : ∀ (b' c' : Int32) (k : Nat), c' = mbt b' → k ≤ 40 → ∀ M1, M1 = z_up (z_up M 52 t c') 53 t (nI k) → zW X 207 94 [(0, .ref 44), (1, .int (nI t)), (2, .int b), (3, .int m), (4, .int 0)] [] M1 N (mX M N (nI k, S, F, up' B.1 t b', up' B.2.1 t k, up' B.2.2 t (fun _ => 0))) := by
        intro b' c' k hc hk M1 hM1
        have loop : ∀ d i N1, i + d = 40 → (∀ b, b ≠ 54 → N1 b = N b) → (∀ u, u < 4 → u ≠ t → ∀ i, i < 40 → N1 54 (40 * u + i) = N 54 (40 * u + i)) → (∀ j, j < i → N1 54 (40 * t + j) = 0) → zW X 207 94 [(0, .ref 44), (1, .int (nI t)), (2, .int b), (3, .int m), (4, .int (nI i))] [] M1 N1 (mX M N (nI k, S, F, up' B.1 t b', up' B.2.1 t k, up' B.2.2 t (fun _ => 0))) := by
          intro d
          induction d with
          | zero =>
            intro i N1 hi h1 h2 h3
            obtain rfl : i = 40 := by omega
            have e53 : M1 53 t = nI k := by rw [hM1, z_up_a, if_pos rfl]
            refine zs rfl rfl rfl ?_
            refine zs rfl rfl rfl ?_
            first | refine zs rfl rfl rfl ?_ | refine zbt (nI_le (a := 40) (by omega) (by omega)) rfl rfl rfl ?_
            refine zs rfl rfl rfl ?_
            refine zs rfl rfl rfl ?_
            refine zs rfl rfl rfl ?_
            refine zal rfl rfl rfl (by omega) (by decide) ?_
            refine zto rfl e53 ?_
            subst hM1
            refine zret rfl rfl (mX_ok rfl ((Fr.up (by decide)).trans (Fr.up (by decide))) (hC.fr ((Fr.up (l := [52, 53]) (by decide)).trans (Fr.up (by decide))) (by decide) (by decide)) ?_ h1)
            intro u hu
            dsimp only
            by_cases e : u = t
            · subst e
              rw [up'_s, up'_s, up'_s]
              exact ⟨by rw [z_up_ne _ _ _ (by decide), z_up_a, if_pos rfl]; exact hc, e53, h3⟩
            · rw [up'_n _ _ e, up'_n _ _ e, up'_n _ _ e]
              rw [z_up_ne _ _ _ (by decide), z_up_a, if_neg e, z_up_a, if_neg e, z_up_ne _ _ _ (by decide)]
              exact ⟨(hS u hu).1, (hS u hu).2.1, fun i hi => (h2 u hu e i hi).trans ((hS u hu).2.2 i hi)⟩
          | succ d ih =>
            intro i N1 hi h1 h2 h3
            refine zs rfl rfl rfl ?_
            refine zs rfl rfl rfl ?_
            refine zbf (nI_ge (b := 40) (by omega) (by omega)) rfl rfl rfl ?_
            refine zs rfl rfl rfl ?_
            refine zs rfl rfl rfl ?_
            refine zs rfl rfl rfl ?_
            refine zs rfl rfl rfl ?_
            refine zs rfl rfl rfl ?_
            refine zs rfl rfl rfl ?_
            refine zs rfl rfl rfl ?_
            refine zto rfl (m40 t i) ?_
            refine zs rfl rfl rfl ?_
            refine zlas rfl rfl rfl rfl (by omega) (by decide) ?_
            refine zinc rfl rfl rfl ?_
            refine zs rfl rfl rfl ?_
            refine ih (i + 1) _ (by omega) (fun b hb => (z_upL_ne N1 _ _ hb).trans (h1 b hb)) (fun u hu hut j hj => ?_) (fun j hj => ?_)
            · rw [upL_a, if_neg (by omega)]; exact h2 u hu hut j hj
            · rw [upL_a]
              by_cases q : j = i
              · rw [if_pos (by omega)]
              · rw [if_neg (by omega)]; exact h3 j (by omega)
        exact loop 40 0 N rfl (fun _ _ => rfl) (fun _ _ _ _ _ => rfl) (fun j hj => absurd hj (Nat.not_lt_zero j))
      refine zs rfl rfl rfl ?_
      refine zbr rfl rfl rfl (fun hc => ?_) (fun hc => ?_)
      · rw [if_pos hc]
        refine zs rfl rfl rfl ?_
        refine zs rfl rfl rfl ?_
        refine zbr rfl rfl rfl (fun hd => ?_) (fun hd => ?_)
        · rw [if_pos hd]
          obtain ⟨a, ha, rfl⟩ := nI_of (i_nlt.mpr hc)
          have ha40 : a ≤ 40 := (nI_leI (b := 40) ha (by decide)).mp hd
          rw [nI_clamp ha]
          refine zs rfl rfl rfl ?_
          refine zs rfl rfl rfl ?_
          refine zs rfl rfl rfl ?_
          refine zs rfl rfl rfl ?_
          refine zbr rfl rfl rfl (fun he => ?_) (fun he => ?_)
          · rw [if_neg he]
            refine zs rfl rfl rfl ?_
            refine zas rfl rfl rfl rfl (by omega) (by decide) ?_
            refine zs rfl rfl rfl ?_
            refine zs rfl rfl rfl ?_
            refine zs rfl rfl rfl ?_
            refine zs rfl rfl rfl ?_
            refine zbt (he) rfl rfl rfl ?_
            refine zs rfl rfl rfl ?_
            refine zas rfl rfl rfl rfl (by omega) (by decide) ?_
            refine zs rfl rfl rfl ?_
            refine zs rfl rfl rfl ?_
            exact fin b b a (mbt_n he).symm ha40 _ rfl
          · have e0 := Decidable.not_not.mp he
            rw [if_pos e0]
            subst e0
            refine zs rfl rfl rfl ?_
            refine zs rfl rfl rfl ?_
            refine zas rfl rfl rfl rfl (by omega) (by decide) ?_
            refine zs rfl rfl rfl ?_
            refine zs rfl rfl rfl ?_
            refine zs rfl rfl rfl ?_
            refine zs rfl rfl rfl ?_
            refine zs rfl rfl rfl ?_
            refine zs rfl rfl rfl ?_
            refine zs rfl rfl rfl ?_
            refine zas rfl rfl rfl rfl (by omega) (by decide) ?_
            refine zs rfl rfl rfl ?_
            refine zs rfl rfl rfl ?_
            exact fin 0 (-1) 0 rfl (by decide) _ rfl
        · rw [if_neg hd]
          refine zs rfl rfl rfl ?_
          refine zs rfl rfl rfl ?_
          refine zcl rfl rfl (m_finds_0) ?_
          exact zret rfl rfl (mX_ref (c := 0) rfl Fr.rfl' hC hS)
      · rw [if_neg hc]
        refine zs rfl rfl rfl ?_
        refine zs rfl rfl rfl ?_
        refine zcl rfl rfl (m_finds_6) ?_
        exact zret rfl rfl (mX_ref (c := 6) rfl Fr.rfl' hC hS)
    refine zs rfl rfl rfl ?_
    refine zs rfl rfl rfl ?_
    refine zbr rfl rfl rfl (fun hc => ?_) (fun hc => ?_)
    · rw [if_pos (Or.inl hc)]
      exact good (Or.inl hc)
    · refine zs rfl rfl rfl ?_
      refine zs rfl rfl rfl ?_
      refine zbr rfl rfl rfl (fun h8 => ?_) (fun h8 => ?_)
      · rw [if_pos (Or.inr (Or.inl h8))]
        exact good (Or.inr (Or.inl h8))
      · refine zs rfl rfl rfl ?_
        refine zs rfl rfl rfl ?_
        refine zbr rfl rfl rfl (fun h16 => ?_) (fun h16 => ?_)
        · rw [if_pos (Or.inr (Or.inr (Or.inl h16)))]
          exact good (Or.inr (Or.inr (Or.inl h16)))
        · refine zs rfl rfl rfl ?_
          refine zs rfl rfl rfl ?_
          refine zbr rfl rfl rfl (fun h64 => ?_) (fun h64 => ?_)
          · rw [if_pos (Or.inr (Or.inr (Or.inr h64)))]
            exact good (Or.inr (Or.inr (Or.inr h64)))
          · have hn : ¬ (b = 0 ∨ b = 8 ∨ b = 16 ∨ b = 64) := by
              rintro (q | q | q | q)
              · exact hc q
              · exact h8 q
              · exact h16 q
              · exact h64 q
            rw [if_neg hn]
            refine zs rfl rfl rfl ?_
            refine zs rfl rfl rfl ?_
            refine zcl rfl rfl (m_finds_0) ?_
            exact zret rfl rfl (mX_ref (c := 0) rfl Fr.rfl' hC hS)
  · rw [decide_eq_false h, if_neg h]
    refine zs rfl rfl rfl ?_
    refine zs rfl rfl rfl ?_
    refine zs rfl rfl rfl ?_
    refine zcl rfl rfl (m_finds_0) ?_
    exact zret rfl rfl (mX_ref (c := 0) rfl Fr.rfl' hC hS)
end MSHT
