/-! The model's tokens. -/
section MTOK
variable {X : Nat × (Nat → Int32)} {M M1 M2 : zM} {N : zN} {tb : zS} {tl : Nat} {p : Nat}
def mT (M : zM) (tb : zS) (tl : Nat) : Prop := tl ≤ 120 ∧ M 44 8 = nI tl ∧ (∀ i, i < tl → M 51 i = tb i) ∧ ∀ i, i < tl → 0 ≤ tb i
/-- nothing but the token has changed -/
def Nf (M M' : zM) : Prop := Fr [44] M M' ∧ ∀ c, (c < 14 ∨ c = 18) → M' 44 c = M 44 c
theorem Nf.rfl' : Nf M M := ⟨Fr.rfl', fun _ _ => rfl⟩
theorem Nf.trans (h : Nf M M1) (h2 : Nf M1 M2) : Nf M M2 := ⟨h.1.trans h2.1, fun c hc => (h2.2 c hc).trans (h.2 c hc)⟩
theorem Nf.up (h : Nf M M1) {c : Nat} (hc : 14 ≤ c ∧ c ≤ 17) (x : Int32) : Nf M (z_up M1 44 c x) := ⟨h.1.trans (Fr.up (by decide)), fun k hk => by
  rw [z_up_a, if_neg (by omega)]; exact h.2 k hk⟩
theorem mT.nf (h : mT M tb tl) (hn : Nf M M2) : mT M2 tb tl := ⟨h.1, by rw [hn.2 8 (by omega)]; exact h.2.1, fun i hi => by rw [hn.1 51 (by decide)]; exact h.2.2.1 i hi, h.2.2.2⟩
def mTk (M : zM) (tb : zS) (tl p : Nat) : Prop := M 44 14 = nI (tk tb tl p) ∧ M 44 15 = nI p ∧ M 44 16 = nI (en tb tl p) ∧ M 44 17 = mv tb tl p
theorem m_isLetter (b : Int32) : zE1 X 185 [.int b] M N (some (.int (bI (decide (97 ≤ b ∧ b ≤ 122))))) M N := by
  refine zE1i [(0, .int b)] rfl ?_
  refine zs rfl rfl rfl ?_
  refine zs rfl rfl rfl ?_
  refine zbr rfl rfl rfl (fun hc => ?_) (fun hc => ?_)
  · rw [decide_eq_false (fun q => i_nlt.mpr q.1 hc)]
    refine zs rfl rfl rfl ?_
    exact zret rfl rfl ⟨rfl, rfl, rfl⟩
  · refine zs rfl rfl rfl ?_
    refine zs rfl rfl rfl ?_
    refine zbr rfl rfl rfl (fun hd => ?_) (fun hd => ?_)
    · rw [decide_eq_false (fun q => i_nlt.mpr q.2 hd)]
      refine zs rfl rfl rfl ?_
      exact zret rfl rfl ⟨rfl, rfl, rfl⟩
    · rw [decide_eq_true ⟨i_nlt.mp hc, i_nlt.mp hd⟩]
      refine zs rfl rfl rfl ?_
      refine zs rfl rfl rfl ?_
      exact zret rfl rfl ⟨rfl, rfl, rfl⟩
theorem m_isDigit (b : Int32) : zE1 X 186 [.int b] M N (some (.int (bI (decide (48 ≤ b ∧ b ≤ 57))))) M N := by
  refine zE1i [(0, .int b)] rfl ?_
  refine zs rfl rfl rfl ?_
  refine zs rfl rfl rfl ?_
  refine zbr rfl rfl rfl (fun hc => ?_) (fun hc => ?_)
  · rw [decide_eq_false (fun q => i_nlt.mpr q.1 hc)]
    refine zs rfl rfl rfl ?_
    exact zret rfl rfl ⟨rfl, rfl, rfl⟩
  · refine zs rfl rfl rfl ?_
    refine zs rfl rfl rfl ?_
    refine zbr rfl rfl rfl (fun hd => ?_) (fun hd => ?_)
    · rw [decide_eq_false (fun q => i_nlt.mpr q.2 hd)]
      refine zs rfl rfl rfl ?_
      exact zret rfl rfl ⟨rfl, rfl, rfl⟩
    · rw [decide_eq_true ⟨i_nlt.mp hc, i_nlt.mp hd⟩]
      refine zs rfl rfl rfl ?_
      refine zs rfl rfl rfl ?_
      exact zret rfl rfl ⟨rfl, rfl, rfl⟩
theorem m_byteAt (hT : mT M tb tl) {i : Nat} (hi : i < 1000) : zE1 X 187 [.ref 44, .int (nI i)] M N (some (.int (bt tb tl i))) M N := by
  refine zE1i [(0, .ref 44), (1, .int (nI i))] rfl ?_
  have h120 := hT.1
  unfold bt
  refine zs rfl rfl rfl ?_
  refine zs rfl rfl rfl ?_
  refine zs rfl rfl rfl ?_
  refine zto rfl hT.2.1 ?_
  by_cases h : i < tl
  · rw [if_pos h]
    refine zbf (nI_ge (by omega) (by omega)) rfl rfl rfl ?_
    refine zs rfl rfl rfl ?_
    refine zs rfl rfl rfl ?_
    refine zs rfl rfl rfl ?_
    refine zal rfl rfl rfl (by omega) (by decide) ?_
    refine zto rfl (hT.2.2.1 i h) ?_
    refine zs rfl rfl rfl ?_
    exact zret rfl rfl ⟨rfl, rfl, rfl⟩
  · rw [if_neg h]
    refine zbt (nI_le (by omega) (by omega)) rfl rfl rfl ?_
    refine zs rfl rfl rfl ?_
    exact zret rfl rfl ⟨rfl, rfl, rfl⟩
theorem m_nextToken (hT : mT M tb tl) {e : Nat} (he : e ≤ tl) (h16 : M 44 16 = nI e) : zV X 188 [.ref 44] M N (fun v M' N' => v = none ∧ N' = N ∧ Nf M M' ∧ mTk M' tb tl (sk tb tl e)) := by
  refine zVi [(0, .ref 44)] rfl ?_
  have h120 := hT.1
  refine zs rfl rfl rfl ?_
  refine zs rfl rfl rfl ?_
  refine zs rfl rfl rfl ?_
  refine zto rfl h16 ?_
  refine zs rfl rfl rfl ?_
  -- what is left behind the token's end: one more for signs
  have fin : ∀ (k q b : Nat) (c w : Int32) (M3 : zM), k < 5 → q < 200 → Nf M M3 → M3 44 14 = nI k → M3 44 15 = nI b → M3 44 16 = nI q → M3 44 17 = w → zW X 188 211 [(0, .ref 44), (1, .int c)] [] M3 N (fun v M' N' => v = none ∧ N' = N ∧ Nf M M' ∧ M' 44 14 = nI k ∧ M' 44 15 = nI b ∧ M' 44 16 = nI (q + if 2 < k then 1 else 0) ∧ M' 44 17 = w) := by
    intro k q b c w M3 hk hq hn a14 a15 a16 a17
    by_cases h : 2 < k
    · rw [if_pos h]
      refine zs rfl rfl rfl ?_
      refine zs rfl rfl rfl ?_
      refine zs rfl rfl rfl ?_
      refine zto rfl a16 ?_
      refine zs rfl rfl rfl ?_
      refine zs rfl rfl rfl ?_
      refine zto rfl a14 ?_
      refine zs rfl rfl rfl ?_
      refine zbf (nI_ge (b := k) (a := 2) h (by omega)) rfl rfl rfl ?_
      refine zs rfl rfl rfl ?_
      refine zs rfl rfl rfl ?_
      refine zs rfl rfl rfl ?_
      refine zto rfl (nI_1 q) ?_
      refine zs rfl rfl rfl ?_
      exact zret rfl rfl ⟨rfl, rfl, hn.up (by decide) _, a14, a15, rfl, a17⟩
    · rw [if_neg h]
      refine zs rfl rfl rfl ?_
      refine zs rfl rfl rfl ?_
      refine zs rfl rfl rfl ?_
      refine zto rfl a16 ?_
      refine zs rfl rfl rfl ?_
      refine zs rfl rfl rfl ?_
      refine zto rfl a14 ?_
      refine zs rfl rfl rfl ?_
      refine zbt (nI_le (a := k) (b := 2) (by omega) (by omega)) rfl rfl rfl ?_
      refine zs rfl rfl rfl ?_
      refine zs rfl rfl rfl ?_
      refine zto rfl (Int32.add_zero _) ?_
      refine zs rfl rfl rfl ?_
      exact zret rfl rfl ⟨rfl, rfl, hn.up (by decide) _, a14, a15, rfl, a17⟩
  have digits : ∀ (b : Nat) (c : Int32) (d q : Nat) (w : Int32) (M3 : zM), q + d = tl → Nf M M3 → M3 44 14 = nI 2 → M3 44 15 = nI b → M3 44 16 = nI q → M3 44 17 = w → zW X 188 136 [(0, .ref 44), (1, .int c)] [] M3 N (fun v M' N' => v = none ∧ N' = N ∧ Nf M M' ∧ M' 44 14 = nI 2 ∧ M' 44 15 = nI b ∧ M' 44 16 = nI (gtw (isD tb) d q) ∧ M' 44 17 = mnv tb (gtw (isD tb) d q - q) q w) := by
    intro b c d
    induction d with
    | zero =>
      intro q w M3 hq hn a14 a15 a16 a17
      obtain rfl : q = tl := by omega
      have f := fin 2 q b c w M3 (by decide) (by omega) hn a14 a15 a16 a17
      refine zs rfl rfl rfl ?_
      refine zs rfl rfl rfl ?_
      refine zto rfl a14 ?_
      refine zs rfl rfl rfl ?_
      refine zs rfl rfl rfl ?_
      refine zs rfl rfl rfl ?_
      refine zs rfl rfl rfl ?_
      refine zs rfl rfl rfl ?_
      refine zto rfl a16 ?_
      refine zcl rfl rfl (m_byteAt (hT.nf hn) (i := q) (by omega)) ?_
      rw [show bt tb q q = -1 from if_neg (Nat.lt_irrefl _)]
      refine zcl rfl rfl (m_isDigit (-1)) ?_
      rw [show decide ((48 : Int32) ≤ -1 ∧ (-1 : Int32) ≤ 57) = false by decide]
      refine zs rfl rfl rfl ?_
      refine zW_mono f ?_
      rintro v M' N' ⟨r1, r2, r3, r4, r5, r6, r7⟩
      exact ⟨r1, r2, r3, r4, r5, r6, by rw [show gtw (isD tb) 0 q - q = 0 from Nat.sub_self q]; exact r7⟩
    | succ d ih =>
      intro q w M3 hq hn a14 a15 a16 a17
      have hql : q < tl := by omega
      have eb : bt tb tl q = tb q := if_pos hql
      refine zs rfl rfl rfl ?_
      refine zs rfl rfl rfl ?_
      refine zto rfl a14 ?_
      refine zs rfl rfl rfl ?_
      refine zs rfl rfl rfl ?_
      refine zs rfl rfl rfl ?_
      refine zs rfl rfl rfl ?_
      refine zs rfl rfl rfl ?_
      refine zto rfl a16 ?_
      refine zcl rfl rfl (m_byteAt (hT.nf hn) (i := q) (by omega)) ?_
      rw [eb]
      refine zcl rfl rfl (m_isDigit (tb q)) ?_
      show zW _ _ _ _ [.int (bI (isD tb q))] _ _ _
      cases hd : isD tb q with
      | false =>
        rw [gtw_f hd]
        have f := fin 2 q b c w M3 (by decide) (by omega) hn a14 a15 a16 a17
        refine zs rfl rfl rfl ?_
        refine zW_mono f ?_
        rintro v M' N' ⟨r1, r2, r3, r4, r5, r6, r7⟩
        exact ⟨r1, r2, r3, r4, r5, r6, by rw [Nat.sub_self]; exact r7⟩
      | true =>
        rw [gtw_t hd]
        have hge := gtw_ge (isD tb) d (q + 1)
        have emn : ∀ x, mnv tb (gtw (isD tb) d (q + 1) - q) q x = mnv tb (gtw (isD tb) d (q + 1) - (q + 1)) (q + 1) (if 9999 < x then x else 10 * x + tb q - 48) := fun x => by
          rw [show gtw (isD tb) d (q + 1) - q = (gtw (isD tb) d (q + 1) - (q + 1)) + 1 by omega]; rfl
        rw [emn]
        refine zs rfl rfl rfl ?_
        refine zs rfl rfl rfl ?_
        refine zs rfl rfl rfl ?_
        refine zs rfl rfl rfl ?_
        refine zto rfl a17 ?_
        refine zs rfl rfl rfl ?_
        refine zbr rfl rfl rfl (fun hw => ?_) (fun hw => ?_)
        · rw [if_neg (i_nlt.mpr hw)]
          refine zs rfl rfl rfl ?_
          refine zs rfl rfl rfl ?_
          refine zs rfl rfl rfl ?_
          refine zto rfl a17 ?_
          refine zs rfl rfl rfl ?_
          refine zs rfl rfl rfl ?_
          refine zs rfl rfl rfl ?_
          refine zs rfl rfl rfl ?_
          refine zto rfl a16 ?_
          refine zcl rfl rfl (m_byteAt (hT.nf hn) (i := q) (by omega)) ?_
          rw [eb]
          refine zs rfl rfl rfl ?_
          refine zs rfl rfl rfl ?_
          refine zs rfl rfl rfl ?_
          refine zs rfl rfl rfl ?_
          refine zs rfl rfl rfl ?_
          refine zs rfl rfl rfl ?_
          refine zs rfl rfl rfl ?_
          refine zto rfl a16 ?_
          refine zs rfl rfl rfl ?_
          refine zs rfl rfl rfl ?_
          refine zto rfl (nI_1 q) ?_
          refine zs rfl rfl rfl ?_
          refine zs rfl rfl rfl ?_
          exact ih (q + 1) _ _ (by omega) ((hn.up (by decide) _).up (by decide) _) a14 a15 rfl rfl
        · rw [if_pos (i_nle.mp hw)]
          refine zs rfl rfl rfl ?_
          refine zs rfl rfl rfl ?_
          refine zto rfl a17 ?_
          refine zs rfl rfl rfl ?_
          refine zs rfl rfl rfl ?_
          refine zs rfl rfl rfl ?_
          refine zs rfl rfl rfl ?_
          refine zs rfl rfl rfl ?_
          refine zto rfl a16 ?_
          refine zs rfl rfl rfl ?_
          refine zs rfl rfl rfl ?_
          refine zto rfl (nI_1 q) ?_
          refine zs rfl rfl rfl ?_
          refine zs rfl rfl rfl ?_
          exact ih (q + 1) _ _ (by omega) ((hn.up (by decide) _).up (by decide) _) a14 a15 rfl rfl
  have letters : ∀ (b : Nat) (c : Int32) (d q : Nat) (M3 : zM), q + d = tl → Nf M M3 → M3 44 14 = nI 1 → M3 44 15 = nI b → M3 44 16 = nI q → M3 44 17 = 0 → zW X 188 101 [(0, .ref 44), (1, .int c)] [] M3 N (fun v M' N' => v = none ∧ N' = N ∧ Nf M M' ∧ M' 44 14 = nI 1 ∧ M' 44 15 = nI b ∧ M' 44 16 = nI (gtw (isL tb) d q) ∧ M' 44 17 = 0) := by
    intro b c d
    induction d with
    | zero =>
      intro q M3 hq hn a14 a15 a16 a17
      obtain rfl : q = tl := by omega
      have f := fin 1 q b c 0 M3 (by decide) (by omega) hn a14 a15 a16 a17
      refine zs rfl rfl rfl ?_
      refine zs rfl rfl rfl ?_
      refine zto rfl a14 ?_
      refine zs rfl rfl rfl ?_
      refine zs rfl rfl rfl ?_
      refine zs rfl rfl rfl ?_
      refine zs rfl rfl rfl ?_
      refine zs rfl rfl rfl ?_
      refine zto rfl a16 ?_
      refine zcl rfl rfl (m_byteAt (hT.nf hn) (i := q) (by omega)) ?_
      rw [show bt tb q q = -1 from if_neg (Nat.lt_irrefl _)]
      refine zcl rfl rfl (m_isLetter (-1)) ?_
      rw [show decide ((97 : Int32) ≤ -1 ∧ (-1 : Int32) ≤ 122) = false by decide]
      refine zs rfl rfl rfl ?_
      refine zs rfl rfl rfl ?_
      refine zs rfl rfl rfl ?_
      refine zto rfl a14 ?_
      refine zs rfl rfl rfl ?_
      refine zs rfl rfl rfl ?_
      exact f
    | succ d ih =>
      intro q M3 hq hn a14 a15 a16 a17
      have hql : q < tl := by omega
      refine zs rfl rfl rfl ?_
      refine zs rfl rfl rfl ?_
      refine zto rfl a14 ?_
      refine zs rfl rfl rfl ?_
      refine zs rfl rfl rfl ?_
      refine zs rfl rfl rfl ?_
      refine zs rfl rfl rfl ?_
      refine zs rfl rfl rfl ?_
      refine zto rfl a16 ?_
      refine zcl rfl rfl (m_byteAt (hT.nf hn) (i := q) (by omega)) ?_
      rw [show bt tb tl q = tb q from if_pos hql]
      refine zcl rfl rfl (m_isLetter (tb q)) ?_
      show zW _ _ _ _ [.int (bI (isL tb q))] _ _ _
      cases hd : isL tb q with
      | false =>
        rw [gtw_f hd]
        have f := fin 1 q b c 0 M3 (by decide) (by omega) hn a14 a15 a16 a17
        refine zs rfl rfl rfl ?_
        refine zs rfl rfl rfl ?_
        refine zs rfl rfl rfl ?_
        refine zto rfl a14 ?_
        refine zs rfl rfl rfl ?_
        refine zs rfl rfl rfl ?_
        exact f
      | true =>
        rw [gtw_t hd]
        refine zs rfl rfl rfl ?_
        refine zs rfl rfl rfl ?_
        refine zs rfl rfl rfl ?_
        refine zs rfl rfl rfl ?_
        refine zto rfl a16 ?_
        refine zs rfl rfl rfl ?_
        refine zs rfl rfl rfl ?_
        refine zto rfl (nI_1 q) ?_
        refine zs rfl rfl rfl ?_
        refine zs rfl rfl rfl ?_
        exact ih (q + 1) _ (by omega) (hn.up (by decide) _) a14 a15 rfl a17
  -- at the token's first byte
  have tok : ∀ (q : Nat) (M3 : zM), q ≤ tl → Nf M M3 → M3 44 15 = nI q → zW X 188 34 [(0, .ref 44)] [] M3 N (fun v M' N' => v = none ∧ N' = N ∧ Nf M M' ∧ mTk M' tb tl q) := by
    intro q M3 hq hn a15
    have hn1 : Nf M (z_up M3 44 16 (nI q)) := hn.up (by decide) _
    have hT1 := hT.nf hn1
    refine zs rfl rfl rfl ?_
    refine zs rfl rfl rfl ?_
    refine zs rfl rfl rfl ?_
    refine zto rfl a15 ?_
    refine zs rfl rfl rfl ?_
    refine zs rfl rfl rfl ?_
    refine zs rfl rfl rfl ?_
    refine zs rfl rfl rfl ?_
    refine zto rfl a15 ?_
    refine zcl rfl rfl (m_byteAt hT1 (i := q) (by omega)) ?_
    have go : ∀ (k : Nat) (c : Int32), zW X 188 101 [(0, .ref 44), (1, .int c)] [] (z_up (z_up (z_up M3 44 16 (nI q)) 44 14 (nI k)) 44 17 0) N (fun v M' N' => v = none ∧ N' = N ∧ Nf M M' ∧ mTk M' tb tl q) → zW X 188 93 [(0, .ref 44), (1, .int c)] [.int (nI k), .ref 44] (z_up M3 44 16 (nI q)) N (fun v M' N' => v = none ∧ N' = N ∧ Nf M M' ∧ mTk M' tb tl q) := by
      intro k c h
      refine zs rfl rfl rfl ?_
      refine zs rfl rfl rfl ?_
      refine zs rfl rfl rfl ?_
      refine zs rfl rfl rfl ?_
      exact h
    have hn3 : ∀ k : Nat, Nf M (z_up (z_up (z_up M3 44 16 (nI q)) 44 14 (nI k)) 44 17 0) := fun k => (hn1.up (by decide) _).up (by decide) _
    have hmono : ∀ (k : Nat) (w : Int32) (e' : Nat), tk tb tl q = k → en tb tl q = e' → mv tb tl q = w → ∀ (v : Option Value) (M' : zM) (N' : zN), (v = none ∧ N' = N ∧ Nf M M' ∧ M' 44 14 = nI k ∧ M' 44 15 = nI q ∧ M' 44 16 = nI e' ∧ M' 44 17 = w) → (v = none ∧ N' = N ∧ Nf M M' ∧ mTk M' tb tl q) := by
      rintro k w e' h1 h2 h3 v M' N' ⟨r1, r2, r3, r4, r5, r6, r7⟩
      exact ⟨r1, r2, r3, by rw [h1]; exact r4, r5, by rw [h2]; exact r6, by rw [h3]; exact r7⟩
    -- a token that is neither word nor number
    have sign : ∀ (k : Nat) (c : Int32), k < 5 → k ≠ 1 → k ≠ 2 → tk tb tl q = k → en tb tl q = (q + if 2 < k then 1 else 0) → mv tb tl q = 0 → zW X 188 101 [(0, .ref 44), (1, .int c)] [] (z_up (z_up (z_up M3 44 16 (nI q)) 44 14 (nI k)) 44 17 0) N (fun v M' N' => v = none ∧ N' = N ∧ Nf M M' ∧ mTk M' tb tl q) := by
      intro k c hk5 hk1 hk2 h1 h2 h3
      have f := fin k q q c 0 _ hk5 (by omega) (hn3 k) rfl a15 rfl rfl
      refine zs rfl rfl rfl ?_
      refine zs rfl rfl rfl ?_
      refine zto rfl (show z_up (z_up (z_up M3 44 16 (nI q)) 44 14 (nI k)) 44 17 0 44 14 = nI k from rfl) ?_
      refine zs rfl rfl rfl ?_
      refine zbt (fun z => hk1 (nI_inj (b := 1) (by omega) (by decide) z)) rfl rfl rfl ?_
      refine zs rfl rfl rfl ?_
      refine zs rfl rfl rfl ?_
      refine zto rfl (show z_up (z_up (z_up M3 44 16 (nI q)) 44 14 (nI k)) 44 17 0 44 14 = nI k from rfl) ?_
      refine zs rfl rfl rfl ?_
      refine zbt (fun z => hk2 (nI_inj (b := 2) (by omega) (by decide) z)) rfl rfl rfl ?_
      exact zW_mono f (hmono k 0 _ h1 h2 h3)
    by_cases hqe : q = tl
    · subst hqe
      rw [show bt tb q q = -1 from if_neg (Nat.lt_irrefl _)]
      refine zs rfl rfl rfl ?_
      refine zs rfl rfl rfl ?_
      refine zs rfl rfl rfl ?_
      refine zs rfl rfl rfl ?_
      refine zs rfl rfl rfl ?_
      refine zs rfl rfl rfl ?_
      exact go 0 _ (sign 0 _ (by decide) (by decide) (by decide) (if_neg (Nat.lt_irrefl _)) (en_end (Nat.le_refl _)) (if_neg (Nat.lt_irrefl _)))
    · have hql : q < tl := by omega
      rw [show bt tb tl q = tb q from if_pos hql]
      refine zs rfl rfl rfl ?_
      refine zs rfl rfl rfl ?_
      refine zs rfl rfl rfl ?_
      refine zbt (hT.2.2.2 q hql) rfl rfl rfl ?_
      refine zs rfl rfl rfl ?_
      refine zcl rfl rfl (m_isLetter (tb q)) ?_
      show zW _ _ _ _ [.int (bI (isL tb q)), .ref 44] _ _ _
      cases hL : isL tb q with
      | true =>
        refine zs rfl rfl rfl ?_
        refine zs rfl rfl rfl ?_
        refine zs rfl rfl rfl ?_
        refine go 1 _ ?_
        have l := letters q (tb q) (tl - q) q _ (by omega) (hn3 1) rfl a15 rfl rfl
        refine zW_mono l (hmono 1 0 (eL tb tl q) ?_ ?_ ?_)
        · unfold tk; rw [if_pos hql, if_pos hL]
        · unfold en; rw [if_pos hql, if_pos hL]
        · unfold mv; rw [if_pos hql, if_pos hL]
      | false =>
        have hL' : ¬ isL tb q = true := by rw [hL]; decide
        refine zs rfl rfl rfl ?_
        refine zs rfl rfl rfl ?_
        refine zcl rfl rfl (m_isDigit (tb q)) ?_
        show zW _ _ _ _ [.int (bI (isD tb q)), .ref 44] _ _ _
        cases hD : isD tb q with
        | true =>
          refine zs rfl rfl rfl ?_
          refine zs rfl rfl rfl ?_
          refine zs rfl rfl rfl ?_
          refine go 2 _ ?_
          have l := digits q (tb q) (tl - q) q 0 _ (by omega) (hn3 2) rfl a15 rfl rfl
          refine zs rfl rfl rfl ?_
          refine zs rfl rfl rfl ?_
          refine zto rfl (show z_up (z_up (z_up M3 44 16 (nI q)) 44 14 (nI 2)) 44 17 0 44 14 = nI 2 from rfl) ?_
          refine zs rfl rfl rfl ?_
          refine zs rfl rfl rfl ?_
          refine zW_mono l (hmono 2 _ (eD tb tl q) ?_ ?_ ?_)
          · unfold tk; rw [if_pos hql, if_neg hL', if_pos hD]
          · unfold en; rw [if_pos hql, if_neg hL', if_pos hD]
          · unfold mv; rw [if_pos hql, if_neg hL', if_pos hD]; rfl
        | false =>
          have hD' : ¬ isD tb q = true := by rw [hD]; decide
          have hen : en tb tl q = q + 1 := by unfold en; rw [if_pos hql, if_neg hL', if_neg hD']
          have hmv : mv tb tl q = 0 := by unfold mv; rw [if_pos hql, if_neg hL', if_neg hD']
          refine zs rfl rfl rfl ?_
          refine zs rfl rfl rfl ?_
          refine zs rfl rfl rfl ?_
          refine zbr rfl rfl rfl (fun h59 => ?_) (fun h59 => ?_)
          · refine zs rfl rfl rfl ?_
            refine go 4 _ (sign 4 _ (by decide) (by decide) (by decide) ?_ hen hmv)
            unfold tk; rw [if_pos hql, if_neg hL', if_neg hD', if_neg h59]
          · refine zs rfl rfl rfl ?_
            refine zs rfl rfl rfl ?_
            refine go 3 _ (sign 3 _ (by decide) (by decide) (by decide) ?_ hen hmv)
            unfold tk; rw [if_pos hql, if_neg hL', if_neg hD', if_pos (Decidable.not_not.mp h59)]
  have blanks : ∀ d i M3, i + d = tl → Nf M M3 → M3 44 15 = nI i → zW X 188 8 [(0, .ref 44)] [] M3 N (fun v M' N' => v = none ∧ N' = N ∧ Nf M M' ∧ mTk M' tb tl (gtw (isB tb) d i)) := by
    intro d
    induction d with
    | zero =>
      intro i M3 hi hn a15
      obtain rfl : i = tl := by omega
      refine zs rfl rfl rfl ?_
      refine zs rfl rfl rfl ?_
      refine zs rfl rfl rfl ?_
      refine zto rfl a15 ?_
      refine zcl rfl rfl (m_byteAt (hT.nf hn) (i := i) (by omega)) ?_
      rw [show bt tb i i = -1 from if_neg (Nat.lt_irrefl _)]
      refine zs rfl rfl rfl ?_
      refine zs rfl rfl rfl ?_
      exact tok i M3 (Nat.le_refl _) hn a15
    | succ d ih =>
      intro i M3 hi hn a15
      have hil : i < tl := by omega
      refine zs rfl rfl rfl ?_
      refine zs rfl rfl rfl ?_
      refine zs rfl rfl rfl ?_
      refine zto rfl a15 ?_
      refine zcl rfl rfl (m_byteAt (hT.nf hn) (i := i) (by omega)) ?_
      rw [show bt tb tl i = tb i from if_pos hil]
      refine zs rfl rfl rfl ?_
      refine zbr rfl rfl rfl (fun hc => ?_) (fun hc => ?_)
      · rw [gtw_f (decide_eq_false hc)]
        exact tok i M3 (by omega) hn a15
      · rw [gtw_t (decide_eq_true (Decidable.not_not.mp hc))]
        refine zs rfl rfl rfl ?_
        refine zs rfl rfl rfl ?_
        refine zs rfl rfl rfl ?_
        refine zto rfl a15 ?_
        refine zs rfl rfl rfl ?_
        refine zs rfl rfl rfl ?_
        refine zto rfl (nI_1 i) ?_
        refine zs rfl rfl rfl ?_
        refine zs rfl rfl rfl ?_
        exact ih (i + 1) _ (by omega) (hn.up (by decide) _) rfl
  exact blanks (tl - e) e _ (by omega) (Nf.rfl'.up (by decide) _) rfl
theorem m_isWordN (hm : mTk M tb tl p) (hp : p ≤ tl) (h120 : tl ≤ 120) {k : Nat} (hk : k < 20) : zE1 X 190 [.ref 44, .int (nI k)] M N (some (.int (bI (decide (tk tb tl p = 1 ∧ en tb tl p - p = k))))) M N := by
  refine zE1i [(0, .ref 44), (1, .int (nI k))] rfl ?_
  obtain ⟨a14, a15, a16, a17⟩ := hm
  have ht := tk_lt (tb := tb) (tl := tl) p
  have hpe : p ≤ en tb tl p ∧ en tb tl p ≤ tl := by
    by_cases h : p < tl
    · have := en_gt (tb := tb) h; omega
    · rw [en_end (by omega)]; omega
  refine zs rfl rfl rfl ?_
  refine zs rfl rfl rfl ?_
  refine zto rfl a14 ?_
  refine zs rfl rfl rfl ?_
  refine zbr rfl rfl rfl (fun hc => ?_) (fun hc => ?_)
  · rw [decide_eq_false (fun q => hc (by rw [q.1]; rfl))]
    refine zs rfl rfl rfl ?_
    exact zret rfl rfl ⟨rfl, rfl, rfl⟩
  · have e1 : tk tb tl p = 1 := nI_inj (b := 1) (by omega) (by decide) (Decidable.not_not.mp hc)
    refine zs rfl rfl rfl ?_
    refine zs rfl rfl rfl ?_
    refine zto rfl a16 ?_
    refine zs rfl rfl rfl ?_
    refine zs rfl rfl rfl ?_
    refine zto rfl a15 ?_
    refine zs rfl rfl rfl ?_
    refine zto rfl (nI_sube hpe.1) ?_
    refine zs rfl rfl rfl ?_
    refine zbr rfl rfl rfl (fun hd => ?_) (fun hd => ?_)
    · rw [decide_eq_false (fun q => hd (by rw [q.2]))]
      refine zs rfl rfl rfl ?_
      exact zret rfl rfl ⟨rfl, rfl, rfl⟩
    · rw [decide_eq_true ⟨e1, nI_inj (by omega) (by omega) (Decidable.not_not.mp hd)⟩]
      refine zs rfl rfl rfl ?_
      refine zs rfl rfl rfl ?_
      exact zret rfl rfl ⟨rfl, rfl, rfl⟩
def H3 (tb : zS) (tl p i : Nat) (a b c : Int32) : Prop := bt tb tl (p + i) = a ∧ bt tb tl (p + i + 1) = b ∧ bt tb tl (p + i + 2) = c
theorem m_has3 (hT : mT M tb tl) (hm : mTk M tb tl p) (hp : p ≤ tl) {i : Nat} (hi : i < 20) (a b c : Int32) : zV X 189 [.ref 44, .int (nI i), .int a, .int b, .int c] M N (fun v M' N' => M' = M ∧ N' = N ∧ (v = some (.int 1) ∧ H3 tb tl p i a b c ∨ v = some (.int 0) ∧ ¬ H3 tb tl p i a b c)) := by
  refine zVi [(0, .ref 44), (1, .int (nI i)), (2, .int a), (3, .int b), (4, .int c)] rfl ?_
  have h120 := hT.1
  have a15 := hm.2.1
  refine zs rfl rfl rfl ?_
  refine zs rfl rfl rfl ?_
  refine zs rfl rfl rfl ?_
  refine zto rfl a15 ?_
  refine zs rfl rfl rfl ?_
  refine zs rfl rfl rfl ?_
  refine zto rfl (nI_add p i) ?_
  refine zcl rfl rfl (m_byteAt hT (i := p + i) (by omega)) ?_
  refine zs rfl rfl rfl ?_
  refine zbr rfl rfl rfl (fun h1 => ?_) (fun h1 => ?_)
  · refine zs rfl rfl rfl ?_
    exact zret rfl rfl ⟨rfl, rfl, Or.inr ⟨rfl, fun q => h1 q.1⟩⟩
  · refine zs rfl rfl rfl ?_
    refine zs rfl rfl rfl ?_
    refine zs rfl rfl rfl ?_
    refine zto rfl a15 ?_
    refine zs rfl rfl rfl ?_
    refine zs rfl rfl rfl ?_
    refine zto rfl (nI_add p i) ?_
    refine zs rfl rfl rfl ?_
    refine zs rfl rfl rfl ?_
    refine zto rfl (nI_1 (p + i)) ?_
    refine zcl rfl rfl (m_byteAt hT (i := p + i + 1) (by omega)) ?_
    refine zs rfl rfl rfl ?_
    refine zbr rfl rfl rfl (fun h2 => ?_) (fun h2 => ?_)
    · refine zs rfl rfl rfl ?_
      exact zret rfl rfl ⟨rfl, rfl, Or.inr ⟨rfl, fun q => h2 q.2.1⟩⟩
    · refine zs rfl rfl rfl ?_
      refine zs rfl rfl rfl ?_
      refine zs rfl rfl rfl ?_
      refine zto rfl a15 ?_
      refine zs rfl rfl rfl ?_
      refine zs rfl rfl rfl ?_
      refine zto rfl (nI_add p i) ?_
      refine zs rfl rfl rfl ?_
      refine zs rfl rfl rfl ?_
      refine zto rfl (nI_add (p + i) 2) ?_
      refine zcl rfl rfl (m_byteAt hT (i := p + i + 2) (by omega)) ?_
      refine zs rfl rfl rfl ?_
      refine zbr rfl rfl rfl (fun h3 => ?_) (fun h3 => ?_)
      · refine zs rfl rfl rfl ?_
        exact zret rfl rfl ⟨rfl, rfl, Or.inr ⟨rfl, fun q => h3 q.2.2⟩⟩
      · refine zs rfl rfl rfl ?_
        refine zs rfl rfl rfl ?_
        exact zret rfl rfl ⟨rfl, rfl, Or.inl ⟨rfl, Decidable.not_not.mp h1, Decidable.not_not.mp h2, Decidable.not_not.mp h3⟩⟩
theorem pW_f {w : Nat} (hw : w < 14) (h : ¬ (tk tb tl p = 1 ∧ Sp tb tl p w)) : pW tb tl p (nI w) = false := by
  cases q : pW tb tl p (nI w) with
  | false => rfl
  | true => exact absurd ((pW_iff hw).mp q) h
/-- three letters of a word -/
theorem sp_H3 {w : Nat} (h1 : tk tb tl p = 1) (h : Sp tb tl p w) {i : Nat} (hi : i + 2 < (z_wb w).length) : H3 tb tl p i ((z_wb w).getD i 0) ((z_wb w).getD (i + 1) 0) ((z_wb w).getD (i + 2) 0) := by
  have hl := h.1
  exact ⟨(bt_in h1 (by omega)).trans (h.2 i (by omega)), (bt_in (p := p) (k := i + 1) h1 (by omega)).trans (h.2 (i + 1) (by omega)), (bt_in (p := p) (k := i + 2) h1 (by omega)).trans (h.2 (i + 2) (by omega))⟩
theorem H3_tb {i : Nat} {a b c : Int32} (h1 : tk tb tl p = 1) (hi : i + 2 < en tb tl p - p) (h : H3 tb tl p i a b c) : tb (p + i) = a ∧ tb (p + (i + 1)) = b ∧ tb (p + (i + 2)) = c :=
  ⟨(bt_in h1 (by omega)).symm.trans h.1, (bt_in (p := p) (k := i + 1) h1 (by omega)).symm.trans h.2.1, (bt_in (p := p) (k := i + 2) h1 (by omega)).symm.trans h.2.2⟩
theorem m_word_0 (hT : mT M tb tl) (hm : mTk M tb tl p) (hp : p ≤ tl) : zE1 X 193 [.ref 44, .int 115, .int 104, .int 105, .int 112] M N (some (.int (bI (pW tb tl p (nI 0))))) M N := by
  refine zE1i [(0, .ref 44), (1, .int 115), (2, .int 104), (3, .int 105), (4, .int 112)] rfl ?_
  refine zs rfl rfl rfl ?_
  refine zs rfl rfl rfl ?_
  refine zcl rfl rfl (m_isWordN (k := 4) hm hp hT.1 (by decide)) ?_
  by_cases hw : tk tb tl p = 1 ∧ en tb tl p - p = 4
  · rw [decide_eq_true hw]
    refine zs rfl rfl rfl ?_
    refine zs rfl rfl rfl ?_
    refine zs rfl rfl rfl ?_
    refine zs rfl rfl rfl ?_
    refine zs rfl rfl rfl ?_
    refine zs rfl rfl rfl ?_
    refine zclQ rfl rfl (m_has3 (i := 0) hT hm hp (by decide) 115 104 105) ?_
    rintro v1 M1 N1 ⟨rfl, rfl, ⟨rfl, g1⟩ | ⟨rfl, g1⟩⟩
    · refine zs rfl rfl rfl ?_
      refine zs rfl rfl rfl ?_
      refine zs rfl rfl rfl ?_
      refine zs rfl rfl rfl ?_
      refine zs rfl rfl rfl ?_
      refine zs rfl rfl rfl ?_
      refine zclQ rfl rfl (m_has3 (i := 1) hT hm hp (by decide) 104 105 112) ?_
      rintro v2 M2 N2 ⟨rfl, rfl, ⟨rfl, g2⟩ | ⟨rfl, g2⟩⟩
      · have k1 := H3_tb hw.1 (by omega) g1
        have k2 := H3_tb hw.1 (by omega) g2
        have e : pW tb tl p (nI 0) = true := (pW_iff (by decide)).mpr ⟨hw.1, hw.2, fun j hj => by
          match j, hj with
          | 0, _ => exact k1.1
          | 1, _ => exact k1.2.1
          | 2, _ => exact k1.2.2
          | 3, _ => exact k2.2.2
          | _ + 4, h => exact absurd h (by show ¬ _ < 4; omega)⟩
        rw [e]
        refine zs rfl rfl rfl ?_
        refine zs rfl rfl rfl ?_
        refine zs rfl rfl rfl ?_
        exact zret rfl rfl ⟨rfl, rfl, rfl⟩
      · rw [pW_f (by decide) (fun q => g2 (sp_H3 (i := 1) q.1 q.2 (by decide)))]
        refine zs rfl rfl rfl ?_
        refine zs rfl rfl rfl ?_
        exact zret rfl rfl ⟨rfl, rfl, rfl⟩
    · rw [pW_f (by decide) (fun q => g1 (sp_H3 (i := 0) q.1 q.2 (by decide)))]
      refine zs rfl rfl rfl ?_
      refine zs rfl rfl rfl ?_
      exact zret rfl rfl ⟨rfl, rfl, rfl⟩
  · rw [decide_eq_false hw, pW_f (w := 0) (by decide) (fun q => hw ⟨q.1, q.2.1⟩)]
    refine zs rfl rfl rfl ?_
    refine zs rfl rfl rfl ?_
    exact zret rfl rfl ⟨rfl, rfl, rfl⟩
theorem m_word_1 (hT : mT M tb tl) (hm : mTk M tb tl p) (hp : p ≤ tl) : zE1 X 193 [.ref 44, .int 116, .int 97, .int 108, .int 108] M N (some (.int (bI (pW tb tl p (nI 1))))) M N := by
  refine zE1i [(0, .ref 44), (1, .int 116), (2, .int 97), (3, .int 108), (4, .int 108)] rfl ?_
  refine zs rfl rfl rfl ?_
  refine zs rfl rfl rfl ?_
  refine zcl rfl rfl (m_isWordN (k := 4) hm hp hT.1 (by decide)) ?_
  by_cases hw : tk tb tl p = 1 ∧ en tb tl p - p = 4
  · rw [decide_eq_true hw]
    refine zs rfl rfl rfl ?_
    refine zs rfl rfl rfl ?_
    refine zs rfl rfl rfl ?_
    refine zs rfl rfl rfl ?_
    refine zs rfl rfl rfl ?_
    refine zs rfl rfl rfl ?_
    refine zclQ rfl rfl (m_has3 (i := 0) hT hm hp (by decide) 116 97 108) ?_
    rintro v1 M1 N1 ⟨rfl, rfl, ⟨rfl, g1⟩ | ⟨rfl, g1⟩⟩
    · refine zs rfl rfl rfl ?_
      refine zs rfl rfl rfl ?_
      refine zs rfl rfl rfl ?_
      refine zs rfl rfl rfl ?_
      refine zs rfl rfl rfl ?_
      refine zs rfl rfl rfl ?_
      refine zclQ rfl rfl (m_has3 (i := 1) hT hm hp (by decide) 97 108 108) ?_
      rintro v2 M2 N2 ⟨rfl, rfl, ⟨rfl, g2⟩ | ⟨rfl, g2⟩⟩
      · have k1 := H3_tb hw.1 (by omega) g1
        have k2 := H3_tb hw.1 (by omega) g2
        have e : pW tb tl p (nI 1) = true := (pW_iff (by decide)).mpr ⟨hw.1, hw.2, fun j hj => by
          match j, hj with
          | 0, _ => exact k1.1
          | 1, _ => exact k1.2.1
          | 2, _ => exact k1.2.2
          | 3, _ => exact k2.2.2
          | _ + 4, h => exact absurd h (by show ¬ _ < 4; omega)⟩
        rw [e]
        refine zs rfl rfl rfl ?_
        refine zs rfl rfl rfl ?_
        refine zs rfl rfl rfl ?_
        exact zret rfl rfl ⟨rfl, rfl, rfl⟩
      · rw [pW_f (by decide) (fun q => g2 (sp_H3 (i := 1) q.1 q.2 (by decide)))]
        refine zs rfl rfl rfl ?_
        refine zs rfl rfl rfl ?_
        exact zret rfl rfl ⟨rfl, rfl, rfl⟩
    · rw [pW_f (by decide) (fun q => g1 (sp_H3 (i := 0) q.1 q.2 (by decide)))]
      refine zs rfl rfl rfl ?_
      refine zs rfl rfl rfl ?_
      exact zret rfl rfl ⟨rfl, rfl, rfl⟩
  · rw [decide_eq_false hw, pW_f (w := 1) (by decide) (fun q => hw ⟨q.1, q.2.1⟩)]
    refine zs rfl rfl rfl ?_
    refine zs rfl rfl rfl ?_
    exact zret rfl rfl ⟨rfl, rfl, rfl⟩
theorem m_word_6 (hT : mT M tb tl) (hm : mTk M tb tl p) (hp : p ≤ tl) : zE1 X 193 [.ref 44, .int 115, .int 105, .int 122, .int 101] M N (some (.int (bI (pW tb tl p (nI 6))))) M N := by
  refine zE1i [(0, .ref 44), (1, .int 115), (2, .int 105), (3, .int 122), (4, .int 101)] rfl ?_
  refine zs rfl rfl rfl ?_
  refine zs rfl rfl rfl ?_
  refine zcl rfl rfl (m_isWordN (k := 4) hm hp hT.1 (by decide)) ?_
  by_cases hw : tk tb tl p = 1 ∧ en tb tl p - p = 4
  · rw [decide_eq_true hw]
    refine zs rfl rfl rfl ?_
    refine zs rfl rfl rfl ?_
    refine zs rfl rfl rfl ?_
    refine zs rfl rfl rfl ?_
    refine zs rfl rfl rfl ?_
    refine zs rfl rfl rfl ?_
    refine zclQ rfl rfl (m_has3 (i := 0) hT hm hp (by decide) 115 105 122) ?_
    rintro v1 M1 N1 ⟨rfl, rfl, ⟨rfl, g1⟩ | ⟨rfl, g1⟩⟩
    · refine zs rfl rfl rfl ?_
      refine zs rfl rfl rfl ?_
      refine zs rfl rfl rfl ?_
      refine zs rfl rfl rfl ?_
      refine zs rfl rfl rfl ?_
      refine zs rfl rfl rfl ?_
      refine zclQ rfl rfl (m_has3 (i := 1) hT hm hp (by decide) 105 122 101) ?_
      rintro v2 M2 N2 ⟨rfl, rfl, ⟨rfl, g2⟩ | ⟨rfl, g2⟩⟩
      · have k1 := H3_tb hw.1 (by omega) g1
        have k2 := H3_tb hw.1 (by omega) g2
        have e : pW tb tl p (nI 6) = true := (pW_iff (by decide)).mpr ⟨hw.1, hw.2, fun j hj => by
          match j, hj with
          | 0, _ => exact k1.1
          | 1, _ => exact k1.2.1
          | 2, _ => exact k1.2.2
          | 3, _ => exact k2.2.2
          | _ + 4, h => exact absurd h (by show ¬ _ < 4; omega)⟩
        rw [e]
        refine zs rfl rfl rfl ?_
        refine zs rfl rfl rfl ?_
        refine zs rfl rfl rfl ?_
        exact zret rfl rfl ⟨rfl, rfl, rfl⟩
      · rw [pW_f (by decide) (fun q => g2 (sp_H3 (i := 1) q.1 q.2 (by decide)))]
        refine zs rfl rfl rfl ?_
        refine zs rfl rfl rfl ?_
        exact zret rfl rfl ⟨rfl, rfl, rfl⟩
    · rw [pW_f (by decide) (fun q => g1 (sp_H3 (i := 0) q.1 q.2 (by decide)))]
      refine zs rfl rfl rfl ?_
      refine zs rfl rfl rfl ?_
      exact zret rfl rfl ⟨rfl, rfl, rfl⟩
  · rw [decide_eq_false hw, pW_f (w := 6) (by decide) (fun q => hw ⟨q.1, q.2.1⟩)]
    refine zs rfl rfl rfl ?_
    refine zs rfl rfl rfl ?_
    exact zret rfl rfl ⟨rfl, rfl, rfl⟩
theorem m_word_8 (hT : mT M tb tl) (hm : mTk M tb tl p) (hp : p ≤ tl) : zE1 X 193 [.ref 44, .int 119, .int 111, .int 114, .int 110] M N (some (.int (bI (pW tb tl p (nI 8))))) M N := by
  refine zE1i [(0, .ref 44), (1, .int 119), (2, .int 111), (3, .int 114), (4, .int 110)] rfl ?_
  refine zs rfl rfl rfl ?_
  refine zs rfl rfl rfl ?_
  refine zcl rfl rfl (m_isWordN (k := 4) hm hp hT.1 (by decide)) ?_
  by_cases hw : tk tb tl p = 1 ∧ en tb tl p - p = 4
  · rw [decide_eq_true hw]
    refine zs rfl rfl rfl ?_
    refine zs rfl rfl rfl ?_
    refine zs rfl rfl rfl ?_
    refine zs rfl rfl rfl ?_
    refine zs rfl rfl rfl ?_
    refine zs rfl rfl rfl ?_
    refine zclQ rfl rfl (m_has3 (i := 0) hT hm hp (by decide) 119 111 114) ?_
    rintro v1 M1 N1 ⟨rfl, rfl, ⟨rfl, g1⟩ | ⟨rfl, g1⟩⟩
    · refine zs rfl rfl rfl ?_
      refine zs rfl rfl rfl ?_
      refine zs rfl rfl rfl ?_
      refine zs rfl rfl rfl ?_
      refine zs rfl rfl rfl ?_
      refine zs rfl rfl rfl ?_
      refine zclQ rfl rfl (m_has3 (i := 1) hT hm hp (by decide) 111 114 110) ?_
      rintro v2 M2 N2 ⟨rfl, rfl, ⟨rfl, g2⟩ | ⟨rfl, g2⟩⟩
      · have k1 := H3_tb hw.1 (by omega) g1
        have k2 := H3_tb hw.1 (by omega) g2
        have e : pW tb tl p (nI 8) = true := (pW_iff (by decide)).mpr ⟨hw.1, hw.2, fun j hj => by
          match j, hj with
          | 0, _ => exact k1.1
          | 1, _ => exact k1.2.1
          | 2, _ => exact k1.2.2
          | 3, _ => exact k2.2.2
          | _ + 4, h => exact absurd h (by show ¬ _ < 4; omega)⟩
        rw [e]
        refine zs rfl rfl rfl ?_
        refine zs rfl rfl rfl ?_
        refine zs rfl rfl rfl ?_
        exact zret rfl rfl ⟨rfl, rfl, rfl⟩
      · rw [pW_f (by decide) (fun q => g2 (sp_H3 (i := 1) q.1 q.2 (by decide)))]
        refine zs rfl rfl rfl ?_
        refine zs rfl rfl rfl ?_
        exact zret rfl rfl ⟨rfl, rfl, rfl⟩
    · rw [pW_f (by decide) (fun q => g1 (sp_H3 (i := 0) q.1 q.2 (by decide)))]
      refine zs rfl rfl rfl ?_
      refine zs rfl rfl rfl ?_
      exact zret rfl rfl ⟨rfl, rfl, rfl⟩
  · rw [decide_eq_false hw, pW_f (w := 8) (by decide) (fun q => hw ⟨q.1, q.2.1⟩)]
    refine zs rfl rfl rfl ?_
    refine zs rfl rfl rfl ?_
    exact zret rfl rfl ⟨rfl, rfl, rfl⟩
theorem m_word_12 (hT : mT M tb tl) (hm : mTk M tb tl p) (hp : p ≤ tl) : zE1 X 193 [.ref 44, .int 104, .int 97, .int 110, .int 103] M N (some (.int (bI (pW tb tl p (nI 12))))) M N := by
  refine zE1i [(0, .ref 44), (1, .int 104), (2, .int 97), (3, .int 110), (4, .int 103)] rfl ?_
  refine zs rfl rfl rfl ?_
  refine zs rfl rfl rfl ?_
  refine zcl rfl rfl (m_isWordN (k := 4) hm hp hT.1 (by decide)) ?_
  by_cases hw : tk tb tl p = 1 ∧ en tb tl p - p = 4
  · rw [decide_eq_true hw]
    refine zs rfl rfl rfl ?_
    refine zs rfl rfl rfl ?_
    refine zs rfl rfl rfl ?_
    refine zs rfl rfl rfl ?_
    refine zs rfl rfl rfl ?_
    refine zs rfl rfl rfl ?_
    refine zclQ rfl rfl (m_has3 (i := 0) hT hm hp (by decide) 104 97 110) ?_
    rintro v1 M1 N1 ⟨rfl, rfl, ⟨rfl, g1⟩ | ⟨rfl, g1⟩⟩
    · refine zs rfl rfl rfl ?_
      refine zs rfl rfl rfl ?_
      refine zs rfl rfl rfl ?_
      refine zs rfl rfl rfl ?_
      refine zs rfl rfl rfl ?_
      refine zs rfl rfl rfl ?_
      refine zclQ rfl rfl (m_has3 (i := 1) hT hm hp (by decide) 97 110 103) ?_
      rintro v2 M2 N2 ⟨rfl, rfl, ⟨rfl, g2⟩ | ⟨rfl, g2⟩⟩
      · have k1 := H3_tb hw.1 (by omega) g1
        have k2 := H3_tb hw.1 (by omega) g2
        have e : pW tb tl p (nI 12) = true := (pW_iff (by decide)).mpr ⟨hw.1, hw.2, fun j hj => by
          match j, hj with
          | 0, _ => exact k1.1
          | 1, _ => exact k1.2.1
          | 2, _ => exact k1.2.2
          | 3, _ => exact k2.2.2
          | _ + 4, h => exact absurd h (by show ¬ _ < 4; omega)⟩
        rw [e]
        refine zs rfl rfl rfl ?_
        refine zs rfl rfl rfl ?_
        refine zs rfl rfl rfl ?_
        exact zret rfl rfl ⟨rfl, rfl, rfl⟩
      · rw [pW_f (by decide) (fun q => g2 (sp_H3 (i := 1) q.1 q.2 (by decide)))]
        refine zs rfl rfl rfl ?_
        refine zs rfl rfl rfl ?_
        exact zret rfl rfl ⟨rfl, rfl, rfl⟩
    · rw [pW_f (by decide) (fun q => g1 (sp_H3 (i := 0) q.1 q.2 (by decide)))]
      refine zs rfl rfl rfl ?_
      refine zs rfl rfl rfl ?_
      exact zret rfl rfl ⟨rfl, rfl, rfl⟩
  · rw [decide_eq_false hw, pW_f (w := 12) (by decide) (fun q => hw ⟨q.1, q.2.1⟩)]
    refine zs rfl rfl rfl ?_
    refine zs rfl rfl rfl ?_
    exact zret rfl rfl ⟨rfl, rfl, rfl⟩
theorem m_word_13 (hT : mT M tb tl) (hm : mTk M tb tl p) (hp : p ≤ tl) : zE1 X 193 [.ref 44, .int 111, .int 100, .int 100, .int 115] M N (some (.int (bI (pW tb tl p (nI 13))))) M N := by
  refine zE1i [(0, .ref 44), (1, .int 111), (2, .int 100), (3, .int 100), (4, .int 115)] rfl ?_
  refine zs rfl rfl rfl ?_
  refine zs rfl rfl rfl ?_
  refine zcl rfl rfl (m_isWordN (k := 4) hm hp hT.1 (by decide)) ?_
  by_cases hw : tk tb tl p = 1 ∧ en tb tl p - p = 4
  · rw [decide_eq_true hw]
    refine zs rfl rfl rfl ?_
    refine zs rfl rfl rfl ?_
    refine zs rfl rfl rfl ?_
    refine zs rfl rfl rfl ?_
    refine zs rfl rfl rfl ?_
    refine zs rfl rfl rfl ?_
    refine zclQ rfl rfl (m_has3 (i := 0) hT hm hp (by decide) 111 100 100) ?_
    rintro v1 M1 N1 ⟨rfl, rfl, ⟨rfl, g1⟩ | ⟨rfl, g1⟩⟩
    · refine zs rfl rfl rfl ?_
      refine zs rfl rfl rfl ?_
      refine zs rfl rfl rfl ?_
      refine zs rfl rfl rfl ?_
      refine zs rfl rfl rfl ?_
      refine zs rfl rfl rfl ?_
      refine zclQ rfl rfl (m_has3 (i := 1) hT hm hp (by decide) 100 100 115) ?_
      rintro v2 M2 N2 ⟨rfl, rfl, ⟨rfl, g2⟩ | ⟨rfl, g2⟩⟩
      · have k1 := H3_tb hw.1 (by omega) g1
        have k2 := H3_tb hw.1 (by omega) g2
        have e : pW tb tl p (nI 13) = true := (pW_iff (by decide)).mpr ⟨hw.1, hw.2, fun j hj => by
          match j, hj with
          | 0, _ => exact k1.1
          | 1, _ => exact k1.2.1
          | 2, _ => exact k1.2.2
          | 3, _ => exact k2.2.2
          | _ + 4, h => exact absurd h (by show ¬ _ < 4; omega)⟩
        rw [e]
        refine zs rfl rfl rfl ?_
        refine zs rfl rfl rfl ?_
        refine zs rfl rfl rfl ?_
        exact zret rfl rfl ⟨rfl, rfl, rfl⟩
      · rw [pW_f (by decide) (fun q => g2 (sp_H3 (i := 1) q.1 q.2 (by decide)))]
        refine zs rfl rfl rfl ?_
        refine zs rfl rfl rfl ?_
        exact zret rfl rfl ⟨rfl, rfl, rfl⟩
    · rw [pW_f (by decide) (fun q => g1 (sp_H3 (i := 0) q.1 q.2 (by decide)))]
      refine zs rfl rfl rfl ?_
      refine zs rfl rfl rfl ?_
      exact zret rfl rfl ⟨rfl, rfl, rfl⟩
  · rw [decide_eq_false hw, pW_f (w := 13) (by decide) (fun q => hw ⟨q.1, q.2.1⟩)]
    refine zs rfl rfl rfl ?_
    refine zs rfl rfl rfl ?_
    exact zret rfl rfl ⟨rfl, rfl, rfl⟩
theorem m_word_2 (hT : mT M tb tl) (hm : mTk M tb tl p) (hp : p ≤ tl) : zE1 X 194 [.ref 44, .int 116, .int 111, .int 119, .int 101, .int 100] M N (some (.int (bI (pW tb tl p (nI 2))))) M N := by
  refine zE1i [(0, .ref 44), (1, .int 116), (2, .int 111), (3, .int 119), (4, .int 101), (5, .int 100)] rfl ?_
  refine zs rfl rfl rfl ?_
  refine zs rfl rfl rfl ?_
  refine zcl rfl rfl (m_isWordN (k := 5) hm hp hT.1 (by decide)) ?_
  by_cases hw : tk tb tl p = 1 ∧ en tb tl p - p = 5
  · rw [decide_eq_true hw]
    refine zs rfl rfl rfl ?_
    refine zs rfl rfl rfl ?_
    refine zs rfl rfl rfl ?_
    refine zs rfl rfl rfl ?_
    refine zs rfl rfl rfl ?_
    refine zs rfl rfl rfl ?_
    refine zclQ rfl rfl (m_has3 (i := 0) hT hm hp (by decide) 116 111 119) ?_
    rintro v1 M1 N1 ⟨rfl, rfl, ⟨rfl, g1⟩ | ⟨rfl, g1⟩⟩
    · refine zs rfl rfl rfl ?_
      refine zs rfl rfl rfl ?_
      refine zs rfl rfl rfl ?_
      refine zs rfl rfl rfl ?_
      refine zs rfl rfl rfl ?_
      refine zs rfl rfl rfl ?_
      refine zclQ rfl rfl (m_has3 (i := 2) hT hm hp (by decide) 119 101 100) ?_
      rintro v2 M2 N2 ⟨rfl, rfl, ⟨rfl, g2⟩ | ⟨rfl, g2⟩⟩
      · have k1 := H3_tb hw.1 (by omega) g1
        have k2 := H3_tb hw.1 (by omega) g2
        have e : pW tb tl p (nI 2) = true := (pW_iff (by decide)).mpr ⟨hw.1, hw.2, fun j hj => by
          match j, hj with
          | 0, _ => exact k1.1
          | 1, _ => exact k1.2.1
          | 2, _ => exact k1.2.2
          | 3, _ => exact k2.2.1
          | 4, _ => exact k2.2.2
          | _ + 5, h => exact absurd h (by show ¬ _ < 5; omega)⟩
        rw [e]
        refine zs rfl rfl rfl ?_
        refine zs rfl rfl rfl ?_
        refine zs rfl rfl rfl ?_
        exact zret rfl rfl ⟨rfl, rfl, rfl⟩
      · rw [pW_f (by decide) (fun q => g2 (sp_H3 (i := 2) q.1 q.2 (by decide)))]
        refine zs rfl rfl rfl ?_
        refine zs rfl rfl rfl ?_
        exact zret rfl rfl ⟨rfl, rfl, rfl⟩
    · rw [pW_f (by decide) (fun q => g1 (sp_H3 (i := 0) q.1 q.2 (by decide)))]
      refine zs rfl rfl rfl ?_
      refine zs rfl rfl rfl ?_
      exact zret rfl rfl ⟨rfl, rfl, rfl⟩
  · rw [decide_eq_false hw, pW_f (w := 2) (by decide) (fun q => hw ⟨q.1, q.2.1⟩)]
    refine zs rfl rfl rfl ?_
    refine zs rfl rfl rfl ?_
    exact zret rfl rfl ⟨rfl, rfl, rfl⟩
theorem m_word_7 (hT : mT M tb tl) (hm : mTk M tb tl p) (hp : p ≤ tl) : zE1 X 194 [.ref 44, .int 98, .int 101, .int 97, .int 114, .int 115] M N (some (.int (bI (pW tb tl p (nI 7))))) M N := by
  refine zE1i [(0, .ref 44), (1, .int 98), (2, .int 101), (3, .int 97), (4, .int 114), (5, .int 115)] rfl ?_
  refine zs rfl rfl rfl ?_
  refine zs rfl rfl rfl ?_
  refine zcl rfl rfl (m_isWordN (k := 5) hm hp hT.1 (by decide)) ?_
  by_cases hw : tk tb tl p = 1 ∧ en tb tl p - p = 5
  · rw [decide_eq_true hw]
    refine zs rfl rfl rfl ?_
    refine zs rfl rfl rfl ?_
    refine zs rfl rfl rfl ?_
    refine zs rfl rfl rfl ?_
    refine zs rfl rfl rfl ?_
    refine zs rfl rfl rfl ?_
    refine zclQ rfl rfl (m_has3 (i := 0) hT hm hp (by decide) 98 101 97) ?_
    rintro v1 M1 N1 ⟨rfl, rfl, ⟨rfl, g1⟩ | ⟨rfl, g1⟩⟩
    · refine zs rfl rfl rfl ?_
      refine zs rfl rfl rfl ?_
      refine zs rfl rfl rfl ?_
      refine zs rfl rfl rfl ?_
      refine zs rfl rfl rfl ?_
      refine zs rfl rfl rfl ?_
      refine zclQ rfl rfl (m_has3 (i := 2) hT hm hp (by decide) 97 114 115) ?_
      rintro v2 M2 N2 ⟨rfl, rfl, ⟨rfl, g2⟩ | ⟨rfl, g2⟩⟩
      · have k1 := H3_tb hw.1 (by omega) g1
        have k2 := H3_tb hw.1 (by omega) g2
        have e : pW tb tl p (nI 7) = true := (pW_iff (by decide)).mpr ⟨hw.1, hw.2, fun j hj => by
          match j, hj with
          | 0, _ => exact k1.1
          | 1, _ => exact k1.2.1
          | 2, _ => exact k1.2.2
          | 3, _ => exact k2.2.1
          | 4, _ => exact k2.2.2
          | _ + 5, h => exact absurd h (by show ¬ _ < 5; omega)⟩
        rw [e]
        refine zs rfl rfl rfl ?_
        refine zs rfl rfl rfl ?_
        refine zs rfl rfl rfl ?_
        exact zret rfl rfl ⟨rfl, rfl, rfl⟩
      · rw [pW_f (by decide) (fun q => g2 (sp_H3 (i := 2) q.1 q.2 (by decide)))]
        refine zs rfl rfl rfl ?_
        refine zs rfl rfl rfl ?_
        exact zret rfl rfl ⟨rfl, rfl, rfl⟩
    · rw [pW_f (by decide) (fun q => g1 (sp_H3 (i := 0) q.1 q.2 (by decide)))]
      refine zs rfl rfl rfl ?_
      refine zs rfl rfl rfl ?_
      exact zret rfl rfl ⟨rfl, rfl, rfl⟩
  · rw [decide_eq_false hw, pW_f (w := 7) (by decide) (fun q => hw ⟨q.1, q.2.1⟩)]
    refine zs rfl rfl rfl ?_
    refine zs rfl rfl rfl ?_
    exact zret rfl rfl ⟨rfl, rfl, rfl⟩
theorem m_word_9 (hT : mT M tb tl) (hm : mTk M tb tl p) (hp : p ≤ tl) : zE1 X 192 [.ref 44, .int 111, .int 110] M N (some (.int (bI (pW tb tl p (nI 9))))) M N := by
  refine zE1i [(0, .ref 44), (1, .int 111), (2, .int 110)] rfl ?_
  have h120 := hT.1
  have a15 := hm.2.1
  refine zs rfl rfl rfl ?_
  refine zs rfl rfl rfl ?_
  refine zcl rfl rfl (m_isWordN (k := 2) hm hp hT.1 (by decide)) ?_
  by_cases hw : tk tb tl p = 1 ∧ en tb tl p - p = 2
  · rw [decide_eq_true hw]
    have b0 : bt tb tl p = tb p := bt_in (p := p) (k := 0) hw.1 (by omega)
    have b1 : bt tb tl (p + 1) = tb (p + 1) := bt_in (p := p) (k := 1) hw.1 (by omega)
    refine zs rfl rfl rfl ?_
    refine zs rfl rfl rfl ?_
    refine zs rfl rfl rfl ?_
    refine zs rfl rfl rfl ?_
    refine zto rfl a15 ?_
    refine zcl rfl rfl (m_byteAt hT (i := p) (by omega)) ?_
    refine zs rfl rfl rfl ?_
    refine zbr rfl rfl rfl (fun h1 => ?_) (fun h1 => ?_)
    · rw [pW_f (by decide) (fun q => h1 (b0.trans (q.2.2 0 (by decide))))]
      refine zs rfl rfl rfl ?_
      exact zret rfl rfl ⟨rfl, rfl, rfl⟩
    · refine zs rfl rfl rfl ?_
      refine zs rfl rfl rfl ?_
      refine zs rfl rfl rfl ?_
      refine zto rfl a15 ?_
      refine zs rfl rfl rfl ?_
      refine zs rfl rfl rfl ?_
      refine zto rfl (nI_1 p) ?_
      refine zcl rfl rfl (m_byteAt hT (i := p + 1) (by omega)) ?_
      refine zs rfl rfl rfl ?_
      refine zbr rfl rfl rfl (fun h2 => ?_) (fun h2 => ?_)
      · rw [pW_f (by decide) (fun q => h2 (b1.trans (q.2.2 1 (by decide))))]
        refine zs rfl rfl rfl ?_
        exact zret rfl rfl ⟨rfl, rfl, rfl⟩
      · have e : pW tb tl p (nI 9) = true := (pW_iff (by decide)).mpr ⟨hw.1, hw.2, fun j hj => by
          match j, hj with
          | 0, _ => exact b0.symm.trans (Decidable.not_not.mp h1)
          | 1, _ => exact b1.symm.trans (Decidable.not_not.mp h2)
          | _ + 2, h => exact absurd h (by show ¬ _ < 2; omega)⟩
        rw [e]
        refine zs rfl rfl rfl ?_
        refine zs rfl rfl rfl ?_
        exact zret rfl rfl ⟨rfl, rfl, rfl⟩
  · rw [decide_eq_false hw, pW_f (w := 9) (by decide) (fun q => hw ⟨q.1, q.2.1⟩)]
    refine zs rfl rfl rfl ?_
    refine zs rfl rfl rfl ?_
    exact zret rfl rfl ⟨rfl, rfl, rfl⟩
theorem m_word_10 (hT : mT M tb tl) (hm : mTk M tb tl p) (hp : p ≤ tl) : zE1 X 192 [.ref 44, .int 97, .int 116] M N (some (.int (bI (pW tb tl p (nI 10))))) M N := by
  refine zE1i [(0, .ref 44), (1, .int 97), (2, .int 116)] rfl ?_
  have h120 := hT.1
  have a15 := hm.2.1
  refine zs rfl rfl rfl ?_
  refine zs rfl rfl rfl ?_
  refine zcl rfl rfl (m_isWordN (k := 2) hm hp hT.1 (by decide)) ?_
  by_cases hw : tk tb tl p = 1 ∧ en tb tl p - p = 2
  · rw [decide_eq_true hw]
    have b0 : bt tb tl p = tb p := bt_in (p := p) (k := 0) hw.1 (by omega)
    have b1 : bt tb tl (p + 1) = tb (p + 1) := bt_in (p := p) (k := 1) hw.1 (by omega)
    refine zs rfl rfl rfl ?_
    refine zs rfl rfl rfl ?_
    refine zs rfl rfl rfl ?_
    refine zs rfl rfl rfl ?_
    refine zto rfl a15 ?_
    refine zcl rfl rfl (m_byteAt hT (i := p) (by omega)) ?_
    refine zs rfl rfl rfl ?_
    refine zbr rfl rfl rfl (fun h1 => ?_) (fun h1 => ?_)
    · rw [pW_f (by decide) (fun q => h1 (b0.trans (q.2.2 0 (by decide))))]
      refine zs rfl rfl rfl ?_
      exact zret rfl rfl ⟨rfl, rfl, rfl⟩
    · refine zs rfl rfl rfl ?_
      refine zs rfl rfl rfl ?_
      refine zs rfl rfl rfl ?_
      refine zto rfl a15 ?_
      refine zs rfl rfl rfl ?_
      refine zs rfl rfl rfl ?_
      refine zto rfl (nI_1 p) ?_
      refine zcl rfl rfl (m_byteAt hT (i := p + 1) (by omega)) ?_
      refine zs rfl rfl rfl ?_
      refine zbr rfl rfl rfl (fun h2 => ?_) (fun h2 => ?_)
      · rw [pW_f (by decide) (fun q => h2 (b1.trans (q.2.2 1 (by decide))))]
        refine zs rfl rfl rfl ?_
        exact zret rfl rfl ⟨rfl, rfl, rfl⟩
      · have e : pW tb tl p (nI 10) = true := (pW_iff (by decide)).mpr ⟨hw.1, hw.2, fun j hj => by
          match j, hj with
          | 0, _ => exact b0.symm.trans (Decidable.not_not.mp h1)
          | 1, _ => exact b1.symm.trans (Decidable.not_not.mp h2)
          | _ + 2, h => exact absurd h (by show ¬ _ < 2; omega)⟩
        rw [e]
        refine zs rfl rfl rfl ?_
        refine zs rfl rfl rfl ?_
        exact zret rfl rfl ⟨rfl, rfl, rfl⟩
  · rw [decide_eq_false hw, pW_f (w := 10) (by decide) (fun q => hw ⟨q.1, q.2.1⟩)]
    refine zs rfl rfl rfl ?_
    refine zs rfl rfl rfl ?_
    exact zret rfl rfl ⟨rfl, rfl, rfl⟩
end MTOK
