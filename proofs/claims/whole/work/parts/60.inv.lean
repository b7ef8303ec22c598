/-! What class and model keep together; what every call keeps. -/
def Inv0 (S : zS) (n : Nat) (F : zS) (b : Bool) (K tb : zS) (tl : Nat) (B : zB) (M : zM) (N : zN) : Prop :=
  cC M S F ∧ mC M S F ∧ Ok S n ∧ (M 0 6 = bI b ∧ M 44 5 = bI b) ∧ (b = true → Vw M 10 K ∧ Rw M 46 K ∧ ∃ nk, Ok K nk) ∧ (cT M tb tl ∧ mT M tb tl) ∧ (cS M N B ∧ mS M N B ∧ Sok B)
def Inv (M : zM) (N : zN) : Prop := ∃ S n F b K tb tl B, Inv0 S n F b K tb tl B M N
section INV
variable {S F K tb : zS} {n tl : Nat} {b : Bool} {B : zB} {M M1 M2 : zM} {N N1 N2 : zN} {r : zR} {v1 v2 : Option Value}
theorem Vw.fr10 {l : List Nat} (h : Vw M 10 K) (hf : Fr l M M1) (hd : ∀ c, c < 8 → 10 + c ∉ l) : Vw M1 10 K := h.fr hf hd
theorem inv_mid (hI : Inv0 S n F b K tb tl B M N) {l : List Nat} (hf : Fr l M M1) (h45 : 45 ∉ l) (h50 : 50 ∉ l) : mC M1 S F := hI.2.1.fr hf h45 h50
theorem mT.fr {l : List Nat} (h : mT M tb tl) (hf : Fr l M M1) (h1 : 44 ∉ l) (h2 : 51 ∉ l) : mT M1 tb tl := ⟨h.1, by rw [hf 44 h1]; exact h.2.1, fun i hi => by rw [hf 51 h2]; exact h.2.2.1 i hi, h.2.2.2⟩
theorem inv_road (hI : Inv0 S n F b K tb tl B M N) (h1 : cP M N r v1 M1 N1) (h2 : mP M1 N1 r v2 M2 N2) (hO : ∃ n', Ok r.2.1 n') : Inv M2 N2 := by
  obtain ⟨_, rfl, hf1, hv1, hF1⟩ := h1
  obtain ⟨_, rfl, hf2, h44, hm2⟩ := h2
  obtain ⟨_, _, _, hk, hkk, ht, hs⟩ := hI
  obtain ⟨n', o'⟩ := hO
  have f0 : M2 0 = M 0 := (hf2 0 (by decide)).trans (hf1 0 (by decide))
  have f44 : ∀ c, c < 13 → M2 44 c = M 44 c := fun c hc => (h44 c hc).trans (by rw [hf1 44 (by decide)])
  refine ⟨r.2.1, n', r.2.2, b, K, tb, tl, B, ⟨hv1.fr hf2 (by decide), fun k hk => by rw [hf2 35 (by decide)]; exact hF1 k hk⟩, hm2, o', ⟨by rw [f0]; exact hk.1, by rw [f44 5 (by decide)]; exact hk.2⟩, fun hb => ?_, ⟨(ht.1.fr hf1 (by decide) (by decide)).fr hf2 (by decide) (by decide), ?_⟩, ⟨(hs.1.fr hf1 (by decide)).fr hf2 (by decide), (hs.2.1.fr hf1 (by decide) (by decide)).fr hf2 (by decide) (by decide), hs.2.2⟩⟩
  · obtain ⟨k1, k2, k3⟩ := hkk hb
    exact ⟨(k1.fr hf1 (by decide)).fr hf2 (by decide), (k2.fr hf1 (by decide)).fr hf2 (by decide), k3⟩
  · exact ⟨ht.2.1, by rw [f44 8 (by decide)]; exact ht.2.2.1, fun i hi => by rw [hf2 51 (by decide), hf1 51 (by decide)]; exact ht.2.2.2.1 i hi, ht.2.2.2.2⟩
theorem rf_ok (h : Ok S n) (c : Nat) : ∃ n', Ok (rf S F c).2.1 n' := ⟨n, h⟩
theorem ok_anchor (h : Ok S n) (a v : Int32) : ∃ n', Ok (r_anchor S F a v).2.1 n' := by
  unfold r_anchor
  by_cases h1 : 0 ≤ a ∧ a ≤ 5
  · rw [if_pos h1]
    by_cases h2 : 0 ≤ v ∧ v ≤ 9999
    · rw [if_pos h2]
      obtain ⟨j, hj, rfl⟩ := r6 h1
      rw [nI_clamp (by omega)]
      exact ⟨n, h.uph hj h2⟩
    · rw [if_neg h2]; exact ⟨n, h⟩
  · rw [if_neg h1]; exact ⟨n, h⟩
theorem ok_odds (h : Ok S n) (a v : Int32) : ∃ n', Ok (r_odds S F a v).2.1 n' := by
  unfold r_odds
  by_cases h1 : 0 ≤ a ∧ a ≤ 12
  · rw [if_pos h1]
    by_cases h2 : 0 ≤ v ∧ v ≤ 99
    · rw [if_pos h2]
      obtain ⟨j, hj, rfl⟩ := r13 h1
      rw [nI_clamp (by omega)]
      exact ⟨n, h.upo hj v⟩
    · rw [if_neg h2]; exact ⟨n, h⟩
  · rw [if_neg h1]; exact ⟨n, h⟩
theorem ok_ship (h : Ok S n) (a v : Int32) : ∃ n', Ok (r_ship S F n a v).2.1 n' := by
  unfold r_ship
  by_cases h1 : 0 ≤ a ∧ a ≤ 5
  · rw [if_pos h1]
    by_cases h2 : 1 ≤ v ∧ v ≤ 99
    · rw [if_pos h2]
      by_cases h3 : n < 12
      · rw [if_pos h3]; exact ⟨n + 1, h.ads h3 h1 v⟩
      · rw [if_neg h3]; exact ⟨n, h⟩
    · rw [if_neg h2]; exact ⟨n, h⟩
  · rw [if_neg h1]; exact ⟨n, h⟩
theorem ok_set (h : Ok S n) (s w v : Int32) : ∃ n', Ok (r_set S F n s w v).2.1 n' := by
  unfold r_set
  repeat' split
  all_goals first | exact ⟨n, h⟩ | exact ⟨n, h.ups _ _⟩ | exact ⟨n, h.upc _ ‹_›⟩ | exact ⟨n, h.upw _ ‹_›⟩
theorem ok_hang (h : Ok S n) (s t : Int32) : ∃ n', Ok (r_hang S F n s t).2.1 n' := by
  unfold r_hang
  by_cases h1 : shp n s = true
  · rw [if_pos h1]
    by_cases h2 : thg n t = true
    · rw [if_pos h2]
      by_cases h3 : t = s
      · rw [if_pos h3]; exact ⟨n, h⟩
      · rw [if_neg h3]
        by_cases h4 : lo S n s 12 t = true
        · rw [if_pos h4]; exact ⟨n, h⟩
        · rw [if_neg h4]
          obtain ⟨j, hj, rfl⟩ := shp_of h.le h1
          rw [nI_clamp (by have := h.le; omega)]
          exact ⟨n, h.upl hj ((thg_iff h.le).mp h2) (by cases q : lo S n (nI j) 12 t; rfl; exact absurd q h4)⟩
    · rw [if_neg h2]; exact ⟨n, h⟩
  · rw [if_neg h1]; exact ⟨n, h⟩
theorem ok_turn (h : Ok S n) (s k : Int32) : ∃ n', Ok (r_turn S F n s k).2.1 n' := by
  unfold r_turn
  by_cases h1 : shp n s = true
  · rw [if_pos h1]
    by_cases h2 : 0 ≤ k ∧ k ≤ 5
    · rw [if_pos h2]
      obtain ⟨c, hc, rfl⟩ := r6 h2
      exact ⟨n, h.upk _ hc⟩
    · rw [if_neg h2]; exact ⟨n, h⟩
  · rw [if_neg h1]; exact ⟨n, h⟩
theorem phr_1 (S : zS) (n : Nat) (w : Int32) : phr S n w 1 = S 1 + 1 := by
  unfold phr
  exact s1_up1 _ _
theorem phr_ho (S : zS) (n : Nat) (w : Int32) {a : Nat} (ha : a < 6) : phr S n w (3 + a) = S (3 + a) := by
  unfold phr
  rw [show ∀ T : zS, ∀ x, up1 T x (3 + a) = T (3 + a) from fun T x => upd_n (by omega), wrs_lo _ _ _ (by omega), stl_lo _ _ _ (by omega)]
  exact upd_n (by omega)
theorem phn_1 (S : zS) (n : Nat) (w : Int32) : ∀ i, phn S n w i 1 = S 1 + nI i
  | 0 => by show S 1 = S 1 + nI 0; rw [nI_0, Int32.add_zero]
  | i + 1 => by
    show phr (phn S n w i) n w 1 = _
    rw [phr_1, phn_1 S n w i, Int32.add_assoc, nI_1]
theorem phn_ho (S : zS) (n : Nat) (w : Int32) {a : Nat} (ha : a < 6) : ∀ i, phn S n w i (3 + a) = S (3 + a)
  | 0 => rfl
  | i + 1 => (phr_ho _ n w ha).trans (phn_ho S n w ha i)
theorem ok_hours (h : Ok S n) (m w : Int32) : ∃ n', Ok (r_hours S F n m w).2.1 n' := by
  unfold r_hours
  by_cases h1 : 1 ≤ m ∧ m ≤ 100
  · rw [if_pos h1]
    by_cases h2 : 0 ≤ w ∧ w ≤ 12
    · rw [if_pos h2]
      by_cases h3 : S 1 + m ≤ 9999
      · rw [if_pos h3]
        obtain ⟨a, ha, rfl⟩ := nI_of2 (n := 100) t_100 (i_nlt.mpr (by have := i_le.mp h1.1; rw [i_le, t_0]; rw [t_1] at this; omega)) h1.2
        rw [nI_clamp (by omega)]
        refine ⟨n, (h.b.phn w a).ok ?_ (fun c hc => by rw [phn_ho S n w hc]; exact h.ho c hc)⟩
        rw [phn_1]
        refine ⟨?_, h3⟩
        have h4 := i_le.mp h.hr.1
        have h5 := i_le.mp h.hr.2
        rw [t_0] at h4
        rw [t_9999] at h5
        obtain ⟨x, hx, ex⟩ := nI_of (x := S 1) (by rw [i_lt, t_0]; omega)
        rw [ex, nI_toInt hx] at h5
        rw [ex, nI_add]
        exact nI_pos' (by omega)
      · rw [if_neg h3]; exact ⟨n, h⟩
    · rw [if_neg h2]; exact ⟨n, h⟩
  · rw [if_neg h1]; exact ⟨n, h⟩
theorem ok_cut (h : Ok S n) (s : Int32) : ∃ n', Ok (r_cut S F n s).2.1 n' := by
  unfold r_cut
  by_cases h1 : shp n s = true
  · rw [if_pos h1]
    by_cases h2 : lk S s.toNatClampNeg = -1
    · rw [if_pos h2]; exact ⟨n, h⟩
    · rw [if_neg h2]
      obtain ⟨j, hj, rfl⟩ := shp_of h.le h1
      rw [nI_clamp (by have := h.le; omega)]
      exact ⟨n, h.low (h.b.cto hj) (fun i _ hi => els_lo (els_upl (els_hal _ _ n) j _) hi)⟩
  · rw [if_neg h1]; exact ⟨n, h⟩
theorem ok_lys (h : Ok S n) (f : Nat → Int64) : ∀ i, i ≤ 13 → Ok (lys f S i) n
  | 0, _ => h
  | i + 1, hi => by
    unfold lys
    by_cases q : 0 ≤ f i ∧ f i ≤ 99
    · rw [if_pos q]; exact (ok_lys h f i (by omega)).upo (by omega) _
    · rw [if_neg q]; exact ok_lys h f i (by omega)
theorem ok_text (h : Ok S n) (tb : zS) (tl : Nat) : ∀ (f i : Nat) {S : zS} {n p : Nat}, Ok S n → p ≤ tl → ∀ k S', pText tb tl f i S p = .inl (k, S') → ∃ n', Ok S' n'
  | 0, _, _, _, _, _, _, _, _, e => by cases e
  | f + 1, i, S, n, p, hO, hp, k, S', e => by
    rw [pText_s, hO.s0, nI_clamp (by have := hO.le; omega)] at e
    cases hi : pItem tb tl n S p with
    | inr q => rw [hi] at e; cases e
    | inl w =>
      obtain ⟨S1, q⟩ := w
      rw [hi] at e
      obtain ⟨⟨n1, o1⟩, _, hq, _⟩ := pItem_ok hO hp hi
      have e' : (if tk tb tl q = 0 then .inl (i, S1) else if tk tb tl q = 3 then pText tb tl f (i + 1) S1 (nx tb tl q) else .inr q : (Nat × zS) ⊕ Nat) = .inl (k, S') := e
      by_cases t0 : tk tb tl q = 0
      · rw [if_pos t0] at e'
        cases e'
        exact ⟨n1, o1⟩
      · rw [if_neg t0] at e'
        by_cases t3 : tk tb tl q = 3
        · rw [if_pos t3] at e'
          exact ok_text h tb tl f (i + 1) o1 (nx_le hq).2 k S' e'
        · rw [if_neg t3] at e'; cases e'
end INV
