/-! The class's calls, one by one: the roads. -/
def r_anchor (S F : zS) (a v : Int32) : zR := if 0 ≤ a ∧ a ≤ 5 then (if 0 ≤ v ∧ v ≤ 9999 then (S (3 + a.toNatClampNeg), uph S a.toNatClampNeg v, F) else rf S F 0) else rf S F 0
def r_anchorOf (S F : zS) (n : Nat) (a w : Int32) : zR :=
  if 0 ≤ a ∧ a ≤ 5 then (if w = 0 then (S (3 + a.toNatClampNeg), S, F) else if w = 1 then (loa S n (Str S n (S 2)) (nI (100 + a.toNatClampNeg)), S, F) else if w = 2 then (nI (hg S n (nI (100 + a.toNatClampNeg))), S, F) else if w = 3 then (nI (aon S n (nI (100 + a.toNatClampNeg))), S, F) else rf S F 0) else rf S F 0
def r_ship (S F : zS) (n : Nat) (k s : Int32) : zR :=
  if 0 ≤ k ∧ k ≤ 5 then (if 1 ≤ s ∧ s ≤ 99 then (if n < 12 then (nI n, ads S n k s, F) else rf S F 1) else rf S F 0) else rf S F 0
def r_of (S F : zS) (n : Nat) (s w : Int32) : zR :=
  if shp n s = true then (if w = 0 then (kd S s.toNatClampNeg, S, F) else if w = 1 then (sz S s.toNatClampNeg, S, F) else if w = 2 then (ch S s.toNatClampNeg, S, F) else if w = 3 then (wo S s.toNatClampNeg, S, F) else if w = 4 then (lk S s.toNatClampNeg, S, F) else if w = 5 then (pul S n s.toNatClampNeg (S 2), S, F) else if w = 6 then (Str S n (S 2) s.toNatClampNeg, S, F) else if w = 7 then (brk S s.toNatClampNeg, S, F) else if w = 8 then (dep S n s, S, F) else if w = 9 then (nI (stg S n s), S, F) else rf S F 0) else rf S F 0
def r_set (S F : zS) (n : Nat) (s w v : Int32) : zR :=
  if shp n s = true then (if w = 1 then (if 1 ≤ v ∧ v ≤ 99 then (sz S s.toNatClampNeg, ups S s.toNatClampNeg v, F) else rf S F 0) else if w = 2 then (if 0 ≤ v ∧ v ≤ 9999 then (ch S s.toNatClampNeg, upc S s.toNatClampNeg v, F) else rf S F 0) else if w = 3 then (if 0 ≤ v ∧ v ≤ 99 then (wo S s.toNatClampNeg, upw S s.toNatClampNeg v, F) else rf S F 0) else rf S F 0) else rf S F 0
/-- a thing, as a test -/
def thg (n : Nat) (t : Int32) : Bool := decide (t = -1) || (shp n t || decide (100 ≤ t ∧ t ≤ 105))
def r_hang (S F : zS) (n : Nat) (s t : Int32) : zR :=
  if shp n s = true then (if thg n t = true then (if t = s then rf S F 0 else if lo S n s 12 t = true then rf S F 4 else (lk S s.toNatClampNeg, upl S s.toNatClampNeg t, F)) else rf S F 0) else rf S F 0
def r_turn (S F : zS) (n : Nat) (s k : Int32) : zR :=
  if shp n s = true then (if 0 ≤ k ∧ k ≤ 5 then (kd S s.toNatClampNeg, upk S s.toNatClampNeg k, F) else rf S F 0) else rf S F 0
def und (o k : Int32) : Bool := decide (o = k) || (decide (k = 0) || (decide (k = 1 ∧ o = 4) || decide (k = 2 ∧ o = 5)))
def r_as (S F : zS) (n : Nat) (s k : Int32) : zR :=
  if shp n s = true then (if 0 ≤ k ∧ k ≤ 5 then (if und (kd S s.toNatClampNeg) k = true then (sz S s.toNatClampNeg, S, F) else rf S F 2) else rf S F 0) else rf S F 0
def r_odds (S F : zS) (w v : Int32) : zR := if 0 ≤ w ∧ w ≤ 12 then (if 0 ≤ v ∧ v ≤ 99 then (S (9 + w.toNatClampNeg), upo S w.toNatClampNeg v, F) else rf S F 0) else rf S F 0
def r_now (S F : zS) (n : Nat) (w : Int32) : zR :=
  if w = 0 then (S 1, S, F) else if w = 1 then (S 2, S, F) else if w = 2 then (isum 6 (fun a => loa S n (Str S n (S 2)) (nI (100 + a))), S, F) else if w = 3 then (gdp S n n, S, F) else if w = 4 then (isum n (wo S), S, F) else rf S F 0
def r_would (S F : zS) (n : Nat) (w : Int32) : zR := if 0 ≤ w ∧ w ≤ 12 then (nI (hg (stl S n w) n (-1)), S, F) else rf S F 0
def r_holds (S F : zS) (n : Nat) : zR := if ght S n < 0 then rf S F 3 else (ght S n, S, F)
def r_sure (S F : zS) (n : Nat) : zR := (csum 13 (fun w => alh S n (nI w)) (fun w => S (9 + w)), S, F)
def r_free (S F : zS) (n : Nat) : zR := (nI (bset n (fun k => decide (lk S k ≠ -1) && decide (hg S n (nI k) = 0))), S, F)
def r_ahead (S F : zS) (n : Nat) (s : Int32) : zR := if shp n s = true then (nI (many (stg S n s)) - 1, S, F) else rf S F 0
theorem tsw0 {pc : Nat} {d lo hi : Int} {offs : Array Int} {x : Int32} (h : x.toInt < lo ∨ hi < x.toInt) : z_tsw pc d lo hi offs x = ((pc : Int) + d).toNat := by
  unfold z_tsw; rw [if_pos h]
section CPUB
variable {X : Nat × (Nat → Int32)} {M M2 : zM} {N : zN} {S F T : zS} {n : Nat} {j pc : Nat} {L : zL} {st r : List Value} {Q : Option Value → zM → zN → Prop}
theorem zsw {nx tg a b : Nat} {v : Value} {d lo hi : Int} {offs : Array Int} {x : Int32} (he : z_P j pc = some (.tableswitch d lo hi offs, nx, tg, a, b, v)) (hst : st = .int x :: r) (h : x.toInt < lo ∨ hi < x.toInt) {p : Nat} (hp : ((pc : Int) + d).toNat = p) (k : zW X j p L r M N Q) : zW X j pc L st M N Q := by
  subst hst
  refine zs he (pc' := p) (L' := L) (st' := r) (M' := M) (N' := N) ?_ rfl k
  simp only [z_stp]
  rw [tsw0 h, hp]
theorem ne_rng {x : Int32} {k : Nat} (hk : k < 100) (h : ∀ i, i < k → x ≠ nI i) : x.toInt < 0 ∨ ((k : Int) - 1) < x.toInt := by
  by_cases h1 : x.toInt < 0
  · exact Or.inl h1
  · refine Or.inr ?_
    obtain ⟨i, hi, rfl⟩ := nI_of (x := x) (by rw [i_lt, t_0]; exact h1)
    rw [nI_toInt hi]
    by_cases h2 : i < k
    · exact absurd rfl (h i h2)
    · omega
theorem fr9 : Fr [9] M M2 → Fr cL M M2 := fun h => h.mono (by decide)
theorem r6 {x : Int32} (h : 0 ≤ x ∧ x ≤ 5) : ∃ j, j < 6 ∧ x = nI j := by
  obtain ⟨j, hj, e⟩ := nI_of2 (n := 5) t_5 (i_nlt.mpr h.1) h.2
  exact ⟨j, by omega, e⟩
theorem r13 {x : Int32} (h : 0 ≤ x ∧ x ≤ 12) : ∃ j, j < 13 ∧ x = nI j := by
  obtain ⟨j, hj, e⟩ := nI_of2 (n := 12) t_12 (i_nlt.mpr h.1) h.2
  exact ⟨j, by omega, e⟩
theorem cC.F35 (h : cC M S F) {q k : Nat} {x : Int32} (hq : 35 ≠ q) : ∀ i, i < 7 → z_up M q k x 35 i = F i := fun i hi => by
  rw [z_up_ne _ _ _ hq]; exact h.2 i hi
theorem c_anchor (hC : cC M S F) (a v : Int32) : zV X 56 [.ref 0, .int a, .int v] M N (cP M N (r_anchor S F a v)) := by
  refine zVi [(0, .ref 0), (1, .int a), (2, .int v)] rfl ?_
  unfold r_anchor
  refine zs rfl rfl rfl ?_
  refine zs rfl rfl rfl ?_
  refine zs rfl rfl rfl ?_
  refine zcl rfl rfl (c_isIn a 0 5) ?_
  by_cases h : 0 ≤ a ∧ a ≤ 5
  · rw [decide_eq_true h, if_pos h]
    obtain ⟨j, hj, rfl⟩ := r6 h
    rw [nI_clamp (by omega)]
    refine zs rfl rfl rfl ?_
    refine zs rfl rfl rfl ?_
    refine zs rfl rfl rfl ?_
    refine zs rfl rfl rfl ?_
    refine zs rfl rfl rfl ?_
    refine zs rfl rfl rfl ?_
    refine zs rfl rfl rfl ?_
    refine zs rfl rfl rfl ?_
    refine zs rfl rfl rfl ?_
    refine zclQ rfl rfl (c_put_2 hj v 0 9999) ?_
    rintro v0 M0 N0 ⟨rfl, ⟨h2, rfl, rfl⟩ | ⟨h2, rfl, rfl⟩⟩
    · rw [if_pos h2]
      refine zto rfl (hC.1.ho j hj) ?_
      exact zret rfl rfl (cP_ok (S' := uph S j v) (F := F) rfl (Fr.up (by decide)) (⟨hC.1.uph hj v, hC.F35 (by decide)⟩))
    · rw [if_neg h2]
      exact zret rfl rfl (cP_ref (S := S) (F := F) (c := 0) rfl (Fr.rfl') (hC))
  · rw [decide_eq_false h, if_neg h]
    refine zs rfl rfl rfl ?_
    refine zs rfl rfl rfl ?_
    refine zs rfl rfl rfl ?_
    refine zcl rfl rfl (c_refuse_0) ?_
    exact zret rfl rfl (cP_ref (S := S) (F := F) (c := 0) rfl (Fr.rfl') (hC))
theorem c_odds (hC : cC M S F) (a v : Int32) : zV X 64 [.ref 0, .int a, .int v] M N (cP M N (r_odds S F a v)) := by
  refine zVi [(0, .ref 0), (1, .int a), (2, .int v)] rfl ?_
  unfold r_odds
  refine zs rfl rfl rfl ?_
  refine zcl rfl rfl (c_isWind a) ?_
  by_cases h : 0 ≤ a ∧ a ≤ 12
  · rw [decide_eq_true h, if_pos h]
    obtain ⟨j, hj, rfl⟩ := r13 h
    rw [nI_clamp (by omega)]
    refine zs rfl rfl rfl ?_
    refine zs rfl rfl rfl ?_
    refine zs rfl rfl rfl ?_
    refine zs rfl rfl rfl ?_
    refine zs rfl rfl rfl ?_
    refine zs rfl rfl rfl ?_
    refine zs rfl rfl rfl ?_
    refine zs rfl rfl rfl ?_
    refine zs rfl rfl rfl ?_
    refine zclQ rfl rfl (c_put_3 hj v 0 99) ?_
    rintro v0 M0 N0 ⟨rfl, ⟨h2, rfl, rfl⟩ | ⟨h2, rfl, rfl⟩⟩
    · rw [if_pos h2]
      refine zto rfl (hC.1.od j hj) ?_
      exact zret rfl rfl (cP_ok (S' := upo S j v) (F := F) rfl (Fr.up (by decide)) (⟨hC.1.upo hj v, hC.F35 (by decide)⟩))
    · rw [if_neg h2]
      exact zret rfl rfl (cP_ref (S := S) (F := F) (c := 0) rfl (Fr.rfl') (hC))
  · rw [decide_eq_false h, if_neg h]
    refine zs rfl rfl rfl ?_
    refine zs rfl rfl rfl ?_
    refine zs rfl rfl rfl ?_
    refine zcl rfl rfl (c_refuse_0) ?_
    exact zret rfl rfl (cP_ref (S := S) (F := F) (c := 0) rfl (Fr.rfl') (hC))
theorem c_anchorOf (hC : cC M S F) (hO : Ok S n) (a w : Int32) : zV X 57 [.ref 0, .int a, .int w] M N (cP M N (r_anchorOf S F n a w)) := by
  refine zVi [(0, .ref 0), (1, .int a), (2, .int w)] rfl ?_
  unfold r_anchorOf
  have hv := hC.1
  refine zs rfl rfl rfl ?_
  refine zs rfl rfl rfl ?_
  refine zs rfl rfl rfl ?_
  refine zcl rfl rfl (c_isIn a 0 5) ?_
  by_cases h : 0 ≤ a ∧ a ≤ 5
  · rw [decide_eq_true h, if_pos h]
    obtain ⟨j, hj, rfl⟩ := r6 h
    rw [nI_clamp (by omega)]
    have e : (100 : Int32) + nI j = nI (100 + j) := nI_add 100 j
    refine zs rfl rfl rfl ?_
    refine zs rfl rfl rfl ?_
    by_cases h0 : w = 0
    · subst h0
      rw [if_pos rfl]
      refine zs rfl rfl rfl ?_
      refine zs rfl rfl rfl ?_
      refine zs rfl rfl rfl ?_
      refine zs rfl rfl rfl ?_
      refine zs rfl rfl rfl ?_
      refine zal rfl rfl rfl (by omega) (by decide) ?_
      try refine zto rfl (Vw.ho (by assumption) _ (by omega)) ?_
      exact zret rfl rfl (cP_ok (S' := S) (F := F) rfl (Fr.rfl') (hC))
    by_cases h1 : w = 1
    · subst h1
      rw [if_neg h0, if_pos rfl]
      refine zs rfl rfl rfl ?_
      refine zs rfl rfl rfl ?_
      refine zs rfl rfl rfl ?_
      refine zs rfl rfl rfl ?_
      refine zs rfl rfl rfl ?_
      refine zs rfl rfl rfl ?_
      refine zto rfl hv.s2 ?_
      refine zclQ rfl rfl (c_fillStrains_h hv hO.s0 hO.le hO.k (S 2)) ?_
      rintro v0 M2 N2 ⟨rfl, rfl, hf2, hT⟩
      have hv2 := hv.fr1 hf2
      refine zs rfl rfl rfl ?_
      refine zs rfl rfl rfl ?_
      refine zs rfl rfl rfl ?_
      refine zcl rfl rfl (c_loadOf_h (hv2.s0.trans hO.s0) hO.le hv2.fl hT) ?_
      exact zret rfl rfl (cP_ok (S' := S) (F := F) rfl (fr9 hf2) (hC.fr hf2 (by decide) (by decide)))
    by_cases h2 : w = 2
    · subst h2
      rw [if_neg h0, if_neg h1, if_pos rfl]
      refine zs rfl rfl rfl ?_
      refine zs rfl rfl rfl ?_
      refine zs rfl rfl rfl ?_
      refine zs rfl rfl rfl ?_
      refine zs rfl rfl rfl ?_
      refine zs rfl rfl rfl ?_
      refine zto rfl e ?_
      refine zcl rfl rfl (c_hangersOf_h (hv.s0.trans hO.s0) hO.le hv.fl _) ?_
      exact zret rfl rfl (cP_ok (S' := S) (F := F) rfl (Fr.rfl') (hC))
    by_cases h3 : w = 3
    · subst h3
      rw [if_neg h0, if_neg h1, if_neg h2, if_pos rfl]
      refine zs rfl rfl rfl ?_
      refine zs rfl rfl rfl ?_
      refine zs rfl rfl rfl ?_
      refine zs rfl rfl rfl ?_
      refine zs rfl rfl rfl ?_
      refine zs rfl rfl rfl ?_
      refine zto rfl e ?_
      refine zcl rfl rfl (c_allOn_h (hv.s0.trans hO.s0) hO.le hv.fl _) ?_
      exact zret rfl rfl (cP_ok (S' := S) (F := F) rfl (Fr.rfl') (hC))
    rw [if_neg h0, if_neg h1, if_neg h2, if_neg h3]
    refine zsw rfl rfl (ne_rng (k := 4) (by decide) ?_) rfl ?_
    · intro i hi
      match i, hi with
      | 0, _ => exact h0
      | 1, _ => exact h1
      | 2, _ => exact h2
      | 3, _ => exact h3
    refine zs rfl rfl rfl ?_
    refine zs rfl rfl rfl ?_
    refine zcl rfl rfl (c_refuse_0) ?_
    exact zret rfl rfl (cP_ref (S := S) (F := F) (c := 0) rfl (Fr.rfl') (hC))
  · rw [decide_eq_false h, if_neg h]
    refine zs rfl rfl rfl ?_
    refine zs rfl rfl rfl ?_
    refine zs rfl rfl rfl ?_
    refine zcl rfl rfl (c_refuse_0) ?_
    exact zret rfl rfl (cP_ref (S := S) (F := F) (c := 0) rfl (Fr.rfl') (hC))
end CPUB
