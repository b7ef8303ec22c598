/-! The class's sheets. -/
def up' {α : Type} (f : Nat → α) (k : Nat) (x : α) : Nat → α := fun j => if j = k then x else f j
theorem up'_s {α : Type} (f : Nat → α) (k : Nat) (x : α) : up' f k x k = x := if_pos rfl
theorem up'_n {α : Type} (f : Nat → α) {k j : Nat} (x : α) (h : j ≠ k) : up' f k x j = f j := if_neg h
abbrev zB : Type := zS × (Nat → Nat) × (Nat → Nat → Int64)
def nar (b : Int32) (v : Int64) : Int64 := if b = 8 then v.toInt32.toInt8.toInt32.toInt64 else if b = 16 then v.toInt32.toInt16.toInt32.toInt64 else v
/-- the class holds the sheets B -/
def cS (M : zM) (N : zN) (B : zB) : Prop := ∀ t, t < 4 → M (36 + 2 * t) 1 = B.1 t ∧ M (36 + 2 * t) 2 = nI (B.2.1 t) ∧ ∀ i, i < 40 → N (37 + 2 * t) i = B.2.2 t i
def Sok (B : zB) : Prop := ∀ t, t < 4 → B.2.1 t ≤ 40 ∧ (B.1 t = 0 ∨ B.1 t = 8 ∨ B.1 t = 16 ∨ B.1 t = 64)
def sC : List Nat := [1, 2, 3, 4, 5, 6, 7, 8, 9, 19, 20, 21, 22, 23, 24, 25, 26, 27, 35, 36, 38, 40, 42]
/-- behind a call on a sheet -/
def cW (M : zM) (N : zN) (a : Value) (S F : zS) (B : zB) : Option Value → zM → zN → Prop := fun v M' N' => v = some a ∧ Fr sC M M' ∧ Vw M' 1 S ∧ (∀ k, k < 7 → M' 35 k = F k) ∧ cS M' N' B ∧ N' 54 = N 54
abbrev zRB : Type := Int32 × zS × zS × zB
def cX (M : zM) (N : zN) (r : zRB) : Option Value → zM → zN → Prop := cW M N (.int r.1) r.2.1 r.2.2.1 r.2.2.2
/-- a finding -/
def rfB (S F : zS) (B : zB) (c : Nat) : zRB := (fd c, S, bump F c, B)
def r_sheet (S F : zS) (B : zB) (s b m : Int32) : zRB :=
  if 0 ≤ s ∧ s ≤ 3 then (if b = 0 ∨ b = 8 ∨ b = 16 ∨ b = 64 then (if 0 ≤ m then (if m ≤ 40 then (if b = 0 then (0, S, F, up' B.1 s.toNatClampNeg 0, up' B.2.1 s.toNatClampNeg 0, up' B.2.2 s.toNatClampNeg (fun _ => 0)) else (m, S, F, up' B.1 s.toNatClampNeg b, up' B.2.1 s.toNatClampNeg m.toNatClampNeg, up' B.2.2 s.toNatClampNeg (fun _ => 0))) else rfB S F B 0) else rfB S F B 6) else rfB S F B 0) else rfB S F B 0
section CSHT
variable {X : Nat × (Nat → Int32)} {j pc : Nat} {L : zL} {st r : List Value} {M M2 : zM} {N N2 : zN} {S F : zS} {B : zB} {Q : Option Value → zM → zN → Prop} {n : Nat}
theorem zlal {nx tg a b q n i : Nat} {v : Value} {rs : List (Option Nat)} (he : z_P j pc = some (.laload, nx, tg, a, b, v)) (hst : st = .int (nI i) :: .ref q :: r) (hq : Nat.ble 56 q = false) (hz : z_lay.get q = (1, n, rs)) (hi : i < n) (hn : n < 2 ^ 31) (k : zW X j nx L (.long (N q i) :: r) M N Q) : zW X j pc L st M N Q := by
  subst hst; exact zlald he hq hz hi hn k
theorem zlas {nx tg a b q n i : Nat} {v : Value} {x : Int64} {rs : List (Option Nat)} (he : z_P j pc = some (.lastore, nx, tg, a, b, v)) (hst : st = .long x :: .int (nI i) :: .ref q :: r) (hq : Nat.ble 56 q = false) (hz : z_lay.get q = (1, n, rs)) (hi : i < n) (hn : n < 2 ^ 31) (k : zW X j nx L r M (z_upL N q i x) Q) : zW X j pc L st M N Q := by
  subst hst; exact zlast he hq hz hi hn k
theorem ztoL {x y : Int64} (hst : st = .long x :: r) (h : x = y) (k : zW X j pc L (.long y :: r) M N Q) : zW X j pc L st M N Q := by
  subst hst; exact h ▸ k
theorem upL_a (N : zN) (a k : Nat) (x : Int64) (j : Nat) : z_upL N a k x a j = if j = k then x else N a j := by
  rw [z_upL_same]; rfl
theorem r4 {x : Int32} (h : 0 ≤ x ∧ x ≤ 3) : x = nI 0 ∨ x = nI 1 ∨ x = nI 2 ∨ x = nI 3 := by
  obtain ⟨j, hj, rfl⟩ := nI_of2 (n := 3) t_3 (i_nlt.mpr h.1) h.2
  have : j = 0 ∨ j = 1 ∨ j = 2 ∨ j = 3 := by omega
  rcases this with rfl | rfl | rfl | rfl
  · exact Or.inl rfl
  · exact Or.inr (Or.inl rfl)
  · exact Or.inr (Or.inr (Or.inl rfl))
  · exact Or.inr (Or.inr (Or.inr rfl))
theorem cS.fr {l : List Nat} (h : cS M N B) (hf : Fr l M M2) (h1 : ∀ t, t < 4 → 36 + 2 * t ∉ l) : cS M2 N B := fun t ht => by
  rw [hf _ (h1 t ht)]; exact h t ht
theorem cX_ref {c : Nat} {r : zRB} (hr : r = rfB S F B c) (hf : Fr sC M M2) (hC : cC M2 S F) (hS : cS M2 N B) : cX M N r (some (.int (fd c))) (z_up M2 35 c (M2 35 c + 1)) N := by
  subst hr
  have h := cP_ref (M := M2) (N := N) (c := c) (r := rf S F c) rfl Fr.rfl' hC
  exact ⟨rfl, hf.trans (Fr.up (by decide)), h.2.2.2.1, h.2.2.2.2, hS.fr (Fr.up (l := [35]) (by decide)) (by decide), rfl⟩
theorem c_sheetAt_no {s : Int32} (h : ¬ (0 ≤ s ∧ s ≤ 3)) : zE1 X 102 [.ref 0, .int s] M N (some .null) M N := by
  refine zE1i [(0, .ref 0), (1, .int s)] rfl ?_
  refine zs rfl rfl rfl ?_
  refine zs rfl rfl rfl ?_
  refine zs rfl rfl rfl ?_
  refine zcl rfl rfl (c_isIn s 0 3) ?_
  rw [decide_eq_false h]
  refine zs rfl rfl rfl ?_
  refine zs rfl rfl rfl ?_
  exact zret rfl rfl ⟨rfl, rfl, rfl⟩
theorem c_sheetAt_0 : zE1 X 102 [.ref 0, .int (nI 0)] M N (some (.ref 36)) M N := by
  refine zE1i [(0, .ref 0), (1, .int (nI 0))] rfl ?_
  refine zs rfl rfl rfl ?_
  refine zs rfl rfl rfl ?_
  refine zs rfl rfl rfl ?_
  refine zcl rfl rfl (c_isIn (nI 0) 0 3) ?_
  rw [show decide ((0 : Int32) ≤ nI 0 ∧ nI 0 ≤ 3) = true by decide]
  refine zs rfl rfl rfl ?_
  refine zs rfl rfl rfl ?_
  refine zs rfl rfl rfl ?_
  refine zs rfl rfl rfl ?_
  refine zs rfl rfl rfl ?_
  refine zs rfl rfl rfl ?_
  exact zret rfl rfl ⟨rfl, rfl, rfl⟩
theorem c_isMissing_0 {b : Int32} (hb : M 36 1 = b) : zE1 X 27 [.ref 36] M N (some (.int (bI (decide (b = 0))))) M N := by
  refine zE1i [(0, .ref 36)] rfl ?_
  refine zs rfl rfl rfl ?_
  refine zs rfl rfl rfl ?_
  refine zto rfl hb ?_
  refine zbr rfl rfl rfl (fun hc => ?_) (fun hc => ?_)
  · rw [decide_eq_false hc]
    refine zs rfl rfl rfl ?_
    exact zret rfl rfl ⟨rfl, rfl, rfl⟩
  · rw [decide_eq_true (Decidable.not_not.mp hc)]
    refine zs rfl rfl rfl ?_
    refine zs rfl rfl rfl ?_
    exact zret rfl rfl ⟨rfl, rfl, rfl⟩
theorem c_fillL_0 : zV X 229 [.ref 37, .long 0] M N (fun v M' N' => v = none ∧ M' = M ∧ (∀ b, b ≠ 37 → N' b = N b) ∧ ∀ i, i < 40 → N' 37 i = 0) := by
  refine zVi [(0, .ref 37), (1, .long 0), (2, .retAddr 0)] rfl ?_
  refine zs rfl rfl rfl ?_
  refine zs rfl rfl rfl ?_
  refine zs rfl rfl rfl ?_
  refine zs rfl rfl rfl ?_
  refine zs rfl rfl rfl ?_
  have loop : ∀ d i N1, i + d = 40 → (∀ b, b ≠ 37 → N1 b = N b) → (∀ k, k < i → N1 37 k = 0) → zW X 229 6 [(0, .ref 37), (1, .long 0), (2, .retAddr 0), (3, .int (nI i)), (4, .int 40)] [] M N1 (fun v M' N' => v = none ∧ M' = M ∧ (∀ b, b ≠ 37 → N' b = N b) ∧ ∀ i, i < 40 → N' 37 i = 0) := by
    intro d
    induction d with
    | zero =>
      intro i N1 hi hf h0
      obtain rfl : i = 40 := by omega
      refine zs rfl rfl rfl ?_
      refine zs rfl rfl rfl ?_
      refine zs rfl rfl rfl ?_
      exact zret rfl rfl ⟨rfl, rfl, hf, h0⟩
    | succ d ih =>
      intro i N1 hi hf h0
      refine zs rfl rfl rfl ?_
      refine zs rfl rfl rfl ?_
      refine zbf (nI_ge (b := 40) (by omega) (by omega)) rfl rfl rfl ?_
      refine zs rfl rfl rfl ?_
      refine zs rfl rfl rfl ?_
      refine zs rfl rfl rfl ?_
      refine zlas rfl rfl rfl rfl (by omega) (by decide) ?_
      refine zinc rfl rfl rfl ?_
      refine zs rfl rfl rfl ?_
      refine ih (i + 1) _ (by omega) (fun b hb => (z_upL_ne N1 _ _ hb).trans (hf b hb)) (fun k hk => ?_)
      rw [upL_a]
      by_cases e : k = i
      · rw [if_pos e]
      · rw [if_neg e]; exact h0 k (by omega)
  exact loop 40 0 N rfl (fun _ _ => rfl) (fun k hk => absurd hk (Nat.not_lt_zero k))
theorem c_lay_0 (b m : Int32) : zV X 28 [.ref 36, .int b, .int m] M N (fun v M' N' => v = none ∧ M' = z_up (z_up M 36 1 b) 36 2 m ∧ (∀ b, b ≠ 37 → N' b = N b) ∧ ∀ i, i < 40 → N' 37 i = 0) := by
  refine zVi [(0, .ref 36), (1, .int b), (2, .int m)] rfl ?_
  refine zs rfl rfl rfl ?_
  refine zs rfl rfl rfl ?_
  refine zs rfl rfl rfl ?_
  refine zclQ rfl rfl (c_fillL_0) ?_
  rintro v M' N' ⟨rfl, rfl, h1, h2⟩
  refine zs rfl rfl rfl ?_
  refine zs rfl rfl rfl ?_
  refine zs rfl rfl rfl ?_
  refine zs rfl rfl rfl ?_
  refine zs rfl rfl rfl ?_
  refine zs rfl rfl rfl ?_
  exact zret rfl rfl ⟨rfl, rfl, h1, h2⟩
theorem c_putS_0 {i : Nat} (hi : i < 40) {b : Int32} (hb : M 36 1 = b) (v : Int64) : zE1 X 29 [.ref 36, .int (nI i), .long v] M N none M (z_upL N 37 i (nar b v)) := by
  refine zE1i [(0, .ref 36), (1, .int (nI i)), (2, .long v), (3, .retAddr 0)] rfl ?_
  unfold nar
  refine zs rfl rfl rfl ?_
  refine zs rfl rfl rfl ?_
  refine zto rfl hb ?_
  refine zs rfl rfl rfl ?_
  refine zbr rfl rfl rfl (fun hc => ?_) (fun hc => ?_)
  · rw [if_neg hc]
    refine zs rfl rfl rfl ?_
    refine zs rfl rfl rfl ?_
    refine zto rfl hb ?_
    refine zs rfl rfl rfl ?_
    refine zbr rfl rfl rfl (fun hd => ?_) (fun hd => ?_)
    · rw [if_neg hd]
      refine zs rfl rfl rfl ?_
      refine zs rfl rfl rfl ?_
      refine zs rfl rfl rfl ?_
      refine zs rfl rfl rfl ?_
      refine zlas rfl rfl rfl rfl (by omega) (by decide) ?_
      exact zret rfl rfl ⟨rfl, rfl, rfl⟩
    · rw [if_pos (Decidable.not_not.mp hd)]
      refine zs rfl rfl rfl ?_
      refine zs rfl rfl rfl ?_
      refine zs rfl rfl rfl ?_
      refine zs rfl rfl rfl ?_
      refine zs rfl rfl rfl ?_
      refine zs rfl rfl rfl ?_
      refine zs rfl rfl rfl ?_
      refine zlas rfl rfl rfl rfl (by omega) (by decide) ?_
      refine zs rfl rfl rfl ?_
      exact zret rfl rfl ⟨rfl, rfl, rfl⟩
  · rw [if_pos (Decidable.not_not.mp hc)]
    refine zs rfl rfl rfl ?_
    refine zs rfl rfl rfl ?_
    refine zs rfl rfl rfl ?_
    refine zs rfl rfl rfl ?_
    refine zs rfl rfl rfl ?_
    refine zs rfl rfl rfl ?_
    refine zs rfl rfl rfl ?_
    refine zlas rfl rfl rfl rfl (by omega) (by decide) ?_
    refine zs rfl rfl rfl ?_
    exact zret rfl rfl ⟨rfl, rfl, rfl⟩
theorem c_hasRow_0 {l : Nat} (hl : M 36 2 = nI l) (f m : Int32) : zE1 X 30 [.ref 36, .int f, .int m] M N (some (.int (bI (decide (0 ≤ f ∧ 0 ≤ m ∧ m ≤ nI l ∧ f ≤ nI l - m))))) M N := by
  refine zE1i [(0, .ref 36), (1, .int f), (2, .int m)] rfl ?_
  refine zs rfl rfl rfl ?_
  refine zbr rfl rfl rfl (fun hc => ?_) (fun hc => ?_)
  · rw [decide_eq_false (fun q => i_nlt.mpr q.1 hc)]
    refine zs rfl rfl rfl ?_
    exact zret rfl rfl ⟨rfl, rfl, rfl⟩
  · refine zs rfl rfl rfl ?_
    refine zbr rfl rfl rfl (fun h2 => ?_) (fun h2 => ?_)
    · rw [decide_eq_false (fun q => i_nlt.mpr q.2.1 h2)]
      refine zs rfl rfl rfl ?_
      exact zret rfl rfl ⟨rfl, rfl, rfl⟩
    · refine zs rfl rfl rfl ?_
      refine zs rfl rfl rfl ?_
      refine zs rfl rfl rfl ?_
      refine zto rfl hl ?_
      refine zbr rfl rfl rfl (fun h3 => ?_) (fun h3 => ?_)
      · rw [decide_eq_false (fun q => i_nlt.mpr q.2.2.1 h3)]
        refine zs rfl rfl rfl ?_
        exact zret rfl rfl ⟨rfl, rfl, rfl⟩
      · refine zs rfl rfl rfl ?_
        refine zs rfl rfl rfl ?_
        refine zs rfl rfl rfl ?_
        refine zto rfl hl ?_
        refine zs rfl rfl rfl ?_
        refine zs rfl rfl rfl ?_
        refine zbr rfl rfl rfl (fun h4 => ?_) (fun h4 => ?_)
        · rw [decide_eq_false (fun q => i_nlt.mpr q.2.2.2 h4)]
          refine zs rfl rfl rfl ?_
          exact zret rfl rfl ⟨rfl, rfl, rfl⟩
        · rw [decide_eq_true ⟨i_nlt.mp hc, i_nlt.mp h2, i_nlt.mp h3, i_nlt.mp h4⟩]
          refine zs rfl rfl rfl ?_
          refine zs rfl rfl rfl ?_
          exact zret rfl rfl ⟨rfl, rfl, rfl⟩
theorem c_sheet_0 (hC : cC M S F) (hS : cS M N B) (b m : Int32) : zV X 89 [.ref 0, .int (nI 0), .int b, .int m] M N (cX M N (r_sheet S F B (nI 0) b m)) := by
  refine zVi [(0, .ref 0), (1, .int (nI 0)), (2, .int b), (3, .int m)] rfl ?_
  unfold r_sheet
  rw [if_pos (by decide), nI_clamp (by decide)]
  refine zs rfl rfl rfl ?_
  refine zs rfl rfl rfl ?_
  refine zcl rfl rfl (c_sheetAt_0) ?_
  refine zs rfl rfl rfl ?_
  refine zs rfl rfl rfl ?_
  refine zs rfl rfl rfl ?_
  have bad : ¬ (b = 0 ∨ b = 8 ∨ b = 16 ∨ b = 64) → zW X 89 34 [(0, .ref 0), (1, .int (nI 0)), (2, .int b), (3, .int m), (4, .ref 36)] [] M N (cX M N (rfB S F B 0)) := by
    intro h
    refine zs rfl rfl rfl ?_
    refine zs rfl rfl rfl ?_
    refine zcl rfl rfl (c_refuse_0) ?_
    exact zret rfl rfl (cX_ref (c := 0) rfl Fr.rfl' hC hS)
  have good : (b = 0 ∨ b = 8 ∨ b = 16 ∨ b = 64) → zW X 89 41 [(0, .ref 0), (1, .int (nI 0)), (2, .int b), (3, .int m), (4, .ref 36)] [] M N (cX M N (if 0 ≤ m then (if m ≤ 40 then (if b = 0 then (0, S, F, up' B.1 0 0, up' B.2.1 0 0, up' B.2.2 0 (fun _ => 0)) else (m, S, F, up' B.1 0 b, up' B.2.1 0 m.toNatClampNeg, up' B.2.2 0 (fun _ => 0))) else rfB S F B 0) else rfB S F B 6)) := by
    intro h
    have fin : ∀ (b m' : Int32) (k : Nat), m' = nI k → zW X 89 77 [(0, .ref 0), (1, .int (nI 0)), (2, .int b), (3, .int m), (4, .ref 36)] [.int m', .int b, .ref 36] M N (cX M N (m', S, F, up' B.1 0 b, up' B.2.1 0 k, up' B.2.2 0 (fun _ => 0))) := by
      intro b m' k hk
      refine zclQ rfl rfl (c_lay_0 b m') ?_
      rintro v M' N' ⟨rfl, rfl, h1, h2⟩
      refine zs rfl rfl rfl ?_
      refine zs rfl rfl rfl ?_
      refine zret rfl rfl ⟨rfl, (Fr.up (by decide)).trans (Fr.up (by decide)), hC.1.fr ((Fr.up (l := [36]) (by decide)).trans (Fr.up (by decide))) (by decide), hC.hF ((Fr.up (l := [36]) (by decide)).trans (Fr.up (by decide))) (by decide), ?_, h1 54 (by decide)⟩
      intro t ht
      dsimp only
      by_cases e : t = 0
      · subst e
        rw [up'_s, up'_s, up'_s]
        exact ⟨rfl, hk, h2⟩
      · rw [up'_n _ _ e, up'_n _ _ e, up'_n _ _ e]
        rw [z_up_ne _ _ _ (by omega), z_up_ne _ _ _ (by omega), h1 _ (by omega)]
        exact hS t ht
    refine zs rfl rfl rfl ?_
    refine zbr rfl rfl rfl (fun hc => ?_) (fun hc => ?_)
    · rw [if_pos hc]
      refine zs rfl rfl rfl ?_
      refine zs rfl rfl rfl ?_
      refine zbr rfl rfl rfl (fun hd => ?_) (fun hd => ?_)
      · rw [if_pos hd]
        refine zs rfl rfl rfl ?_
        refine zs rfl rfl rfl ?_
        refine zs rfl rfl rfl ?_
        refine zbr rfl rfl rfl (fun he => ?_) (fun he => ?_)
        · rw [if_neg he]
          obtain ⟨a, ha, rfl⟩ := nI_of (i_nlt.mpr hc)
          rw [nI_clamp ha]
          refine zs rfl rfl rfl ?_
          exact fin b (nI a) a rfl
        · have e0 := Decidable.not_not.mp he
          rw [if_pos e0]
          subst e0
          refine zs rfl rfl rfl ?_
          refine zs rfl rfl rfl ?_
          exact fin 0 0 0 rfl
      · rw [if_neg hd]
        refine zs rfl rfl rfl ?_
        refine zs rfl rfl rfl ?_
        refine zcl rfl rfl (c_refuse_0) ?_
        exact zret rfl rfl (cX_ref (c := 0) rfl Fr.rfl' hC hS)
    · rw [if_neg hc]
      refine zs rfl rfl rfl ?_
      refine zs rfl rfl rfl ?_
      refine zcl rfl rfl (c_refuse_6) ?_
      exact zret rfl rfl (cX_ref (c := 6) rfl Fr.rfl' hC hS)
  refine zs rfl rfl rfl ?_
  refine zbr rfl rfl rfl (fun hc => ?_) (fun hc => ?_)
  · rw [if_pos (Or.inl hc)]
    exact good (Or.inl hc)
  · refine zs rfl rfl rfl ?_
    refine zs rfl rfl rfl ?_
    refine zbr rfl rfl rfl (fun h8 => ?_) (fun h8 => ?_)
    · rw [if_pos (Or.inr (Or.inl h8))]
      exact good (Or.inr (Or.inl h8))
    · refine zs rfl rfl rfl ?_
      refine zs rfl rfl rfl ?_
      refine zbr rfl rfl rfl (fun h16 => ?_) (fun h16 => ?_)
      · rw [if_pos (Or.inr (Or.inr (Or.inl h16)))]
        exact good (Or.inr (Or.inr (Or.inl h16)))
      · refine zs rfl rfl rfl ?_
        refine zs rfl rfl rfl ?_
        refine zbr rfl rfl rfl (fun h64 => ?_) (fun h64 => ?_)
        · rw [if_pos (Or.inr (Or.inr (Or.inr h64)))]
          exact good (Or.inr (Or.inr (Or.inr h64)))
        · have hn : ¬ (b = 0 ∨ b = 8 ∨ b = 16 ∨ b = 64) := by
            rintro (q | q | q | q)
            · exact hc q
            · exact h8 q
            · exact h16 q
            · exact h64 q
          rw [if_neg hn]
          exact bad hn
theorem c_sheetAt_1 : zE1 X 102 [.ref 0, .int (nI 1)] M N (some (.ref 38)) M N := by
  refine zE1i [(0, .ref 0), (1, .int (nI 1))] rfl ?_
  refine zs rfl rfl rfl ?_
  refine zs rfl rfl rfl ?_
  refine zs rfl rfl rfl ?_
  refine zcl rfl rfl (c_isIn (nI 1) 0 3) ?_
  rw [show decide ((0 : Int32) ≤ nI 1 ∧ nI 1 ≤ 3) = true by decide]
  refine zs rfl rfl rfl ?_
  refine zs rfl rfl rfl ?_
  refine zs rfl rfl rfl ?_
  refine zs rfl rfl rfl ?_
  refine zs rfl rfl rfl ?_
  refine zs rfl rfl rfl ?_
  exact zret rfl rfl ⟨rfl, rfl, rfl⟩
theorem c_isMissing_1 {b : Int32} (hb : M 38 1 = b) : zE1 X 27 [.ref 38] M N (some (.int (bI (decide (b = 0))))) M N := by
  refine zE1i [(0, .ref 38)] rfl ?_
  refine zs rfl rfl rfl ?_
  refine zs rfl rfl rfl ?_
  refine zto rfl hb ?_
  refine zbr rfl rfl rfl (fun hc => ?_) (fun hc => ?_)
  · rw [decide_eq_false hc]
    refine zs rfl rfl rfl ?_
    exact zret rfl rfl ⟨rfl, rfl, rfl⟩
  · rw [decide_eq_true (Decidable.not_not.mp hc)]
    refine zs rfl rfl rfl ?_
    refine zs rfl rfl rfl ?_
    exact zret rfl rfl ⟨rfl, rfl, rfl⟩
theorem c_fillL_1 : zV X 229 [.ref 39, .long 0] M N (fun v M' N' => v = none ∧ M' = M ∧ (∀ b, b ≠ 39 → N' b = N b) ∧ ∀ i, i < 40 → N' 39 i = 0) := by
  refine zVi [(0, .ref 39), (1, .long 0), (2, .retAddr 0)] rfl ?_
  refine zs rfl rfl rfl ?_
  refine zs rfl rfl rfl ?_
  refine zs rfl rfl rfl ?_
  refine zs rfl rfl rfl ?_
  refine zs rfl rfl rfl ?_
  have loop : ∀ d i N1, i + d = 40 → (∀ b, b ≠ 39 → N1 b = N b) → (∀ k, k < i → N1 39 k = 0) → zW X 229 6 [(0, .ref 39), (1, .long 0), (2, .retAddr 0), (3, .int (nI i)), (4, .int 40)] [] M N1 (fun v M' N' => v = none ∧ M' = M ∧ (∀ b, b ≠ 39 → N' b = N b) ∧ ∀ i, i < 40 → N' 39 i = 0) := by
    intro d
    induction d with
    | zero =>
      intro i N1 hi hf h0
      obtain rfl : i = 40 := by omega
      refine zs rfl rfl rfl ?_
      refine zs rfl rfl rfl ?_
      refine zs rfl rfl rfl ?_
      exact zret rfl rfl ⟨rfl, rfl, hf, h0⟩
    | succ d ih =>
      intro i N1 hi hf h0
      refine zs rfl rfl rfl ?_
      refine zs rfl rfl rfl ?_
      refine zbf (nI_ge (b := 40) (by omega) (by omega)) rfl rfl rfl ?_
      refine zs rfl rfl rfl ?_
      refine zs rfl rfl rfl ?_
      refine zs rfl rfl rfl ?_
      refine zlas rfl rfl rfl rfl (by omega) (by decide) ?_
      refine zinc rfl rfl rfl ?_
      refine zs rfl rfl rfl ?_
      refine ih (i + 1) _ (by omega) (fun b hb => (z_upL_ne N1 _ _ hb).trans (hf b hb)) (fun k hk => ?_)
      rw [upL_a]
      by_cases e : k = i
      · rw [if_pos e]
      · rw [if_neg e]; exact h0 k (by omega)
  exact loop 40 0 N rfl (fun _ _ => rfl) (fun k hk => absurd hk (Nat.not_lt_zero k))
theorem c_lay_1 (b m : Int32) : zV X 28 [.ref 38, .int b, .int m] M N (fun v M' N' => v = none ∧ M' = z_up (z_up M 38 1 b) 38 2 m ∧ (∀ b, b ≠ 39 → N' b = N b) ∧ ∀ i, i < 40 → N' 39 i = 0) := by
  refine zVi [(0, .ref 38), (1, .int b), (2, .int m)] rfl ?_
  refine zs rfl rfl rfl ?_
  refine zs rfl rfl rfl ?_
  refine zs rfl rfl rfl ?_
  refine zclQ rfl rfl (c_fillL_1) ?_
  rintro v M' N' ⟨rfl, rfl, h1, h2⟩
  refine zs rfl rfl rfl ?_
  refine zs rfl rfl rfl ?_
  refine zs rfl rfl rfl ?_
  refine zs rfl rfl rfl ?_
  refine zs rfl rfl rfl ?_
  refine zs rfl rfl rfl ?_
  exact zret rfl rfl ⟨rfl, rfl, h1, h2⟩
theorem c_putS_1 {i : Nat} (hi : i < 40) {b : Int32} (hb : M 38 1 = b) (v : Int64) : zE1 X 29 [.ref 38, .int (nI i), .long v] M N none M (z_upL N 39 i (nar b v)) := by
  refine zE1i [(0, .ref 38), (1, .int (nI i)), (2, .long v), (3, .retAddr 0)] rfl ?_
  unfold nar
  refine zs rfl rfl rfl ?_
  refine zs rfl rfl rfl ?_
  refine zto rfl hb ?_
  refine zs rfl rfl rfl ?_
  refine zbr rfl rfl rfl (fun hc => ?_) (fun hc => ?_)
  · rw [if_neg hc]
    refine zs rfl rfl rfl ?_
    refine zs rfl rfl rfl ?_
    refine zto rfl hb ?_
    refine zs rfl rfl rfl ?_
    refine zbr rfl rfl rfl (fun hd => ?_) (fun hd => ?_)
    · rw [if_neg hd]
      refine zs rfl rfl rfl ?_
      refine zs rfl rfl rfl ?_
      refine zs rfl rfl rfl ?_
      refine zs rfl rfl rfl ?_
      refine zlas rfl rfl rfl rfl (by omega) (by decide) ?_
      exact zret rfl rfl ⟨rfl, rfl, rfl⟩
    · rw [if_pos (Decidable.not_not.mp hd)]
      refine zs rfl rfl rfl ?_
      refine zs rfl rfl rfl ?_
      refine zs rfl rfl rfl ?_
      refine zs rfl rfl rfl ?_
      refine zs rfl rfl rfl ?_
      refine zs rfl rfl rfl ?_
      refine zs rfl rfl rfl ?_
      refine zlas rfl rfl rfl rfl (by omega) (by decide) ?_
      refine zs rfl rfl rfl ?_
      exact zret rfl rfl ⟨rfl, rfl, rfl⟩
  · rw [if_pos (Decidable.not_not.mp hc)]
    refine zs rfl rfl rfl ?_
    refine zs rfl rfl rfl ?_
    refine zs rfl rfl rfl ?_
    refine zs rfl rfl rfl ?_
    refine zs rfl rfl rfl ?_
    refine zs rfl rfl rfl ?_
    refine zs rfl rfl rfl ?_
    refine zlas rfl rfl rfl rfl (by omega) (by decide) ?_
    refine zs rfl rfl rfl ?_
    exact zret rfl rfl ⟨rfl, rfl, rfl⟩
theorem c_hasRow_1 {l : Nat} (hl : M 38 2 = nI l) (f m : Int32) : zE1 X 30 [.ref 38, .int f, .int m] M N (some (.int (bI (decide (0 ≤ f ∧ 0 ≤ m ∧ m ≤ nI l ∧ f ≤ nI l - m))))) M N := by
  refine zE1i [(0, .ref 38), (1, .int f), (2, .int m)] rfl ?_
  refine zs rfl rfl rfl ?_
  refine zbr rfl rfl rfl (fun hc => ?_) (fun hc => ?_)
  · rw [decide_eq_false (fun q => i_nlt.mpr q.1 hc)]
    refine zs rfl rfl rfl ?_
    exact zret rfl rfl ⟨rfl, rfl, rfl⟩
  · refine zs rfl rfl rfl ?_
    refine zbr rfl rfl rfl (fun h2 => ?_) (fun h2 => ?_)
    · rw [decide_eq_false (fun q => i_nlt.mpr q.2.1 h2)]
      refine zs rfl rfl rfl ?_
      exact zret rfl rfl ⟨rfl, rfl, rfl⟩
    · refine zs rfl rfl rfl ?_
      refine zs rfl rfl rfl ?_
      refine zs rfl rfl rfl ?_
      refine zto rfl hl ?_
      refine zbr rfl rfl rfl (fun h3 => ?_) (fun h3 => ?_)
      · rw [decide_eq_false (fun q => i_nlt.mpr q.2.2.1 h3)]
        refine zs rfl rfl rfl ?_
        exact zret rfl rfl ⟨rfl, rfl, rfl⟩
      · refine zs rfl rfl rfl ?_
        refine zs rfl rfl rfl ?_
        refine zs rfl rfl rfl ?_
        refine zto rfl hl ?_
        refine zs rfl rfl rfl ?_
        refine zs rfl rfl rfl ?_
        refine zbr rfl rfl rfl (fun h4 => ?_) (fun h4 => ?_)
        · rw [decide_eq_false (fun q => i_nlt.mpr q.2.2.2 h4)]
          refine zs rfl rfl rfl ?_
          exact zret rfl rfl ⟨rfl, rfl, rfl⟩
        · rw [decide_eq_true ⟨i_nlt.mp hc, i_nlt.mp h2, i_nlt.mp h3, i_nlt.mp h4⟩]
          refine zs rfl rfl rfl ?_
          refine zs rfl rfl rfl ?_
          exact zret rfl rfl ⟨rfl, rfl, rfl⟩
theorem c_sheet_1 (hC : cC M S F) (hS : cS M N B) (b m : Int32) : zV X 89 [.ref 0, .int (nI 1), .int b, .int m] M N (cX M N (r_sheet S F B (nI 1) b m)) := by
  refine zVi [(0, .ref 0), (1, .int (nI 1)), (2, .int b), (3, .int m)] rfl ?_
  unfold r_sheet
  rw [if_pos (by decide), nI_clamp (by decide)]
  refine zs rfl rfl rfl ?_
  refine zs rfl rfl rfl ?_
  refine zcl rfl rfl (c_sheetAt_1) ?_
  refine zs rfl rfl rfl ?_
  refine zs rfl rfl rfl ?_
  refine zs rfl rfl rfl ?_
  have bad : ¬ (b = 0 ∨ b = 8 ∨ b = 16 ∨ b = 64) → zW X 89 34 [(0, .ref 0), (1, .int (nI 1)), (2, .int b), (3, .int m), (4, .ref 38)] [] M N (cX M N (rfB S F B 0)) := by
    intro h
    refine zs rfl rfl rfl ?_
    refine zs rfl rfl rfl ?_
    refine zcl rfl rfl (c_refuse_0) ?_
    exact zret rfl rfl (cX_ref (c := 0) rfl Fr.rfl' hC hS)
  have good : (b = 0 ∨ b = 8 ∨ b = 16 ∨ b = 64) → zW X 89 41 [(0, .ref 0), (1, .int (nI 1)), (2, .int b), (3, .int m), (4, .ref 38)] [] M N (cX M N (if 0 ≤ m then (if m ≤ 40 then (if b = 0 then (0, S, F, up' B.1 1 0, up' B.2.1 1 0, up' B.2.2 1 (fun _ => 0)) else (m, S, F, up' B.1 1 b, up' B.2.1 1 m.toNatClampNeg, up' B.2.2 1 (fun _ => 0))) else rfB S F B 0) else rfB S F B 6)) := by
    intro h
    have fin : ∀ (b m' : Int32) (k : Nat), m' = nI k → zW X 89 77 [(0, .ref 0), (1, .int (nI 1)), (2, .int b), (3, .int m), (4, .ref 38)] [.int m', .int b, .ref 38] M N (cX M N (m', S, F, up' B.1 1 b, up' B.2.1 1 k, up' B.2.2 1 (fun _ => 0))) := by
      intro b m' k hk
      refine zclQ rfl rfl (c_lay_1 b m') ?_
      rintro v M' N' ⟨rfl, rfl, h1, h2⟩
      refine zs rfl rfl rfl ?_
      refine zs rfl rfl rfl ?_
      refine zret rfl rfl ⟨rfl, (Fr.up (by decide)).trans (Fr.up (by decide)), hC.1.fr ((Fr.up (l := [38]) (by decide)).trans (Fr.up (by decide))) (by decide), hC.hF ((Fr.up (l := [38]) (by decide)).trans (Fr.up (by decide))) (by decide), ?_, h1 54 (by decide)⟩
      intro t ht
      dsimp only
      by_cases e : t = 1
      · subst e
        rw [up'_s, up'_s, up'_s]
        exact ⟨rfl, hk, h2⟩
      · rw [up'_n _ _ e, up'_n _ _ e, up'_n _ _ e]
        rw [z_up_ne _ _ _ (by omega), z_up_ne _ _ _ (by omega), h1 _ (by omega)]
        exact hS t ht
    refine zs rfl rfl rfl ?_
    refine zbr rfl rfl rfl (fun hc => ?_) (fun hc => ?_)
    · rw [if_pos hc]
      refine zs rfl rfl rfl ?_
      refine zs rfl rfl rfl ?_
      refine zbr rfl rfl rfl (fun hd => ?_) (fun hd => ?_)
      · rw [if_pos hd]
        refine zs rfl rfl rfl ?_
        refine zs rfl rfl rfl ?_
        refine zs rfl rfl rfl ?_
        refine zbr rfl rfl rfl (fun he => ?_) (fun he => ?_)
        · rw [if_neg he]
          obtain ⟨a, ha, rfl⟩ := nI_of (i_nlt.mpr hc)
          rw [nI_clamp ha]
          refine zs rfl rfl rfl ?_
          exact fin b (nI a) a rfl
        · have e0 := Decidable.not_not.mp he
          rw [if_pos e0]
          subst e0
          refine zs rfl rfl rfl ?_
          refine zs rfl rfl rfl ?_
          exact fin 0 0 0 rfl
      · rw [if_neg hd]
        refine zs rfl rfl rfl ?_
        refine zs rfl rfl rfl ?_
        refine zcl rfl rfl (c_refuse_0) ?_
        exact zret rfl rfl (cX_ref (c := 0) rfl Fr.rfl' hC hS)
    · rw [if_neg hc]
      refine zs rfl rfl rfl ?_
      refine zs rfl rfl rfl ?_
      refine zcl rfl rfl (c_refuse_6) ?_
      exact zret rfl rfl (cX_ref (c := 6) rfl Fr.rfl' hC hS)
  refine zs rfl rfl rfl ?_
  refine zbr rfl rfl rfl (fun hc => ?_) (fun hc => ?_)
  · rw [if_pos (Or.inl hc)]
    exact good (Or.inl hc)
  · refine zs rfl rfl rfl ?_
    refine zs rfl rfl rfl ?_
    refine zbr rfl rfl rfl (fun h8 => ?_) (fun h8 => ?_)
    · rw [if_pos (Or.inr (Or.inl h8))]
      exact good (Or.inr (Or.inl h8))
    · refine zs rfl rfl rfl ?_
      refine zs rfl rfl rfl ?_
      refine zbr rfl rfl rfl (fun h16 => ?_) (fun h16 => ?_)
      · rw [if_pos (Or.inr (Or.inr (Or.inl h16)))]
        exact good (Or.inr (Or.inr (Or.inl h16)))
      · refine zs rfl rfl rfl ?_
        refine zs rfl rfl rfl ?_
        refine zbr rfl rfl rfl (fun h64 => ?_) (fun h64 => ?_)
        · rw [if_pos (Or.inr (Or.inr (Or.inr h64)))]
          exact good (Or.inr (Or.inr (Or.inr h64)))
        · have hn : ¬ (b = 0 ∨ b = 8 ∨ b = 16 ∨ b = 64) := by
            rintro (q | q | q | q)
            · exact hc q
            · exact h8 q
            · exact h16 q
            · exact h64 q
          rw [if_neg hn]
          exact bad hn
theorem c_sheetAt_2 : zE1 X 102 [.ref 0, .int (nI 2)] M N (some (.ref 40)) M N := by
  refine zE1i [(0, .ref 0), (1, .int (nI 2))] rfl ?_
  refine zs rfl rfl rfl ?_
  refine zs rfl rfl rfl ?_
  refine zs rfl rfl rfl ?_
  refine zcl rfl rfl (c_isIn (nI 2) 0 3) ?_
  rw [show decide ((0 : Int32) ≤ nI 2 ∧ nI 2 ≤ 3) = true by decide]
  refine zs rfl rfl rfl ?_
  refine zs rfl rfl rfl ?_
  refine zs rfl rfl rfl ?_
  refine zs rfl rfl rfl ?_
  refine zs rfl rfl rfl ?_
  refine zs rfl rfl rfl ?_
  exact zret rfl rfl ⟨rfl, rfl, rfl⟩
theorem c_isMissing_2 {b : Int32} (hb : M 40 1 = b) : zE1 X 27 [.ref 40] M N (some (.int (bI (decide (b = 0))))) M N := by
  refine zE1i [(0, .ref 40)] rfl ?_
  refine zs rfl rfl rfl ?_
  refine zs rfl rfl rfl ?_
  refine zto rfl hb ?_
  refine zbr rfl rfl rfl (fun hc => ?_) (fun hc => ?_)
  · rw [decide_eq_false hc]
    refine zs rfl rfl rfl ?_
    exact zret rfl rfl ⟨rfl, rfl, rfl⟩
  · rw [decide_eq_true (Decidable.not_not.mp hc)]
    refine zs rfl rfl rfl ?_
    refine zs rfl rfl rfl ?_
    exact zret rfl rfl ⟨rfl, rfl, rfl⟩
theorem c_fillL_2 : zV X 229 [.ref 41, .long 0] M N (fun v M' N' => v = none ∧ M' = M ∧ (∀ b, b ≠ 41 → N' b = N b) ∧ ∀ i, i < 40 → N' 41 i = 0) := by
  refine zVi [(0, .ref 41), (1, .long 0), (2, .retAddr 0)] rfl ?_
  refine zs rfl rfl rfl ?_
  refine zs rfl rfl rfl ?_
  refine zs rfl rfl rfl ?_
  refine zs rfl rfl rfl ?_
  refine zs rfl rfl rfl ?_
  have loop : ∀ d i N1, i + d = 40 → (∀ b, b ≠ 41 → N1 b = N b) → (∀ k, k < i → N1 41 k = 0) → zW X 229 6 [(0, .ref 41), (1, .long 0), (2, .retAddr 0), (3, .int (nI i)), (4, .int 40)] [] M N1 (fun v M' N' => v = none ∧ M' = M ∧ (∀ b, b ≠ 41 → N' b = N b) ∧ ∀ i, i < 40 → N' 41 i = 0) := by
    intro d
    induction d with
    | zero =>
      intro i N1 hi hf h0
      obtain rfl : i = 40 := by omega
      refine zs rfl rfl rfl ?_
      refine zs rfl rfl rfl ?_
      refine zs rfl rfl rfl ?_
      exact zret rfl rfl ⟨rfl, rfl, hf, h0⟩
    | succ d ih =>
      intro i N1 hi hf h0
      refine zs rfl rfl rfl ?_
      refine zs rfl rfl rfl ?_
      refine zbf (nI_ge (b := 40) (by omega) (by omega)) rfl rfl rfl ?_
      refine zs rfl rfl rfl ?_
      refine zs rfl rfl rfl ?_
      refine zs rfl rfl rfl ?_
      refine zlas rfl rfl rfl rfl (by omega) (by decide) ?_
      refine zinc rfl rfl rfl ?_
      refine zs rfl rfl rfl ?_
      refine ih (i + 1) _ (by omega) (fun b hb => (z_upL_ne N1 _ _ hb).trans (hf b hb)) (fun k hk => ?_)
      rw [upL_a]
      by_cases e : k = i
      · rw [if_pos e]
      · rw [if_neg e]; exact h0 k (by omega)
  exact loop 40 0 N rfl (fun _ _ => rfl) (fun k hk => absurd hk (Nat.not_lt_zero k))
theorem c_lay_2 (b m : Int32) : zV X 28 [.ref 40, .int b, .int m] M N (fun v M' N' => v = none ∧ M' = z_up (z_up M 40 1 b) 40 2 m ∧ (∀ b, b ≠ 41 → N' b = N b) ∧ ∀ i, i < 40 → N' 41 i = 0) := by
  refine zVi [(0, .ref 40), (1, .int b), (2, .int m)] rfl ?_
  refine zs rfl rfl rfl ?_
  refine zs rfl rfl rfl ?_
  refine zs rfl rfl rfl ?_
  refine zclQ rfl rfl (c_fillL_2) ?_
  rintro v M' N' ⟨rfl, rfl, h1, h2⟩
  refine zs rfl rfl rfl ?_
  refine zs rfl rfl rfl ?_
  refine zs rfl rfl rfl ?_
  refine zs rfl rfl rfl ?_
  refine zs rfl rfl rfl ?_
  refine zs rfl rfl rfl ?_
  exact zret rfl rfl ⟨rfl, rfl, h1, h2⟩
theorem c_putS_2 {i : Nat} (hi : i < 40) {b : Int32} (hb : M 40 1 = b) (v : Int64) : zE1 X 29 [.ref 40, .int (nI i), .long v] M N none M (z_upL N 41 i (nar b v)) := by
  refine zE1i [(0, .ref 40), (1, .int (nI i)), (2, .long v), (3, .retAddr 0)] rfl ?_
  unfold nar
  refine zs rfl rfl rfl ?_
  refine zs rfl rfl rfl ?_
  refine zto rfl hb ?_
  refine zs rfl rfl rfl ?_
  refine zbr rfl rfl rfl (fun hc => ?_) (fun hc => ?_)
  · rw [if_neg hc]
    refine zs rfl rfl rfl ?_
    refine zs rfl rfl rfl ?_
    refine zto rfl hb ?_
    refine zs rfl rfl rfl ?_
    refine zbr rfl rfl rfl (fun hd => ?_) (fun hd => ?_)
    · rw [if_neg hd]
      refine zs rfl rfl rfl ?_
      refine zs rfl rfl rfl ?_
      refine zs rfl rfl rfl ?_
      refine zs rfl rfl rfl ?_
      refine zlas rfl rfl rfl rfl (by omega) (by decide) ?_
      exact zret rfl rfl ⟨rfl, rfl, rfl⟩
    · rw [if_pos (Decidable.not_not.mp hd)]
      refine zs rfl rfl rfl ?_
      refine zs rfl rfl rfl ?_
      refine zs rfl rfl rfl ?_
      refine zs rfl rfl rfl ?_
      refine zs rfl rfl rfl ?_
      refine zs rfl rfl rfl ?_
      refine zs rfl rfl rfl ?_
      refine zlas rfl rfl rfl rfl (by omega) (by decide) ?_
      refine zs rfl rfl rfl ?_
      exact zret rfl rfl ⟨rfl, rfl, rfl⟩
  · rw [if_pos (Decidable.not_not.mp hc)]
    refine zs rfl rfl rfl ?_
    refine zs rfl rfl rfl ?_
    refine zs rfl rfl rfl ?_
    refine zs rfl rfl rfl ?_
    refine zs rfl rfl rfl ?_
    refine zs rfl rfl rfl ?_
    refine zs rfl rfl rfl ?_
    refine zlas rfl rfl rfl rfl (by omega) (by decide) ?_
    refine zs rfl rfl rfl ?_
    exact zret rfl rfl ⟨rfl, rfl, rfl⟩
theorem c_hasRow_2 {l : Nat} (hl : M 40 2 = nI l) (f m : Int32) : zE1 X 30 [.ref 40, .int f, .int m] M N (some (.int (bI (decide (0 ≤ f ∧ 0 ≤ m ∧ m ≤ nI l ∧ f ≤ nI l - m))))) M N := by
  refine zE1i [(0, .ref 40), (1, .int f), (2, .int m)] rfl ?_
  refine zs rfl rfl rfl ?_
  refine zbr rfl rfl rfl (fun hc => ?_) (fun hc => ?_)
  · rw [decide_eq_false (fun q => i_nlt.mpr q.1 hc)]
    refine zs rfl rfl rfl ?_
    exact zret rfl rfl ⟨rfl, rfl, rfl⟩
  · refine zs rfl rfl rfl ?_
    refine zbr rfl rfl rfl (fun h2 => ?_) (fun h2 => ?_)
    · rw [decide_eq_false (fun q => i_nlt.mpr q.2.1 h2)]
      refine zs rfl rfl rfl ?_
      exact zret rfl rfl ⟨rfl, rfl, rfl⟩
    · refine zs rfl rfl rfl ?_
      refine zs rfl rfl rfl ?_
      refine zs rfl rfl rfl ?_
      refine zto rfl hl ?_
      refine zbr rfl rfl rfl (fun h3 => ?_) (fun h3 => ?_)
      · rw [decide_eq_false (fun q => i_nlt.mpr q.2.2.1 h3)]
        refine zs rfl rfl rfl ?_
        exact zret rfl rfl ⟨rfl, rfl, rfl⟩
      · refine zs rfl rfl rfl ?_
        refine zs rfl rfl rfl ?_
        refine zs rfl rfl rfl ?_
        refine zto rfl hl ?_
        refine zs rfl rfl rfl ?_
        refine zs rfl rfl rfl ?_
        refine zbr rfl rfl rfl (fun h4 => ?_) (fun h4 => ?_)
        · rw [decide_eq_false (fun q => i_nlt.mpr q.2.2.2 h4)]
          refine zs rfl rfl rfl ?_
          exact zret rfl rfl ⟨rfl, rfl, rfl⟩
        · rw [decide_eq_true ⟨i_nlt.mp hc, i_nlt.mp h2, i_nlt.mp h3, i_nlt.mp h4⟩]
          refine zs rfl rfl rfl ?_
          refine zs rfl rfl rfl ?_
          exact zret rfl rfl ⟨rfl, rfl, rfl⟩
theorem c_sheet_2 (hC : cC M S F) (hS : cS M N B) (b m : Int32) : zV X 89 [.ref 0, .int (nI 2), .int b, .int m] M N (cX M N (r_sheet S F B (nI 2) b m)) := by
  refine zVi [(0, .ref 0), (1, .int (nI 2)), (2, .int b), (3, .int m)] rfl ?_
  unfold r_sheet
  rw [if_pos (by decide), nI_clamp (by decide)]
  refine zs rfl rfl rfl ?_
  refine zs rfl rfl rfl ?_
  refine zcl rfl rfl (c_sheetAt_2) ?_
  refine zs rfl rfl rfl ?_
  refine zs rfl rfl rfl ?_
  refine zs rfl rfl rfl ?_
  have bad : ¬ (b = 0 ∨ b = 8 ∨ b = 16 ∨ b = 64) → zW X 89 34 [(0, .ref 0), (1, .int (nI 2)), (2, .int b), (3, .int m), (4, .ref 40)] [] M N (cX M N (rfB S F B 0)) := by
    intro h
    refine zs rfl rfl rfl ?_
    refine zs rfl rfl rfl ?_
    refine zcl rfl rfl (c_refuse_0) ?_
    exact zret rfl rfl (cX_ref (c := 0) rfl Fr.rfl' hC hS)
  have good : (b = 0 ∨ b = 8 ∨ b = 16 ∨ b = 64) → zW X 89 41 [(0, .ref 0), (1, .int (nI 2)), (2, .int b), (3, .int m), (4, .ref 40)] [] M N (cX M N (if 0 ≤ m then (if m ≤ 40 then (if b = 0 then (0, S, F, up' B.1 2 0, up' B.2.1 2 0, up' B.2.2 2 (fun _ => 0)) else (m, S, F, up' B.1 2 b, up' B.2.1 2 m.toNatClampNeg, up' B.2.2 2 (fun _ => 0))) else rfB S F B 0) else rfB S F B 6)) := by
    intro h
    have fin : ∀ (b m' : Int32) (k : Nat), m' = nI k → zW X 89 77 [(0, .ref 0), (1, .int (nI 2)), (2, .int b), (3, .int m), (4, .ref 40)] [.int m', .int b, .ref 40] M N (cX M N (m', S, F, up' B.1 2 b, up' B.2.1 2 k, up' B.2.2 2 (fun _ => 0))) := by
      intro b m' k hk
      refine zclQ rfl rfl (c_lay_2 b m') ?_
      rintro v M' N' ⟨rfl, rfl, h1, h2⟩
      refine zs rfl rfl rfl ?_
      refine zs rfl rfl rfl ?_
      refine zret rfl rfl ⟨rfl, (Fr.up (by decide)).trans (Fr.up (by decide)), hC.1.fr ((Fr.up (l := [40]) (by decide)).trans (Fr.up (by decide))) (by decide), hC.hF ((Fr.up (l := [40]) (by decide)).trans (Fr.up (by decide))) (by decide), ?_, h1 54 (by decide)⟩
      intro t ht
      dsimp only
      by_cases e : t = 2
      · subst e
        rw [up'_s, up'_s, up'_s]
        exact ⟨rfl, hk, h2⟩
      · rw [up'_n _ _ e, up'_n _ _ e, up'_n _ _ e]
        rw [z_up_ne _ _ _ (by omega), z_up_ne _ _ _ (by omega), h1 _ (by omega)]
        exact hS t ht
    refine zs rfl rfl rfl ?_
    refine zbr rfl rfl rfl (fun hc => ?_) (fun hc => ?_)
    · rw [if_pos hc]
      refine zs rfl rfl rfl ?_
      refine zs rfl rfl rfl ?_
      refine zbr rfl rfl rfl (fun hd => ?_) (fun hd => ?_)
      · rw [if_pos hd]
        refine zs rfl rfl rfl ?_
        refine zs rfl rfl rfl ?_
        refine zs rfl rfl rfl ?_
        refine zbr rfl rfl rfl (fun he => ?_) (fun he => ?_)
        · rw [if_neg he]
          obtain ⟨a, ha, rfl⟩ := nI_of (i_nlt.mpr hc)
          rw [nI_clamp ha]
          refine zs rfl rfl rfl ?_
          exact fin b (nI a) a rfl
        · have e0 := Decidable.not_not.mp he
          rw [if_pos e0]
          subst e0
          refine zs rfl rfl rfl ?_
          refine zs rfl rfl rfl ?_
          exact fin 0 0 0 rfl
      · rw [if_neg hd]
        refine zs rfl rfl rfl ?_
        refine zs rfl rfl rfl ?_
        refine zcl rfl rfl (c_refuse_0) ?_
        exact zret rfl rfl (cX_ref (c := 0) rfl Fr.rfl' hC hS)
    · rw [if_neg hc]
      refine zs rfl rfl rfl ?_
      refine zs rfl rfl rfl ?_
      refine zcl rfl rfl (c_refuse_6) ?_
      exact zret rfl rfl (cX_ref (c := 6) rfl Fr.rfl' hC hS)
  refine zs rfl rfl rfl ?_
  refine zbr rfl rfl rfl (fun hc => ?_) (fun hc => ?_)
  · rw [if_pos (Or.inl hc)]
    exact good (Or.inl hc)
  · refine zs rfl rfl rfl ?_
    refine zs rfl rfl rfl ?_
    refine zbr rfl rfl rfl (fun h8 => ?_) (fun h8 => ?_)
    · rw [if_pos (Or.inr (Or.inl h8))]
      exact good (Or.inr (Or.inl h8))
    · refine zs rfl rfl rfl ?_
      refine zs rfl rfl rfl ?_
      refine zbr rfl rfl rfl (fun h16 => ?_) (fun h16 => ?_)
      · rw [if_pos (Or.inr (Or.inr (Or.inl h16)))]
        exact good (Or.inr (Or.inr (Or.inl h16)))
      · refine zs rfl rfl rfl ?_
        refine zs rfl rfl rfl ?_
        refine zbr rfl rfl rfl (fun h64 => ?_) (fun h64 => ?_)
        · rw [if_pos (Or.inr (Or.inr (Or.inr h64)))]
          exact good (Or.inr (Or.inr (Or.inr h64)))
        · have hn : ¬ (b = 0 ∨ b = 8 ∨ b = 16 ∨ b = 64) := by
            rintro (q | q | q | q)
            · exact hc q
            · exact h8 q
            · exact h16 q
            · exact h64 q
          rw [if_neg hn]
          exact bad hn
theorem c_sheetAt_3 : zE1 X 102 [.ref 0, .int (nI 3)] M N (some (.ref 42)) M N := by
  refine zE1i [(0, .ref 0), (1, .int (nI 3))] rfl ?_
  refine zs rfl rfl rfl ?_
  refine zs rfl rfl rfl ?_
  refine zs rfl rfl rfl ?_
  refine zcl rfl rfl (c_isIn (nI 3) 0 3) ?_
  rw [show decide ((0 : Int32) ≤ nI 3 ∧ nI 3 ≤ 3) = true by decide]
  refine zs rfl rfl rfl ?_
  refine zs rfl rfl rfl ?_
  refine zs rfl rfl rfl ?_
  refine zs rfl rfl rfl ?_
  refine zs rfl rfl rfl ?_
  refine zs rfl rfl rfl ?_
  exact zret rfl rfl ⟨rfl, rfl, rfl⟩
theorem c_isMissing_3 {b : Int32} (hb : M 42 1 = b) : zE1 X 27 [.ref 42] M N (some (.int (bI (decide (b = 0))))) M N := by
  refine zE1i [(0, .ref 42)] rfl ?_
  refine zs rfl rfl rfl ?_
  refine zs rfl rfl rfl ?_
  refine zto rfl hb ?_
  refine zbr rfl rfl rfl (fun hc => ?_) (fun hc => ?_)
  · rw [decide_eq_false hc]
    refine zs rfl rfl rfl ?_
    exact zret rfl rfl ⟨rfl, rfl, rfl⟩
  · rw [decide_eq_true (Decidable.not_not.mp hc)]
    refine zs rfl rfl rfl ?_
    refine zs rfl rfl rfl ?_
    exact zret rfl rfl ⟨rfl, rfl, rfl⟩
theorem c_fillL_3 : zV X 229 [.ref 43, .long 0] M N (fun v M' N' => v = none ∧ M' = M ∧ (∀ b, b ≠ 43 → N' b = N b) ∧ ∀ i, i < 40 → N' 43 i = 0) := by
  refine zVi [(0, .ref 43), (1, .long 0), (2, .retAddr 0)] rfl ?_
  refine zs rfl rfl rfl ?_
  refine zs rfl rfl rfl ?_
  refine zs rfl rfl rfl ?_
  refine zs rfl rfl rfl ?_
  refine zs rfl rfl rfl ?_
  have loop : ∀ d i N1, i + d = 40 → (∀ b, b ≠ 43 → N1 b = N b) → (∀ k, k < i → N1 43 k = 0) → zW X 229 6 [(0, .ref 43), (1, .long 0), (2, .retAddr 0), (3, .int (nI i)), (4, .int 40)] [] M N1 (fun v M' N' => v = none ∧ M' = M ∧ (∀ b, b ≠ 43 → N' b = N b) ∧ ∀ i, i < 40 → N' 43 i = 0) := by
    intro d
    induction d with
    | zero =>
      intro i N1 hi hf h0
      obtain rfl : i = 40 := by omega
      refine zs rfl rfl rfl ?_
      refine zs rfl rfl rfl ?_
      refine zs rfl rfl rfl ?_
      exact zret rfl rfl ⟨rfl, rfl, hf, h0⟩
    | succ d ih =>
      intro i N1 hi hf h0
      refine zs rfl rfl rfl ?_
      refine zs rfl rfl rfl ?_
      refine zbf (nI_ge (b := 40) (by omega) (by omega)) rfl rfl rfl ?_
      refine zs rfl rfl rfl ?_
      refine zs rfl rfl rfl ?_
      refine zs rfl rfl rfl ?_
      refine zlas rfl rfl rfl rfl (by omega) (by decide) ?_
      refine zinc rfl rfl rfl ?_
      refine zs rfl rfl rfl ?_
      refine ih (i + 1) _ (by omega) (fun b hb => (z_upL_ne N1 _ _ hb).trans (hf b hb)) (fun k hk => ?_)
      rw [upL_a]
      by_cases e : k = i
      · rw [if_pos e]
      · rw [if_neg e]; exact h0 k (by omega)
  exact loop 40 0 N rfl (fun _ _ => rfl) (fun k hk => absurd hk (Nat.not_lt_zero k))
theorem c_lay_3 (b m : Int32) : zV X 28 [.ref 42, .int b, .int m] M N (fun v M' N' => v = none ∧ M' = z_up (z_up M 42 1 b) 42 2 m ∧ (∀ b, b ≠ 43 → N' b = N b) ∧ ∀ i, i < 40 → N' 43 i = 0) := by
  refine zVi [(0, .ref 42), (1, .int b), (2, .int m)] rfl ?_
  refine zs rfl rfl rfl ?_
  refine zs rfl rfl rfl ?_
  refine zs rfl rfl rfl ?_
  refine zclQ rfl rfl (c_fillL_3) ?_
  rintro v M' N' ⟨rfl, rfl, h1, h2⟩
  refine zs rfl rfl rfl ?_
  refine zs rfl rfl rfl ?_
  refine zs rfl rfl rfl ?_
  refine zs rfl rfl rfl ?_
  refine zs rfl rfl rfl ?_
  refine zs rfl rfl rfl ?_
  exact zret rfl rfl ⟨rfl, rfl, h1, h2⟩
theorem c_putS_3 {i : Nat} (hi : i < 40) {b : Int32} (hb : M 42 1 = b) (v : Int64) : zE1 X 29 [.ref 42, .int (nI i), .long v] M N none M (z_upL N 43 i (nar b v)) := by
  refine zE1i [(0, .ref 42), (1, .int (nI i)), (2, .long v), (3, .retAddr 0)] rfl ?_
  unfold nar
  refine zs rfl rfl rfl ?_
  refine zs rfl rfl rfl ?_
  refine zto rfl hb ?_
  refine zs rfl rfl rfl ?_
  refine zbr rfl rfl rfl (fun hc => ?_) (fun hc => ?_)
  · rw [if_neg hc]
    refine zs rfl rfl rfl ?_
    refine zs rfl rfl rfl ?_
    refine zto rfl hb ?_
    refine zs rfl rfl rfl ?_
    refine zbr rfl rfl rfl (fun hd => ?_) (fun hd => ?_)
    · rw [if_neg hd]
      refine zs rfl rfl rfl ?_
      refine zs rfl rfl rfl ?_
      refine zs rfl rfl rfl ?_
      refine zs rfl rfl rfl ?_
      refine zlas rfl rfl rfl rfl (by omega) (by decide) ?_
      exact zret rfl rfl ⟨rfl, rfl, rfl⟩
    · rw [if_pos (Decidable.not_not.mp hd)]
      refine zs rfl rfl rfl ?_
      refine zs rfl rfl rfl ?_
      refine zs rfl rfl rfl ?_
      refine zs rfl rfl rfl ?_
      refine zs rfl rfl rfl ?_
      refine zs rfl rfl rfl ?_
      refine zs rfl rfl rfl ?_
      refine zlas rfl rfl rfl rfl (by omega) (by decide) ?_
      refine zs rfl rfl rfl ?_
      exact zret rfl rfl ⟨rfl, rfl, rfl⟩
  · rw [if_pos (Decidable.not_not.mp hc)]
    refine zs rfl rfl rfl ?_
    refine zs rfl rfl rfl ?_
    refine zs rfl rfl rfl ?_
    refine zs rfl rfl rfl ?_
    refine zs rfl rfl rfl ?_
    refine zs rfl rfl rfl ?_
    refine zs rfl rfl rfl ?_
    refine zlas rfl rfl rfl rfl (by omega) (by decide) ?_
    refine zs rfl rfl rfl ?_
    exact zret rfl rfl ⟨rfl, rfl, rfl⟩
theorem c_hasRow_3 {l : Nat} (hl : M 42 2 = nI l) (f m : Int32) : zE1 X 30 [.ref 42, .int f, .int m] M N (some (.int (bI (decide (0 ≤ f ∧ 0 ≤ m ∧ m ≤ nI l ∧ f ≤ nI l - m))))) M N := by
  refine zE1i [(0, .ref 42), (1, .int f), (2, .int m)] rfl ?_
  refine zs rfl rfl rfl ?_
  refine zbr rfl rfl rfl (fun hc => ?_) (fun hc => ?_)
  · rw [decide_eq_false (fun q => i_nlt.mpr q.1 hc)]
    refine zs rfl rfl rfl ?_
    exact zret rfl rfl ⟨rfl, rfl, rfl⟩
  · refine zs rfl rfl rfl ?_
    refine zbr rfl rfl rfl (fun h2 => ?_) (fun h2 => ?_)
    · rw [decide_eq_false (fun q => i_nlt.mpr q.2.1 h2)]
      refine zs rfl rfl rfl ?_
      exact zret rfl rfl ⟨rfl, rfl, rfl⟩
    · refine zs rfl rfl rfl ?_
      refine zs rfl rfl rfl ?_
      refine zs rfl rfl rfl ?_
      refine zto rfl hl ?_
      refine zbr rfl rfl rfl (fun h3 => ?_) (fun h3 => ?_)
      · rw [decide_eq_false (fun q => i_nlt.mpr q.2.2.1 h3)]
        refine zs rfl rfl rfl ?_
        exact zret rfl rfl ⟨rfl, rfl, rfl⟩
      · refine zs rfl rfl rfl ?_
        refine zs rfl rfl rfl ?_
        refine zs rfl rfl rfl ?_
        refine zto rfl hl ?_
        refine zs rfl rfl rfl ?_
        refine zs rfl rfl rfl ?_
        refine zbr rfl rfl rfl (fun h4 => ?_) (fun h4 => ?_)
        · rw [decide_eq_false (fun q => i_nlt.mpr q.2.2.2 h4)]
          refine zs rfl rfl rfl ?_
          exact zret rfl rfl ⟨rfl, rfl, rfl⟩
        · rw [decide_eq_true ⟨i_nlt.mp hc, i_nlt.mp h2, i_nlt.mp h3, i_nlt.mp h4⟩]
          refine zs rfl rfl rfl ?_
          refine zs rfl rfl rfl ?_
          exact zret rfl rfl ⟨rfl, rfl, rfl⟩
theorem c_sheet_3 (hC : cC M S F) (hS : cS M N B) (b m : Int32) : zV X 89 [.ref 0, .int (nI 3), .int b, .int m] M N (cX M N (r_sheet S F B (nI 3) b m)) := by
  refine zVi [(0, .ref 0), (1, .int (nI 3)), (2, .int b), (3, .int m)] rfl ?_
  unfold r_sheet
  rw [if_pos (by decide), nI_clamp (by decide)]
  refine zs rfl rfl rfl ?_
  refine zs rfl rfl rfl ?_
  refine zcl rfl rfl (c_sheetAt_3) ?_
  refine zs rfl rfl rfl ?_
  refine zs rfl rfl rfl ?_
  refine zs rfl rfl rfl ?_
  have bad : ¬ (b = 0 ∨ b = 8 ∨ b = 16 ∨ b = 64) → zW X 89 34 [(0, .ref 0), (1, .int (nI 3)), (2, .int b), (3, .int m), (4, .ref 42)] [] M N (cX M N (rfB S F B 0)) := by
    intro h
    refine zs rfl rfl rfl ?_
    refine zs rfl rfl rfl ?_
    refine zcl rfl rfl (c_refuse_0) ?_
    exact zret rfl rfl (cX_ref (c := 0) rfl Fr.rfl' hC hS)
  have good : (b = 0 ∨ b = 8 ∨ b = 16 ∨ b = 64) → zW X 89 41 [(0, .ref 0), (1, .int (nI 3)), (2, .int b), (3, .int m), (4, .ref 42)] [] M N (cX M N (if 0 ≤ m then (if m ≤ 40 then (if b = 0 then (0, S, F, up' B.1 3 0, up' B.2.1 3 0, up' B.2.2 3 (fun _ => 0)) else (m, S, F, up' B.1 3 b, up' B.2.1 3 m.toNatClampNeg, up' B.2.2 3 (fun _ => 0))) else rfB S F B 0) else rfB S F B 6)) := by
    intro h
    have fin : ∀ (b m' : Int32) (k : Nat), m' = nI k → zW X 89 77 [(0, .ref 0), (1, .int (nI 3)), (2, .int b), (3, .int m), (4, .ref 42)] [.int m', .int b, .ref 42] M N (cX M N (m', S, F, up' B.1 3 b, up' B.2.1 3 k, up' B.2.2 3 (fun _ => 0))) := by
      intro b m' k hk
      refine zclQ rfl rfl (c_lay_3 b m') ?_
      rintro v M' N' ⟨rfl, rfl, h1, h2⟩
      refine zs rfl rfl rfl ?_
      refine zs rfl rfl rfl ?_
      refine zret rfl rfl ⟨rfl, (Fr.up (by decide)).trans (Fr.up (by decide)), hC.1.fr ((Fr.up (l := [42]) (by decide)).trans (Fr.up (by decide))) (by decide), hC.hF ((Fr.up (l := [42]) (by decide)).trans (Fr.up (by decide))) (by decide), ?_, h1 54 (by decide)⟩
      intro t ht
      dsimp only
      by_cases e : t = 3
      · subst e
        rw [up'_s, up'_s, up'_s]
        exact ⟨rfl, hk, h2⟩
      · rw [up'_n _ _ e, up'_n _ _ e, up'_n _ _ e]
        rw [z_up_ne _ _ _ (by omega), z_up_ne _ _ _ (by omega), h1 _ (by omega)]
        exact hS t ht
    refine zs rfl rfl rfl ?_
    refine zbr rfl rfl rfl (fun hc => ?_) (fun hc => ?_)
    · rw [if_pos hc]
      refine zs rfl rfl rfl ?_
      refine zs rfl rfl rfl ?_
      refine zbr rfl rfl rfl (fun hd => ?_) (fun hd => ?_)
      · rw [if_pos hd]
        refine zs rfl rfl rfl ?_
        refine zs rfl rfl rfl ?_
        refine zs rfl rfl rfl ?_
        refine zbr rfl rfl rfl (fun he => ?_) (fun he => ?_)
        · rw [if_neg he]
          obtain ⟨a, ha, rfl⟩ := nI_of (i_nlt.mpr hc)
          rw [nI_clamp ha]
          refine zs rfl rfl rfl ?_
          exact fin b (nI a) a rfl
        · have e0 := Decidable.not_not.mp he
          rw [if_pos e0]
          subst e0
          refine zs rfl rfl rfl ?_
          refine zs rfl rfl rfl ?_
          exact fin 0 0 0 rfl
      · rw [if_neg hd]
        refine zs rfl rfl rfl ?_
        refine zs rfl rfl rfl ?_
        refine zcl rfl rfl (c_refuse_0) ?_
        exact zret rfl rfl (cX_ref (c := 0) rfl Fr.rfl' hC hS)
    · rw [if_neg hc]
      refine zs rfl rfl rfl ?_
      refine zs rfl rfl rfl ?_
      refine zcl rfl rfl (c_refuse_6) ?_
      exact zret rfl rfl (cX_ref (c := 6) rfl Fr.rfl' hC hS)
  refine zs rfl rfl rfl ?_
  refine zbr rfl rfl rfl (fun hc => ?_) (fun hc => ?_)
  · rw [if_pos (Or.inl hc)]
    exact good (Or.inl hc)
  · refine zs rfl rfl rfl ?_
    refine zs rfl rfl rfl ?_
    refine zbr rfl rfl rfl (fun h8 => ?_) (fun h8 => ?_)
    · rw [if_pos (Or.inr (Or.inl h8))]
      exact good (Or.inr (Or.inl h8))
    · refine zs rfl rfl rfl ?_
      refine zs rfl rfl rfl ?_
      refine zbr rfl rfl rfl (fun h16 => ?_) (fun h16 => ?_)
      · rw [if_pos (Or.inr (Or.inr (Or.inl h16)))]
        exact good (Or.inr (Or.inr (Or.inl h16)))
      · refine zs rfl rfl rfl ?_
        refine zs rfl rfl rfl ?_
        refine zbr rfl rfl rfl (fun h64 => ?_) (fun h64 => ?_)
        · rw [if_pos (Or.inr (Or.inr (Or.inr h64)))]
          exact good (Or.inr (Or.inr (Or.inr h64)))
        · have hn : ¬ (b = 0 ∨ b = 8 ∨ b = 16 ∨ b = 64) := by
            rintro (q | q | q | q)
            · exact hc q
            · exact h8 q
            · exact h16 q
            · exact h64 q
          rw [if_neg hn]
          exact bad hn
theorem c_sheet (hC : cC M S F) (hS : cS M N B) (s b m : Int32) : zV X 89 [.ref 0, .int s, .int b, .int m] M N (cX M N (r_sheet S F B s b m)) := by
  by_cases h : 0 ≤ s ∧ s ≤ 3
  · rcases r4 h with rfl | rfl | rfl | rfl
    · exact c_sheet_0 hC hS b m
    · exact c_sheet_1 hC hS b m
    · exact c_sheet_2 hC hS b m
    · exact c_sheet_3 hC hS b m
  · unfold r_sheet
    rw [if_neg h]
    refine zVi [(0, .ref 0), (1, .int s), (2, .int b), (3, .int m)] rfl ?_
    refine zs rfl rfl rfl ?_
    refine zs rfl rfl rfl ?_
    refine zcl rfl rfl (c_sheetAt_no h) ?_
    refine zs rfl rfl rfl ?_
    refine zs rfl rfl rfl ?_
    refine zs rfl rfl rfl ?_
    refine zs rfl rfl rfl ?_
    refine zs rfl rfl rfl ?_
    refine zcl rfl rfl (c_refuse_0) ?_
    exact zret rfl rfl (cX_ref (c := 0) rfl Fr.rfl' hC hS)
end CSHT
