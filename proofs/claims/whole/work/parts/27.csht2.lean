/-! More of the class's sheets. -/
def r_write (F : zS) (B : zB) (s i : Int32) (v : Int64) : Int64 × zS × zB :=
  if 0 ≤ s ∧ s ≤ 3 then (if B.1 s.toNatClampNeg = 0 then ((fd 5).toInt64, bump F 5, B) else if 0 ≤ i ∧ i ≤ nI (B.2.1 s.toNatClampNeg) - 1 then (B.2.2 s.toNatClampNeg i.toNatClampNeg, F, B.1, B.2.1, up' B.2.2 s.toNatClampNeg (up' (B.2.2 s.toNatClampNeg) i.toNatClampNeg (nar (B.1 s.toNatClampNeg) v))) else ((fd 0).toInt64, bump F 0, B)) else ((fd 0).toInt64, bump F 0, B)
def cXL (M : zM) (N : zN) (S : zS) (r : Int64 × zS × zB) : Option Value → zM → zN → Prop := cW M N (.long r.1) S r.2.1 r.2.2
abbrev hrw (l : Nat) (f m : Int32) : Prop := 0 ≤ f ∧ 0 ≤ m ∧ m ≤ nI l ∧ f ≤ nI l - m
def r_copy (S F : zS) (B : zB) (s f t g m : Int32) : zRB :=
  if 0 ≤ s ∧ s ≤ 3 then (if 0 ≤ t ∧ t ≤ 3 then (if B.1 s.toNatClampNeg = 0 then rfB S F B 5 else if B.1 t.toNatClampNeg = 0 then rfB S F B 5 else if B.1 s.toNatClampNeg = B.1 t.toNatClampNeg then (if hrw (B.2.1 s.toNatClampNeg) f m then (if hrw (B.2.1 t.toNatClampNeg) g m then (m, S, F, B.1, B.2.1, up' B.2.2 t.toNatClampNeg (va_cpy (B.2.2 s.toNatClampNeg) (B.2.2 t.toNatClampNeg) f.toNatClampNeg g.toNatClampNeg m.toNatClampNeg)) else rfB S F B 0) else rfB S F B 0) else rfB S F B 2) else rfB S F B 0) else rfB S F B 0
def lys (f : Nat → Int64) (S : zS) : Nat → zS
  | 0 => S
  | i + 1 => if 0 ≤ f i ∧ f i ≤ 99 then upo (lys f S i) i (f i).toInt32 else lys f S i
def lyc (f : Nat → Int64) : Nat → Nat := fun i => cnt i (fun k => decide (0 ≤ f k ∧ f k ≤ 99))
def r_lays (S F : zS) (B : zB) (s : Int32) : zRB :=
  if 0 ≤ s ∧ s ≤ 3 then (if B.1 s.toNatClampNeg = 0 then rfB S F B 5 else (nI (lyc (B.2.2 s.toNatClampNeg) (min 13 (B.2.1 s.toNatClampNeg))), lys (B.2.2 s.toNatClampNeg) S (min 13 (B.2.1 s.toNatClampNeg)), F, B)) else rfB S F B 0
def dwn (b : Int32) (S : zS) (f : Nat → Int64) : Nat → Nat → Int64
  | 0 => f
  | i + 1 => up' (dwn b S f i) i (nar b (lk S i).toInt64)
def r_dawn (S F : zS) (n : Nat) (B : zB) (s : Int32) : zRB :=
  if 0 ≤ s ∧ s ≤ 3 then (if B.1 s.toNatClampNeg = 0 then rfB S F B 5 else (nI (min n (B.2.1 s.toNatClampNeg)), S, F, B.1, B.2.1, up' B.2.2 s.toNatClampNeg (dwn (B.1 s.toNatClampNeg) S (B.2.2 s.toNatClampNeg) (min n (B.2.1 s.toNatClampNeg))))) else rfB S F B 0
/-- the sheet's first numbers are on what they hang, from i on d of them -/
def tll (f : Nat → Int64) (T : zS) : Nat → Nat → Bool
  | 0, _ => true
  | d + 1, i => cond (decide (f i = (lk T i).toInt64)) (tll f T d (i + 1)) false
def rdp (S : zS) (n : Nat) (f : Nat → Int64) (l w : Nat) : Bool := tll f (stl S n (nI w)) (min n l) 0
def r_fstB (S F : zS) (B : zB) (x : Int32) : zRB := if x = -1 then rfB S F B 3 else (x, S, F, B)
def r_read (S F : zS) (n : Nat) (B : zB) (s : Int32) : zRB :=
  if 0 ≤ s ∧ s ≤ 3 then (if B.1 s.toNatClampNeg = 0 then rfB S F B 5 else r_fstB S F B (fst1 (rdp S n (B.2.2 s.toNatClampNeg) (B.2.1 s.toNatClampNeg)) 13 0)) else rfB S F B 0
section CSHT2
variable {X : Nat × (Nat → Int32)} {M M2 : zM} {N N2 : zN} {S F : zS} {B : zB} {n : Nat}
theorem cW_ref {c : Nat} (hf : Fr sC M M2) (hC : cC M2 S F) (hS : cS M2 N B) (a : Value) : cW M N a S (bump F c) B (some a) (z_up M2 35 c (M2 35 c + 1)) N := by
  have h := cP_ref (M := M2) (N := N) (c := c) (r := rf S F c) rfl Fr.rfl' hC
  exact ⟨rfl, hf.trans (Fr.up (by decide)), h.2.2.2.1, h.2.2.2.2, hS.fr (Fr.up (l := [35]) (by decide)) (by decide), rfl⟩
theorem cX_ok {a : Int32} {r : zRB} {S' : zS} {B' : zB} (hr : r = (a, S', F, B')) (hf : Fr sC M M2) (hC : cC M2 S' F) (hS : cS M2 N2 B') (hN : N2 54 = N 54 := by rfl) : cX M N r (some (.int a)) M2 N2 := by
  subst hr
  exact ⟨rfl, hf, hC.1, hC.2, hS, hN⟩
theorem frsC (h : Fr sL M M2) : Fr sC M M2 := h.mono (by decide)
theorem cS.up {t : Nat} (ht : t < 4) (h : cS M N B) {f : Nat → Int64} (h1 : ∀ b, b ≠ 37 + 2 * t → N2 b = N b) (h2 : ∀ i, i < 40 → N2 (37 + 2 * t) i = f i) : cS M N2 (B.1, B.2.1, up' B.2.2 t f) := fun u hu => by
  dsimp only
  by_cases e : u = t
  · subst e
    rw [up'_s]
    exact ⟨(h u hu).1, (h u hu).2.1, h2⟩
  · rw [up'_n _ _ e, h1 _ (by omega)]
    exact h u hu
theorem c_write_0 (hC : cC M S F) (hS : cS M N B) (hB : Sok B) (i : Int32) (v : Int64) : zV X 90 [.ref 0, .int (nI 0), .int i, .long v] M N (cXL M N S (r_write F B (nI 0) i v)) := by
  refine zVi [(0, .ref 0), (1, .int (nI 0)), (2, .int i), (3, .long v), (4, .retAddr 0)] rfl ?_
  unfold r_write
  have hS0 := hS 0 (by decide)
  have hB0 := (hB 0 (by decide)).1
  rw [if_pos (by decide), nI_clamp (by decide)]
  refine zs rfl rfl rfl ?_
  refine zs rfl rfl rfl ?_
  refine zcl rfl rfl (c_sheetAt_0) ?_
  refine zs rfl rfl rfl ?_
  refine zs rfl rfl rfl ?_
  refine zs rfl rfl rfl ?_
  refine zs rfl rfl rfl ?_
  refine zcl rfl rfl (c_isMissing_0 hS0.1) ?_
  by_cases h : B.1 0 = 0
  · rw [decide_eq_true h, if_pos h]
    refine zs rfl rfl rfl ?_
    refine zs rfl rfl rfl ?_
    refine zs rfl rfl rfl ?_
    refine zcl rfl rfl (c_refuse_5) ?_
    refine zs rfl rfl rfl ?_
    exact zret rfl rfl (cW_ref (c := 5) Fr.rfl' hC hS _)
  · rw [decide_eq_false h, if_neg h]
    refine zs rfl rfl rfl ?_
    refine zs rfl rfl rfl ?_
    refine zs rfl rfl rfl ?_
    refine zs rfl rfl rfl ?_
    refine zs rfl rfl rfl ?_
    refine zto rfl hS0.2.1 ?_
    refine zs rfl rfl rfl ?_
    refine zs rfl rfl rfl ?_
    refine zcl rfl rfl (c_isIn i 0 (nI (B.2.1 0) - 1)) ?_
    by_cases h2 : 0 ≤ i ∧ i ≤ nI (B.2.1 0) - 1
    · rw [decide_eq_true h2, if_pos h2]
      obtain ⟨a, ha, rfl⟩ := nI_of (i_nlt.mpr h2.1)
      have ha2 : a < B.2.1 0 := by
        have q := i_le.mp h2.2
        rw [nI_toInt ha] at q
        cases hl : B.2.1 0 with
        | zero =>
          rw [hl] at q
          have e : (nI 0 - 1 : Int32).toInt = -1 := by decide
          rw [e] at q; omega
        | succ l =>
          rw [hl, nI_pred, nI_toInt (by omega)] at q; omega
      rw [nI_clamp ha]
      refine zs rfl rfl rfl ?_
      refine zs rfl rfl rfl ?_
      refine zs rfl rfl rfl ?_
      refine zs rfl rfl rfl ?_
      refine zlal rfl rfl rfl rfl (by omega) (by decide) ?_
      refine ztoL rfl (hS0.2.2 a (by omega)) ?_
      refine zs rfl rfl rfl ?_
      refine zs rfl rfl rfl ?_
      refine zs rfl rfl rfl ?_
      refine zs rfl rfl rfl ?_
      refine zcl rfl rfl (c_putS_0 (by omega) hS0.1 v) ?_
      refine zs rfl rfl rfl ?_
      refine zret rfl rfl ⟨rfl, Fr.rfl', hC.1, hC.2, ?_, z_upL_ne N _ _ (by decide)⟩
      refine hS.up (t := 0) (by decide) (fun b hb => z_upL_ne N _ _ hb) (fun k hk => ?_)
      show z_upL N 37 a _ 37 k = if k = a then _ else _
      rw [upL_a, ← hS0.2.2 k hk]
    · rw [decide_eq_false h2, if_neg h2]
      refine zs rfl rfl rfl ?_
      refine zs rfl rfl rfl ?_
      refine zs rfl rfl rfl ?_
      refine zcl rfl rfl (c_refuse_0) ?_
      refine zs rfl rfl rfl ?_
      exact zret rfl rfl (cW_ref (c := 0) Fr.rfl' hC hS _)
theorem c_lays_0 (hC : cC M S F) (hS : cS M N B) (hB : Sok B) : zV X 92 [.ref 0, .int (nI 0)] M N (cX M N (r_lays S F B (nI 0))) := by
  refine zVi [(0, .ref 0), (1, .int (nI 0))] rfl ?_
  unfold r_lays
  have hS0 := hS 0 (by decide)
  have hB0 := (hB 0 (by decide)).1
  rw [if_pos (by decide), nI_clamp (by decide)]
  refine zs rfl rfl rfl ?_
  refine zs rfl rfl rfl ?_
  refine zcl rfl rfl (c_sheetAt_0) ?_
  refine zs rfl rfl rfl ?_
  refine zs rfl rfl rfl ?_
  refine zs rfl rfl rfl ?_
  refine zs rfl rfl rfl ?_
  refine zcl rfl rfl (c_isMissing_0 hS0.1) ?_
  by_cases h : B.1 0 = 0
  · rw [decide_eq_true h, if_pos h]
    refine zs rfl rfl rfl ?_
    refine zs rfl rfl rfl ?_
    refine zs rfl rfl rfl ?_
    refine zcl rfl rfl (c_refuse_5) ?_
    exact zret rfl rfl (cX_ref (c := 5) rfl Fr.rfl' hC hS)
  · rw [decide_eq_false h, if_neg h]
    refine zs rfl rfl rfl ?_
    refine zs rfl rfl rfl ?_
    refine zs rfl rfl rfl ?_
    refine zs rfl rfl rfl ?_
    refine zs rfl rfl rfl ?_
    have loop : ∀ d i M1 tl, i + d = min 13 (B.2.1 0) → (tl = [] ∨ ∃ a : Int64, tl = [(5, Value.long a), (6, Value.retAddr 0)]) → Fr [3] M M1 → Vw M1 1 (lys (B.2.2 0) S i) → zW X 92 36 ((0, .ref 0) :: (1, .int (nI 0)) :: (2, .ref 36) :: (3, .int (nI (lyc (B.2.2 0) i))) :: (4, .int (nI i)) :: tl) [] M1 N (cX M N (nI (lyc (B.2.2 0) (min 13 (B.2.1 0))), lys (B.2.2 0) S (min 13 (B.2.1 0)), F, B)) := by
      intro d
      induction d with
      | zero =>
        intro i M1 tl hi htl hf hv1
        have hl : M1 36 2 = nI (B.2.1 0) := by rw [hf 36 (by decide)]; exact hS0.2.1
        have fin : zW X 92 99 ((0, .ref 0) :: (1, .int (nI 0)) :: (2, .ref 36) :: (3, .int (nI (lyc (B.2.2 0) i))) :: (4, .int (nI i)) :: tl) [] M1 N (cX M N (nI (lyc (B.2.2 0) (min 13 (B.2.1 0))), lys (B.2.2 0) S (min 13 (B.2.1 0)), F, B)) := by
          rw [← hi, Nat.add_zero]
          rcases htl with rfl | ⟨a, rfl⟩
          · refine zs rfl rfl rfl ?_
            exact zret rfl rfl (cX_ok rfl (hf.mono (by decide)) ⟨hv1, hC.hF hf (by decide)⟩ (hS.fr hf (by decide)))
          · refine zs rfl rfl rfl ?_
            exact zret rfl rfl (cX_ok rfl (hf.mono (by decide)) ⟨hv1, hC.hF hf (by decide)⟩ (hS.fr hf (by decide)))
        by_cases h13 : i = 13
        · subst h13
          rcases htl with rfl | ⟨a, rfl⟩
          · refine zs rfl rfl rfl ?_
            refine zs rfl rfl rfl ?_
            refine zs rfl rfl rfl ?_
            exact fin
          · refine zs rfl rfl rfl ?_
            refine zs rfl rfl rfl ?_
            refine zs rfl rfl rfl ?_
            exact fin
        · rcases htl with rfl | ⟨a, rfl⟩
          · refine zs rfl rfl rfl ?_
            refine zs rfl rfl rfl ?_
            refine zbf (nI_ge (b := 13) (by omega) (by omega)) rfl rfl rfl ?_
            refine zs rfl rfl rfl ?_
            refine zs rfl rfl rfl ?_
            refine zs rfl rfl rfl ?_
            refine zto rfl hl ?_
            refine zbt (nI_le (by omega) (by omega)) rfl rfl rfl ?_
            exact fin
          · refine zs rfl rfl rfl ?_
            refine zs rfl rfl rfl ?_
            refine zbf (nI_ge (b := 13) (by omega) (by omega)) rfl rfl rfl ?_
            refine zs rfl rfl rfl ?_
            refine zs rfl rfl rfl ?_
            refine zs rfl rfl rfl ?_
            refine zto rfl hl ?_
            refine zbt (nI_le (by omega) (by omega)) rfl rfl rfl ?_
            exact fin
      | succ d ih =>
        intro i M1 tl hi htl hf hv1
        have hl : M1 36 2 = nI (B.2.1 0) := by rw [hf 36 (by decide)]; exact hS0.2.1
        have hi13 : i < 13 := by omega
        have hil : i < B.2.1 0 := by omega
        have tail : zW X 92 61 [(0, .ref 0), (1, .int (nI 0)), (2, .ref 36), (3, .int (nI (lyc (B.2.2 0) i))), (4, .int (nI i)), (5, .long (B.2.2 0 i)), (6, .retAddr 0)] [] M1 N (cX M N (nI (lyc (B.2.2 0) (min 13 (B.2.1 0))), lys (B.2.2 0) S (min 13 (B.2.1 0)), F, B)) := by
          refine zs rfl rfl rfl ?_
          refine zs rfl rfl rfl ?_
          refine zs rfl rfl rfl ?_
          refine zbr rfl rfl rfl (fun hc => ?_) (fun hc => ?_)
          · have hno : ¬ (0 ≤ B.2.2 0 i ∧ B.2.2 0 i ≤ 99) := fun q => Int64.not_lt.mpr q.1 ((lg_cmp_lt _ _).mp hc)
            have ih' := ih (i + 1) M1 [(5, .long (B.2.2 0 i)), (6, .retAddr 0)] (by omega) (Or.inr ⟨_, rfl⟩) hf (by rw [lys, if_neg hno]; exact hv1)
            rw [show lyc (B.2.2 0) (i + 1) = lyc (B.2.2 0) i from cnt_f (decide_eq_false hno)] at ih'
            refine zinc rfl rfl rfl ?_
            refine zs rfl rfl rfl ?_
            exact ih'
          · refine zs rfl rfl rfl ?_
            refine zs rfl rfl rfl ?_
            refine zs rfl rfl rfl ?_
            refine zbr rfl rfl rfl (fun hd => ?_) (fun hd => ?_)
            · have hno : ¬ (0 ≤ B.2.2 0 i ∧ B.2.2 0 i ≤ 99) := fun q => Int64.not_lt.mpr q.2 ((lg_cmp_gt _ _).mp hd)
              have ih' := ih (i + 1) M1 [(5, .long (B.2.2 0 i)), (6, .retAddr 0)] (by omega) (Or.inr ⟨_, rfl⟩) hf (by rw [lys, if_neg hno]; exact hv1)
              rw [show lyc (B.2.2 0) (i + 1) = lyc (B.2.2 0) i from cnt_f (decide_eq_false hno)] at ih'
              refine zinc rfl rfl rfl ?_
              refine zs rfl rfl rfl ?_
              exact ih'
            · have hyes : 0 ≤ B.2.2 0 i ∧ B.2.2 0 i ≤ 99 := ⟨Int64.not_lt.mp (fun q => hc ((lg_cmp_lt _ _).mpr q)), Int64.not_lt.mp (fun q => hd ((lg_cmp_gt _ _).mpr q))⟩
              have ih' := ih (i + 1) (z_up M1 3 i (B.2.2 0 i).toInt32) [(5, .long (B.2.2 0 i)), (6, .retAddr 0)] (by omega) (Or.inr ⟨_, rfl⟩) (hf.trans (Fr.up (by decide))) (by rw [lys, if_pos hyes]; exact hv1.upo hi13 _)
              rw [show lyc (B.2.2 0) (i + 1) = lyc (B.2.2 0) i + 1 from cnt_t (decide_eq_true hyes)] at ih'
              refine zs rfl rfl rfl ?_
              refine zs rfl rfl rfl ?_
              refine zs rfl rfl rfl ?_
              refine zs rfl rfl rfl ?_
              refine zs rfl rfl rfl ?_
              refine zs rfl rfl rfl ?_
              refine zas rfl rfl rfl rfl (by omega) (by decide) ?_
              refine zinc rfl rfl rfl ?_
              refine zinc rfl rfl rfl ?_
              refine zs rfl rfl rfl ?_
              exact ih'
        rcases htl with rfl | ⟨a, rfl⟩
        · refine zs rfl rfl rfl ?_
          refine zs rfl rfl rfl ?_
          refine zbf (nI_ge (b := 13) (by omega) (by omega)) rfl rfl rfl ?_
          refine zs rfl rfl rfl ?_
          refine zs rfl rfl rfl ?_
          refine zs rfl rfl rfl ?_
          refine zto rfl hl ?_
          refine zbf (nI_ge (by omega) (by omega)) rfl rfl rfl ?_
          refine zs rfl rfl rfl ?_
          refine zs rfl rfl rfl ?_
          refine zs rfl rfl rfl ?_
          refine zlal rfl rfl rfl rfl (by omega) (by decide) ?_
          refine ztoL rfl (hS0.2.2 i (by omega)) ?_
          refine zs rfl rfl rfl ?_
          exact tail
        · refine zs rfl rfl rfl ?_
          refine zs rfl rfl rfl ?_
          refine zbf (nI_ge (b := 13) (by omega) (by omega)) rfl rfl rfl ?_
          refine zs rfl rfl rfl ?_
          refine zs rfl rfl rfl ?_
          refine zs rfl rfl rfl ?_
          refine zto rfl hl ?_
          refine zbf (nI_ge (by omega) (by omega)) rfl rfl rfl ?_
          refine zs rfl rfl rfl ?_
          refine zs rfl rfl rfl ?_
          refine zs rfl rfl rfl ?_
          refine zlal rfl rfl rfl rfl (by omega) (by decide) ?_
          refine ztoL rfl (hS0.2.2 i (by omega)) ?_
          refine zs rfl rfl rfl ?_
          exact tail
    exact loop (min 13 (B.2.1 0)) 0 M [] (Nat.zero_add _) (Or.inl rfl) Fr.rfl' hC.1
theorem c_dawn_0 (hC : cC M S F) (hS : cS M N B) (hB : Sok B) (hO : Ok S n) : zV X 93 [.ref 0, .int (nI 0)] M N (cX M N (r_dawn S F n B (nI 0))) := by
  refine zVi [(0, .ref 0), (1, .int (nI 0))] rfl ?_
  unfold r_dawn
  have hS0 := hS 0 (by decide)
  have hB0 := (hB 0 (by decide)).1
  have hle := hO.le
  have hn0 := hC.n0 hO
  have hv := hC.1
  rw [if_pos (by decide), nI_clamp (by decide)]
  refine zs rfl rfl rfl ?_
  refine zs rfl rfl rfl ?_
  refine zcl rfl rfl (c_sheetAt_0) ?_
  refine zs rfl rfl rfl ?_
  refine zs rfl rfl rfl ?_
  refine zs rfl rfl rfl ?_
  refine zs rfl rfl rfl ?_
  refine zcl rfl rfl (c_isMissing_0 hS0.1) ?_
  by_cases h : B.1 0 = 0
  · rw [decide_eq_true h, if_pos h]
    refine zs rfl rfl rfl ?_
    refine zs rfl rfl rfl ?_
    refine zs rfl rfl rfl ?_
    refine zcl rfl rfl (c_refuse_5) ?_
    exact zret rfl rfl (cX_ref (c := 5) rfl Fr.rfl' hC hS)
  · rw [decide_eq_false h, if_neg h]
    have emin : (if nI (B.2.1 0) < nI n then nI (B.2.1 0) else nI n) = nI (min n (B.2.1 0)) := by
      by_cases q : B.2.1 0 < n
      · rw [if_pos (nI_lt q (by omega)), Nat.min_eq_right (by omega)]
      · rw [if_neg (nI_nlt (by omega) (by omega)), Nat.min_eq_left (by omega)]
    refine zs rfl rfl rfl ?_
    refine zs rfl rfl rfl ?_
    refine zs rfl rfl rfl ?_
    refine zs rfl rfl rfl ?_
    try refine zto rfl hn0 ?_
    refine zs rfl rfl rfl ?_
    refine zs rfl rfl rfl ?_
    refine zto rfl hS0.2.1 ?_
    refine zs rfl rfl rfl ?_
    refine zto rfl emin ?_
    refine zs rfl rfl rfl ?_
    refine zs rfl rfl rfl ?_
    refine zs rfl rfl rfl ?_
    have loop : ∀ d i N1, i + d = min n (B.2.1 0) → (∀ b, b ≠ 37 → N1 b = N b) → (∀ k, k < 40 → N1 37 k = dwn (B.1 0) S (B.2.2 0) i k) → zW X 93 49 [(0, .ref 0), (1, .int (nI 0)), (2, .ref 36), (3, .int (nI (min n (B.2.1 0)))), (4, .int (nI i))] [] M N1 (cX M N (nI (min n (B.2.1 0)), S, F, B.1, B.2.1, up' B.2.2 0 (dwn (B.1 0) S (B.2.2 0) (min n (B.2.1 0))))) := by
      intro d
      induction d with
      | zero =>
        intro i N1 hi h1 h2
        rw [Nat.add_zero] at hi
        rw [← hi]
        refine zs rfl rfl rfl ?_
        refine zs rfl rfl rfl ?_
        refine zbt (nI_le (by omega) (by omega)) rfl rfl rfl ?_
        refine zs rfl rfl rfl ?_
        exact zret rfl rfl (cX_ok rfl Fr.rfl' hC (hS.up (t := 0) (by decide) h1 h2) (h1 54 (by decide)))
      | succ d ih =>
        intro i N1 hi h1 h2
        refine zs rfl rfl rfl ?_
        refine zs rfl rfl rfl ?_
        refine zbf (nI_ge (by omega) (by omega)) rfl rfl rfl ?_
        refine zs rfl rfl rfl ?_
        refine zs rfl rfl rfl ?_
        refine zs rfl rfl rfl ?_
        refine zs rfl rfl rfl ?_
        refine zs rfl rfl rfl ?_
        refine zs rfl rfl rfl ?_
        refine zal rfl rfl rfl (by omega) (by decide) ?_
        try refine zto rfl (Vw.fl (by assumption) _ (by omega)) ?_
        refine zs rfl rfl rfl ?_
        refine zcl rfl rfl (c_putS_0 (i := i) (by omega) hS0.1 (lk S i).toInt64) ?_
        refine zinc rfl rfl rfl ?_
        refine zs rfl rfl rfl ?_
        refine ih (i + 1) _ (by omega) (fun b hb => (z_upL_ne N1 _ _ hb).trans (h1 b hb)) (fun k hk => ?_)
        rw [upL_a]
        show _ = if k = i then _ else _
        rw [h2 k hk]
    exact loop (min n (B.2.1 0)) 0 N (Nat.zero_add _) (fun _ _ => rfl) hS0.2.2
theorem c_tellsOf_0 {T : zS} (hS : cS M N B) (hB : Sok B) (hv : Vw M 19 T) (hn : T 0 = nI n) (hle : n ≤ 12) : zE1 X 108 [.ref 36, .ref 19] M N (some (.int (bI (tll (B.2.2 0) T (min n (B.2.1 0)) 0)))) M N := by
  refine zE1i [(0, .ref 36), (1, .ref 19)] rfl ?_
  have hS0 := hS 0 (by decide)
  have hB0 := (hB 0 (by decide)).1
  have hn0 : M 19 8 = nI n := hv.s0.trans hn
  refine zs rfl rfl rfl ?_
  refine zs rfl rfl rfl ?_
  have loop : ∀ d i, i + d = min n (B.2.1 0) → zW X 108 2 [(0, .ref 36), (1, .ref 19), (2, .int (nI i))] [] M N (fun v M' N' => v = some (.int (bI (tll (B.2.2 0) T d i))) ∧ M' = M ∧ N' = N) := by
    intro d
    induction d with
    | zero =>
      intro i hi
      by_cases hl : B.2.1 0 ≤ i
      · refine zs rfl rfl rfl ?_
        refine zs rfl rfl rfl ?_
        refine zs rfl rfl rfl ?_
        refine zto rfl hS0.2.1 ?_
        refine zbt (nI_le (by omega) (by omega)) rfl rfl rfl ?_
        refine zs rfl rfl rfl ?_
        exact zret rfl rfl ⟨rfl, rfl, rfl⟩
      · refine zs rfl rfl rfl ?_
        refine zs rfl rfl rfl ?_
        refine zs rfl rfl rfl ?_
        refine zto rfl hS0.2.1 ?_
        refine zbf (nI_ge (by omega) (by omega)) rfl rfl rfl ?_
        refine zs rfl rfl rfl ?_
        refine zs rfl rfl rfl ?_
        refine zs rfl rfl rfl ?_
        try refine zto rfl hn0 ?_
        refine zbt (nI_le (by omega) (by omega)) rfl rfl rfl ?_
        refine zs rfl rfl rfl ?_
        exact zret rfl rfl ⟨rfl, rfl, rfl⟩
    | succ d ih =>
      intro i hi
      unfold tll
      refine zs rfl rfl rfl ?_
      refine zs rfl rfl rfl ?_
      refine zs rfl rfl rfl ?_
      refine zto rfl hS0.2.1 ?_
      refine zbf (nI_ge (by omega) (by omega)) rfl rfl rfl ?_
      refine zs rfl rfl rfl ?_
      refine zs rfl rfl rfl ?_
      refine zs rfl rfl rfl ?_
      try refine zto rfl hn0 ?_
      refine zbf (nI_ge (by omega) (by omega)) rfl rfl rfl ?_
      refine zs rfl rfl rfl ?_
      refine zs rfl rfl rfl ?_
      refine zs rfl rfl rfl ?_
      refine zlal rfl rfl rfl rfl (by omega) (by decide) ?_
      refine ztoL rfl (hS0.2.2 i (by omega)) ?_
      refine zs rfl rfl rfl ?_
      refine zs rfl rfl rfl ?_
      refine zs rfl rfl rfl ?_
      refine zal rfl rfl rfl (by omega) (by decide) ?_
      try refine zto rfl (Vw.fl (by assumption) _ (by omega)) ?_
      refine zs rfl rfl rfl ?_
      refine zs rfl rfl rfl ?_
      refine zbr rfl rfl rfl (fun hc => ?_) (fun hc => ?_)
      · rw [decide_eq_true ((lg_cmp_eq _ _).mp hc)]
        refine zinc rfl rfl rfl ?_
        refine zs rfl rfl rfl ?_
        exact ih (i + 1) (by omega)
      · rw [decide_eq_false (fun q => hc ((lg_cmp_eq _ _).mpr q))]
        refine zs rfl rfl rfl ?_
        exact zret rfl rfl ⟨rfl, rfl, rfl⟩
  exact loop (min n (B.2.1 0)) 0 (Nat.zero_add _)
theorem c_read_0 (hC : cC M S F) (hS : cS M N B) (hB : Sok B) (hO : Ok S n) : zV X 94 [.ref 0, .int (nI 0)] M N (cX M N (r_read S F n B (nI 0))) := by
  refine zVi [(0, .ref 0), (1, .int (nI 0))] rfl ?_
  unfold r_read
  have hS0 := hS 0 (by decide)
  have hle := hO.le
  rw [if_pos (by decide), nI_clamp (by decide)]
  refine zs rfl rfl rfl ?_
  refine zs rfl rfl rfl ?_
  refine zcl rfl rfl (c_sheetAt_0) ?_
  refine zs rfl rfl rfl ?_
  refine zs rfl rfl rfl ?_
  refine zs rfl rfl rfl ?_
  refine zs rfl rfl rfl ?_
  refine zcl rfl rfl (c_isMissing_0 hS0.1) ?_
  by_cases h : B.1 0 = 0
  · rw [decide_eq_true h, if_pos h]
    refine zs rfl rfl rfl ?_
    refine zs rfl rfl rfl ?_
    refine zs rfl rfl rfl ?_
    refine zcl rfl rfl (c_refuse_5) ?_
    exact zret rfl rfl (cX_ref (c := 5) rfl Fr.rfl' hC hS)
  · rw [decide_eq_false h, if_neg h]
    refine zs rfl rfl rfl ?_
    refine zs rfl rfl rfl ?_
    refine zs rfl rfl rfl ?_
    have loop : ∀ d i M1, i + d = 13 → Fr sL M M1 → zW X 94 33 [(0, .ref 0), (1, .int (nI 0)), (2, .ref 36), (3, .int (nI i))] [] M1 N (cX M N (r_fstB S F B (fst1 (rdp S n (B.2.2 0) (B.2.1 0)) d i))) := by
      intro d
      induction d with
      | zero =>
        intro i M1 hi hf
        obtain rfl : i = 13 := by omega
        refine zs rfl rfl rfl ?_
        refine zs rfl rfl rfl ?_
        first | refine zs rfl rfl rfl ?_ | refine zbt (nI_le (a := 13) (by omega) (by omega)) rfl rfl rfl ?_
        refine zs rfl rfl rfl ?_
        refine zs rfl rfl rfl ?_
        refine zcl rfl rfl (c_refuse_3) ?_
        exact zret rfl rfl (cX_ref (c := 3) rfl (frsC hf) (hC.sc hf) (hS.fr hf (by decide)))
      | succ d ih =>
        intro i M1 hi hf
        refine zs rfl rfl rfl ?_
        refine zs rfl rfl rfl ?_
        refine zbf (nI_ge (b := 13) (by omega) (by omega)) rfl rfl rfl ?_
        refine zs rfl rfl rfl ?_
        refine zs rfl rfl rfl ?_
        refine zs rfl rfl rfl ?_
        refine zs rfl rfl rfl ?_
        refine zclQ rfl rfl (c_take_th (hC.sc hf).1) ?_
        rintro v2 M2 N2 ⟨rfl, rfl, hf2, hv2⟩
        refine zs rfl rfl rfl ?_
        refine zs rfl rfl rfl ?_
        refine zs rfl rfl rfl ?_
        refine zclQ rfl rfl (c_settle_t hv2 hO.s0 hle hO.k (nI i)) ?_
        rintro v3 M3 N3 ⟨rfl, rfl, hf3, hv3, _⟩
        have hf' : Fr sL M M3 := (hf.trans (hf2.mono (by decide))).trans (hf3.mono (by decide))
        have hS3 := hS.fr hf' (by decide)
        refine zs rfl rfl rfl ?_
        refine zs rfl rfl rfl ?_
        refine zs rfl rfl rfl ?_
        refine zcl rfl rfl (c_tellsOf_0 hS3 hB hv3 ((stl_lo S n _ (by decide)).trans hO.s0) hle) ?_
        cases hp : rdp S n (B.2.2 0) (B.2.1 0) i with
        | true =>
          have hp' : tll (B.2.2 0) (stl S n (nI i)) (min n (B.2.1 0)) 0 = true := hp
          have e : fst1 (rdp S n (B.2.2 0) (B.2.1 0)) (d + 1) i = nI i := by
            show cond _ _ _ = _
            rw [hp]; rfl
          have e2 : r_fstB S F B (nI i) = (nI i, S, F, B) := by
            unfold r_fstB
            rw [if_neg]
            intro q
            have := congrArg Int32.toInt q
            rw [nI_toInt (by omega), t_m1] at this
            omega
          rw [hp', e, e2]
          refine zs rfl rfl rfl ?_
          refine zs rfl rfl rfl ?_
          exact zret rfl rfl (cX_ok rfl (frsC hf') (hC.sc hf') hS3)
        | false =>
          have hp' : tll (B.2.2 0) (stl S n (nI i)) (min n (B.2.1 0)) 0 = false := hp
          have e : fst1 (rdp S n (B.2.2 0) (B.2.1 0)) (d + 1) i = fst1 (rdp S n (B.2.2 0) (B.2.1 0)) d (i + 1) := by
            show cond _ _ _ = _
            rw [hp]; rfl
          rw [hp', e]
          refine zs rfl rfl rfl ?_
          refine zinc rfl rfl rfl ?_
          refine zs rfl rfl rfl ?_
          exact ih (i + 1) M3 (by omega) hf'
    exact loop 13 0 M rfl Fr.rfl'
theorem c_write_1 (hC : cC M S F) (hS : cS M N B) (hB : Sok B) (i : Int32) (v : Int64) : zV X 90 [.ref 0, .int (nI 1), .int i, .long v] M N (cXL M N S (r_write F B (nI 1) i v)) := by
  refine zVi [(0, .ref 0), (1, .int (nI 1)), (2, .int i), (3, .long v), (4, .retAddr 0)] rfl ?_
  unfold r_write
  have hS0 := hS 1 (by decide)
  have hB0 := (hB 1 (by decide)).1
  rw [if_pos (by decide), nI_clamp (by decide)]
  refine zs rfl rfl rfl ?_
  refine zs rfl rfl rfl ?_
  refine zcl rfl rfl (c_sheetAt_1) ?_
  refine zs rfl rfl rfl ?_
  refine zs rfl rfl rfl ?_
  refine zs rfl rfl rfl ?_
  refine zs rfl rfl rfl ?_
  refine zcl rfl rfl (c_isMissing_1 hS0.1) ?_
  by_cases h : B.1 1 = 0
  · rw [decide_eq_true h, if_pos h]
    refine zs rfl rfl rfl ?_
    refine zs rfl rfl rfl ?_
    refine zs rfl rfl rfl ?_
    refine zcl rfl rfl (c_refuse_5) ?_
    refine zs rfl rfl rfl ?_
    exact zret rfl rfl (cW_ref (c := 5) Fr.rfl' hC hS _)
  · rw [decide_eq_false h, if_neg h]
    refine zs rfl rfl rfl ?_
    refine zs rfl rfl rfl ?_
    refine zs rfl rfl rfl ?_
    refine zs rfl rfl rfl ?_
    refine zs rfl rfl rfl ?_
    refine zto rfl hS0.2.1 ?_
    refine zs rfl rfl rfl ?_
    refine zs rfl rfl rfl ?_
    refine zcl rfl rfl (c_isIn i 0 (nI (B.2.1 1) - 1)) ?_
    by_cases h2 : 0 ≤ i ∧ i ≤ nI (B.2.1 1) - 1
    · rw [decide_eq_true h2, if_pos h2]
      obtain ⟨a, ha, rfl⟩ := nI_of (i_nlt.mpr h2.1)
      have ha2 : a < B.2.1 1 := by
        have q := i_le.mp h2.2
        rw [nI_toInt ha] at q
        cases hl : B.2.1 1 with
        | zero =>
          rw [hl] at q
          have e : (nI 0 - 1 : Int32).toInt = -1 := by decide
          rw [e] at q; omega
        | succ l =>
          rw [hl, nI_pred, nI_toInt (by omega)] at q; omega
      rw [nI_clamp ha]
      refine zs rfl rfl rfl ?_
      refine zs rfl rfl rfl ?_
      refine zs rfl rfl rfl ?_
      refine zs rfl rfl rfl ?_
      refine zlal rfl rfl rfl rfl (by omega) (by decide) ?_
      refine ztoL rfl (hS0.2.2 a (by omega)) ?_
      refine zs rfl rfl rfl ?_
      refine zs rfl rfl rfl ?_
      refine zs rfl rfl rfl ?_
      refine zs rfl rfl rfl ?_
      refine zcl rfl rfl (c_putS_1 (by omega) hS0.1 v) ?_
      refine zs rfl rfl rfl ?_
      refine zret rfl rfl ⟨rfl, Fr.rfl', hC.1, hC.2, ?_, z_upL_ne N _ _ (by decide)⟩
      refine hS.up (t := 1) (by decide) (fun b hb => z_upL_ne N _ _ hb) (fun k hk => ?_)
      show z_upL N 39 a _ 39 k = if k = a then _ else _
      rw [upL_a, ← hS0.2.2 k hk]
    · rw [decide_eq_false h2, if_neg h2]
      refine zs rfl rfl rfl ?_
      refine zs rfl rfl rfl ?_
      refine zs rfl rfl rfl ?_
      refine zcl rfl rfl (c_refuse_0) ?_
      refine zs rfl rfl rfl ?_
      exact zret rfl rfl (cW_ref (c := 0) Fr.rfl' hC hS _)
theorem c_lays_1 (hC : cC M S F) (hS : cS M N B) (hB : Sok B) : zV X 92 [.ref 0, .int (nI 1)] M N (cX M N (r_lays S F B (nI 1))) := by
  refine zVi [(0, .ref 0), (1, .int (nI 1))] rfl ?_
  unfold r_lays
  have hS0 := hS 1 (by decide)
  have hB0 := (hB 1 (by decide)).1
  rw [if_pos (by decide), nI_clamp (by decide)]
  refine zs rfl rfl rfl ?_
  refine zs rfl rfl rfl ?_
  refine zcl rfl rfl (c_sheetAt_1) ?_
  refine zs rfl rfl rfl ?_
  refine zs rfl rfl rfl ?_
  refine zs rfl rfl rfl ?_
  refine zs rfl rfl rfl ?_
  refine zcl rfl rfl (c_isMissing_1 hS0.1) ?_
  by_cases h : B.1 1 = 0
  · rw [decide_eq_true h, if_pos h]
    refine zs rfl rfl rfl ?_
    refine zs rfl rfl rfl ?_
    refine zs rfl rfl rfl ?_
    refine zcl rfl rfl (c_refuse_5) ?_
    exact zret rfl rfl (cX_ref (c := 5) rfl Fr.rfl' hC hS)
  · rw [decide_eq_false h, if_neg h]
    refine zs rfl rfl rfl ?_
    refine zs rfl rfl rfl ?_
    refine zs rfl rfl rfl ?_
    refine zs rfl rfl rfl ?_
    refine zs rfl rfl rfl ?_
    have loop : ∀ d i M1 tl, i + d = min 13 (B.2.1 1) → (tl = [] ∨ ∃ a : Int64, tl = [(5, Value.long a), (6, Value.retAddr 0)]) → Fr [3] M M1 → Vw M1 1 (lys (B.2.2 1) S i) → zW X 92 36 ((0, .ref 0) :: (1, .int (nI 1)) :: (2, .ref 38) :: (3, .int (nI (lyc (B.2.2 1) i))) :: (4, .int (nI i)) :: tl) [] M1 N (cX M N (nI (lyc (B.2.2 1) (min 13 (B.2.1 1))), lys (B.2.2 1) S (min 13 (B.2.1 1)), F, B)) := by
      intro d
      induction d with
      | zero =>
        intro i M1 tl hi htl hf hv1
        have hl : M1 38 2 = nI (B.2.1 1) := by rw [hf 38 (by decide)]; exact hS0.2.1
        have fin : zW X 92 99 ((0, .ref 0) :: (1, .int (nI 1)) :: (2, .ref 38) :: (3, .int (nI (lyc (B.2.2 1) i))) :: (4, .int (nI i)) :: tl) [] M1 N (cX M N (nI (lyc (B.2.2 1) (min 13 (B.2.1 1))), lys (B.2.2 1) S (min 13 (B.2.1 1)), F, B)) := by
          rw [← hi, Nat.add_zero]
          rcases htl with rfl | ⟨a, rfl⟩
          · refine zs rfl rfl rfl ?_
            exact zret rfl rfl (cX_ok rfl (hf.mono (by decide)) ⟨hv1, hC.hF hf (by decide)⟩ (hS.fr hf (by decide)))
          · refine zs rfl rfl rfl ?_
            exact zret rfl rfl (cX_ok rfl (hf.mono (by decide)) ⟨hv1, hC.hF hf (by decide)⟩ (hS.fr hf (by decide)))
        by_cases h13 : i = 13
        · subst h13
          rcases htl with rfl | ⟨a, rfl⟩
          · refine zs rfl rfl rfl ?_
            refine zs rfl rfl rfl ?_
            refine zs rfl rfl rfl ?_
            exact fin
          · refine zs rfl rfl rfl ?_
            refine zs rfl rfl rfl ?_
            refine zs rfl rfl rfl ?_
            exact fin
        · rcases htl with rfl | ⟨a, rfl⟩
          · refine zs rfl rfl rfl ?_
            refine zs rfl rfl rfl ?_
            refine zbf (nI_ge (b := 13) (by omega) (by omega)) rfl rfl rfl ?_
            refine zs rfl rfl rfl ?_
            refine zs rfl rfl rfl ?_
            refine zs rfl rfl rfl ?_
            refine zto rfl hl ?_
            refine zbt (nI_le (by omega) (by omega)) rfl rfl rfl ?_
            exact fin
          · refine zs rfl rfl rfl ?_
            refine zs rfl rfl rfl ?_
            refine zbf (nI_ge (b := 13) (by omega) (by omega)) rfl rfl rfl ?_
            refine zs rfl rfl rfl ?_
            refine zs rfl rfl rfl ?_
            refine zs rfl rfl rfl ?_
            refine zto rfl hl ?_
            refine zbt (nI_le (by omega) (by omega)) rfl rfl rfl ?_
            exact fin
      | succ d ih =>
        intro i M1 tl hi htl hf hv1
        have hl : M1 38 2 = nI (B.2.1 1) := by rw [hf 38 (by decide)]; exact hS0.2.1
        have hi13 : i < 13 := by omega
        have hil : i < B.2.1 1 := by omega
        have tail : zW X 92 61 [(0, .ref 0), (1, .int (nI 1)), (2, .ref 38), (3, .int (nI (lyc (B.2.2 1) i))), (4, .int (nI i)), (5, .long (B.2.2 1 i)), (6, .retAddr 0)] [] M1 N (cX M N (nI (lyc (B.2.2 1) (min 13 (B.2.1 1))), lys (B.2.2 1) S (min 13 (B.2.1 1)), F, B)) := by
          refine zs rfl rfl rfl ?_
          refine zs rfl rfl rfl ?_
          refine zs rfl rfl rfl ?_
          refine zbr rfl rfl rfl (fun hc => ?_) (fun hc => ?_)
          · have hno : ¬ (0 ≤ B.2.2 1 i ∧ B.2.2 1 i ≤ 99) := fun q => Int64.not_lt.mpr q.1 ((lg_cmp_lt _ _).mp hc)
            have ih' := ih (i + 1) M1 [(5, .long (B.2.2 1 i)), (6, .retAddr 0)] (by omega) (Or.inr ⟨_, rfl⟩) hf (by rw [lys, if_neg hno]; exact hv1)
            rw [show lyc (B.2.2 1) (i + 1) = lyc (B.2.2 1) i from cnt_f (decide_eq_false hno)] at ih'
            refine zinc rfl rfl rfl ?_
            refine zs rfl rfl rfl ?_
            exact ih'
          · refine zs rfl rfl rfl ?_
            refine zs rfl rfl rfl ?_
            refine zs rfl rfl rfl ?_
            refine zbr rfl rfl rfl (fun hd => ?_) (fun hd => ?_)
            · have hno : ¬ (0 ≤ B.2.2 1 i ∧ B.2.2 1 i ≤ 99) := fun q => Int64.not_lt.mpr q.2 ((lg_cmp_gt _ _).mp hd)
              have ih' := ih (i + 1) M1 [(5, .long (B.2.2 1 i)), (6, .retAddr 0)] (by omega) (Or.inr ⟨_, rfl⟩) hf (by rw [lys, if_neg hno]; exact hv1)
              rw [show lyc (B.2.2 1) (i + 1) = lyc (B.2.2 1) i from cnt_f (decide_eq_false hno)] at ih'
              refine zinc rfl rfl rfl ?_
              refine zs rfl rfl rfl ?_
              exact ih'
            · have hyes : 0 ≤ B.2.2 1 i ∧ B.2.2 1 i ≤ 99 := ⟨Int64.not_lt.mp (fun q => hc ((lg_cmp_lt _ _).mpr q)), Int64.not_lt.mp (fun q => hd ((lg_cmp_gt _ _).mpr q))⟩
              have ih' := ih (i + 1) (z_up M1 3 i (B.2.2 1 i).toInt32) [(5, .long (B.2.2 1 i)), (6, .retAddr 0)] (by omega) (Or.inr ⟨_, rfl⟩) (hf.trans (Fr.up (by decide))) (by rw [lys, if_pos hyes]; exact hv1.upo hi13 _)
              rw [show lyc (B.2.2 1) (i + 1) = lyc (B.2.2 1) i + 1 from cnt_t (decide_eq_true hyes)] at ih'
              refine zs rfl rfl rfl ?_
              refine zs rfl rfl rfl ?_
              refine zs rfl rfl rfl ?_
              refine zs rfl rfl rfl ?_
              refine zs rfl rfl rfl ?_
              refine zs rfl rfl rfl ?_
              refine zas rfl rfl rfl rfl (by omega) (by decide) ?_
              refine zinc rfl rfl rfl ?_
              refine zinc rfl rfl rfl ?_
              refine zs rfl rfl rfl ?_
              exact ih'
        rcases htl with rfl | ⟨a, rfl⟩
        · refine zs rfl rfl rfl ?_
          refine zs rfl rfl rfl ?_
          refine zbf (nI_ge (b := 13) (by omega) (by omega)) rfl rfl rfl ?_
          refine zs rfl rfl rfl ?_
          refine zs rfl rfl rfl ?_
          refine zs rfl rfl rfl ?_
          refine zto rfl hl ?_
          refine zbf (nI_ge (by omega) (by omega)) rfl rfl rfl ?_
          refine zs rfl rfl rfl ?_
          refine zs rfl rfl rfl ?_
          refine zs rfl rfl rfl ?_
          refine zlal rfl rfl rfl rfl (by omega) (by decide) ?_
          refine ztoL rfl (hS0.2.2 i (by omega)) ?_
          refine zs rfl rfl rfl ?_
          exact tail
        · refine zs rfl rfl rfl ?_
          refine zs rfl rfl rfl ?_
          refine zbf (nI_ge (b := 13) (by omega) (by omega)) rfl rfl rfl ?_
          refine zs rfl rfl rfl ?_
          refine zs rfl rfl rfl ?_
          refine zs rfl rfl rfl ?_
          refine zto rfl hl ?_
          refine zbf (nI_ge (by omega) (by omega)) rfl rfl rfl ?_
          refine zs rfl rfl rfl ?_
          refine zs rfl rfl rfl ?_
          refine zs rfl rfl rfl ?_
          refine zlal rfl rfl rfl rfl (by omega) (by decide) ?_
          refine ztoL rfl (hS0.2.2 i (by omega)) ?_
          refine zs rfl rfl rfl ?_
          exact tail
    exact loop (min 13 (B.2.1 1)) 0 M [] (Nat.zero_add _) (Or.inl rfl) Fr.rfl' hC.1
theorem c_dawn_1 (hC : cC M S F) (hS : cS M N B) (hB : Sok B) (hO : Ok S n) : zV X 93 [.ref 0, .int (nI 1)] M N (cX M N (r_dawn S F n B (nI 1))) := by
  refine zVi [(0, .ref 0), (1, .int (nI 1))] rfl ?_
  unfold r_dawn
  have hS0 := hS 1 (by decide)
  have hB0 := (hB 1 (by decide)).1
  have hle := hO.le
  have hn0 := hC.n0 hO
  have hv := hC.1
  rw [if_pos (by decide), nI_clamp (by decide)]
  refine zs rfl rfl rfl ?_
  refine zs rfl rfl rfl ?_
  refine zcl rfl rfl (c_sheetAt_1) ?_
  refine zs rfl rfl rfl ?_
  refine zs rfl rfl rfl ?_
  refine zs rfl rfl rfl ?_
  refine zs rfl rfl rfl ?_
  refine zcl rfl rfl (c_isMissing_1 hS0.1) ?_
  by_cases h : B.1 1 = 0
  · rw [decide_eq_true h, if_pos h]
    refine zs rfl rfl rfl ?_
    refine zs rfl rfl rfl ?_
    refine zs rfl rfl rfl ?_
    refine zcl rfl rfl (c_refuse_5) ?_
    exact zret rfl rfl (cX_ref (c := 5) rfl Fr.rfl' hC hS)
  · rw [decide_eq_false h, if_neg h]
    have emin : (if nI (B.2.1 1) < nI n then nI (B.2.1 1) else nI n) = nI (min n (B.2.1 1)) := by
      by_cases q : B.2.1 1 < n
      · rw [if_pos (nI_lt q (by omega)), Nat.min_eq_right (by omega)]
      · rw [if_neg (nI_nlt (by omega) (by omega)), Nat.min_eq_left (by omega)]
    refine zs rfl rfl rfl ?_
    refine zs rfl rfl rfl ?_
    refine zs rfl rfl rfl ?_
    refine zs rfl rfl rfl ?_
    try refine zto rfl hn0 ?_
    refine zs rfl rfl rfl ?_
    refine zs rfl rfl rfl ?_
    refine zto rfl hS0.2.1 ?_
    refine zs rfl rfl rfl ?_
    refine zto rfl emin ?_
    refine zs rfl rfl rfl ?_
    refine zs rfl rfl rfl ?_
    refine zs rfl rfl rfl ?_
    have loop : ∀ d i N1, i + d = min n (B.2.1 1) → (∀ b, b ≠ 39 → N1 b = N b) → (∀ k, k < 40 → N1 39 k = dwn (B.1 1) S (B.2.2 1) i k) → zW X 93 49 [(0, .ref 0), (1, .int (nI 1)), (2, .ref 38), (3, .int (nI (min n (B.2.1 1)))), (4, .int (nI i))] [] M N1 (cX M N (nI (min n (B.2.1 1)), S, F, B.1, B.2.1, up' B.2.2 1 (dwn (B.1 1) S (B.2.2 1) (min n (B.2.1 1))))) := by
      intro d
      induction d with
      | zero =>
        intro i N1 hi h1 h2
        rw [Nat.add_zero] at hi
        rw [← hi]
        refine zs rfl rfl rfl ?_
        refine zs rfl rfl rfl ?_
        refine zbt (nI_le (by omega) (by omega)) rfl rfl rfl ?_
        refine zs rfl rfl rfl ?_
        exact zret rfl rfl (cX_ok rfl Fr.rfl' hC (hS.up (t := 1) (by decide) h1 h2) (h1 54 (by decide)))
      | succ d ih =>
        intro i N1 hi h1 h2
        refine zs rfl rfl rfl ?_
        refine zs rfl rfl rfl ?_
        refine zbf (nI_ge (by omega) (by omega)) rfl rfl rfl ?_
        refine zs rfl rfl rfl ?_
        refine zs rfl rfl rfl ?_
        refine zs rfl rfl rfl ?_
        refine zs rfl rfl rfl ?_
        refine zs rfl rfl rfl ?_
        refine zs rfl rfl rfl ?_
        refine zal rfl rfl rfl (by omega) (by decide) ?_
        try refine zto rfl (Vw.fl (by assumption) _ (by omega)) ?_
        refine zs rfl rfl rfl ?_
        refine zcl rfl rfl (c_putS_1 (i := i) (by omega) hS0.1 (lk S i).toInt64) ?_
        refine zinc rfl rfl rfl ?_
        refine zs rfl rfl rfl ?_
        refine ih (i + 1) _ (by omega) (fun b hb => (z_upL_ne N1 _ _ hb).trans (h1 b hb)) (fun k hk => ?_)
        rw [upL_a]
        show _ = if k = i then _ else _
        rw [h2 k hk]
    exact loop (min n (B.2.1 1)) 0 N (Nat.zero_add _) (fun _ _ => rfl) hS0.2.2
theorem c_tellsOf_1 {T : zS} (hS : cS M N B) (hB : Sok B) (hv : Vw M 19 T) (hn : T 0 = nI n) (hle : n ≤ 12) : zE1 X 108 [.ref 38, .ref 19] M N (some (.int (bI (tll (B.2.2 1) T (min n (B.2.1 1)) 0)))) M N := by
  refine zE1i [(0, .ref 38), (1, .ref 19)] rfl ?_
  have hS0 := hS 1 (by decide)
  have hB0 := (hB 1 (by decide)).1
  have hn0 : M 19 8 = nI n := hv.s0.trans hn
  refine zs rfl rfl rfl ?_
  refine zs rfl rfl rfl ?_
  have loop : ∀ d i, i + d = min n (B.2.1 1) → zW X 108 2 [(0, .ref 38), (1, .ref 19), (2, .int (nI i))] [] M N (fun v M' N' => v = some (.int (bI (tll (B.2.2 1) T d i))) ∧ M' = M ∧ N' = N) := by
    intro d
    induction d with
    | zero =>
      intro i hi
      by_cases hl : B.2.1 1 ≤ i
      · refine zs rfl rfl rfl ?_
        refine zs rfl rfl rfl ?_
        refine zs rfl rfl rfl ?_
        refine zto rfl hS0.2.1 ?_
        refine zbt (nI_le (by omega) (by omega)) rfl rfl rfl ?_
        refine zs rfl rfl rfl ?_
        exact zret rfl rfl ⟨rfl, rfl, rfl⟩
      · refine zs rfl rfl rfl ?_
        refine zs rfl rfl rfl ?_
        refine zs rfl rfl rfl ?_
        refine zto rfl hS0.2.1 ?_
        refine zbf (nI_ge (by omega) (by omega)) rfl rfl rfl ?_
        refine zs rfl rfl rfl ?_
        refine zs rfl rfl rfl ?_
        refine zs rfl rfl rfl ?_
        try refine zto rfl hn0 ?_
        refine zbt (nI_le (by omega) (by omega)) rfl rfl rfl ?_
        refine zs rfl rfl rfl ?_
        exact zret rfl rfl ⟨rfl, rfl, rfl⟩
    | succ d ih =>
      intro i hi
      unfold tll
      refine zs rfl rfl rfl ?_
      refine zs rfl rfl rfl ?_
      refine zs rfl rfl rfl ?_
      refine zto rfl hS0.2.1 ?_
      refine zbf (nI_ge (by omega) (by omega)) rfl rfl rfl ?_
      refine zs rfl rfl rfl ?_
      refine zs rfl rfl rfl ?_
      refine zs rfl rfl rfl ?_
      try refine zto rfl hn0 ?_
      refine zbf (nI_ge (by omega) (by omega)) rfl rfl rfl ?_
      refine zs rfl rfl rfl ?_
      refine zs rfl rfl rfl ?_
      refine zs rfl rfl rfl ?_
      refine zlal rfl rfl rfl rfl (by omega) (by decide) ?_
      refine ztoL rfl (hS0.2.2 i (by omega)) ?_
      refine zs rfl rfl rfl ?_
      refine zs rfl rfl rfl ?_
      refine zs rfl rfl rfl ?_
      refine zal rfl rfl rfl (by omega) (by decide) ?_
      try refine zto rfl (Vw.fl (by assumption) _ (by omega)) ?_
      refine zs rfl rfl rfl ?_
      refine zs rfl rfl rfl ?_
      refine zbr rfl rfl rfl (fun hc => ?_) (fun hc => ?_)
      · rw [decide_eq_true ((lg_cmp_eq _ _).mp hc)]
        refine zinc rfl rfl rfl ?_
        refine zs rfl rfl rfl ?_
        exact ih (i + 1) (by omega)
      · rw [decide_eq_false (fun q => hc ((lg_cmp_eq _ _).mpr q))]
        refine zs rfl rfl rfl ?_
        exact zret rfl rfl ⟨rfl, rfl, rfl⟩
  exact loop (min n (B.2.1 1)) 0 (Nat.zero_add _)
theorem c_read_1 (hC : cC M S F) (hS : cS M N B) (hB : Sok B) (hO : Ok S n) : zV X 94 [.ref 0, .int (nI 1)] M N (cX M N (r_read S F n B (nI 1))) := by
  refine zVi [(0, .ref 0), (1, .int (nI 1))] rfl ?_
  unfold r_read
  have hS0 := hS 1 (by decide)
  have hle := hO.le
  rw [if_pos (by decide), nI_clamp (by decide)]
  refine zs rfl rfl rfl ?_
  refine zs rfl rfl rfl ?_
  refine zcl rfl rfl (c_sheetAt_1) ?_
  refine zs rfl rfl rfl ?_
  refine zs rfl rfl rfl ?_
  refine zs rfl rfl rfl ?_
  refine zs rfl rfl rfl ?_
  refine zcl rfl rfl (c_isMissing_1 hS0.1) ?_
  by_cases h : B.1 1 = 0
  · rw [decide_eq_true h, if_pos h]
    refine zs rfl rfl rfl ?_
    refine zs rfl rfl rfl ?_
    refine zs rfl rfl rfl ?_
    refine zcl rfl rfl (c_refuse_5) ?_
    exact zret rfl rfl (cX_ref (c := 5) rfl Fr.rfl' hC hS)
  · rw [decide_eq_false h, if_neg h]
    refine zs rfl rfl rfl ?_
    refine zs rfl rfl rfl ?_
    refine zs rfl rfl rfl ?_
    have loop : ∀ d i M1, i + d = 13 → Fr sL M M1 → zW X 94 33 [(0, .ref 0), (1, .int (nI 1)), (2, .ref 38), (3, .int (nI i))] [] M1 N (cX M N (r_fstB S F B (fst1 (rdp S n (B.2.2 1) (B.2.1 1)) d i))) := by
      intro d
      induction d with
      | zero =>
        intro i M1 hi hf
        obtain rfl : i = 13 := by omega
        refine zs rfl rfl rfl ?_
        refine zs rfl rfl rfl ?_
        first | refine zs rfl rfl rfl ?_ | refine zbt (nI_le (a := 13) (by omega) (by omega)) rfl rfl rfl ?_
        refine zs rfl rfl rfl ?_
        refine zs rfl rfl rfl ?_
        refine zcl rfl rfl (c_refuse_3) ?_
        exact zret rfl rfl (cX_ref (c := 3) rfl (frsC hf) (hC.sc hf) (hS.fr hf (by decide)))
      | succ d ih =>
        intro i M1 hi hf
        refine zs rfl rfl rfl ?_
        refine zs rfl rfl rfl ?_
        refine zbf (nI_ge (b := 13) (by omega) (by omega)) rfl rfl rfl ?_
        refine zs rfl rfl rfl ?_
        refine zs rfl rfl rfl ?_
        refine zs rfl rfl rfl ?_
        refine zs rfl rfl rfl ?_
        refine zclQ rfl rfl (c_take_th (hC.sc hf).1) ?_
        rintro v2 M2 N2 ⟨rfl, rfl, hf2, hv2⟩
        refine zs rfl rfl rfl ?_
        refine zs rfl rfl rfl ?_
        refine zs rfl rfl rfl ?_
        refine zclQ rfl rfl (c_settle_t hv2 hO.s0 hle hO.k (nI i)) ?_
        rintro v3 M3 N3 ⟨rfl, rfl, hf3, hv3, _⟩
        have hf' : Fr sL M M3 := (hf.trans (hf2.mono (by decide))).trans (hf3.mono (by decide))
        have hS3 := hS.fr hf' (by decide)
        refine zs rfl rfl rfl ?_
        refine zs rfl rfl rfl ?_
        refine zs rfl rfl rfl ?_
        refine zcl rfl rfl (c_tellsOf_1 hS3 hB hv3 ((stl_lo S n _ (by decide)).trans hO.s0) hle) ?_
        cases hp : rdp S n (B.2.2 1) (B.2.1 1) i with
        | true =>
          have hp' : tll (B.2.2 1) (stl S n (nI i)) (min n (B.2.1 1)) 0 = true := hp
          have e : fst1 (rdp S n (B.2.2 1) (B.2.1 1)) (d + 1) i = nI i := by
            show cond _ _ _ = _
            rw [hp]; rfl
          have e2 : r_fstB S F B (nI i) = (nI i, S, F, B) := by
            unfold r_fstB
            rw [if_neg]
            intro q
            have := congrArg Int32.toInt q
            rw [nI_toInt (by omega), t_m1] at this
            omega
          rw [hp', e, e2]
          refine zs rfl rfl rfl ?_
          refine zs rfl rfl rfl ?_
          exact zret rfl rfl (cX_ok rfl (frsC hf') (hC.sc hf') hS3)
        | false =>
          have hp' : tll (B.2.2 1) (stl S n (nI i)) (min n (B.2.1 1)) 0 = false := hp
          have e : fst1 (rdp S n (B.2.2 1) (B.2.1 1)) (d + 1) i = fst1 (rdp S n (B.2.2 1) (B.2.1 1)) d (i + 1) := by
            show cond _ _ _ = _
            rw [hp]; rfl
          rw [hp', e]
          refine zs rfl rfl rfl ?_
          refine zinc rfl rfl rfl ?_
          refine zs rfl rfl rfl ?_
          exact ih (i + 1) M3 (by omega) hf'
    exact loop 13 0 M rfl Fr.rfl'
theorem c_write_2 (hC : cC M S F) (hS : cS M N B) (hB : Sok B) (i : Int32) (v : Int64) : zV X 90 [.ref 0, .int (nI 2), .int i, .long v] M N (cXL M N S (r_write F B (nI 2) i v)) := by
  refine zVi [(0, .ref 0), (1, .int (nI 2)), (2, .int i), (3, .long v), (4, .retAddr 0)] rfl ?_
  unfold r_write
  have hS0 := hS 2 (by decide)
  have hB0 := (hB 2 (by decide)).1
  rw [if_pos (by decide), nI_clamp (by decide)]
  refine zs rfl rfl rfl ?_
  refine zs rfl rfl rfl ?_
  refine zcl rfl rfl (c_sheetAt_2) ?_
  refine zs rfl rfl rfl ?_
  refine zs rfl rfl rfl ?_
  refine zs rfl rfl rfl ?_
  refine zs rfl rfl rfl ?_
  refine zcl rfl rfl (c_isMissing_2 hS0.1) ?_
  by_cases h : B.1 2 = 0
  · rw [decide_eq_true h, if_pos h]
    refine zs rfl rfl rfl ?_
    refine zs rfl rfl rfl ?_
    refine zs rfl rfl rfl ?_
    refine zcl rfl rfl (c_refuse_5) ?_
    refine zs rfl rfl rfl ?_
    exact zret rfl rfl (cW_ref (c := 5) Fr.rfl' hC hS _)
  · rw [decide_eq_false h, if_neg h]
    refine zs rfl rfl rfl ?_
    refine zs rfl rfl rfl ?_
    refine zs rfl rfl rfl ?_
    refine zs rfl rfl rfl ?_
    refine zs rfl rfl rfl ?_
    refine zto rfl hS0.2.1 ?_
    refine zs rfl rfl rfl ?_
    refine zs rfl rfl rfl ?_
    refine zcl rfl rfl (c_isIn i 0 (nI (B.2.1 2) - 1)) ?_
    by_cases h2 : 0 ≤ i ∧ i ≤ nI (B.2.1 2) - 1
    · rw [decide_eq_true h2, if_pos h2]
      obtain ⟨a, ha, rfl⟩ := nI_of (i_nlt.mpr h2.1)
      have ha2 : a < B.2.1 2 := by
        have q := i_le.mp h2.2
        rw [nI_toInt ha] at q
        cases hl : B.2.1 2 with
        | zero =>
          rw [hl] at q
          have e : (nI 0 - 1 : Int32).toInt = -1 := by decide
          rw [e] at q; omega
        | succ l =>
          rw [hl, nI_pred, nI_toInt (by omega)] at q; omega
      rw [nI_clamp ha]
      refine zs rfl rfl rfl ?_
      refine zs rfl rfl rfl ?_
      refine zs rfl rfl rfl ?_
      refine zs rfl rfl rfl ?_
      refine zlal rfl rfl rfl rfl (by omega) (by decide) ?_
      refine ztoL rfl (hS0.2.2 a (by omega)) ?_
      refine zs rfl rfl rfl ?_
      refine zs rfl rfl rfl ?_
      refine zs rfl rfl rfl ?_
      refine zs rfl rfl rfl ?_
      refine zcl rfl rfl (c_putS_2 (by omega) hS0.1 v) ?_
      refine zs rfl rfl rfl ?_
      refine zret rfl rfl ⟨rfl, Fr.rfl', hC.1, hC.2, ?_, z_upL_ne N _ _ (by decide)⟩
      refine hS.up (t := 2) (by decide) (fun b hb => z_upL_ne N _ _ hb) (fun k hk => ?_)
      show z_upL N 41 a _ 41 k = if k = a then _ else _
      rw [upL_a, ← hS0.2.2 k hk]
    · rw [decide_eq_false h2, if_neg h2]
      refine zs rfl rfl rfl ?_
      refine zs rfl rfl rfl ?_
      refine zs rfl rfl rfl ?_
      refine zcl rfl rfl (c_refuse_0) ?_
      refine zs rfl rfl rfl ?_
      exact zret rfl rfl (cW_ref (c := 0) Fr.rfl' hC hS _)
theorem c_lays_2 (hC : cC M S F) (hS : cS M N B) (hB : Sok B) : zV X 92 [.ref 0, .int (nI 2)] M N (cX M N (r_lays S F B (nI 2))) := by
  refine zVi [(0, .ref 0), (1, .int (nI 2))] rfl ?_
  unfold r_lays
  have hS0 := hS 2 (by decide)
  have hB0 := (hB 2 (by decide)).1
  rw [if_pos (by decide), nI_clamp (by decide)]
  refine zs rfl rfl rfl ?_
  refine zs rfl rfl rfl ?_
  refine zcl rfl rfl (c_sheetAt_2) ?_
  refine zs rfl rfl rfl ?_
  refine zs rfl rfl rfl ?_
  refine zs rfl rfl rfl ?_
  refine zs rfl rfl rfl ?_
  refine zcl rfl rfl (c_isMissing_2 hS0.1) ?_
  by_cases h : B.1 2 = 0
  · rw [decide_eq_true h, if_pos h]
    refine zs rfl rfl rfl ?_
    refine zs rfl rfl rfl ?_
    refine zs rfl rfl rfl ?_
    refine zcl rfl rfl (c_refuse_5) ?_
    exact zret rfl rfl (cX_ref (c := 5) rfl Fr.rfl' hC hS)
  · rw [decide_eq_false h, if_neg h]
    refine zs rfl rfl rfl ?_
    refine zs rfl rfl rfl ?_
    refine zs rfl rfl rfl ?_
    refine zs rfl rfl rfl ?_
    refine zs rfl rfl rfl ?_
    have loop : ∀ d i M1 tl, i + d = min 13 (B.2.1 2) → (tl = [] ∨ ∃ a : Int64, tl = [(5, Value.long a), (6, Value.retAddr 0)]) → Fr [3] M M1 → Vw M1 1 (lys (B.2.2 2) S i) → zW X 92 36 ((0, .ref 0) :: (1, .int (nI 2)) :: (2, .ref 40) :: (3, .int (nI (lyc (B.2.2 2) i))) :: (4, .int (nI i)) :: tl) [] M1 N (cX M N (nI (lyc (B.2.2 2) (min 13 (B.2.1 2))), lys (B.2.2 2) S (min 13 (B.2.1 2)), F, B)) := by
      intro d
      induction d with
      | zero =>
        intro i M1 tl hi htl hf hv1
        have hl : M1 40 2 = nI (B.2.1 2) := by rw [hf 40 (by decide)]; exact hS0.2.1
        have fin : zW X 92 99 ((0, .ref 0) :: (1, .int (nI 2)) :: (2, .ref 40) :: (3, .int (nI (lyc (B.2.2 2) i))) :: (4, .int (nI i)) :: tl) [] M1 N (cX M N (nI (lyc (B.2.2 2) (min 13 (B.2.1 2))), lys (B.2.2 2) S (min 13 (B.2.1 2)), F, B)) := by
          rw [← hi, Nat.add_zero]
          rcases htl with rfl | ⟨a, rfl⟩
          · refine zs rfl rfl rfl ?_
            exact zret rfl rfl (cX_ok rfl (hf.mono (by decide)) ⟨hv1, hC.hF hf (by decide)⟩ (hS.fr hf (by decide)))
          · refine zs rfl rfl rfl ?_
            exact zret rfl rfl (cX_ok rfl (hf.mono (by decide)) ⟨hv1, hC.hF hf (by decide)⟩ (hS.fr hf (by decide)))
        by_cases h13 : i = 13
        · subst h13
          rcases htl with rfl | ⟨a, rfl⟩
          · refine zs rfl rfl rfl ?_
            refine zs rfl rfl rfl ?_
            refine zs rfl rfl rfl ?_
            exact fin
          · refine zs rfl rfl rfl ?_
            refine zs rfl rfl rfl ?_
            refine zs rfl rfl rfl ?_
            exact fin
        · rcases htl with rfl | ⟨a, rfl⟩
          · refine zs rfl rfl rfl ?_
            refine zs rfl rfl rfl ?_
            refine zbf (nI_ge (b := 13) (by omega) (by omega)) rfl rfl rfl ?_
            refine zs rfl rfl rfl ?_
            refine zs rfl rfl rfl ?_
            refine zs rfl rfl rfl ?_
            refine zto rfl hl ?_
            refine zbt (nI_le (by omega) (by omega)) rfl rfl rfl ?_
            exact fin
          · refine zs rfl rfl rfl ?_
            refine zs rfl rfl rfl ?_
            refine zbf (nI_ge (b := 13) (by omega) (by omega)) rfl rfl rfl ?_
            refine zs rfl rfl rfl ?_
            refine zs rfl rfl rfl ?_
            refine zs rfl rfl rfl ?_
            refine zto rfl hl ?_
            refine zbt (nI_le (by omega) (by omega)) rfl rfl rfl ?_
            exact fin
      | succ d ih =>
        intro i M1 tl hi htl hf hv1
        have hl : M1 40 2 = nI (B.2.1 2) := by rw [hf 40 (by decide)]; exact hS0.2.1
        have hi13 : i < 13 := by omega
        have hil : i < B.2.1 2 := by omega
        have tail : zW X 92 61 [(0, .ref 0), (1, .int (nI 2)), (2, .ref 40), (3, .int (nI (lyc (B.2.2 2) i))), (4, .int (nI i)), (5, .long (B.2.2 2 i)), (6, .retAddr 0)] [] M1 N (cX M N (nI (lyc (B.2.2 2) (min 13 (B.2.1 2))), lys (B.2.2 2) S (min 13 (B.2.1 2)), F, B)) := by
          refine zs rfl rfl rfl ?_
          refine zs rfl rfl rfl ?_
          refine zs rfl rfl rfl ?_
          refine zbr rfl rfl rfl (fun hc => ?_) (fun hc => ?_)
          · have hno : ¬ (0 ≤ B.2.2 2 i ∧ B.2.2 2 i ≤ 99) := fun q => Int64.not_lt.mpr q.1 ((lg_cmp_lt _ _).mp hc)
            have ih' := ih (i + 1) M1 [(5, .long (B.2.2 2 i)), (6, .retAddr 0)] (by omega) (Or.inr ⟨_, rfl⟩) hf (by rw [lys, if_neg hno]; exact hv1)
            rw [show lyc (B.2.2 2) (i + 1) = lyc (B.2.2 2) i from cnt_f (decide_eq_false hno)] at ih'
            refine zinc rfl rfl rfl ?_
            refine zs rfl rfl rfl ?_
            exact ih'
          · refine zs rfl rfl rfl ?_
            refine zs rfl rfl rfl ?_
            refine zs rfl rfl rfl ?_
            refine zbr rfl rfl rfl (fun hd => ?_) (fun hd => ?_)
            · have hno : ¬ (0 ≤ B.2.2 2 i ∧ B.2.2 2 i ≤ 99) := fun q => Int64.not_lt.mpr q.2 ((lg_cmp_gt _ _).mp hd)
              have ih' := ih (i + 1) M1 [(5, .long (B.2.2 2 i)), (6, .retAddr 0)] (by omega) (Or.inr ⟨_, rfl⟩) hf (by rw [lys, if_neg hno]; exact hv1)
              rw [show lyc (B.2.2 2) (i + 1) = lyc (B.2.2 2) i from cnt_f (decide_eq_false hno)] at ih'
              refine zinc rfl rfl rfl ?_
              refine zs rfl rfl rfl ?_
              exact ih'
            · have hyes : 0 ≤ B.2.2 2 i ∧ B.2.2 2 i ≤ 99 := ⟨Int64.not_lt.mp (fun q => hc ((lg_cmp_lt _ _).mpr q)), Int64.not_lt.mp (fun q => hd ((lg_cmp_gt _ _).mpr q))⟩
              have ih' := ih (i + 1) (z_up M1 3 i (B.2.2 2 i).toInt32) [(5, .long (B.2.2 2 i)), (6, .retAddr 0)] (by omega) (Or.inr ⟨_, rfl⟩) (hf.trans (Fr.up (by decide))) (by rw [lys, if_pos hyes]; exact hv1.upo hi13 _)
              rw [show lyc (B.2.2 2) (i + 1) = lyc (B.2.2 2) i + 1 from cnt_t (decide_eq_true hyes)] at ih'
              refine zs rfl rfl rfl ?_
              refine zs rfl rfl rfl ?_
              refine zs rfl rfl rfl ?_
              refine zs rfl rfl rfl ?_
              refine zs rfl rfl rfl ?_
              refine zs rfl rfl rfl ?_
              refine zas rfl rfl rfl rfl (by omega) (by decide) ?_
              refine zinc rfl rfl rfl ?_
              refine zinc rfl rfl rfl ?_
              refine zs rfl rfl rfl ?_
              exact ih'
        rcases htl with rfl | ⟨a, rfl⟩
        · refine zs rfl rfl rfl ?_
          refine zs rfl rfl rfl ?_
          refine zbf (nI_ge (b := 13) (by omega) (by omega)) rfl rfl rfl ?_
          refine zs rfl rfl rfl ?_
          refine zs rfl rfl rfl ?_
          refine zs rfl rfl rfl ?_
          refine zto rfl hl ?_
          refine zbf (nI_ge (by omega) (by omega)) rfl rfl rfl ?_
          refine zs rfl rfl rfl ?_
          refine zs rfl rfl rfl ?_
          refine zs rfl rfl rfl ?_
          refine zlal rfl rfl rfl rfl (by omega) (by decide) ?_
          refine ztoL rfl (hS0.2.2 i (by omega)) ?_
          refine zs rfl rfl rfl ?_
          exact tail
        · refine zs rfl rfl rfl ?_
          refine zs rfl rfl rfl ?_
          refine zbf (nI_ge (b := 13) (by omega) (by omega)) rfl rfl rfl ?_
          refine zs rfl rfl rfl ?_
          refine zs rfl rfl rfl ?_
          refine zs rfl rfl rfl ?_
          refine zto rfl hl ?_
          refine zbf (nI_ge (by omega) (by omega)) rfl rfl rfl ?_
          refine zs rfl rfl rfl ?_
          refine zs rfl rfl rfl ?_
          refine zs rfl rfl rfl ?_
          refine zlal rfl rfl rfl rfl (by omega) (by decide) ?_
          refine ztoL rfl (hS0.2.2 i (by omega)) ?_
          refine zs rfl rfl rfl ?_
          exact tail
    exact loop (min 13 (B.2.1 2)) 0 M [] (Nat.zero_add _) (Or.inl rfl) Fr.rfl' hC.1
theorem c_dawn_2 (hC : cC M S F) (hS : cS M N B) (hB : Sok B) (hO : Ok S n) : zV X 93 [.ref 0, .int (nI 2)] M N (cX M N (r_dawn S F n B (nI 2))) := by
  refine zVi [(0, .ref 0), (1, .int (nI 2))] rfl ?_
  unfold r_dawn
  have hS0 := hS 2 (by decide)
  have hB0 := (hB 2 (by decide)).1
  have hle := hO.le
  have hn0 := hC.n0 hO
  have hv := hC.1
  rw [if_pos (by decide), nI_clamp (by decide)]
  refine zs rfl rfl rfl ?_
  refine zs rfl rfl rfl ?_
  refine zcl rfl rfl (c_sheetAt_2) ?_
  refine zs rfl rfl rfl ?_
  refine zs rfl rfl rfl ?_
  refine zs rfl rfl rfl ?_
  refine zs rfl rfl rfl ?_
  refine zcl rfl rfl (c_isMissing_2 hS0.1) ?_
  by_cases h : B.1 2 = 0
  · rw [decide_eq_true h, if_pos h]
    refine zs rfl rfl rfl ?_
    refine zs rfl rfl rfl ?_
    refine zs rfl rfl rfl ?_
    refine zcl rfl rfl (c_refuse_5) ?_
    exact zret rfl rfl (cX_ref (c := 5) rfl Fr.rfl' hC hS)
  · rw [decide_eq_false h, if_neg h]
    have emin : (if nI (B.2.1 2) < nI n then nI (B.2.1 2) else nI n) = nI (min n (B.2.1 2)) := by
      by_cases q : B.2.1 2 < n
      · rw [if_pos (nI_lt q (by omega)), Nat.min_eq_right (by omega)]
      · rw [if_neg (nI_nlt (by omega) (by omega)), Nat.min_eq_left (by omega)]
    refine zs rfl rfl rfl ?_
    refine zs rfl rfl rfl ?_
    refine zs rfl rfl rfl ?_
    refine zs rfl rfl rfl ?_
    try refine zto rfl hn0 ?_
    refine zs rfl rfl rfl ?_
    refine zs rfl rfl rfl ?_
    refine zto rfl hS0.2.1 ?_
    refine zs rfl rfl rfl ?_
    refine zto rfl emin ?_
    refine zs rfl rfl rfl ?_
    refine zs rfl rfl rfl ?_
    refine zs rfl rfl rfl ?_
    have loop : ∀ d i N1, i + d = min n (B.2.1 2) → (∀ b, b ≠ 41 → N1 b = N b) → (∀ k, k < 40 → N1 41 k = dwn (B.1 2) S (B.2.2 2) i k) → zW X 93 49 [(0, .ref 0), (1, .int (nI 2)), (2, .ref 40), (3, .int (nI (min n (B.2.1 2)))), (4, .int (nI i))] [] M N1 (cX M N (nI (min n (B.2.1 2)), S, F, B.1, B.2.1, up' B.2.2 2 (dwn (B.1 2) S (B.2.2 2) (min n (B.2.1 2))))) := by
      intro d
      induction d with
      | zero =>
        intro i N1 hi h1 h2
        rw [Nat.add_zero] at hi
        rw [← hi]
        refine zs rfl rfl rfl ?_
        refine zs rfl rfl rfl ?_
        refine zbt (nI_le (by omega) (by omega)) rfl rfl rfl ?_
        refine zs rfl rfl rfl ?_
        exact zret rfl rfl (cX_ok rfl Fr.rfl' hC (hS.up (t := 2) (by decide) h1 h2) (h1 54 (by decide)))
      | succ d ih =>
        intro i N1 hi h1 h2
        refine zs rfl rfl rfl ?_
        refine zs rfl rfl rfl ?_
        refine zbf (nI_ge (by omega) (by omega)) rfl rfl rfl ?_
        refine zs rfl rfl rfl ?_
        refine zs rfl rfl rfl ?_
        refine zs rfl rfl rfl ?_
        refine zs rfl rfl rfl ?_
        refine zs rfl rfl rfl ?_
        refine zs rfl rfl rfl ?_
        refine zal rfl rfl rfl (by omega) (by decide) ?_
        try refine zto rfl (Vw.fl (by assumption) _ (by omega)) ?_
        refine zs rfl rfl rfl ?_
        refine zcl rfl rfl (c_putS_2 (i := i) (by omega) hS0.1 (lk S i).toInt64) ?_
        refine zinc rfl rfl rfl ?_
        refine zs rfl rfl rfl ?_
        refine ih (i + 1) _ (by omega) (fun b hb => (z_upL_ne N1 _ _ hb).trans (h1 b hb)) (fun k hk => ?_)
        rw [upL_a]
        show _ = if k = i then _ else _
        rw [h2 k hk]
    exact loop (min n (B.2.1 2)) 0 N (Nat.zero_add _) (fun _ _ => rfl) hS0.2.2
theorem c_tellsOf_2 {T : zS} (hS : cS M N B) (hB : Sok B) (hv : Vw M 19 T) (hn : T 0 = nI n) (hle : n ≤ 12) : zE1 X 108 [.ref 40, .ref 19] M N (some (.int (bI (tll (B.2.2 2) T (min n (B.2.1 2)) 0)))) M N := by
  refine zE1i [(0, .ref 40), (1, .ref 19)] rfl ?_
  have hS0 := hS 2 (by decide)
  have hB0 := (hB 2 (by decide)).1
  have hn0 : M 19 8 = nI n := hv.s0.trans hn
  refine zs rfl rfl rfl ?_
  refine zs rfl rfl rfl ?_
  have loop : ∀ d i, i + d = min n (B.2.1 2) → zW X 108 2 [(0, .ref 40), (1, .ref 19), (2, .int (nI i))] [] M N (fun v M' N' => v = some (.int (bI (tll (B.2.2 2) T d i))) ∧ M' = M ∧ N' = N) := by
    intro d
    induction d with
    | zero =>
      intro i hi
      by_cases hl : B.2.1 2 ≤ i
      · refine zs rfl rfl rfl ?_
        refine zs rfl rfl rfl ?_
        refine zs rfl rfl rfl ?_
        refine zto rfl hS0.2.1 ?_
        refine zbt (nI_le (by omega) (by omega)) rfl rfl rfl ?_
        refine zs rfl rfl rfl ?_
        exact zret rfl rfl ⟨rfl, rfl, rfl⟩
      · refine zs rfl rfl rfl ?_
        refine zs rfl rfl rfl ?_
        refine zs rfl rfl rfl ?_
        refine zto rfl hS0.2.1 ?_
        refine zbf (nI_ge (by omega) (by omega)) rfl rfl rfl ?_
        refine zs rfl rfl rfl ?_
        refine zs rfl rfl rfl ?_
        refine zs rfl rfl rfl ?_
        try refine zto rfl hn0 ?_
        refine zbt (nI_le (by omega) (by omega)) rfl rfl rfl ?_
        refine zs rfl rfl rfl ?_
        exact zret rfl rfl ⟨rfl, rfl, rfl⟩
    | succ d ih =>
      intro i hi
      unfold tll
      refine zs rfl rfl rfl ?_
      refine zs rfl rfl rfl ?_
      refine zs rfl rfl rfl ?_
      refine zto rfl hS0.2.1 ?_
      refine zbf (nI_ge (by omega) (by omega)) rfl rfl rfl ?_
      refine zs rfl rfl rfl ?_
      refine zs rfl rfl rfl ?_
      refine zs rfl rfl rfl ?_
      try refine zto rfl hn0 ?_
      refine zbf (nI_ge (by omega) (by omega)) rfl rfl rfl ?_
      refine zs rfl rfl rfl ?_
      refine zs rfl rfl rfl ?_
      refine zs rfl rfl rfl ?_
      refine zlal rfl rfl rfl rfl (by omega) (by decide) ?_
      refine ztoL rfl (hS0.2.2 i (by omega)) ?_
      refine zs rfl rfl rfl ?_
      refine zs rfl rfl rfl ?_
      refine zs rfl rfl rfl ?_
      refine zal rfl rfl rfl (by omega) (by decide) ?_
      try refine zto rfl (Vw.fl (by assumption) _ (by omega)) ?_
      refine zs rfl rfl rfl ?_
      refine zs rfl rfl rfl ?_
      refine zbr rfl rfl rfl (fun hc => ?_) (fun hc => ?_)
      · rw [decide_eq_true ((lg_cmp_eq _ _).mp hc)]
        refine zinc rfl rfl rfl ?_
        refine zs rfl rfl rfl ?_
        exact ih (i + 1) (by omega)
      · rw [decide_eq_false (fun q => hc ((lg_cmp_eq _ _).mpr q))]
        refine zs rfl rfl rfl ?_
        exact zret rfl rfl ⟨rfl, rfl, rfl⟩
  exact loop (min n (B.2.1 2)) 0 (Nat.zero_add _)
theorem c_read_2 (hC : cC M S F) (hS : cS M N B) (hB : Sok B) (hO : Ok S n) : zV X 94 [.ref 0, .int (nI 2)] M N (cX M N (r_read S F n B (nI 2))) := by
  refine zVi [(0, .ref 0), (1, .int (nI 2))] rfl ?_
  unfold r_read
  have hS0 := hS 2 (by decide)
  have hle := hO.le
  rw [if_pos (by decide), nI_clamp (by decide)]
  refine zs rfl rfl rfl ?_
  refine zs rfl rfl rfl ?_
  refine zcl rfl rfl (c_sheetAt_2) ?_
  refine zs rfl rfl rfl ?_
  refine zs rfl rfl rfl ?_
  refine zs rfl rfl rfl ?_
  refine zs rfl rfl rfl ?_
  refine zcl rfl rfl (c_isMissing_2 hS0.1) ?_
  by_cases h : B.1 2 = 0
  · rw [decide_eq_true h, if_pos h]
    refine zs rfl rfl rfl ?_
    refine zs rfl rfl rfl ?_
    refine zs rfl rfl rfl ?_
    refine zcl rfl rfl (c_refuse_5) ?_
    exact zret rfl rfl (cX_ref (c := 5) rfl Fr.rfl' hC hS)
  · rw [decide_eq_false h, if_neg h]
    refine zs rfl rfl rfl ?_
    refine zs rfl rfl rfl ?_
    refine zs rfl rfl rfl ?_
    have loop : ∀ d i M1, i + d = 13 → Fr sL M M1 → zW X 94 33 [(0, .ref 0), (1, .int (nI 2)), (2, .ref 40), (3, .int (nI i))] [] M1 N (cX M N (r_fstB S F B (fst1 (rdp S n (B.2.2 2) (B.2.1 2)) d i))) := by
      intro d
      induction d with
      | zero =>
        intro i M1 hi hf
        obtain rfl : i = 13 := by omega
        refine zs rfl rfl rfl ?_
        refine zs rfl rfl rfl ?_
        first | refine zs rfl rfl rfl ?_ | refine zbt (nI_le (a := 13) (by omega) (by omega)) rfl rfl rfl ?_
        refine zs rfl rfl rfl ?_
        refine zs rfl rfl rfl ?_
        refine zcl rfl rfl (c_refuse_3) ?_
        exact zret rfl rfl (cX_ref (c := 3) rfl (frsC hf) (hC.sc hf) (hS.fr hf (by decide)))
      | succ d ih =>
        intro i M1 hi hf
        refine zs rfl rfl rfl ?_
        refine zs rfl rfl rfl ?_
        refine zbf (nI_ge (b := 13) (by omega) (by omega)) rfl rfl rfl ?_
        refine zs rfl rfl rfl ?_
        refine zs rfl rfl rfl ?_
        refine zs rfl rfl rfl ?_
        refine zs rfl rfl rfl ?_
        refine zclQ rfl rfl (c_take_th (hC.sc hf).1) ?_
        rintro v2 M2 N2 ⟨rfl, rfl, hf2, hv2⟩
        refine zs rfl rfl rfl ?_
        refine zs rfl rfl rfl ?_
        refine zs rfl rfl rfl ?_
        refine zclQ rfl rfl (c_settle_t hv2 hO.s0 hle hO.k (nI i)) ?_
        rintro v3 M3 N3 ⟨rfl, rfl, hf3, hv3, _⟩
        have hf' : Fr sL M M3 := (hf.trans (hf2.mono (by decide))).trans (hf3.mono (by decide))
        have hS3 := hS.fr hf' (by decide)
        refine zs rfl rfl rfl ?_
        refine zs rfl rfl rfl ?_
        refine zs rfl rfl rfl ?_
        refine zcl rfl rfl (c_tellsOf_2 hS3 hB hv3 ((stl_lo S n _ (by decide)).trans hO.s0) hle) ?_
        cases hp : rdp S n (B.2.2 2) (B.2.1 2) i with
        | true =>
          have hp' : tll (B.2.2 2) (stl S n (nI i)) (min n (B.2.1 2)) 0 = true := hp
          have e : fst1 (rdp S n (B.2.2 2) (B.2.1 2)) (d + 1) i = nI i := by
            show cond _ _ _ = _
            rw [hp]; rfl
          have e2 : r_fstB S F B (nI i) = (nI i, S, F, B) := by
            unfold r_fstB
            rw [if_neg]
            intro q
            have := congrArg Int32.toInt q
            rw [nI_toInt (by omega), t_m1] at this
            omega
          rw [hp', e, e2]
          refine zs rfl rfl rfl ?_
          refine zs rfl rfl rfl ?_
          exact zret rfl rfl (cX_ok rfl (frsC hf') (hC.sc hf') hS3)
        | false =>
          have hp' : tll (B.2.2 2) (stl S n (nI i)) (min n (B.2.1 2)) 0 = false := hp
          have e : fst1 (rdp S n (B.2.2 2) (B.2.1 2)) (d + 1) i = fst1 (rdp S n (B.2.2 2) (B.2.1 2)) d (i + 1) := by
            show cond _ _ _ = _
            rw [hp]; rfl
          rw [hp', e]
          refine zs rfl rfl rfl ?_
          refine zinc rfl rfl rfl ?_
          refine zs rfl rfl rfl ?_
          exact ih (i + 1) M3 (by omega) hf'
    exact loop 13 0 M rfl Fr.rfl'
theorem c_write_3 (hC : cC M S F) (hS : cS M N B) (hB : Sok B) (i : Int32) (v : Int64) : zV X 90 [.ref 0, .int (nI 3), .int i, .long v] M N (cXL M N S (r_write F B (nI 3) i v)) := by
  refine zVi [(0, .ref 0), (1, .int (nI 3)), (2, .int i), (3, .long v), (4, .retAddr 0)] rfl ?_
  unfold r_write
  have hS0 := hS 3 (by decide)
  have hB0 := (hB 3 (by decide)).1
  rw [if_pos (by decide), nI_clamp (by decide)]
  refine zs rfl rfl rfl ?_
  refine zs rfl rfl rfl ?_
  refine zcl rfl rfl (c_sheetAt_3) ?_
  refine zs rfl rfl rfl ?_
  refine zs rfl rfl rfl ?_
  refine zs rfl rfl rfl ?_
  refine zs rfl rfl rfl ?_
  refine zcl rfl rfl (c_isMissing_3 hS0.1) ?_
  by_cases h : B.1 3 = 0
  · rw [decide_eq_true h, if_pos h]
    refine zs rfl rfl rfl ?_
    refine zs rfl rfl rfl ?_
    refine zs rfl rfl rfl ?_
    refine zcl rfl rfl (c_refuse_5) ?_
    refine zs rfl rfl rfl ?_
    exact zret rfl rfl (cW_ref (c := 5) Fr.rfl' hC hS _)
  · rw [decide_eq_false h, if_neg h]
    refine zs rfl rfl rfl ?_
    refine zs rfl rfl rfl ?_
    refine zs rfl rfl rfl ?_
    refine zs rfl rfl rfl ?_
    refine zs rfl rfl rfl ?_
    refine zto rfl hS0.2.1 ?_
    refine zs rfl rfl rfl ?_
    refine zs rfl rfl rfl ?_
    refine zcl rfl rfl (c_isIn i 0 (nI (B.2.1 3) - 1)) ?_
    by_cases h2 : 0 ≤ i ∧ i ≤ nI (B.2.1 3) - 1
    · rw [decide_eq_true h2, if_pos h2]
      obtain ⟨a, ha, rfl⟩ := nI_of (i_nlt.mpr h2.1)
      have ha2 : a < B.2.1 3 := by
        have q := i_le.mp h2.2
        rw [nI_toInt ha] at q
        cases hl : B.2.1 3 with
        | zero =>
          rw [hl] at q
          have e : (nI 0 - 1 : Int32).toInt = -1 := by decide
          rw [e] at q; omega
        | succ l =>
          rw [hl, nI_pred, nI_toInt (by omega)] at q; omega
      rw [nI_clamp ha]
      refine zs rfl rfl rfl ?_
      refine zs rfl rfl rfl ?_
      refine zs rfl rfl rfl ?_
      refine zs rfl rfl rfl ?_
      refine zlal rfl rfl rfl rfl (by omega) (by decide) ?_
      refine ztoL rfl (hS0.2.2 a (by omega)) ?_
      refine zs rfl rfl rfl ?_
      refine zs rfl rfl rfl ?_
      refine zs rfl rfl rfl ?_
      refine zs rfl rfl rfl ?_
      refine zcl rfl rfl (c_putS_3 (by omega) hS0.1 v) ?_
      refine zs rfl rfl rfl ?_
      refine zret rfl rfl ⟨rfl, Fr.rfl', hC.1, hC.2, ?_, z_upL_ne N _ _ (by decide)⟩
      refine hS.up (t := 3) (by decide) (fun b hb => z_upL_ne N _ _ hb) (fun k hk => ?_)
      show z_upL N 43 a _ 43 k = if k = a then _ else _
      rw [upL_a, ← hS0.2.2 k hk]
    · rw [decide_eq_false h2, if_neg h2]
      refine zs rfl rfl rfl ?_
      refine zs rfl rfl rfl ?_
      refine zs rfl rfl rfl ?_
      refine zcl rfl rfl (c_refuse_0) ?_
      refine zs rfl rfl rfl ?_
      exact zret rfl rfl (cW_ref (c := 0) Fr.rfl' hC hS _)
theorem c_lays_3 (hC : cC M S F) (hS : cS M N B) (hB : Sok B) : zV X 92 [.ref 0, .int (nI 3)] M N (cX M N (r_lays S F B (nI 3))) := by
  refine zVi [(0, .ref 0), (1, .int (nI 3))] rfl ?_
  unfold r_lays
  have hS0 := hS 3 (by decide)
  have hB0 := (hB 3 (by decide)).1
  rw [if_pos (by decide), nI_clamp (by decide)]
  refine zs rfl rfl rfl ?_
  refine zs rfl rfl rfl ?_
  refine zcl rfl rfl (c_sheetAt_3) ?_
  refine zs rfl rfl rfl ?_
  refine zs rfl rfl rfl ?_
  refine zs rfl rfl rfl ?_
  refine zs rfl rfl rfl ?_
  refine zcl rfl rfl (c_isMissing_3 hS0.1) ?_
  by_cases h : B.1 3 = 0
  · rw [decide_eq_true h, if_pos h]
    refine zs rfl rfl rfl ?_
    refine zs rfl rfl rfl ?_
    refine zs rfl rfl rfl ?_
    refine zcl rfl rfl (c_refuse_5) ?_
    exact zret rfl rfl (cX_ref (c := 5) rfl Fr.rfl' hC hS)
  · rw [decide_eq_false h, if_neg h]
    refine zs rfl rfl rfl ?_
    refine zs rfl rfl rfl ?_
    refine zs rfl rfl rfl ?_
    refine zs rfl rfl rfl ?_
    refine zs rfl rfl rfl ?_
    have loop : ∀ d i M1 tl, i + d = min 13 (B.2.1 3) → (tl = [] ∨ ∃ a : Int64, tl = [(5, Value.long a), (6, Value.retAddr 0)]) → Fr [3] M M1 → Vw M1 1 (lys (B.2.2 3) S i) → zW X 92 36 ((0, .ref 0) :: (1, .int (nI 3)) :: (2, .ref 42) :: (3, .int (nI (lyc (B.2.2 3) i))) :: (4, .int (nI i)) :: tl) [] M1 N (cX M N (nI (lyc (B.2.2 3) (min 13 (B.2.1 3))), lys (B.2.2 3) S (min 13 (B.2.1 3)), F, B)) := by
      intro d
      induction d with
      | zero =>
        intro i M1 tl hi htl hf hv1
        have hl : M1 42 2 = nI (B.2.1 3) := by rw [hf 42 (by decide)]; exact hS0.2.1
        have fin : zW X 92 99 ((0, .ref 0) :: (1, .int (nI 3)) :: (2, .ref 42) :: (3, .int (nI (lyc (B.2.2 3) i))) :: (4, .int (nI i)) :: tl) [] M1 N (cX M N (nI (lyc (B.2.2 3) (min 13 (B.2.1 3))), lys (B.2.2 3) S (min 13 (B.2.1 3)), F, B)) := by
          rw [← hi, Nat.add_zero]
          rcases htl with rfl | ⟨a, rfl⟩
          · refine zs rfl rfl rfl ?_
            exact zret rfl rfl (cX_ok rfl (hf.mono (by decide)) ⟨hv1, hC.hF hf (by decide)⟩ (hS.fr hf (by decide)))
          · refine zs rfl rfl rfl ?_
            exact zret rfl rfl (cX_ok rfl (hf.mono (by decide)) ⟨hv1, hC.hF hf (by decide)⟩ (hS.fr hf (by decide)))
        by_cases h13 : i = 13
        · subst h13
          rcases htl with rfl | ⟨a, rfl⟩
          · refine zs rfl rfl rfl ?_
            refine zs rfl rfl rfl ?_
            refine zs rfl rfl rfl ?_
            exact fin
          · refine zs rfl rfl rfl ?_
            refine zs rfl rfl rfl ?_
            refine zs rfl rfl rfl ?_
            exact fin
        · rcases htl with rfl | ⟨a, rfl⟩
          · refine zs rfl rfl rfl ?_
            refine zs rfl rfl rfl ?_
            refine zbf (nI_ge (b := 13) (by omega) (by omega)) rfl rfl rfl ?_
            refine zs rfl rfl rfl ?_
            refine zs rfl rfl rfl ?_
            refine zs rfl rfl rfl ?_
            refine zto rfl hl ?_
            refine zbt (nI_le (by omega) (by omega)) rfl rfl rfl ?_
            exact fin
          · refine zs rfl rfl rfl ?_
            refine zs rfl rfl rfl ?_
            refine zbf (nI_ge (b := 13) (by omega) (by omega)) rfl rfl rfl ?_
            refine zs rfl rfl rfl ?_
            refine zs rfl rfl rfl ?_
            refine zs rfl rfl rfl ?_
            refine zto rfl hl ?_
            refine zbt (nI_le (by omega) (by omega)) rfl rfl rfl ?_
            exact fin
      | succ d ih =>
        intro i M1 tl hi htl hf hv1
        have hl : M1 42 2 = nI (B.2.1 3) := by rw [hf 42 (by decide)]; exact hS0.2.1
        have hi13 : i < 13 := by omega
        have hil : i < B.2.1 3 := by omega
        have tail : zW X 92 61 [(0, .ref 0), (1, .int (nI 3)), (2, .ref 42), (3, .int (nI (lyc (B.2.2 3) i))), (4, .int (nI i)), (5, .long (B.2.2 3 i)), (6, .retAddr 0)] [] M1 N (cX M N (nI (lyc (B.2.2 3) (min 13 (B.2.1 3))), lys (B.2.2 3) S (min 13 (B.2.1 3)), F, B)) := by
          refine zs rfl rfl rfl ?_
          refine zs rfl rfl rfl ?_
          refine zs rfl rfl rfl ?_
          refine zbr rfl rfl rfl (fun hc => ?_) (fun hc => ?_)
          · have hno : ¬ (0 ≤ B.2.2 3 i ∧ B.2.2 3 i ≤ 99) := fun q => Int64.not_lt.mpr q.1 ((lg_cmp_lt _ _).mp hc)
            have ih' := ih (i + 1) M1 [(5, .long (B.2.2 3 i)), (6, .retAddr 0)] (by omega) (Or.inr ⟨_, rfl⟩) hf (by rw [lys, if_neg hno]; exact hv1)
            rw [show lyc (B.2.2 3) (i + 1) = lyc (B.2.2 3) i from cnt_f (decide_eq_false hno)] at ih'
            refine zinc rfl rfl rfl ?_
            refine zs rfl rfl rfl ?_
            exact ih'
          · refine zs rfl rfl rfl ?_
            refine zs rfl rfl rfl ?_
            refine zs rfl rfl rfl ?_
            refine zbr rfl rfl rfl (fun hd => ?_) (fun hd => ?_)
            · have hno : ¬ (0 ≤ B.2.2 3 i ∧ B.2.2 3 i ≤ 99) := fun q => Int64.not_lt.mpr q.2 ((lg_cmp_gt _ _).mp hd)
              have ih' := ih (i + 1) M1 [(5, .long (B.2.2 3 i)), (6, .retAddr 0)] (by omega) (Or.inr ⟨_, rfl⟩) hf (by rw [lys, if_neg hno]; exact hv1)
              rw [show lyc (B.2.2 3) (i + 1) = lyc (B.2.2 3) i from cnt_f (decide_eq_false hno)] at ih'
              refine zinc rfl rfl rfl ?_
              refine zs rfl rfl rfl ?_
              exact ih'
            · have hyes : 0 ≤ B.2.2 3 i ∧ B.2.2 3 i ≤ 99 := ⟨Int64.not_lt.mp (fun q => hc ((lg_cmp_lt _ _).mpr q)), Int64.not_lt.mp (fun q => hd ((lg_cmp_gt _ _).mpr q))⟩
              have ih' := ih (i + 1) (z_up M1 3 i (B.2.2 3 i).toInt32) [(5, .long (B.2.2 3 i)), (6, .retAddr 0)] (by omega) (Or.inr ⟨_, rfl⟩) (hf.trans (Fr.up (by decide))) (by rw [lys, if_pos hyes]; exact hv1.upo hi13 _)
              rw [show lyc (B.2.2 3) (i + 1) = lyc (B.2.2 3) i + 1 from cnt_t (decide_eq_true hyes)] at ih'
              refine zs rfl rfl rfl ?_
              refine zs rfl rfl rfl ?_
              refine zs rfl rfl rfl ?_
              refine zs rfl rfl rfl ?_
              refine zs rfl rfl rfl ?_
              refine zs rfl rfl rfl ?_
              refine zas rfl rfl rfl rfl (by omega) (by decide) ?_
              refine zinc rfl rfl rfl ?_
              refine zinc rfl rfl rfl ?_
              refine zs rfl rfl rfl ?_
              exact ih'
        rcases htl with rfl | ⟨a, rfl⟩
        · refine zs rfl rfl rfl ?_
          refine zs rfl rfl rfl ?_
          refine zbf (nI_ge (b := 13) (by omega) (by omega)) rfl rfl rfl ?_
          refine zs rfl rfl rfl ?_
          refine zs rfl rfl rfl ?_
          refine zs rfl rfl rfl ?_
          refine zto rfl hl ?_
          refine zbf (nI_ge (by omega) (by omega)) rfl rfl rfl ?_
          refine zs rfl rfl rfl ?_
          refine zs rfl rfl rfl ?_
          refine zs rfl rfl rfl ?_
          refine zlal rfl rfl rfl rfl (by omega) (by decide) ?_
          refine ztoL rfl (hS0.2.2 i (by omega)) ?_
          refine zs rfl rfl rfl ?_
          exact tail
        · refine zs rfl rfl rfl ?_
          refine zs rfl rfl rfl ?_
          refine zbf (nI_ge (b := 13) (by omega) (by omega)) rfl rfl rfl ?_
          refine zs rfl rfl rfl ?_
          refine zs rfl rfl rfl ?_
          refine zs rfl rfl rfl ?_
          refine zto rfl hl ?_
          refine zbf (nI_ge (by omega) (by omega)) rfl rfl rfl ?_
          refine zs rfl rfl rfl ?_
          refine zs rfl rfl rfl ?_
          refine zs rfl rfl rfl ?_
          refine zlal rfl rfl rfl rfl (by omega) (by decide) ?_
          refine ztoL rfl (hS0.2.2 i (by omega)) ?_
          refine zs rfl rfl rfl ?_
          exact tail
    exact loop (min 13 (B.2.1 3)) 0 M [] (Nat.zero_add _) (Or.inl rfl) Fr.rfl' hC.1
theorem c_dawn_3 (hC : cC M S F) (hS : cS M N B) (hB : Sok B) (hO : Ok S n) : zV X 93 [.ref 0, .int (nI 3)] M N (cX M N (r_dawn S F n B (nI 3))) := by
  refine zVi [(0, .ref 0), (1, .int (nI 3))] rfl ?_
  unfold r_dawn
  have hS0 := hS 3 (by decide)
  have hB0 := (hB 3 (by decide)).1
  have hle := hO.le
  have hn0 := hC.n0 hO
  have hv := hC.1
  rw [if_pos (by decide), nI_clamp (by decide)]
  refine zs rfl rfl rfl ?_
  refine zs rfl rfl rfl ?_
  refine zcl rfl rfl (c_sheetAt_3) ?_
  refine zs rfl rfl rfl ?_
  refine zs rfl rfl rfl ?_
  refine zs rfl rfl rfl ?_
  refine zs rfl rfl rfl ?_
  refine zcl rfl rfl (c_isMissing_3 hS0.1) ?_
  by_cases h : B.1 3 = 0
  · rw [decide_eq_true h, if_pos h]
    refine zs rfl rfl rfl ?_
    refine zs rfl rfl rfl ?_
    refine zs rfl rfl rfl ?_
    refine zcl rfl rfl (c_refuse_5) ?_
    exact zret rfl rfl (cX_ref (c := 5) rfl Fr.rfl' hC hS)
  · rw [decide_eq_false h, if_neg h]
    have emin : (if nI (B.2.1 3) < nI n then nI (B.2.1 3) else nI n) = nI (min n (B.2.1 3)) := by
      by_cases q : B.2.1 3 < n
      · rw [if_pos (nI_lt q (by omega)), Nat.min_eq_right (by omega)]
      · rw [if_neg (nI_nlt (by omega) (by omega)), Nat.min_eq_left (by omega)]
    refine zs rfl rfl rfl ?_
    refine zs rfl rfl rfl ?_
    refine zs rfl rfl rfl ?_
    refine zs rfl rfl rfl ?_
    try refine zto rfl hn0 ?_
    refine zs rfl rfl rfl ?_
    refine zs rfl rfl rfl ?_
    refine zto rfl hS0.2.1 ?_
    refine zs rfl rfl rfl ?_
    refine zto rfl emin ?_
    refine zs rfl rfl rfl ?_
    refine zs rfl rfl rfl ?_
    refine zs rfl rfl rfl ?_
    have loop : ∀ d i N1, i + d = min n (B.2.1 3) → (∀ b, b ≠ 43 → N1 b = N b) → (∀ k, k < 40 → N1 43 k = dwn (B.1 3) S (B.2.2 3) i k) → zW X 93 49 [(0, .ref 0), (1, .int (nI 3)), (2, .ref 42), (3, .int (nI (min n (B.2.1 3)))), (4, .int (nI i))] [] M N1 (cX M N (nI (min n (B.2.1 3)), S, F, B.1, B.2.1, up' B.2.2 3 (dwn (B.1 3) S (B.2.2 3) (min n (B.2.1 3))))) := by
      intro d
      induction d with
      | zero =>
        intro i N1 hi h1 h2
        rw [Nat.add_zero] at hi
        rw [← hi]
        refine zs rfl rfl rfl ?_
        refine zs rfl rfl rfl ?_
        refine zbt (nI_le (by omega) (by omega)) rfl rfl rfl ?_
        refine zs rfl rfl rfl ?_
        exact zret rfl rfl (cX_ok rfl Fr.rfl' hC (hS.up (t := 3) (by decide) h1 h2) (h1 54 (by decide)))
      | succ d ih =>
        intro i N1 hi h1 h2
        refine zs rfl rfl rfl ?_
        refine zs rfl rfl rfl ?_
        refine zbf (nI_ge (by omega) (by omega)) rfl rfl rfl ?_
        refine zs rfl rfl rfl ?_
        refine zs rfl rfl rfl ?_
        refine zs rfl rfl rfl ?_
        refine zs rfl rfl rfl ?_
        refine zs rfl rfl rfl ?_
        refine zs rfl rfl rfl ?_
        refine zal rfl rfl rfl (by omega) (by decide) ?_
        try refine zto rfl (Vw.fl (by assumption) _ (by omega)) ?_
        refine zs rfl rfl rfl ?_
        refine zcl rfl rfl (c_putS_3 (i := i) (by omega) hS0.1 (lk S i).toInt64) ?_
        refine zinc rfl rfl rfl ?_
        refine zs rfl rfl rfl ?_
        refine ih (i + 1) _ (by omega) (fun b hb => (z_upL_ne N1 _ _ hb).trans (h1 b hb)) (fun k hk => ?_)
        rw [upL_a]
        show _ = if k = i then _ else _
        rw [h2 k hk]
    exact loop (min n (B.2.1 3)) 0 N (Nat.zero_add _) (fun _ _ => rfl) hS0.2.2
theorem c_tellsOf_3 {T : zS} (hS : cS M N B) (hB : Sok B) (hv : Vw M 19 T) (hn : T 0 = nI n) (hle : n ≤ 12) : zE1 X 108 [.ref 42, .ref 19] M N (some (.int (bI (tll (B.2.2 3) T (min n (B.2.1 3)) 0)))) M N := by
  refine zE1i [(0, .ref 42), (1, .ref 19)] rfl ?_
  have hS0 := hS 3 (by decide)
  have hB0 := (hB 3 (by decide)).1
  have hn0 : M 19 8 = nI n := hv.s0.trans hn
  refine zs rfl rfl rfl ?_
  refine zs rfl rfl rfl ?_
  have loop : ∀ d i, i + d = min n (B.2.1 3) → zW X 108 2 [(0, .ref 42), (1, .ref 19), (2, .int (nI i))] [] M N (fun v M' N' => v = some (.int (bI (tll (B.2.2 3) T d i))) ∧ M' = M ∧ N' = N) := by
    intro d
    induction d with
    | zero =>
      intro i hi
      by_cases hl : B.2.1 3 ≤ i
      · refine zs rfl rfl rfl ?_
        refine zs rfl rfl rfl ?_
        refine zs rfl rfl rfl ?_
        refine zto rfl hS0.2.1 ?_
        refine zbt (nI_le (by omega) (by omega)) rfl rfl rfl ?_
        refine zs rfl rfl rfl ?_
        exact zret rfl rfl ⟨rfl, rfl, rfl⟩
      · refine zs rfl rfl rfl ?_
        refine zs rfl rfl rfl ?_
        refine zs rfl rfl rfl ?_
        refine zto rfl hS0.2.1 ?_
        refine zbf (nI_ge (by omega) (by omega)) rfl rfl rfl ?_
        refine zs rfl rfl rfl ?_
        refine zs rfl rfl rfl ?_
        refine zs rfl rfl rfl ?_
        try refine zto rfl hn0 ?_
        refine zbt (nI_le (by omega) (by omega)) rfl rfl rfl ?_
        refine zs rfl rfl rfl ?_
        exact zret rfl rfl ⟨rfl, rfl, rfl⟩
    | succ d ih =>
      intro i hi
      unfold tll
      refine zs rfl rfl rfl ?_
      refine zs rfl rfl rfl ?_
      refine zs rfl rfl rfl ?_
      refine zto rfl hS0.2.1 ?_
      refine zbf (nI_ge (by omega) (by omega)) rfl rfl rfl ?_
      refine zs rfl rfl rfl ?_
      refine zs rfl rfl rfl ?_
      refine zs rfl rfl rfl ?_
      try refine zto rfl hn0 ?_
      refine zbf (nI_ge (by omega) (by omega)) rfl rfl rfl ?_
      refine zs rfl rfl rfl ?_
      refine zs rfl rfl rfl ?_
      refine zs rfl rfl rfl ?_
      refine zlal rfl rfl rfl rfl (by omega) (by decide) ?_
      refine ztoL rfl (hS0.2.2 i (by omega)) ?_
      refine zs rfl rfl rfl ?_
      refine zs rfl rfl rfl ?_
      refine zs rfl rfl rfl ?_
      refine zal rfl rfl rfl (by omega) (by decide) ?_
      try refine zto rfl (Vw.fl (by assumption) _ (by omega)) ?_
      refine zs rfl rfl rfl ?_
      refine zs rfl rfl rfl ?_
      refine zbr rfl rfl rfl (fun hc => ?_) (fun hc => ?_)
      · rw [decide_eq_true ((lg_cmp_eq _ _).mp hc)]
        refine zinc rfl rfl rfl ?_
        refine zs rfl rfl rfl ?_
        exact ih (i + 1) (by omega)
      · rw [decide_eq_false (fun q => hc ((lg_cmp_eq _ _).mpr q))]
        refine zs rfl rfl rfl ?_
        exact zret rfl rfl ⟨rfl, rfl, rfl⟩
  exact loop (min n (B.2.1 3)) 0 (Nat.zero_add _)
theorem c_read_3 (hC : cC M S F) (hS : cS M N B) (hB : Sok B) (hO : Ok S n) : zV X 94 [.ref 0, .int (nI 3)] M N (cX M N (r_read S F n B (nI 3))) := by
  refine zVi [(0, .ref 0), (1, .int (nI 3))] rfl ?_
  unfold r_read
  have hS0 := hS 3 (by decide)
  have hle := hO.le
  rw [if_pos (by decide), nI_clamp (by decide)]
  refine zs rfl rfl rfl ?_
  refine zs rfl rfl rfl ?_
  refine zcl rfl rfl (c_sheetAt_3) ?_
  refine zs rfl rfl rfl ?_
  refine zs rfl rfl rfl ?_
  refine zs rfl rfl rfl ?_
  refine zs rfl rfl rfl ?_
  refine zcl rfl rfl (c_isMissing_3 hS0.1) ?_
  by_cases h : B.1 3 = 0
  · rw [decide_eq_true h, if_pos h]
    refine zs rfl rfl rfl ?_
    refine zs rfl rfl rfl ?_
    refine zs rfl rfl rfl ?_
    refine zcl rfl rfl (c_refuse_5) ?_
    exact zret rfl rfl (cX_ref (c := 5) rfl Fr.rfl' hC hS)
  · rw [decide_eq_false h, if_neg h]
    refine zs rfl rfl rfl ?_
    refine zs rfl rfl rfl ?_
    refine zs rfl rfl rfl ?_
    have loop : ∀ d i M1, i + d = 13 → Fr sL M M1 → zW X 94 33 [(0, .ref 0), (1, .int (nI 3)), (2, .ref 42), (3, .int (nI i))] [] M1 N (cX M N (r_fstB S F B (fst1 (rdp S n (B.2.2 3) (B.2.1 3)) d i))) := by
      intro d
      induction d with
      | zero =>
        intro i M1 hi hf
        obtain rfl : i = 13 := by omega
        refine zs rfl rfl rfl ?_
        refine zs rfl rfl rfl ?_
        first | refine zs rfl rfl rfl ?_ | refine zbt (nI_le (a := 13) (by omega) (by omega)) rfl rfl rfl ?_
        refine zs rfl rfl rfl ?_
        refine zs rfl rfl rfl ?_
        refine zcl rfl rfl (c_refuse_3) ?_
        exact zret rfl rfl (cX_ref (c := 3) rfl (frsC hf) (hC.sc hf) (hS.fr hf (by decide)))
      | succ d ih =>
        intro i M1 hi hf
        refine zs rfl rfl rfl ?_
        refine zs rfl rfl rfl ?_
        refine zbf (nI_ge (b := 13) (by omega) (by omega)) rfl rfl rfl ?_
        refine zs rfl rfl rfl ?_
        refine zs rfl rfl rfl ?_
        refine zs rfl rfl rfl ?_
        refine zs rfl rfl rfl ?_
        refine zclQ rfl rfl (c_take_th (hC.sc hf).1) ?_
        rintro v2 M2 N2 ⟨rfl, rfl, hf2, hv2⟩
        refine zs rfl rfl rfl ?_
        refine zs rfl rfl rfl ?_
        refine zs rfl rfl rfl ?_
        refine zclQ rfl rfl (c_settle_t hv2 hO.s0 hle hO.k (nI i)) ?_
        rintro v3 M3 N3 ⟨rfl, rfl, hf3, hv3, _⟩
        have hf' : Fr sL M M3 := (hf.trans (hf2.mono (by decide))).trans (hf3.mono (by decide))
        have hS3 := hS.fr hf' (by decide)
        refine zs rfl rfl rfl ?_
        refine zs rfl rfl rfl ?_
        refine zs rfl rfl rfl ?_
        refine zcl rfl rfl (c_tellsOf_3 hS3 hB hv3 ((stl_lo S n _ (by decide)).trans hO.s0) hle) ?_
        cases hp : rdp S n (B.2.2 3) (B.2.1 3) i with
        | true =>
          have hp' : tll (B.2.2 3) (stl S n (nI i)) (min n (B.2.1 3)) 0 = true := hp
          have e : fst1 (rdp S n (B.2.2 3) (B.2.1 3)) (d + 1) i = nI i := by
            show cond _ _ _ = _
            rw [hp]; rfl
          have e2 : r_fstB S F B (nI i) = (nI i, S, F, B) := by
            unfold r_fstB
            rw [if_neg]
            intro q
            have := congrArg Int32.toInt q
            rw [nI_toInt (by omega), t_m1] at this
            omega
          rw [hp', e, e2]
          refine zs rfl rfl rfl ?_
          refine zs rfl rfl rfl ?_
          exact zret rfl rfl (cX_ok rfl (frsC hf') (hC.sc hf') hS3)
        | false =>
          have hp' : tll (B.2.2 3) (stl S n (nI i)) (min n (B.2.1 3)) 0 = false := hp
          have e : fst1 (rdp S n (B.2.2 3) (B.2.1 3)) (d + 1) i = fst1 (rdp S n (B.2.2 3) (B.2.1 3)) d (i + 1) := by
            show cond _ _ _ = _
            rw [hp]; rfl
          rw [hp', e]
          refine zs rfl rfl rfl ?_
          refine zinc rfl rfl rfl ?_
          refine zs rfl rfl rfl ?_
          exact ih (i + 1) M3 (by omega) hf'
    exact loop 13 0 M rfl Fr.rfl'
end CSHT2
