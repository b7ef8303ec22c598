/-! What settles: parting, dragging, wearing; what holds. -/
theorem fst1_spec (p : Nat → Bool) : ∀ (d i : Nat), (fst1 p d i = -1 ∧ ∀ k, i ≤ k → k < i + d → p k = false) ∨ ∃ k, i ≤ k ∧ k < i + d ∧ fst1 p d i = nI k ∧ p k = true ∧ ∀ j, i ≤ j → j < k → p j = false
  | 0, i => Or.inl ⟨rfl, fun k h1 h2 => absurd h2 (by omega)⟩
  | d + 1, i => by
    cases hp : p i with
    | true =>
      refine Or.inr ⟨i, Nat.le_refl _, by omega, ?_, hp, fun j h1 h2 => absurd h2 (by omega)⟩
      show cond (p i) _ _ = _
      rw [hp]; rfl
    | false =>
      have e : fst1 p (d + 1) i = fst1 p d (i + 1) := by
        show cond (p i) _ _ = _
        rw [hp]; rfl
      rw [e]
      rcases fst1_spec p d (i + 1) with ⟨h1, h2⟩ | ⟨k, h1, h2, h3, h4, h5⟩
      · refine Or.inl ⟨h1, fun k hk1 hk2 => ?_⟩
        by_cases e : k = i
        · rw [e]; exact hp
        · exact h2 k (by omega) (by omega)
      · refine Or.inr ⟨k, by omega, by omega, h3, h4, fun j hj1 hj2 => ?_⟩
        by_cases e : j = i
        · rw [e]; exact hp
        · exact h5 j (by omega) hj2
theorem fpt_spec (S : zS) (n : Nat) (T : zS) : (fpt S n T = -1 ∧ ∀ k, k < n → prt S T k = false) ∨ ∃ k, k < n ∧ fpt S n T = nI k ∧ prt S T k = true := by
  rcases fst1_spec (prt S T) n 0 with ⟨h1, h2⟩ | ⟨k, h1, h2, h3, h4, h5⟩
  · exact Or.inl ⟨h1, fun k hk => h2 k (Nat.zero_le _) (by omega)⟩
  · exact Or.inr ⟨k, by omega, h3, h4⟩
theorem prt_l {S T : zS} {k : Nat} (h : prt S T k = true) : lk S k ≠ -1 := by
  unfold prt at h
  rw [Bool.and_eq_true] at h
  exact of_decide_eq_true h.1
/-- how many hang -/
def hct (S : zS) (n : Nat) : Nat := cnt n (fun k => decide (lk S k ≠ -1))
theorem hct_lt {S : zS} {n k : Nat} (hk : k < n) (h : lk S k ≠ -1) : hct (upl S k (-1)) n < hct S n := by
  refine cnt_lt (fun j _ hj => ?_) hk (decide_eq_false ?_) (decide_eq_true h)
  · have hj := of_decide_eq_true hj
    rw [lk_upl] at hj
    by_cases e : j = k
    · rw [if_pos e] at hj; exact absurd rfl hj
    · rw [if_neg e] at hj; exact decide_eq_true hj
  · rw [lk_upl, if_pos rfl]; exact not_not_intro rfl
/-- by and by the first whose chain parts is adrift -/
def prs (n : Nat) (w : Int32) : Nat → zS → zS
  | 0, S => S
  | f + 1, S => if fpt S n (Str S n w) < 0 then S else prs n w f (upl S (fpt S n (Str S n w)).toNatClampNeg (-1))
/-- the anchors one by one -/
def drg (n : Nat) (T : zS) (S : zS) : Nat → zS
  | 0 => S
  | a + 1 => if drg n T S a (3 + a) < loa (drg n T S a) n T (nI (100 + a)) then hal (drg n T S a) (nI (100 + a)) (-1) n else drg n T S a
def stl (S : zS) (n : Nat) (w : Int32) : zS := drg n (Str (prs n w 13 S) n w) (prs n w 13 S) 6
/-- some that hung are adrift, nothing else -/
def Dn (S S' : zS) : Prop := Els S S' ∧ ∀ k, lk S' k = lk S k ∨ lk S' k = -1
theorem Dn.rfl' {S : zS} : Dn S S := ⟨Els.rfl', fun _ => Or.inl rfl⟩
theorem Dn.trans {S S1 S2 : zS} (h1 : Dn S S1) (h2 : Dn S1 S2) : Dn S S2 := ⟨h1.1.trans h2.1, fun k => by
  rcases h2.2 k with h | h
  · rw [h]; exact h1.2 k
  · exact Or.inr h⟩
theorem Dn.m1 {S S' : zS} (h : Dn S S') {k : Nat} (hk : lk S k = -1) : lk S' k = -1 := by
  rcases h.2 k with h | h
  · rw [h]; exact hk
  · exact h
theorem dn_upl (S : zS) (k : Nat) : Dn S (upl S k (-1)) := ⟨els_upl Els.rfl' k _, fun j => by
  rw [lk_upl]
  by_cases e : j = k
  · rw [if_pos e]; exact Or.inr rfl
  · rw [if_neg e]; exact Or.inl rfl⟩
theorem dn_hal (S : zS) (f : Int32) (i : Nat) : Dn S (hal S f (-1) i) := ⟨els_hal f _ i, fun j => by
  rw [lk_hal]
  by_cases e : j < i ∧ lk S j = f
  · rw [if_pos e]; exact Or.inr rfl
  · rw [if_neg e]; exact Or.inl rfl⟩
theorem dn_prs (n : Nat) (w : Int32) : ∀ (f : Nat) (S : zS), Dn S (prs n w f S)
  | 0, _ => Dn.rfl'
  | f + 1, S => by
    unfold prs
    by_cases h : fpt S n (Str S n w) < 0
    · rw [if_pos h]; exact Dn.rfl'
    · rw [if_neg h]; exact (dn_upl S _).trans (dn_prs n w f _)
theorem dn_drg (n : Nat) (T S : zS) : ∀ (a : Nat), Dn S (drg n T S a)
  | 0 => Dn.rfl'
  | a + 1 => by
    unfold drg
    by_cases h : drg n T S a (3 + a) < loa (drg n T S a) n T (nI (100 + a))
    · rw [if_pos h]; exact (dn_drg n T S a).trans (dn_hal _ _ _)
    · rw [if_neg h]; exact dn_drg n T S a
theorem dn_stl (S : zS) (n : Nat) (w : Int32) : Dn S (stl S n w) := (dn_prs n w 13 S).trans (dn_drg _ _ _ _)
/-- where nothing parts the parting stops -/
theorem m1_neg : (-1 : Int32) < 0 := by decide
theorem prs_0 {S : zS} {n : Nat} {w : Int32} (h : fpt S n (Str S n w) = -1) : ∀ f, prs n w f S = S
  | 0 => rfl
  | f + 1 => by unfold prs; rw [h, if_pos m1_neg]
theorem prs_s {S : zS} {n k : Nat} {w : Int32} (h : fpt S n (Str S n w) = nI k) (hk : k < 12) (f : Nat) : prs n w (f + 1) S = prs n w f (upl S k (-1)) := by
  show (if _ then _ else _) = _
  rw [h, if_neg (nI_pos (by omega)), nI_clamp (by omega)]
theorem prs_end {n : Nat} (h12 : n ≤ 12) (w : Int32) : ∀ (f : Nat) (S : zS), hct S n < f → fpt (prs n w f S) n (Str (prs n w f S) n w) = -1
  | 0, _, h => absurd h (Nat.not_lt_zero _)
  | f + 1, S, h => by
    rcases fpt_spec S n (Str S n w) with ⟨h1, _⟩ | ⟨k, hk, h1, h2⟩
    · rw [prs_0 h1]; exact h1
    · rw [prs_s h1 (by omega)]
      exact prs_end h12 w f _ (by have := hct_lt hk (prt_l h2); omega)
theorem hct_le (S : zS) (n : Nat) : hct S n ≤ n := cnt_le _ _
/-- strains look at the ships' hanging on ships alone -/
def SL (n : Nat) (S S' : zS) : Prop := Els S S' ∧ ∀ k, k < n → lk S' k = lk S k ∨ (shp n (lk S' k) = false ∧ shp n (lk S k) = false)
theorem els_kd {S S' : zS} (h : Els S S') (k : Nat) : kd S' k = kd S k := h _ (fun j => by omega)
theorem els_sz {S S' : zS} (h : Els S S') (k : Nat) : sz S' k = sz S k := h _ (fun j => by omega)
theorem els_ch {S S' : zS} (h : Els S S') (k : Nat) : ch S' k = ch S k := h _ (fun j => by omega)
theorem els_wo {S S' : zS} (h : Els S S') (k : Nat) : wo S' k = wo S k := h _ (fun j => by omega)
theorem els_lo {S S' : zS} (h : Els S S') {k : Nat} (hk : k < 22) : S' k = S k := h _ (fun j => by omega)
theorem sl_hg {n : Nat} {S S' : zS} (h12 : n ≤ 12) (h : SL n S S') {k : Nat} (hk : k < n) : hg S' n (nI k) = hg S n (nI k) := by
  refine bset_congr (fun j hj => ?_)
  rcases h.2 j hj with e | ⟨e1, e2⟩
  · rw [e]
  · have q : ∀ t : Int32, shp n t = false → ¬ t = nI k := fun t ht e => by rw [e, shp_nI hk h12] at ht; cases ht
    rw [decide_eq_false (q _ e1), decide_eq_false (q _ e2)]
theorem sl_pul {n : Nat} {S S' : zS} (h12 : n ≤ 12) (h : SL n S S') {k : Nat} (hk : k < n) (w : Int32) : pul S' n k w = pul S n k w := by
  unfold pul
  rw [els_kd h.1, els_sz h.1, sl_hg h12 h hk]
theorem sl_sad {n : Nat} {S S' : zS} (h12 : n ≤ 12) (h : SL n S S') (p : Int32) : ∀ (f : Nat) (t : Int32) (T : zS), sad S' n p f t T = sad S n p f t T
  | 0, _, _ => rfl
  | f + 1, t, T => by
    cases hs : shp n t with
    | false => rw [sad_stop p T hs, sad_stop p T hs]
    | true =>
      obtain ⟨j, hj, rfl⟩ := shp_of h12 hs
      rw [sad_s h12 hj, sad_s h12 hj]
      rcases h.2 j hj with e | ⟨e1, e2⟩
      · rw [e]; exact sl_sad h12 h p f _ _
      · rw [sad_stop p _ e1, sad_stop p _ e2]
theorem sl_sti {n : Nat} {S S' : zS} (h12 : n ≤ 12) (h : SL n S S') (w : Int32) : ∀ i, i ≤ n → Sti S' n w i = Sti S n w i
  | 0, _ => rfl
  | i + 1, hi => by
    show sad S' n (pul S' n i w) 12 (nI i) (Sti S' n w i) = sad S n (pul S n i w) 12 (nI i) (Sti S n w i)
    rw [sl_sti h12 h w i (by omega), sl_pul h12 h (by omega), sl_sad h12 h]
theorem sl_str {n : Nat} {S S' : zS} (h12 : n ≤ 12) (h : SL n S S') (w : Int32) : Str S' n w = Str S n w := sl_sti h12 h w n (Nat.le_refl _)
theorem sl_drg {n : Nat} (h12 : n ≤ 12) (T S : zS) : ∀ a, a ≤ 6 → SL n S (drg n T S a)
  | 0, _ => ⟨Els.rfl', fun _ _ => Or.inl rfl⟩
  | a + 1, ha => by
    have ih := sl_drg h12 T S a (by omega)
    unfold drg
    by_cases h : drg n T S a (3 + a) < loa (drg n T S a) n T (nI (100 + a))
    · rw [if_pos h]
      refine ⟨ih.1.trans (els_hal _ _ n), fun k hk => ?_⟩
      rw [lk_hal]
      by_cases e : k < n ∧ lk (drg n T S a) k = nI (100 + a)
      · rw [if_pos e]
        refine Or.inr ⟨shp_m1 n, ?_⟩
        rcases ih.2 k hk with q | ⟨_, q⟩
        · rw [← q, e.2]; exact shp_anc h12 (by omega)
        · exact q
      · rw [if_neg e]; exact ih.2 k hk
    · rw [if_neg h]; exact ih
theorem str_drg {n : Nat} (h12 : n ≤ 12) (T S : zS) (w : Int32) {a : Nat} (ha : a ≤ 6) : Str (drg n T S a) n w = Str S n w := sl_str h12 (sl_drg h12 T S a ha) w
theorem str_stl (S : zS) {n : Nat} (h12 : n ≤ 12) (w : Int32) : Str (stl S n w) n w = Str (prs n w 13 S) n w := str_drg h12 _ _ w (Nat.le_refl _)
/-- no anchor drags, from a on -/
def nod (S : zS) (n : Nat) (T : zS) : Nat → Nat → Bool
  | 0, _ => true
  | d + 1, a => cond (decide (S (3 + a) < loa S n T (nI (100 + a)))) false (nod S n T d (a + 1))
def alh (S : zS) (n : Nat) (w : Int32) : Bool := cond (decide (fpt S n (Str S n w) < 0)) (nod S n (Str S n w) 6 0) false
theorem csum_0 : ∀ {i : Nat} {p : Nat → Bool} {f : zS}, (∀ k, k < i → p k = false) → csum i p f = 0
  | 0, _, _, _ => rfl
  | i + 1, p, f, h => by rw [csum_f (h i (by omega))]; exact csum_0 (fun k hk => h k (by omega))
theorem nod_spec (S : zS) (n : Nat) (T : zS) : ∀ (d a : Nat), (nod S n T d a = true ∧ ∀ b, a ≤ b → b < a + d → ¬ S (3 + b) < loa S n T (nI (100 + b))) ∨ (nod S n T d a = false ∧ ∃ b, a ≤ b ∧ b < a + d ∧ S (3 + b) < loa S n T (nI (100 + b)) ∧ ∀ c, a ≤ c → c < b → ¬ S (3 + c) < loa S n T (nI (100 + c)))
  | 0, a => Or.inl ⟨rfl, fun b h1 h2 => absurd h2 (by omega)⟩
  | d + 1, a => by
    by_cases h : S (3 + a) < loa S n T (nI (100 + a))
    · refine Or.inr ⟨?_, a, Nat.le_refl _, by omega, h, fun c h1 h2 => absurd h2 (by omega)⟩
      show cond _ _ _ = _
      rw [decide_eq_true h]; rfl
    · have e : nod S n T (d + 1) a = nod S n T d (a + 1) := by
        show cond _ _ _ = _
        rw [decide_eq_false h]; rfl
      rw [e]
      rcases nod_spec S n T d (a + 1) with ⟨h1, h2⟩ | ⟨h1, b, h2, h3, h4, h5⟩
      · refine Or.inl ⟨h1, fun b hb1 hb2 => ?_⟩
        by_cases e : b = a
        · rw [e]; exact h
        · exact h2 b (by omega) (by omega)
      · refine Or.inr ⟨h1, b, by omega, by omega, h4, fun c hc1 hc2 => ?_⟩
        by_cases e : c = a
        · rw [e]; exact h
        · exact h5 c (by omega) hc2
theorem drg_no (n : Nat) (T S : zS) : ∀ a, (∀ b, b < a → ¬ S (3 + b) < loa S n T (nI (100 + b))) → drg n T S a = S
  | 0, _ => rfl
  | a + 1, h => by
    have ih := drg_no n T S a (fun b hb => h b (by omega))
    unfold drg
    rw [ih, if_neg (h a (by omega))]
theorem drg_later (n : Nat) (T S : zS) {a : Nat} : ∀ d, Dn (drg n T S a) (drg n T S (a + d))
  | 0 => Dn.rfl'
  | d + 1 => by
    have ih := drg_later n T S (a := a) d
    rw [show a + (d + 1) = (a + d) + 1 from rfl, drg]
    by_cases h : drg n T S (a + d) (3 + (a + d)) < loa (drg n T S (a + d)) n T (nI (100 + (a + d)))
    · rw [if_pos h]; exact ih.trans (dn_hal _ _ _)
    · rw [if_neg h]; exact ih
/-- all hold: nothing would be changed -/
theorem alh_iff {S : zS} {n : Nat} (h12 : n ≤ 12) (hh : ∀ a, a < 6 → 0 ≤ S (3 + a)) (w : Int32) : alh S n w = decide (hg (stl S n w) n (-1) = hg S n (-1)) := by
  have key : ∀ k, k < n → lk S k ≠ -1 → lk (stl S n w) k = -1 → decide (hg (stl S n w) n (-1) = hg S n (-1)) = false := by
    intro k hk h1 h2
    refine decide_eq_false (fun e => ?_)
    have := bset_eq_iff.mp e k hk
    rw [decide_eq_true h2, decide_eq_false h1] at this
    cases this
  rcases fpt_spec S n (Str S n w) with ⟨h1, _⟩ | ⟨k, hk, h1, h2⟩
  · have hp : prs n w 13 S = S := prs_0 h1 13
    unfold alh
    rw [h1, decide_eq_true m1_neg]
    show nod S n (Str S n w) 6 0 = _
    rcases nod_spec S n (Str S n w) 6 0 with ⟨h3, h4⟩ | ⟨h3, b, _, hb, h5, h6⟩
    · have : stl S n w = S := by
        unfold stl
        rw [hp]
        exact drg_no _ _ _ 6 (fun b hb => h4 b (Nat.zero_le _) (by omega))
      rw [h3, this]
      exact (decide_eq_true rfl).symm
    · rw [h3]
      have hb6 : b < 6 := by omega
      have hd : drg n (Str S n w) S b = S := drg_no _ _ _ b (fun c hc => h6 c (Nat.zero_le _) hc)
      have hd1 : drg n (Str S n w) S (b + 1) = hal S (nI (100 + b)) (-1) n := by
        show (if _ then _ else _) = _
        rw [hd, if_pos h5]
      have hex : ∃ k, k < n ∧ lk S k = nI (100 + b) := by
        apply Classical.byContradiction
        intro hno
        have hz : loa S n (Str S n w) (nI (100 + b)) = 0 := csum_0 (fun k hk => decide_eq_false (fun e => hno ⟨k, hk, e⟩))
        rw [hz] at h5
        exact i_nlt.mpr (hh b hb6) h5
      obtain ⟨k, hk, hkl⟩ := hex
      have hn1 : lk S k ≠ -1 := by
        rw [hkl]
        intro e
        have := congrArg Int32.toInt e
        rw [nI_toInt (by omega), t_m1] at this
        omega
      have hst : lk (stl S n w) k = -1 := by
        unfold stl
        rw [hp]
        have h7 := drg_later n (Str S n w) S (a := b + 1) (6 - (b + 1))
        rw [show b + 1 + (6 - (b + 1)) = 6 by omega] at h7
        apply h7.m1
        rw [hd1, lk_hal, if_pos ⟨hk, hkl⟩]
      exact (key k hk hn1 hst).symm
  · have hl := prt_l h2
    have h3 : lk (stl S n w) k = -1 := by
      have e : prs n w 13 S = prs n w 12 (upl S k (-1)) := prs_s h1 (by omega) 12
      have e1 : Dn (upl S k (-1)) (stl S n w) := by
        unfold stl
        rw [e]
        exact (dn_prs n w 12 _).trans (dn_drg _ _ _ _)
      exact e1.m1 (by rw [lk_upl, if_pos rfl])
    rw [key k hk hl h3]
    unfold alh
    rw [h1, decide_eq_false (nI_pos (by omega))]; rfl
/-- the first w from there on for which p doesn't hold -/
def gtw (p : Nat → Bool) : Nat → Nat → Nat
  | 0, w => w
  | d + 1, w => cond (p w) (gtw p d (w + 1)) w
theorem gtw_congr {p q : Nat → Bool} : ∀ (d w : Nat), (∀ k, w ≤ k → k < w + d → p k = q k) → gtw p d w = gtw q d w
  | 0, _, _ => rfl
  | d + 1, w, h => by
    show cond (p w) _ _ = cond (q w) _ _
    rw [h w (by omega) (by omega), gtw_congr d (w + 1) (fun k h1 h2 => h k (by omega) (by omega))]
theorem gtw_le (p : Nat → Bool) : ∀ (d w : Nat), gtw p d w ≤ w + d ∧ w ≤ gtw p d w
  | 0, _ => ⟨by unfold gtw; omega, by unfold gtw; omega⟩
  | d + 1, w => by
    have := gtw_le p d (w + 1)
    show cond (p w) _ _ ≤ _ ∧ _ ≤ cond (p w) _ _
    cases p w
    · exact ⟨by show w ≤ _; omega, Nat.le_refl _⟩
    · exact ⟨by show gtw p d (w + 1) ≤ _; omega, by show w ≤ gtw p d (w + 1); omega⟩
/-- the greatest wind in which and below which all hold, -1 -/
def ght (S : zS) (n : Nat) : Int32 := nI (gtw (fun w => alh S n (nI w)) 13 0) - 1
/-- an hour's wear -/
def wrs (T S : zS) : Nat → zS
  | 0 => S
  | i + 1 => if lk (wrs T S i) i ≠ -1 ∧ brk (wrs T S i) i / 2 < T i then upw (wrs T S i) i (if wo (wrs T S i) i + 1 < 99 then wo (wrs T S i) i + 1 else 99) else wrs T S i
def phr (S : zS) (n : Nat) (w : Int32) : zS := up1 (wrs (Str (stl (up2 S w) n w) n w) (stl (up2 S w) n w) n) (S 1 + 1)
/-- cut out -/
def cto (S : zS) (n k : Nat) : zS := upl (hal S (nI k) (lk S k) n) k (-1)
