/-! The class's calls that choose. -/
def bth (S : zS) (n j : Nat) (t : Int32) : Bool := cond (thg n t) (cond (lo S n (nI j) 12 t) false (decide (0 < dep (upl S j t) n (nI j)))) false
/-- the choice among the first i things -/
def plc (S : zS) (n j : Nat) (w : Int32) : Nat → Int32 × Int32
  | 0 => (-1000000004, 13)
  | i + 1 => if bth S n j (nI i) = true ∧ dep (upl S j (nI i)) n (nI j) < (plc S n j w i).2 ∧ alh (upl S j (nI i)) n w = true then (nI i, dep (upl S j (nI i)) n (nI j)) else plc S n j w i
def cho (g : Nat → Int32) (b0 : Int32) (l0 : Int32) : Nat → Int32 × Int32
  | 0 => (b0, l0)
  | i + 1 => if (cho g b0 l0 i).2 < g i then (nI i, g i) else cho g b0 l0 i
def bsg (S : zS) (n j i : Nat) : Int32 := if bth S n j (nI i) = true then ght (upl S j (nI i)) n else -1
def knd (S : zS) (n j i : Nat) : Int32 := ght (upk S j (nI i)) n
def sth (S : zS) (n i : Nat) : Int32 := ght (uph S i (S (3 + i) + 1000)) n
def mtt (S : zS) (n i : Nat) : Int32 := if dep S n (nI i) = 0 then 0 else nI (many (stg S n (nI i)))
def wks (S T : zS) : Nat → Int32 × Int32
  | 0 => (-1000000004, 0)
  | i + 1 => if lk S i ≠ -1 ∧ ((wks S T i).1 = -1000000004 ∨ brk S i - T i < (wks S T i).2) then (nI i, brk S i - T i) else wks S T i
def r_ch (S F : zS) (x : Int32) : zR := if x = -1000000004 then rf S F 3 else (x, S, F)
def r_place (S F : zS) (n : Nat) (s w : Int32) : zR := if shp n s = true then (if 0 ≤ w ∧ w ≤ 12 then r_ch S F (plc S n s.toNatClampNeg w 106).1 else rf S F 0) else rf S F 0
def r_best (S F : zS) (n : Nat) (s : Int32) : zR := if shp n s = true then r_ch S F (cho (bsg S n s.toNatClampNeg) (-1000000004) (-1) 106).1 else rf S F 0
def r_matters (S F : zS) (n : Nat) : zR := r_ch S F (cho (mtt S n) (-1000000004) 0 n).1
def r_weakest (S F : zS) (n : Nat) (w : Int32) : zR := if 0 ≤ w ∧ w ≤ 12 then r_ch S F (wks S (Str S n w) n).1 else rf S F 0
def r_kind (S F : zS) (n : Nat) (s : Int32) : zR := if shp n s = true then ((cho (knd S n s.toNatClampNeg) 0 (-1) 6).1, S, F) else rf S F 0
def r_stronger (S F : zS) (n : Nat) : zR := ((cho (sth S n) 0 (-1) 6).1, S, F)
def sty (S : zS) (n j : Nat) (w c : Int32) : Bool := decide (lk (stl (upc S j c) n w) j ≠ -1)
def bsr (p : Nat → Bool) : Nat → Nat → Nat → Nat
  | 0, l, _ => l
  | d + 1, l, h => if h ≤ l then l else cond (p ((l + h) / 2)) (bsr p d l ((l + h) / 2)) (bsr p d ((l + h) / 2 + 1) h)
def r_bears (S F : zS) (n : Nat) (s w : Int32) : zR :=
  if shp n s = true then (if 0 ≤ w ∧ w ≤ 12 then (if lk S s.toNatClampNeg = -1 then rf S F 4 else if sty S n s.toNatClampNeg w 9999 = true then (nI (bsr (fun c => sty S n s.toNatClampNeg w (nI c)) 9999 0 9999), S, F) else rf S F 3) else rf S F 0) else rf S F 0
theorem cho_t {g : Nat → Int32} {b l : Int32} {i : Nat} (h : (cho g b l i).2 < g i) : cho g b l (i + 1) = (nI i, g i) := by
  show (if _ then _ else _) = _
  rw [if_pos h]
theorem cho_f {g : Nat → Int32} {b l : Int32} {i : Nat} (h : ¬ (cho g b l i).2 < g i) : cho g b l (i + 1) = cho g b l i := by
  show (if _ then _ else _) = _
  rw [if_neg h]
theorem plc_t {S : zS} {n j : Nat} {w : Int32} {i : Nat} (h : bth S n j (nI i) = true ∧ dep (upl S j (nI i)) n (nI j) < (plc S n j w i).2 ∧ alh (upl S j (nI i)) n w = true) : plc S n j w (i + 1) = (nI i, dep (upl S j (nI i)) n (nI j)) := by
  show (if _ then _ else _) = _
  rw [if_pos h]
theorem plc_f {S : zS} {n j : Nat} {w : Int32} {i : Nat} (h : ¬ (bth S n j (nI i) = true ∧ dep (upl S j (nI i)) n (nI j) < (plc S n j w i).2 ∧ alh (upl S j (nI i)) n w = true)) : plc S n j w (i + 1) = plc S n j w i := by
  show (if _ then _ else _) = _
  rw [if_neg h]
theorem wks_t {S T : zS} {i : Nat} (h : lk S i ≠ -1 ∧ ((wks S T i).1 = -1000000004 ∨ brk S i - T i < (wks S T i).2)) : wks S T (i + 1) = (nI i, brk S i - T i) := by
  show (if _ then _ else _) = _
  rw [if_pos h]
theorem wks_f {S T : zS} {i : Nat} (h : ¬ (lk S i ≠ -1 ∧ ((wks S T i).1 = -1000000004 ∨ brk S i - T i < (wks S T i).2))) : wks S T (i + 1) = wks S T i := by
  show (if _ then _ else _) = _
  rw [if_neg h]
theorem upd_upd (S : zS) (k : Nat) (x y : Int32) : upd (upd S k x) k y = upd S k y := by
  funext j
  show (if j = k then y else if j = k then x else S j) = if j = k then y else S j
  by_cases e : j = k
  · rw [if_pos e, if_pos e]
  · rw [if_neg e, if_neg e, if_neg e]
theorem upd_self (S : zS) (k : Nat) : upd S k (S k) = S := by
  funext j
  show (if j = k then S k else S j) = S j
  by_cases e : j = k
  · rw [if_pos e, e]
  · rw [if_neg e]
section CPUB4
variable {X : Nat × (Nat → Int32)} {M M2 : zM} {N : zN} {S F T : zS} {n : Nat}
theorem c_tryBerth (hv : Vw M 1 S) (hO : Ok S n) {j : Nat} (hj : j < n) (t : Int32) : zV X 106 [.ref 0, .int (nI j), .int t] M N (fun v M' N' => v = some (.int (bI (bth S n j t))) ∧ N' = N ∧ Fr sL M M' ∧ (bth S n j t = true → Vw M' 19 (upl S j t))) := by
  refine zVi [(0, .ref 0), (1, .int (nI j)), (2, .int t)] rfl ?_
  have hn0 : M 1 8 = nI n := hv.s0.trans hO.s0
  have hle := hO.le
  unfold bth
  refine zs rfl rfl rfl ?_
  refine zs rfl rfl rfl ?_
  refine zs rfl rfl rfl ?_
  refine zcl rfl rfl (c_hasThing_h hn0 t) ?_
  show zW _ _ _ _ [.int (bI (thg n t))] _ _ _
  cases thg n t
  · refine zs rfl rfl rfl ?_
    refine zs rfl rfl rfl ?_
    exact zret rfl rfl ⟨rfl, rfl, Fr.rfl', fun h => by cases h⟩
  · refine zs rfl rfl rfl ?_
    refine zs rfl rfl rfl ?_
    refine zs rfl rfl rfl ?_
    refine zs rfl rfl rfl ?_
    refine zs rfl rfl rfl ?_
    refine zcl rfl rfl (c_liesOn_h hn0 hle hv.fl t (nI j)) ?_
    cases lo S n (nI j) 12 t
    · refine zs rfl rfl rfl ?_
      refine zs rfl rfl rfl ?_
      refine zs rfl rfl rfl ?_
      refine zs rfl rfl rfl ?_
      refine zs rfl rfl rfl ?_
      refine zclQ rfl rfl (c_take_th hv) ?_
      rintro v0 M2 N2 ⟨rfl, rfl, hf2, hv2⟩
      have hf2' : Fr sL M M2 := hf2.mono (by decide)
      have hv3 := hv2.upl (show j < 12 by omega) t
      refine zs rfl rfl rfl ?_
      refine zs rfl rfl rfl ?_
      refine zs rfl rfl rfl ?_
      refine zs rfl rfl rfl ?_
      refine zs rfl rfl rfl ?_
      refine zas rfl rfl rfl rfl (by omega) (by decide) ?_
      refine zs rfl rfl rfl ?_
      refine zs rfl rfl rfl ?_
      refine zs rfl rfl rfl ?_
      refine zcl rfl rfl (c_depthOf_t (hv3.s0.trans ((s0_upl S j t).trans hO.s0)) hle hv3.fl (nI j)) ?_
      have hf3 : Fr sL M (z_up M2 26 j t) := hf2'.trans (Fr.up (by decide))
      refine zbr rfl rfl rfl (fun hc => ?_) (fun hc => ?_)
      · refine zs rfl rfl rfl ?_
        exact zret rfl rfl ⟨by show _ = some (Value.int (bI (decide _))); rw [decide_eq_false (i_nlt.mpr hc)]; rfl, rfl, hf3, fun _ => hv3⟩
      · refine zs rfl rfl rfl ?_
        refine zs rfl rfl rfl ?_
        exact zret rfl rfl ⟨by show _ = some (Value.int (bI (decide _))); rw [decide_eq_true (i_nle.mp hc)]; rfl, rfl, hf3, fun _ => hv3⟩
    · refine zs rfl rfl rfl ?_
      refine zs rfl rfl rfl ?_
      exact zret rfl rfl ⟨rfl, rfl, Fr.rfl', fun h => by cases h⟩
theorem c_place (hC : cC M S F) (hO : Ok S n) (s w : Int32) : zV X 77 [.ref 0, .int s, .int w] M N (cP M N (r_place S F n s w)) := by
  refine zVi [(0, .ref 0), (1, .int s), (2, .int w)] rfl ?_
  unfold r_place
  have hn0 := hC.n0 hO
  have hle := hO.le
  refine zs rfl rfl rfl ?_
  refine zs rfl rfl rfl ?_
  refine zs rfl rfl rfl ?_
  refine zcl rfl rfl (c_hasShip_h hn0 s) ?_
  cases h : shp n s with
  | true =>
    rw [if_pos rfl]
    obtain ⟨j, hj, rfl⟩ := shp_of hle h
    rw [nI_clamp (by omega)]
    refine zs rfl rfl rfl ?_
    refine zs rfl rfl rfl ?_
    refine zcl rfl rfl (c_isWind w) ?_
    by_cases h2 : 0 ≤ w ∧ w ≤ 12
    · rw [decide_eq_true h2, if_pos h2]
      refine zs rfl rfl rfl ?_
      refine zs rfl rfl rfl ?_
      refine zs rfl rfl rfl ?_
      refine zs rfl rfl rfl ?_
      refine zs rfl rfl rfl ?_
      refine zs rfl rfl rfl ?_
      refine zs rfl rfl rfl ?_
      have loop : ∀ d i M1, i + d = 106 → Fr sL M M1 → zW X 77 35 [(0, .ref 0), (1, .int (nI j)), (2, .int w), (3, .int (plc S n j w i).1), (4, .int (plc S n j w i).2), (5, .int (nI i))] [] M1 N (cP M N (r_ch S F (plc S n j w 106).1)) := by
        intro d
        induction d with
        | zero =>
          intro i M1 hi hf
          obtain rfl : i = 106 := by omega
          refine zs rfl rfl rfl ?_
          refine zs rfl rfl rfl ?_
          first | refine zs rfl rfl rfl ?_ | refine zbt (nI_le (a := 106) (by omega) (by omega)) rfl rfl rfl ?_
          refine zs rfl rfl rfl ?_
          refine zs rfl rfl rfl ?_
          unfold r_ch
          refine zbr rfl rfl rfl (fun hc => ?_) (fun hc => ?_)
          · rw [if_neg hc]
            refine zs rfl rfl rfl ?_
            exact zret rfl rfl (cP_ok (S' := S) (F := F) rfl (frs hf) (hC.sc hf))
          · rw [if_pos (Decidable.not_not.mp hc)]
            refine zs rfl rfl rfl ?_
            refine zs rfl rfl rfl ?_
            refine zcl rfl rfl (c_refuse_3) ?_
            refine zs rfl rfl rfl ?_
            exact zret rfl rfl (cP_ref (S := S) (F := F) (c := 3) rfl (frs hf) (hC.sc hf))
        | succ d ih =>
          intro i M1 hi hf
          refine zs rfl rfl rfl ?_
          refine zs rfl rfl rfl ?_
          refine zbf (nI_ge (b := 106) (by omega) (by omega)) rfl rfl rfl ?_
          refine zs rfl rfl rfl ?_
          refine zs rfl rfl rfl ?_
          refine zs rfl rfl rfl ?_
          refine zclQ rfl rfl (c_tryBerth (hC.sc hf).1 hO hj (nI i)) ?_
          rintro v2 M2 N2 ⟨rfl, rfl, hf2, hv2⟩
          have hf2' := hf.trans hf2
          cases hb : bth S n j (nI i) with
          | false =>
            have ih' := ih (i + 1) M2 (by omega) hf2'
            rw [plc_f (fun q => by rw [hb] at q; cases q.1)] at ih'
            refine zs rfl rfl rfl ?_
            refine zinc rfl rfl rfl ?_
            refine zs rfl rfl rfl ?_
            exact ih'
          | true =>
            have hv3 := hv2 hb
            have hn3 : upl S j (nI i) 0 = nI n := (s0_upl S j _).trans hO.s0
            have hk3 : Kok (upl S j (nI i)) n := hO.k.of (kd_upl S j · _)
            refine zs rfl rfl rfl ?_
            refine zs rfl rfl rfl ?_
            refine zs rfl rfl rfl ?_
            refine zs rfl rfl rfl ?_
            refine zcl rfl rfl (c_depthOf_t (hv3.s0.trans hn3) hle hv3.fl (nI j)) ?_
            refine zs rfl rfl rfl ?_
            refine zbr rfl rfl rfl (fun hc => ?_) (fun hc => ?_)
            · have ih' := ih (i + 1) M2 (by omega) hf2'
              rw [plc_f (fun q => i_nlt.mpr hc q.2.1)] at ih'
              refine zinc rfl rfl rfl ?_
              refine zs rfl rfl rfl ?_
              exact ih'
            · refine zs rfl rfl rfl ?_
              refine zs rfl rfl rfl ?_
              refine zs rfl rfl rfl ?_
              refine zclQ rfl rfl (c_allHold_t hv3 hn3 hle hk3 w) ?_
              rintro v4 M4 N4 ⟨rfl, rfl, hf4⟩
              have hf5 := hf2'.trans (hf4.mono (by decide))
              have ih' := ih (i + 1) M4 (by omega) hf5
              cases ha : alh (upl S j (nI i)) n w with
              | false =>
                rw [plc_f (fun q => by rw [ha] at q; cases q.2.2)] at ih'
                refine zs rfl rfl rfl ?_
                refine zinc rfl rfl rfl ?_
                refine zs rfl rfl rfl ?_
                exact ih'
              | true =>
                rw [plc_t ⟨hb, i_nle.mp hc, ha⟩] at ih'
                have hv5 := hv3.fr1 hf4
                refine zs rfl rfl rfl ?_
                refine zs rfl rfl rfl ?_
                refine zs rfl rfl rfl ?_
                refine zs rfl rfl rfl ?_
                refine zs rfl rfl rfl ?_
                refine zs rfl rfl rfl ?_
                refine zcl rfl rfl (c_depthOf_t (hv5.s0.trans hn3) hle hv5.fl (nI j)) ?_
                refine zs rfl rfl rfl ?_
                refine zinc rfl rfl rfl ?_
                refine zs rfl rfl rfl ?_
                exact ih'
      exact loop 106 0 M rfl Fr.rfl'
    · rw [decide_eq_false h2, if_neg h2]
      refine zs rfl rfl rfl ?_
      refine zs rfl rfl rfl ?_
      refine zs rfl rfl rfl ?_
      refine zcl rfl rfl (c_refuse_0) ?_
      exact zret rfl rfl (cP_ref (S := S) (F := F) (c := 0) rfl (Fr.rfl') (hC))
  | false =>
    rw [if_neg (by decide)]
    refine zs rfl rfl rfl ?_
    refine zs rfl rfl rfl ?_
    refine zs rfl rfl rfl ?_
    refine zcl rfl rfl (c_refuse_0) ?_
    exact zret rfl rfl (cP_ref (S := S) (F := F) (c := 0) rfl (Fr.rfl') (hC))
theorem c_best (hC : cC M S F) (hO : Ok S n) (s : Int32) : zV X 78 [.ref 0, .int s] M N (cP M N (r_best S F n s)) := by
  refine zVi [(0, .ref 0), (1, .int s)] rfl ?_
  unfold r_best
  have hn0 := hC.n0 hO
  have hle := hO.le
  refine zs rfl rfl rfl ?_
  refine zs rfl rfl rfl ?_
  refine zs rfl rfl rfl ?_
  refine zcl rfl rfl (c_hasShip_h hn0 s) ?_
  cases h : shp n s with
  | true =>
    rw [if_pos rfl]
    obtain ⟨j, hj, rfl⟩ := shp_of hle h
    rw [nI_clamp (by omega)]
    refine zs rfl rfl rfl ?_
    refine zs rfl rfl rfl ?_
    refine zs rfl rfl rfl ?_
    refine zs rfl rfl rfl ?_
    refine zs rfl rfl rfl ?_
    refine zs rfl rfl rfl ?_
    refine zs rfl rfl rfl ?_
    have loop : ∀ d i M1 tl, i + d = 106 → (tl = [] ∨ ∃ a : Int32, tl = [(5, Value.int a)]) → Fr sL M M1 → zW X 78 26 ((0, .ref 0) :: (1, .int (nI j)) :: (2, .int (cho (bsg S n j) (-1000000004) (-1) i).1) :: (3, .int (cho (bsg S n j) (-1000000004) (-1) i).2) :: (4, .int (nI i)) :: tl) [] M1 N (cP M N (r_ch S F (cho (bsg S n j) (-1000000004) (-1) 106).1)) := by
      intro d
      induction d with
      | zero =>
        intro i M1 tl hi htl hf
        obtain rfl : i = 106 := by omega
        unfold r_ch
        rcases htl with rfl | ⟨a, rfl⟩
        · refine zs rfl rfl rfl ?_
          refine zs rfl rfl rfl ?_
          first | refine zs rfl rfl rfl ?_ | refine zbt (nI_le (a := 106) (by omega) (by omega)) rfl rfl rfl ?_
          refine zs rfl rfl rfl ?_
          refine zs rfl rfl rfl ?_
          refine zbr rfl rfl rfl (fun hc => ?_) (fun hc => ?_)
          · rw [if_neg hc]
            refine zs rfl rfl rfl ?_
            exact zret rfl rfl (cP_ok (S' := S) (F := F) rfl (frs hf) (hC.sc hf))
          · rw [if_pos (Decidable.not_not.mp hc)]
            refine zs rfl rfl rfl ?_
            refine zs rfl rfl rfl ?_
            refine zcl rfl rfl (c_refuse_3) ?_
            refine zs rfl rfl rfl ?_
            exact zret rfl rfl (cP_ref (S := S) (F := F) (c := 3) rfl (frs hf) (hC.sc hf))
        · refine zs rfl rfl rfl ?_
          refine zs rfl rfl rfl ?_
          first | refine zs rfl rfl rfl ?_ | refine zbt (nI_le (a := 106) (by omega) (by omega)) rfl rfl rfl ?_
          refine zs rfl rfl rfl ?_
          refine zs rfl rfl rfl ?_
          refine zbr rfl rfl rfl (fun hc => ?_) (fun hc => ?_)
          · rw [if_neg hc]
            refine zs rfl rfl rfl ?_
            exact zret rfl rfl (cP_ok (S' := S) (F := F) rfl (frs hf) (hC.sc hf))
          · rw [if_pos (Decidable.not_not.mp hc)]
            refine zs rfl rfl rfl ?_
            refine zs rfl rfl rfl ?_
            refine zcl rfl rfl (c_refuse_3) ?_
            refine zs rfl rfl rfl ?_
            exact zret rfl rfl (cP_ref (S := S) (F := F) (c := 3) rfl (frs hf) (hC.sc hf))
      | succ d ih =>
        intro i M1 tl hi htl hf
        have tail : ∀ M2, Fr sL M M2 → zW X 78 56 [(0, .ref 0), (1, .int (nI j)), (2, .int (cho (bsg S n j) (-1000000004) (-1) i).1), (3, .int (cho (bsg S n j) (-1000000004) (-1) i).2), (4, .int (nI i)), (5, .int (bsg S n j i))] [] M2 N (cP M N (r_ch S F (cho (bsg S n j) (-1000000004) (-1) 106).1)) := by
          intro M2 hf2
          have ih' := ih (i + 1) M2 [(5, .int (bsg S n j i))] (by omega) (Or.inr ⟨_, rfl⟩) hf2
          refine zs rfl rfl rfl ?_
          refine zs rfl rfl rfl ?_
          refine zbr rfl rfl rfl (fun hc => ?_) (fun hc => ?_)
          · rw [cho_f (i_nlt.mpr hc)] at ih'
            refine zinc rfl rfl rfl ?_
            refine zs rfl rfl rfl ?_
            exact ih'
          · rw [cho_t (i_nle.mp hc)] at ih'
            refine zs rfl rfl rfl ?_
            refine zs rfl rfl rfl ?_
            refine zs rfl rfl rfl ?_
            refine zs rfl rfl rfl ?_
            refine zinc rfl rfl rfl ?_
            refine zs rfl rfl rfl ?_
            exact ih'
        rcases htl with rfl | ⟨a, rfl⟩
        · refine zs rfl rfl rfl ?_
          refine zs rfl rfl rfl ?_
          refine zbf (nI_ge (b := 106) (by omega) (by omega)) rfl rfl rfl ?_
          refine zs rfl rfl rfl ?_
          refine zs rfl rfl rfl ?_
          refine zs rfl rfl rfl ?_
          refine zclQ rfl rfl (c_tryBerth (hC.sc hf).1 hO hj (nI i)) ?_
          rintro v2 M2 N2 ⟨rfl, rfl, hf2, hv2⟩
          have hf2' := hf.trans hf2
          cases hb : bth S n j (nI i) with
          | false =>
            have e : bsg S n j i = -1 := by unfold bsg; rw [hb]; rfl
            have t := tail M2 hf2'
            rw [e] at t
            refine zs rfl rfl rfl ?_
            refine zs rfl rfl rfl ?_
            refine zs rfl rfl rfl ?_
            exact t
          | true =>
            have e : bsg S n j i = ght (upl S j (nI i)) n := by unfold bsg; rw [hb]; rfl
            refine zs rfl rfl rfl ?_
            refine zs rfl rfl rfl ?_
            refine zs rfl rfl rfl ?_
            refine zclQ rfl rfl (c_greatestHeld_t (hv2 hb) ((s0_upl S j _).trans hO.s0) hle (hO.k.of (kd_upl S j · _))) ?_
            rintro v4 M4 N4 ⟨rfl, rfl, hf4⟩
            have t := tail M4 (hf2'.trans (hf4.mono (by decide)))
            rw [e] at t
            refine zs rfl rfl rfl ?_
            refine zs rfl rfl rfl ?_
            exact t
        · refine zs rfl rfl rfl ?_
          refine zs rfl rfl rfl ?_
          refine zbf (nI_ge (b := 106) (by omega) (by omega)) rfl rfl rfl ?_
          refine zs rfl rfl rfl ?_
          refine zs rfl rfl rfl ?_
          refine zs rfl rfl rfl ?_
          refine zclQ rfl rfl (c_tryBerth (hC.sc hf).1 hO hj (nI i)) ?_
          rintro v2 M2 N2 ⟨rfl, rfl, hf2, hv2⟩
          have hf2' := hf.trans hf2
          cases hb : bth S n j (nI i) with
          | false =>
            have e : bsg S n j i = -1 := by unfold bsg; rw [hb]; rfl
            have t := tail M2 hf2'
            rw [e] at t
            refine zs rfl rfl rfl ?_
            refine zs rfl rfl rfl ?_
            refine zs rfl rfl rfl ?_
            exact t
          | true =>
            have e : bsg S n j i = ght (upl S j (nI i)) n := by unfold bsg; rw [hb]; rfl
            refine zs rfl rfl rfl ?_
            refine zs rfl rfl rfl ?_
            refine zs rfl rfl rfl ?_
            refine zclQ rfl rfl (c_greatestHeld_t (hv2 hb) ((s0_upl S j _).trans hO.s0) hle (hO.k.of (kd_upl S j · _))) ?_
            rintro v4 M4 N4 ⟨rfl, rfl, hf4⟩
            have t := tail M4 (hf2'.trans (hf4.mono (by decide)))
            rw [e] at t
            refine zs rfl rfl rfl ?_
            refine zs rfl rfl rfl ?_
            exact t
    exact loop 106 0 M [] rfl (Or.inl rfl) Fr.rfl'
  | false =>
    rw [if_neg (by decide)]
    refine zs rfl rfl rfl ?_
    refine zs rfl rfl rfl ?_
    refine zs rfl rfl rfl ?_
    refine zcl rfl rfl (c_refuse_0) ?_
    exact zret rfl rfl (cP_ref (S := S) (F := F) (c := 0) rfl (Fr.rfl') (hC))
theorem c_staysWith (hv : Vw M 1 S) (hO : Ok S n) {j : Nat} (hj : j < n) (c w : Int32) : zV X 107 [.ref 0, .int (nI j), .int c, .int w] M N (fun v M' N' => v = some (.int (bI (sty S n j w c))) ∧ N' = N ∧ Fr sL M M') := by
  refine zVi [(0, .ref 0), (1, .int (nI j)), (2, .int c), (3, .int w)] rfl ?_
  have hle := hO.le
  unfold sty
  refine zs rfl rfl rfl ?_
  refine zs rfl rfl rfl ?_
  refine zs rfl rfl rfl ?_
  refine zs rfl rfl rfl ?_
  refine zclQ rfl rfl (c_take_th hv) ?_
  rintro v0 M2 N2 ⟨rfl, rfl, hf2, hv2⟩
  refine zs rfl rfl rfl ?_
  refine zs rfl rfl rfl ?_
  refine zs rfl rfl rfl ?_
  refine zs rfl rfl rfl ?_
  refine zs rfl rfl rfl ?_
  refine zas rfl rfl rfl rfl (by omega) (by decide) ?_
  refine zs rfl rfl rfl ?_
  refine zs rfl rfl rfl ?_
  refine zs rfl rfl rfl ?_
  refine zclQ rfl rfl (c_settle_t (hv2.upc (show j < 12 by omega) c) ((s0_upc S j c).trans hO.s0) hle (hO.k.of (kd_upc S j · c)) w) ?_
  rintro v3 M3 N3 ⟨rfl, rfl, hf3, hv3, hT⟩
  have hf : Fr sL M M3 := ((hf2.mono (by decide)).trans (Fr.up (by decide))).trans (hf3.mono (by decide))
  refine zs rfl rfl rfl ?_
  refine zs rfl rfl rfl ?_
  refine zs rfl rfl rfl ?_
  refine zs rfl rfl rfl ?_
  refine zal rfl rfl rfl (by omega) (by decide) ?_
  try refine zto rfl (Vw.fl (by assumption) _ (by omega)) ?_
  refine zs rfl rfl rfl ?_
  refine zbr rfl rfl rfl (fun hc => ?_) (fun hc => ?_)
  · rw [decide_eq_false (not_not_intro hc)]
    refine zs rfl rfl rfl ?_
    exact zret rfl rfl ⟨rfl, rfl, hf⟩
  · rw [decide_eq_true hc]
    refine zs rfl rfl rfl ?_
    refine zs rfl rfl rfl ?_
    exact zret rfl rfl ⟨rfl, rfl, hf⟩
theorem c_bears (hC : cC M S F) (hO : Ok S n) (s w : Int32) : zV X 82 [.ref 0, .int s, .int w] M N (cP M N (r_bears S F n s w)) := by
  refine zVi [(0, .ref 0), (1, .int s), (2, .int w)] rfl ?_
  unfold r_bears
  have hn0 := hC.n0 hO
  have hv := hC.1
  have hle := hO.le
  refine zs rfl rfl rfl ?_
  refine zs rfl rfl rfl ?_
  refine zs rfl rfl rfl ?_
  refine zcl rfl rfl (c_hasShip_h hn0 s) ?_
  cases h : shp n s with
  | true =>
    rw [if_pos rfl]
    obtain ⟨j, hj, rfl⟩ := shp_of hle h
    rw [nI_clamp (by omega)]
    refine zs rfl rfl rfl ?_
    refine zs rfl rfl rfl ?_
    refine zcl rfl rfl (c_isWind w) ?_
    by_cases h2 : 0 ≤ w ∧ w ≤ 12
    · rw [decide_eq_true h2, if_pos h2]
      refine zs rfl rfl rfl ?_
      refine zs rfl rfl rfl ?_
      refine zs rfl rfl rfl ?_
      refine zs rfl rfl rfl ?_
      refine zs rfl rfl rfl ?_
      refine zal rfl rfl rfl (by omega) (by decide) ?_
      try refine zto rfl (Vw.fl (by assumption) _ (by omega)) ?_
      refine zs rfl rfl rfl ?_
      refine zbr rfl rfl rfl (fun hc => ?_) (fun hc => ?_)
      · rw [if_neg hc]
        refine zs rfl rfl rfl ?_
        refine zs rfl rfl rfl ?_
        refine zs rfl rfl rfl ?_
        refine zs rfl rfl rfl ?_
        refine zclQ rfl rfl (c_staysWith hv hO hj 9999 w) ?_
        rintro v2 M2 N2 ⟨rfl, rfl, hf2⟩
        cases hs : sty S n j w 9999 with
        | false =>
          rw [if_neg (by decide)]
          refine zs rfl rfl rfl ?_
          refine zs rfl rfl rfl ?_
          refine zs rfl rfl rfl ?_
          refine zcl rfl rfl (c_refuse_3) ?_
          exact zret rfl rfl (cP_ref (S := S) (F := F) (c := 3) rfl (frs hf2) (hC.sc hf2))
        | true =>
          rw [if_pos rfl]
          refine zs rfl rfl rfl ?_
          refine zs rfl rfl rfl ?_
          refine zs rfl rfl rfl ?_
          refine zs rfl rfl rfl ?_
          refine zs rfl rfl rfl ?_
          refine zs rfl rfl rfl ?_
          refine zs rfl rfl rfl ?_
          have loop : ∀ d i l hh M1 tl, i + d = 9999 → l ≤ hh → hh ≤ 9999 → (tl = [] ∨ ∃ a : Int32, tl = [(6, Value.int a)]) → Fr sL M M1 → zW X 82 74 ((0, .ref 0) :: (1, .int (nI j)) :: (2, .int w) :: (3, .int (nI l)) :: (4, .int (nI hh)) :: (5, .int (nI i)) :: tl) [] M1 N2 (cP M N2 (nI (bsr (fun c => sty S n j w (nI c)) d l hh), S, F)) := by
            intro d
            induction d with
            | zero =>
              intro i l hh M1 tl hi hl1 hl2 htl hf
              obtain rfl : i = 9999 := by omega
              rcases htl with rfl | ⟨a, rfl⟩
              · refine zs rfl rfl rfl ?_
                refine zs rfl rfl rfl ?_
                first | refine zs rfl rfl rfl ?_ | refine zbt (nI_le (a := 9999) (by omega) (by omega)) rfl rfl rfl ?_
                refine zs rfl rfl rfl ?_
                exact zret rfl rfl (cP_ok (S' := S) (F := F) rfl (frs hf) (hC.sc hf))
              · refine zs rfl rfl rfl ?_
                refine zs rfl rfl rfl ?_
                first | refine zs rfl rfl rfl ?_ | refine zbt (nI_le (a := 9999) (by omega) (by omega)) rfl rfl rfl ?_
                refine zs rfl rfl rfl ?_
                exact zret rfl rfl (cP_ok (S' := S) (F := F) rfl (frs hf) (hC.sc hf))
            | succ d ih =>
              intro i l hh M1 tl hi hl1 hl2 htl hf
              have go : ¬ hh ≤ l → zW X 82 94 ((0, .ref 0) :: (1, .int (nI j)) :: (2, .int w) :: (3, .int (nI l)) :: (4, .int (nI hh)) :: (5, .int (nI i)) :: tl) [.int (nI ((l + hh) / 2))] M1 N2 (cP M N2 (nI (bsr (fun c => sty S n j w (nI c)) (d + 1) l hh), S, F)) := by
                intro hlt
                unfold bsr
                rw [if_neg hlt]
                have hm1 : (l + hh) / 2 < hh := by omega
                have hm2 : l ≤ (l + hh) / 2 := by omega
                generalize (l + hh) / 2 = m at hm1 hm2
                have rest : zW X 82 96 [(0, .ref 0), (1, .int (nI j)), (2, .int w), (3, .int (nI l)), (4, .int (nI hh)), (5, .int (nI i)), (6, .int (nI m))] [] M1 N2 (cP M N2 (nI (cond (sty S n j w (nI m)) (bsr (fun c => sty S n j w (nI c)) d l m) (bsr (fun c => sty S n j w (nI c)) d (m + 1) hh)), S, F)) := by
                  refine zs rfl rfl rfl ?_
                  refine zs rfl rfl rfl ?_
                  refine zs rfl rfl rfl ?_
                  refine zs rfl rfl rfl ?_
                  refine zclQ rfl rfl (c_staysWith (hC.sc hf).1 hO hj (nI m) w) ?_
                  rintro v3 M3 N3 ⟨rfl, rfl, hf3⟩
                  have hf3' := hf.trans hf3
                  cases sty S n j w (nI m)
                  · refine zs rfl rfl rfl ?_
                    refine zs rfl rfl rfl ?_
                    refine zs rfl rfl rfl ?_
                    refine zs rfl rfl rfl ?_
                    refine zto rfl (nI_1 m) ?_
                    refine zs rfl rfl rfl ?_
                    refine zinc rfl rfl rfl ?_
                    refine zs rfl rfl rfl ?_
                    exact ih (i + 1) (m + 1) hh M3 [(6, .int (nI m))] (by omega) (by omega) hl2 (Or.inr ⟨_, rfl⟩) hf3'
                  · refine zs rfl rfl rfl ?_
                    refine zs rfl rfl rfl ?_
                    refine zs rfl rfl rfl ?_
                    refine zs rfl rfl rfl ?_
                    refine zinc rfl rfl rfl ?_
                    refine zs rfl rfl rfl ?_
                    exact ih (i + 1) l m M3 [(6, .int (nI m))] (by omega) (by omega) (by omega) (Or.inr ⟨_, rfl⟩) hf3'
                rcases htl with rfl | ⟨a, rfl⟩
                · refine zs rfl rfl rfl ?_
                  exact rest
                · refine zs rfl rfl rfl ?_
                  exact rest
              have half : (nI l + nI hh) / 2 = nI ((l + hh) / 2) := by rw [nI_add, nI_half (by omega)]
              by_cases hlt : hh ≤ l
              · unfold bsr
                rw [if_pos hlt]
                rcases htl with rfl | ⟨a, rfl⟩
                · refine zs rfl rfl rfl ?_
                  refine zs rfl rfl rfl ?_
                  refine zbf (nI_ge (b := 9999) (by omega) (by omega)) rfl rfl rfl ?_
                  refine zs rfl rfl rfl ?_
                  refine zs rfl rfl rfl ?_
                  refine zbt (nI_le (by omega) (by omega)) rfl rfl rfl ?_
                  refine zs rfl rfl rfl ?_
                  exact zret rfl rfl (cP_ok (S' := S) (F := F) rfl (frs hf) (hC.sc hf))
                · refine zs rfl rfl rfl ?_
                  refine zs rfl rfl rfl ?_
                  refine zbf (nI_ge (b := 9999) (by omega) (by omega)) rfl rfl rfl ?_
                  refine zs rfl rfl rfl ?_
                  refine zs rfl rfl rfl ?_
                  refine zbt (nI_le (by omega) (by omega)) rfl rfl rfl ?_
                  refine zs rfl rfl rfl ?_
                  exact zret rfl rfl (cP_ok (S' := S) (F := F) rfl (frs hf) (hC.sc hf))
              · rcases htl with rfl | ⟨a, rfl⟩
                · refine zs rfl rfl rfl ?_
                  refine zs rfl rfl rfl ?_
                  refine zbf (nI_ge (b := 9999) (by omega) (by omega)) rfl rfl rfl ?_
                  refine zs rfl rfl rfl ?_
                  refine zs rfl rfl rfl ?_
                  refine zbf (nI_ge (by omega) (by omega)) rfl rfl rfl ?_
                  refine zs rfl rfl rfl ?_
                  refine zs rfl rfl rfl ?_
                  refine zs rfl rfl rfl ?_
                  refine zs rfl rfl rfl ?_
                  refine zs rfl rfl rfl ?_
                  refine zto rfl half ?_
                  exact go hlt
                · refine zs rfl rfl rfl ?_
                  refine zs rfl rfl rfl ?_
                  refine zbf (nI_ge (b := 9999) (by omega) (by omega)) rfl rfl rfl ?_
                  refine zs rfl rfl rfl ?_
                  refine zs rfl rfl rfl ?_
                  refine zbf (nI_ge (by omega) (by omega)) rfl rfl rfl ?_
                  refine zs rfl rfl rfl ?_
                  refine zs rfl rfl rfl ?_
                  refine zs rfl rfl rfl ?_
                  refine zs rfl rfl rfl ?_
                  refine zs rfl rfl rfl ?_
                  refine zto rfl half ?_
                  exact go hlt
          exact loop 9999 0 0 9999 M2 [] rfl (by decide) (by decide) (Or.inl rfl) hf2
      · rw [if_pos (Decidable.not_not.mp hc)]
        refine zs rfl rfl rfl ?_
        refine zs rfl rfl rfl ?_
        refine zcl rfl rfl (c_refuse_4) ?_
        exact zret rfl rfl (cP_ref (S := S) (F := F) (c := 4) rfl (Fr.rfl') (hC))
    · rw [decide_eq_false h2, if_neg h2]
      refine zs rfl rfl rfl ?_
      refine zs rfl rfl rfl ?_
      refine zs rfl rfl rfl ?_
      refine zcl rfl rfl (c_refuse_0) ?_
      exact zret rfl rfl (cP_ref (S := S) (F := F) (c := 0) rfl (Fr.rfl') (hC))
  | false =>
    rw [if_neg (by decide)]
    refine zs rfl rfl rfl ?_
    refine zs rfl rfl rfl ?_
    refine zs rfl rfl rfl ?_
    refine zcl rfl rfl (c_refuse_0) ?_
    exact zret rfl rfl (cP_ref (S := S) (F := F) (c := 0) rfl (Fr.rfl') (hC))
end CPUB4
