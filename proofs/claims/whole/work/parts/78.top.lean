/-! THE CLAIM OUT OF ONE WALK OF THE LAW'S BODY. Your part is whole_start (and what it stands on); all else here is the same for every law, but numbers. -/
def R_law : String := "AnchorStringLaw"
def lw_P (b : Addr) (xs : List Int32) (args : Array Value) (s : State) : Prop := args = #[.ref b] ∧ s.IntsAt b xs ∧ xs.length ≤ 3072 ∧ (Jvm.Cond.and given_1 narrow_1).before args s = true
def lw_Q (_ : Array Value) (s : State) (o : Outcome) (t : State) : Prop := o = .returned (some (.int 1)) ∧ Framed s o t [] 600000 7302250
def lw_Z (below : List Frame) (a : Array Value) (s : State) : State → Prop := fun t => ∃ o, t.status = .running ∧ Ended t below o ∧ lw_Q a s o t
/-- the law's own end, with 1 on the stack, nothing written that was there before, its room as the claim has it -/
theorem lw_ret {p : Program} {l : Launch} {e : Env} {s : State} {m : MethodId} {below : List Frame} {meth : Method} {c : Code} {b : Nat} (hx : p.tables.exec = Jvm.exec) (hb : c.code = code) (hr : meth.sig.returnType = ret) (hlocks : meth.locks = false) {pc : Nat} {H : Heap} {ls : Array Slot} (hdg : decode code pc = .ok (.ireturn, 1)) : W p l e room_1 s m #[Value.ref b] below meth c H [] 600000 7302250 (lw_Z below #[Value.ref b] s) (F0 m pc ls [.int 1]) := by
  intro T hT X
  obtain ⟨fs, hret, hrun, hended, hW, hframe⟩ := X.leave (v := some (.int 1)) (hlocks := hlocks) (fun h => by rw [hr] at h; cases h)
  have hmeth' : T.vm.method? m = some meth := X.method'
  refine ⟨T.setFrames fs, ?_, .returned (some (.int 1)), hrun, hended, rfl, ⟨_, rfl⟩, hW, hframe⟩
  jvm_step X.here [X.here.top, hx, hb, hdg, hmeth', hr, ret, narrow_b1]
  (try refine ⟨rfl, ?_⟩); (try refine ⟨rfl, ?_⟩)
  first | (intro acts; rw [hret _ acts rfl rfl rfl]) | rw [hret _ _ rfl rfl rfl]
  exact Steps.refl _
/-- what holds at the law's entry: the machine, the code, the tables' words (any of lw_tbl by 'hts w (by decide +kernel)'), the script of L ints xs at the cell b, what the Statement gives of the start (any of its parts by flat_of_before) -/
def lw_At (p : Program) (s : State) (m : MethodId) (meth : Method) (c : Code) (b L : Nat) (xs : Nat → Int32) : Prop :=
  p.tables.exec = Jvm.exec ∧ c.code = code ∧ meth.sig.returnType = ret ∧ c.maxLocals = 4 ∧ s.vm.findClass R_law = some m.cls ∧ (∀ w ∈ lw_tbl, w.before #[Value.ref b] s = true) ∧ va_X b L xs s s.heap ∧ b < s.heap.size ∧ meth.locks = false ∧ (Jvm.Cond.and given_1 narrow_1).before #[Value.ref b] s = true

/-! what the Statement gives of the start -/
abbrev z_gv : Cond := Jvm.Cond.and given_1 narrow_1
def z_tm (i : Nat) : Term := .string "AnchorString$Tape" (82 + 2 * i)
abbrev z_tmv (i : Nat) : Term := .field (z_tm i) "java/lang/String" "value" "[B"
set_option maxRecDepth 100000 in
theorem z_s1 : ∀ i, i < 14 → Cond.exactly (z_tm i) "java/lang/String" ∈ flatC z_gv := by decide +kernel
set_option maxRecDepth 100000 in
theorem z_s2 : ∀ i, i < 14 → Cond.eq (.field (z_tm i) "java/lang/String" "coder" "B") (.int 0) ∈ flatC z_gv := by decide +kernel
set_option maxRecDepth 100000 in
theorem z_s3 : ∀ i, i < 14 → Cond.arrayOf (z_tmv i) .byte ∈ flatC z_gv := by decide +kernel
set_option maxRecDepth 100000 in
theorem z_s4 : ∀ i, i < 14 → Cond.eq (.length (z_tmv i)) (.int (Int32.ofNat (z_wl.getD i 0))) ∈ flatC z_gv := by decide +kernel
set_option maxRecDepth 100000 in
theorem z_s5 : ∀ i, i < 14 → ∀ j, j < z_wl.getD i 0 → Cond.eq (.elem (z_tmv i) (.int (Int32.ofNat j))) (.int ((z_wd.getD i []).getD j 0)) ∈ flatC z_gv := by decide +kernel
set_option maxRecDepth 100000 in
theorem z_s6_0 : ∀ i, i < 0 → Cond.not (Cond.eq (z_tm i) (z_tm 0)) ∈ flatC z_gv := by decide +kernel
set_option maxRecDepth 100000 in
theorem z_s6_1 : ∀ i, i < 1 → Cond.not (Cond.eq (z_tm i) (z_tm 1)) ∈ flatC z_gv := by decide +kernel
set_option maxRecDepth 100000 in
theorem z_s6_2 : ∀ i, i < 2 → Cond.not (Cond.eq (z_tm i) (z_tm 2)) ∈ flatC z_gv := by decide +kernel
set_option maxRecDepth 100000 in
theorem z_s6_3 : ∀ i, i < 3 → Cond.not (Cond.eq (z_tm i) (z_tm 3)) ∈ flatC z_gv := by decide +kernel
set_option maxRecDepth 100000 in
theorem z_s6_4 : ∀ i, i < 4 → Cond.not (Cond.eq (z_tm i) (z_tm 4)) ∈ flatC z_gv := by decide +kernel
set_option maxRecDepth 100000 in
theorem z_s6_5 : ∀ i, i < 5 → Cond.not (Cond.eq (z_tm i) (z_tm 5)) ∈ flatC z_gv := by decide +kernel
set_option maxRecDepth 100000 in
theorem z_s6_6 : ∀ i, i < 6 → Cond.not (Cond.eq (z_tm i) (z_tm 6)) ∈ flatC z_gv := by decide +kernel
set_option maxRecDepth 100000 in
theorem z_s6_7 : ∀ i, i < 7 → Cond.not (Cond.eq (z_tm i) (z_tm 7)) ∈ flatC z_gv := by decide +kernel
set_option maxRecDepth 100000 in
theorem z_s6_8 : ∀ i, i < 8 → Cond.not (Cond.eq (z_tm i) (z_tm 8)) ∈ flatC z_gv := by decide +kernel
set_option maxRecDepth 100000 in
theorem z_s6_9 : ∀ i, i < 9 → Cond.not (Cond.eq (z_tm i) (z_tm 9)) ∈ flatC z_gv := by decide +kernel
set_option maxRecDepth 100000 in
theorem z_s6_10 : ∀ i, i < 10 → Cond.not (Cond.eq (z_tm i) (z_tm 10)) ∈ flatC z_gv := by decide +kernel
set_option maxRecDepth 100000 in
theorem z_s6_11 : ∀ i, i < 11 → Cond.not (Cond.eq (z_tm i) (z_tm 11)) ∈ flatC z_gv := by decide +kernel
set_option maxRecDepth 100000 in
theorem z_s6_12 : ∀ i, i < 12 → Cond.not (Cond.eq (z_tm i) (z_tm 12)) ∈ flatC z_gv := by decide +kernel
set_option maxRecDepth 100000 in
theorem z_s6_13 : ∀ i, i < 13 → Cond.not (Cond.eq (z_tm i) (z_tm 13)) ∈ flatC z_gv := by decide +kernel
theorem z_s6a : ∀ j, j < 14 → ∀ i, i < j → Cond.not (Cond.eq (z_tm i) (z_tm j)) ∈ flatC z_gv := by
  intro j hj
  match j, hj with
  | 0, _ => exact z_s6_0
  | 1, _ => exact z_s6_1
  | 2, _ => exact z_s6_2
  | 3, _ => exact z_s6_3
  | 4, _ => exact z_s6_4
  | 5, _ => exact z_s6_5
  | 6, _ => exact z_s6_6
  | 7, _ => exact z_s6_7
  | 8, _ => exact z_s6_8
  | 9, _ => exact z_s6_9
  | 10, _ => exact z_s6_10
  | 11, _ => exact z_s6_11
  | 12, _ => exact z_s6_12
  | 13, _ => exact z_s6_13
theorem z_s6 : ∀ i, i < 14 → ∀ j, j < 14 → i ≠ j → Cond.not (Cond.eq (z_tm i) (z_tm j)) ∈ flatC z_gv ∨ Cond.not (Cond.eq (z_tm j) (z_tm i)) ∈ flatC z_gv := by
  intro i hi j hj hij
  rcases Nat.lt_or_gt_of_ne hij with h | h
  · exact Or.inl (z_s6a j hj i h)
  · exact Or.inr (z_s6a i hi j h)
set_option maxRecDepth 100000 in
theorem z_s7 : ∀ i, i < 14 → z_wl.getD i 0 < 2 ^ 31 := by decide +kernel
set_option maxRecDepth 100000 in
theorem z_s8 : z_sr.all (fun q => decide (lw_tbl[q.2.2]? = some (Cond.stringRef "AnchorString$Tape" q.1 q.2.1))) = true := by decide +kernel
set_option maxRecDepth 100000 in
theorem z_s9 : Cond.arrayOf (.static "AnchorString" "KIND_ABOVE" "[I") .int ∈ flatC z_gv ∧ Cond.eq (.length (.static "AnchorString" "KIND_ABOVE" "[I")) (.int 6) ∈ flatC z_gv ∧ (∀ j, j < 6 → Cond.eq (.elem (.static "AnchorString" "KIND_ABOVE" "[I") (.int (Int32.ofNat j))) (.int (z_ka.getD j 0)) ∈ flatC z_gv) ∧ Cond.eq (.static "java/lang/String" "COMPACT_STRINGS" "Z") (.int 1) ∈ flatC z_gv ∧ Cond.isRef (.static "jdk/internal/util/Preconditions" "SIOOBE_FORMATTER" "Ljava/util/function/BiFunction;") ∈ flatC z_gv := by decide +kernel
set_option maxRecDepth 100000 in
theorem z_s10 : lw_tbl[368]? = some (.laysStatic "AnchorString" "KIND_ABOVE" "[I") ∧ lw_tbl[613]? = some (.laysStatic "java/lang/String" "COMPACT_STRINGS" "Z") ∧ lw_tbl[629]? = some (.laysStatic "jdk/internal/util/Preconditions" "SIOOBE_FORMATTER" "Ljava/util/function/BiFunction;") ∧ lw_tbl[210]? = some (.arrayOver (.object "AnchorString$Sheet")) ∧ Cond.initialized "AnchorString" ∈ lw_tbl ∧ Cond.initialized "java/lang/String" ∈ lw_tbl ∧ Cond.initialized "jdk/internal/util/Preconditions" ∈ lw_tbl := by decide +kernel
theorem z_tb_in {w : Cond} (h : w ∈ z_tb) : w ∈ lw_tbl := (List.mem_filter.mp h).1
set_option maxHeartbeats 4000000 in
theorem z_env {s : State} {b L : Nat} {xs : Nat → Int32} (hts : ∀ w ∈ lw_tbl, w.before #[Value.ref b] s = true) (hX : va_X b L xs s s.heap) (hbl : b < s.heap.size) (hgv : z_gv.before #[Value.ref b] s = true) : ∃ G : zG, G.1 = s.heap.size ∧ G.2.2.2 3001 = .ref b ∧ zEnv G (L, xs) s s.heap := by
  have hs := flat_of_before _ hgv
  have hA : ∀ a : Nat, a < s.heap.size → ¬ s.heap.size ≤ a := fun a h => Nat.not_le.mpr h
  have htb : ∀ w ∈ z_tb, w.before #[Value.ref b] s = true := fun w hw => hts w (z_tb_in hw)
  have hcl : ∀ ci : Nat, ∃ q : ClassId × (Nat → Nat), ci < 6 → u_Kn s (z_cn ci) (z_T ci) (z_NF ci) q.1 q.2 := by
    intro ci
    by_cases h : ci < 6
    · obtain ⟨cC, iS, hk⟩ := u_known (n := z_NF ci) htb (z_inb h) (htb _ (z_ini h).2)
      exact ⟨(cC, iS), fun _ => hk⟩
    · exact ⟨(0, fun _ => 0), fun q => absurd q h⟩
  obtain ⟨f, hf⟩ := Classical.axiomOfChoice hcl
  obtain ⟨cI, kI, mI, i1, i2, i3⟩ := Cond.arrayClass_spec (htb _ z_q6)
  obtain ⟨cJ, kJ, mJ, j1, j2, j3⟩ := Cond.arrayClass_spec (htb _ z_q7)
  have hov : va_AO "AnchorString$Sheet" s := va_AO.of (hts _ (List.mem_of_getElem? z_s10.2.2.2.1))
  obtain ⟨mO, cO, kO, o1, -, o3, o4, o5⟩ := Cond.arrayOver_spec hov
  obtain ⟨tK, tk1, tk2⟩ := va_Tof (f := fun j => .int (z_ka.getD j 0)) (N := 6) (A := fun q => s.heap.size ≤ q) (by decide) (hs _ z_s9.1) (va_eqt (hs _ z_s9.2.1)) (fun j hj => va_eqt (hs _ (z_s9.2.2.1 j hj))) hA
  have zK := va_Zof (A := fun q => s.heap.size ≤ q) (hts _ (List.mem_of_getElem? z_s10.1)) (hts _ z_s10.2.2.2.2.1) tk1 hA
  have zC := va_Zof (A := fun q => s.heap.size ≤ q) (hts _ (List.mem_of_getElem? z_s10.2.1)) (hts _ z_s10.2.2.2.2.2.1) (va_eqi (hs _ z_s9.2.2.2.1)) hA
  have zF := va_Zqof (A := fun q => s.heap.size ≤ q) (hts _ (List.mem_of_getElem? z_s10.2.2.1)) (hts _ z_s10.2.2.2.2.2.2) (hs _ z_s9.2.2.2.2) hA
  obtain ⟨fm, hfm, zF⟩ : ∃ fm : Value, (fm = .null ∨ ∃ a, fm = .ref a) ∧ va_Z "jdk/internal/util/Preconditions" "SIOOBE_FORMATTER" "Ljava/util/function/BiFunction;" fm (fun q => s.heap.size ≤ q) s s.heap := by
    rcases zF with h | ⟨t, h⟩
    · exact ⟨.null, Or.inl rfl, h⟩
    · exact ⟨.ref t, Or.inr ⟨t, rfl⟩, h⟩
  obtain ⟨adK, adV, hS, hev⟩ := vk_Sof (tm := z_tm) (N := 14) (len := z_wl) (byt := z_wd) (A := fun q => s.heap.size ≤ q) z_s7 (fun i hi => hs _ (z_s1 i hi)) (fun i hi => hs _ (z_s2 i hi)) (fun i hi => hs _ (z_s3 i hi)) (fun i hi => hs _ (z_s4 i hi)) (fun i hi j hj => hs _ (z_s5 i hi j hj)) (fun i j hi hj hij => (z_s6 i hi j hj hij).imp (fun h => hs _ h) (fun h => hs _ h)) hA
  let E : Nat → Value := fun k => if k = 3000 then .ref tK else if k = 3001 then .ref b else if k = 3002 then fm else if 2000 ≤ k then .ref (adV (k - 2000)) else .ref (adK (k - 1000))
  refine ⟨(s.heap.size, (fun c => (f c).1, fun c => (f c).2), (fun i => if i = 0 then cI else if i = 1 then cJ else cO), E), rfl, rfl, ?_⟩
  refine ⟨⟨?_, ?_⟩, hov, ?_, ?_, zK, zC, zF, ⟨tK, rfl, tk2⟩, ⟨b, rfl, hX, hbl, Nat.not_le.mpr hbl⟩, adK, adV, ?_, hS, ?_⟩
  · intro c q hq
    have h6 : c < 6 := (List.getElem?_eq_some_iff.mp hq).1
    rw [z_clb h6] at hq
    cases hq
    exact hf c h6
  · intro k q hq
    match k, hq with
    | 0, hq =>
      cases hq
      exact ⟨fun n z => ⟨fun k h => (by cases h), kI, i2, mI, i3⟩, i1⟩
    | 1, hq =>
      cases hq
      exact ⟨fun n z => ⟨fun k h => (by cases h), kJ, j2, mJ, j3⟩, j1⟩
    | 2, hq =>
      cases hq
      exact ⟨fun n z => ⟨fun k h => (by cases h), kO, o3, mO, o4⟩, kO, mO, o3, o4, o1, o5⟩
    | n + 3, hq => simp [z_tys] at hq
  · intro q hq
    have := List.all_eq_true.mp z_wN q hq
    exact va_Nw.of rfl (hts _ (List.mem_of_getElem? (of_decide_eq_true this)))
  · intro k
    show E k = .null ∨ ∃ a, E k = .ref a
    simp only [E]
    split
    · exact Or.inr ⟨_, rfl⟩
    · split
      · exact Or.inr ⟨_, rfl⟩
      · split
        · exact hfm
        · split
          · exact Or.inr ⟨_, rfl⟩
          · exact Or.inr ⟨_, rfl⟩
  · intro i hi
    constructor
    · show E (1000 + i) = _
      simp only [E]
      rw [if_neg (by omega), if_neg (by omega), if_neg (by omega), if_neg (by omega), Nat.add_sub_cancel_left]
    · show E (2000 + i) = _
      simp only [E]
      rw [if_neg (by omega), if_neg (by omega), if_neg (by omega), if_pos (by omega), Nat.add_sub_cancel_left]
  · intro i q hq
    have hi : i < 14 := (List.getElem?_eq_some_iff.mp hq).1
    obtain ⟨q2, hq2, hq3⟩ := z_sr_ok i hi
    cases hq.symm.trans hq2
    have h1 := List.all_eq_true.mp z_s8 q (List.mem_of_getElem? hq)
    have h2 := hev i hi
    unfold z_tm at h2
    rw [← hq3] at h2
    exact vk_R.of (hts _ (List.mem_of_getElem? (of_decide_eq_true h1))) h2
set_option maxHeartbeats 4000000 in
/-- the law, out of one run of the small machine -/
theorem z_top {p : Program} {e : Env} {s : State} {m : MethodId} {below : List Frame} {meth : Method} {c : Code} (l : Launch) {b L : Nat} {xs : Nat → Int32} (C0 : lw_At p s m meth c b L xs) {n : Nat} {h' : zH} (hrun : z_run (z_hop1 (L, xs)) z_rcv1 z_P z_rk n 232 0 [(0, .ref 3001)] [] [] = some (some (.int 1), h')) (hc : h'.length ≤ 600000) (hsl : z_us h' ≤ 7302250) : W p l e room_1 s m #[Value.ref b] below meth c s.heap [] 0 0 (lw_Z below #[Value.ref b] s) (entryFrame m ([Value.ref b] : List Value).toArray 4) := by
  obtain ⟨hx, hb, hr, hml, hown, hts, hX, hbl, hlocks, hgv⟩ := C0
  obtain ⟨G, hG1, hG2, henv⟩ := z_env hts hX hbl hgv
  have hE := henv.2.2.2.1
  have hl := lv_entry ([.ref b]) (n := 4) (Nat.le_of_ble_eq_true rfl)
  rw [lg_entry_eq]
  generalize (lg_sl ([.ref b]) ++ List.replicate (4 - (lg_sl ([.ref b])).length) Slot.unset).toArray = ls at hl ⊢
  refine z_rw (G := G) n 232 0 [(0, .ref 3001)] [] [] h' (some (.int 1)) hrun (by decide) p l e room_1 s m _ below meth c _ s.heap [] 0 0 (h'.length - 0) (z_us h' - 0) ls ?_ ?_ ?_ (Nat.zero_add _) (Nat.zero_add _) (by show h'.length - 0 ≤ 600000; omega) (by show z_us h' - 0 ≤ 7302250; omega) ?_
  · exact ⟨hx, hb, hml, hown, fun w hw => hts w (z_tb_in hw), fun h => absurd h (by decide), henv, by omega, by decide, by decide⟩
  · refine ⟨fun k q h => ?_, Nat.zero_le _, va_S.rf, ?_⟩
    · rw [z_ws_at] at h
      cases h
    · show G.1 + 0 = s.heap.size + 0
      omega
  · refine ⟨hl.1, hl.2.1, fun k v hk hv => ?_⟩
    rw [z_lk_cons] at hk
    by_cases h0 : (0 : Nat) = k
    · rw [if_pos h0] at hk
      cases hk
      have e1 : z_rv G (.ref 3001) = .ref b := by rw [z_rv_hi (by decide)]; exact hG2
      rw [e1, ← h0]
      exact hl.2.2 (0, .ref b) (by simp [lv_args])
    · rw [if_neg h0] at hk
      cases hk
  · intro H' locs' ls' pc' E st' he hct hS
    obtain ⟨ins, nx, tg, a, bb, v⟩ := E
    obtain ⟨hd, ho⟩ := z_row_ok (by decide : 232 < 233) he
    have hrk : z_rk 232 = some .boolean := rfl
    rw [hrk] at hct
    cases ins
    case ireturn =>
      simp only [z_oki, decide_eq_true_eq] at ho
      subst ho
      rw [Nat.add_sub_cancel_left] at hd
      simp only [z_ctl] at hct
      split at hct
      · next heq => cases heq
      · next x heq =>
        split at hct
        · cases hct
          refine va_forget (fun q hq => ?_) ?_
          · have := hS.2.2.1.2.2 q hq
            unfold z_A at this
            omega
          refine W.widen (k := 600000) (n := 7302250) (by omega) (by omega) ?_
          exact lw_ret hx hb hr hlocks hd
        · cases hct
      · next heq => cases heq
      · next heq => cases heq
      · cases hct
    all_goals
      simp only [z_ctl, Bool.cond_eq_ite] at hct
      repeat' split at hct
      all_goals cases hct
