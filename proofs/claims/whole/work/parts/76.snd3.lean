/-! Every run of the small machine that ends is a run of the machine. -/
theorem z_stp_heap {Hh : Type} {hop : zE → List Value → Hh → Option (List Value × Hh)} {pc pc' : Nat} {E : zE} {L L' : zL} {st st' : List Value} {h h' : Hh} (hs : z_stp hop pc E L st h = some (pc', L', st', h')) : h' = h ∨ hop E st h = some (st', h') := by
  obtain ⟨ins, nx, tg, a, b, v⟩ := E
  cases ins
  case ifCond cc off => cases cc <;> simp only [z_stp] at hs <;> (repeat' split at hs) <;> first | (cases hs; exact Or.inl rfl) | cases hs
  case if_icmp cc off => cases cc <;> simp only [z_stp] at hs <;> (repeat' split at hs) <;> first | (cases hs; exact Or.inl rfl) | cases hs
  case ifnull off =>
    simp only [z_stp] at hs
    split at hs
    · cases hs; exact Or.inl rfl
    · next x r =>
      cases hb : Nat.blt x 1000 <;> rw [hb] at hs
      · cases hs
      · cases hs; exact Or.inl rfl
    · cases hs
  case ifnonnull off =>
    simp only [z_stp] at hs
    split at hs
    · cases hs; exact Or.inl rfl
    · next x r =>
      cases hb : Nat.blt x 1000 <;> rw [hb] at hs
      · cases hs
      · cases hs; exact Or.inl rfl
    · cases hs
  all_goals
    simp only [z_stp] at hs
    repeat' split at hs
    all_goals first | (cases hs; exact Or.inl rfl) | (next hh => cases hs; exact Or.inr hh) | cases hs
set_option maxHeartbeats 4000000 in
theorem z_hop1_mono {X : Nat × (Nat → Int32)} {E : zE} {st st' : List Value} {h h' : zH} (hs : z_hop1 X E st h = some (st', h')) : h.length ≤ h'.length ∧ z_us h ≤ z_us h' := by
  obtain ⟨ins, nx, tg, a, b, v⟩ := E
  cases ins
  all_goals
    simp only [z_hop1, Bool.cond_eq_ite] at hs
    repeat' split at hs
    all_goals first
      | (cases hs; exact ⟨Nat.le_refl _, Nat.le_refl _⟩)
      | (cases hs; refine ⟨by rw [List.length_set]; exact Nat.le_refl _, ?_⟩; rw [z_us_set _ _ _ _ (by assumption) (by simp [z_sl])]; exact Nat.le_refl _)
      | (cases hs; refine ⟨by simp, ?_⟩; rw [z_us_push]; exact Nat.le_add_right _ _)
      | cases hs
theorem z_run_mono {X : Nat × (Nat → Int32)} : ∀ (n : Nat) {j pc : Nat} {L : zL} {st : List Value} {h h' : zH} {r : Option Value}, z_run (z_hop1 X) z_rcv1 z_P z_rk n j pc L st h = some (r, h') → h.length ≤ h'.length ∧ z_us h ≤ z_us h' := by
  intro n
  induction n with
  | zero => intro j pc L st h h' r hx; cases hx
  | succ n ih =>
    intro j pc L st h h' r hx
    rw [z_run] at hx
    cases hP : z_P j pc with
    | none => rw [hP] at hx; cases hx
    | some E =>
      rw [hP] at hx
      dsimp only at hx
      cases hc : z_ctl z_rcv1 (z_rk j) E st h with
      | none =>
        rw [hc] at hx
        dsimp only at hx
        cases hs : z_stp (z_hop1 X) pc E L st h with
        | none => rw [hs] at hx; cases hx
        | some q =>
          obtain ⟨pc1, L1, st1, h1⟩ := q
          rw [hs] at hx
          have i1 := ih hx
          rcases z_stp_heap hs with rfl | hh
          · exact i1
          · have i2 := z_hop1_mono hh
            exact ⟨Nat.le_trans i2.1 i1.1, Nat.le_trans i2.2 i1.2⟩
      | some w =>
        rw [hc] at hx
        cases w with
        | inr v => cases hx; exact ⟨Nat.le_refl _, Nat.le_refl _⟩
        | inl q =>
          obtain ⟨k, as, rs⟩ := q
          dsimp only at hx
          cases hr : z_run (z_hop1 X) z_rcv1 z_P z_rk n k 0 (z_args 0 as) [] h with
          | none => rw [hr] at hx; cases hx
          | some y =>
            obtain ⟨v, h1⟩ := y
            rw [hr] at hx
            have i1 := ih hr
            have i2 := ih hx
            exact ⟨Nat.le_trans i1.1 i2.1, Nat.le_trans i1.2 i2.2⟩
noncomputable def z_wsj (j : Nat) : List Cond := Cond.code (z_y j) (z_cd j) (z_mx j) (z_rk j) :: z_tb
noncomputable def z_rm (j mc ms : Nat) : Room := { frames := z_fr j, cells := mc, slots := ms, locals := z_lo j }
/-- a contract's start, and its end -/
def zPre (G : zG) (X : Nat × (Nat → Int32)) (h : zH) (U : State) : Prop := va_P G.2.1 z_cl (z_ws G h) U.heap ∧ h.length ≤ 1000 ∧ U.heap.size = G.1 + h.length ∧ zEnv G X U U.heap
def zPost (G : zG) (r : Option Value) (h : zH) : Array Value → State → Outcome → State → Prop := fun _ st o t => o = .returned (r.map (z_rv G)) ∧ va_P G.2.1 z_cl (z_ws G h) t.heap ∧ h.length ≤ 1000 ∧ va_F (z_A G) st t
theorem z_mw {j : Nat} (hj : j < 232) : Cond.code (z_y j) (z_cd j) (z_mx j) (z_rk j) ∈ z_tb ∧ Cond.initialized (z_y j).cls ∈ z_tb ∧ (z_kd j = 0 → Cond.instanceMethod (z_y j) ∈ z_tb ∧ Cond.selects (z_y j).cls (z_y j) (z_y j) ∈ z_tb ∧ (z_y j).name ≠ "<init>") ∧ (z_kd j = 1 → Cond.static (z_y j) ∈ z_tb ∧ (z_y j).name ≠ "<init>") ∧ (z_kd j = 2 → Cond.instanceMethod (z_y j) ∈ z_tb ∧ (z_y j).name = "<init>" ∧ z_rk j = none) ∧ (z_y j).cls = z_cn (z_oc j) ∧ ((z_y j).cls ≠ "java/lang/invoke/MethodHandle" ∧ (z_y j).cls ≠ "java/lang/invoke/VarHandle" ∧ (parseMethodDescriptor (z_y j).desc).map (fun d => d.parameters.length) = some (z_np j)) ∧ (z_oc j ≠ 7 → plainName (z_y j).cls = true) := by
  have h := z_wm hj
  rw [Bool.and_eq_true, Bool.or_eq_true, decide_eq_true_eq] at h
  obtain ⟨h, hp⟩ := h
  simp only [z_mwb, Bool.and_eq_true, decide_eq_true_eq] at h
  obtain ⟨⟨⟨⟨⟨h1, h2⟩, h3⟩, h4⟩, h5⟩, h6⟩ := h
  refine ⟨z_at_in h1, z_at_in h2, fun e => ?_, fun e => ?_, fun e => ?_, h4, ⟨h5.1, h5.2, h6⟩, fun e => hp.resolve_right e⟩
  · rw [e] at h3
    simp only [Bool.and_eq_true, decide_eq_true_eq] at h3
    exact ⟨z_at_in h3.1.1, z_at_in h3.1.2, h3.2⟩
  · rw [e] at h3
    simp only [Bool.and_eq_true, decide_eq_true_eq] at h3
    exact ⟨z_at_in h3.1, h3.2⟩
  · rw [e] at h3
    simp only [Bool.and_eq_true, decide_eq_true_eq] at h3
    exact ⟨z_at_in h3.1, h3.2.1, h3.2.2⟩
theorem z_tb_good {Ts : List Cond} {j : Nat} (hj : j < 232) (h : ∀ w ∈ z_tb, w ∈ Ts) : GoodIn Ts (z_wsj j) := by
  have key : ∀ w ∈ z_tb, w ∈ Ts ∧ ((w.onTables && w.keeps) = true ∨ ∃ ty, w = .arrayClass ty) := fun w hw => ⟨h w hw, good_of_word (List.mem_filter.mp hw).2⟩
  intro w hw
  rcases List.mem_cons.mp hw with rfl | hw
  · exact key _ (z_mw hj).1
  · exact key w hw
theorem z_lgsl : ∀ vs : List Value, (lg_sl vs).length = (vs.map fun v => v.category).sum
  | [] => rfl
  | v :: t => by
    have e : lg_sl (v :: t) = (if v.category = 2 then [Slot.val v, Slot.second] else [Slot.val v]) ++ lg_sl t := by simp [lg_sl]
    rw [e, List.length_append, z_lgsl t, List.map_cons, List.sum_cons]
    rcases lv_cat v with h | h <;> simp [h]
section RUN
variable {G : zG} {X : Nat × (Nat → Int32)}
/-- what a run of n steps is in the machine -/
def zRW (G : zG) (X : Nat × (Nat → Int32)) (n : Nat) : Prop := ∀ (j pc : Nat) (L : zL) (st : List Value) (h h' : zH) (r : Option Value), z_run (z_hop1 X) z_rcv1 z_P z_rk n j pc L st h = some (r, h') → j < 233 →
  ∀ (p : Program) (l : Launch) (e : Env) (R : Room) (s : State) (m : MethodId) (args : Array Value) (below : List Frame) (meth : Method) (c : Code) (Q : State → Prop) (H : Heap) (locs : List Loc) (cells slots cF sF : Nat) (ls : Array Slot),
    zCx p R s m args meth c G X j → zSt G s h H locs cells → z_lr G L ls (z_mx j) → cells + (h'.length - h.length) = cF → slots + (z_us h' - z_us h) = sF → cF ≤ R.cells → sF ≤ R.slots →
    (∀ (H' : Heap) (locs' : List Loc) (ls' : Array Slot) (pc' : Nat) (E : zE) (st' : List Value), z_P j pc' = some E → z_ctl z_rcv1 (z_rk j) E st' h' = some (.inr r) → zSt G s h' H' locs' cF → W p l e R s m args below meth c H' locs' cF sF Q (F0 m pc' ls' (st'.map (z_rv G)))) →
    W p l e R s m args below meth c H locs cells slots Q (F0 m pc ls (st.map (z_rv G)))
set_option maxHeartbeats 4000000 in
/-- a run of a method from its entry is a contract -/
theorem z_met {n k : Nat} {as : List Value} {h h1 : zH} {r : Option Value} (ih : zRW G X n) (hE : ∀ k, G.2.2.2 k = .null ∨ ∃ a, G.2.2.2 k = .ref a) (hk : k < 232) (hk7 : z_oc k ≠ 7) (hw : z_sum as ≤ z_mx k) (hr : z_run (z_hop1 X) z_rcv1 z_P z_rk n k 0 (z_args 0 as) [] h = some (r, h1)) (l : Launch) :
    Met l (z_y k) (z_wsj k) (z_rm k (h1.length - h.length) (z_us h1 - z_us h)) (va_Pc (as.map (z_rv G)) (zPre G X h)) (zPost G r h1) (h1.length - h.length) (z_us h1 - z_us h) (z_A G) := by
  obtain ⟨w1, w2, w3, w4, w5, w6, w7, w8⟩ := z_mw hk
  refine Met.ofW (cc := z_cd k) (maxL := z_mx k) (ret := z_rk k) (w8 hk7) rfl ?_
  intro p e s m args below meth c s₁ B hml hv
  obtain ⟨rfl, hP, h1000, hsz, henv⟩ := hv
  have hts := atoms_spec (ws := z_wsj k) B.pre
  have hown : s.vm.findClass (z_y k).cls = some m.cls := findClass_of_methodNamed B.named
  have hnm : meth.name = (z_y k).name := (name_of_methodNamed B.named B.method).1
  have hret := B.returns
  have hlocks := B.notSynchronized
  have hsum : (lg_sl (as.map (z_rv G))).length ≤ z_mx k := by
    rw [z_lgsl, z_sum_rv hE]; exact hw
  have hl := lv_entry (as.map (z_rv G)) (n := z_mx k) hsum
  rw [lg_entry_eq]
  generalize (lg_sl (as.map (z_rv G)) ++ List.replicate (z_mx k - (lg_sl (as.map (z_rv G))).length) Slot.unset).toArray = ls at hl ⊢
  have hS0 : va_S (z_A G) s.heap s.heap [] := va_S.rf
  refine ih k 0 (z_args 0 as) [] h h1 r hr (by omega) p l e (headSpec (z_wsj k) (z_rm k (h1.length - h.length) (z_us h1 - z_us h))).room s m _ below meth c _ s.heap [] 0 0 (h1.length - h.length) (z_us h1 - z_us h) ls ?_ ?_ ?_ (Nat.zero_add _) (Nat.zero_add _) (Nat.le_refl _) (Nat.le_refl _) ?_
  · refine ⟨B.exec, B.bytes, hml, ?_, fun w hw => hts w (List.mem_cons_of_mem _ hw), fun e2 => ?_, henv, by omega, Nat.le_refl _, Nat.le_refl _⟩
    · rw [← w6]; exact hown
    · rw [hnm]; exact (w5 e2).2.1
  · exact ⟨hP, h1000, hS0, by omega⟩
  · exact ⟨hl.1, hl.2.1, fun i v hv hr => hl.2.2 _ (z_args_in hE as 0 i v hv hr)⟩
  · intro H' locs' ls' pc' E st' he hc hS
    have hpost : ∀ t : State, t.heap = H' → zPost G r h1 (as.map (z_rv G)).toArray s (.returned (r.map (z_rv G))) t := fun t ht => ⟨rfl, by rw [ht]; exact hS.1, hS.2.1, hS.2.2.1.F ht⟩
    have hfree : ∀ q ∈ locs', z_A G q.base := hS.2.2.1.2.2
    obtain ⟨ins, nx, tg, a, b, v⟩ := E
    obtain ⟨hd, ho⟩ := z_row_ok (by omega : k < 233) he
    cases ins
    case ireturn =>
      simp only [z_oki, decide_eq_true_eq] at ho
      subst ho
      rw [Nat.add_sub_cancel_left] at hd
      simp only [z_ctl] at hc
      split at hc
      · next x hrt =>
        cases hc
        exact W.iret B.exec B.bytes (by rw [hret]; exact hrt) (fun t ht _ => hpost t ht) hfree hd
      · next x hrt =>
        split at hc
        · next hx =>
          cases hc
          exact W.zret B.exec B.bytes (by rw [hret]; exact hrt) (by rcases hx with rfl | rfl <;> decide) (fun t ht _ => hpost t ht) hfree hd
        · cases hc
      · next x hrt =>
        split at hc
        · next hx =>
          cases hc
          exact W.zret B.exec B.bytes (by rw [hret]; exact hrt) (by show Value.int _ = _; rw [hx]) (fun t ht _ => hpost t ht) hfree hd
        · cases hc
      · next x hrt =>
        split at hc
        · next hx =>
          cases hc
          exact W.zret B.exec B.bytes (by rw [hret]; exact hrt) (by show Value.int _ = _; rw [hx]) (fun t ht _ => hpost t ht) hfree hd
        · cases hc
      · cases hc
    case lreturn =>
      simp only [z_oki, decide_eq_true_eq] at ho
      subst ho
      rw [Nat.add_sub_cancel_left] at hd
      simp only [z_ctl] at hc
      split at hc
      · next x hrt =>
        cases hc
        exact W.lret B.exec B.bytes (by rw [hret]; exact hrt) (fun t ht _ => hpost t ht) hfree hd
      · cases hc
    case areturn =>
      simp only [z_oki, decide_eq_true_eq] at ho
      subst ho
      rw [Nat.add_sub_cancel_left] at hd
      simp only [z_ctl] at hc
      split at hc
      · next nn x hrt =>
        cases hc
        refine W.aret B.exec B.bytes (by rw [hret]; exact hrt) (Or.inl ⟨_, rfl⟩) ?_ (fun t ht _ => hpost t ht) hfree hd
        exact z_rv_ref hE x
      · next nn hrt =>
        cases hc
        exact W.aret B.exec B.bytes (by rw [hret]; exact hrt) (Or.inl ⟨_, rfl⟩) (Or.inl rfl) (fun t ht _ => hpost t ht) hfree hd
      · cases hc
    case return_ =>
      simp only [z_oki, decide_eq_true_eq] at ho
      subst ho
      rw [Nat.add_sub_cancel_left] at hd
      simp only [z_ctl] at hc
      split at hc
      · next hrt =>
        cases hc
        exact W.vret B.exec B.bytes (by rw [hret]; exact hrt) (fun t ht _ => hpost t ht) hfree hd
      · cases hc
    all_goals
      simp only [z_ctl, Bool.cond_eq_ite] at hc
      repeat' split at hc
      all_goals cases hc
theorem z_pop_eq : ∀ (n : Nat) (acc st as rest : List Value), z_pop n acc st = some (as, rest) → ∃ ys : List Value, ys.length = n ∧ st = ys ++ rest ∧ as = ys.reverse ++ acc
  | 0, acc, st, as, rest, h => by
    cases h
    exact ⟨[], rfl, rfl, rfl⟩
  | n + 1, acc, [], as, rest, h => by cases h
  | n + 1, acc, v :: st, as, rest, h => by
    obtain ⟨ys, h1, h2, h3⟩ := z_pop_eq n (v :: acc) st as rest h
    refine ⟨v :: ys, by simp [h1], by rw [h2]; rfl, ?_⟩
    rw [h3]
    simp
theorem z_pop_rev {n : Nat} {st as rest : List Value} (h : z_pop n [] st = some (as, rest)) : st = as.reverse ++ rest ∧ as.length = n := by
  obtain ⟨ys, h1, h2, h3⟩ := z_pop_eq n [] st as rest h
  rw [List.append_nil] at h3
  subst h3
  exact ⟨by rw [List.reverse_reverse]; exact h2, by rw [List.length_reverse]; exact h1⟩
section CALL
variable {p : Program} {l : Launch} {e : Env} {R : Room} {s : State} {m : MethodId} {args : Array Value} {below : List Frame} {meth : Method} {c : Code} {Q : State → Prop} {j pc : Nat} {L : zL} {st rs : List Value} {h h1 : zH} {H : Heap} {locs : List Loc} {cells slots : Nat} {ls : Array Slot} {v1 : Option Value}
theorem z_cont {mc ms : Nat} {st0 : List Value} {aa : Array Value} (hrun : va_Run p l e R s m args below meth c H locs cells slots mc ms (F0 m pc ls st0) (rs.map (z_rv G)) (zPost G v1 h1 aa) (z_A G)) (hS : zSt G s h H locs cells) (heq : h1.length = h.length + mc) (k : ∀ (H1 : Heap) (locs1 : List Loc), zSt G s h1 H1 locs1 (cells + mc) → W p l e R s m args below meth c H1 locs1 (cells + mc) (slots + ms) Q (F0 m (pc + 3) ls ((z_psh v1 rs).map (z_rv G)))) : W p l e R s m args below meth c H locs cells slots Q (F0 m pc ls st0) := by
  intro T hT Xs
  obtain ⟨v, st₀, t, T', LL, h0, X', hL, e1, e2, ⟨ho, hP1, hl1, hF⟩, stp⟩ := hrun T hT Xs
  obtain rfl : v = v1.map (z_rv G) := by
    injection ho
  have hV := hS.2.2.1
  have hS1 : zSt G s h1 t.heap (locs ++ LL) (cells + mc) := by
    refine ⟨hP1, hl1, ⟨?_, fun q g1 g2 => ?_, fun q hq => ?_⟩, by have := hS.2.2.2; omega⟩
    · have := hF.1
      rw [h0] at this
      exact Nat.le_trans hV.1 this
    · have := hF.2 q (by rw [h0]; exact Nat.lt_of_lt_of_le g1 hV.1) g2
      rw [this, h0]
      exact hV.2.1 q g1 g2
    · rcases List.mem_append.mp hq with g | g
      · exact hV.2.2 q g
      · exact hL q g
  obtain ⟨t2, a1, b1⟩ := k t.heap (locs ++ LL) hS1 T' e1 X'
  refine ⟨t2, stp t2 ?_, b1⟩
  have e3 : ({ F0 m pc ls st0 with pc := pc + 3, stack := (v1.map (z_rv G)).toList ++ rs.map (z_rv G) } : JFrame) = F0 m (pc + 3) ls ((z_psh v1 rs).map (z_rv G)) := by
    cases v1 <;> rfl
  show Steps p.tables e below (T'.setTop { F0 m pc ls st0 with pc := pc + 3, stack := (v1.map (z_rv G)).toList ++ rs.map (z_rv G) }) t2
  rw [e3]
  exact a1
theorem z_blind {as : List Value} : FrameBlind (va_Pc (as.map (z_rv G)) (zPre G X h)) := fun _ _ _ _ q => ⟨q.1, q.2.1, q.2.2.1, q.2.2.2.1, q.2.2.2.2.blind⟩
theorem z_pre {as : List Value} {aa : Array Value} (henv : zEnv G X s s.heap) (hS : zSt G s h H locs cells) (hsz : H.size = G.1 + h.length) (haa : aa = (as.map (z_rv G)).toArray) : ∀ U : State, U.heap = H → s.WarmedH U.vm → va_Pc (as.map (z_rv G)) (zPre G X h) aa U := by
  intro U hU hW
  refine ⟨haa, by rw [hU]; exact hS.1, hS.2.1, by rw [hU]; exact hsz, henv.warm hW ?_ ?_⟩
  · intro q g1 g2
    rw [hU]
    exact hS.2.2.1.2.1 q g1 g2
  · rw [hU]; exact hS.2.2.1.1
theorem z_linkN {oc i a : Nat} {U : State} (hn : ∀ q ∈ z_lN, va_Nw (.methodLinkNest (z_cn q.1) q.2.1 (z_y q.2.2.1) "AnchorString") U) (h : z_lN.any (fun q => decide (q.1 = oc ∧ q.2.1 = i ∧ q.2.2.1 = a)) = true) : va_Nw (.methodLinkNest (z_cn oc) i (z_y a) "AnchorString") U := by
  obtain ⟨q, hq, h⟩ := List.any_eq_true.mp h
  obtain ⟨rfl, rfl, rfl⟩ := of_decide_eq_true h
  exact hn q hq
set_option maxHeartbeats 4000000 in
theorem z_call {n : Nat} {ins : Instr} {nx tg a b kk : Nat} {v : Value} {as : List Value} (ih : zRW G X n) (cx : zCx p R s m args meth c G X j) (hj : j < 233) (he : z_P j pc = some (ins, nx, tg, a, b, v)) (hc : z_ctl z_rcv1 (z_rk j) (ins, nx, tg, a, b, v) st h = some (.inl (kk, as, rs))) (hr : z_run (z_hop1 X) z_rcv1 z_P z_rk n kk 0 (z_args 0 as) [] h = some (v1, h1)) (hS : zSt G s h H locs cells) (hl : z_lr G L ls (z_mx j)) (hcl : cells + (h1.length - h.length) ≤ R.cells) (hsl : slots + (z_us h1 - z_us h) ≤ R.slots)
    (k : ∀ (H1 : Heap) (locs1 : List Loc), zSt G s h1 H1 locs1 (cells + (h1.length - h.length)) → W p l e R s m args below meth c H1 locs1 (cells + (h1.length - h.length)) (slots + (z_us h1 - z_us h)) Q (F0 m nx ls ((z_psh v1 rs).map (z_rv G)))) :
    W p l e R s m args below meth c H locs cells slots Q (F0 m pc ls (st.map (z_rv G))) := by
  obtain ⟨hx, hb, hml, hown, hts, hini, henv, hbase, hfr, hlo⟩ := cx
  have hE := henv.2.2.2.1
  have hm1 := z_run_mono n hr
  have hlen : h1.length = h.length + (h1.length - h.length) := by omega
  obtain ⟨hd, ho⟩ := z_row_ok hj he
  refine z_size hS.1 hbase hS.2.2.1 hS.2.2.2 (fun hsz => ?_)
  cases ins
  case invokevirtual i =>
    simp only [z_oki, Bool.and_eq_true, decide_eq_true_eq] at ho
    obtain ⟨⟨rfl, ha, h7, rfl, hkd, rfl, rfl, hf1, hf2⟩, ho⟩ := ho
    rw [Nat.add_sub_cancel_left] at hd
    simp only [z_ctl] at hc
    split at hc
    · next as' q r hpop =>
      cases hcc : (z_rcv1 h q (z_oc a) && Nat.ble (z_sum r) 8 && z_mxok (.retAddr (z_mx a)) (.ref q :: as')) with
      | false => rw [hcc] at hc; cases hc
      | true =>
        rw [hcc] at hc
        cases hc
        simp only [Bool.and_eq_true] at hcc
        obtain ⟨⟨hrc, hsum⟩, hmx⟩ := hcc
        replace hsum := Nat.le_of_ble_eq_true hsum
        replace hmx : z_sum (.ref q :: as') ≤ z_mx a := Nat.le_of_ble_eq_true hmx
        obtain ⟨rfl, hal⟩ := z_pop_rev hpop
        obtain ⟨w1, w2, w3, w4, w5, w6, w7, w8⟩ := z_mw ha
        obtain ⟨w31, w32, w33⟩ := w3 hkd
        have hrv : ∃ bb : Nat, z_rv G (.ref q) = .ref bb ∧ ∃ cellB : Cell, H[bb]? = some cellB ∧ cellB.vm.isStatics = false ∧ s.vm.findClass (z_y a).cls = some cellB.cls := by
          rw [w6]
          unfold z_rcv1 at hrc
          cases h8 : Nat.beq (z_oc a) 8 with
          | true =>
            rw [h8] at hrc
            simp only [cond_true, Bool.and_eq_true] at hrc
            have hq1 := Nat.le_of_ble_eq_true hrc.1
            have hq2 := Nat.le_of_ble_eq_true hrc.2
            obtain ⟨i2, hi2, rfl⟩ := z_in14 hq1 hq2
            obtain ⟨adK, adV, g1, g2, g3⟩ := henv.2.2.2.2.2.2.2.2.2
            rw [Nat.eq_of_beq_eq_true h8]
            exact ⟨adK i2, by rw [z_rv_hi (z_hi1 i2)]; exact (g1 i2 hi2).1, vk_recv g2 hi2 hS.2.2.1⟩
          | false =>
            rw [h8] at hrc
            simp only [cond_false] at hrc
            split at hrc
            · next ci fs hq =>
              obtain rfl : ci = z_oc a := Nat.eq_of_beq_eq_true hrc
              have hq1 := z_lt_of hq
              have hq2 := z_ws_of (G := G) hq
              obtain ⟨rr, hr1, -⟩ := hS.1 q _ hq2
              have h6 : z_oc a < 6 := (List.getElem?_eq_some_iff.mp hr1).1
              exact ⟨G.1 + q, z_rv_low (Nat.lt_of_lt_of_le hq1 hS.2.1), va_recv henv.1 hS.1 (z_clb h6) hq2⟩
            · cases hrc
        obtain ⟨bb, hbb, hcell⟩ := hrv
        have hgood : GoodIn z_tb (wsV (z_cn (z_oc j)) i (z_y a).cls (z_y a) (z_wsj a)) := by
          have key : ∀ w ∈ z_tb, w ∈ z_tb ∧ ((w.onTables && w.keeps) = true ∨ ∃ ty, w = .arrayClass ty) := fun w hw => ⟨hw, good_of_word (List.mem_filter.mp hw).2⟩
          intro w hw
          unfold wsV at hw
          rcases List.mem_append.mp hw with hw | hw
          · simp only [List.mem_cons, List.not_mem_nil, or_false] at hw
            rcases hw with rfl | rfl | rfl | rfl
            · exact key _ (z_linkM ho)
            · exact key _ w31
            · exact key _ w32
            · exact key _ w2
          · exact z_tb_good ha (fun _ h => h) w hw
        have hst : (List.map (z_rv G) (as'.reverse ++ Value.ref q :: rs)) = (as'.map (z_rv G)).reverse ++ .ref bb :: rs.map (z_rv G) := by
          rw [List.map_append, List.map_cons, hbb, List.map_reverse]
        rw [hst]
        refine z_cont (mc := h1.length - h.length) (ms := z_us h1 - z_us h) (v1 := v1) (h1 := h1) (rs := rs) (aa := (Value.ref bb :: as'.map (z_rv G)).toArray) (va_runV (C := (z_y a).cls) (As := as'.map (z_rv G)) (rest := rs.map (z_rv G)) ⟨hx, hb, hml, hown, hts⟩ (z_met ih hE ha h7 hmx hr l) (cwV (z_np a) hts hgood rfl rfl rfl ⟨rfl, w7⟩ ⟨by show z_fr a + 1 ≤ _; omega, by show _ + z_lo a ≤ _; omega⟩) ⟨z_blind, hcell, z_pre henv hS hsz (by rw [List.map_cons, hbb])⟩ rfl (by rw [List.length_map]; exact hal) (by rw [hml.symm.trans hml]; exact hl.1) rfl (by rw [z_sum_rv hE]; show 2 * 0 + _ ≤ _; omega) hd ⟨hcl, hsl⟩) hS hlen k
    · cases hc
  case invokestatic i =>
    simp only [z_oki, Bool.and_eq_true, Bool.or_eq_true, decide_eq_true_eq] at ho
    obtain ⟨rfl, ho⟩ := ho
    rw [Nat.add_sub_cancel_left] at hd
    simp only [z_ctl] at hc
    cases h995 : Nat.ble 995 a with
    | true => rw [h995] at hc; cases hc
    | false =>
      rw [h995] at hc
      simp only [cond_false] at hc
      have hlt : a < 995 := by
        rcases Nat.lt_or_ge a 995 with q | q
        · exact q
        · rw [Nat.ble_eq_true_of_le q] at h995; cases h995
      have hok : (a < 232 ∧ z_oc a ≠ 7 ∧ v = .retAddr (z_mx a) ∧ z_kd a = 1 ∧ b = z_np a ∧ z_fr a + 1 ≤ z_fr j ∧ 8 + (z_mx a + 11) + z_lo a ≤ z_lo j) ∧ (tg = 0 ∧ z_lM.any (fun q => decide (q.1 = z_oc j ∧ q.2.1 = i ∧ q.2.2.1 = a)) = true ∨ tg = 1 ∧ z_lN.any (fun q => decide (q.1 = z_oc j ∧ q.2.1 = i ∧ q.2.2.1 = a)) = true) := by
        rcases ho with ((ho | ⟨⟨ho, -⟩, -⟩) | ⟨⟨ho, -⟩, -⟩) | ⟨⟨ho, -⟩, -⟩
        · exact ho
        · omega
        · omega
        · omega
      obtain ⟨⟨ha, h7, rfl, hkd, rfl, hf1, hf2⟩, hk2⟩ := hok
      split at hc
      · next as' r hpop =>
        cases hcc : (Nat.ble (z_sum r) 8 && z_mxok (.retAddr (z_mx a)) as') with
        | false => rw [hcc] at hc; cases hc
        | true =>
          rw [hcc] at hc
          cases hc
          simp only [Bool.and_eq_true] at hcc
          obtain ⟨hsum, hmx⟩ := hcc
          replace hsum := Nat.le_of_ble_eq_true hsum
          replace hmx : z_sum as ≤ z_mx a := Nat.le_of_ble_eq_true hmx
          obtain ⟨rfl, hal⟩ := z_pop_rev hpop
          obtain ⟨w1, w2, w3, w4, w5, w6, w7, w8⟩ := z_mw ha
          obtain ⟨w41, w42⟩ := w4 hkd
          have hst : (List.map (z_rv G) (as.reverse ++ rs)) = (as.map (z_rv G)).reverse ++ rs.map (z_rv G) := by
            rw [List.map_append, List.map_reverse]
          rw [hst]
          rcases hk2 with ⟨-, ho⟩ | ⟨-, ho⟩
          · have hgood : GoodIn z_tb (va_wsS (z_cn (z_oc j)) i (z_y a) (z_wsj a)) := by
              have key : ∀ w ∈ z_tb, w ∈ z_tb ∧ ((w.onTables && w.keeps) = true ∨ ∃ ty, w = .arrayClass ty) := fun w hw => ⟨hw, good_of_word (List.mem_filter.mp hw).2⟩
              intro w hw
              unfold va_wsS at hw
              rcases List.mem_append.mp hw with hw | hw
              · simp only [List.mem_cons, List.not_mem_nil, or_false] at hw
                rcases hw with rfl | rfl | rfl
                · exact key _ (z_linkM ho)
                · exact key _ w41
                · exact key _ w2
              · exact z_tb_good ha (fun _ h => h) w hw
            exact z_cont (mc := h1.length - h.length) (ms := z_us h1 - z_us h) (v1 := v1) (h1 := h1) (rs := rs) (aa := (as.map (z_rv G)).toArray) (va_runS (As := as.map (z_rv G)) (rest := rs.map (z_rv G)) ⟨hx, hb, hml, hown, hts⟩ (z_met ih hE ha h7 hmx hr l) (va_cwS (z_np a) hts hgood rfl rfl rfl w7 ⟨by show z_fr a + 1 ≤ _; omega, by show _ + z_lo a ≤ _; omega⟩) ⟨z_blind, z_pre henv hS hsz rfl⟩ rfl (by rw [List.length_map]; exact hal) (by rw [hml.symm.trans hml]; exact hl.1) rfl (by rw [z_sum_rv hE]; show 2 * 0 + _ ≤ _; omega) hd ⟨hcl, hsl⟩) hS hlen k
          · exact z_cont (mc := h1.length - h.length) (ms := z_us h1 - z_us h) (v1 := v1) (h1 := h1) (rs := rs) (aa := (as.map (z_rv G)).toArray) (va_runSN (As := as.map (z_rv G)) (rest := rs.map (z_rv G)) ⟨hx, hb, hml, hown, hts⟩ (z_met ih hE ha h7 hmx hr l) ⟨va_cnB (z_np a) hts (z_tb_good ha (fun _ h => h)) rfl rfl rfl (z_linkN henv.2.2.1 ho) (hts _ w2) w7 ⟨by show z_fr a + 1 ≤ _; omega, by show _ + z_lo a ≤ _; omega⟩, hts _ w41, trivial⟩ ⟨z_blind, z_pre henv hS hsz rfl⟩ rfl (by rw [List.length_map]; exact hal) (by rw [hml.symm.trans hml]; exact hl.1) rfl (by rw [z_sum_rv hE]; show 2 * 0 + _ ≤ _; omega) hd ⟨hcl, hsl⟩) hS hlen k
      · cases hc
  case invokespecial i =>
    simp only [z_oki, Bool.and_eq_true, Bool.or_eq_true, decide_eq_true_eq] at ho
    obtain ⟨rfl, ho⟩ := ho
    rw [Nat.add_sub_cancel_left] at hd
    simp only [z_ctl] at hc
    cases h998 : Nat.beq a 998 with
    | true => rw [h998] at hc; cases hc
    | false =>
      rw [h998] at hc
      simp only [cond_false] at hc
      have hne : a ≠ 998 := by
        intro q
        rw [q] at h998
        cases h998
      have hok : (a < 232 ∧ z_oc a ≠ 7 ∧ v = .retAddr (z_mx a) ∧ z_kd a = 2 ∧ b = z_np a ∧ z_fr a + 1 ≤ z_fr j ∧ 8 + (z_mx a + 11) + z_lo a ≤ z_lo j) ∧ (tg = 0 ∧ z_lM.any (fun q => decide (q.1 = z_oc j ∧ q.2.1 = i ∧ q.2.2.1 = a)) = true ∨ tg = 1 ∧ z_lN.any (fun q => decide (q.1 = z_oc j ∧ q.2.1 = i ∧ q.2.2.1 = a)) = true) := by
        rcases ho with ho | ⟨⟨ho, -⟩, -⟩
        · exact ho
        · exact absurd ho hne
      obtain ⟨⟨ha, h7, rfl, hkd, rfl, hf1, hf2⟩, hk2⟩ := hok
      split at hc
      · next as' q r hpop =>
        cases hcc : (Nat.ble (z_sum r) 8 && z_mxok (.retAddr (z_mx a)) (.ref q :: as') && Nat.blt q 1000) with
        | false => rw [hcc] at hc; cases hc
        | true =>
          rw [hcc] at hc
          cases hc
          simp only [Bool.and_eq_true] at hcc
          obtain ⟨⟨hsum, hmx⟩, hq1⟩ := hcc
          replace hsum := Nat.le_of_ble_eq_true hsum
          replace hmx : z_sum (.ref q :: as') ≤ z_mx a := Nat.le_of_ble_eq_true hmx
          replace hq1 : q < 1000 := Nat.blt_eq.mp hq1
          obtain ⟨rfl, hal⟩ := z_pop_rev hpop
          obtain ⟨w1, w2, w3, w4, w5, w6, w7, w8⟩ := z_mw ha
          obtain ⟨w51, w52, w53⟩ := w5 hkd
          have hmet := z_met ih hE ha h7 hmx hr l
          have hws : z_wsj a = Cond.code (z_y a) (z_cd a) (z_mx a) none :: z_tb := by unfold z_wsj; rw [w53]
          have hst : (List.map (z_rv G) (as'.reverse ++ Value.ref q :: rs)) = (as'.map (z_rv G)).reverse ++ .ref (G.1 + q) :: rs.map (z_rv G) := by
            rw [List.map_append, List.map_cons, z_rv_low hq1, List.map_reverse]
          rw [hst]
          rcases hk2 with ⟨-, ho⟩ | ⟨-, ho⟩
          · exact z_cont (mc := h1.length - h.length) (ms := z_us h1 - z_us h) (v1 := v1) (h1 := h1) (rs := rs) (aa := (Value.ref (G.1 + q) :: as'.map (z_rv G)).toArray) (va_runI (As := as'.map (z_rv G)) (rest := rs.map (z_rv G)) ⟨hx, hb, hml, hown, hts⟩ hmet (cwI (z_np a) hts (z_tb_good ha (fun _ h => h)) hws rfl rfl (hts _ w2) (hts _ (z_linkM ho)) (hts _ w51) w52 w7 ⟨by show z_fr a + 1 ≤ _; omega, by show _ + z_lo a ≤ _; omega⟩) ⟨z_blind, z_pre henv hS hsz (by rw [List.map_cons, z_rv_low hq1])⟩ rfl (by rw [List.length_map]; exact hal) (by rw [hml.symm.trans hml]; exact hl.1) rfl (by rw [z_sum_rv hE]; show 2 * 0 + _ ≤ _; omega) hd ⟨hcl, hsl⟩) hS hlen k
          · exact z_cont (mc := h1.length - h.length) (ms := z_us h1 - z_us h) (v1 := v1) (h1 := h1) (rs := rs) (aa := (Value.ref (G.1 + q) :: as'.map (z_rv G)).toArray) (va_runIN (As := as'.map (z_rv G)) (rest := rs.map (z_rv G)) ⟨hx, hb, hml, hown, hts⟩ hmet ⟨va_cnB (z_np a) hts (z_tb_good ha (fun _ h => h)) hws rfl rfl (z_linkN henv.2.2.1 ho) (hts _ w2) w7 ⟨by show z_fr a + 1 ≤ _; omega, by show _ + z_lo a ≤ _; omega⟩, w52, hts _ w51⟩ ⟨z_blind, z_pre henv hS hsz (by rw [List.map_cons, z_rv_low hq1])⟩ rfl (by rw [List.length_map]; exact hal) (by rw [hml.symm.trans hml]; exact hl.1) rfl (by rw [z_sum_rv hE]; show 2 * 0 + _ ≤ _; omega) hd ⟨hcl, hsl⟩) hS hlen k
      · cases hc
  all_goals
    simp only [z_ctl, Bool.cond_eq_ite] at hc
    repeat' split at hc
    all_goals cases hc
end CALL
/-- every run -/
theorem z_rw : ∀ n, zRW G X n := by
  intro n
  induction n with
  | zero => intro j pc L st h h' r hx; cases hx
  | succ n ih =>
    intro j pc L st h h' r hx hj p l e R s m args below meth c Q H locs cells slots cF sF ls cx hS hl hcF hsF hc1 hs1 hret
    rw [z_run] at hx
    cases hP : z_P j pc with
    | none => rw [hP] at hx; cases hx
    | some E =>
      rw [hP] at hx
      dsimp only at hx
      obtain ⟨ins, nx, tg, a, b, v⟩ := E
      cases hc : z_ctl z_rcv1 (z_rk j) (ins, nx, tg, a, b, v) st h with
      | none =>
        rw [hc] at hx
        dsimp only at hx
        cases hs : z_stp (z_hop1 X) pc (ins, nx, tg, a, b, v) L st h with
        | none => rw [hs] at hx; cases hx
        | some q =>
          obtain ⟨pc1, L1, st1, h1⟩ := q
          rw [hs] at hx
          dsimp only at hx
          have m1 : h.length ≤ h1.length ∧ z_us h ≤ z_us h1 := by
            rcases z_stp_heap hs with rfl | hh
            · exact ⟨Nat.le_refl _, Nat.le_refl _⟩
            · exact z_hop1_mono hh
          have m2 := z_run_mono n hx
          refine z_step cx hj hP hs hS hl (by omega) (by omega) (fun H1 locs1 ls1 hS1 hl1 => ?_)
          exact ih j pc1 L1 st1 h1 h' r hx hj p l e R s m args below meth c Q H1 locs1 _ _ cF sF ls1 cx hS1 hl1 (by omega) (by omega) hc1 hs1 hret
      | some w =>
        cases w with
        | inr v' =>
          rw [hc] at hx
          cases hx
          simp only [Nat.sub_self, Nat.add_zero] at hcF hsF
          subst hcF
          subst hsF
          exact hret H locs ls pc _ st hP hc hS
        | inl q =>
          obtain ⟨k, as, rs⟩ := q
          rw [hc] at hx
          dsimp only at hx
          cases hr : z_run (z_hop1 X) z_rcv1 z_P z_rk n k 0 (z_args 0 as) [] h with
          | none => rw [hr] at hx; cases hx
          | some y =>
            obtain ⟨v1, h1⟩ := y
            rw [hr] at hx
            dsimp only at hx
            have m1 := z_run_mono n hr
            have m2 := z_run_mono n hx
            exact z_call ih cx hj hP hc hr hS hl (by omega) (by omega) (fun H1 locs1 hS1 => ih j nx L (z_psh v1 rs) h1 h' r hx hj p l e R s m args below meth c Q H1 locs1 _ _ cF sF ls cx hS1 hl (by omega) (by omega) hc1 hs1 hret)
end RUN
