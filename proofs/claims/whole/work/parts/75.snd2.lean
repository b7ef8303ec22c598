/-! A step of the small machine is a step of the machine. -/
/-- where a method's body runs -/
def zCx (p : Program) (R : Room) (s : State) (m : MethodId) (args : Array Value) (meth : Method) (c : Code) (G : zG) (X : Nat × (Nat → Int32)) (j : Nat) : Prop :=
  p.tables.exec = Jvm.exec ∧ c.code = z_cd j ∧ c.maxLocals = z_mx j ∧ s.vm.findClass (z_cn (z_oc j)) = some m.cls ∧ (∀ w ∈ z_tb, w.before args s = true) ∧ (z_kd j = 2 → meth.name = "<init>") ∧ zEnv G X s s.heap ∧ G.1 ≤ s.heap.size ∧ z_fr j ≤ R.frames ∧ z_lo j ≤ R.locals
theorem z_linkF {oc i a b : Nat} (h : z_lF.any (fun q => decide (q.1 = oc ∧ q.2.1 = i ∧ q.2.2.1 = a ∧ q.2.2.2.1 = b)) = true) : Cond.fieldLink (z_cn oc) i (z_T a b).1 (z_T a b).2.1 (z_T a b).2.2.1 ∈ z_tb := by
  obtain ⟨q, hq, h⟩ := List.any_eq_true.mp h
  obtain ⟨rfl, rfl, rfl, rfl⟩ := of_decide_eq_true h
  exact z_at_in (List.all_eq_true.mp z_wF q hq)
theorem z_linkM {oc i a : Nat} (h : z_lM.any (fun q => decide (q.1 = oc ∧ q.2.1 = i ∧ q.2.2.1 = a)) = true) : Cond.methodLink (z_cn oc) i (z_y a) ∈ z_tb := by
  obtain ⟨q, hq, h⟩ := List.any_eq_true.mp h
  obtain ⟨rfl, rfl, rfl⟩ := of_decide_eq_true h
  exact z_at_in (List.all_eq_true.mp z_wM q hq)
theorem z_linkC {oc i a : Nat} (h : z_lC.any (fun q => decide (q.1 = oc ∧ q.2.1 = i ∧ q.2.2.1 = a)) = true) : Cond.classLink (z_cn oc) i (z_cn a) ∈ z_tb := by
  obtain ⟨q, hq, h⟩ := List.any_eq_true.mp h
  obtain ⟨rfl, rfl, rfl⟩ := of_decide_eq_true h
  exact z_at_in (List.all_eq_true.mp z_wC q hq)
theorem z_linkA {oc i : Nat} (h : z_lA.any (fun q => decide (q.1 = oc ∧ q.2.1 = i)) = true) : Cond.methodLink (z_cn oc) i arraycopyName ∈ z_tb := by
  obtain ⟨q, hq, h⟩ := List.any_eq_true.mp h
  obtain ⟨rfl, rfl⟩ := of_decide_eq_true h
  exact z_at_in (List.all_eq_true.mp z_wA q hq)
theorem z_linkO {oc i : Nat} (h : z_lO.any (fun q => decide (q.1 = oc ∧ q.2.1 = i)) = true) : Cond.methodLink (z_cn oc) i Lib.objectInit ∈ z_tb := by
  obtain ⟨q, hq, h⟩ := List.any_eq_true.mp h
  obtain ⟨rfl, rfl⟩ := of_decide_eq_true h
  exact z_at_in (List.all_eq_true.mp z_wO q hq)
theorem z_linkX {oc i : Nat} (h : z_lX.any (fun q => decide (q.1 = oc ∧ q.2.1 = i)) = true) : Cond.methodLink (z_cn oc) i Lib.Math.max.name ∈ z_tb := by
  obtain ⟨q, hq, h⟩ := List.any_eq_true.mp h
  obtain ⟨rfl, rfl⟩ := of_decide_eq_true h
  exact z_at_in (List.all_eq_true.mp z_wX q hq)
theorem z_linkI {oc i : Nat} (h : z_lI.any (fun q => decide (q.1 = oc ∧ q.2.1 = i)) = true) : Cond.methodLink (z_cn oc) i Lib.Math.min.name ∈ z_tb := by
  obtain ⟨q, hq, h⟩ := List.any_eq_true.mp h
  obtain ⟨rfl, rfl⟩ := of_decide_eq_true h
  exact z_at_in (List.all_eq_true.mp z_wI q hq)
theorem z_linkKi {oc i : Nat} {x : Int32} (h : z_lK.any (fun q => decide (q.1 = oc ∧ q.2.1 = i ∧ q.2.2.1 = .int x)) = true) : Cond.constant (z_cn oc) i x ∈ z_tb := by
  obtain ⟨q, hq, h1⟩ := List.any_eq_true.mp h
  obtain ⟨rfl, rfl, h2⟩ := of_decide_eq_true h1
  have h3 := List.all_eq_true.mp z_wK q hq
  rw [h2] at h3
  exact z_at_in h3
theorem z_linkKl {oc i : Nat} {x : Int64} (h : z_lK.any (fun q => decide (q.1 = oc ∧ q.2.1 = i ∧ q.2.2.1 = .long x)) = true) : Cond.constantLong (z_cn oc) i x ∈ z_tb := by
  obtain ⟨q, hq, h1⟩ := List.any_eq_true.mp h
  obtain ⟨rfl, rfl, h2⟩ := of_decide_eq_true h1
  have h3 := List.all_eq_true.mp z_wK q hq
  rw [h2] at h3
  exact z_at_in h3
theorem z_sr_ok : ∀ n, n < 14 → ∃ q, z_sr[n]? = some q ∧ q.1 = 82 + 2 * n := by
  intro n hn
  match n, hn with
  | 0, _ => exact ⟨_, rfl, rfl⟩
  | 1, _ => exact ⟨_, rfl, rfl⟩
  | 2, _ => exact ⟨_, rfl, rfl⟩
  | 3, _ => exact ⟨_, rfl, rfl⟩
  | 4, _ => exact ⟨_, rfl, rfl⟩
  | 5, _ => exact ⟨_, rfl, rfl⟩
  | 6, _ => exact ⟨_, rfl, rfl⟩
  | 7, _ => exact ⟨_, rfl, rfl⟩
  | 8, _ => exact ⟨_, rfl, rfl⟩
  | 9, _ => exact ⟨_, rfl, rfl⟩
  | 10, _ => exact ⟨_, rfl, rfl⟩
  | 11, _ => exact ⟨_, rfl, rfl⟩
  | 12, _ => exact ⟨_, rfl, rfl⟩
  | 13, _ => exact ⟨_, rfl, rfl⟩
set_option maxRecDepth 100000 in
theorem z_q1 : (.instanceMethod Lib.objectInit : Cond) ∈ z_tb := by
  have h := z_w0
  simp only [Bool.and_eq_true] at h
  exact z_at_in h.1.1.1.1.1.1.1.1.1.1.1.1.1.1.1.1
set_option maxRecDepth 100000 in
theorem z_q2 : (.code Lib.objectInit ⟨#[0xb1]⟩ 1 none : Cond) ∈ z_tb := by
  have h := z_w0
  simp only [Bool.and_eq_true] at h
  exact z_at_in h.1.1.1.1.1.1.1.1.1.1.1.1.1.1.1.2
set_option maxRecDepth 100000 in
theorem z_q3 : (.native arraycopyName : Cond) ∈ z_tb := by
  have h := z_w0
  simp only [Bool.and_eq_true] at h
  exact z_at_in h.1.1.1.1.1.1.1.1.1.1.1.1.1.1.2
set_option maxRecDepth 100000 in
theorem z_q4 : (.static arraycopyName : Cond) ∈ z_tb := by
  have h := z_w0
  simp only [Bool.and_eq_true] at h
  exact z_at_in h.1.1.1.1.1.1.1.1.1.1.1.1.1.2
set_option maxRecDepth 100000 in
theorem z_q5 : (.initialized "java/lang/System" : Cond) ∈ z_tb := by
  have h := z_w0
  simp only [Bool.and_eq_true] at h
  exact z_at_in h.1.1.1.1.1.1.1.1.1.1.1.1.2
set_option maxRecDepth 100000 in
theorem z_q6 : (.arrayClass .int : Cond) ∈ z_tb := by
  have h := z_w0
  simp only [Bool.and_eq_true] at h
  exact z_at_in h.1.1.1.1.1.1.1.1.1.1.1.2
set_option maxRecDepth 100000 in
theorem z_q7 : (.arrayClass .long : Cond) ∈ z_tb := by
  have h := z_w0
  simp only [Bool.and_eq_true] at h
  exact z_at_in h.1.1.1.1.1.1.1.1.1.1.2
set_option maxRecDepth 100000 in
theorem z_q8 : (.initialized "java/lang/Math" : Cond) ∈ z_tb := by
  have h := z_w0
  simp only [Bool.and_eq_true] at h
  exact z_at_in h.1.1.1.1.1.1.1.1.1.2
set_option maxRecDepth 100000 in
theorem z_q9 : (.static Lib.Math.max.name : Cond) ∈ z_tb := by
  have h := z_w0
  simp only [Bool.and_eq_true] at h
  exact z_at_in h.1.1.1.1.1.1.1.1.2
set_option maxRecDepth 100000 in
theorem z_q10 : (.static Lib.Math.min.name : Cond) ∈ z_tb := by
  have h := z_w0
  simp only [Bool.and_eq_true] at h
  exact z_at_in h.1.1.1.1.1.1.1.2
set_option maxRecDepth 100000 in
theorem z_q11 : (.code Lib.Math.max.name Lib.Math.max.code 2 (some .int) : Cond) ∈ z_tb := by
  have h := z_w0
  simp only [Bool.and_eq_true] at h
  exact z_at_in h.1.1.1.1.1.1.2
set_option maxRecDepth 100000 in
theorem z_q12 : (.code Lib.Math.min.name Lib.Math.min.code 2 (some .int) : Cond) ∈ z_tb := by
  have h := z_w0
  simp only [Bool.and_eq_true] at h
  exact z_at_in h.1.1.1.1.1.2
set_option maxRecDepth 100000 in
theorem z_q13 : (.fieldLink (z_cn 4) 255 "AnchorString" "KIND_ABOVE" "[I" : Cond) ∈ z_tb := by
  have h := z_w0
  simp only [Bool.and_eq_true] at h
  exact z_at_in h.1.1.1.1.2
set_option maxRecDepth 100000 in
theorem z_q14 : (.fieldLink (z_cn 8) 38 "java/lang/String" "COMPACT_STRINGS" "Z" : Cond) ∈ z_tb := by
  have h := z_w0
  simp only [Bool.and_eq_true] at h
  exact z_at_in h.1.1.1.2
set_option maxRecDepth 100000 in
theorem z_q15 : (.fieldLink (z_cn 8) 1053 "jdk/internal/util/Preconditions" "SIOOBE_FORMATTER" "Ljava/util/function/BiFunction;" : Cond) ∈ z_tb := by
  have h := z_w0
  simp only [Bool.and_eq_true] at h
  exact z_at_in h.1.1.2
set_option maxRecDepth 100000 in
theorem z_q16 : (.fieldLink (z_cn 8) 9 "java/lang/String" "value" "[B" : Cond) ∈ z_tb := by
  have h := z_w0
  simp only [Bool.and_eq_true] at h
  exact z_at_in h.1.2
set_option maxRecDepth 100000 in
theorem z_q17 : (.fieldLink (z_cn 8) 15 "java/lang/String" "coder" "B" : Cond) ∈ z_tb := by
  have h := z_w0
  simp only [Bool.and_eq_true] at h
  exact z_at_in (of_decide_eq_true h.2)
theorem z_tyOf {ci : Nat} (h : ci < 6) : ∀ b, b < z_NF ci → (z_ft ci b = 0 → z_Y ci b = .int) ∧ (z_ft ci b = 1 → z_Y ci b = .boolean) ∧ (z_ft ci b = 2 → ((∃ n, z_Y ci b = .object n) ∨ ∃ t, z_Y ci b = .array t)) := by
  refine z_lt6 (P := fun ci => ∀ b, b < z_NF ci → (z_ft ci b = 0 → z_Y ci b = .int) ∧ (z_ft ci b = 1 → z_Y ci b = .boolean) ∧ (z_ft ci b = 2 → ((∃ n, z_Y ci b = .object n) ∨ ∃ t, z_Y ci b = .array t))) ?_ ?_ ?_ ?_ ?_ ?_ h
  all_goals
    intro b hb
    have hb' : b < 19 := Nat.lt_of_lt_of_le hb (by decide)
    match b, hb', hb with
    | 0, _, hb => exact ⟨fun h => by first | rfl | exact absurd h (by decide), fun h => by first | rfl | exact absurd h (by decide), fun h => by first | exact Or.inl ⟨_, rfl⟩ | exact Or.inr ⟨_, rfl⟩ | exact absurd h (by decide)⟩
    | 1, _, hb => exact ⟨fun h => by first | rfl | exact absurd h (by decide), fun h => by first | rfl | exact absurd h (by decide), fun h => by first | exact Or.inl ⟨_, rfl⟩ | exact Or.inr ⟨_, rfl⟩ | exact absurd h (by decide)⟩
    | 2, _, hb => exact ⟨fun h => by first | rfl | exact absurd h (by decide), fun h => by first | rfl | exact absurd h (by decide), fun h => by first | exact Or.inl ⟨_, rfl⟩ | exact Or.inr ⟨_, rfl⟩ | exact absurd h (by decide)⟩
    | 3, _, hb => first | exact absurd hb (by decide) | exact ⟨fun h => by first | rfl | exact absurd h (by decide), fun h => by first | rfl | exact absurd h (by decide), fun h => by first | exact Or.inl ⟨_, rfl⟩ | exact Or.inr ⟨_, rfl⟩ | exact absurd h (by decide)⟩
    | 4, _, hb => first | exact absurd hb (by decide) | exact ⟨fun h => by first | rfl | exact absurd h (by decide), fun h => by first | rfl | exact absurd h (by decide), fun h => by first | exact Or.inl ⟨_, rfl⟩ | exact Or.inr ⟨_, rfl⟩ | exact absurd h (by decide)⟩
    | 5, _, hb => first | exact absurd hb (by decide) | exact ⟨fun h => by first | rfl | exact absurd h (by decide), fun h => by first | rfl | exact absurd h (by decide), fun h => by first | exact Or.inl ⟨_, rfl⟩ | exact Or.inr ⟨_, rfl⟩ | exact absurd h (by decide)⟩
    | 6, _, hb => first | exact absurd hb (by decide) | exact ⟨fun h => by first | rfl | exact absurd h (by decide), fun h => by first | rfl | exact absurd h (by decide), fun h => by first | exact Or.inl ⟨_, rfl⟩ | exact Or.inr ⟨_, rfl⟩ | exact absurd h (by decide)⟩
    | n + 7, hb', hb => first | exact absurd hb (show ¬ (n + 7 < 3) by omega) | exact absurd hb (show ¬ (n + 7 < 6) by omega) | exact absurd hb (show ¬ (n + 7 < 7) by omega) | (match n, hb' with
      | 0, _ => exact ⟨fun h => by first | rfl | exact absurd h (by decide), fun h => by first | rfl | exact absurd h (by decide), fun h => by first | exact Or.inl ⟨_, rfl⟩ | exact Or.inr ⟨_, rfl⟩ | exact absurd h (by decide)⟩
      | 1, _ => exact ⟨fun h => by first | rfl | exact absurd h (by decide), fun h => by first | rfl | exact absurd h (by decide), fun h => by first | exact Or.inl ⟨_, rfl⟩ | exact Or.inr ⟨_, rfl⟩ | exact absurd h (by decide)⟩
      | 2, _ => exact ⟨fun h => by first | rfl | exact absurd h (by decide), fun h => by first | rfl | exact absurd h (by decide), fun h => by first | exact Or.inl ⟨_, rfl⟩ | exact Or.inr ⟨_, rfl⟩ | exact absurd h (by decide)⟩
      | 3, _ => exact ⟨fun h => by first | rfl | exact absurd h (by decide), fun h => by first | rfl | exact absurd h (by decide), fun h => by first | exact Or.inl ⟨_, rfl⟩ | exact Or.inr ⟨_, rfl⟩ | exact absurd h (by decide)⟩
      | 4, _ => first | exact absurd hb (by decide) | exact ⟨fun h => by first | rfl | exact absurd h (by decide), fun h => by first | rfl | exact absurd h (by decide), fun h => by first | exact Or.inl ⟨_, rfl⟩ | exact Or.inr ⟨_, rfl⟩ | exact absurd h (by decide)⟩
      | 5, _ => first | exact absurd hb (by decide) | exact ⟨fun h => by first | rfl | exact absurd h (by decide), fun h => by first | rfl | exact absurd h (by decide), fun h => by first | exact Or.inl ⟨_, rfl⟩ | exact Or.inr ⟨_, rfl⟩ | exact absurd h (by decide)⟩
      | 6, _ => first | exact absurd hb (by decide) | exact ⟨fun h => by first | rfl | exact absurd h (by decide), fun h => by first | rfl | exact absurd h (by decide), fun h => by first | exact Or.inl ⟨_, rfl⟩ | exact Or.inr ⟨_, rfl⟩ | exact absurd h (by decide)⟩
      | 7, _ => first | exact absurd hb (by decide) | exact ⟨fun h => by first | rfl | exact absurd h (by decide), fun h => by first | rfl | exact absurd h (by decide), fun h => by first | exact Or.inl ⟨_, rfl⟩ | exact Or.inr ⟨_, rfl⟩ | exact absurd h (by decide)⟩
      | 8, _ => first | exact absurd hb (by decide) | exact ⟨fun h => by first | rfl | exact absurd h (by decide), fun h => by first | rfl | exact absurd h (by decide), fun h => by first | exact Or.inl ⟨_, rfl⟩ | exact Or.inr ⟨_, rfl⟩ | exact absurd h (by decide)⟩
      | 9, _ => first | exact absurd hb (by decide) | exact ⟨fun h => by first | rfl | exact absurd h (by decide), fun h => by first | rfl | exact absurd h (by decide), fun h => by first | exact Or.inl ⟨_, rfl⟩ | exact Or.inr ⟨_, rfl⟩ | exact absurd h (by decide)⟩
      | 10, _ => first | exact absurd hb (by decide) | exact ⟨fun h => by first | rfl | exact absurd h (by decide), fun h => by first | rfl | exact absurd h (by decide), fun h => by first | exact Or.inl ⟨_, rfl⟩ | exact Or.inr ⟨_, rfl⟩ | exact absurd h (by decide)⟩
      | 11, _ => first | exact absurd hb (by decide) | exact ⟨fun h => by first | rfl | exact absurd h (by decide), fun h => by first | rfl | exact absurd h (by decide), fun h => by first | exact Or.inl ⟨_, rfl⟩ | exact Or.inr ⟨_, rfl⟩ | exact absurd h (by decide)⟩
      | n + 12, hb' => omega)
theorem z_fit_ok {G : zG} (hE : ∀ k, G.2.2.2 k = .null ∨ ∃ a, G.2.2.2 k = .ref a) {ci b : Nat} (h : ci < 6) (hb : b < z_NF ci) {w : Value} (hf : z_fit (z_ft ci b) w = true) : narrow (z_Y ci b) (z_rv G w) = z_rv G w ∧ fits (z_Y ci b) (z_rv G w) = true := by
  obtain ⟨h0, h1, h2⟩ := z_tyOf h b hb
  generalize z_ft ci b = t at hf h0 h1 h2
  match t, w, hf with
  | 0, .int x, _ => rw [h0 rfl]; exact ⟨rfl, rfl⟩
  | 1, .int x, hf =>
    rw [h1 rfl]
    simp only [z_fit, Bool.or_eq_true, beq_iff_eq] at hf
    rcases hf with rfl | rfl
    · exact ⟨show narrow .boolean (.int 0) = .int 0 by decide, show fits .boolean (.int 0) = true by decide⟩
    · exact ⟨show narrow .boolean (.int 1) = .int 1 by decide, show fits .boolean (.int 1) = true by decide⟩
  | 2, .ref q, _ =>
    rcases h2 rfl with ⟨n, e⟩ | ⟨n, e⟩ <;> rw [e] <;> rcases z_rv_ref hE q with hz | ⟨a, hz⟩ <;> rw [hz] <;> exact ⟨rfl, rfl⟩
theorem z_hi1 (n : Nat) : ¬ 1000 + n < 1000 := by omega
theorem z_hi2 (n : Nat) : ¬ 2000 + n < 1000 := by omega
theorem z_in14 {q : Nat} (h1 : 1000 ≤ q) (h2 : q ≤ 1013) : ∃ n, n < 14 ∧ q = 1000 + n := ⟨q - 1000, by omega, by omega⟩
theorem z_in24 {q : Nat} (h1 : 2000 ≤ q) (h2 : q ≤ 2013) : ∃ n, n < 14 ∧ q = 2000 + n := ⟨q - 2000, by omega, by omega⟩
theorem z_1000_1000 (n : Nat) : 1000 + n + 1000 = 2000 + n := by omega
section SND
variable {p : Program} {l : Launch} {e : Env} {R : Room} {s : State} {m : MethodId} {args : Array Value} {below : List Frame} {meth : Method} {c : Code} {Q : State → Prop} {G : zG} {X : Nat × (Nat → Int32)} {j pc pc' : Nat} {L L' : zL} {st st' : List Value} {h h' : zH} {H : Heap} {locs : List Loc} {cells slots : Nat} {ls : Array Slot}
/-- the heap has just the cells that are counted -/
theorem z_size {g : JFrame} (hP : va_P G.2.1 z_cl (z_ws G h) H) (hb : G.1 ≤ s.heap.size) (hS : va_S (z_A G) s.heap H locs) (heq : G.1 + h.length = s.heap.size + cells) (k : H.size = G.1 + h.length → W p l e R s m args below meth c H locs cells slots Q g) : W p l e R s m args below meth c H locs cells slots Q g := by
  intro T hT Xs
  have hle : H.size ≤ s.heap.size + cells := by
    have := Xs.same.2.2.1
    rw [← hT]; exact this
  have hge : G.1 + h.length ≤ H.size := by
    cases hl : h.length with
    | zero => have := hS.1; omega
    | succ n =>
      have hn : n < h.length := by omega
      have := (hP n _ (z_ws_of (List.getElem?_eq_getElem hn))).lt
      dsimp only at this
      omega
  exact k (by omega) T hT Xs

theorem z_lt_of {h : zH} {q : Nat} {d : zC} (hq : h[q]? = some d) : q < h.length := (List.getElem?_eq_some_iff.mp hq).1
/-- a cell is written -/
theorem zSt.set {h : zH} {q : Nat} {d : zC} (hb : G.1 ≤ s.heap.size) (hS : zSt G s h H locs cells) {H1 : Heap} {locs1 : List Loc} {cd : zC} (hP : va_P G.2.1 z_cl (z_ws G (h.set q cd)) H1) (hS1 : va_S (z_A G) s.heap H1 locs1) : zSt G s (h.set q cd) H1 locs1 cells :=
  ⟨hP, by rw [List.length_set]; exact hS.2.1, hS1, by rw [List.length_set]; exact hS.2.2.2⟩
theorem z_one {n q : Nat} {D : va_G} {cl : List vw_C} {d : va_E} {H1 : Heap} (hP : va_P D cl (z_ws G h ++ [(q, d)]) H1) (hD : va_D (z_A G) (z_ws G h ++ [(q, d)])) (hle : H1.size ≤ G.1 + h.length + 1) : q = G.1 + h.length := by
  have hl : (z_ws G h ++ [(q, d)])[h.length]? = some (q, d) := by
    rw [List.getElem?_append_right (by rw [z_ws_len]; exact Nat.le_refl _), z_ws_len, Nat.sub_self]; rfl
  have h1 : q < H1.size := (hP _ _ hl).lt
  have h2 : G.1 ≤ q := hD.2 _ _ hl
  by_cases h3 : q < G.1 + h.length
  · have hk : q - G.1 < h.length := by omega
    have e := z_ws_of (G := G) (List.getElem?_eq_getElem hk)
    have e2 : (z_ws G h ++ [(q, d)])[q - G.1]? = some (G.1 + (q - G.1), z_cv G h[q - G.1]) := by
      rw [List.getElem?_append_left (by rw [z_ws_len]; exact hk)]; exact e
    have := hD.1 _ _ _ _ e2 hl (by show G.1 + (q - G.1) = q; omega)
    omega
  · omega
theorem z_newd {ci : Nat} (h6 : ci < 6) : (∀ j, j < z_NF ci → defaultValue (z_Y ci j) = vp_V ((z_new ci).map (z_rv G)) j) ∧ (z_new ci).length = z_NF ci := by
  refine z_lt6 (P := fun ci => (∀ j, j < z_NF ci → defaultValue (z_Y ci j) = vp_V ((z_new ci).map (z_rv G)) j) ∧ (z_new ci).length = z_NF ci) ?_ ?_ ?_ ?_ ?_ ?_ h6
  · refine ⟨fun j hj => ?_, rfl⟩
    match j, hj with
    | 0, _ => rfl
    | 1, _ => rfl
    | 2, _ => rfl
    | 3, _ => rfl
    | 4, _ => rfl
    | 5, _ => rfl
    | 6, _ => rfl
    | 7, _ => rfl
    | 8, _ => rfl
    | 9, _ => rfl
    | 10, _ => rfl
    | n + 11, hj => exact absurd hj (show ¬ (n + 11 < 11) by omega)
  · refine ⟨fun j hj => ?_, rfl⟩
    match j, hj with
    | 0, _ => rfl
    | 1, _ => rfl
    | 2, _ => rfl
    | n + 3, hj => exact absurd hj (show ¬ (n + 3 < 3) by omega)
  · refine ⟨fun j hj => ?_, rfl⟩
    match j, hj with
    | 0, _ => rfl
    | 1, _ => rfl
    | 2, _ => rfl
    | 3, _ => rfl
    | 4, _ => rfl
    | 5, _ => rfl
    | n + 6, hj => exact absurd hj (show ¬ (n + 6 < 6) by omega)
  · refine ⟨fun j hj => ?_, rfl⟩
    match j, hj with
    | 0, _ => rfl
    | 1, _ => rfl
    | 2, _ => rfl
    | n + 3, hj => exact absurd hj (show ¬ (n + 3 < 3) by omega)
  · refine ⟨fun j hj => ?_, rfl⟩
    match j, hj with
    | 0, _ => rfl
    | 1, _ => rfl
    | 2, _ => rfl
    | 3, _ => rfl
    | 4, _ => rfl
    | 5, _ => rfl
    | 6, _ => rfl
    | n + 7, hj => exact absurd hj (show ¬ (n + 7 < 7) by omega)
  · refine ⟨fun j hj => ?_, rfl⟩
    match j, hj with
    | 0, _ => rfl
    | 1, _ => rfl
    | 2, _ => rfl
    | 3, _ => rfl
    | 4, _ => rfl
    | 5, _ => rfl
    | 6, _ => rfl
    | 7, _ => rfl
    | 8, _ => rfl
    | 9, _ => rfl
    | 10, _ => rfl
    | 11, _ => rfl
    | 12, _ => rfl
    | 13, _ => rfl
    | 14, _ => rfl
    | 15, _ => rfl
    | 16, _ => rfl
    | 17, _ => rfl
    | 18, _ => rfl
    | n + 19, hj => exact absurd hj (show ¬ (n + 19 < 19) by omega)
theorem z_ini {ci : Nat} (h6 : ci < 6) : Cond.initialized (z_cn ci) ∈ z_tb ∧ Cond.instantiable (z_cn ci) (z_NF ci) ∈ z_tb := by
  have h1 := z_wE
  have h2 := z_wL
  simp only [List.all_cons, List.all_nil, Bool.and_eq_true, decide_eq_true_eq] at h1 h2
  refine z_lt6 (P := fun ci => Cond.initialized (z_cn ci) ∈ z_tb ∧ Cond.instantiable (z_cn ci) (z_NF ci) ∈ z_tb) ?_ ?_ ?_ ?_ ?_ ?_ h6
  · exact ⟨z_at_in h1.1, z_at_in h2.1.2⟩
  · exact ⟨z_at_in h1.2.1, z_at_in h2.2.1.2⟩
  · exact ⟨z_at_in h1.2.2.1, z_at_in h2.2.2.1.2⟩
  · exact ⟨z_at_in h1.2.2.2.1, z_at_in h2.2.2.2.1.2⟩
  · exact ⟨z_at_in h1.2.2.2.2.1, z_at_in h2.2.2.2.2.1.2⟩
  · exact ⟨z_at_in h1.2.2.2.2.2.1, z_at_in h2.2.2.2.2.2.1.2⟩
theorem z_sheetlink : Cond.classLink (z_cn 4) 29 "AnchorString$Sheet" ∈ z_tb := z_linkC (oc := 4) (i := 29) (a := 1) (by decide)
theorem z_wl_ok (n : Nat) : z_wl.getD n 0 = (z_wb n).length := by
  unfold z_wl z_wb
  rw [List.getD_eq_getElem?_getD, List.getD_eq_getElem?_getD, List.getElem?_map]
  cases z_wd[n]? <;> rfl
set_option maxHeartbeats 8000000 in
set_option maxRecDepth 100000 in
theorem z_hop {ins : Instr} {nx tg a b : Nat} {v : Value} (cx : zCx p R s m args meth c G X j) (hj : j < 233) (he : z_P j pc = some (ins, nx, tg, a, b, v)) (hs : z_hop1 X (ins, nx, tg, a, b, v) st h = some (st', h')) (hS : zSt G s h H locs cells) (hl : z_lr G L ls (z_mx j)) (hcl : cells + (h'.length - h.length) ≤ R.cells) (hsl : slots + (z_us h' - z_us h) ≤ R.slots)
    (k : ∀ H' locs' ls', zSt G s h' H' locs' (cells + (h'.length - h.length)) → z_lr G L ls' (z_mx j) → W p l e R s m args below meth c H' locs' (cells + (h'.length - h.length)) (slots + (z_us h' - z_us h)) Q (F0 m nx ls' (st'.map (z_rv G)))) :
    W p l e R s m args below meth c H locs cells slots Q (F0 m pc ls (st.map (z_rv G))) := by
  obtain ⟨hx, hb, hml, hown, hts, hini, henv, hbase, hfr, hlo⟩ := cx
  have hE := henv.2.2.2.1
  have hK := henv.1
  have hP := hS.1
  have hD := z_ws_D G h
  have hV := hS.2.2.1
  obtain ⟨hd, ho⟩ := z_row_ok hj he
  cases ins with
  | getfield i =>
    simp only [z_oki, Bool.and_eq_true, Bool.or_eq_true, decide_eq_true_eq] at ho
    obtain ⟨rfl, ho⟩ := ho
    rw [Nat.add_sub_cancel_left] at hd
    simp only [z_hop1] at hs
    split at hs
    · next q r =>
      rcases ho with ⟨rfl, hoc, ho⟩ | ⟨⟨ha, h6, hbN⟩, ho⟩
      · have e100 : Nat.beq 100 100 = true := rfl
        rw [e100] at hs
        simp only [cond_true] at hs
        split at hs
        · next w hw =>
          cases hs
          simp only [Nat.sub_self, Nat.add_zero] at k
          have k := k H locs ls hS hl
          rw [List.map_cons] at k ⊢
          obtain ⟨adK, adV, g1, g2, g3⟩ := henv.2.2.2.2.2.2.2.2.2
          unfold z_strf at hw
          cases hbb : (Nat.ble 1000 q && Nat.ble q 1013) with
          | false => rw [hbb] at hw; cases hw
          | true =>
            rw [hbb] at hw
            simp only [cond_true] at hw
            rw [Bool.and_eq_true] at hbb
            have hq1 := Nat.le_of_ble_eq_true hbb.1
            have hq2 := Nat.le_of_ble_eq_true hbb.2
            obtain ⟨n, hn, rfl⟩ := z_in14 hq1 hq2
            rw [z_rv_hi (z_hi1 n), (g1 n hn).1]
            rw [hoc] at hown
            rcases ho with ⟨rfl, rfl⟩ | ⟨rfl, rfl⟩
            · cases hw
              rw [z_1000_1000 n, z_rv_hi (z_hi2 n), (g1 n hn).2] at k
              exact vk_getf hx hb (g2.1 n hn).2.2.1 hV hown (hts _ z_q16) (fun _ h => h) hd k
            · cases hw
              exact vk_getf hx hb (g2.1 n hn).2.1 hV hown (hts _ z_q17) (fun _ h => h) hd k
        · cases hs
      · have e100 : Nat.beq a 100 = false := by
          cases hq : Nat.beq a 100 with
          | false => rfl
          | true => exact absurd (Nat.eq_of_beq_eq_true hq) ha
        rw [e100] at hs
        simp only [cond_false] at hs
        split at hs
        · next ci fs hq =>
          cases hca : Nat.beq ci a with
          | false => rw [hca] at hs; cases hs
          | true =>
            rw [hca] at hs
            simp only [cond_true] at hs
            obtain rfl : ci = a := Nat.eq_of_beq_eq_true hca
            split at hs
            · next w hw =>
              cases hs
              simp only [Nat.sub_self, Nat.add_zero] at k
              have k := k H locs ls hS hl
              have hq1 := z_lt_of hq
              rw [List.map_cons] at k ⊢
              rw [z_rv_low (Nat.lt_of_lt_of_le hq1 hS.2.1)]
              exact va_get hx hb hts (z_inb h6) hown hK hP q (z_ws_of hq) (z_clb h6) b hbN (hts _ (z_linkF ho)) (fun _ h => h) (v := z_rv G w) (by rw [List.getElem?_map, hw]; rfl) hd k
            · cases hs
        · cases hs
    · cases hs
  | putfield i =>
    simp only [z_oki, Bool.and_eq_true, Bool.or_eq_true, decide_eq_true_eq, Bool.not_eq_true'] at ho
    obtain ⟨⟨⟨rfl, h6, hbN⟩, ho⟩, hfin⟩ := ho
    rw [Nat.add_sub_cancel_left] at hd
    simp only [z_hop1] at hs
    split at hs
    · next w q r =>
      split at hs
      · next ci fs hq =>
        cases hca : (Nat.beq ci a && Nat.blt b fs.length && z_fit (z_ft a b) w) with
        | false => rw [hca] at hs; cases hs
        | true =>
          rw [hca] at hs
          simp only [cond_true] at hs
          simp only [Bool.and_eq_true] at hca
          obtain ⟨⟨hc1, hc2⟩, hc3⟩ := hca
          obtain rfl : ci = a := Nat.eq_of_beq_eq_true hc1
          have hlen : b < fs.length := Nat.blt_eq.mp hc2
          cases hs
          rw [z_us_set h q _ _ hq (by simp [z_sl]), List.length_set] at k
          simp only [Nat.sub_self, Nat.add_zero] at k
          have hq1 := z_lt_of hq
          obtain ⟨f1, f2⟩ := z_fit_ok hE h6 hbN hc3
          have key : ∀ (H1 : Heap) (locs1 : List Loc), va_P G.2.1 z_cl ((z_ws G h).set q (G.1 + q, .inr (ci, (fs.map (z_rv G)).set b (z_rv G w)))) H1 → va_S (z_A G) s.heap H1 locs1 → W p l e R s m args below meth c H1 locs1 cells slots Q (F0 m (pc + 3) ls (st'.map (z_rv G))) := by
            intro H1 locs1 q1 q3
            refine k H1 locs1 ls (hS.set hbase (d := .inr (ci, fs)) ?_ q3) hl
            rw [z_ws_set]
            show va_P G.2.1 z_cl ((z_ws G h).set q (G.1 + q, .inr (ci, (fs.set b w).map (z_rv G)))) H1
            rw [List.map_set]
            exact q1
          rw [List.map_cons, List.map_cons, z_rv_low (Nat.lt_of_lt_of_le hq1 hS.2.1)]
          by_cases hf : (z_T ci b).2.2.2 = true
          · have hz : z_kd j = 2 ∧ z_oc j = ci := by
              rcases hfin with q | q
              · rw [hf] at q; cases q
              · exact q
            refine va_putF hx hb hts (z_inb h6) (z_Y ci) (z_tyb h6) (z_nmb h6) hown hK hP hD hV q (z_ws_of hq) (z_clb h6) b hbN (hts _ (z_linkF ho)) (fun _ h => h) hf (hini hz.1) ?_ (z_tyb h6 b hbN) f1 f2 (by rw [List.length_map]; exact hlen) hd (fun H1 locs1 q1 q2 q3 => key H1 locs1 q1 q3)
            rw [hz.2]
            exact z_lt6 (P := fun ci => ∀ b, b < z_NF ci → (z_T ci b).1 = z_cn ci) (by decide +kernel) (by decide +kernel) (by decide +kernel) (by decide +kernel) (by decide +kernel) (by decide +kernel) h6 b hbN
          · have hf : (z_T ci b).2.2.2 = false := by simpa using hf
            exact va_put hx hb hts (z_inb h6) (z_Y ci) (z_tyb h6) (z_nmb h6) hown hK hP hD hV q (z_ws_of hq) (z_clb h6) b hbN (hts _ (z_linkF ho)) (fun _ h => h) hf (z_tyb h6 b hbN) f1 f2 (by rw [List.length_map]; exact hlen) hd (fun H1 locs1 q1 q2 q3 => key H1 locs1 q1 q3)
      · cases hs
    · cases hs
  | getstatic i =>
    simp only [z_oki, decide_eq_true_eq] at ho
    obtain ⟨rfl, ho⟩ := ho
    rw [Nat.add_sub_cancel_left] at hd
    simp only [z_hop1] at hs
    cases hs
    simp only [Nat.sub_self, Nat.add_zero] at k
    have k := k H locs ls hS hl
    rw [List.map_cons] at k
    rcases ho with ⟨hoc, rfl, rfl⟩ | ⟨hoc, rfl, rfl⟩ | ⟨hoc, rfl, rfl⟩
    · rw [z_rv_hi (by decide)] at k
      rw [hoc] at hown
      exact va_gets hx hb henv.2.2.2.2.1 hV hown (hts _ z_q13) (fun _ h => h) hd k
    · rw [hoc] at hown
      exact va_gets hx hb henv.2.2.2.2.2.1 hV hown (hts _ z_q14) (fun _ h => h) hd k
    · rw [z_rv_hi (by decide)] at k
      rw [hoc] at hown
      exact va_gets hx hb henv.2.2.2.2.2.2.1 hV hown (hts _ z_q15) (fun _ h => h) hd k
  | arraylength =>
    simp only [z_oki, decide_eq_true_eq] at ho
    subst ho
    rw [Nat.add_sub_cancel_left] at hd
    simp only [z_hop1] at hs
    split at hs
    · next q r =>
      split at hs
      · next n hn =>
        cases hs
        simp only [Nat.sub_self, Nat.add_zero] at k
        have k := k H locs ls hS hl
        rw [List.map_cons] at k ⊢
        unfold z_len at hn
        cases h1 : Nat.ble 1000 q with
        | true =>
          have hq1 := Nat.le_of_ble_eq_true h1
          rw [h1] at hn
          simp only [cond_true] at hn
          cases h2 : Nat.beq q 3000 with
          | true =>
            rw [h2] at hn
            obtain rfl : q = 3000 := Nat.eq_of_beq_eq_true h2
            cases hn
            obtain ⟨t, t1, t2⟩ := henv.2.2.2.2.2.2.2.1
            rw [z_rv_hi (by decide), t1]
            exact va_tlen hx hb t2 hV rfl hd k
          | false =>
            rw [h2] at hn
            simp only [cond_false] at hn
            cases h3 : Nat.beq q 3001 with
            | true =>
              rw [h3] at hn
              obtain rfl : q = 3001 := Nat.eq_of_beq_eq_true h3
              cases hn
              obtain ⟨t, t1, t2, t3, t4⟩ := henv.2.2.2.2.2.2.2.2.1
              rw [z_rv_hi (by decide), t1]
              exact va_slen hx hb t2 t3 t4 hV hd k
            | false =>
              rw [h3] at hn
              simp only [cond_false] at hn
              split at hn
              · next n2 f2 hz =>
                cases hn
                unfold z_bytes at hz
                cases h4 : (Nat.ble 2000 q && Nat.ble q 2013) with
                | false => rw [h4] at hz; cases hz
                | true =>
                  rw [h4] at hz
                  simp only [cond_true] at hz
                  rw [Bool.and_eq_true] at h4
                  have hq2 := Nat.le_of_ble_eq_true h4.1
                  have hq3 := Nat.le_of_ble_eq_true h4.2
                  obtain ⟨n, hn, rfl⟩ := z_in24 hq2 hq3
                  obtain ⟨adK, adV, g1, g2, g3⟩ := henv.2.2.2.2.2.2.2.2.2
                  rw [z_rv_hi (z_hi2 n), (g1 n hn).2]
                  cases hz
                  rw [Nat.add_sub_cancel_left] at k
                  refine va_tlen hx hb (g2.1 n hn).2.2.2 hV ?_ hd k
                  rw [z_wl_ok]
              · cases hn
        | false =>
          rw [h1] at hn
          simp only [cond_false] at hn
          split at hn
          · next n2 cc hq =>
            cases hn
            have hq1 := z_lt_of hq
            rw [z_rv_low (Nat.lt_of_lt_of_le hq1 hS.2.1)]
            rcases cc with f | f | f
            · exact va_alen hx hb hK hP q 0 (z_ws_of hq) rfl rfl hd k
            · exact va_alen hx hb hK hP q 1 (z_ws_of hq) rfl rfl hd k
            · exact va_alen hx hb hK hP q 2 (z_ws_of hq) rfl rfl hd k
          · cases hn
      · cases hs
    · cases hs
  | iaload =>
    simp only [z_oki, decide_eq_true_eq] at ho
    subst ho
    rw [Nat.add_sub_cancel_left] at hd
    simp only [z_hop1] at hs
    split at hs
    · next i q r =>
      split at hs
      · next n f hn =>
        split at hs
        · cases hs
        · next hin =>
          cases hs
          simp only [Nat.sub_self, Nat.add_zero] at k
          have k := k H locs ls hS hl
          rw [List.map_cons] at k
          rw [List.map_cons, List.map_cons]
          unfold z_ints at hn
          cases h1 : Nat.ble 1000 q with
          | true =>
            rw [h1] at hn
            simp only [cond_true] at hn
            cases h2 : Nat.beq q 3000 with
            | true =>
              rw [h2] at hn
              obtain rfl : q = 3000 := Nat.eq_of_beq_eq_true h2
              cases hn
              obtain ⟨t, t1, t2⟩ := henv.2.2.2.2.2.2.2.1
              rw [z_rv_hi (by decide), t1]
              exact va_ti hx hb t2 hV hin rfl hd k
            | false =>
              rw [h2] at hn
              simp only [cond_false] at hn
              cases h3 : Nat.beq q 3001 with
              | true =>
                rw [h3] at hn
                obtain rfl : q = 3001 := Nat.eq_of_beq_eq_true h3
                cases hn
                obtain ⟨t, t1, t2, t3, t4⟩ := henv.2.2.2.2.2.2.2.2.1
                rw [z_rv_hi (by decide), t1]
                exact va_sld hx hb t2 t3 t4 hV hin hd k
              | false =>
                rw [h3] at hn
                cases hn
          | false =>
            rw [h1] at hn
            simp only [cond_false] at hn
            split at hn
            · next n2 f2 hq =>
              cases hn
              have hq1 := z_lt_of hq
              rw [z_rv_low (Nat.lt_of_lt_of_le hq1 hS.2.1)]
              exact va_iald hx hb hK hP q 0 (z_ws_of hq) rfl hin hd k
            · cases hn
      · cases hs
    · cases hs
  | baload =>
    simp only [z_oki, decide_eq_true_eq] at ho
    subst ho
    rw [Nat.add_sub_cancel_left] at hd
    simp only [z_hop1] at hs
    split at hs
    · next i q r =>
      split at hs
      · next n f hz =>
        split at hs
        · cases hs
        · next hin =>
          cases hs
          simp only [Nat.sub_self, Nat.add_zero] at k
          have k := k H locs ls hS hl
          rw [List.map_cons] at k
          rw [List.map_cons, List.map_cons]
          unfold z_bytes at hz
          cases h4 : (Nat.ble 2000 q && Nat.ble q 2013) with
          | false => rw [h4] at hz; cases hz
          | true =>
            rw [h4] at hz
            simp only [cond_true] at hz
            rw [Bool.and_eq_true] at h4
            have hq2 := Nat.le_of_ble_eq_true h4.1
            have hq3 := Nat.le_of_ble_eq_true h4.2
            obtain ⟨n, hn, rfl⟩ := z_in24 hq2 hq3
            obtain ⟨adK, adV, g1, g2, g3⟩ := henv.2.2.2.2.2.2.2.2.2
            rw [z_rv_hi (z_hi2 n), (g1 n hn).2]
            cases hz
            rw [Nat.add_sub_cancel_left] at k hin
            refine va_tb hx hb (g2.1 n hn).2.2.2 hV ?_ rfl hd k
            rw [z_wl_ok]
            exact hin
      · cases hs
    · cases hs
  | iastore =>
    simp only [z_oki, decide_eq_true_eq] at ho
    subst ho
    rw [Nat.add_sub_cancel_left] at hd
    simp only [z_hop1] at hs
    split at hs
    · next x i q r =>
      split at hs
      · next n f hq =>
        split at hs
        · cases hs
        · next hin =>
          cases hs
          rw [z_us_set h q _ _ hq (by simp [z_sl]), List.length_set] at k
          simp only [Nat.sub_self, Nat.add_zero] at k
          have hq1 := z_lt_of hq
          rw [List.map_cons, List.map_cons, List.map_cons, z_rv_low (Nat.lt_of_lt_of_le hq1 hS.2.1)]
          refine va_iast hx hb hK hP hD hV q 0 (z_ws_of hq) rfl hin hd (fun H1 locs1 q1 q2 q3 => k H1 locs1 ls (hS.set hbase (d := .inl (n, .inl f)) ?_ q3) hl)
          rw [z_ws_set]
          exact q1
      · cases hs
    · cases hs
  | laload =>
    simp only [z_oki, decide_eq_true_eq] at ho
    subst ho
    rw [Nat.add_sub_cancel_left] at hd
    simp only [z_hop1] at hs
    split at hs
    · next i q r =>
      split at hs
      · next n f hq =>
        split at hs
        · cases hs
        · next hin =>
          cases hs
          simp only [Nat.sub_self, Nat.add_zero] at k
          have k := k H locs ls hS hl
          have hq1 := z_lt_of hq
          rw [List.map_cons] at k
          rw [List.map_cons, List.map_cons, z_rv_low (Nat.lt_of_lt_of_le hq1 hS.2.1)]
          exact va_lald hx hb hK hP q 1 (z_ws_of hq) rfl hin hd k
      · cases hs
    · cases hs
  | lastore =>
    simp only [z_oki, decide_eq_true_eq] at ho
    subst ho
    rw [Nat.add_sub_cancel_left] at hd
    simp only [z_hop1] at hs
    split at hs
    · next x i q r =>
      split at hs
      · next n f hq =>
        split at hs
        · cases hs
        · next hin =>
          cases hs
          rw [z_us_set h q _ _ hq (by simp [z_sl]), List.length_set] at k
          simp only [Nat.sub_self, Nat.add_zero] at k
          have hq1 := z_lt_of hq
          rw [List.map_cons, List.map_cons, List.map_cons, z_rv_low (Nat.lt_of_lt_of_le hq1 hS.2.1)]
          refine va_last hx hb hK hP hD hV q 1 (z_ws_of hq) rfl hin hd (fun H1 locs1 q1 q2 q3 => k H1 locs1 ls (hS.set hbase (d := .inl (n, .inr (.inl f))) ?_ q3) hl)
          rw [z_ws_set]
          exact q1
      · cases hs
    · cases hs
  | aaload =>
    simp only [z_oki, decide_eq_true_eq] at ho
    subst ho
    rw [Nat.add_sub_cancel_left] at hd
    simp only [z_hop1] at hs
    split at hs
    · next i q r =>
      split at hs
      · next n f hq =>
        split at hs
        · cases hs
        · next hin =>
          have hq1 := z_lt_of hq
          rw [List.map_cons, List.map_cons, z_rv_low (Nat.lt_of_lt_of_le hq1 hS.2.1)]
          refine va_aldq hx hb hK hP q 2 (z_ws_of hq) rfl hin hd ?_
          split at hs
          · next kk hk =>
            cases hb2 : Nat.blt kk 1000 with
            | false => rw [hb2] at hs; cases hs
            | true =>
              rw [hb2] at hs
              cases hs
              simp only [Nat.sub_self, Nat.add_zero] at k
              have k := k H locs ls hS hl
              rw [List.map_cons, z_rv_low (Nat.blt_eq.mp hb2)] at k
              rw [hk]
              exact k
          · next hk =>
            cases hs
            simp only [Nat.sub_self, Nat.add_zero] at k
            have k := k H locs ls hS hl
            rw [List.map_cons] at k
            rw [hk]
            exact k
      · cases hs
    · cases hs
  | aastore =>
    simp only [z_oki, decide_eq_true_eq] at ho
    subst ho
    rw [Nat.add_sub_cancel_left] at hd
    simp only [z_hop1] at hs
    split at hs
    · next kk i q r =>
      split at hs
      · next n f ci fs hq hk =>
        cases hb2 : Nat.beq ci 1 with
        | false => rw [hb2] at hs; cases hs
        | true =>
          rw [hb2] at hs
          simp only [cond_true] at hs
          obtain rfl : ci = 1 := Nat.eq_of_beq_eq_true hb2
          split at hs
          · cases hs
          · next hin =>
            cases hs
            rw [z_us_set h q _ _ hq (by simp [z_sl]), List.length_set] at k
            simp only [Nat.sub_self, Nat.add_zero] at k
            have hq1 := z_lt_of hq
            have hk1 := z_lt_of hk
            rw [List.map_cons, List.map_cons, List.map_cons, z_rv_low (Nat.lt_of_lt_of_le hq1 hS.2.1), z_rv_low (Nat.lt_of_lt_of_le hk1 hS.2.1)]
            refine va_astq hx hb hK hP hD hV q 2 kk 1 (r := (z_cn 1, z_T 1, z_NF 1)) (z_ws_of hq) rfl (z_ws_of hk) (z_clb (by decide)) hin hd (fun H1 locs1 q1 q2 q3 => k H1 locs1 ls (hS.set hbase (d := .inl (n, .inr (.inr f))) ?_ q3) hl)
            rw [z_ws_set]
            have e : (fun x => Option.map (fun k => G.1 + k) (va_up f i.toNatClampNeg (some kk) x)) = va_up (fun x => Option.map (fun k => G.1 + k) (f x)) i.toNatClampNeg (some (G.1 + kk)) := by
              funext x
              unfold va_up
              by_cases hxx : x = i.toNatClampNeg
              · rw [if_pos hxx, if_pos hxx]; rfl
              · rw [if_neg hxx, if_neg hxx]
            show va_P G.2.1 z_cl ((z_ws G h).set q (G.1 + q, .inl (G.2.2.1 2, n, .inr (.inr (.inr (.inr (fun x => Option.map (fun k => G.1 + k) (va_up f i.toNatClampNeg (some kk) x)))))))) H1
            rw [e]
            exact q1
      · cases hs
    · cases hs
  | newarray t =>
    simp only [z_oki, decide_eq_true_eq] at ho
    subst ho
    rw [Nat.add_sub_cancel_left] at hd
    simp only [z_hop1] at hs
    split at hs
    · next i r =>
      split at hs
      · cases hs
      · next hin =>
        have hi0 : ¬ i < 0 := fun q => hin (Or.inl q)
        have hi1 : i.toNatClampNeg < 1000 := by
          have := fun q => hin (Or.inr (Or.inl q)); omega
        have hi2 : h.length < 1000 := by
          have := fun q => hin (Or.inr (Or.inr q)); omega
        cases t with
        | int =>
          simp only at hs
          cases hs
          simp only [z_us_push, List.length_append, List.length_singleton, Nat.add_sub_cancel_left, z_sl] at k hcl hsl
          rw [List.map_cons]
          refine va_newa (atype := .int) (a0 := (i.toNatClampNeg, .inl (fun _ => 0))) hx hb (hts _ z_q6) rfl hK hP hD hV (fun q hq => Nat.le_trans hbase hq) (fun cA => rfl) hi0 rfl (by show i.toNatClampNeg * 4 ≤ _; omega) hcl hsl hd (fun q cA H1 q1 q2 q3 q4 => ?_)
          have hcA : cA = G.2.2.1 0 := by
            have r1 := (q1.2 3 (cA, .int) rfl).2
            have r2 := (hK.2 0 _ rfl).2
            exact Option.some.inj (r1.symm.trans r2)
          subst hcA
          intro T hT Xs
          have hle : H1.size ≤ s.heap.size + (cells + 1) := by
            have := Xs.same.2.2.1
            rw [← hT]; exact this
          have hq := z_one (n := 0) q2 q3 (by have := hS.2.2.2; omega)
          subst hq
          have k := k H1 locs ls ⟨by rw [z_ws_push]; exact q2, by rw [List.length_append, List.length_singleton]; omega, q4, by rw [List.length_append, List.length_singleton]; have := hS.2.2.2; omega⟩ hl
          rw [List.map_cons, z_rv_low hi2] at k
          exact k T hT Xs
        | long =>
          simp only at hs
          cases hs
          simp only [z_us_push, List.length_append, List.length_singleton, Nat.add_sub_cancel_left, z_sl] at k hcl hsl
          rw [List.map_cons]
          refine va_newa (atype := .long) (a0 := (i.toNatClampNeg, .inr (.inl (fun _ => 0)))) hx hb (hts _ z_q7) rfl hK hP hD hV (fun q hq => Nat.le_trans hbase hq) (fun cA => rfl) hi0 rfl (by show i.toNatClampNeg * 8 ≤ _; omega) hcl hsl hd (fun q cA H1 q1 q2 q3 q4 => ?_)
          have hcA : cA = G.2.2.1 1 := by
            have r1 := (q1.2 3 (cA, .long) rfl).2
            have r2 := (hK.2 1 _ rfl).2
            exact Option.some.inj (r1.symm.trans r2)
          subst hcA
          intro T hT Xs
          have hle : H1.size ≤ s.heap.size + (cells + 1) := by
            have := Xs.same.2.2.1
            rw [← hT]; exact this
          have hq := z_one (n := 0) q2 q3 (by have := hS.2.2.2; omega)
          subst hq
          have k := k H1 locs ls ⟨by rw [z_ws_push]; exact q2, by rw [List.length_append, List.length_singleton]; omega, q4, by rw [List.length_append, List.length_singleton]; have := hS.2.2.2; omega⟩ hl
          rw [List.map_cons, z_rv_low hi2] at k
          exact k T hT Xs
        | _ => simp only at hs; cases hs
    · cases hs
  | anewarray ix =>
    simp only [z_oki, decide_eq_true_eq] at ho
    obtain ⟨rfl, hoc, rfl⟩ := ho
    rw [Nat.add_sub_cancel_left] at hd
    simp only [z_hop1] at hs
    split at hs
    · next i r =>
      split at hs
      · cases hs
      · next hin =>
        have hi0 : ¬ i < 0 := fun q => hin (Or.inl q)
        have hi1 : i.toNatClampNeg < 1000 := by
          have := fun q => hin (Or.inr (Or.inl q)); omega
        have hi2 : h.length < 1000 := by
          have := fun q => hin (Or.inr (Or.inr q)); omega
        cases hs
        simp only [z_us_push, List.length_append, List.length_singleton, Nat.add_sub_cancel_left, z_sl] at k hcl hsl
        rw [List.map_cons]
        rw [hoc] at hown
        refine va_newq hx hb hown (hts _ z_sheetlink) henv.2.1 hK hP hD hV (fun q hq => Nat.le_trans hbase hq) hi0 rfl (by omega) hcl hsl hd (fun q cA H1 q1 q2 q3 q4 => ?_)
        have hcA : cA = G.2.2.1 2 := by
          obtain ⟨k1, c1, -, -, -, r1⟩ := (q1.2 3 (cA, .object "AnchorString$Sheet") rfl).2
          obtain ⟨k2, c2, -, -, -, r2⟩ := (hK.2 2 _ rfl).2
          exact Option.some.inj (r1.symm.trans r2)
        subst hcA
        intro T hT Xs
        have hle : H1.size ≤ s.heap.size + (cells + 1) := by
          have := Xs.same.2.2.1
          rw [← hT]; exact this
        have hq := z_one (n := 0) q2 q3 (by have := hS.2.2.2; omega)
        subst hq
        have k := k H1 locs ls ⟨by rw [z_ws_push]; exact q2, by rw [List.length_append, List.length_singleton]; omega, q4, by rw [List.length_append, List.length_singleton]; have := hS.2.2.2; omega⟩ hl
        rw [List.map_cons, z_rv_low hi2] at k
        exact k T hT Xs
    · cases hs
  | new ix =>
    simp only [z_oki, Bool.and_eq_true, decide_eq_true_eq] at ho
    obtain ⟨⟨rfl, h6⟩, ho⟩ := ho
    rw [Nat.add_sub_cancel_left] at hd
    simp only [z_hop1] at hs
    split at hs
    · cases hs
    · next hin =>
      have hi2 : h.length < 1000 := by omega
      cases hs
      obtain ⟨d1, d2⟩ := z_newd (G := G) h6
      simp only [z_us_push, List.length_append, List.length_singleton, Nat.add_sub_cancel_left, z_sl, d2] at k hcl hsl
      refine va_new hx hb hts (z_inb h6) (z_Y a) (z_tyb h6) hown (hts _ (z_linkC ho)) (hts _ (z_ini h6).2) (hts _ (z_ini h6).1) hK hP hD hV (fun q hq => Nat.le_trans hbase hq) (z_clb h6) d1 hcl hsl hd (fun q H1 q2 q3 q4 => ?_)
      intro T hT Xs
      have hle : H1.size ≤ s.heap.size + (cells + 1) := by
        have := Xs.same.2.2.1
        rw [← hT]; exact this
      have hq := z_one (n := 0) q2 q3 (by have := hS.2.2.2; omega)
      subst hq
      have k := k H1 locs ls ⟨by rw [z_ws_push]; exact q2, by rw [List.length_append, List.length_singleton]; omega, q4, by rw [List.length_append, List.length_singleton]; have := hS.2.2.2; omega⟩ hl
      rw [List.map_cons, z_rv_low hi2] at k
      exact k T hT Xs
  | invokespecial ix =>
    simp only [z_oki, Bool.and_eq_true, Bool.or_eq_true, decide_eq_true_eq] at ho
    obtain ⟨rfl, ho⟩ := ho
    rw [Nat.add_sub_cancel_left] at hd
    simp only [z_hop1] at hs
    split at hs
    · next q r =>
      cases hca : (Nat.beq a 998 && Nat.ble (z_sum r) 8 && Nat.blt q 1000) with
      | false => rw [hca] at hs; cases hs
      | true =>
        rw [hca] at hs
        simp only [cond_true] at hs
        simp only [Bool.and_eq_true] at hca
        obtain rfl : a = 998 := Nat.eq_of_beq_eq_true hca.1.1
        have hsum := Nat.le_of_ble_eq_true hca.1.2
        have hq1 : q < 1000 := Nat.blt_eq.mp hca.2
        cases hs
        simp only [Nat.sub_self, Nat.add_zero] at k
        have k := k H locs ls hS hl
        rcases ho with ⟨⟨ho, -⟩, -⟩ | ⟨⟨-, h1, h2⟩, ho⟩
        · omega
        · rw [List.map_cons, z_rv_low hq1]
          exact W.objInit hx hb hown (hts _ (z_linkO ho)) (hts _ z_q1) (hts _ z_q2) (g := F0 m pc ls (.ref (G.1 + q) :: st'.map (z_rv G))) rfl (by rw [hml]; exact hl.1) rfl hd (by omega) (by rw [z_sum_rv hE]; show 2 * 0 + _ + 12 ≤ _; omega) k
    · cases hs
  | invokestatic ix =>
    simp only [z_oki, Bool.and_eq_true, Bool.or_eq_true, decide_eq_true_eq] at ho
    obtain ⟨rfl, ho⟩ := ho
    rw [Nat.add_sub_cancel_left] at hd
    simp only [z_hop1] at hs
    cases h1 : Nat.beq a 996 with
    | true =>
      rw [h1] at hs
      simp only [cond_true] at hs
      obtain rfl : a = 996 := Nat.eq_of_beq_eq_true h1
      split at hs
      · next y x r =>
        cases hb2 : Nat.ble (z_sum r) 8 with
        | false => rw [hb2] at hs; cases hs
        | true =>
          rw [hb2] at hs
          have hsum := Nat.le_of_ble_eq_true hb2
          cases hs
          simp only [Nat.sub_self, Nat.add_zero] at k hcl hsl
          have k := k H locs ls hS hl
          rw [List.map_cons] at k
          rw [List.map_cons, List.map_cons]
          rcases ho with ((⟨⟨ho, -⟩, -⟩ | ⟨⟨ho, -⟩, -⟩) | ⟨⟨-, g1, g2⟩, ho⟩) | ⟨⟨ho, -⟩, -⟩
          · omega
          · omega
          · exact va_mmax hx hb (by rw [hml]; exact hl.1.symm) hown (hts _ (z_linkX ho)) (hts _ z_q9) (hts _ z_q8) (hts _ z_q11) (by omega) (by rw [z_sum_rv hE]; omega) hcl hsl hd k
          · omega
      · cases hs
    | false =>
      rw [h1] at hs
      simp only [cond_false] at hs
      cases h2 : Nat.beq a 995 with
      | true =>
        rw [h2] at hs
        simp only [cond_true] at hs
        obtain rfl : a = 995 := Nat.eq_of_beq_eq_true h2
        split at hs
        · next y x r =>
          cases hb2 : Nat.ble (z_sum r) 8 with
          | false => rw [hb2] at hs; cases hs
          | true =>
            rw [hb2] at hs
            have hsum := Nat.le_of_ble_eq_true hb2
            cases hs
            simp only [Nat.sub_self, Nat.add_zero] at k hcl hsl
            have k := k H locs ls hS hl
            rw [List.map_cons] at k
            rw [List.map_cons, List.map_cons]
            rcases ho with ((⟨⟨ho, -⟩, -⟩ | ⟨⟨ho, -⟩, -⟩) | ⟨⟨ho, -⟩, -⟩) | ⟨⟨-, g1, g2⟩, ho⟩
            · omega
            · omega
            · omega
            · exact va_mmin hx hb (by rw [hml]; exact hl.1.symm) hown (hts _ (z_linkI ho)) (hts _ z_q10) (hts _ z_q8) (hts _ z_q12) (by omega) (by rw [z_sum_rv hE]; omega) hcl hsl hd k
        · cases hs
      | false =>
        rw [h2] at hs
        simp only [cond_false] at hs
        split at hs
        · next n dp q1 sp q0 r =>
          cases hca : (Nat.beq a 999 && Nat.ble (z_sum r) 8) with
          | false => rw [hca] at hs; cases hs
          | true =>
            rw [hca] at hs
            simp only [cond_true] at hs
            rw [Bool.and_eq_true] at hca
            obtain rfl : a = 999 := Nat.eq_of_beq_eq_true hca.1
            have hsum := Nat.le_of_ble_eq_true hca.2
            have hok : (1 ≤ z_fr j ∧ 26 ≤ z_lo j) ∧ z_lA.any (fun q => decide (q.1 = z_oc j ∧ q.2.1 = ix)) = true := by
              rcases ho with ((⟨⟨ho, -⟩, -⟩ | ⟨⟨-, g1, g2⟩, ho⟩) | ⟨⟨ho, -⟩, -⟩) | ⟨⟨ho, -⟩, -⟩
              · omega
              · exact ⟨⟨g1, g2⟩, ho⟩
              · omega
              · omega
            obtain ⟨⟨g1, g2⟩, ho⟩ := hok
            have hnf : nativeFrameWords "java/lang/System" "arraycopy" 5 = 7 := by decide
            split at hs
            · next n0 f n1 g hq0 hq1 =>
              split at hs
              · cases hs
              · next hin =>
                cases hs
                rw [z_us_set h q1 _ _ hq1 (by simp [z_sl]), List.length_set] at k
                simp only [Nat.sub_self, Nat.add_zero] at k
                have hl0 := z_lt_of hq0
                have hl1 := z_lt_of hq1
                simp only [not_or] at hin
                rw [List.map_cons, List.map_cons, List.map_cons, List.map_cons, List.map_cons, z_rv_low (Nat.lt_of_lt_of_le hl0 hS.2.1), z_rv_low (Nat.lt_of_lt_of_le hl1 hS.2.1)]
                refine va_copyi hx hb (by rw [hml]; exact hl.1.symm) hown (hts _ (z_linkA ho)) (hts _ z_q3) (hts _ z_q4) (hts _ z_q5) hK hP hD hV q0 q1 0 0 (z_ws_of hq0) (z_ws_of hq1) rfl rfl rfl hin.1 hin.2.1 hin.2.2.1 (by omega) (by omega) (fun _ _ => rfl) (by omega) (by rw [z_sum_rv hE, hnf]; omega) hd (fun H1 locs1 p1 p2 p3 => k H1 locs1 ls (hS.set hbase (d := .inl (n1, .inl g)) ?_ p3) hl)
                rw [z_ws_set]
                exact p1
            · next n0 f n1 g hq0 hq1 =>
              split at hs
              · cases hs
              · next hin =>
                cases hs
                rw [z_us_set h q1 _ _ hq1 (by simp [z_sl]), List.length_set] at k
                simp only [Nat.sub_self, Nat.add_zero] at k
                have hl0 := z_lt_of hq0
                have hl1 := z_lt_of hq1
                simp only [not_or] at hin
                rw [List.map_cons, List.map_cons, List.map_cons, List.map_cons, List.map_cons, z_rv_low (Nat.lt_of_lt_of_le hl0 hS.2.1), z_rv_low (Nat.lt_of_lt_of_le hl1 hS.2.1)]
                refine va_copyl hx hb (by rw [hml]; exact hl.1.symm) hown (hts _ (z_linkA ho)) (hts _ z_q3) (hts _ z_q4) (hts _ z_q5) hK hP hD hV q0 q1 1 1 (z_ws_of hq0) (z_ws_of hq1) rfl rfl rfl hin.1 hin.2.1 hin.2.2.1 (by omega) (by omega) (fun _ _ => rfl) (by omega) (by rw [z_sum_rv hE, hnf]; omega) hd (fun H1 locs1 p1 p2 p3 => k H1 locs1 ls (hS.set hbase (d := .inl (n1, .inr (.inl g))) ?_ p3) hl)
                rw [z_ws_set]
                exact p1
            · cases hs
        · cases hs
  | _ => simp only [z_hop1] at hs; cases hs

set_option maxHeartbeats 8000000 in
set_option maxRecDepth 100000 in
theorem z_step {ins : Instr} {nx tg a b : Nat} {v : Value} (cx : zCx p R s m args meth c G X j) (hj : j < 233) (he : z_P j pc = some (ins, nx, tg, a, b, v)) (hs : z_stp (z_hop1 X) pc (ins, nx, tg, a, b, v) L st h = some (pc', L', st', h')) (hS : zSt G s h H locs cells) (hl : z_lr G L ls (z_mx j)) (hcl : cells + (h'.length - h.length) ≤ R.cells) (hsl : slots + (z_us h' - z_us h) ≤ R.slots)
    (k : ∀ H' locs' ls', zSt G s h' H' locs' (cells + (h'.length - h.length)) → z_lr G L' ls' (z_mx j) → W p l e R s m args below meth c H' locs' (cells + (h'.length - h.length)) (slots + (z_us h' - z_us h)) Q (F0 m pc' ls' (st'.map (z_rv G)))) :
    W p l e R s m args below meth c H locs cells slots Q (F0 m pc ls (st.map (z_rv G))) := by
  have cx0 := cx
  obtain ⟨hx, hb, hml, hown, hts, hini, henv, hbase, hfr, hlo⟩ := cx
  have hE := henv.2.2.2.1
  obtain ⟨hd, ho⟩ := z_row_ok hj he
  cases ins with
  | iconst n =>
    simp only [z_oki, decide_eq_true_eq] at ho
    obtain ⟨rfl, rfl⟩ := ho
    rw [Nat.add_sub_cancel_left] at hd
    simp only [z_stp] at hs
    cases hs
    simp only [Nat.sub_self, Nat.add_zero] at k
    exact lv_iconst hx hb hd rfl (k H locs ls hS hl)
  | bipush n =>
    simp only [z_oki, decide_eq_true_eq] at ho
    obtain ⟨rfl, rfl⟩ := ho
    rw [Nat.add_sub_cancel_left] at hd
    simp only [z_stp] at hs
    cases hs
    simp only [Nat.sub_self, Nat.add_zero] at k
    exact lv_bipush hx hb hd rfl (k H locs ls hS hl)
  | sipush n =>
    simp only [z_oki, decide_eq_true_eq] at ho
    obtain ⟨rfl, rfl⟩ := ho
    rw [Nat.add_sub_cancel_left] at hd
    simp only [z_stp] at hs
    cases hs
    simp only [Nat.sub_self, Nat.add_zero] at k
    exact lv_sipush hx hb hd rfl (k H locs ls hS hl)
  | lconst n =>
    simp only [z_oki, decide_eq_true_eq] at ho
    obtain ⟨rfl, rfl⟩ := ho
    rw [Nat.add_sub_cancel_left] at hd
    simp only [z_stp] at hs
    cases hs
    simp only [Nat.sub_self, Nat.add_zero] at k
    exact lv_lconst hx hb hd rfl (k H locs ls hS hl)
  | ldc i =>
    simp only [z_oki, Bool.and_eq_true, Bool.or_eq_true, decide_eq_true_eq] at ho
    obtain ⟨rfl, ho⟩ := ho
    rw [Nat.add_sub_cancel_left] at hd
    simp only [z_stp] at hs
    cases hs
    simp only [Nat.sub_self, Nat.add_zero] at k
    have k := k H locs ls hS hl
    rcases ho with ⟨ho, hi⟩ | ⟨-, hoc, h1, h2, h3, rfl⟩
    · cases v with
      | int x => exact lv_ldc hx hb hown (hts _ (z_linkKi ho)) hd k
      | _ => cases hi
    · obtain ⟨adK, adV, g1, g2, g3⟩ := henv.2.2.2.2.2.2.2.2.2
      obtain ⟨n, hn, rfl⟩ : ∃ n, n < 14 ∧ i = 82 + 2 * n := ⟨(i - 82) / 2, by omega, by omega⟩
      have e1 : (82 + 2 * n - 82) / 2 = n := by omega
      rw [e1] at k
      obtain ⟨q, hq, hq2⟩ : ∃ q, z_sr[n]? = some q ∧ q.1 = 82 + 2 * n := by
        have := z_sr_ok n hn
        exact this
      have hr := g3 n q hq
      rw [hq2] at hr
      have e2 : z_rv G (.ref (1000 + n)) = .ref (adK n) := by rw [z_rv_hi (z_hi1 n)]; exact (g1 n hn).1
      rw [List.map_cons, e2] at k
      rw [hoc] at hown
      exact va_ldcS hx hb hown hr hd k
  | ldc_w i =>
    simp only [z_oki, Bool.and_eq_true, decide_eq_true_eq] at ho
    obtain ⟨rfl, ho⟩ := ho
    rw [Nat.add_sub_cancel_left] at hd
    simp only [z_stp] at hs
    cases hs
    simp only [Nat.sub_self, Nat.add_zero] at k
    have k := k H locs ls hS hl
    obtain ⟨ho, hi⟩ := ho
    cases v with
    | int x => exact lv_ldcw hx hb hown (hts _ (z_linkKi ho)) hd k
    | _ => cases hi
  | ldc2_w i =>
    simp only [z_oki, Bool.and_eq_true, decide_eq_true_eq] at ho
    obtain ⟨rfl, ho⟩ := ho
    rw [Nat.add_sub_cancel_left] at hd
    simp only [z_stp] at hs
    cases hs
    simp only [Nat.sub_self, Nat.add_zero] at k
    have k := k H locs ls hS hl
    obtain ⟨ho, hi⟩ := ho
    cases v with
    | long x => exact lv_ldc2 hx hb hown (hts _ (z_linkKl ho)) hd k
    | _ => cases hi
  | aconst_null =>
    simp only [z_oki, decide_eq_true_eq] at ho
    subst ho
    rw [Nat.add_sub_cancel_left] at hd
    simp only [z_stp] at hs
    cases hs
    simp only [Nat.sub_self, Nat.add_zero] at k
    exact lv_null hx hb hd (k H locs ls hS hl)
  | iload i =>
    simp only [z_oki, decide_eq_true_eq] at ho
    obtain ⟨rfl, rfl⟩ := ho
    rw [Nat.add_sub_cancel_left] at hd
    simp only [z_stp] at hs
    split at hs
    · next x hv =>
      cases hs
      simp only [Nat.sub_self, Nat.add_zero] at k
      exact lv_iload hx hb hd (hl.2.2 _ _ hv (fun q => by simp)) (k H locs ls hS hl)
    · cases hs
  | iload_n i =>
    simp only [z_oki, decide_eq_true_eq] at ho
    obtain ⟨rfl, rfl⟩ := ho
    rw [Nat.add_sub_cancel_left] at hd
    simp only [z_stp] at hs
    split at hs
    · next x hv =>
      cases hs
      simp only [Nat.sub_self, Nat.add_zero] at k
      exact lv_iload_n hx hb hd rfl (hl.2.2 _ _ hv (fun q => by simp)) (k H locs ls hS hl)
    · cases hs
  | lload i =>
    simp only [z_oki, decide_eq_true_eq] at ho
    obtain ⟨rfl, rfl⟩ := ho
    rw [Nat.add_sub_cancel_left] at hd
    simp only [z_stp] at hs
    split at hs
    · next x hv =>
      cases hs
      simp only [Nat.sub_self, Nat.add_zero] at k
      exact lv_lload hx hb hd (hl.2.2 _ _ hv (fun q => by simp)) (k H locs ls hS hl)
    · cases hs
  | lload_n i =>
    simp only [z_oki, decide_eq_true_eq] at ho
    obtain ⟨rfl, rfl⟩ := ho
    rw [Nat.add_sub_cancel_left] at hd
    simp only [z_stp] at hs
    split at hs
    · next x hv =>
      cases hs
      simp only [Nat.sub_self, Nat.add_zero] at k
      exact lv_lload_n hx hb hd rfl (hl.2.2 _ _ hv (fun q => by simp)) (k H locs ls hS hl)
    · cases hs
  | aload i =>
    simp only [z_oki, decide_eq_true_eq] at ho
    obtain ⟨rfl, rfl⟩ := ho
    rw [Nat.add_sub_cancel_left] at hd
    simp only [z_stp] at hs
    split at hs
    · next x hv =>
      cases hs
      simp only [Nat.sub_self, Nat.add_zero] at k
      have hv := hl.2.2 _ _ hv (fun q => by simp)
      have k := k H locs ls hS hl
      rw [List.map_cons] at k
      rcases z_rv_ref hE x with hz | ⟨q, hz⟩
      · rw [hz] at hv k
        exact lv_aloadN hx hb hd hv k
      · rw [hz] at hv k
        exact lv_aload hx hb hd hv k
    · next hv =>
      cases hs
      simp only [Nat.sub_self, Nat.add_zero] at k
      exact lv_aloadN hx hb hd (hl.2.2 _ _ hv (fun q => by simp)) (k H locs ls hS hl)
    · cases hs
  | aload_n i =>
    simp only [z_oki, decide_eq_true_eq] at ho
    obtain ⟨rfl, rfl⟩ := ho
    rw [Nat.add_sub_cancel_left] at hd
    simp only [z_stp] at hs
    split at hs
    · next x hv =>
      cases hs
      simp only [Nat.sub_self, Nat.add_zero] at k
      have hv := hl.2.2 _ _ hv (fun q => by simp)
      have k := k H locs ls hS hl
      rw [List.map_cons] at k
      rcases z_rv_ref hE x with hz | ⟨q, hz⟩
      · rw [hz] at hv k
        exact lv_aload_nN hx hb hd rfl hv k
      · rw [hz] at hv k
        exact lv_aload_n hx hb hd rfl hv k
    · next hv =>
      cases hs
      simp only [Nat.sub_self, Nat.add_zero] at k
      exact lv_aload_nN hx hb hd rfl (hl.2.2 _ _ hv (fun q => by simp)) (k H locs ls hS hl)
    · cases hs
  | istore i =>
    simp only [z_oki, decide_eq_true_eq] at ho
    obtain ⟨rfl, rfl, hn⟩ := ho
    rw [Nat.add_sub_cancel_left] at hd
    simp only [z_stp] at hs
    split at hs
    · next x r =>
      split at hs
      · next L2 hL2 =>
        cases hs
        simp only [Nat.sub_self, Nat.add_zero] at k
        exact lv_istore hx hb hd hl.has hn rfl (fun ls2 hl2 => k H locs ls2 hS (z_lr_st1 hE hl.1 hl.2.2 hL2 hl2))
      · cases hs
    · cases hs
  | istore_n i =>
    simp only [z_oki, decide_eq_true_eq] at ho
    obtain ⟨rfl, rfl, hn⟩ := ho
    rw [Nat.add_sub_cancel_left] at hd
    simp only [z_stp] at hs
    split at hs
    · next x r =>
      split at hs
      · next L2 hL2 =>
        cases hs
        simp only [Nat.sub_self, Nat.add_zero] at k
        exact lv_istore_n hx hb hd rfl hl.has hn rfl (fun ls2 hl2 => k H locs ls2 hS (z_lr_st1 hE hl.1 hl.2.2 hL2 hl2))
      · cases hs
    · cases hs
  | lstore i =>
    simp only [z_oki, decide_eq_true_eq] at ho
    obtain ⟨rfl, rfl, hn⟩ := ho
    rw [Nat.add_sub_cancel_left] at hd
    simp only [z_stp] at hs
    split at hs
    · next x r =>
      split at hs
      · next L2 hL2 =>
        cases hs
        simp only [Nat.sub_self, Nat.add_zero] at k
        exact lv_lstore hx hb hd hl.has hn rfl (fun ls2 hl2 => k H locs ls2 hS (z_lr_st2 hE hl.1 hl.2.2 hL2 hl2))
      · cases hs
    · cases hs
  | lstore_n i =>
    simp only [z_oki, decide_eq_true_eq] at ho
    obtain ⟨rfl, rfl, hn⟩ := ho
    rw [Nat.add_sub_cancel_left] at hd
    simp only [z_stp] at hs
    split at hs
    · next x r =>
      split at hs
      · next L2 hL2 =>
        cases hs
        simp only [Nat.sub_self, Nat.add_zero] at k
        exact lv_lstore_n hx hb hd rfl hl.has hn rfl (fun ls2 hl2 => k H locs ls2 hS (z_lr_st2 hE hl.1 hl.2.2 hL2 hl2))
      · cases hs
    · cases hs
  | astore i =>
    simp only [z_oki, decide_eq_true_eq] at ho
    obtain ⟨rfl, rfl, hn⟩ := ho
    rw [Nat.add_sub_cancel_left] at hd
    simp only [z_stp] at hs
    split at hs
    · next x r =>
      split at hs
      · next L2 hL2 =>
        cases hs
        simp only [Nat.sub_self, Nat.add_zero] at k
        rw [List.map_cons]
        rcases z_rv_ref hE x with hz | ⟨q, hz⟩
        · rw [hz]
          exact lv_astoreN hx hb hd hl.has hn rfl (fun ls2 hl2 => k H locs ls2 hS (z_lr_st1 hE hl.1 hl.2.2 hL2 (by rw [hz]; exact hl2)))
        · rw [hz]
          exact lv_astore hx hb hd hl.has hn rfl (fun ls2 hl2 => k H locs ls2 hS (z_lr_st1 hE hl.1 hl.2.2 hL2 (by rw [hz]; exact hl2)))
      · cases hs
    · next r =>
      split at hs
      · next L2 hL2 =>
        cases hs
        simp only [Nat.sub_self, Nat.add_zero] at k
        exact lv_astoreN hx hb hd hl.has hn rfl (fun ls2 hl2 => k H locs ls2 hS (z_lr_st1 hE hl.1 hl.2.2 hL2 hl2))
      · cases hs
    · cases hs
  | astore_n i =>
    simp only [z_oki, decide_eq_true_eq] at ho
    obtain ⟨rfl, rfl, hn⟩ := ho
    rw [Nat.add_sub_cancel_left] at hd
    simp only [z_stp] at hs
    split at hs
    · next x r =>
      split at hs
      · next L2 hL2 =>
        cases hs
        simp only [Nat.sub_self, Nat.add_zero] at k
        rw [List.map_cons]
        rcases z_rv_ref hE x with hz | ⟨q, hz⟩
        · rw [hz]
          exact lv_astore_nN hx hb hd rfl hl.has hn rfl (fun ls2 hl2 => k H locs ls2 hS (z_lr_st1 hE hl.1 hl.2.2 hL2 (by rw [hz]; exact hl2)))
        · rw [hz]
          exact lv_astore_n hx hb hd rfl hl.has hn rfl (fun ls2 hl2 => k H locs ls2 hS (z_lr_st1 hE hl.1 hl.2.2 hL2 (by rw [hz]; exact hl2)))
      · cases hs
    · next r =>
      split at hs
      · next L2 hL2 =>
        cases hs
        simp only [Nat.sub_self, Nat.add_zero] at k
        exact lv_astore_nN hx hb hd rfl hl.has hn rfl (fun ls2 hl2 => k H locs ls2 hS (z_lr_st1 hE hl.1 hl.2.2 hL2 hl2))
      · cases hs
    · cases hs
  | iinc i n =>
    simp only [z_oki, decide_eq_true_eq] at ho
    obtain ⟨rfl, rfl, hn, rfl⟩ := ho
    rw [Nat.add_sub_cancel_left] at hd
    simp only [z_stp] at hs
    split at hs
    · next x cc hv hcc =>
      split at hs
      · next L2 hL2 =>
        cases hs
        cases hcc
        simp only [Nat.sub_self, Nat.add_zero] at k
        obtain ⟨kk, hkk⟩ := List.mem_iff_getElem?.mp (z_lvs_in (G := G) hn hv (fun q => by simp))
        exact lv_iinc hx hb hd hl.has hkk rfl hn rfl (fun ls2 hl2 => k H locs ls2 hS (z_lr_st1 hE hl.1 hl.2.2 hL2 hl2))
      · cases hs
    · cases hs
  | dup =>
    simp only [z_oki, decide_eq_true_eq] at ho
    subst ho
    rw [Nat.add_sub_cancel_left] at hd
    simp only [z_stp] at hs
    split at hs
    · cases hs
      simp only [Nat.sub_self, Nat.add_zero] at k
      exact lv_dup hx hb hd rfl (k H locs ls hS hl)
    · next x r =>
      cases hs
      simp only [Nat.sub_self, Nat.add_zero] at k
      exact lv_dup hx hb hd (by rw [z_rv_cat hE]; rfl) (k H locs ls hS hl)
    · cases hs
  | pop =>
    simp only [z_oki, decide_eq_true_eq] at ho
    subst ho
    rw [Nat.add_sub_cancel_left] at hd
    simp only [z_stp] at hs
    split at hs
    · cases hs
      simp only [Nat.sub_self, Nat.add_zero] at k
      exact lv_pop hx hb hd rfl (k H locs ls hS hl)
    · next x r =>
      cases hs
      simp only [Nat.sub_self, Nat.add_zero] at k
      exact lv_pop hx hb hd (by rw [z_rv_cat hE]; rfl) (k H locs ls hS hl)
    · cases hs
  | dup2 =>
    simp only [z_oki, decide_eq_true_eq] at ho
    subst ho
    rw [Nat.add_sub_cancel_left] at hd
    simp only [z_stp] at hs
    split at hs
    · cases hs
      simp only [Nat.sub_self, Nat.add_zero] at k
      exact lv_dup2_11 hx hb hd rfl (by rw [z_rv_cat hE]; rfl) (k H locs ls hS hl)
    · cases hs
  | iadd =>
    simp only [z_oki, decide_eq_true_eq] at ho
    subst ho
    rw [Nat.add_sub_cancel_left] at hd
    simp only [z_stp] at hs
    split at hs
    · cases hs
      simp only [Nat.sub_self, Nat.add_zero] at k
      exact lv_iadd hx hb hd (k H locs ls hS hl)
    · cases hs
  | isub =>
    simp only [z_oki, decide_eq_true_eq] at ho
    subst ho
    rw [Nat.add_sub_cancel_left] at hd
    simp only [z_stp] at hs
    split at hs
    · cases hs
      simp only [Nat.sub_self, Nat.add_zero] at k
      exact lv_isub hx hb hd (k H locs ls hS hl)
    · cases hs
  | imul =>
    simp only [z_oki, decide_eq_true_eq] at ho
    subst ho
    rw [Nat.add_sub_cancel_left] at hd
    simp only [z_stp] at hs
    split at hs
    · cases hs
      simp only [Nat.sub_self, Nat.add_zero] at k
      exact lv_imul hx hb hd (k H locs ls hS hl)
    · cases hs
  | iand =>
    simp only [z_oki, decide_eq_true_eq] at ho
    subst ho
    rw [Nat.add_sub_cancel_left] at hd
    simp only [z_stp] at hs
    split at hs
    · cases hs
      simp only [Nat.sub_self, Nat.add_zero] at k
      exact lv_iand hx hb hd (k H locs ls hS hl)
    · cases hs
  | ior =>
    simp only [z_oki, decide_eq_true_eq] at ho
    subst ho
    rw [Nat.add_sub_cancel_left] at hd
    simp only [z_stp] at hs
    split at hs
    · cases hs
      simp only [Nat.sub_self, Nat.add_zero] at k
      exact lv_ior hx hb hd (k H locs ls hS hl)
    · cases hs
  | ixor =>
    simp only [z_oki, decide_eq_true_eq] at ho
    subst ho
    rw [Nat.add_sub_cancel_left] at hd
    simp only [z_stp] at hs
    split at hs
    · cases hs
      simp only [Nat.sub_self, Nat.add_zero] at k
      exact lv_ixor hx hb hd (k H locs ls hS hl)
    · cases hs
  | ishl =>
    simp only [z_oki, decide_eq_true_eq] at ho
    subst ho
    rw [Nat.add_sub_cancel_left] at hd
    simp only [z_stp] at hs
    split at hs
    · cases hs
      simp only [Nat.sub_self, Nat.add_zero] at k
      exact lv_ishl hx hb hd (k H locs ls hS hl)
    · cases hs
  | ishr =>
    simp only [z_oki, decide_eq_true_eq] at ho
    subst ho
    rw [Nat.add_sub_cancel_left] at hd
    simp only [z_stp] at hs
    split at hs
    · cases hs
      simp only [Nat.sub_self, Nat.add_zero] at k
      exact lv_ishr hx hb hd (k H locs ls hS hl)
    · cases hs
  | land =>
    simp only [z_oki, decide_eq_true_eq] at ho
    subst ho
    rw [Nat.add_sub_cancel_left] at hd
    simp only [z_stp] at hs
    split at hs
    · cases hs
      simp only [Nat.sub_self, Nat.add_zero] at k
      exact lv_land hx hb hd (k H locs ls hS hl)
    · cases hs
  | lor =>
    simp only [z_oki, decide_eq_true_eq] at ho
    subst ho
    rw [Nat.add_sub_cancel_left] at hd
    simp only [z_stp] at hs
    split at hs
    · cases hs
      simp only [Nat.sub_self, Nat.add_zero] at k
      exact lv_lor hx hb hd (k H locs ls hS hl)
    · cases hs
  | lcmp =>
    simp only [z_oki, decide_eq_true_eq] at ho
    subst ho
    rw [Nat.add_sub_cancel_left] at hd
    simp only [z_stp] at hs
    split at hs
    · cases hs
      simp only [Nat.sub_self, Nat.add_zero] at k
      exact W.lcmp hx hb hd (k H locs ls hS hl)
    · cases hs
  | iushr =>
    simp only [z_oki, decide_eq_true_eq] at ho
    subst ho
    rw [Nat.add_sub_cancel_left] at hd
    simp only [z_stp] at hs
    split at hs
    · cases hs
      simp only [Nat.sub_self, Nat.add_zero] at k
      exact lv_iushr hx hb hd rfl (k H locs ls hS hl)
    · cases hs
  | lshl =>
    simp only [z_oki, decide_eq_true_eq] at ho
    subst ho
    rw [Nat.add_sub_cancel_left] at hd
    simp only [z_stp] at hs
    split at hs
    · cases hs
      simp only [Nat.sub_self, Nat.add_zero] at k
      exact lv_lshl hx hb hd rfl (k H locs ls hS hl)
    · cases hs
  | i2l =>
    simp only [z_oki, decide_eq_true_eq] at ho
    subst ho
    rw [Nat.add_sub_cancel_left] at hd
    simp only [z_stp] at hs
    split at hs
    · cases hs
      simp only [Nat.sub_self, Nat.add_zero] at k
      exact lv_i2l hx hb hd rfl (k H locs ls hS hl)
    · cases hs
  | l2i =>
    simp only [z_oki, decide_eq_true_eq] at ho
    subst ho
    rw [Nat.add_sub_cancel_left] at hd
    simp only [z_stp] at hs
    split at hs
    · cases hs
      simp only [Nat.sub_self, Nat.add_zero] at k
      exact lv_l2i hx hb hd rfl (k H locs ls hS hl)
    · cases hs
  | i2b =>
    simp only [z_oki, decide_eq_true_eq] at ho
    subst ho
    rw [Nat.add_sub_cancel_left] at hd
    simp only [z_stp] at hs
    split at hs
    · cases hs
      simp only [Nat.sub_self, Nat.add_zero] at k
      exact lv_i2b hx hb hd rfl (k H locs ls hS hl)
    · cases hs
  | i2s =>
    simp only [z_oki, decide_eq_true_eq] at ho
    subst ho
    rw [Nat.add_sub_cancel_left] at hd
    simp only [z_stp] at hs
    split at hs
    · cases hs
      simp only [Nat.sub_self, Nat.add_zero] at k
      exact lv_i2s hx hb hd rfl (k H locs ls hS hl)
    · cases hs
  | i2c =>
    simp only [z_oki, decide_eq_true_eq] at ho
    subst ho
    rw [Nat.add_sub_cancel_left] at hd
    simp only [z_stp] at hs
    split at hs
    · cases hs
      simp only [Nat.sub_self, Nat.add_zero] at k
      exact lv_i2c hx hb hd rfl (k H locs ls hS hl)
    · cases hs
  | idiv =>
    simp only [z_oki, decide_eq_true_eq] at ho
    subst ho
    rw [Nat.add_sub_cancel_left] at hd
    simp only [z_stp] at hs
    split at hs
    · split at hs
      · cases hs
      · next hne =>
        cases hs
        simp only [Nat.sub_self, Nat.add_zero] at k
        exact lv_idiv hx hb hd hne (k H locs ls hS hl)
    · cases hs
  | ifCond cc off =>
    simp only [z_oki, decide_eq_true_eq] at ho
    obtain ⟨rfl, ht⟩ := ho
    rw [Nat.add_sub_cancel_left] at hd
    cases cc with
    | eq =>
      simp only [z_stp] at hs
      split at hs
      · split at hs
        · next hc =>
          cases hs
          simp only [Nat.sub_self, Nat.add_zero] at k
          exact lv_if_eq hx hb hd ht (fun _ => k H locs ls hS hl) (fun hn => absurd hc hn)
        · next hc =>
          cases hs
          simp only [Nat.sub_self, Nat.add_zero] at k
          exact lv_if_eq hx hb hd ht (fun hn => absurd hn hc) (fun _ => k H locs ls hS hl)
      · cases hs
    | ne =>
      simp only [z_stp] at hs
      split at hs
      · split at hs
        · next hc =>
          cases hs
          simp only [Nat.sub_self, Nat.add_zero] at k
          exact lv_if_ne hx hb hd ht (fun _ => k H locs ls hS hl) (fun hn => absurd hn hc)
        · next hc =>
          cases hs
          simp only [Nat.sub_self, Nat.add_zero] at k
          exact lv_if_ne hx hb hd ht (fun hn => absurd hn hc) (fun _ => k H locs ls hS hl)
      · cases hs
    | lt =>
      simp only [z_stp] at hs
      split at hs
      · split at hs
        · next hc =>
          cases hs
          simp only [Nat.sub_self, Nat.add_zero] at k
          exact lv_if_lt hx hb hd ht (fun _ => k H locs ls hS hl) (fun hn => absurd hc hn)
        · next hc =>
          cases hs
          simp only [Nat.sub_self, Nat.add_zero] at k
          exact lv_if_lt hx hb hd ht (fun hn => absurd hn hc) (fun _ => k H locs ls hS hl)
      · cases hs
    | ge =>
      simp only [z_stp] at hs
      split at hs
      · split at hs
        · next hc =>
          cases hs
          simp only [Nat.sub_self, Nat.add_zero] at k
          exact lv_if_ge hx hb hd ht (fun _ => k H locs ls hS hl) (fun hn => absurd hc hn)
        · next hc =>
          cases hs
          simp only [Nat.sub_self, Nat.add_zero] at k
          exact lv_if_ge hx hb hd ht (fun hn => absurd hn hc) (fun _ => k H locs ls hS hl)
      · cases hs
    | gt =>
      simp only [z_stp] at hs
      split at hs
      · split at hs
        · next hc =>
          cases hs
          simp only [Nat.sub_self, Nat.add_zero] at k
          exact lv_if_gt hx hb hd ht (fun _ => k H locs ls hS hl) (fun hn => absurd hc hn)
        · next hc =>
          cases hs
          simp only [Nat.sub_self, Nat.add_zero] at k
          exact lv_if_gt hx hb hd ht (fun hn => absurd hn hc) (fun _ => k H locs ls hS hl)
      · cases hs
    | le =>
      simp only [z_stp] at hs
      split at hs
      · split at hs
        · next hc =>
          cases hs
          simp only [Nat.sub_self, Nat.add_zero] at k
          exact lv_if_le hx hb hd ht (fun _ => k H locs ls hS hl) (fun hn => absurd hc hn)
        · next hc =>
          cases hs
          simp only [Nat.sub_self, Nat.add_zero] at k
          exact lv_if_le hx hb hd ht (fun hn => absurd hn hc) (fun _ => k H locs ls hS hl)
      · cases hs
  | if_icmp cc off =>
    simp only [z_oki, decide_eq_true_eq] at ho
    obtain ⟨rfl, ht⟩ := ho
    rw [Nat.add_sub_cancel_left] at hd
    cases cc with
    | eq =>
      simp only [z_stp] at hs
      split at hs
      · split at hs
        · next hc =>
          cases hs
          simp only [Nat.sub_self, Nat.add_zero] at k
          exact lv_icmp_eq hx hb hd ht (fun _ => k H locs ls hS hl) (fun hn => absurd hc hn)
        · next hc =>
          cases hs
          simp only [Nat.sub_self, Nat.add_zero] at k
          exact lv_icmp_eq hx hb hd ht (fun hn => absurd hn hc) (fun _ => k H locs ls hS hl)
      · cases hs
    | ne =>
      simp only [z_stp] at hs
      split at hs
      · split at hs
        · next hc =>
          cases hs
          simp only [Nat.sub_self, Nat.add_zero] at k
          exact lv_icmp_ne hx hb hd ht (fun _ => k H locs ls hS hl) (fun hn => absurd hn hc)
        · next hc =>
          cases hs
          simp only [Nat.sub_self, Nat.add_zero] at k
          exact lv_icmp_ne hx hb hd ht (fun hn => absurd hn hc) (fun _ => k H locs ls hS hl)
      · cases hs
    | lt =>
      simp only [z_stp] at hs
      split at hs
      · split at hs
        · next hc =>
          cases hs
          simp only [Nat.sub_self, Nat.add_zero] at k
          exact lv_icmp_lt hx hb hd ht (fun _ => k H locs ls hS hl) (fun hn => absurd hc hn)
        · next hc =>
          cases hs
          simp only [Nat.sub_self, Nat.add_zero] at k
          exact lv_icmp_lt hx hb hd ht (fun hn => absurd hn hc) (fun _ => k H locs ls hS hl)
      · cases hs
    | ge =>
      simp only [z_stp] at hs
      split at hs
      · split at hs
        · next hc =>
          cases hs
          simp only [Nat.sub_self, Nat.add_zero] at k
          exact lv_icmp_ge hx hb hd ht (fun _ => k H locs ls hS hl) (fun hn => absurd hc hn)
        · next hc =>
          cases hs
          simp only [Nat.sub_self, Nat.add_zero] at k
          exact lv_icmp_ge hx hb hd ht (fun hn => absurd hn hc) (fun _ => k H locs ls hS hl)
      · cases hs
    | gt =>
      simp only [z_stp] at hs
      split at hs
      · split at hs
        · next hc =>
          cases hs
          simp only [Nat.sub_self, Nat.add_zero] at k
          exact lv_icmp_gt hx hb hd ht (fun _ => k H locs ls hS hl) (fun hn => absurd hc hn)
        · next hc =>
          cases hs
          simp only [Nat.sub_self, Nat.add_zero] at k
          exact lv_icmp_gt hx hb hd ht (fun hn => absurd hn hc) (fun _ => k H locs ls hS hl)
      · cases hs
    | le =>
      simp only [z_stp] at hs
      split at hs
      · split at hs
        · next hc =>
          cases hs
          simp only [Nat.sub_self, Nat.add_zero] at k
          exact lv_icmp_le hx hb hd ht (fun _ => k H locs ls hS hl) (fun hn => absurd hc hn)
        · next hc =>
          cases hs
          simp only [Nat.sub_self, Nat.add_zero] at k
          exact lv_icmp_le hx hb hd ht (fun hn => absurd hn hc) (fun _ => k H locs ls hS hl)
      · cases hs
  | ifnull off =>
    simp only [z_oki, decide_eq_true_eq] at ho
    obtain ⟨rfl, ht⟩ := ho
    rw [Nat.add_sub_cancel_left] at hd
    simp only [z_stp] at hs
    split at hs
    · cases hs
      simp only [Nat.sub_self, Nat.add_zero] at k
      exact lv_ifnullN hx hb hd ht (k H locs ls hS hl)
    · next x r =>
      cases hlt : Nat.blt x 1000 with
      | false => rw [hlt] at hs; cases hs
      | true =>
        rw [hlt] at hs
        replace hlt : x < 1000 := Nat.blt_eq.mp hlt
        cases hs
        simp only [Nat.sub_self, Nat.add_zero] at k
        rw [List.map_cons, z_rv_low hlt]
        exact lv_ifnull hx hb hd (k H locs ls hS hl)
    · cases hs
  | ifnonnull off =>
    simp only [z_oki, decide_eq_true_eq] at ho
    obtain ⟨rfl, ht⟩ := ho
    rw [Nat.add_sub_cancel_left] at hd
    simp only [z_stp] at hs
    split at hs
    · cases hs
      simp only [Nat.sub_self, Nat.add_zero] at k
      exact lv_ifnonnullN hx hb hd (k H locs ls hS hl)
    · next x r =>
      cases hlt : Nat.blt x 1000 with
      | false => rw [hlt] at hs; cases hs
      | true =>
        rw [hlt] at hs
        replace hlt : x < 1000 := Nat.blt_eq.mp hlt
        cases hs
        simp only [Nat.sub_self, Nat.add_zero] at k
        rw [List.map_cons, z_rv_low hlt]
        exact lv_ifnonnull hx hb hd ht (k H locs ls hS hl)
    · cases hs
  | goto off =>
    simp only [z_oki, decide_eq_true_eq] at ho
    obtain ⟨rfl, ht⟩ := ho
    rw [Nat.add_sub_cancel_left] at hd
    simp only [z_stp] at hs
    cases hs
    simp only [Nat.sub_self, Nat.add_zero] at k
    exact lv_goto hx hb hd ht (k H locs ls hS hl)
  | tableswitch d lo hi offs =>
    simp only [z_oki, Bool.and_eq_true, decide_eq_true_eq] at ho
    obtain ⟨⟨h0, hsz⟩, hall⟩ := ho
    simp only [z_stp] at hs
    split at hs
    · next x r =>
      cases hs
      simp only [Nat.sub_self, Nat.add_zero] at k
      have k := k H locs ls hS hl
      by_cases ho : x.toInt < lo ∨ hi < x.toInt
      · rw [z_tsw, if_pos ho] at k
        exact lv_tableOut hx hb hd ho (by omega) k
      · rw [z_tsw, if_neg ho] at k
        have h1 : ¬ x.toInt < lo := fun q => ho (Or.inl q)
        have h2 : ¬ hi < x.toInt := fun q => ho (Or.inr q)
        have hlt : (x.toInt - lo).toNat < offs.size := by omega
        have hget : offs[(x.toInt - lo).toNat]? = some offs[(x.toInt - lo).toNat] := Array.getElem?_eq_getElem hlt
        have h3 : 0 ≤ (pc : Int) + offs[(x.toInt - lo).toNat] := by
          have := List.all_eq_true.mp hall offs[(x.toInt - lo).toNat] (Array.getElem_mem_toList hlt)
          simpa using this
        rw [hget, Option.getD_some] at k
        exact lv_tableIn hx hb hd h1 h2 hget (by omega) k
    · cases hs
  | _ =>
    simp only [z_stp] at hs
    split at hs
    · next st2 h2 hh =>
      cases hs
      exact z_hop cx0 hj he hh hS hl hcl hsl k
    · cases hs

end SND
