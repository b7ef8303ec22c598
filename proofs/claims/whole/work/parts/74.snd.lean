/-! The small machine and the machine: what a heap of the one is in the other. -/
abbrev zG : Type := Nat × va_G × (Nat → ClassId) × (Nat → Value)
def z_rv (G : zG) (v : Value) : Value := match v with
  | .ref k => if k < 1000 then .ref (G.1 + k) else G.2.2.2 k
  | .int x => .int x
  | .long x => .long x
  | .float x => .float x
  | .double x => .double x
  | .null => .null
  | .retAddr p => .retAddr p
def z_cv (G : zG) (c : zC) : va_E := match c with
  | .inl (n, .inl f) => .inl (G.2.2.1 0, n, .inl f)
  | .inl (n, .inr (.inl f)) => .inl (G.2.2.1 1, n, .inr (.inl f))
  | .inl (n, .inr (.inr f)) => .inl (G.2.2.1 2, n, .inr (.inr (.inr (.inr (fun i => (f i).map (fun k => G.1 + k))))))
  | .inr (ci, fs) => .inr (ci, fs.map (z_rv G))
def z_ws (G : zG) (h : zH) : va_W := h.mapIdx (fun k c => (G.1 + k, z_cv G c))
theorem z_ws_at (G : zG) (h : zH) (k : Nat) : (z_ws G h)[k]? = (h[k]?).map (fun c => (G.1 + k, z_cv G c)) := by
  simp [z_ws, List.getElem?_mapIdx]
theorem z_ws_of {G : zG} {h : zH} {k : Nat} {c : zC} (hk : h[k]? = some c) : (z_ws G h)[k]? = some (G.1 + k, z_cv G c) := by
  rw [z_ws_at, hk]; rfl
theorem z_ws_len (G : zG) (h : zH) : (z_ws G h).length = h.length := by simp [z_ws]
theorem z_ws_set (G : zG) (h : zH) (k : Nat) (c : zC) : z_ws G (h.set k c) = (z_ws G h).set k (G.1 + k, z_cv G c) := by
  apply List.ext_getElem?
  intro i
  rw [z_ws_at, List.getElem?_set, List.getElem?_set, z_ws_at, z_ws_len]
  by_cases hi : k = i
  · subst hi
    by_cases hl : k < h.length
    · simp [hl]
    · simp [hl]
  · simp [hi]
theorem z_ws_push (G : zG) (h : zH) (c : zC) : z_ws G (h ++ [c]) = z_ws G h ++ [(G.1 + h.length, z_cv G c)] := by
  simp [z_ws, List.mapIdx_append]
def z_A (G : zG) : Nat → Prop := fun q => G.1 ≤ q
theorem z_ws_D (G : zG) (h : zH) : va_D (z_A G) (z_ws G h) := by
  refine ⟨fun i j p q hi hj e => ?_, fun k q hk => ?_⟩
  · rw [z_ws_at] at hi hj
    obtain ⟨c, -, rfl⟩ := Option.map_eq_some_iff.mp hi
    obtain ⟨d, -, rfl⟩ := Option.map_eq_some_iff.mp hj
    dsimp only at e
    omega
  · rw [z_ws_at] at hk
    obtain ⟨c, -, rfl⟩ := Option.map_eq_some_iff.mp hk
    show G.1 ≤ G.1 + k
    omega
def z_tys (G : zG) : List (ClassId × FieldType) := [(G.2.2.1 0, .int), (G.2.2.1 1, .long), (G.2.2.1 2, .object "AnchorString$Sheet")]
def z_wl : List Nat := z_wd.map List.length
def z_sr : List (Nat × String × Nat) := [(82, "ship", 586), (84, "tall", 587), (86, "towed", 588), (88, "dragging", 589), (90, "burning", 590), (92, "smuggler", 591), (94, "size", 592), (96, "bears", 593), (98, "worn", 594), (100, "on", 595), (102, "at", 596), (104, "anchor", 597), (106, "hang", 598), (108, "odds", 599)]
/-- what stands below the heap: the classes, the links of nest mates, statics, the table, the script, the words -/
def zEnv (G : zG) (X : Nat × (Nat → Int32)) (U : State) (H : Heap) : Prop :=
  va_K G.2.1 z_cl (z_tys G) U ∧ va_AO "AnchorString$Sheet" U ∧ (∀ q ∈ z_lN, va_Nw (.methodLinkNest (z_cn q.1) q.2.1 (z_y q.2.2.1) "AnchorString") U) ∧
  (∀ k, G.2.2.2 k = .null ∨ ∃ a, G.2.2.2 k = .ref a) ∧
  va_Z "AnchorString" "KIND_ABOVE" "[I" (G.2.2.2 3000) (z_A G) U H ∧ va_Z "java/lang/String" "COMPACT_STRINGS" "Z" (.int 1) (z_A G) U H ∧ va_Z "jdk/internal/util/Preconditions" "SIOOBE_FORMATTER" "Ljava/util/function/BiFunction;" (G.2.2.2 3002) (z_A G) U H ∧
  (∃ t, G.2.2.2 3000 = .ref t ∧ va_T .int t 6 (fun j => .int (z_ka.getD j 0)) (z_A G) U H) ∧
  (∃ b, G.2.2.2 3001 = .ref b ∧ va_X b X.1 X.2 U H ∧ b < H.size ∧ ¬ z_A G b) ∧
  ∃ adK adV : Nat → Nat, (∀ i, i < 14 → G.2.2.2 (1000 + i) = .ref (adK i) ∧ G.2.2.2 (2000 + i) = .ref (adV i)) ∧ vk_S 14 z_wl z_wd adK adV (z_A G) U H ∧
    ∀ i q, z_sr[i]? = some q → vk_R "AnchorString$Tape" q.1 q.2.1 (adK i) U
theorem zEnv.mv {G : zG} {X : Nat × (Nat → Int32)} {u U : State} {H H1 : Heap} (h : zEnv G X u H) (ha : u.vm.Alike U.vm) (hN : ∀ (a : String) (i : Nat) (x : MethodName) (o : String), va_Nw (.methodLinkNest a i x o) u → va_Nw (.methodLinkNest a i x o) U) (hR : ∀ (o : String) (k : Nat) (tx : String) (a : Nat), vk_R o k tx a u → vk_R o k tx a U) (hk : ∀ a : Nat, a < H.size → ¬ z_A G a → H1[a]? = H[a]?) (hle : H.size ≤ H1.size) : zEnv G X U H1 := by
  obtain ⟨h1, h2, h3, h4, h5, h6, h7, ⟨t, h8, h9⟩, ⟨b, h10, h11, h12, h13⟩, adK, adV, h14, h15, h16⟩ := h
  exact ⟨h1.moved ha, h2.moved ha, fun q hq => hN _ _ _ _ (h3 q hq), h4, (h5.moved ha).kept hk, (h6.moved ha).kept hk, (h7.moved ha).kept hk, ⟨t, h8, (h9.moved ha).kept hk⟩, ⟨b, h10, (h11.moved ha).kept (hk b h12 h13), Nat.lt_of_lt_of_le h12 hle, h13⟩, adK, adV, h14, (h15.moved ha).kept hk, fun i q hq => hR _ _ _ _ (h16 i q hq)⟩
theorem zEnv.warm {G : zG} {X : Nat × (Nat → Int32)} {s U : State} (h : zEnv G X s s.heap) (hW : s.WarmedH U.vm) (hk : ∀ a : Nat, a < s.heap.size → ¬ z_A G a → U.heap[a]? = s.heap[a]?) (hle : s.heap.size ≤ U.heap.size) : zEnv G X U U.heap :=
  h.mv hW.alike (fun _ _ _ _ hz => va_Nw.warmM hW hz) (fun _ _ _ _ hz => vk_R.warm hW hz) hk hle
theorem zEnv.blind {G : zG} {X : Nat × (Nat → Int32)} {U : State} {g : JFrame} {mk : MethodId} {a : Array Value} (h : zEnv G X U U.heap) : zEnv G X (U.calling g mk a) (U.calling g mk a).heap :=
  h.mv (Vm.Alike.refl U.vm) (fun _ _ _ _ hz => va_Nw.same rfl rfl hz) (fun _ _ _ _ hz => vk_R.same rfl hz) (fun _ _ _ => rfl) (Nat.le_refl _)
/-- what a heap of the small machine is in the machine's, cells new since s counted -/
def zSt (G : zG) (s : State) (h : zH) (H : Heap) (locs : List Loc) (cells : Nat) : Prop :=
  va_P G.2.1 z_cl (z_ws G h) H ∧ h.length ≤ 1000 ∧ va_S (z_A G) s.heap H locs ∧ G.1 + h.length = s.heap.size + cells
/-- slots -/
def z_sl (c : zC) : Nat := match c with
  | .inl (n, _) => n
  | .inr (_, fs) => fs.length
def z_us : zH → Nat
  | [] => 0
  | c :: t => z_sl c + z_us t
theorem z_us_set : ∀ (h : zH) (k : Nat) (c d : zC), h[k]? = some d → z_sl c = z_sl d → z_us (h.set k c) = z_us h
  | [], k, c, d, hk, _ => by simp at hk
  | x :: t, 0, c, d, hk, e => by
    simp at hk
    subst hk
    simp [z_us, e]
  | x :: t, k + 1, c, d, hk, e => by
    simp at hk
    simp [z_us, z_us_set t k c d hk e]
theorem z_us_push : ∀ (h : zH) (c : zC), z_us (h ++ [c]) = z_us h + z_sl c
  | [], c => by simp [z_us]
  | x :: t, c => by simp [z_us, z_us_push t c, Nat.add_assoc]
/-! values and locals -/
theorem z_rv_int (G : zG) (x : Int32) : z_rv G (.int x) = .int x := rfl
theorem z_rv_low {G : zG} {k : Nat} (h : k < 1000) : z_rv G (.ref k) = .ref (G.1 + k) := by simp [z_rv, h]
theorem z_rv_hi {G : zG} {k : Nat} (h : ¬ k < 1000) : z_rv G (.ref k) = G.2.2.2 k := by simp [z_rv, h]
theorem z_rv_ref {G : zG} (hE : ∀ k, G.2.2.2 k = .null ∨ ∃ a, G.2.2.2 k = .ref a) (k : Nat) : z_rv G (.ref k) = .null ∨ ∃ a, z_rv G (.ref k) = .ref a := by
  by_cases h : k < 1000
  · exact Or.inr ⟨_, z_rv_low h⟩
  · rw [z_rv_hi h]; exact hE k
theorem z_rv_cat {G : zG} (hE : ∀ k, G.2.2.2 k = .null ∨ ∃ a, G.2.2.2 k = .ref a) (v : Value) : (z_rv G v).category = v.category := by
  cases v with
  | ref k => rcases z_rv_ref hE k with h | ⟨a, h⟩ <;> rw [h] <;> rfl
  | _ => rfl
theorem z_sum_rv {G : zG} (hE : ∀ k, G.2.2.2 k = .null ∨ ∃ a, G.2.2.2 k = .ref a) : ∀ st : List Value, ((st.map (z_rv G)).map fun v => v.category).sum = z_sum st
  | [] => rfl
  | v :: t => by
    simp only [List.map_cons, List.sum_cons, z_sum, z_rv_cat hE]
    rw [z_sum_rv hE t]
def z_lr (G : zG) (L : zL) (ls : Array Slot) (nL : Nat) : Prop := ls.size = nL ∧ lv_wf ls ∧ ∀ k v, z_lk L k = some v → (∀ p, v ≠ .retAddr p) → ls[k]? = some (.val (z_rv G v))
def z_lvs (G : zG) (L : zL) (nL : Nat) : List (Nat × Value) := (List.range nL).filterMap (fun k => match z_lk L k with
  | some (.retAddr _) => none
  | some v => some (k, z_rv G v)
  | none => none)
theorem z_lvs_mem {G : zG} {L : zL} {nL : Nat} {q : Nat × Value} (hq : q ∈ z_lvs G L nL) : ∃ v, z_lk L q.1 = some v ∧ (∀ p, v ≠ .retAddr p) ∧ q.2 = z_rv G v := by
  obtain ⟨k, -, hk⟩ := List.mem_filterMap.mp hq
  cases hv : z_lk L k with
  | none => rw [hv] at hk; cases hk
  | some v =>
    rw [hv] at hk
    cases v <;> first | (cases hk; exact ⟨_, hv, fun p => by simp, rfl⟩) | cases hk
theorem z_lvs_in {G : zG} {L : zL} {nL k : Nat} {v : Value} (hk : k < nL) (hv : z_lk L k = some v) (hr : ∀ p, v ≠ .retAddr p) : (k, z_rv G v) ∈ z_lvs G L nL := by
  refine List.mem_filterMap.mpr ⟨k, List.mem_range.mpr hk, ?_⟩
  rw [hv]
  cases v <;> first | rfl | exact absurd rfl (hr _)
theorem z_lr.has {G : zG} {L : zL} {ls : Array Slot} {nL : Nat} (h : z_lr G L ls nL) : lv_has ls nL (z_lvs G L nL) := by
  refine ⟨h.1, h.2.1, fun q hq => ?_⟩
  obtain ⟨v, h1, h2, h3⟩ := z_lvs_mem hq
  rw [h3]
  exact h.2.2 _ _ h1 h2
theorem z_lk_cons (q : Nat × Value) (L : zL) (k : Nat) : z_lk (q :: L) k = if q.1 = k then some q.2 else z_lk L k := by
  show cond (Nat.beq q.1 k) _ _ = _
  by_cases h : q.1 = k
  · rw [if_pos h, h, Nat.beq_refl]; rfl
  · rw [if_neg h]
    have : Nat.beq q.1 k = false := by
      cases hb : Nat.beq q.1 k with
      | false => rfl
      | true => exact absurd (Nat.eq_of_beq_eq_true hb) h
    rw [this]; rfl
theorem z_lk_put : ∀ (L : zL) (a : Nat) (v : Value) (k : Nat), z_lk (z_put L a v) k = if a = k then some v else z_lk L k
  | [], a, v, k => by
    show z_lk ((a, v) :: []) k = _
    rw [z_lk_cons]
  | q :: t, a, v, k => by
    show z_lk (cond (Nat.beq q.1 a) ((a, v) :: t) (q :: z_put t a v)) k = _
    cases hb : Nat.beq q.1 a with
    | true =>
      have e := Nat.eq_of_beq_eq_true hb
      show z_lk ((a, v) :: t) k = _
      rw [z_lk_cons, z_lk_cons, e]
      by_cases h : a = k
      · rw [if_pos h, if_pos h]
      · rw [if_neg h, if_neg h, if_neg h]
    | false =>
      show z_lk (q :: z_put t a v) k = _
      rw [z_lk_cons, z_lk_put t a v k, z_lk_cons]
      by_cases h : q.1 = k
      · rw [if_pos h, if_pos h]
        by_cases h2 : a = k
        · rw [h, h2, Nat.beq_refl] at hb; cases hb
        · rw [if_neg h2]
      · rw [if_neg h, if_neg h]
theorem z_st1_eq {L L' : zL} {a : Nat} {v : Value} (h : z_st1 L a v = some L') : L' = z_put L a v ∧ ∀ w, z_lk L (a - 1) = some w → 0 < a → w.category = 1 := by
  cases a with
  | zero => exact ⟨(Option.some.inj h).symm, fun _ _ h => absurd h (Nat.lt_irrefl 0)⟩
  | succ i =>
    simp only [z_st1] at h
    cases hv : z_lk L i with
    | none =>
      rw [hv] at h
      refine ⟨(Option.some.inj h).symm, fun w hw _ => ?_⟩
      rw [Nat.add_sub_cancel, hv] at hw
      cases hw
    | some u =>
      rw [hv] at h
      cases u <;> first | (refine ⟨(Option.some.inj h).symm, fun w hw _ => ?_⟩; rw [Nat.add_sub_cancel, hv] at hw; cases hw; rfl; done) | (cases h; done)
theorem z_st2_eq {L L' : zL} {a : Nat} {v : Value} (h : z_st2 L a v = some L') : L' = z_put (z_put L a v) (a + 1) (.retAddr 0) ∧ ∀ w, z_lk L (a - 1) = some w → 0 < a → w.category = 1 := by
  cases a with
  | zero => exact ⟨(Option.some.inj h).symm, fun _ _ h => absurd h (Nat.lt_irrefl 0)⟩
  | succ i =>
    simp only [z_st2] at h
    cases hv : z_lk L i with
    | none =>
      rw [hv] at h
      refine ⟨(Option.some.inj h).symm, fun w hw _ => ?_⟩
      rw [Nat.add_sub_cancel, hv] at hw
      cases hw
    | some u =>
      rw [hv] at h
      cases u <;> first | (refine ⟨(Option.some.inj h).symm, fun w hw _ => ?_⟩; rw [Nat.add_sub_cancel, hv] at hw; cases hw; rfl; done) | (cases h; done)
theorem z_lr_st1 {G : zG} (hE : ∀ k, G.2.2.2 k = .null ∨ ∃ a, G.2.2.2 k = .ref a) {L L' : zL} {ls ls' : Array Slot} {nL a : Nat} {v : Value} (hs : ls.size = nL) (hb : ∀ k v, z_lk L k = some v → (∀ p, v ≠ .retAddr p) → ls[k]? = some (.val (z_rv G v))) (h : z_st1 L a v = some L') (hl : lv_has ls' nL ((a, z_rv G v) :: (z_lvs G L nL).filter (fun q => !(q.1 == a) && !(q.1 + 1 == a && q.2.category == 2)))) : z_lr G L' ls' nL := by
  obtain ⟨rfl, hc⟩ := z_st1_eq h
  refine ⟨hl.1, hl.2.1, fun k w hk hr => ?_⟩
  rw [z_lk_put] at hk
  by_cases e : a = k
  · rw [if_pos e] at hk
    cases hk
    have := hl.2.2 (a, z_rv G v) List.mem_cons_self
    rw [← e]; exact this
  · rw [if_neg e] at hk
    have hlt : k < nL := by rw [← hs]; exact lv_lt (hb k w hk hr)
    refine hl.2.2 (k, z_rv G w) (List.mem_cons_of_mem _ (List.mem_filter.mpr ⟨z_lvs_in hlt hk hr, ?_⟩))
    simp only [Bool.and_eq_true, Bool.not_eq_true', beq_eq_false_iff_ne, Bool.and_eq_false_iff]
    refine ⟨fun q => e q.symm, ?_⟩
    by_cases e2 : k + 1 = a
    · right
      have := hc w (by rw [← e2]; exact hk) (by omega)
      rw [z_rv_cat hE, this]; decide
    · exact Or.inl e2
theorem z_lr_st2 {G : zG} (hE : ∀ k, G.2.2.2 k = .null ∨ ∃ a, G.2.2.2 k = .ref a) {L L' : zL} {ls ls' : Array Slot} {nL a : Nat} {v : Value} (hs : ls.size = nL) (hb : ∀ k v, z_lk L k = some v → (∀ p, v ≠ .retAddr p) → ls[k]? = some (.val (z_rv G v))) (h : z_st2 L a v = some L') (hl : lv_has ls' nL ((a, z_rv G v) :: (z_lvs G L nL).filter (fun q => !(q.1 == a) && (!(q.1 == a + 1) && !(q.1 + 1 == a && q.2.category == 2))))) : z_lr G L' ls' nL := by
  obtain ⟨rfl, hc⟩ := z_st2_eq h
  refine ⟨hl.1, hl.2.1, fun k w hk hr => ?_⟩
  rw [z_lk_put] at hk
  by_cases e3 : a + 1 = k
  · rw [if_pos e3] at hk
    cases hk
    exact absurd rfl (hr 0)
  · rw [if_neg e3, z_lk_put] at hk
    by_cases e : a = k
    · rw [if_pos e] at hk
      cases hk
      have := hl.2.2 (a, z_rv G v) List.mem_cons_self
      rw [← e]; exact this
    · rw [if_neg e] at hk
      have hlt : k < nL := by rw [← hs]; exact lv_lt (hb k w hk hr)
      refine hl.2.2 (k, z_rv G w) (List.mem_cons_of_mem _ (List.mem_filter.mpr ⟨z_lvs_in hlt hk hr, ?_⟩))
      simp only [Bool.and_eq_true, Bool.not_eq_true', beq_eq_false_iff_ne, Bool.and_eq_false_iff]
      refine ⟨fun q => e q.symm, fun q => e3 q.symm, ?_⟩
      by_cases e2 : k + 1 = a
      · right
        have := hc w (by rw [← e2]; exact hk) (by omega)
        rw [z_rv_cat hE, this]; decide
      · exact Or.inl e2
theorem z_args_1 {i : Nat} {w : Value} {vs : List Value} (hw : w.category = 1) : z_args i (w :: vs) = (i, w) :: z_args (i + 1) vs := by
  cases w <;> first | rfl | (exact absurd hw (by simp [Value.category]))
theorem z_args_2 {i : Nat} {w : Value} {vs : List Value} (hw : w.category = 2) : z_args i (w :: vs) = (i, w) :: (i + 1, .retAddr 0) :: z_args (i + 2) vs := by
  cases w <;> first | rfl | (exact absurd hw (by simp [Value.category]))
theorem z_args_in {G : zG} (hE : ∀ k, G.2.2.2 k = .null ∨ ∃ a, G.2.2.2 k = .ref a) : ∀ (vs : List Value) (i k : Nat) (v : Value), z_lk (z_args i vs) k = some v → (∀ p, v ≠ .retAddr p) → (k, z_rv G v) ∈ lv_args i (vs.map (z_rv G))
  | [], i, k, v, h, _ => by cases h
  | w :: vs, i, k, v, h, hr => by
    have hc := z_rv_cat hE w
    show (k, z_rv G v) ∈ (i, z_rv G w) :: lv_args (if (z_rv G w).category = 2 then i + 2 else i + 1) (vs.map (z_rv G))
    rcases lv_cat w with h1 | h2
    · rw [z_args_1 h1, z_lk_cons] at h
      rw [if_neg (by rw [hc, h1]; decide)]
      by_cases e : i = k
      · rw [if_pos e] at h
        cases h
        rw [← e]; exact List.mem_cons_self
      · rw [if_neg e] at h
        exact List.mem_cons_of_mem _ (z_args_in hE vs (i + 1) k v h hr)
    · rw [z_args_2 h2, z_lk_cons, z_lk_cons] at h
      rw [if_pos (by rw [hc, h2])]
      by_cases e : i = k
      · rw [if_pos e] at h
        cases h
        rw [← e]; exact List.mem_cons_self
      · rw [if_neg e] at h
        by_cases e2 : i + 1 = k
        · rw [if_pos e2] at h
          cases h
          exact absurd rfl (hr 0)
        · rw [if_neg e2] at h
          exact List.mem_cons_of_mem _ (z_args_in hE vs (i + 2) k v h hr)
