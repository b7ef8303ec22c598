/-! The heap of the second kind is one of the first kind. -/
theorem z_mk_at (M : zM) (N : zN) (q : Nat) : (z_mk M N)[q]? = if q < 56 then some (z_cell M N q (z_lay.get q)) else none := by
  unfold z_mk
  rw [List.getElem?_map]
  by_cases h : q < 56
  · rw [List.getElem?_range h, if_pos h]; rfl
  · rw [if_neg h, List.getElem?_eq_none (by simpa using h)]; rfl
theorem z_mk_in {M : zM} {N : zN} {q : Nat} (h : Nat.ble 56 q = false) : (z_mk M N)[q]? = some (z_cell M N q (z_lay.get q)) := by
  rw [z_mk_at, if_pos]
  rcases Nat.lt_or_ge q 56 with h1 | h1
  · exact h1
  · rw [Nat.ble_eq_true_of_le h1] at h; cases h
theorem z_mk_len (M : zM) (N : zN) : (z_mk M N).length = 56 := by simp [z_mk]
theorem z_mk_set {M M' : zM} {N N' : zN} {q : Nat} {c : zC} (hq : z_cell M' N' q (z_lay.get q) = c) (hM : ∀ b, b ≠ q → M' b = M b) (hN : ∀ b, b ≠ q → N' b = N b) : (z_mk M N).set q c = z_mk M' N' := by
  apply List.ext_getElem?
  intro i
  rw [List.getElem?_set, z_mk_len, z_mk_at, z_mk_at]
  by_cases hi : q = i
  · subst hi
    rw [if_pos rfl, hq]
  · rw [if_neg hi]
    have e : z_cell M N i (z_lay.get i) = z_cell M' N' i (z_lay.get i) := by
      unfold z_cell
      rw [hM i (Ne.symm hi), hN i (Ne.symm hi)]
    rw [e]
theorem z_b4 {q : Nat} (h1 : Nat.ble 56 q = false) : Nat.ble 1000 q = false := by
  cases hb : Nat.ble 1000 q with
  | false => rfl
  | true =>
    have := Nat.le_of_ble_eq_true hb
    rw [Nat.ble_eq_true_of_le (show 56 ≤ q by omega)] at h1
    cases h1
theorem z_ints_sim {X : Nat × (Nat → Int32)} {M : zM} {N : zN} {q : Nat} {y : Nat × (Nat → Int32)} (h : z_ints2 X q M = some y) : z_ints X q (z_mk M N) = some y := by
  unfold z_ints2 at h
  unfold z_ints
  cases h1 : Nat.ble 56 q with
  | true =>
    rw [h1] at h
    simp only [cond_true] at h
    cases h2 : Nat.beq q 3000 with
    | true =>
      obtain rfl := Nat.eq_of_beq_eq_true h2
      exact h
    | false =>
      rw [h2] at h
      simp only [cond_false] at h
      cases h3 : Nat.beq q 3001 with
      | true =>
        obtain rfl := Nat.eq_of_beq_eq_true h3
        exact h
      | false => rw [h3] at h; cases h
  | false =>
    rw [h1] at h
    simp only [cond_false] at h
    have h4 : Nat.ble 1000 q = false := by
      cases hb : Nat.ble 1000 q with
      | false => rfl
      | true =>
        have := Nat.le_of_ble_eq_true hb
        rw [Nat.ble_eq_true_of_le (show 56 ≤ q by omega)] at h1
        cases h1
    rw [h4, z_mk_in h1]
    split at h
    · next n rs hl =>
      rw [hl]
      exact h
    · cases h
set_option maxHeartbeats 4000000 in
theorem z_hop_sim {X : Nat × (Nat → Int32)} {E : zE} {st st' : List Value} {M M' : zM} {N N' : zN} (hs : z_hop2 X E st (M, N) = some (st', (M', N'))) : z_hop1 X E st (z_mk M N) = some (st', z_mk M' N') := by
  obtain ⟨ins, nx, tg, a, b, v⟩ := E
  cases ins
  case getfield i =>
    simp only [z_hop2] at hs
    simp only [z_hop1]
    split at hs
    · next q r =>
      cases h100 : Nat.beq a 100 with
      | true =>
        rw [h100] at hs
        simp only [cond_true] at hs ⊢
        split at hs
        · next w hw => cases hs; rw [hw]
        · cases hs
      | false =>
        rw [h100] at hs
        simp only [cond_false] at hs ⊢
        cases h56 : Nat.ble 56 q with
        | true => rw [h56] at hs; cases hs
        | false =>
          rw [h56] at hs
          simp only [cond_false] at hs
          rw [z_mk_in h56]
          split at hs
          · next ci rs hl =>
            rw [hl]
            simp only [z_cell]
            cases hca : Nat.beq ci a with
            | false => rw [hca] at hs; cases hs
            | true =>
              rw [hca] at hs
              simp only [cond_true] at hs ⊢
              rw [List.getElem?_mapIdx]
              split at hs
              · next p hp => cases hs; rw [hp]; rfl
              · next hp => cases hs; rw [hp]; rfl
              · cases hs
          · cases hs
    · cases hs
  case putfield i =>
    simp only [z_hop2] at hs
    simp only [z_hop1]
    split at hs
    · next x q r =>
      dsimp only
      cases h56 : Nat.ble 56 q with
      | true => rw [h56] at hs; cases hs
      | false =>
        rw [h56] at hs
        simp only [cond_false] at hs
        rw [z_mk_in h56]
        split at hs
        · next ci rs hl =>
          rw [hl]
          simp only [z_cell]
          cases hca : Nat.beq ci a with
          | false => rw [hca] at hs; cases hs
          | true =>
            rw [hca] at hs
            simp only [cond_true] at hs
            split at hs
            · next hp =>
              cases hf : z_fit (z_ft a b) (.int x) with
              | false => rw [hf] at hs; cases hs
              | true =>
                rw [hf] at hs
                cases hs
                have hblt : b < rs.length := (List.getElem?_eq_some_iff.mp hp).1
                rw [List.length_mapIdx, Nat.blt_eq.mpr hblt]
                simp only [Bool.and_self, cond_true]
                rw [z_mk_set (M' := z_up M q b x) (N' := N) ?_ (fun _ h => z_up_ne _ _ _ h) (fun _ _ => rfl)]
                rw [hl]
                show Sum.inr (ci, _) = Sum.inr (ci, _)
                congr 2
                apply List.ext_getElem?
                intro k
                rw [List.getElem?_mapIdx, List.getElem?_set, List.getElem?_mapIdx, List.length_mapIdx]
                by_cases hk : b = k
                · subst hk
                  rw [if_pos rfl, if_pos hblt, hp]
                  show some (Value.int (z_up M q b x q b)) = _
                  rw [z_up_same]
                  simp [upd]
                · rw [if_neg hk]
                  cases rs[k]? with
                  | none => rfl
                  | some o =>
                    cases o with
                    | some p => rfl
                    | none =>
                      show some (Value.int (z_up M q b x q k)) = some (Value.int (M q k))
                      rw [z_up_same]
                      simp [upd, Ne.symm hk]
            · cases hs
        · cases hs
    · cases hs
  case getstatic i =>
    simp only [z_hop2] at hs
    simp only [z_hop1]
    cases hs
    rfl
  case arraylength =>
    simp only [z_hop2] at hs
    simp only [z_hop1]
    split at hs
    · next q r =>
      dsimp only
      unfold z_len
      unfold z_len at hs
      cases h56 : Nat.ble 56 q with
      | true =>
        rw [h56] at hs
        simp only [cond_true] at hs
        cases h1000 : Nat.ble 1000 q with
        | true =>
          rw [h1000] at hs
          simp only [cond_true] at hs ⊢
          split at hs
          · next n hn =>
            cases hs
            rw [hn]
          · cases hs
        | false =>
          rw [h1000] at hs
          simp only [cond_false, List.getElem?_nil] at hs
          cases hs
      | false =>
        have h4 : Nat.ble 1000 q = false := z_b4 h56
        rw [h56] at hs
        simp only [cond_false] at hs
        rw [h4, z_mk_in h56]
        simp only [cond_false]
        split at hs
        · next n rs hl => rw [hl]; cases hs; rfl
        · next n rs hl => rw [hl]; cases hs; rfl
        · cases hs
    · cases hs
  case iaload =>
    simp only [z_hop2] at hs
    simp only [z_hop1]
    split at hs
    · next i q r =>
      dsimp only
      split at hs
      · next n f hz =>
        rw [z_ints_sim hz]
        dsimp only
        split at hs
        · cases hs
        · next hin => rw [if_neg hin]; cases hs; rfl
      · cases hs
    · cases hs
  case baload =>
    simp only [z_hop2] at hs
    simp only [z_hop1]
    split at hs
    · next i q r =>
      dsimp only
      split at hs
      · next n f hz =>
        rw [hz]
        dsimp only
        split at hs
        · cases hs
        · next hin => rw [if_neg hin]; cases hs; rfl
      · cases hs
    · cases hs
  case iastore =>
    simp only [z_hop2] at hs
    simp only [z_hop1]
    split at hs
    · next x i q r =>
      dsimp only
      cases h56 : Nat.ble 56 q with
      | true => rw [h56] at hs; cases hs
      | false =>
        rw [h56] at hs
        simp only [cond_false] at hs
        rw [z_mk_in h56]
        split at hs
        · next n rs hl =>
          rw [hl]
          simp only [z_cell]
          split at hs
          · cases hs
          · next hin =>
            rw [if_neg hin]
            cases hs
            rw [z_mk_set (M' := z_up M q i.toNatClampNeg x) (N' := N) ?_ (fun _ h => z_up_ne _ _ _ h) (fun _ _ => rfl)]
            rw [hl]
            simp only [z_cell]
            rw [z_up_same]
        · cases hs
    · cases hs
  case laload =>
    simp only [z_hop2] at hs
    simp only [z_hop1]
    split at hs
    · next i q r =>
      dsimp only
      cases h56 : Nat.ble 56 q with
      | true => rw [h56] at hs; cases hs
      | false =>
        rw [h56] at hs
        simp only [cond_false] at hs
        rw [z_mk_in h56]
        split at hs
        · next n rs hl =>
          rw [hl]
          simp only [z_cell]
          split at hs
          · cases hs
          · next hin =>
            rw [if_neg hin]
            cases hs
            rfl
        · cases hs
    · cases hs
  case lastore =>
    simp only [z_hop2] at hs
    simp only [z_hop1]
    split at hs
    · next x i q r =>
      dsimp only
      cases h56 : Nat.ble 56 q with
      | true => rw [h56] at hs; cases hs
      | false =>
        rw [h56] at hs
        simp only [cond_false] at hs
        rw [z_mk_in h56]
        split at hs
        · next n rs hl =>
          rw [hl]
          simp only [z_cell]
          split at hs
          · cases hs
          · next hin =>
            rw [if_neg hin]
            cases hs
            rw [z_mk_set (M' := M) (N' := z_upL N q i.toNatClampNeg x) ?_ (fun _ _ => rfl) (fun _ h => z_upL_ne _ _ _ h)]
            rw [hl]
            simp only [z_cell]
            rw [z_upL_same]
        · cases hs
    · cases hs
  case aaload =>
    simp only [z_hop2] at hs
    simp only [z_hop1]
    split at hs
    · next i q r =>
      dsimp only
      cases h56 : Nat.ble 56 q with
      | true => rw [h56] at hs; cases hs
      | false =>
        rw [h56] at hs
        simp only [cond_false] at hs
        rw [z_mk_in h56]
        split at hs
        · next n rs hl =>
          rw [hl]
          simp only [z_cell]
          split at hs
          · cases hs
          · next hin =>
            rw [if_neg hin]
            split at hs
            · next kk hk =>
              rw [hk]
              dsimp only
              cases hb2 : Nat.blt kk 1000 with
              | false => rw [hb2] at hs; cases hs
              | true => rw [hb2] at hs; cases hs; rfl
            · next hk =>
              rw [hk]
              cases hs
              rfl
        · cases hs
    · cases hs
  case invokestatic i =>
    simp only [z_hop2] at hs
    simp only [z_hop1]
    cases h1 : Nat.beq a 996 with
    | true =>
      rw [h1] at hs
      simp only [cond_true] at hs ⊢
      split at hs
      · next y x r =>
        dsimp only
        cases hb2 : Nat.ble (z_sum r) 8 with
        | false => rw [hb2] at hs; cases hs
        | true => rw [hb2] at hs; cases hs; rfl
      · cases hs
    | false =>
      rw [h1] at hs
      simp only [cond_false] at hs ⊢
      cases h2 : Nat.beq a 995 with
      | true =>
        rw [h2] at hs
        simp only [cond_true] at hs ⊢
        split at hs
        · next y x r =>
          dsimp only
          cases hb2 : Nat.ble (z_sum r) 8 with
          | false => rw [hb2] at hs; cases hs
          | true => rw [hb2] at hs; cases hs; rfl
        · cases hs
      | false =>
        rw [h2] at hs
        simp only [cond_false] at hs ⊢
        split at hs
        · next n dp q1 sp q0 r =>
          dsimp only
          cases hca : (Nat.beq a 999 && Nat.ble (z_sum r) 8 && Nat.blt q0 56 && Nat.blt q1 56) with
          | false => rw [hca] at hs; cases hs
          | true =>
            rw [hca] at hs
            simp only [cond_true] at hs
            simp only [Bool.and_eq_true] at hca
            obtain ⟨⟨⟨c1, c2⟩, c3⟩, c4⟩ := hca
            have k0 : q0 < 56 := Nat.blt_eq.mp c3
            have k1 : q1 < 56 := Nat.blt_eq.mp c4
            rw [c1, c2]
            simp only [Bool.and_self, cond_true]
            rw [z_mk_at, z_mk_at, if_pos k0, if_pos k1]
            split at hs
            · next n0 r0 n1 r1 hl0 hl1 =>
              rw [hl0, hl1]
              simp only [z_cell]
              split at hs
              · cases hs
              · next hin =>
                rw [if_neg hin]
                cases hs
                rw [z_mk_set (M' := z_row M q1 (va_cpy (M q0) (M q1) sp.toNatClampNeg dp.toNatClampNeg n.toNatClampNeg)) (N' := N) ?_ (fun _ h => z_row_ne _ _ h) (fun _ _ => rfl)]
                rw [hl1]
                simp only [z_cell]
                rw [z_row_same]
            · next n0 r0 n1 r1 hl0 hl1 =>
              rw [hl0, hl1]
              simp only [z_cell]
              split at hs
              · cases hs
              · next hin =>
                rw [if_neg hin]
                cases hs
                rw [z_mk_set (M' := M) (N' := z_rowL N q1 (va_cpy (N q0) (N q1) sp.toNatClampNeg dp.toNatClampNeg n.toNatClampNeg)) ?_ (fun _ _ => rfl) (fun _ h => z_rowL_ne _ _ h)]
                rw [hl1]
                simp only [z_cell]
                rw [z_rowL_same]
            · cases hs
        · cases hs
  all_goals
    simp only [z_hop2] at hs
    cases hs
theorem z_rcv_sim (M : zM) (N : zN) (q tg : Nat) (h : z_rcv2 (M, N) q tg = true) : z_rcv1 (z_mk M N) q tg = true := by
  unfold z_rcv2 at h
  unfold z_rcv1
  cases h8 : Nat.beq tg 8 with
  | true => rw [h8] at h; exact h
  | false =>
    rw [h8] at h
    simp only [cond_false] at h ⊢
    cases h56 : Nat.ble 56 q with
    | true => rw [h56] at h; cases h
    | false =>
      rw [h56] at h
      simp only [cond_false] at h
      rw [z_mk_in h56]
      split at h
      · next ci rs hl => rw [hl]; exact h
      · cases h
theorem z_ctl_sim {rt : Option FieldType} {E : zE} {st : List Value} {M : zM} {N : zN} {w : (Nat × List Value × List Value) ⊕ Option Value} (h : z_ctl z_rcv2 rt E st (M, N) = some w) : z_ctl z_rcv1 rt E st (z_mk M N) = some w := by
  obtain ⟨ins, nx, tg, a, b, v⟩ := E
  cases ins
  case invokevirtual i =>
    simp only [z_ctl] at h ⊢
    split at h
    · next as q r hp =>
      cases hr : z_rcv2 (M, N) q tg with
      | false => rw [hr] at h; cases h
      | true => rw [hr] at h; rw [z_rcv_sim M N q tg hr]; exact h
    · cases h
  all_goals exact h
/-- a step that is none of the second kind's calls is none of the first kind's -/
theorem z_ctl_none {rt : Option FieldType} {E : zE} {st : List Value} {M : zM} {N : zN} {y : List Value × (zM × zN)} {pc pc' : Nat} {L L' : zL} {st' : List Value} {h' : zM × zN} {X : Nat × (Nat → Int32)} (hc : z_ctl z_rcv2 rt E st (M, N) = none) (hs : z_stp (z_hop2 X) pc E L st (M, N) = some (pc', L', st', h')) : z_ctl z_rcv1 rt E st (z_mk M N) = none := by
  obtain ⟨ins, nx, tg, a, b, v⟩ := E
  cases ins
  case invokevirtual i =>
    simp only [z_stp, z_hop2] at hs
    cases hs
  all_goals exact hc
theorem z_stp_sim {X : Nat × (Nat → Int32)} {E : zE} {st st' : List Value} {M M' : zM} {N N' : zN} {pc pc' : Nat} {L L' : zL} (hs : z_stp (z_hop2 X) pc E L st (M, N) = some (pc', L', st', (M', N'))) : z_stp (z_hop1 X) pc E L st (z_mk M N) = some (pc', L', st', z_mk M' N') := by
  obtain ⟨ins, nx, tg, a, b, v⟩ := E
  cases ins
  case ifCond cc off => cases cc <;> simp only [z_stp] at hs ⊢ <;> (repeat' split at hs) <;> first | (cases hs; first | (rw [if_pos (by assumption)]; done) | (rw [if_neg (by assumption)]; done)) | (cases hs; done)
  case if_icmp cc off => cases cc <;> simp only [z_stp] at hs ⊢ <;> (repeat' split at hs) <;> first | (cases hs; first | (rw [if_pos (by assumption)]; done) | (rw [if_neg (by assumption)]; done)) | (cases hs; done)
  case ifnull off =>
    simp only [z_stp] at hs ⊢
    split at hs
    · cases hs; rfl
    · next x r =>
      cases hb : Nat.blt x 1000 <;> rw [hb] at hs
      · cases hs
      · cases hs; rfl
    · cases hs
  case ifnonnull off =>
    simp only [z_stp] at hs ⊢
    split at hs
    · cases hs; rfl
    · next x r =>
      cases hb : Nat.blt x 1000 <;> rw [hb] at hs
      · cases hs
      · cases hs; rfl
    · cases hs
  all_goals
    simp only [z_stp] at hs ⊢
    first
      | (cases hs; rfl; done)
      | (split at hs
         · next st2 h2 hh => cases hs; rw [z_hop_sim hh]
         · cases hs; done)
      | ((repeat' split at hs) <;> first | (cases hs; simp_all; done) | (cases hs; done))
theorem z_run_sim {X : Nat × (Nat → Int32)} : ∀ (n : Nat) (j pc : Nat) (L : zL) (st : List Value) (M M' : zM) (N N' : zN) (r : Option Value), z_run (z_hop2 X) z_rcv2 z_P z_rk n j pc L st (M, N) = some (r, (M', N')) → z_run (z_hop1 X) z_rcv1 z_P z_rk n j pc L st (z_mk M N) = some (r, z_mk M' N') := by
  intro n
  induction n with
  | zero => intro j pc L st M M' N N' r h; cases h
  | succ n ih =>
    intro j pc L st M M' N N' r h
    rw [z_run] at h ⊢
    cases hP : z_P j pc with
    | none => rw [hP] at h; cases h
    | some E =>
      rw [hP] at h
      dsimp only at h ⊢
      cases hc : z_ctl z_rcv2 (z_rk j) E st (M, N) with
      | none =>
        rw [hc] at h
        dsimp only at h
        cases hs : z_stp (z_hop2 X) pc E L st (M, N) with
        | none => rw [hs] at h; cases h
        | some q =>
          obtain ⟨pc1, L1, st1, M1, N1⟩ := q
          rw [hs] at h
          rw [z_ctl_none (y := ([], (M, N))) hc hs]
          dsimp only
          rw [z_stp_sim hs]
          exact ih _ _ _ _ _ _ _ _ _ h
      | some w =>
        rw [hc] at h
        rw [z_ctl_sim hc]
        cases w with
        | inr v => cases h; rfl
        | inl q =>
          obtain ⟨k, as, rs⟩ := q
          dsimp only at h ⊢
          cases hr : z_run (z_hop2 X) z_rcv2 z_P z_rk n k 0 (z_args 0 as) [] (M, N) with
          | none => rw [hr] at h; cases h
          | some y =>
            obtain ⟨v1, M1, N1⟩ := y
            rw [hr] at h
            rw [ih _ _ _ _ _ _ _ _ _ hr]
            exact ih _ _ _ _ _ _ _ _ _ h
