/-! A small machine: the bytecode of the system run over a heap that is a list of cells (place in the list = address), locals as pairs, calls by number. -/
abbrev zC : Type := (Nat × ((Nat → Int32) ⊕ ((Nat → Int64) ⊕ (Nat → Option Nat)))) ⊕ (Nat × List Value)
abbrev zH : Type := List zC
abbrev zL : Type := List (Nat × Value)
/-- an instruction with what it needs: the next place, the place it jumps to, two numbers, a constant -/
abbrev zE : Type := Instr × Nat × Nat × Nat × Nat × Value
def z_lk : zL → Nat → Option Value
  | [], _ => none
  | q :: t, k => cond (Nat.beq q.1 k) (some q.2) (z_lk t k)
/-- a local is laid in its place -/
def z_put : zL → Nat → Value → zL
  | [], k, v => [(k, v)]
  | q :: t, k, v => cond (Nat.beq q.1 k) ((k, v) :: t) (q :: z_put t k v)
def z_st1 (L : zL) (k : Nat) (v : Value) : Option zL := match k with
  | 0 => some (z_put L k v)
  | i + 1 => match z_lk L i with
    | some (.long _) => none
    | some (.double _) => none
    | _ => some (z_put L k v)
def z_st2 (L : zL) (k : Nat) (v : Value) : Option zL := match k with
  | 0 => some (z_put (z_put L k v) (k + 1) (.retAddr 0))
  | i + 1 => match z_lk L i with
    | some (.long _) => none
    | some (.double _) => none
    | _ => some (z_put (z_put L k v) (k + 1) (.retAddr 0))
def z_tsw (pc : Nat) (d lo hi : Int) (offs : Array Int) (x : Int32) : Nat :=
  if x.toInt < lo ∨ hi < x.toInt then ((pc : Int) + d).toNat else ((pc : Int) + (offs[(x.toInt - lo).toNat]?).getD 0).toNat
/-- one step that is no call and no return -/
def z_stp {H : Type} (hop : zE → List Value → H → Option (List Value × H)) (pc : Nat) (e : zE) (L : zL) (st : List Value) (h : H) : Option (Nat × zL × List Value × H) :=
  match e with
  | (ins, nx, tg, a, b, v) => match ins with
    | .iconst _ => some (nx, L, v :: st, h)
    | .bipush _ => some (nx, L, v :: st, h)
    | .sipush _ => some (nx, L, v :: st, h)
    | .lconst _ => some (nx, L, v :: st, h)
    | .ldc _ => some (nx, L, v :: st, h)
    | .ldc_w _ => some (nx, L, v :: st, h)
    | .ldc2_w _ => some (nx, L, v :: st, h)
    | .aconst_null => some (nx, L, .null :: st, h)
    | .iload _ => match z_lk L a with
      | some (.int x) => some (nx, L, .int x :: st, h)
      | _ => none
    | .iload_n _ => match z_lk L a with
      | some (.int x) => some (nx, L, .int x :: st, h)
      | _ => none
    | .lload _ => match z_lk L a with
      | some (.long x) => some (nx, L, .long x :: st, h)
      | _ => none
    | .lload_n _ => match z_lk L a with
      | some (.long x) => some (nx, L, .long x :: st, h)
      | _ => none
    | .aload _ => match z_lk L a with
      | some (.ref x) => some (nx, L, .ref x :: st, h)
      | some .null => some (nx, L, .null :: st, h)
      | _ => none
    | .aload_n _ => match z_lk L a with
      | some (.ref x) => some (nx, L, .ref x :: st, h)
      | some .null => some (nx, L, .null :: st, h)
      | _ => none
    | .istore _ => match st with
      | .int x :: r => match z_st1 L a (.int x) with
        | some L' => some (nx, L', r, h)
        | none => none
      | _ => none
    | .istore_n _ => match st with
      | .int x :: r => match z_st1 L a (.int x) with
        | some L' => some (nx, L', r, h)
        | none => none
      | _ => none
    | .lstore _ => match st with
      | .long x :: r => match z_st2 L a (.long x) with
        | some L' => some (nx, L', r, h)
        | none => none
      | _ => none
    | .lstore_n _ => match st with
      | .long x :: r => match z_st2 L a (.long x) with
        | some L' => some (nx, L', r, h)
        | none => none
      | _ => none
    | .astore _ => match st with
      | .ref x :: r => match z_st1 L a (.ref x) with
        | some L' => some (nx, L', r, h)
        | none => none
      | .null :: r => match z_st1 L a .null with
        | some L' => some (nx, L', r, h)
        | none => none
      | _ => none
    | .astore_n _ => match st with
      | .ref x :: r => match z_st1 L a (.ref x) with
        | some L' => some (nx, L', r, h)
        | none => none
      | .null :: r => match z_st1 L a .null with
        | some L' => some (nx, L', r, h)
        | none => none
      | _ => none
    | .iinc _ _ => match z_lk L a, v with
      | some (.int x), .int c => match z_st1 L a (.int (x + c)) with
        | some L' => some (nx, L', st, h)
        | none => none
      | _, _ => none
    | .dup => match st with
      | .int x :: r => some (nx, L, .int x :: .int x :: r, h)
      | .ref x :: r => some (nx, L, .ref x :: .ref x :: r, h)
      | _ => none
    | .pop => match st with
      | .int _ :: r => some (nx, L, r, h)
      | .ref _ :: r => some (nx, L, r, h)
      | _ => none
    | .dup2 => match st with
      | .int y :: .ref x :: r => some (nx, L, .int y :: .ref x :: .int y :: .ref x :: r, h)
      | _ => none
    | .iadd => match st with
      | .int y :: .int x :: r => some (nx, L, .int (x + y) :: r, h)
      | _ => none
    | .isub => match st with
      | .int y :: .int x :: r => some (nx, L, .int (x - y) :: r, h)
      | _ => none
    | .imul => match st with
      | .int y :: .int x :: r => some (nx, L, .int (x * y) :: r, h)
      | _ => none
    | .iand => match st with
      | .int y :: .int x :: r => some (nx, L, .int (x &&& y) :: r, h)
      | _ => none
    | .ior => match st with
      | .int y :: .int x :: r => some (nx, L, .int (x ||| y) :: r, h)
      | _ => none
    | .ixor => match st with
      | .int y :: .int x :: r => some (nx, L, .int (x ^^^ y) :: r, h)
      | _ => none
    | .idiv => match st with
      | .int y :: .int x :: r => if y = 0 then none else some (nx, L, .int (x / y) :: r, h)
      | _ => none
    | .ishl => match st with
      | .int y :: .int x :: r => some (nx, L, .int (x <<< (y &&& 31)) :: r, h)
      | _ => none
    | .ishr => match st with
      | .int y :: .int x :: r => some (nx, L, .int (x >>> (y &&& 31)) :: r, h)
      | _ => none
    | .iushr => match st with
      | .int y :: .int x :: r => some (nx, L, .int (x.toUInt32 >>> (y.toUInt32 &&& Int32.toUInt32 31)).toInt32 :: r, h)
      | _ => none
    | .land => match st with
      | .long y :: .long x :: r => some (nx, L, .long (x &&& y) :: r, h)
      | _ => none
    | .lor => match st with
      | .long y :: .long x :: r => some (nx, L, .long (x ||| y) :: r, h)
      | _ => none
    | .lshl => match st with
      | .int y :: .long x :: r => some (nx, L, .long (x <<< (y.toInt64 &&& 63)) :: r, h)
      | _ => none
    | .lcmp => match st with
      | .long y :: .long x :: r => some (nx, L, .int (lg_cmp x y) :: r, h)
      | _ => none
    | .i2l => match st with
      | .int x :: r => some (nx, L, .long x.toInt64 :: r, h)
      | _ => none
    | .l2i => match st with
      | .long x :: r => some (nx, L, .int x.toInt32 :: r, h)
      | _ => none
    | .i2b => match st with
      | .int x :: r => some (nx, L, .int x.toInt8.toInt32 :: r, h)
      | _ => none
    | .i2s => match st with
      | .int x :: r => some (nx, L, .int x.toInt16.toInt32 :: r, h)
      | _ => none
    | .i2c => match st with
      | .int x :: r => some (nx, L, .int (x.toUInt32 % 65536).toInt32 :: r, h)
      | _ => none
    | .ifCond .eq _ => match st with
      | .int x :: r => if x = 0 then some (tg, L, r, h) else some (nx, L, r, h)
      | _ => none
    | .ifCond .ne _ => match st with
      | .int x :: r => if x ≠ 0 then some (tg, L, r, h) else some (nx, L, r, h)
      | _ => none
    | .ifCond .lt _ => match st with
      | .int x :: r => if x < 0 then some (tg, L, r, h) else some (nx, L, r, h)
      | _ => none
    | .ifCond .ge _ => match st with
      | .int x :: r => if 0 ≤ x then some (tg, L, r, h) else some (nx, L, r, h)
      | _ => none
    | .ifCond .gt _ => match st with
      | .int x :: r => if 0 < x then some (tg, L, r, h) else some (nx, L, r, h)
      | _ => none
    | .ifCond .le _ => match st with
      | .int x :: r => if x ≤ 0 then some (tg, L, r, h) else some (nx, L, r, h)
      | _ => none
    | .if_icmp .eq _ => match st with
      | .int y :: .int x :: r => if x = y then some (tg, L, r, h) else some (nx, L, r, h)
      | _ => none
    | .if_icmp .ne _ => match st with
      | .int y :: .int x :: r => if x ≠ y then some (tg, L, r, h) else some (nx, L, r, h)
      | _ => none
    | .if_icmp .lt _ => match st with
      | .int y :: .int x :: r => if x < y then some (tg, L, r, h) else some (nx, L, r, h)
      | _ => none
    | .if_icmp .ge _ => match st with
      | .int y :: .int x :: r => if y ≤ x then some (tg, L, r, h) else some (nx, L, r, h)
      | _ => none
    | .if_icmp .gt _ => match st with
      | .int y :: .int x :: r => if y < x then some (tg, L, r, h) else some (nx, L, r, h)
      | _ => none
    | .if_icmp .le _ => match st with
      | .int y :: .int x :: r => if x ≤ y then some (tg, L, r, h) else some (nx, L, r, h)
      | _ => none
    | .ifnull _ => match st with
      | .null :: r => some (tg, L, r, h)
      | .ref x :: r => cond (Nat.blt x 1000) (some (nx, L, r, h)) none
      | _ => none
    | .ifnonnull _ => match st with
      | .null :: r => some (nx, L, r, h)
      | .ref x :: r => cond (Nat.blt x 1000) (some (tg, L, r, h)) none
      | _ => none
    | .goto _ => some (tg, L, st, h)
    | .tableswitch d lo hi offs => match st with
      | .int x :: r => some (z_tsw pc d lo hi offs x, L, r, h)
      | _ => none
    | _ => match hop e st h with
      | some (st', h') => some (nx, L, st', h')
      | none => none
def z_pop : Nat → List Value → List Value → Option (List Value × List Value)
  | 0, acc, st => some (acc, st)
  | n + 1, acc, v :: st => z_pop n (v :: acc) st
  | _ + 1, _, [] => none
def z_sum : List Value → Nat
  | [] => 0
  | v :: t => v.category + z_sum t
def z_psh (r : Option Value) (st : List Value) : List Value := match r with
  | none => st
  | some v => v :: st
def z_mxok (v : Value) (args : List Value) : Bool := match v with
  | .retAddr n => Nat.ble (z_sum args) n
  | _ => false
/-- calls and returns: who is called with what, what is left below; or what is answered -/
def z_ctl {H : Type} (rcv : H → Nat → Nat → Bool) (rt : Option FieldType) (e : zE) (st : List Value) (h : H) : Option ((Nat × List Value × List Value) ⊕ Option Value) :=
  match e with
  | (ins, _, tg, a, b, v) => match ins with
    | .invokevirtual _ => match z_pop b [] st with
      | some (args, .ref q :: r) => cond (rcv h q tg && Nat.ble (z_sum r) 8 && z_mxok v (.ref q :: args)) (some (.inl (a, .ref q :: args, r))) none
      | _ => none
    | .invokestatic _ => cond (Nat.ble 995 a) none (match z_pop b [] st with
      | some (args, r) => cond (Nat.ble (z_sum r) 8 && z_mxok v args) (some (.inl (a, args, r))) none
      | _ => none)
    | .invokespecial _ => cond (Nat.beq a 998) none (match z_pop b [] st with
      | some (args, .ref q :: r) => cond (Nat.ble (z_sum r) 8 && z_mxok v (.ref q :: args) && Nat.blt q 1000) (some (.inl (a, .ref q :: args, r))) none
      | _ => none)
    | .return_ => match rt, st with
      | none, [] => some (.inr none)
      | _, _ => none
    | .lreturn => match rt, st with
      | some .long, [.long x] => some (.inr (some (.long x)))
      | _, _ => none
    | .areturn => match rt, st with
      | some (.object _), [.ref x] => some (.inr (some (.ref x)))
      | some (.object _), [.null] => some (.inr (some .null))
      | _, _ => none
    | .ireturn => match rt, st with
      | some .int, [.int x] => some (.inr (some (.int x)))
      | some .boolean, [.int x] => if x = 0 ∨ x = 1 then some (.inr (some (.int x))) else none
      | some .byte, [.int x] => if x.toInt8.toInt32 = x then some (.inr (some (.int x))) else none
      | some .char, [.int x] => if x.toUInt32.toUInt16.toUInt32.toInt32 = x then some (.inr (some (.int x))) else none
      | _, _ => none
    | _ => none
/-- the locals at a method's entry -/
def z_args : Nat → List Value → zL
  | _, [] => []
  | i, .long x :: vs => (i, .long x) :: (i + 1, .retAddr 0) :: z_args (i + 2) vs
  | i, .double x :: vs => (i, .double x) :: (i + 1, .retAddr 0) :: z_args (i + 2) vs
  | i, v :: vs => (i, v) :: z_args (i + 1) vs
def z_run {H : Type} (hop : zE → List Value → H → Option (List Value × H)) (rcv : H → Nat → Nat → Bool) (P : Nat → Nat → Option zE) (rk : Nat → Option FieldType) : Nat → Nat → Nat → zL → List Value → H → Option (Option Value × H)
  | 0, _, _, _, _, _ => none
  | n + 1, j, pc, L, st, h => match P j pc with
    | none => none
    | some e => match z_ctl rcv (rk j) e st h with
      | some (.inl (k, args, r)) => match z_run hop rcv P rk n k 0 (z_args 0 args) [] h with
        | some (v, h') => z_run hop rcv P rk n j e.2.1 L (z_psh v r) h'
        | none => none
      | some (.inr v) => some (v, h)
      | none => match z_stp hop pc e L st h with
        | some (pc', L', st', h') => z_run hop rcv P rk n j pc' L' st' h'
        | none => none
/-- more steps change nothing -/
theorem z_run_more {H : Type} {hop : zE → List Value → H → Option (List Value × H)} {rcv : H → Nat → Nat → Bool} {P : Nat → Nat → Option zE} {rk : Nat → Option FieldType} : ∀ (n : Nat) (j pc : Nat) (L : zL) (st : List Value) (h : H) (x : Option Value × H), z_run hop rcv P rk n j pc L st h = some x → z_run hop rcv P rk (n + 1) j pc L st h = some x := by
  intro n
  induction n with
  | zero => intro j pc L st h x hx; simp [z_run] at hx
  | succ n ih =>
    intro j pc L st h x hx
    rw [z_run] at hx ⊢
    cases hP : P j pc with
    | none => rw [hP] at hx; cases hx
    | some e =>
      rw [hP] at hx
      dsimp only at hx ⊢
      cases hc : z_ctl rcv (rk j) e st h with
      | none =>
        rw [hc] at hx
        dsimp only at hx ⊢
        cases hs : z_stp hop pc e L st h with
        | none => rw [hs] at hx; cases hx
        | some c =>
          obtain ⟨pc', L', st', h'⟩ := c
          rw [hs] at hx
          exact ih _ _ _ _ _ _ hx
      | some w =>
        rw [hc] at hx
        cases w with
        | inr v => exact hx
        | inl c =>
          obtain ⟨k, args, r⟩ := c
          dsimp only at hx ⊢
          cases hr : z_run hop rcv P rk n k 0 (z_args 0 args) [] h with
          | none => rw [hr] at hx; cases hx
          | some y =>
            obtain ⟨v, h'⟩ := y
            rw [hr] at hx
            rw [ih _ _ _ _ _ _ hr]
            exact ih _ _ _ _ _ _ hx
theorem z_run_le {H : Type} {hop : zE → List Value → H → Option (List Value × H)} {rcv : H → Nat → Nat → Bool} {P : Nat → Nat → Option zE} {rk : Nat → Option FieldType} {n m : Nat} (hnm : n ≤ m) {j pc : Nat} {L : zL} {st : List Value} {h : H} {x : Option Value × H} (hx : z_run hop rcv P rk n j pc L st h = some x) : z_run hop rcv P rk m j pc L st h = some x := by
  induction hnm with
  | refl => exact hx
  | step _ ih => exact z_run_more _ _ _ _ _ _ _ ih
/-! what stands below the heap and is only read: the words of the tape, the table of kinds, the script -/
def z_wd : List (List Int32) := [[115, 104, 105, 112], [116, 97, 108, 108], [116, 111, 119, 101, 100], [100, 114, 97, 103, 103, 105, 110, 103], [98, 117, 114, 110, 105, 110, 103], [115, 109, 117, 103, 103, 108, 101, 114], [115, 105, 122, 101], [98, 101, 97, 114, 115], [119, 111, 114, 110], [111, 110], [97, 116], [97, 110, 99, 104, 111, 114], [104, 97, 110, 103], [111, 100, 100, 115]]
def z_wb (q : Nat) : List Int32 := z_wd.getD q []
def z_ka : List Int32 := [-1, 0, 0, 0, 1, 2]
/-! the heap of the first kind: a list of cells -/
def z_strf (q b : Nat) : Option Value := cond (Nat.ble 1000 q && Nat.ble q 1013) (match b with
  | 0 => some (.ref (q + 1000))
  | 1 => some (.int 0)
  | _ => none) none
def z_bytes (q : Nat) : Option (Nat × (Nat → Int32)) := cond (Nat.ble 2000 q && Nat.ble q 2013) (some ((z_wb (q - 2000)).length, fun i => (z_wb (q - 2000)).getD i 0)) none
/-- the types of the fields -/
def z_ft (ci k : Nat) : Nat := match ci with
  | 0 => cond (Nat.ble k 7) 2 0
  | 1 => cond (Nat.beq k 0) 2 0
  | 2 => cond (Nat.beq k 1 || Nat.beq k 5) 0 2
  | 3 => cond (Nat.beq k 0) 2 0
  | 4 => cond (Nat.beq k 6) 1 2
  | _ => match k with
    | 5 => 1
    | 8 => 0
    | 13 => 0
    | 14 => 0
    | 15 => 0
    | 16 => 0
    | 17 => 0
    | 18 => 0
    | _ => 2
def z_fit (t : Nat) (v : Value) : Bool := match t, v with
  | 0, .int _ => true
  | 1, .int x => x == 0 || x == 1
  | 2, .ref _ => true
  | _, _ => false
/-- the fields of a new object -/
def z_new (ci : Nat) : List Value := match ci with
  | 0 => [.null, .null, .null, .null, .null, .null, .null, .null, .int 0, .int 0, .int 0]
  | 1 => [.null, .int 0, .int 0]
  | 2 => [.null, .int 0, .null, .null, .null, .int 0]
  | 3 => [.null, .int 0, .int 0]
  | 4 => [.null, .null, .null, .null, .null, .null, .int 0]
  | _ => [.null, .null, .null, .null, .null, .int 0, .null, .null, .int 0, .null, .null, .null, .null, .int 0, .int 0, .int 0, .int 0, .int 0, .int 0]
def z_ints (X : Nat × (Nat → Int32)) (q : Nat) (h : zH) : Option (Nat × (Nat → Int32)) := cond (Nat.ble 1000 q) (cond (Nat.beq q 3000) (some (6, fun i => z_ka.getD i 0)) (cond (Nat.beq q 3001) (some X) none)) (match h[q]? with
  | some (.inl (n, .inl f)) => some (n, f)
  | _ => none)
def z_len (X : Nat × (Nat → Int32)) (q : Nat) (h : zH) : Option Nat := cond (Nat.ble 1000 q) (cond (Nat.beq q 3000) (some 6) (cond (Nat.beq q 3001) (some X.1) (match z_bytes q with
  | some (n, _) => some n
  | none => none))) (match h[q]? with
  | some (.inl (n, _)) => some n
  | _ => none)
def z_hop1 (X : Nat × (Nat → Int32)) (e : zE) (st : List Value) (h : zH) : Option (List Value × zH) :=
  match e with
  | (ins, _, _, a, b, v) => match ins with
    | .getfield _ => match st with
      | .ref q :: r => cond (Nat.beq a 100) (match z_strf q b with
          | some w => some (w :: r, h)
          | none => none) (match h[q]? with
          | some (.inr (ci, fs)) => cond (Nat.beq ci a) (match fs[b]? with
            | some w => some (w :: r, h)
            | none => none) none
          | _ => none)
      | _ => none
    | .putfield _ => match st with
      | w :: .ref q :: r => match h[q]? with
        | some (.inr (ci, fs)) => cond (Nat.beq ci a && Nat.blt b fs.length && z_fit (z_ft a b) w) (some (r, h.set q (.inr (ci, fs.set b w)))) none
        | _ => none
      | _ => none
    | .getstatic _ => some (v :: st, h)
    | .arraylength => match st with
      | .ref q :: r => match z_len X q h with
        | some n => some (.int (Int32.ofNat n) :: r, h)
        | none => none
      | _ => none
    | .iaload => match st with
      | .int i :: .ref q :: r => match z_ints X q h with
        | some (n, f) => if i < 0 ∨ n ≤ i.toNatClampNeg then none else some (.int (f i.toNatClampNeg) :: r, h)
        | none => none
      | _ => none
    | .baload => match st with
      | .int i :: .ref q :: r => match z_bytes q with
        | some (n, f) => if i < 0 ∨ n ≤ i.toNatClampNeg then none else some (.int (f i.toNatClampNeg) :: r, h)
        | none => none
      | _ => none
    | .iastore => match st with
      | .int x :: .int i :: .ref q :: r => match h[q]? with
        | some (.inl (n, .inl f)) => if i < 0 ∨ n ≤ i.toNatClampNeg then none else some (r, h.set q (.inl (n, .inl (upd f i.toNatClampNeg x))))
        | _ => none
      | _ => none
    | .laload => match st with
      | .int i :: .ref q :: r => match h[q]? with
        | some (.inl (n, .inr (.inl f))) => if i < 0 ∨ n ≤ i.toNatClampNeg then none else some (.long (f i.toNatClampNeg) :: r, h)
        | _ => none
      | _ => none
    | .lastore => match st with
      | .long x :: .int i :: .ref q :: r => match h[q]? with
        | some (.inl (n, .inr (.inl f))) => if i < 0 ∨ n ≤ i.toNatClampNeg then none else some (r, h.set q (.inl (n, .inr (.inl (vp_updL f i.toNatClampNeg x)))))
        | _ => none
      | _ => none
    | .aaload => match st with
      | .int i :: .ref q :: r => match h[q]? with
        | some (.inl (n, .inr (.inr f))) => if i < 0 ∨ n ≤ i.toNatClampNeg then none else (match f i.toNatClampNeg with
          | some k => cond (Nat.blt k 1000) (some (.ref k :: r, h)) none
          | none => some (.null :: r, h))
        | _ => none
      | _ => none
    | .aastore => match st with
      | .ref k :: .int i :: .ref q :: r => match h[q]?, h[k]? with
        | some (.inl (n, .inr (.inr f))), some (.inr (ci, _)) => cond (Nat.beq ci 1) (if i < 0 ∨ n ≤ i.toNatClampNeg then none else some (r, h.set q (.inl (n, .inr (.inr (va_up f i.toNatClampNeg (some k))))))) none
        | _, _ => none
      | _ => none
    | .newarray t => match st with
      | .int i :: r => if i < 0 ∨ 1000 ≤ i.toNatClampNeg ∨ 1000 ≤ h.length then none else (match t with
        | .int => some (.ref h.length :: r, h ++ [.inl (i.toNatClampNeg, .inl (fun _ => 0))])
        | .long => some (.ref h.length :: r, h ++ [.inl (i.toNatClampNeg, .inr (.inl (fun _ => 0)))])
        | _ => none)
      | _ => none
    | .anewarray _ => match st with
      | .int i :: r => if i < 0 ∨ 1000 ≤ i.toNatClampNeg ∨ 1000 ≤ h.length then none else some (.ref h.length :: r, h ++ [.inl (i.toNatClampNeg, .inr (.inr (fun _ => none)))])
      | _ => none
    | .new _ => if 1000 ≤ h.length then none else some (.ref h.length :: st, h ++ [.inr (a, z_new a)])
    | .invokespecial _ => match st with
      | .ref q :: r => cond (Nat.beq a 998 && Nat.ble (z_sum r) 8 && Nat.blt q 1000) (some (r, h)) none
      | _ => none
    | .invokestatic _ => cond (Nat.beq a 996) (match st with
      | .int y :: .int x :: r => cond (Nat.ble (z_sum r) 8) (some (.int (if x < y then y else x) :: r, h)) none
      | _ => none) (cond (Nat.beq a 995) (match st with
      | .int y :: .int x :: r => cond (Nat.ble (z_sum r) 8) (some (.int (if y < x then y else x) :: r, h)) none
      | _ => none) (match st with
      | .int n :: .int dp :: .ref q1 :: .int sp :: .ref q0 :: r => cond (Nat.beq a 999 && Nat.ble (z_sum r) 8) (match h[q0]?, h[q1]? with
        | some (.inl (n0, .inl f)), some (.inl (n1, .inl g)) => if sp < 0 ∨ dp < 0 ∨ n < 0 ∨ n0 < sp.toNatClampNeg + n.toNatClampNeg ∨ n1 < dp.toNatClampNeg + n.toNatClampNeg then none else some (r, h.set q1 (.inl (n1, .inl (va_cpy f g sp.toNatClampNeg dp.toNatClampNeg n.toNatClampNeg))))
        | some (.inl (n0, .inr (.inl f))), some (.inl (n1, .inr (.inl g))) => if sp < 0 ∨ dp < 0 ∨ n < 0 ∨ n0 < sp.toNatClampNeg + n.toNatClampNeg ∨ n1 < dp.toNatClampNeg + n.toNatClampNeg then none else some (r, h.set q1 (.inl (n1, .inr (.inl (va_cpy f g sp.toNatClampNeg dp.toNatClampNeg n.toNatClampNeg)))))
        | _, _ => none) none
      | _ => none))
    | _ => none
def z_rcv1 (h : zH) (q tg : Nat) : Bool := cond (Nat.beq tg 8) (Nat.ble 1000 q && Nat.ble q 1013) (match h[q]? with
  | some (.inr (ci, _)) => Nat.beq ci tg
  | _ => false)
