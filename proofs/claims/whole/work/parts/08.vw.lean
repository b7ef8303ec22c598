/-! A road behind one change. -/
def up0 (S : zS) (x : Int32) : zS := upd S (0) x
def up1 (S : zS) (x : Int32) : zS := upd S (1) x
def up2 (S : zS) (x : Int32) : zS := upd S (2) x
def uph (S : zS) (k : Nat) (x : Int32) : zS := upd S (3 + k) x
def upo (S : zS) (k : Nat) (x : Int32) : zS := upd S (9 + k) x
def upk (S : zS) (k : Nat) (x : Int32) : zS := upd S (22 + 5 * k) x
def ups (S : zS) (k : Nat) (x : Int32) : zS := upd S (23 + 5 * k) x
def upc (S : zS) (k : Nat) (x : Int32) : zS := upd S (24 + 5 * k) x
def upw (S : zS) (k : Nat) (x : Int32) : zS := upd S (25 + 5 * k) x
def upl (S : zS) (k : Nat) (x : Int32) : zS := upd S (26 + 5 * k) x
theorem Vw.up0 {M : zM} {rb : Nat} {S : zS} (h : Vw M rb S) (x : Int32) : Vw (z_up M rb 8 x) rb (up0 S x) := by
  refine ⟨?_, ?_, ?_, ?_, ?_, ?_, ?_, ?_, ?_, ?_⟩
  · show z_up M rb 8 x rb 8 = if 0 = 0 then x else S (0)
    rw [z_up_a]
    rw [if_pos rfl, if_pos rfl]
  · show z_up M rb 8 x rb 10 = if 1 = 0 then x else S (1)
    rw [z_up_a]
    rw [if_neg (by decide), if_neg (by decide)]
    exact h.s1
  · show z_up M rb 8 x rb 9 = if 2 = 0 then x else S (2)
    rw [z_up_a]
    rw [if_neg (by decide), if_neg (by decide)]
    exact h.s2
  · intro a ha
    show z_up M rb 8 x (rb + 1) a = if 3 + a = 0 then x else S (3 + a)
    rw [z_up_ne _ _ _ (by omega), if_neg (by omega)]
    exact h.ho a ha
  · intro a ha
    show z_up M rb 8 x (rb + 2) a = if 9 + a = 0 then x else S (9 + a)
    rw [z_up_ne _ _ _ (by omega), if_neg (by omega)]
    exact h.od a ha
  · intro a ha
    show z_up M rb 8 x (rb + 3) a = if 22 + 5 * a = 0 then x else S (22 + 5 * a)
    rw [z_up_ne _ _ _ (by omega), if_neg (by omega)]
    exact h.fk a ha
  · intro a ha
    show z_up M rb 8 x (rb + 4) a = if 23 + 5 * a = 0 then x else S (23 + 5 * a)
    rw [z_up_ne _ _ _ (by omega), if_neg (by omega)]
    exact h.fs a ha
  · intro a ha
    show z_up M rb 8 x (rb + 5) a = if 24 + 5 * a = 0 then x else S (24 + 5 * a)
    rw [z_up_ne _ _ _ (by omega), if_neg (by omega)]
    exact h.fc a ha
  · intro a ha
    show z_up M rb 8 x (rb + 6) a = if 25 + 5 * a = 0 then x else S (25 + 5 * a)
    rw [z_up_ne _ _ _ (by omega), if_neg (by omega)]
    exact h.fw a ha
  · intro a ha
    show z_up M rb 8 x (rb + 7) a = if 26 + 5 * a = 0 then x else S (26 + 5 * a)
    rw [z_up_ne _ _ _ (by omega), if_neg (by omega)]
    exact h.fl a ha
theorem Vw.up1 {M : zM} {rb : Nat} {S : zS} (h : Vw M rb S) (x : Int32) : Vw (z_up M rb 10 x) rb (up1 S x) := by
  refine ⟨?_, ?_, ?_, ?_, ?_, ?_, ?_, ?_, ?_, ?_⟩
  · show z_up M rb 10 x rb 8 = if 0 = 1 then x else S (0)
    rw [z_up_a]
    rw [if_neg (by decide), if_neg (by decide)]
    exact h.s0
  · show z_up M rb 10 x rb 10 = if 1 = 1 then x else S (1)
    rw [z_up_a]
    rw [if_pos rfl, if_pos rfl]
  · show z_up M rb 10 x rb 9 = if 2 = 1 then x else S (2)
    rw [z_up_a]
    rw [if_neg (by decide), if_neg (by decide)]
    exact h.s2
  · intro a ha
    show z_up M rb 10 x (rb + 1) a = if 3 + a = 1 then x else S (3 + a)
    rw [z_up_ne _ _ _ (by omega), if_neg (by omega)]
    exact h.ho a ha
  · intro a ha
    show z_up M rb 10 x (rb + 2) a = if 9 + a = 1 then x else S (9 + a)
    rw [z_up_ne _ _ _ (by omega), if_neg (by omega)]
    exact h.od a ha
  · intro a ha
    show z_up M rb 10 x (rb + 3) a = if 22 + 5 * a = 1 then x else S (22 + 5 * a)
    rw [z_up_ne _ _ _ (by omega), if_neg (by omega)]
    exact h.fk a ha
  · intro a ha
    show z_up M rb 10 x (rb + 4) a = if 23 + 5 * a = 1 then x else S (23 + 5 * a)
    rw [z_up_ne _ _ _ (by omega), if_neg (by omega)]
    exact h.fs a ha
  · intro a ha
    show z_up M rb 10 x (rb + 5) a = if 24 + 5 * a = 1 then x else S (24 + 5 * a)
    rw [z_up_ne _ _ _ (by omega), if_neg (by omega)]
    exact h.fc a ha
  · intro a ha
    show z_up M rb 10 x (rb + 6) a = if 25 + 5 * a = 1 then x else S (25 + 5 * a)
    rw [z_up_ne _ _ _ (by omega), if_neg (by omega)]
    exact h.fw a ha
  · intro a ha
    show z_up M rb 10 x (rb + 7) a = if 26 + 5 * a = 1 then x else S (26 + 5 * a)
    rw [z_up_ne _ _ _ (by omega), if_neg (by omega)]
    exact h.fl a ha
theorem Vw.up2 {M : zM} {rb : Nat} {S : zS} (h : Vw M rb S) (x : Int32) : Vw (z_up M rb 9 x) rb (up2 S x) := by
  refine ⟨?_, ?_, ?_, ?_, ?_, ?_, ?_, ?_, ?_, ?_⟩
  · show z_up M rb 9 x rb 8 = if 0 = 2 then x else S (0)
    rw [z_up_a]
    rw [if_neg (by decide), if_neg (by decide)]
    exact h.s0
  · show z_up M rb 9 x rb 10 = if 1 = 2 then x else S (1)
    rw [z_up_a]
    rw [if_neg (by decide), if_neg (by decide)]
    exact h.s1
  · show z_up M rb 9 x rb 9 = if 2 = 2 then x else S (2)
    rw [z_up_a]
    rw [if_pos rfl, if_pos rfl]
  · intro a ha
    show z_up M rb 9 x (rb + 1) a = if 3 + a = 2 then x else S (3 + a)
    rw [z_up_ne _ _ _ (by omega), if_neg (by omega)]
    exact h.ho a ha
  · intro a ha
    show z_up M rb 9 x (rb + 2) a = if 9 + a = 2 then x else S (9 + a)
    rw [z_up_ne _ _ _ (by omega), if_neg (by omega)]
    exact h.od a ha
  · intro a ha
    show z_up M rb 9 x (rb + 3) a = if 22 + 5 * a = 2 then x else S (22 + 5 * a)
    rw [z_up_ne _ _ _ (by omega), if_neg (by omega)]
    exact h.fk a ha
  · intro a ha
    show z_up M rb 9 x (rb + 4) a = if 23 + 5 * a = 2 then x else S (23 + 5 * a)
    rw [z_up_ne _ _ _ (by omega), if_neg (by omega)]
    exact h.fs a ha
  · intro a ha
    show z_up M rb 9 x (rb + 5) a = if 24 + 5 * a = 2 then x else S (24 + 5 * a)
    rw [z_up_ne _ _ _ (by omega), if_neg (by omega)]
    exact h.fc a ha
  · intro a ha
    show z_up M rb 9 x (rb + 6) a = if 25 + 5 * a = 2 then x else S (25 + 5 * a)
    rw [z_up_ne _ _ _ (by omega), if_neg (by omega)]
    exact h.fw a ha
  · intro a ha
    show z_up M rb 9 x (rb + 7) a = if 26 + 5 * a = 2 then x else S (26 + 5 * a)
    rw [z_up_ne _ _ _ (by omega), if_neg (by omega)]
    exact h.fl a ha
theorem Vw.uph {M : zM} {rb : Nat} {S : zS} (h : Vw M rb S) {k : Nat} (hk : k < 6) (x : Int32) : Vw (z_up M (rb + 1) k x) rb (uph S k x) := by
  refine ⟨?_, ?_, ?_, ?_, ?_, ?_, ?_, ?_, ?_, ?_⟩
  · show z_up M (rb + 1) k x rb 8 = if 0 = 3 + k then x else S (0)
    rw [z_up_ne _ _ _ (by omega), if_neg (by omega)]
    exact h.s0
  · show z_up M (rb + 1) k x rb 10 = if 1 = 3 + k then x else S (1)
    rw [z_up_ne _ _ _ (by omega), if_neg (by omega)]
    exact h.s1
  · show z_up M (rb + 1) k x rb 9 = if 2 = 3 + k then x else S (2)
    rw [z_up_ne _ _ _ (by omega), if_neg (by omega)]
    exact h.s2
  · intro a ha
    show z_up M (rb + 1) k x (rb + 1) a = if 3 + a = 3 + k then x else S (3 + a)
    rw [z_up_a]
    by_cases e : a = k
    · rw [if_pos e, if_pos (by omega)]
    · rw [if_neg e, if_neg (by omega)]
      exact h.ho a ha
  · intro a ha
    show z_up M (rb + 1) k x (rb + 2) a = if 9 + a = 3 + k then x else S (9 + a)
    rw [z_up_ne _ _ _ (by omega), if_neg (by omega)]
    exact h.od a ha
  · intro a ha
    show z_up M (rb + 1) k x (rb + 3) a = if 22 + 5 * a = 3 + k then x else S (22 + 5 * a)
    rw [z_up_ne _ _ _ (by omega), if_neg (by omega)]
    exact h.fk a ha
  · intro a ha
    show z_up M (rb + 1) k x (rb + 4) a = if 23 + 5 * a = 3 + k then x else S (23 + 5 * a)
    rw [z_up_ne _ _ _ (by omega), if_neg (by omega)]
    exact h.fs a ha
  · intro a ha
    show z_up M (rb + 1) k x (rb + 5) a = if 24 + 5 * a = 3 + k then x else S (24 + 5 * a)
    rw [z_up_ne _ _ _ (by omega), if_neg (by omega)]
    exact h.fc a ha
  · intro a ha
    show z_up M (rb + 1) k x (rb + 6) a = if 25 + 5 * a = 3 + k then x else S (25 + 5 * a)
    rw [z_up_ne _ _ _ (by omega), if_neg (by omega)]
    exact h.fw a ha
  · intro a ha
    show z_up M (rb + 1) k x (rb + 7) a = if 26 + 5 * a = 3 + k then x else S (26 + 5 * a)
    rw [z_up_ne _ _ _ (by omega), if_neg (by omega)]
    exact h.fl a ha
theorem Vw.upo {M : zM} {rb : Nat} {S : zS} (h : Vw M rb S) {k : Nat} (hk : k < 13) (x : Int32) : Vw (z_up M (rb + 2) k x) rb (upo S k x) := by
  refine ⟨?_, ?_, ?_, ?_, ?_, ?_, ?_, ?_, ?_, ?_⟩
  · show z_up M (rb + 2) k x rb 8 = if 0 = 9 + k then x else S (0)
    rw [z_up_ne _ _ _ (by omega), if_neg (by omega)]
    exact h.s0
  · show z_up M (rb + 2) k x rb 10 = if 1 = 9 + k then x else S (1)
    rw [z_up_ne _ _ _ (by omega), if_neg (by omega)]
    exact h.s1
  · show z_up M (rb + 2) k x rb 9 = if 2 = 9 + k then x else S (2)
    rw [z_up_ne _ _ _ (by omega), if_neg (by omega)]
    exact h.s2
  · intro a ha
    show z_up M (rb + 2) k x (rb + 1) a = if 3 + a = 9 + k then x else S (3 + a)
    rw [z_up_ne _ _ _ (by omega), if_neg (by omega)]
    exact h.ho a ha
  · intro a ha
    show z_up M (rb + 2) k x (rb + 2) a = if 9 + a = 9 + k then x else S (9 + a)
    rw [z_up_a]
    by_cases e : a = k
    · rw [if_pos e, if_pos (by omega)]
    · rw [if_neg e, if_neg (by omega)]
      exact h.od a ha
  · intro a ha
    show z_up M (rb + 2) k x (rb + 3) a = if 22 + 5 * a = 9 + k then x else S (22 + 5 * a)
    rw [z_up_ne _ _ _ (by omega), if_neg (by omega)]
    exact h.fk a ha
  · intro a ha
    show z_up M (rb + 2) k x (rb + 4) a = if 23 + 5 * a = 9 + k then x else S (23 + 5 * a)
    rw [z_up_ne _ _ _ (by omega), if_neg (by omega)]
    exact h.fs a ha
  · intro a ha
    show z_up M (rb + 2) k x (rb + 5) a = if 24 + 5 * a = 9 + k then x else S (24 + 5 * a)
    rw [z_up_ne _ _ _ (by omega), if_neg (by omega)]
    exact h.fc a ha
  · intro a ha
    show z_up M (rb + 2) k x (rb + 6) a = if 25 + 5 * a = 9 + k then x else S (25 + 5 * a)
    rw [z_up_ne _ _ _ (by omega), if_neg (by omega)]
    exact h.fw a ha
  · intro a ha
    show z_up M (rb + 2) k x (rb + 7) a = if 26 + 5 * a = 9 + k then x else S (26 + 5 * a)
    rw [z_up_ne _ _ _ (by omega), if_neg (by omega)]
    exact h.fl a ha
theorem Vw.upk {M : zM} {rb : Nat} {S : zS} (h : Vw M rb S) {k : Nat} (hk : k < 12) (x : Int32) : Vw (z_up M (rb + 3) k x) rb (upk S k x) := by
  refine ⟨?_, ?_, ?_, ?_, ?_, ?_, ?_, ?_, ?_, ?_⟩
  · show z_up M (rb + 3) k x rb 8 = if 0 = 22 + 5 * k then x else S (0)
    rw [z_up_ne _ _ _ (by omega), if_neg (by omega)]
    exact h.s0
  · show z_up M (rb + 3) k x rb 10 = if 1 = 22 + 5 * k then x else S (1)
    rw [z_up_ne _ _ _ (by omega), if_neg (by omega)]
    exact h.s1
  · show z_up M (rb + 3) k x rb 9 = if 2 = 22 + 5 * k then x else S (2)
    rw [z_up_ne _ _ _ (by omega), if_neg (by omega)]
    exact h.s2
  · intro a ha
    show z_up M (rb + 3) k x (rb + 1) a = if 3 + a = 22 + 5 * k then x else S (3 + a)
    rw [z_up_ne _ _ _ (by omega), if_neg (by omega)]
    exact h.ho a ha
  · intro a ha
    show z_up M (rb + 3) k x (rb + 2) a = if 9 + a = 22 + 5 * k then x else S (9 + a)
    rw [z_up_ne _ _ _ (by omega), if_neg (by omega)]
    exact h.od a ha
  · intro a ha
    show z_up M (rb + 3) k x (rb + 3) a = if 22 + 5 * a = 22 + 5 * k then x else S (22 + 5 * a)
    rw [z_up_a]
    by_cases e : a = k
    · rw [if_pos e, if_pos (by omega)]
    · rw [if_neg e, if_neg (by omega)]
      exact h.fk a ha
  · intro a ha
    show z_up M (rb + 3) k x (rb + 4) a = if 23 + 5 * a = 22 + 5 * k then x else S (23 + 5 * a)
    rw [z_up_ne _ _ _ (by omega), if_neg (by omega)]
    exact h.fs a ha
  · intro a ha
    show z_up M (rb + 3) k x (rb + 5) a = if 24 + 5 * a = 22 + 5 * k then x else S (24 + 5 * a)
    rw [z_up_ne _ _ _ (by omega), if_neg (by omega)]
    exact h.fc a ha
  · intro a ha
    show z_up M (rb + 3) k x (rb + 6) a = if 25 + 5 * a = 22 + 5 * k then x else S (25 + 5 * a)
    rw [z_up_ne _ _ _ (by omega), if_neg (by omega)]
    exact h.fw a ha
  · intro a ha
    show z_up M (rb + 3) k x (rb + 7) a = if 26 + 5 * a = 22 + 5 * k then x else S (26 + 5 * a)
    rw [z_up_ne _ _ _ (by omega), if_neg (by omega)]
    exact h.fl a ha
theorem Vw.ups {M : zM} {rb : Nat} {S : zS} (h : Vw M rb S) {k : Nat} (hk : k < 12) (x : Int32) : Vw (z_up M (rb + 4) k x) rb (ups S k x) := by
  refine ⟨?_, ?_, ?_, ?_, ?_, ?_, ?_, ?_, ?_, ?_⟩
  · show z_up M (rb + 4) k x rb 8 = if 0 = 23 + 5 * k then x else S (0)
    rw [z_up_ne _ _ _ (by omega), if_neg (by omega)]
    exact h.s0
  · show z_up M (rb + 4) k x rb 10 = if 1 = 23 + 5 * k then x else S (1)
    rw [z_up_ne _ _ _ (by omega), if_neg (by omega)]
    exact h.s1
  · show z_up M (rb + 4) k x rb 9 = if 2 = 23 + 5 * k then x else S (2)
    rw [z_up_ne _ _ _ (by omega), if_neg (by omega)]
    exact h.s2
  · intro a ha
    show z_up M (rb + 4) k x (rb + 1) a = if 3 + a = 23 + 5 * k then x else S (3 + a)
    rw [z_up_ne _ _ _ (by omega), if_neg (by omega)]
    exact h.ho a ha
  · intro a ha
    show z_up M (rb + 4) k x (rb + 2) a = if 9 + a = 23 + 5 * k then x else S (9 + a)
    rw [z_up_ne _ _ _ (by omega), if_neg (by omega)]
    exact h.od a ha
  · intro a ha
    show z_up M (rb + 4) k x (rb + 3) a = if 22 + 5 * a = 23 + 5 * k then x else S (22 + 5 * a)
    rw [z_up_ne _ _ _ (by omega), if_neg (by omega)]
    exact h.fk a ha
  · intro a ha
    show z_up M (rb + 4) k x (rb + 4) a = if 23 + 5 * a = 23 + 5 * k then x else S (23 + 5 * a)
    rw [z_up_a]
    by_cases e : a = k
    · rw [if_pos e, if_pos (by omega)]
    · rw [if_neg e, if_neg (by omega)]
      exact h.fs a ha
  · intro a ha
    show z_up M (rb + 4) k x (rb + 5) a = if 24 + 5 * a = 23 + 5 * k then x else S (24 + 5 * a)
    rw [z_up_ne _ _ _ (by omega), if_neg (by omega)]
    exact h.fc a ha
  · intro a ha
    show z_up M (rb + 4) k x (rb + 6) a = if 25 + 5 * a = 23 + 5 * k then x else S (25 + 5 * a)
    rw [z_up_ne _ _ _ (by omega), if_neg (by omega)]
    exact h.fw a ha
  · intro a ha
    show z_up M (rb + 4) k x (rb + 7) a = if 26 + 5 * a = 23 + 5 * k then x else S (26 + 5 * a)
    rw [z_up_ne _ _ _ (by omega), if_neg (by omega)]
    exact h.fl a ha
theorem Vw.upc {M : zM} {rb : Nat} {S : zS} (h : Vw M rb S) {k : Nat} (hk : k < 12) (x : Int32) : Vw (z_up M (rb + 5) k x) rb (upc S k x) := by
  refine ⟨?_, ?_, ?_, ?_, ?_, ?_, ?_, ?_, ?_, ?_⟩
  · show z_up M (rb + 5) k x rb 8 = if 0 = 24 + 5 * k then x else S (0)
    rw [z_up_ne _ _ _ (by omega), if_neg (by omega)]
    exact h.s0
  · show z_up M (rb + 5) k x rb 10 = if 1 = 24 + 5 * k then x else S (1)
    rw [z_up_ne _ _ _ (by omega), if_neg (by omega)]
    exact h.s1
  · show z_up M (rb + 5) k x rb 9 = if 2 = 24 + 5 * k then x else S (2)
    rw [z_up_ne _ _ _ (by omega), if_neg (by omega)]
    exact h.s2
  · intro a ha
    show z_up M (rb + 5) k x (rb + 1) a = if 3 + a = 24 + 5 * k then x else S (3 + a)
    rw [z_up_ne _ _ _ (by omega), if_neg (by omega)]
    exact h.ho a ha
  · intro a ha
    show z_up M (rb + 5) k x (rb + 2) a = if 9 + a = 24 + 5 * k then x else S (9 + a)
    rw [z_up_ne _ _ _ (by omega), if_neg (by omega)]
    exact h.od a ha
  · intro a ha
    show z_up M (rb + 5) k x (rb + 3) a = if 22 + 5 * a = 24 + 5 * k then x else S (22 + 5 * a)
    rw [z_up_ne _ _ _ (by omega), if_neg (by omega)]
    exact h.fk a ha
  · intro a ha
    show z_up M (rb + 5) k x (rb + 4) a = if 23 + 5 * a = 24 + 5 * k then x else S (23 + 5 * a)
    rw [z_up_ne _ _ _ (by omega), if_neg (by omega)]
    exact h.fs a ha
  · intro a ha
    show z_up M (rb + 5) k x (rb + 5) a = if 24 + 5 * a = 24 + 5 * k then x else S (24 + 5 * a)
    rw [z_up_a]
    by_cases e : a = k
    · rw [if_pos e, if_pos (by omega)]
    · rw [if_neg e, if_neg (by omega)]
      exact h.fc a ha
  · intro a ha
    show z_up M (rb + 5) k x (rb + 6) a = if 25 + 5 * a = 24 + 5 * k then x else S (25 + 5 * a)
    rw [z_up_ne _ _ _ (by omega), if_neg (by omega)]
    exact h.fw a ha
  · intro a ha
    show z_up M (rb + 5) k x (rb + 7) a = if 26 + 5 * a = 24 + 5 * k then x else S (26 + 5 * a)
    rw [z_up_ne _ _ _ (by omega), if_neg (by omega)]
    exact h.fl a ha
theorem Vw.upw {M : zM} {rb : Nat} {S : zS} (h : Vw M rb S) {k : Nat} (hk : k < 12) (x : Int32) : Vw (z_up M (rb + 6) k x) rb (upw S k x) := by
  refine ⟨?_, ?_, ?_, ?_, ?_, ?_, ?_, ?_, ?_, ?_⟩
  · show z_up M (rb + 6) k x rb 8 = if 0 = 25 + 5 * k then x else S (0)
    rw [z_up_ne _ _ _ (by omega), if_neg (by omega)]
    exact h.s0
  · show z_up M (rb + 6) k x rb 10 = if 1 = 25 + 5 * k then x else S (1)
    rw [z_up_ne _ _ _ (by omega), if_neg (by omega)]
    exact h.s1
  · show z_up M (rb + 6) k x rb 9 = if 2 = 25 + 5 * k then x else S (2)
    rw [z_up_ne _ _ _ (by omega), if_neg (by omega)]
    exact h.s2
  · intro a ha
    show z_up M (rb + 6) k x (rb + 1) a = if 3 + a = 25 + 5 * k then x else S (3 + a)
    rw [z_up_ne _ _ _ (by omega), if_neg (by omega)]
    exact h.ho a ha
  · intro a ha
    show z_up M (rb + 6) k x (rb + 2) a = if 9 + a = 25 + 5 * k then x else S (9 + a)
    rw [z_up_ne _ _ _ (by omega), if_neg (by omega)]
    exact h.od a ha
  · intro a ha
    show z_up M (rb + 6) k x (rb + 3) a = if 22 + 5 * a = 25 + 5 * k then x else S (22 + 5 * a)
    rw [z_up_ne _ _ _ (by omega), if_neg (by omega)]
    exact h.fk a ha
  · intro a ha
    show z_up M (rb + 6) k x (rb + 4) a = if 23 + 5 * a = 25 + 5 * k then x else S (23 + 5 * a)
    rw [z_up_ne _ _ _ (by omega), if_neg (by omega)]
    exact h.fs a ha
  · intro a ha
    show z_up M (rb + 6) k x (rb + 5) a = if 24 + 5 * a = 25 + 5 * k then x else S (24 + 5 * a)
    rw [z_up_ne _ _ _ (by omega), if_neg (by omega)]
    exact h.fc a ha
  · intro a ha
    show z_up M (rb + 6) k x (rb + 6) a = if 25 + 5 * a = 25 + 5 * k then x else S (25 + 5 * a)
    rw [z_up_a]
    by_cases e : a = k
    · rw [if_pos e, if_pos (by omega)]
    · rw [if_neg e, if_neg (by omega)]
      exact h.fw a ha
  · intro a ha
    show z_up M (rb + 6) k x (rb + 7) a = if 26 + 5 * a = 25 + 5 * k then x else S (26 + 5 * a)
    rw [z_up_ne _ _ _ (by omega), if_neg (by omega)]
    exact h.fl a ha
theorem Vw.upl {M : zM} {rb : Nat} {S : zS} (h : Vw M rb S) {k : Nat} (hk : k < 12) (x : Int32) : Vw (z_up M (rb + 7) k x) rb (upl S k x) := by
  refine ⟨?_, ?_, ?_, ?_, ?_, ?_, ?_, ?_, ?_, ?_⟩
  · show z_up M (rb + 7) k x rb 8 = if 0 = 26 + 5 * k then x else S (0)
    rw [z_up_ne _ _ _ (by omega), if_neg (by omega)]
    exact h.s0
  · show z_up M (rb + 7) k x rb 10 = if 1 = 26 + 5 * k then x else S (1)
    rw [z_up_ne _ _ _ (by omega), if_neg (by omega)]
    exact h.s1
  · show z_up M (rb + 7) k x rb 9 = if 2 = 26 + 5 * k then x else S (2)
    rw [z_up_ne _ _ _ (by omega), if_neg (by omega)]
    exact h.s2
  · intro a ha
    show z_up M (rb + 7) k x (rb + 1) a = if 3 + a = 26 + 5 * k then x else S (3 + a)
    rw [z_up_ne _ _ _ (by omega), if_neg (by omega)]
    exact h.ho a ha
  · intro a ha
    show z_up M (rb + 7) k x (rb + 2) a = if 9 + a = 26 + 5 * k then x else S (9 + a)
    rw [z_up_ne _ _ _ (by omega), if_neg (by omega)]
    exact h.od a ha
  · intro a ha
    show z_up M (rb + 7) k x (rb + 3) a = if 22 + 5 * a = 26 + 5 * k then x else S (22 + 5 * a)
    rw [z_up_ne _ _ _ (by omega), if_neg (by omega)]
    exact h.fk a ha
  · intro a ha
    show z_up M (rb + 7) k x (rb + 4) a = if 23 + 5 * a = 26 + 5 * k then x else S (23 + 5 * a)
    rw [z_up_ne _ _ _ (by omega), if_neg (by omega)]
    exact h.fs a ha
  · intro a ha
    show z_up M (rb + 7) k x (rb + 5) a = if 24 + 5 * a = 26 + 5 * k then x else S (24 + 5 * a)
    rw [z_up_ne _ _ _ (by omega), if_neg (by omega)]
    exact h.fc a ha
  · intro a ha
    show z_up M (rb + 7) k x (rb + 6) a = if 25 + 5 * a = 26 + 5 * k then x else S (25 + 5 * a)
    rw [z_up_ne _ _ _ (by omega), if_neg (by omega)]
    exact h.fw a ha
  · intro a ha
    show z_up M (rb + 7) k x (rb + 7) a = if 26 + 5 * a = 26 + 5 * k then x else S (26 + 5 * a)
    rw [z_up_a]
    by_cases e : a = k
    · rw [if_pos e, if_pos (by omega)]
    · rw [if_neg e, if_neg (by omega)]
      exact h.fl a ha
theorem kd_up0 (S : zS) (j : Nat) (x : Int32) : kd (up0 S x) j = kd S j := by
  show (if 22 + 5 * j = 0 then x else S (22 + 5 * j)) = _
  rw [if_neg (by omega)]; rfl
theorem sz_up0 (S : zS) (j : Nat) (x : Int32) : sz (up0 S x) j = sz S j := by
  show (if 23 + 5 * j = 0 then x else S (23 + 5 * j)) = _
  rw [if_neg (by omega)]; rfl
theorem ch_up0 (S : zS) (j : Nat) (x : Int32) : ch (up0 S x) j = ch S j := by
  show (if 24 + 5 * j = 0 then x else S (24 + 5 * j)) = _
  rw [if_neg (by omega)]; rfl
theorem wo_up0 (S : zS) (j : Nat) (x : Int32) : wo (up0 S x) j = wo S j := by
  show (if 25 + 5 * j = 0 then x else S (25 + 5 * j)) = _
  rw [if_neg (by omega)]; rfl
theorem lk_up0 (S : zS) (j : Nat) (x : Int32) : lk (up0 S x) j = lk S j := by
  show (if 26 + 5 * j = 0 then x else S (26 + 5 * j)) = _
  rw [if_neg (by omega)]; rfl
theorem s0_up0 (S : zS) (x : Int32) : up0 S x 0 = x := by
  show (if (0 : Nat) = 0 then x else S 0) = x
  rw [if_pos rfl]
theorem s1_up0 (S : zS) (x : Int32) : up0 S x 1 = S 1 := by
  show (if 1 = 0 then x else S 1) = _
  rw [if_neg (by omega)]
theorem s2_up0 (S : zS) (x : Int32) : up0 S x 2 = S 2 := by
  show (if 2 = 0 then x else S 2) = _
  rw [if_neg (by omega)]
theorem ho_up0 (S : zS) {a : Nat} (ha : a < 6) (x : Int32) : up0 S x (3 + a) = S (3 + a) := by
  show (if 3 + a = 0 then x else S (3 + a)) = _
  rw [if_neg (by omega)]
theorem od_up0 (S : zS) {a : Nat} (ha : a < 13) (x : Int32) : up0 S x (9 + a) = S (9 + a) := by
  show (if 9 + a = 0 then x else S (9 + a)) = _
  rw [if_neg (by omega)]
theorem kd_up1 (S : zS) (j : Nat) (x : Int32) : kd (up1 S x) j = kd S j := by
  show (if 22 + 5 * j = 1 then x else S (22 + 5 * j)) = _
  rw [if_neg (by omega)]; rfl
theorem sz_up1 (S : zS) (j : Nat) (x : Int32) : sz (up1 S x) j = sz S j := by
  show (if 23 + 5 * j = 1 then x else S (23 + 5 * j)) = _
  rw [if_neg (by omega)]; rfl
theorem ch_up1 (S : zS) (j : Nat) (x : Int32) : ch (up1 S x) j = ch S j := by
  show (if 24 + 5 * j = 1 then x else S (24 + 5 * j)) = _
  rw [if_neg (by omega)]; rfl
theorem wo_up1 (S : zS) (j : Nat) (x : Int32) : wo (up1 S x) j = wo S j := by
  show (if 25 + 5 * j = 1 then x else S (25 + 5 * j)) = _
  rw [if_neg (by omega)]; rfl
theorem lk_up1 (S : zS) (j : Nat) (x : Int32) : lk (up1 S x) j = lk S j := by
  show (if 26 + 5 * j = 1 then x else S (26 + 5 * j)) = _
  rw [if_neg (by omega)]; rfl
theorem s0_up1 (S : zS) (x : Int32) : up1 S x 0 = S 0 := by
  show (if 0 = 1 then x else S 0) = _
  rw [if_neg (by omega)]
theorem s1_up1 (S : zS) (x : Int32) : up1 S x 1 = x := by
  show (if (1 : Nat) = 1 then x else S 1) = x
  rw [if_pos rfl]
theorem s2_up1 (S : zS) (x : Int32) : up1 S x 2 = S 2 := by
  show (if 2 = 1 then x else S 2) = _
  rw [if_neg (by omega)]
theorem ho_up1 (S : zS) {a : Nat} (ha : a < 6) (x : Int32) : up1 S x (3 + a) = S (3 + a) := by
  show (if 3 + a = 1 then x else S (3 + a)) = _
  rw [if_neg (by omega)]
theorem od_up1 (S : zS) {a : Nat} (ha : a < 13) (x : Int32) : up1 S x (9 + a) = S (9 + a) := by
  show (if 9 + a = 1 then x else S (9 + a)) = _
  rw [if_neg (by omega)]
theorem kd_up2 (S : zS) (j : Nat) (x : Int32) : kd (up2 S x) j = kd S j := by
  show (if 22 + 5 * j = 2 then x else S (22 + 5 * j)) = _
  rw [if_neg (by omega)]; rfl
theorem sz_up2 (S : zS) (j : Nat) (x : Int32) : sz (up2 S x) j = sz S j := by
  show (if 23 + 5 * j = 2 then x else S (23 + 5 * j)) = _
  rw [if_neg (by omega)]; rfl
theorem ch_up2 (S : zS) (j : Nat) (x : Int32) : ch (up2 S x) j = ch S j := by
  show (if 24 + 5 * j = 2 then x else S (24 + 5 * j)) = _
  rw [if_neg (by omega)]; rfl
theorem wo_up2 (S : zS) (j : Nat) (x : Int32) : wo (up2 S x) j = wo S j := by
  show (if 25 + 5 * j = 2 then x else S (25 + 5 * j)) = _
  rw [if_neg (by omega)]; rfl
theorem lk_up2 (S : zS) (j : Nat) (x : Int32) : lk (up2 S x) j = lk S j := by
  show (if 26 + 5 * j = 2 then x else S (26 + 5 * j)) = _
  rw [if_neg (by omega)]; rfl
theorem s0_up2 (S : zS) (x : Int32) : up2 S x 0 = S 0 := by
  show (if 0 = 2 then x else S 0) = _
  rw [if_neg (by omega)]
theorem s1_up2 (S : zS) (x : Int32) : up2 S x 1 = S 1 := by
  show (if 1 = 2 then x else S 1) = _
  rw [if_neg (by omega)]
theorem s2_up2 (S : zS) (x : Int32) : up2 S x 2 = x := by
  show (if (2 : Nat) = 2 then x else S 2) = x
  rw [if_pos rfl]
theorem ho_up2 (S : zS) {a : Nat} (ha : a < 6) (x : Int32) : up2 S x (3 + a) = S (3 + a) := by
  show (if 3 + a = 2 then x else S (3 + a)) = _
  rw [if_neg (by omega)]
theorem od_up2 (S : zS) {a : Nat} (ha : a < 13) (x : Int32) : up2 S x (9 + a) = S (9 + a) := by
  show (if 9 + a = 2 then x else S (9 + a)) = _
  rw [if_neg (by omega)]
theorem kd_uph (S : zS) {k : Nat} (hk : k < 6) (j : Nat) (x : Int32) : kd (uph S k x) j = kd S j := by
  show (if 22 + 5 * j = 3 + k then x else S (22 + 5 * j)) = _
  rw [if_neg (by omega)]; rfl
theorem sz_uph (S : zS) {k : Nat} (hk : k < 6) (j : Nat) (x : Int32) : sz (uph S k x) j = sz S j := by
  show (if 23 + 5 * j = 3 + k then x else S (23 + 5 * j)) = _
  rw [if_neg (by omega)]; rfl
theorem ch_uph (S : zS) {k : Nat} (hk : k < 6) (j : Nat) (x : Int32) : ch (uph S k x) j = ch S j := by
  show (if 24 + 5 * j = 3 + k then x else S (24 + 5 * j)) = _
  rw [if_neg (by omega)]; rfl
theorem wo_uph (S : zS) {k : Nat} (hk : k < 6) (j : Nat) (x : Int32) : wo (uph S k x) j = wo S j := by
  show (if 25 + 5 * j = 3 + k then x else S (25 + 5 * j)) = _
  rw [if_neg (by omega)]; rfl
theorem lk_uph (S : zS) {k : Nat} (hk : k < 6) (j : Nat) (x : Int32) : lk (uph S k x) j = lk S j := by
  show (if 26 + 5 * j = 3 + k then x else S (26 + 5 * j)) = _
  rw [if_neg (by omega)]; rfl
theorem s0_uph (S : zS) (k : Nat) (x : Int32) : uph S k x 0 = S 0 := by
  show (if 0 = 3 + k then x else S 0) = _
  rw [if_neg (by omega)]
theorem s1_uph (S : zS) (k : Nat) (x : Int32) : uph S k x 1 = S 1 := by
  show (if 1 = 3 + k then x else S 1) = _
  rw [if_neg (by omega)]
theorem s2_uph (S : zS) (k : Nat) (x : Int32) : uph S k x 2 = S 2 := by
  show (if 2 = 3 + k then x else S 2) = _
  rw [if_neg (by omega)]
theorem ho_uph (S : zS) (k a : Nat) (x : Int32) : uph S k x (3 + a) = if a = k then x else S (3 + a) := by
  show (if 3 + a = 3 + k then x else S (3 + a)) = _
  by_cases e : a = k
  · rw [if_pos e, if_pos (by omega)]
  · rw [if_neg e, if_neg (by omega)]
theorem od_uph (S : zS) {k : Nat} (hk : k < 6) {a : Nat} (ha : a < 13) (x : Int32) : uph S k x (9 + a) = S (9 + a) := by
  show (if 9 + a = 3 + k then x else S (9 + a)) = _
  rw [if_neg (by omega)]
theorem kd_upo (S : zS) {k : Nat} (hk : k < 13) (j : Nat) (x : Int32) : kd (upo S k x) j = kd S j := by
  show (if 22 + 5 * j = 9 + k then x else S (22 + 5 * j)) = _
  rw [if_neg (by omega)]; rfl
theorem sz_upo (S : zS) {k : Nat} (hk : k < 13) (j : Nat) (x : Int32) : sz (upo S k x) j = sz S j := by
  show (if 23 + 5 * j = 9 + k then x else S (23 + 5 * j)) = _
  rw [if_neg (by omega)]; rfl
theorem ch_upo (S : zS) {k : Nat} (hk : k < 13) (j : Nat) (x : Int32) : ch (upo S k x) j = ch S j := by
  show (if 24 + 5 * j = 9 + k then x else S (24 + 5 * j)) = _
  rw [if_neg (by omega)]; rfl
theorem wo_upo (S : zS) {k : Nat} (hk : k < 13) (j : Nat) (x : Int32) : wo (upo S k x) j = wo S j := by
  show (if 25 + 5 * j = 9 + k then x else S (25 + 5 * j)) = _
  rw [if_neg (by omega)]; rfl
theorem lk_upo (S : zS) {k : Nat} (hk : k < 13) (j : Nat) (x : Int32) : lk (upo S k x) j = lk S j := by
  show (if 26 + 5 * j = 9 + k then x else S (26 + 5 * j)) = _
  rw [if_neg (by omega)]; rfl
theorem s0_upo (S : zS) (k : Nat) (x : Int32) : upo S k x 0 = S 0 := by
  show (if 0 = 9 + k then x else S 0) = _
  rw [if_neg (by omega)]
theorem s1_upo (S : zS) (k : Nat) (x : Int32) : upo S k x 1 = S 1 := by
  show (if 1 = 9 + k then x else S 1) = _
  rw [if_neg (by omega)]
theorem s2_upo (S : zS) (k : Nat) (x : Int32) : upo S k x 2 = S 2 := by
  show (if 2 = 9 + k then x else S 2) = _
  rw [if_neg (by omega)]
theorem ho_upo (S : zS) (k : Nat) {a : Nat} (ha : a < 6) (x : Int32) : upo S k x (3 + a) = S (3 + a) := by
  show (if 3 + a = 9 + k then x else S (3 + a)) = _
  rw [if_neg (by omega)]
theorem od_upo (S : zS) (k a : Nat) (x : Int32) : upo S k x (9 + a) = if a = k then x else S (9 + a) := by
  show (if 9 + a = 9 + k then x else S (9 + a)) = _
  by_cases e : a = k
  · rw [if_pos e, if_pos (by omega)]
  · rw [if_neg e, if_neg (by omega)]
theorem kd_upk (S : zS) (k j : Nat) (x : Int32) : kd (upk S k x) j = if j = k then x else kd S j := by
  show (if 22 + 5 * j = 22 + 5 * k then x else S (22 + 5 * j)) = _
  by_cases e : j = k
  · rw [if_pos e, if_pos (by omega)]
  · rw [if_neg e, if_neg (by omega)]; rfl
theorem sz_upk (S : zS) (k : Nat) (j : Nat) (x : Int32) : sz (upk S k x) j = sz S j := by
  show (if 23 + 5 * j = 22 + 5 * k then x else S (23 + 5 * j)) = _
  rw [if_neg (by omega)]; rfl
theorem ch_upk (S : zS) (k : Nat) (j : Nat) (x : Int32) : ch (upk S k x) j = ch S j := by
  show (if 24 + 5 * j = 22 + 5 * k then x else S (24 + 5 * j)) = _
  rw [if_neg (by omega)]; rfl
theorem wo_upk (S : zS) (k : Nat) (j : Nat) (x : Int32) : wo (upk S k x) j = wo S j := by
  show (if 25 + 5 * j = 22 + 5 * k then x else S (25 + 5 * j)) = _
  rw [if_neg (by omega)]; rfl
theorem lk_upk (S : zS) (k : Nat) (j : Nat) (x : Int32) : lk (upk S k x) j = lk S j := by
  show (if 26 + 5 * j = 22 + 5 * k then x else S (26 + 5 * j)) = _
  rw [if_neg (by omega)]; rfl
theorem s0_upk (S : zS) (k : Nat) (x : Int32) : upk S k x 0 = S 0 := by
  show (if 0 = 22 + 5 * k then x else S 0) = _
  rw [if_neg (by omega)]
theorem s1_upk (S : zS) (k : Nat) (x : Int32) : upk S k x 1 = S 1 := by
  show (if 1 = 22 + 5 * k then x else S 1) = _
  rw [if_neg (by omega)]
theorem s2_upk (S : zS) (k : Nat) (x : Int32) : upk S k x 2 = S 2 := by
  show (if 2 = 22 + 5 * k then x else S 2) = _
  rw [if_neg (by omega)]
theorem ho_upk (S : zS) (k : Nat) {a : Nat} (ha : a < 6) (x : Int32) : upk S k x (3 + a) = S (3 + a) := by
  show (if 3 + a = 22 + 5 * k then x else S (3 + a)) = _
  rw [if_neg (by omega)]
theorem od_upk (S : zS) (k : Nat) {a : Nat} (ha : a < 13) (x : Int32) : upk S k x (9 + a) = S (9 + a) := by
  show (if 9 + a = 22 + 5 * k then x else S (9 + a)) = _
  rw [if_neg (by omega)]
theorem kd_ups (S : zS) (k : Nat) (j : Nat) (x : Int32) : kd (ups S k x) j = kd S j := by
  show (if 22 + 5 * j = 23 + 5 * k then x else S (22 + 5 * j)) = _
  rw [if_neg (by omega)]; rfl
theorem sz_ups (S : zS) (k j : Nat) (x : Int32) : sz (ups S k x) j = if j = k then x else sz S j := by
  show (if 23 + 5 * j = 23 + 5 * k then x else S (23 + 5 * j)) = _
  by_cases e : j = k
  · rw [if_pos e, if_pos (by omega)]
  · rw [if_neg e, if_neg (by omega)]; rfl
theorem ch_ups (S : zS) (k : Nat) (j : Nat) (x : Int32) : ch (ups S k x) j = ch S j := by
  show (if 24 + 5 * j = 23 + 5 * k then x else S (24 + 5 * j)) = _
  rw [if_neg (by omega)]; rfl
theorem wo_ups (S : zS) (k : Nat) (j : Nat) (x : Int32) : wo (ups S k x) j = wo S j := by
  show (if 25 + 5 * j = 23 + 5 * k then x else S (25 + 5 * j)) = _
  rw [if_neg (by omega)]; rfl
theorem lk_ups (S : zS) (k : Nat) (j : Nat) (x : Int32) : lk (ups S k x) j = lk S j := by
  show (if 26 + 5 * j = 23 + 5 * k then x else S (26 + 5 * j)) = _
  rw [if_neg (by omega)]; rfl
theorem s0_ups (S : zS) (k : Nat) (x : Int32) : ups S k x 0 = S 0 := by
  show (if 0 = 23 + 5 * k then x else S 0) = _
  rw [if_neg (by omega)]
theorem s1_ups (S : zS) (k : Nat) (x : Int32) : ups S k x 1 = S 1 := by
  show (if 1 = 23 + 5 * k then x else S 1) = _
  rw [if_neg (by omega)]
theorem s2_ups (S : zS) (k : Nat) (x : Int32) : ups S k x 2 = S 2 := by
  show (if 2 = 23 + 5 * k then x else S 2) = _
  rw [if_neg (by omega)]
theorem ho_ups (S : zS) (k : Nat) {a : Nat} (ha : a < 6) (x : Int32) : ups S k x (3 + a) = S (3 + a) := by
  show (if 3 + a = 23 + 5 * k then x else S (3 + a)) = _
  rw [if_neg (by omega)]
theorem od_ups (S : zS) (k : Nat) {a : Nat} (ha : a < 13) (x : Int32) : ups S k x (9 + a) = S (9 + a) := by
  show (if 9 + a = 23 + 5 * k then x else S (9 + a)) = _
  rw [if_neg (by omega)]
theorem kd_upc (S : zS) (k : Nat) (j : Nat) (x : Int32) : kd (upc S k x) j = kd S j := by
  show (if 22 + 5 * j = 24 + 5 * k then x else S (22 + 5 * j)) = _
  rw [if_neg (by omega)]; rfl
theorem sz_upc (S : zS) (k : Nat) (j : Nat) (x : Int32) : sz (upc S k x) j = sz S j := by
  show (if 23 + 5 * j = 24 + 5 * k then x else S (23 + 5 * j)) = _
  rw [if_neg (by omega)]; rfl
theorem ch_upc (S : zS) (k j : Nat) (x : Int32) : ch (upc S k x) j = if j = k then x else ch S j := by
  show (if 24 + 5 * j = 24 + 5 * k then x else S (24 + 5 * j)) = _
  by_cases e : j = k
  · rw [if_pos e, if_pos (by omega)]
  · rw [if_neg e, if_neg (by omega)]; rfl
theorem wo_upc (S : zS) (k : Nat) (j : Nat) (x : Int32) : wo (upc S k x) j = wo S j := by
  show (if 25 + 5 * j = 24 + 5 * k then x else S (25 + 5 * j)) = _
  rw [if_neg (by omega)]; rfl
theorem lk_upc (S : zS) (k : Nat) (j : Nat) (x : Int32) : lk (upc S k x) j = lk S j := by
  show (if 26 + 5 * j = 24 + 5 * k then x else S (26 + 5 * j)) = _
  rw [if_neg (by omega)]; rfl
theorem s0_upc (S : zS) (k : Nat) (x : Int32) : upc S k x 0 = S 0 := by
  show (if 0 = 24 + 5 * k then x else S 0) = _
  rw [if_neg (by omega)]
theorem s1_upc (S : zS) (k : Nat) (x : Int32) : upc S k x 1 = S 1 := by
  show (if 1 = 24 + 5 * k then x else S 1) = _
  rw [if_neg (by omega)]
theorem s2_upc (S : zS) (k : Nat) (x : Int32) : upc S k x 2 = S 2 := by
  show (if 2 = 24 + 5 * k then x else S 2) = _
  rw [if_neg (by omega)]
theorem ho_upc (S : zS) (k : Nat) {a : Nat} (ha : a < 6) (x : Int32) : upc S k x (3 + a) = S (3 + a) := by
  show (if 3 + a = 24 + 5 * k then x else S (3 + a)) = _
  rw [if_neg (by omega)]
theorem od_upc (S : zS) (k : Nat) {a : Nat} (ha : a < 13) (x : Int32) : upc S k x (9 + a) = S (9 + a) := by
  show (if 9 + a = 24 + 5 * k then x else S (9 + a)) = _
  rw [if_neg (by omega)]
theorem kd_upw (S : zS) (k : Nat) (j : Nat) (x : Int32) : kd (upw S k x) j = kd S j := by
  show (if 22 + 5 * j = 25 + 5 * k then x else S (22 + 5 * j)) = _
  rw [if_neg (by omega)]; rfl
theorem sz_upw (S : zS) (k : Nat) (j : Nat) (x : Int32) : sz (upw S k x) j = sz S j := by
  show (if 23 + 5 * j = 25 + 5 * k then x else S (23 + 5 * j)) = _
  rw [if_neg (by omega)]; rfl
theorem ch_upw (S : zS) (k : Nat) (j : Nat) (x : Int32) : ch (upw S k x) j = ch S j := by
  show (if 24 + 5 * j = 25 + 5 * k then x else S (24 + 5 * j)) = _
  rw [if_neg (by omega)]; rfl
theorem wo_upw (S : zS) (k j : Nat) (x : Int32) : wo (upw S k x) j = if j = k then x else wo S j := by
  show (if 25 + 5 * j = 25 + 5 * k then x else S (25 + 5 * j)) = _
  by_cases e : j = k
  · rw [if_pos e, if_pos (by omega)]
  · rw [if_neg e, if_neg (by omega)]; rfl
theorem lk_upw (S : zS) (k : Nat) (j : Nat) (x : Int32) : lk (upw S k x) j = lk S j := by
  show (if 26 + 5 * j = 25 + 5 * k then x else S (26 + 5 * j)) = _
  rw [if_neg (by omega)]; rfl
theorem s0_upw (S : zS) (k : Nat) (x : Int32) : upw S k x 0 = S 0 := by
  show (if 0 = 25 + 5 * k then x else S 0) = _
  rw [if_neg (by omega)]
theorem s1_upw (S : zS) (k : Nat) (x : Int32) : upw S k x 1 = S 1 := by
  show (if 1 = 25 + 5 * k then x else S 1) = _
  rw [if_neg (by omega)]
theorem s2_upw (S : zS) (k : Nat) (x : Int32) : upw S k x 2 = S 2 := by
  show (if 2 = 25 + 5 * k then x else S 2) = _
  rw [if_neg (by omega)]
theorem ho_upw (S : zS) (k : Nat) {a : Nat} (ha : a < 6) (x : Int32) : upw S k x (3 + a) = S (3 + a) := by
  show (if 3 + a = 25 + 5 * k then x else S (3 + a)) = _
  rw [if_neg (by omega)]
theorem od_upw (S : zS) (k : Nat) {a : Nat} (ha : a < 13) (x : Int32) : upw S k x (9 + a) = S (9 + a) := by
  show (if 9 + a = 25 + 5 * k then x else S (9 + a)) = _
  rw [if_neg (by omega)]
theorem kd_upl (S : zS) (k : Nat) (j : Nat) (x : Int32) : kd (upl S k x) j = kd S j := by
  show (if 22 + 5 * j = 26 + 5 * k then x else S (22 + 5 * j)) = _
  rw [if_neg (by omega)]; rfl
theorem sz_upl (S : zS) (k : Nat) (j : Nat) (x : Int32) : sz (upl S k x) j = sz S j := by
  show (if 23 + 5 * j = 26 + 5 * k then x else S (23 + 5 * j)) = _
  rw [if_neg (by omega)]; rfl
theorem ch_upl (S : zS) (k : Nat) (j : Nat) (x : Int32) : ch (upl S k x) j = ch S j := by
  show (if 24 + 5 * j = 26 + 5 * k then x else S (24 + 5 * j)) = _
  rw [if_neg (by omega)]; rfl
theorem wo_upl (S : zS) (k : Nat) (j : Nat) (x : Int32) : wo (upl S k x) j = wo S j := by
  show (if 25 + 5 * j = 26 + 5 * k then x else S (25 + 5 * j)) = _
  rw [if_neg (by omega)]; rfl
theorem lk_upl (S : zS) (k j : Nat) (x : Int32) : lk (upl S k x) j = if j = k then x else lk S j := by
  show (if 26 + 5 * j = 26 + 5 * k then x else S (26 + 5 * j)) = _
  by_cases e : j = k
  · rw [if_pos e, if_pos (by omega)]
  · rw [if_neg e, if_neg (by omega)]; rfl
theorem s0_upl (S : zS) (k : Nat) (x : Int32) : upl S k x 0 = S 0 := by
  show (if 0 = 26 + 5 * k then x else S 0) = _
  rw [if_neg (by omega)]
theorem s1_upl (S : zS) (k : Nat) (x : Int32) : upl S k x 1 = S 1 := by
  show (if 1 = 26 + 5 * k then x else S 1) = _
  rw [if_neg (by omega)]
theorem s2_upl (S : zS) (k : Nat) (x : Int32) : upl S k x 2 = S 2 := by
  show (if 2 = 26 + 5 * k then x else S 2) = _
  rw [if_neg (by omega)]
theorem ho_upl (S : zS) (k : Nat) {a : Nat} (ha : a < 6) (x : Int32) : upl S k x (3 + a) = S (3 + a) := by
  show (if 3 + a = 26 + 5 * k then x else S (3 + a)) = _
  rw [if_neg (by omega)]
theorem od_upl (S : zS) (k : Nat) {a : Nat} (ha : a < 13) (x : Int32) : upl S k x (9 + a) = S (9 + a) := by
  show (if 9 + a = 26 + 5 * k then x else S (9 + a)) = _
  rw [if_neg (by omega)]
