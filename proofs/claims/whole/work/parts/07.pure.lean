/-! What both sides know: a row of 82 numbers. -/
abbrev zS : Type := Nat → Int32
theorem t_0 : (0 : Int32).toInt = 0 := by decide +kernel
theorem t_1 : (1 : Int32).toInt = 1 := by decide +kernel
theorem t_m1 : (-1 : Int32).toInt = -1 := by decide +kernel
theorem t_2 : (2 : Int32).toInt = 2 := by decide +kernel
theorem t_3 : (3 : Int32).toInt = 3 := by decide +kernel
theorem t_4 : (4 : Int32).toInt = 4 := by decide +kernel
theorem t_5 : (5 : Int32).toInt = 5 := by decide +kernel
theorem t_6 : (6 : Int32).toInt = 6 := by decide +kernel
theorem t_7 : (7 : Int32).toInt = 7 := by decide +kernel
theorem t_9 : (9 : Int32).toInt = 9 := by decide +kernel
theorem t_10 : (10 : Int32).toInt = 10 := by decide +kernel
theorem t_11 : (11 : Int32).toInt = 11 := by decide +kernel
theorem t_12 : (12 : Int32).toInt = 12 := by decide +kernel
theorem t_13 : (13 : Int32).toInt = 13 := by decide +kernel
theorem t_39 : (39 : Int32).toInt = 39 := by decide +kernel
theorem t_40 : (40 : Int32).toInt = 40 := by decide +kernel
theorem t_82 : (82 : Int32).toInt = 82 := by decide +kernel
theorem t_99 : (99 : Int32).toInt = 99 := by decide +kernel
theorem t_100 : (100 : Int32).toInt = 100 := by decide +kernel
theorem t_105 : (105 : Int32).toInt = 105 := by decide +kernel
theorem t_106 : (106 : Int32).toInt = 106 := by decide +kernel
theorem t_119 : (119 : Int32).toInt = 119 := by decide +kernel
theorem t_120 : (120 : Int32).toInt = 120 := by decide +kernel
theorem t_9899 : (9899 : Int32).toInt = 9899 := by decide +kernel
theorem t_9999 : (9999 : Int32).toInt = 9999 := by decide +kernel
theorem t_10000 : (10000 : Int32).toInt = 10000 := by decide +kernel
theorem t_rng (x : Int32) : -2147483648 ≤ x.toInt ∧ x.toInt < 2147483648 := by
  have h1 := Int32.le_toInt x
  have h2 := Int32.toInt_lt x
  omega
/-- one of the n ships -/
def shp (n : Nat) (t : Int32) : Bool := decide (0 ≤ t ∧ t < nI n)
theorem shp_nI {n j : Nat} (hj : j < n) (hn : n ≤ 12) : shp n (nI j) = true := by
  unfold shp
  rw [decide_eq_true_iff]
  exact ⟨nI_pos' (by omega), nI_lt hj (by omega)⟩
theorem shp_of {n : Nat} {t : Int32} (hn : n ≤ 12) (h : shp n t = true) : ∃ j, j < n ∧ t = nI j := by
  unfold shp at h
  rw [decide_eq_true_iff] at h
  obtain ⟨j, hj, rfl⟩ := nI_of (i_nlt.mpr h.1)
  exact ⟨j, (nI_ltI hj (by omega)).mp h.2, rfl⟩
theorem shp_m1 (n : Nat) : shp n (-1) = false := by
  unfold shp
  rw [decide_eq_false_iff_not]
  intro h
  exact absurd h.1 (by decide)
theorem shp_anc {n a : Nat} (hn : n ≤ 12) (ha : a < 6) : shp n (nI (100 + a)) = false := by
  unfold shp
  rw [decide_eq_false_iff_not]
  intro h
  exact nI_nlt (show n ≤ 100 + a by omega) (by omega) h.2
def lk (S : zS) (k : Nat) : Int32 := S (26 + 5 * k)
def wo (S : zS) (k : Nat) : Int32 := S (25 + 5 * k)
def ch (S : zS) (k : Nat) : Int32 := S (24 + 5 * k)
def sz (S : zS) (k : Nat) : Int32 := S (23 + 5 * k)
def kd (S : zS) (k : Nat) : Int32 := S (22 + 5 * k)
/-- a thing that a ship may hang on -/
def Th (n : Nat) (t : Int32) : Prop := t = -1 ∨ (∃ j, j < n ∧ t = nI j) ∨ ∃ a, a < 6 ∧ t = nI (100 + a)
/-- where the way up from t leaves the ships, in at most f steps -/
def rt (S : zS) (n : Nat) : Nat → Int32 → Int32
  | 0, t => t
  | f + 1, t => cond (shp n t) (rt S n f (lk S t.toNatClampNeg)) t
/-- the steps of that way -/
def dpl (S : zS) (n : Nat) : Nat → Int32 → Nat
  | 0, _ => 0
  | f + 1, t => cond (shp n t) (dpl S n f (lk S t.toNatClampNeg) + 1) 0
/-- whether that way meets s -/
def lo (S : zS) (n : Nat) (s : Int32) : Nat → Int32 → Bool
  | 0, _ => false
  | f + 1, t => cond (shp n t) (cond (decide (t = s)) true (lo S n s f (lk S t.toNatClampNeg))) false
def dep (S : zS) (n : Nat) (t : Int32) : Int32 := cond (decide (rt S n 12 t = -1)) 0 (nI (dpl S n 12 t))
def hg (S : zS) (n : Nat) (t : Int32) : Nat := bset n (fun k => decide (lk S k = t))
def aon (S : zS) (n : Nat) (r : Int32) : Nat := bset n (fun k => decide (rt S n 12 (nI k) = r))
def stg (S : zS) (n : Nat) (s : Int32) : Nat := bset n (fun k => lo S n s 12 (nI k))
/-- how many bits of twelve -/
def many (x : Nat) : Nat := cnt 12 (fun k => x.testBit k)
def pul (S : zS) (n k : Nat) (w : Int32) : Int32 :=
  if kd S k = 1 then sz S k * w / 2 + sz S k * w / 2 / 2
  else if kd S k = 2 then sz S k * w / 2 / 2
  else if kd S k = 3 then sz S k * w / 2 + 5
  else if kd S k = 4 then sz S k * w / 2 + sz S k * w / 2 / 2 + 10 * nI (many (hg S n (nI k)))
  else if kd S k = 5 then (if w < 4 then 0 else sz S k * w / 2 / 2)
  else sz S k * w / 2
/-- p comes to every ship of the way up from t -/
def sad (S : zS) (n : Nat) (p : Int32) : Nat → Int32 → zS → zS
  | 0, _, T => T
  | f + 1, t, T => cond (shp n t) (sad S n p f (lk S t.toNatClampNeg) (upd T t.toNatClampNeg (T t.toNatClampNeg + p))) T
/-- the strains, the first i ships' pulls counted -/
def Sti (S : zS) (n : Nat) (w : Int32) : Nat → zS
  | 0 => fun _ => 0
  | i + 1 => sad S n (pul S n i w) 12 (nI i) (Sti S n w i)
def Str (S : zS) (n : Nat) (w : Int32) : zS := Sti S n w n
def isum : Nat → zS → Int32
  | 0, _ => 0
  | i + 1, f => isum i f + f i
def csum : Nat → (Nat → Bool) → zS → Int32
  | 0, _, _ => 0
  | i + 1, p, f => cond (p i) (csum i p f + f i) (csum i p f)
theorem csum_f {i : Nat} {p : Nat → Bool} {f : zS} (h : p i = false) : csum (i + 1) p f = csum i p f := by
  show cond (p i) _ _ = _
  rw [h]; rfl
theorem csum_t {i : Nat} {p : Nat → Bool} {f : zS} (h : p i = true) : csum (i + 1) p f = csum i p f + f i := by
  show cond (p i) _ _ = _
  rw [h]; rfl
def loa (S : zS) (n : Nat) (T : zS) (t : Int32) : Int32 := csum n (fun k => decide (lk S k = t)) T
/-- the kinds are kinds -/
def Kok (S : zS) (n : Nat) : Prop := ∀ k, k < n → ∃ c, c < 6 ∧ kd S k = nI c
def brk (S : zS) (k : Nat) : Int32 :=
  cond (decide (kd S k = 5)) ((if (0 : Int32) < ch S k - wo S k then ch S k - wo S k else 0) / 2) (if (0 : Int32) < ch S k - wo S k then ch S k - wo S k else 0)
/-- the first of the n with p, -1 if there is none, from i on d of them -/
def fst1 (p : Nat → Bool) : Nat → Nat → Int32
  | 0, _ => -1
  | d + 1, i => cond (p i) (nI i) (fst1 p d (i + 1))
def prt (S : zS) (T : zS) (k : Nat) : Bool := decide (lk S k ≠ -1) && decide (brk S k < T k)
def fpt (S : zS) (n : Nat) (T : zS) : Int32 := fst1 (prt S T) n 0
/-- the roadstead at rb shows S -/
def Vw (M : zM) (rb : Nat) (S : zS) : Prop := (M rb 8 = S 0) ∧ (M rb 10 = S 1) ∧ (M rb 9 = S 2) ∧ (∀ a, a < 6 → M (rb + 1) a = S (3 + a)) ∧ (∀ a, a < 13 → M (rb + 2) a = S (9 + a)) ∧ (∀ k, k < 12 → M (rb + 3) k = kd S k) ∧ (∀ k, k < 12 → M (rb + 4) k = sz S k) ∧ (∀ k, k < 12 → M (rb + 5) k = ch S k) ∧ (∀ k, k < 12 → M (rb + 6) k = wo S k) ∧ (∀ k, k < 12 → M (rb + 7) k = lk S k)
theorem Vw.s0 {M : zM} {rb : Nat} {S : zS} (h : Vw M rb S) : M rb 8 = S 0 := h.1
theorem Vw.s1 {M : zM} {rb : Nat} {S : zS} (h : Vw M rb S) : M rb 10 = S 1 := h.2.1
theorem Vw.s2 {M : zM} {rb : Nat} {S : zS} (h : Vw M rb S) : M rb 9 = S 2 := h.2.2.1
theorem Vw.ho {M : zM} {rb : Nat} {S : zS} (h : Vw M rb S) : ∀ a, a < 6 → M (rb + 1) a = S (3 + a) := h.2.2.2.1
theorem Vw.od {M : zM} {rb : Nat} {S : zS} (h : Vw M rb S) : ∀ a, a < 13 → M (rb + 2) a = S (9 + a) := h.2.2.2.2.1
theorem Vw.fk {M : zM} {rb : Nat} {S : zS} (h : Vw M rb S) : ∀ k, k < 12 → M (rb + 3) k = kd S k := h.2.2.2.2.2.1
theorem Vw.fs {M : zM} {rb : Nat} {S : zS} (h : Vw M rb S) : ∀ k, k < 12 → M (rb + 4) k = sz S k := h.2.2.2.2.2.2.1
theorem Vw.fc {M : zM} {rb : Nat} {S : zS} (h : Vw M rb S) : ∀ k, k < 12 → M (rb + 5) k = ch S k := h.2.2.2.2.2.2.2.1
theorem Vw.fw {M : zM} {rb : Nat} {S : zS} (h : Vw M rb S) : ∀ k, k < 12 → M (rb + 6) k = wo S k := h.2.2.2.2.2.2.2.2.1
theorem Vw.fl {M : zM} {rb : Nat} {S : zS} (h : Vw M rb S) : ∀ k, k < 12 → M (rb + 7) k = lk S k := h.2.2.2.2.2.2.2.2.2
/-- nothing but the cells of l has changed -/
def Fr (l : List Nat) (M M' : zM) : Prop := ∀ b, b ∉ l → M' b = M b
theorem Fr.rfl' {l : List Nat} {M : zM} : Fr l M M := fun _ _ => rfl
theorem Fr.trans {l : List Nat} {M M1 M2 : zM} (h1 : Fr l M M1) (h2 : Fr l M1 M2) : Fr l M M2 := fun b hb => (h2 b hb).trans (h1 b hb)
theorem Fr.mono {l l' : List Nat} {M M1 : zM} (h1 : Fr l M M1) (h : ∀ b, b ∈ l → b ∈ l') : Fr l' M M1 := fun b hb => h1 b (fun q => hb (h b q))
theorem Fr.up {l : List Nat} {M : zM} {a k : Nat} {x : Int32} (h : a ∈ l) : Fr l M (z_up M a k x) := fun b hb => z_up_ne M k x (fun e => hb (e ▸ h))
theorem Fr.row {l : List Nat} {M : zM} {a : Nat} {f : Nat → Int32} (h : a ∈ l) : Fr l M (z_row M a f) := fun b hb => z_row_ne M f (fun e => hb (e ▸ h))
/-- the roadstead's strain is no part of what it shows -/
theorem Vw.fr {M M' : zM} {rb : Nat} {S : zS} {l : List Nat} (h : Vw M rb S) (hf : Fr l M M') (hd : ∀ c, c < 8 → rb + c ∉ l) : Vw M' rb S :=
  ⟨by rw [hf rb (hd 0 (by decide))]; exact h.s0, by rw [hf rb (hd 0 (by decide))]; exact h.s1, by rw [hf rb (hd 0 (by decide))]; exact h.s2,
    fun a ha => by rw [hf _ (hd 1 (by decide))]; exact h.ho a ha, fun a ha => by rw [hf _ (hd 2 (by decide))]; exact h.od a ha,
    fun a ha => by rw [hf _ (hd 3 (by decide))]; exact h.fk a ha, fun a ha => by rw [hf _ (hd 4 (by decide))]; exact h.fs a ha,
    fun a ha => by rw [hf _ (hd 5 (by decide))]; exact h.fc a ha, fun a ha => by rw [hf _ (hd 6 (by decide))]; exact h.fw a ha,
    fun a ha => by rw [hf _ (hd 7 (by decide))]; exact h.fl a ha⟩
