set_option maxRecDepth 100000 in
theorem z_okl_0 : (((z_lv zc_232).drop 0).take 48).all (z_okb 232) = true := by decide +kernel
set_option maxRecDepth 100000 in
theorem z_okl_48 : (((z_lv zc_232).drop 48).take 48).all (z_okb 232) = true := by decide +kernel
set_option maxRecDepth 100000 in
theorem z_okl_96 : (((z_lv zc_232).drop 96).take 48).all (z_okb 232) = true := by decide +kernel
set_option maxRecDepth 100000 in
theorem z_okl_144 : (((z_lv zc_232).drop 144).take 48).all (z_okb 232) = true := by decide +kernel
set_option maxRecDepth 100000 in
theorem z_okl_192 : (((z_lv zc_232).drop 192).take 48).all (z_okb 232) = true := by decide +kernel
set_option maxRecDepth 100000 in
theorem z_okl_240 : (((z_lv zc_232).drop 240).take 48).all (z_okb 232) = true := by decide +kernel
set_option maxRecDepth 100000 in
theorem z_okl_288 : (((z_lv zc_232).drop 288).take 48).all (z_okb 232) = true := by decide +kernel
set_option maxRecDepth 100000 in
theorem z_okl_336 : (((z_lv zc_232).drop 336).take 48).all (z_okb 232) = true := by decide +kernel
set_option maxRecDepth 100000 in
theorem z_okl_384 : (((z_lv zc_232).drop 384).take 48).all (z_okb 232) = true := by decide +kernel
set_option maxRecDepth 100000 in
theorem z_okl_432 : (((z_lv zc_232).drop 432).take 48).all (z_okb 232) = true := by decide +kernel
set_option maxRecDepth 100000 in
theorem z_okl_480 : (((z_lv zc_232).drop 480).take 48).all (z_okb 232) = true := by decide +kernel
set_option maxRecDepth 100000 in
theorem z_okl_528 : (((z_lv zc_232).drop 528).take 48).all (z_okb 232) = true := by decide +kernel
set_option maxRecDepth 100000 in
theorem z_okl_576 : (((z_lv zc_232).drop 576).take 48).all (z_okb 232) = true := by decide +kernel
set_option maxRecDepth 100000 in
theorem z_okl_624 : (((z_lv zc_232).drop 624).take 48).all (z_okb 232) = true := by decide +kernel
set_option maxRecDepth 100000 in
theorem z_okl_672 : (((z_lv zc_232).drop 672).take 48).all (z_okb 232) = true := by decide +kernel
set_option maxRecDepth 100000 in
theorem z_okl_720 : (((z_lv zc_232).drop 720).take 48).all (z_okb 232) = true := by decide +kernel
set_option maxRecDepth 100000 in
theorem z_okl_768 : (((z_lv zc_232).drop 768).take 48).all (z_okb 232) = true := by decide +kernel
set_option maxRecDepth 100000 in
theorem z_okl_816 : (((z_lv zc_232).drop 816).take 48).all (z_okb 232) = true := by decide +kernel
set_option maxRecDepth 100000 in
theorem z_okl_864 : (((z_lv zc_232).drop 864).take 48).all (z_okb 232) = true := by decide +kernel
theorem z_drop_all {α : Type} {P : α → Bool} {l : List α} (k : Nat) (h1 : (l.take k).all P = true) (h2 : (l.drop k).all P = true) : l.all P = true := by
  rw [← List.take_append_drop k l, List.all_append, h1, h2]; rfl
theorem z_ok_law : z_okm 232 = true := by
  show (z_lv zc_232).all (z_okb 232) = true
  have e : ∀ (a b : Nat), ((z_lv zc_232).drop a).drop b = (z_lv zc_232).drop (a + b) := fun a b => List.drop_drop
  refine z_drop_all 48 z_okl_0 ?_
  refine z_drop_all 48 z_okl_48 ?_
  rw [e]
  refine z_drop_all 48 z_okl_96 ?_
  rw [e]
  refine z_drop_all 48 z_okl_144 ?_
  rw [e]
  refine z_drop_all 48 z_okl_192 ?_
  rw [e]
  refine z_drop_all 48 z_okl_240 ?_
  rw [e]
  refine z_drop_all 48 z_okl_288 ?_
  rw [e]
  refine z_drop_all 48 z_okl_336 ?_
  rw [e]
  refine z_drop_all 48 z_okl_384 ?_
  rw [e]
  refine z_drop_all 48 z_okl_432 ?_
  rw [e]
  refine z_drop_all 48 z_okl_480 ?_
  rw [e]
  refine z_drop_all 48 z_okl_528 ?_
  rw [e]
  refine z_drop_all 48 z_okl_576 ?_
  rw [e]
  refine z_drop_all 48 z_okl_624 ?_
  rw [e]
  refine z_drop_all 48 z_okl_672 ?_
  rw [e]
  refine z_drop_all 48 z_okl_720 ?_
  rw [e]
  refine z_drop_all 48 z_okl_768 ?_
  rw [e]
  refine z_drop_all 48 z_okl_816 ?_
  rw [e]
  refine z_drop_all 48 z_okl_864 ?_
  rw [e]
  show ((z_lv zc_232).drop 912).all (z_okb 232) = true
  decide +kernel
theorem z_rg {P : Nat → Bool} {a n : Nat} (h : (List.range' a n).all P = true) {j : Nat} (h1 : a ≤ j) (h2 : j < a + n) : P j = true := List.all_eq_true.mp h j (List.mem_range'_1.mpr ⟨h1, h2⟩)
theorem z_ok_all (j : Nat) (hj : j < 233) : z_okm j = true := by
  by_cases h12 : j < 12
  · exact z_rg z_ok_0 (by omega) (by omega)
  by_cases h24 : j < 24
  · exact z_rg z_ok_12 (by omega) (by omega)
  by_cases h36 : j < 36
  · exact z_rg z_ok_24 (by omega) (by omega)
  by_cases h48 : j < 48
  · exact z_rg z_ok_36 (by omega) (by omega)
  by_cases h60 : j < 60
  · exact z_rg z_ok_48 (by omega) (by omega)
  by_cases h72 : j < 72
  · exact z_rg z_ok_60 (by omega) (by omega)
  by_cases h84 : j < 84
  · exact z_rg z_ok_72 (by omega) (by omega)
  by_cases h96 : j < 96
  · exact z_rg z_ok_84 (by omega) (by omega)
  by_cases h108 : j < 108
  · exact z_rg z_ok_96 (by omega) (by omega)
  by_cases h120 : j < 120
  · exact z_rg z_ok_108 (by omega) (by omega)
  by_cases h132 : j < 132
  · exact z_rg z_ok_120 (by omega) (by omega)
  by_cases h144 : j < 144
  · exact z_rg z_ok_132 (by omega) (by omega)
  by_cases h156 : j < 156
  · exact z_rg z_ok_144 (by omega) (by omega)
  by_cases h168 : j < 168
  · exact z_rg z_ok_156 (by omega) (by omega)
  by_cases h180 : j < 180
  · exact z_rg z_ok_168 (by omega) (by omega)
  by_cases h192 : j < 192
  · exact z_rg z_ok_180 (by omega) (by omega)
  by_cases h204 : j < 204
  · exact z_rg z_ok_192 (by omega) (by omega)
  by_cases h216 : j < 216
  · exact z_rg z_ok_204 (by omega) (by omega)
  by_cases h228 : j < 228
  · exact z_rg z_ok_216 (by omega) (by omega)
  by_cases h232 : j < 232
  · exact z_rg z_ok_228 (by omega) (by omega)
  · have : j = 232 := by omega
    subst this
    exact z_ok_law
/-- what a row of code is -/
theorem z_row_ok {j pc : Nat} {ins : Instr} {nx tg a b : Nat} {v : Value} (hj : j < 233) (h : z_P j pc = some (ins, nx, tg, a, b, v)) : decode (z_cd j) pc = .ok (ins, nx - pc) ∧ z_oki j pc ins nx tg a b v = true := by
  have hm := z_lv_get pc (z_prog.get j)
  unfold z_P at h
  generalize hq : (z_prog.get j).get pc = q at h hm
  obtain ⟨p, e⟩ := q
  dsimp only at h
  cases hb : Nat.beq p pc with
  | false => rw [hb] at h; cases h
  | true =>
    rw [hb] at h
    obtain rfl : p = pc := Nat.eq_of_beq_eq_true hb
    obtain rfl : e = (ins, nx, tg, a, b, v) := Option.some.inj h
    have h1 := List.all_eq_true.mp (z_ok_all j hj) _ hm
    simp only [z_okb, Bool.and_eq_true, decide_eq_true_eq] at h1
    exact h1
