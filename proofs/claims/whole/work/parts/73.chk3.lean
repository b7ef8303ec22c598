/-! the words -/
set_option maxRecDepth 100000 in
theorem z_wF : z_lF.all (fun q => z_at q.2.2.2.2 (Cond.fieldLink (z_cn q.1) q.2.1 (z_T q.2.2.1 q.2.2.2.1).1 (z_T q.2.2.1 q.2.2.2.1).2.1 (z_T q.2.2.1 q.2.2.2.1).2.2.1)) = true := by decide +kernel
set_option maxRecDepth 100000 in
theorem z_wM : z_lM.all (fun q => z_at q.2.2.2 (Cond.methodLink (z_cn q.1) q.2.1 (z_y q.2.2.1))) = true := by decide +kernel
set_option maxRecDepth 100000 in
theorem z_wN : z_lN.all (fun q => decide (lw_tbl[q.2.2.2]? = some (Cond.methodLinkNest (z_cn q.1) q.2.1 (z_y q.2.2.1) "AnchorString"))) = true := by decide +kernel
set_option maxRecDepth 100000 in
theorem z_wK : z_lK.all (fun q => match q.2.2.1 with
  | .int x => z_at q.2.2.2 (Cond.constant (z_cn q.1) q.2.1 x)
  | .long x => z_at q.2.2.2 (Cond.constantLong (z_cn q.1) q.2.1 x)
  | _ => false) = true := by decide +kernel
set_option maxRecDepth 100000 in
theorem z_wC : z_lC.all (fun q => z_at q.2.2.2 (Cond.classLink (z_cn q.1) q.2.1 (z_cn q.2.2.1))) = true := by decide +kernel
set_option maxRecDepth 100000 in
theorem z_wA : z_lA.all (fun q => z_at q.2.2 (Cond.methodLink (z_cn q.1) q.2.1 arraycopyName)) = true := by decide +kernel
set_option maxRecDepth 100000 in
theorem z_wO : z_lO.all (fun q => z_at q.2.2 (Cond.methodLink (z_cn q.1) q.2.1 Lib.objectInit)) = true := by decide +kernel
set_option maxRecDepth 100000 in
theorem z_wX : z_lX.all (fun q => z_at q.2.2 (Cond.methodLink (z_cn q.1) q.2.1 Lib.Math.max.name)) = true := by decide +kernel
set_option maxRecDepth 100000 in
theorem z_wI : z_lI.all (fun q => z_at q.2.2 (Cond.methodLink (z_cn q.1) q.2.1 Lib.Math.min.name)) = true := by decide +kernel
noncomputable def z_mwb (j : Nat) : Bool := z_at (z_wp.get j).1 (Cond.code (z_y j) (z_cd j) (z_mx j) (z_rk j)) && z_at (z_wp.get j).2.1 (Cond.initialized (z_y j).cls) && (match z_kd j with
  | 0 => z_at (z_wp.get j).2.2.1 (Cond.instanceMethod (z_y j)) && z_at (z_wp.get j).2.2.2 (Cond.selects (z_y j).cls (z_y j) (z_y j)) && decide ((z_y j).name ≠ "<init>")
  | 1 => z_at (z_wp.get j).2.2.1 (Cond.static (z_y j)) && decide ((z_y j).name ≠ "<init>")
  | _ => z_at (z_wp.get j).2.2.1 (Cond.instanceMethod (z_y j)) && decide ((z_y j).name = "<init>" ∧ z_rk j = none)) && decide ((z_y j).cls = z_cn (z_oc j)) && decide ((z_y j).cls ≠ "java/lang/invoke/MethodHandle" ∧ (z_y j).cls ≠ "java/lang/invoke/VarHandle") && decide ((parseMethodDescriptor (z_y j).desc).map (fun d => d.parameters.length) = some (z_np j))
set_option maxRecDepth 100000 in
theorem z_wm_0 : (List.range' 0 16).all (fun j => z_mwb j && (plainName (z_y j).cls || decide (z_oc j = 7))) = true := by decide +kernel
set_option maxRecDepth 100000 in
theorem z_wm_16 : (List.range' 16 16).all (fun j => z_mwb j && (plainName (z_y j).cls || decide (z_oc j = 7))) = true := by decide +kernel
set_option maxRecDepth 100000 in
theorem z_wm_32 : (List.range' 32 16).all (fun j => z_mwb j && (plainName (z_y j).cls || decide (z_oc j = 7))) = true := by decide +kernel
set_option maxRecDepth 100000 in
theorem z_wm_48 : (List.range' 48 16).all (fun j => z_mwb j && (plainName (z_y j).cls || decide (z_oc j = 7))) = true := by decide +kernel
set_option maxRecDepth 100000 in
theorem z_wm_64 : (List.range' 64 16).all (fun j => z_mwb j && (plainName (z_y j).cls || decide (z_oc j = 7))) = true := by decide +kernel
set_option maxRecDepth 100000 in
theorem z_wm_80 : (List.range' 80 16).all (fun j => z_mwb j && (plainName (z_y j).cls || decide (z_oc j = 7))) = true := by decide +kernel
set_option maxRecDepth 100000 in
theorem z_wm_96 : (List.range' 96 16).all (fun j => z_mwb j && (plainName (z_y j).cls || decide (z_oc j = 7))) = true := by decide +kernel
set_option maxRecDepth 100000 in
theorem z_wm_112 : (List.range' 112 16).all (fun j => z_mwb j && (plainName (z_y j).cls || decide (z_oc j = 7))) = true := by decide +kernel
set_option maxRecDepth 100000 in
theorem z_wm_128 : (List.range' 128 16).all (fun j => z_mwb j && (plainName (z_y j).cls || decide (z_oc j = 7))) = true := by decide +kernel
set_option maxRecDepth 100000 in
theorem z_wm_144 : (List.range' 144 16).all (fun j => z_mwb j && (plainName (z_y j).cls || decide (z_oc j = 7))) = true := by decide +kernel
set_option maxRecDepth 100000 in
theorem z_wm_160 : (List.range' 160 16).all (fun j => z_mwb j && (plainName (z_y j).cls || decide (z_oc j = 7))) = true := by decide +kernel
set_option maxRecDepth 100000 in
theorem z_wm_176 : (List.range' 176 16).all (fun j => z_mwb j && (plainName (z_y j).cls || decide (z_oc j = 7))) = true := by decide +kernel
set_option maxRecDepth 100000 in
theorem z_wm_192 : (List.range' 192 16).all (fun j => z_mwb j && (plainName (z_y j).cls || decide (z_oc j = 7))) = true := by decide +kernel
set_option maxRecDepth 100000 in
theorem z_wm_208 : (List.range' 208 16).all (fun j => z_mwb j && (plainName (z_y j).cls || decide (z_oc j = 7))) = true := by decide +kernel
set_option maxRecDepth 100000 in
theorem z_wm_224 : (List.range' 224 8).all (fun j => z_mwb j && (plainName (z_y j).cls || decide (z_oc j = 7))) = true := by decide +kernel
theorem z_wm {j : Nat} (hj : j < 232) : (z_mwb j && (plainName (z_y j).cls || decide (z_oc j = 7))) = true := by
  by_cases h16 : j < 16
  · exact z_rg (P := fun j => z_mwb j && (plainName (z_y j).cls || decide (z_oc j = 7))) z_wm_0 (by omega) (by omega)
  by_cases h32 : j < 32
  · exact z_rg (P := fun j => z_mwb j && (plainName (z_y j).cls || decide (z_oc j = 7))) z_wm_16 (by omega) (by omega)
  by_cases h48 : j < 48
  · exact z_rg (P := fun j => z_mwb j && (plainName (z_y j).cls || decide (z_oc j = 7))) z_wm_32 (by omega) (by omega)
  by_cases h64 : j < 64
  · exact z_rg (P := fun j => z_mwb j && (plainName (z_y j).cls || decide (z_oc j = 7))) z_wm_48 (by omega) (by omega)
  by_cases h80 : j < 80
  · exact z_rg (P := fun j => z_mwb j && (plainName (z_y j).cls || decide (z_oc j = 7))) z_wm_64 (by omega) (by omega)
  by_cases h96 : j < 96
  · exact z_rg (P := fun j => z_mwb j && (plainName (z_y j).cls || decide (z_oc j = 7))) z_wm_80 (by omega) (by omega)
  by_cases h112 : j < 112
  · exact z_rg (P := fun j => z_mwb j && (plainName (z_y j).cls || decide (z_oc j = 7))) z_wm_96 (by omega) (by omega)
  by_cases h128 : j < 128
  · exact z_rg (P := fun j => z_mwb j && (plainName (z_y j).cls || decide (z_oc j = 7))) z_wm_112 (by omega) (by omega)
  by_cases h144 : j < 144
  · exact z_rg (P := fun j => z_mwb j && (plainName (z_y j).cls || decide (z_oc j = 7))) z_wm_128 (by omega) (by omega)
  by_cases h160 : j < 160
  · exact z_rg (P := fun j => z_mwb j && (plainName (z_y j).cls || decide (z_oc j = 7))) z_wm_144 (by omega) (by omega)
  by_cases h176 : j < 176
  · exact z_rg (P := fun j => z_mwb j && (plainName (z_y j).cls || decide (z_oc j = 7))) z_wm_160 (by omega) (by omega)
  by_cases h192 : j < 192
  · exact z_rg (P := fun j => z_mwb j && (plainName (z_y j).cls || decide (z_oc j = 7))) z_wm_176 (by omega) (by omega)
  by_cases h208 : j < 208
  · exact z_rg (P := fun j => z_mwb j && (plainName (z_y j).cls || decide (z_oc j = 7))) z_wm_192 (by omega) (by omega)
  by_cases h224 : j < 224
  · exact z_rg (P := fun j => z_mwb j && (plainName (z_y j).cls || decide (z_oc j = 7))) z_wm_208 (by omega) (by omega)
  exact z_rg (P := fun j => z_mwb j && (plainName (z_y j).cls || decide (z_oc j = 7))) z_wm_224 (by omega) (by omega)
set_option maxRecDepth 100000 in
theorem z_w0 : z_at 98 (.instanceMethod Lib.objectInit) && z_at 99 (.code Lib.objectInit ⟨#[0xb1]⟩ 1 none) && z_at 454 (.native arraycopyName) && z_at 453 (.static arraycopyName) && z_at 87 (.initialized "java/lang/System") && z_at 161 (.arrayClass .int) && z_at 229 (.arrayClass .long) && z_at 86 (.initialized "java/lang/Math") && z_at 327 (.static Lib.Math.max.name) && z_at 409 (.static Lib.Math.min.name) && z_at 328 (.code Lib.Math.max.name Lib.Math.max.code 2 (some .int)) && z_at 410 (.code Lib.Math.min.name Lib.Math.min.code 2 (some .int)) && z_at 367 (.fieldLink (z_cn 4) 255 "AnchorString" "KIND_ABOVE" "[I") && z_at 612 (.fieldLink (z_cn 8) 38 "java/lang/String" "COMPACT_STRINGS" "Z") && z_at 628 (.fieldLink (z_cn 8) 1053 "jdk/internal/util/Preconditions" "SIOOBE_FORMATTER" "Ljava/util/function/BiFunction;") && z_at 1283 (.fieldLink (z_cn 8) 9 "java/lang/String" "value" "[B") && z_at 1284 (.fieldLink (z_cn 8) 15 "java/lang/String" "coder" "B") = true := by decide +kernel
set_option maxRecDepth 100000 in
theorem z_wL : [(0, 11, 101), (1, 3, 211), (2, 6, 169), (3, 3, 163), (4, 7, 93), (5, 19, 790)].all (fun q => decide (z_NF q.1 = q.2.1) && z_at q.2.2 (.instantiable (z_cn q.1) q.2.1)) = true := by decide +kernel
set_option maxRecDepth 100000 in
theorem z_wE : [(0, 79), (1, 83), (2, 82), (3, 81), (4, 78), (5, 84), (6, 85), (7, 86), (8, 88), (9, 89), (10, 80), (11, 90), (12, 77)].all (fun q => z_at q.2 (.initialized (z_cn q.1))) = true := by decide +kernel
set_option maxRecDepth 100000 in
theorem z_in0 : ∀ w ∈ u_ws (z_cn 0) zT0 11, w ∈ lw_tbl ∧ goodWord w = true := by decide +kernel
set_option maxRecDepth 100000 in
theorem z_in1 : ∀ w ∈ u_ws (z_cn 1) zT1 3, w ∈ lw_tbl ∧ goodWord w = true := by decide +kernel
set_option maxRecDepth 100000 in
theorem z_in2 : ∀ w ∈ u_ws (z_cn 2) zT2 6, w ∈ lw_tbl ∧ goodWord w = true := by decide +kernel
set_option maxRecDepth 100000 in
theorem z_in3 : ∀ w ∈ u_ws (z_cn 3) zT3 3, w ∈ lw_tbl ∧ goodWord w = true := by decide +kernel
set_option maxRecDepth 100000 in
theorem z_in4 : ∀ w ∈ u_ws (z_cn 4) zT4 7, w ∈ lw_tbl ∧ goodWord w = true := by decide +kernel
set_option maxRecDepth 100000 in
theorem z_in5 : ∀ w ∈ u_ws (z_cn 5) zT5 19, w ∈ lw_tbl ∧ goodWord w = true := by decide +kernel
theorem z_lt6 {P : Nat → Prop} (h0 : P 0) (h1 : P 1) (h2 : P 2) (h3 : P 3) (h4 : P 4) (h5 : P 5) {c : Nat} (h : c < 6) : P c := by
  match c, h with
  | 0, _ => exact h0
  | 1, _ => exact h1
  | 2, _ => exact h2
  | 3, _ => exact h3
  | 4, _ => exact h4
  | 5, _ => exact h5
theorem z_inb {ci : Nat} (h : ci < 6) : ∀ w ∈ u_ws (z_cn ci) (z_T ci) (z_NF ci), w ∈ z_tb := fun w hw => List.mem_filter.mpr (z_lt6 (P := fun ci => ∀ w ∈ u_ws (z_cn ci) (z_T ci) (z_NF ci), w ∈ lw_tbl ∧ goodWord w = true) z_in0 z_in1 z_in2 z_in3 z_in4 z_in5 h w hw)
theorem z_nmb {ci : Nat} (h : ci < 6) : ∀ a, a < z_NF ci → ∀ b, b < z_NF ci → a ≠ b → (z_T ci a).2.1 ≠ (z_T ci b).2.1 := z_lt6 (P := fun ci => ∀ a, a < z_NF ci → ∀ b, b < z_NF ci → a ≠ b → (z_T ci a).2.1 ≠ (z_T ci b).2.1) (by decide +kernel) (by decide +kernel) (by decide +kernel) (by decide +kernel) (by decide +kernel) (by decide +kernel) h
theorem z_tyb {ci : Nat} (h : ci < 6) : ∀ k, k < z_NF ci → parseFieldDescriptor (z_T ci k).2.2.1 = some (z_Y ci k) := z_lt6 (P := fun ci => ∀ k, k < z_NF ci → parseFieldDescriptor (z_T ci k).2.2.1 = some (z_Y ci k)) (by decide +kernel) (by decide +kernel) (by decide +kernel) (by decide +kernel) (by decide +kernel) (by decide +kernel) h
theorem z_clb {ci : Nat} (h : ci < 6) : z_cl[ci]? = some (z_cn ci, z_T ci, z_NF ci) := z_lt6 (P := fun ci => z_cl[ci]? = some (z_cn ci, z_T ci, z_NF ci)) rfl rfl rfl rfl rfl rfl h
