/-! At the start class and model hold the same. -/
theorem z_inv0 : Inv z_M0 z_N0 := by
  have h1 : ∀ a, a < 6 → z_M0 2 a = z_M0 45 (3 + a) := by decide +kernel
  have h2 : ∀ a, a < 13 → z_M0 3 a = z_M0 45 (9 + a) := by decide +kernel
  have h3 : ∀ a, a < 12 → z_M0 4 a = kd (z_M0 45) a := by decide +kernel
  have h4 : ∀ a, a < 12 → z_M0 5 a = sz (z_M0 45) a := by decide +kernel
  have h5 : ∀ a, a < 12 → z_M0 6 a = ch (z_M0 45) a := by decide +kernel
  have h6 : ∀ a, a < 12 → z_M0 7 a = wo (z_M0 45) a := by decide +kernel
  have h7 : ∀ a, a < 12 → z_M0 8 a = lk (z_M0 45) a := by decide +kernel
  have h8 : ∀ a, a < 6 → 0 ≤ z_M0 45 (3 + a) ∧ z_M0 45 (3 + a) ≤ 9999 := by decide +kernel
  have h9 : ∀ k, k < 7 → z_M0 50 (k + 1) = 0 := by decide +kernel
  have hA : ∀ t, t < 4 → z_M0 52 t = -1 ∧ z_M0 53 t = 0 := by decide +kernel
  have hB : ∀ t, t < 4 → z_M0 (36 + 2 * t) 1 = 0 ∧ z_M0 (36 + 2 * t) 2 = 0 := by decide +kernel
  refine ⟨z_M0 45, 0, fun _ => 0, false, fun _ => 0, fun _ => 0, 0, (fun _ => 0, fun _ => 0, fun _ _ => 0), ⟨⟨by decide +kernel, by decide +kernel, by decide +kernel, h1, h2, h3, h4, h5, h6, h7⟩, by decide +kernel⟩, ⟨fun _ _ => rfl, h9, by decide +kernel⟩, ?_, ⟨by decide +kernel, by decide +kernel⟩, fun h => (by cases h), ⟨⟨by decide +kernel, fun i hi => absurd hi (by omega)⟩, ⟨by omega, by decide +kernel, fun i hi => absurd hi (by omega), ?_⟩⟩, fun t ht => ⟨(hB t ht).1, (hB t ht).2, fun _ _ => rfl⟩, fun t ht => ⟨(hA t ht).1, (hA t ht).2, fun _ _ => rfl⟩, fun t ht => ⟨Nat.zero_le _, Or.inl rfl⟩⟩
  · exact ⟨by decide, by decide +kernel, by decide +kernel, h8, fun k hk => absurd hk (by omega), fun k hk => absurd hk (by omega), fun k hk => absurd hk (by omega), fun k hk => absurd hk (by omega), ⟨fun _ => 0, fun k j hk => absurd hk (by omega)⟩⟩
  · exact fun i hi => absurd hi (by omega)
