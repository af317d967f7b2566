/-! ===== the fresh objects are alike ===== -/
theorem sX0_z {k i : Nat} (h : k ≠ 18) : sX0.1 k i = 0 := by
  show (if k = 18 then (if i < 8 then (1 : Int32) else 0) else 0) = 0
  rw [if_neg h]
theorem sM0_z {k i : Nat} (h : k ≠ 4) (h2 : k ≠ 0) : sM0.1 k i = 0 := by
  show (if k = 4 then _ else if k = 0 then (if i = 21 then (-1 : Int32) else 0) else 0) = 0
  rw [if_neg h, if_neg h2]
theorem sM0_0 {i : Nat} (h : i ≠ 21) : sM0.1 0 i = 0 := by
  show (if i = 21 then (-1 : Int32) else 0) = 0
  rw [if_neg h]
theorem uRl_0 : uRl sX0 sM0 := by
  have z0 : ((0 : Int32)).toInt = 0 := rfl
  refine ⟨0, fun _ => 0, fun _ _ => 0, fun _ _ => 0, fun _ => 1, 0, fun _ => 0, 0, none, 0, fun _ _ => 0, 0, fun _ => 0, ⟨⟨by omega, fun r hr => Nat.zero_le _, fun _ _ _ => rfl, fun r j hr hj => absurd hj (Nat.not_lt_zero _)⟩, fun k hk => by show (0 : Int) ≤ 1 ∧ (1 : Int) ≤ 1000; omega, ⟨by omega, fun j hj => absurd hj (Nat.not_lt_zero _)⟩, by omega, Nat.le_refl _⟩,
    ⟨⟨by rw [sX0_z (by decide)]; rfl, fun r hr => by rw [sX0_z (by omega)]; rfl, fun r j hr hj => absurd hj (Nat.not_lt_zero _)⟩, fun k hk => ?_, ⟨by rw [sX0_z (by decide)]; rfl, fun j hj => absurd hj (Nat.not_lt_zero _)⟩, ?_, ⟨⟨by decide, by decide, by decide⟩, Or.inl ⟨sX0_z (by decide), rfl⟩⟩, ⟨by rw [sX0_z (by decide)]; rfl, fun j hj => absurd hj (Nat.not_lt_zero _)⟩, ⟨by rw [sX0_z (by decide)]; rfl, fun j hj => absurd hj (Nat.not_lt_zero _)⟩⟩,
    ⟨⟨by rw [sM0_0 (by decide)]; rfl, fun r hr => by rw [sM0_z (by decide) (by decide)]; rfl, fun r j hr hj => absurd hj (Nat.not_lt_zero _)⟩, fun k hk => ?_, ⟨by rw [sM0_0 (by decide)]; rfl, fun j hj => absurd hj (Nat.not_lt_zero _)⟩, ?_, Or.inl ⟨rfl, rfl⟩, ⟨by rw [sM0_0 (by decide)]; rfl, fun j hj => absurd hj (Nat.not_lt_zero _)⟩, ⟨by rw [sM0_0 (by decide)]; rfl, fun j hj => absurd hj (Nat.not_lt_zero _)⟩⟩⟩
  · show (if (18 : Nat) = 18 then (if k < 8 then (1 : Int32) else 0) else 0).toInt = 1
    rw [if_pos rfl, if_pos hk]; rfl
  · show (sX0.1 155 9).toInt = 0
    rw [sX0_z (by decide)]; rfl
  · have hc : k = 0 ∨ k = 1 ∨ k = 2 ∨ k = 3 ∨ k = 4 ∨ k = 5 ∨ k = 6 ∨ k = 7 := by omega
    rcases hc with rfl | rfl | rfl | rfl | rfl | rfl | rfl | rfl <;> rfl
  · show (sM0.1 0 14).toInt = 0
    rw [sM0_0 (by decide)]; rfl
