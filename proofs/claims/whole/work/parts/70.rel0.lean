/-! THE START -/
theorem fCv_ok : ∀ u, u < 3 → ∀ v, v < 3 → ∀ g, g < 11 → 1 ≤ g → fCv ((u * 3 + v) * 11 + g) = if u = v then nI g else 0 := by decide +kernel
theorem rel0 : Rel SX0 S00 := by
  have z : ∀ k, sz SX0 k = 0 := fun k => by show (0 : Int32).toNatClampNeg = 0; decide
  refine ⟨fun k _ => rfl, fun q hq => ?_, ?_, ?_, ?_, ?_, ?_, ?_, ?_, ?_, ?_, ?_⟩
  · show (if q = 22 then fCv else fun _ => 0) = fun _ => 0
    rw [if_neg (arrs_ok q hq).2.2.1]
  · intro u v g hu hv hg hg2
    have e := fCv_ok u hu v hv g (by omega) hg
    refine ⟨e, ?_⟩
    by_cases c : u = v
    · exact ⟨g, hg2, by show fCv _ = _; rw [e, if_pos c]⟩
    · exact ⟨0, by omega, by show fCv _ = _; rw [e, if_neg c]; rfl⟩
  · intro h
    exact absurd h (by show ¬ ((0 : Int32) = 1); decide)
  · unfold InvS
    rw [z, z, z, z, z, z, z, z]
    exact ⟨⟨rfl, by decide⟩, ⟨rfl, by decide⟩, ⟨rfl, by decide⟩, ⟨rfl, by decide⟩, ⟨rfl, by decide⟩, ⟨rfl, by decide⟩, ⟨rfl, by decide⟩, ⟨rfl, by decide⟩, Or.inl rfl⟩
  · intro p hp
    rw [z] at hp
    exact absurd hp (Nat.not_lt_zero p)
  · unfold InvC
    rw [z, z]
    rfl
  · intro p hp
    rw [z] at hp
    exact absurd hp (Nat.not_lt_zero p)
  · intro p hp
    rw [z] at hp
    exact absurd hp (Nat.not_lt_zero p)
  · intro p hp
    rw [z] at hp
    exact absurd hp (Nat.not_lt_zero p)
  · intro p hp
    rw [z] at hp
    exact absurd hp (Nat.not_lt_zero p)
  · intro x _
    exact ⟨0, by omega, rfl, fun _ => rfl, fun i hi => absurd hi (Nat.not_lt_zero i), fun i _ hi => absurd hi (Nat.not_lt_zero i)⟩
