/-! the two objects as they are made answer alike -/
theorem Rel_first : Rel hX0 hM0 := by
  have hC : RC hX0 hM0 := by
    unfold RC
    have z : (hM0.1 0 4).toInt = 0 := by decide +kernel
    refine ⟨by decide +kernel, by decide +kernel, by decide +kernel, by decide +kernel, by decide +kernel, fun i hi => ?_⟩
    rw [z] at hi
    omega
  refine ⟨none, ⟨by unfold RH; decide +kernel, by unfold VM; decide +kernel, hC⟩, ⟨by unfold RD; decide +kernel, by unfold RW; decide +kernel, by unfold RT0; decide +kernel, by unfold RS RS1; decide +kernel⟩, Or.inl ⟨rfl, by decide +kernel, by decide +kernel⟩, by decide +kernel, KAll.zero (by unfold KZ; decide +kernel) hM0 none⟩
