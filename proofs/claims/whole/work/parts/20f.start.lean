/-! THE START: what the constructors leave is what the law's loop keeps -/
def kMS : zM := zem (kM2 (zfa kM0)) 0 4
theorem kMS_fo : ∀ i, i < 4 → kMS (28 + i) 0 = nI 170 ∧ kMS (28 + i) 1 = nI 0 ∧ kMS (28 + i) 2 = nI 0 ∧ kMS (28 + i) 3 = nI 1 ∧ kMS 40 i = nI 1 ∧ kMS 39 (30 * i + 0) = nI 120 := by decide +kernel
theorem kMS_ke : ∀ q, q < 4 → kMS 32 q = -1 := by decide +kernel
theorem kMS_pl : plN 3 (120 - 120) = 170 := by decide +kernel
theorem kMS_INV : INV kMS := by
  refine ⟨0, fun _ => 0, fun _ => 0, fun _ => 0, 0, fun _ => 0, fun _ => 170, fun _ => 0, fun _ => 0, fun _ => 1, fun _ _ => 120, ?_⟩
  refine ⟨⟨by decide, by decide +kernel, fun i hi => absurd hi (Nat.not_lt_zero i), fun i hi => absurd hi (Nat.not_lt_zero i)⟩, ⟨by decide +kernel, by decide +kernel, by decide, fun i hi => absurd hi (Nat.not_lt_zero i), fun i hi => absurd hi (Nat.not_lt_zero i)⟩, ⟨by decide +kernel, by decide, fun i hi => absurd hi (Nat.not_lt_zero i)⟩, ⟨by decide +kernel, by decide, fun i hi => absurd hi (Nat.not_lt_zero i)⟩, ⟨fun i hi => ?_, fun i hi => show 170 < 256 by decide⟩, fun i hi => ⟨⟨(kMS_fo i hi).2.2.2.2.1, show 1 ≤ 30 by decide, fun k hk => ?_⟩, ?_⟩, fun q _ hq => Or.inl (kMS_ke q hq), fun rc n N h => ?_⟩
  · obtain ⟨h1, h2, h3, h4, _⟩ := kMS_fo i hi
    exact ⟨h1, h2, h3, h4⟩
  · have hk : k < 1 := hk
    obtain rfl : k = 0 := by omega
    exact ⟨(kMS_fo i hi).2.2.2.2.2, show 120 < 256 by decide⟩
  · have h := Ev_pl (m := 0) (P := fun _ => 0) (T := fun _ => 0) (K := fun _ => 0) (X := fun _ => 120) (k := 0) (by decide) (by decide)
    have h : Ev 0 (fun _ => 0) (fun _ => 0) (fun _ => 0) (fun _ => 120) 0 1 (plN 3 (120 - 120)) 0 0 := h
    rw [kMS_pl] at h
    exact h
  · rcases h with ⟨rfl, rfl, rfl⟩ | ⟨rfl, rfl, rfl⟩ | ⟨rfl, rfl, rfl⟩
    · exact ⟨by decide +kernel, by decide +kernel, Or.inl (by decide +kernel)⟩
    · exact ⟨by decide +kernel, by decide +kernel, Or.inl (by decide +kernel)⟩
    · exact ⟨by decide +kernel, by decide +kernel, Or.inl (by decide +kernel)⟩
