/-! the first memories hang together -/
def si0 : IM := fun k j => (muX k j).toInt
def ta0 : IM := fun k j => (muM k j).toInt
theorem mI_ofI (x : Int32) : mI x.toInt = x := Int32.ofInt_toInt x
theorem enc_si0 : enc si0 = muX := by
  funext k j
  exact mI_ofI (muX k j)
theorem enc_ta0 : enc ta0 = muM := by
  funext k j
  exact mI_ofI (muM k j)
theorem rx0_law : ∀ i, i < 6 → si0 (1 + 1) i = ta0 2 i ∧ lawLo i ≤ ta0 2 i ∧ ta0 2 i ≤ lawHi i := by decide +kernel
theorem rx0_sheet : ∀ s, s < 4 → si0 (49 + s) 0 = ta0 25 s ∧ ta0 25 s = -1 := by decide +kernel
theorem rx0_n : si0 1 0 = ta0 0 3 ∧ ta0 0 3 = 20 ∧ si0 1 1 = ta0 0 1 ∧ ta0 0 1 = 0 ∧ si0 0 2 = ta0 0 35 ∧ ta0 0 35 = 0 ∧ si0 27 0 = ta0 0 5 ∧ ta0 0 5 = 0 := by decide +kernel
theorem rx0 : RX si0 ta0 := by
  obtain ⟨a1, a2, a3, a4, a5, a6, a7, a8⟩ := rx0_n
  refine ⟨⟨⟨a1, by omega, by omega⟩, ⟨a3, by omega, by omega⟩, rx0_law, fun p hp => absurd hp (by omega)⟩, ⟨a5, Or.inl a6⟩, ⟨⟨a7, by omega, by omega⟩, fun i hi => absurd hi (by omega)⟩, fun s hs => ?_⟩
  obtain ⟨h1, h2⟩ := rx0_sheet s hs
  exact ⟨h1, by omega, by omega, fun h => absurd h (by omega)⟩
