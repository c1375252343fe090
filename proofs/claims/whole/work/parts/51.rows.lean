/-! the rows -/
theorem row_case (x : Int32) : (x < 0 ∨ ¬ x < 8) ∨ ∃ r : Nat, r < 8 ∧ x = nI r := by
  by_cases a : x < 0
  · exact Or.inl (Or.inl a)
  · by_cases b : x < 8
    · obtain ⟨j, hj, rfl⟩ := nI_of a
      refine Or.inr ⟨j, ?_, rfl⟩
      rw [i8, nI_ltI hj (by omega)] at b
      exact b
    · exact Or.inl (Or.inr b)
theorem X_noRow_out {x : Int32} {σ : St} (h : x < 0 ∨ ¬ x < 8) : f_X11_noRow x σ = some (1, σ) := by
  unfold f_X11_noRow
  simp only [lt_eq]
  by_cases a : x < 0
  · simp [a, isB]
  · have b : ¬ x < 8 := h.resolve_left a
    simp [a, b, isB]
theorem X_noRow_in {r : Nat} {σ : St} (h : r < 8) : f_X11_noRow (nI r) σ = some (0, σ) := by
  have a : ¬ nI r < 0 := nI_pos (by omega)
  have b : nI r < 8 := by rw [i8, nI_ltI (by omega) (by omega)]; exact h
  unfold f_X11_noRow
  simp [lt_eq, a, b, isB]
theorem M_in7_out {x : Int32} {σ : St} (h : x < 0 ∨ ¬ x < 8) : f_X12_in x.toInt64 0 7 σ = some (0, σ) := by
  rw [M_in (lo := 0) (hi := 7) (by decide) (by decide)]
  have : ¬ ((0 : Int32) ≤ x ∧ x ≤ 7) := by
    rintro ⟨h1, h2⟩
    rcases h with h | h
    · exact Int32.not_le.mpr h h1
    · refine h ?_
      rw [Int32.lt_iff_toInt_lt]
      rw [Int32.le_iff_toInt_le] at h2
      have e7 : (7 : Int32).toInt = 7 := by decide
      have e8 : (8 : Int32).toInt = 8 := by decide
      omega
  simp [this, bI]
theorem M_in7_in {r : Nat} {σ : St} (h : r < 8) : f_X12_in (nI r).toInt64 0 7 σ = some (1, σ) := by
  rw [M_in (lo := 0) (hi := 7) (by decide) (by decide)]
  have h1 : (0 : Int32) ≤ nI r := by rw [i0, nI_leN (by omega) (by omega)]; omega
  have h2 : nI r ≤ 7 := by rw [i7, nI_leN (by omega) (by omega)]; omega
  simp [h1, h2, bI]
theorem Inv.find {σ : St} (hI : Inv σ) (v : Int32) : Inv (wr (wr σ 0 11 v) 259 8 v) := by
  obtain ⟨hR, hP, hF, hT, hH⟩ := hI
  have o : ∀ b, b ≠ 0 → b ≠ 259 → wr (wr σ 0 11 v) 259 8 v b = σ b := fun b z1 z2 => by rw [wr_a z2, wr_a z1]
  have o0 : ∀ k, k ≠ 11 → wr (wr σ 0 11 v) 259 8 v 0 k = σ 0 k := fun k z => by rw [wr_ne _ (by omega), wr_ne _ (by omega)]
  have o1 : ∀ k, k ≠ 8 → wr (wr σ 0 11 v) 259 8 v 259 k = σ 259 k := fun k z => by rw [wr_ne _ (by omega), wr_ne _ (by omega)]
  refine ⟨hR.fr (fun b hb => o b (by omega) (by omega)), hP.fr (congrFun (o 2 (by decide) (by decide)) 1) (o1 9 (by decide)) (o 3 (by decide) (by decide)) (o 267 (by decide) (by decide)), ⟨?_, ?_⟩, hT.fr (congrFun (o 11 (by decide) (by decide)) 1) (o1 20 (by decide)) (o 12 (by decide) (by decide)) (o 272 (by decide) (by decide)), hH.fr (fun b hb => o b (by omega) (by omega)) (o0 6 (by decide)) (o0 7 (by decide)) (o1 3 (by decide))⟩
  · rw [o0 10 (by decide), o1 15 (by decide)]; exact hF.1
  · rw [wr_ne _ (by omega), wr_same, wr_same]
