/-! the start holds it; every step keeps it -/
def hZero : Hs := mkH 0 0 0 0 0 0 false (fun _ => 0) (fun _ => 0) (fun _ => 0) (fun _ => 0) (fun _ => 0) (fun _ => 0)
set_option maxRecDepth 100000 in
theorem start_rows : ∀ r, r < 8 → sStart (35 + 2 * r) 1 = sStart 263 r ∧ sStart (35 + 2 * r) 2 = sStart 264 r ∧ sStart 264 r = -1 := by decide +kernel
set_option maxRecDepth 100000 in
theorem start_cells : sStart 2 1 = nI 0 ∧ sStart 259 9 = nI 0 ∧ sStart 0 10 = sStart 259 15 ∧ sStart 0 11 = sStart 259 8 ∧ sStart 11 1 = nI 0 ∧ sStart 259 20 = nI 0 := by decide +kernel
set_option maxRecDepth 100000 in
theorem start_house : sStart 19 1 = nI 0 ∧ sStart 19 2 = nI 0 ∧ sStart 19 3 = nI 0 ∧ sStart 19 4 = nI 0 ∧ sStart 19 5 = nI 0 ∧ sStart 19 6 = 0 ∧ sStart 19 14 = nI 0 ∧ sStart 261 0 = 0 ∧ sStart 261 1 = 0 ∧ sStart 261 2 = 0 ∧ sStart 260 25 = 0 ∧ sStart 260 26 = 0 ∧ sStart 0 6 = nI 0 ∧ sStart 0 7 = nI 0 ∧ sStart 259 3 = nI 0 := by decide +kernel
set_option maxRecDepth 100000 in
theorem start_imgs : ∀ k, k < 2 → sStart 262 k = 0 ∧ sStart (51 + 8 * k) 1 = 0 := by decide +kernel
theorem inv_start : Inv sStart := by
  obtain ⟨c1, c2, c3, c4, c5, c6⟩ := start_cells
  obtain ⟨a1, a2, a3, a4, a5, a6, a7, b1, b2, b3, b4, b5, d1, d2, d3⟩ := start_house
  refine ⟨fun r hr => ?_, ⟨0, by omega, c1, c2, fun i q => absurd q (by omega)⟩, ⟨c3, c4⟩, ⟨0, by omega, c5, c6, fun i q => absurd q (by omega)⟩, hZero, 0, 0, fun _ => hZero, fun _ => hZero, ⟨?_, ?_, Nat.zero_le _, fun q => absurd q (by decide), fun _ => ⟨rfl, rfl, rfl, rfl, rfl, rfl, b1, b2, b3, b4, b5⟩⟩, ⟨by omega, by omega, d1, d2, d3, fun _ => rfl, fun i q => absurd q (by omega)⟩, fun k hk => Or.inl (start_imgs k hk)⟩
  · obtain ⟨q1, q2, q3⟩ := start_rows r hr
    exact ⟨q1, q2, Or.inl q3⟩
  · exact ⟨by decide, by decide, by decide, by decide, by decide, by decide, fun l hl => absurd hl (Nat.not_lt_zero l), fun t ht => absurd ht (Nat.not_lt_zero t)⟩
  · exact ⟨a1, a2, a3, a4, a5, a6, a7, fun l hl => absurd hl (Nat.not_lt_zero l), fun t ht => absurd ht (Nat.not_lt_zero t)⟩
theorem all_steps : AllSteps Inv := ⟨step_row, step_set, step_copy, step_drop, step_feed, step_house, step_fault, step_minutes, step_turn, step_plug, step_mend, step_mains, step_rate, step_undo, step_line, step_thing, step_heat, step_later, step_lost, step_dark, step_shed, step_plugs, step_holds, step_faulty, step_bill, step_fits, step_chance, step_drawn, step_image, step_restore, step_kind, step_as, step_ask, step_trace, step_count, step_status⟩
