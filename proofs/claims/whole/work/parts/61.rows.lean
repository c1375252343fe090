/-! the rows: row, set, drop -/
theorem rowA_n {r : Nat} (h : r < 8) : rowA (nI r) = 35 + 2 * r := by unfold rowA; rw [nI_cl (by omega)]
def KeepR (σ s : St) : Prop := (∀ b, b ≠ 0 → ¬ (35 ≤ b ∧ b < 51) → b ≠ 259 → ¬ (263 ≤ b ∧ b ≤ 266) → s b = σ b) ∧ (∀ k, k ≠ 11 → s 0 k = σ 0 k) ∧ ∀ k, k ≠ 8 → s 259 k = σ 259 k
theorem Inv.rows {σ s : St} (hI : Inv σ) (hk : KeepR σ s) (hf : s 0 11 = s 259 8) (hr : IRows s) : Inv s := by
  obtain ⟨hR, hP, hF, hT, hH⟩ := hI
  refine ⟨hr, hP.fr ?_ (hk.2.2 9 (by omega)) (hk.1 3 (by omega) (by omega) (by omega) (by omega)) (hk.1 267 (by omega) (by omega) (by omega) (by omega)), ⟨?_, hf⟩, hT.fr ?_ (hk.2.2 20 (by omega)) (hk.1 12 (by omega) (by omega) (by omega) (by omega)) (hk.1 272 (by omega) (by omega) (by omega) (by omega)), hH.fr (fun b q => hk.1 b (by omega) (by omega) (by omega) (by omega)) (hk.2.1 6 (by omega)) (hk.2.1 7 (by omega)) (hk.2.2 3 (by omega))⟩
  · rw [hk.1 2 (by omega) (by omega) (by omega) (by omega)]
  · rw [hk.2.1 10 (by omega), hk.2.2 15 (by omega)]; exact hF.1
  · rw [hk.1 11 (by omega) (by omega) (by omega) (by omega)]
/-- a finding, told by both -/
theorem step_find {f g : St → Option (Int32 × St)} {σ : St} (v a : Int32) (hI : Inv σ) (h1 : f σ = some (a, wr σ 0 11 v)) (h2 : g (wr σ 0 11 v) = some (a, wr (wr σ 0 11 v) 259 8 v)) : ∃ r σ1 σ2, f σ = some (r, σ1) ∧ g σ1 = some (r, σ2) ∧ Inv σ2 := ⟨a, _, _, h1, h2, hI.find v⟩
theorem X_missing_0 {a n : Nat} {σ : St} (e : σ a 2 = nI n) (hn : n ≤ 40) : f_X7_isMissing a σ = some (0, σ) := by
  unfold f_X7_isMissing
  simp (disch := omega) only [↓lt_eq, ↓reduceIte, ↓un1, ↓un2, ↓un3, ↓un4, ↓bd_some, ↓bind_some', ↓sel_l, ↓sel_r, C1T, C1F, C2T, C2F, C3T, C3F, D1T, D1F, D2T, D2F, D3T, D3F, E1T, E1F, E2T, E2F, E3T, E3F, G1T, G1F, G2T, G2F, G3F, inb_T, inb_L, isB_0, isB_1, isB_b, nI_add, L_add1, L_add2, nI_cl, L_cl, bI_T, bI_F, eq_self, not_true_eq_false, not_false_eq_true, e]
theorem m1_neg : ((0 : Int32) ≤ -1) = False := by decide
theorem X_missing_1 {a : Nat} {σ : St} (e : σ a 2 = -1) : f_X7_isMissing a σ = some (1, σ) := by
  unfold f_X7_isMissing
  simp (disch := omega) only [↓lt_eq, ↓reduceIte, ↓un1, ↓un2, ↓un3, ↓un4, ↓bd_some, ↓bind_some', ↓sel_l, ↓sel_r, C1T, C1F, C2T, C2F, C3T, C3F, D1T, D1F, D2T, D2F, D3T, D3F, E1T, E1F, E2T, E2F, E3T, E3F, G1T, G1F, G2T, G2F, G3F, inb_T, inb_L, isB_0, isB_1, isB_b, nI_add, L_add1, L_add2, nI_cl, L_cl, bI_T, bI_F, eq_self, not_true_eq_false, not_false_eq_true, e, m1_neg]
theorem X_has {a n i k : Nat} {σ : St} (e : σ a 2 = nI n) (hn : n ≤ 40) (hi : i < 2147483648) (hk : k < 2147483648) : f_X7_has a (nI i) (nI k) σ = some (bI (decide (i + k ≤ n)), σ) := by
  unfold f_X7_has
  by_cases c1 : n < i
  · rw [decide_eq_false (by omega)]
    simp (disch := omega) only [↓lt_eq, ↓reduceIte, ↓un1, ↓un2, ↓un3, ↓un4, ↓bd_some, ↓bind_some', ↓sel_l, ↓sel_r, C1T, C1F, C2T, C2F, C3T, C3F, D1T, D1F, D2T, D2F, D3T, D3F, E1T, E1F, E2T, E2F, E3T, E3F, G1T, G1F, G2T, G2F, G3F, inb_T, inb_L, isB_0, isB_1, isB_b, nI_add, L_add1, L_add2, nI_cl, L_cl, bI_T, bI_F, eq_self, not_true_eq_false, not_false_eq_true, e]
  · by_cases c2 : n - i < k
    · rw [decide_eq_false (by omega)]
      simp (disch := omega) only [↓lt_eq, ↓reduceIte, ↓un1, ↓un2, ↓un3, ↓un4, ↓bd_some, ↓bind_some', ↓sel_l, ↓sel_r, C1T, C1F, C2T, C2F, C3T, C3F, D1T, D1F, D2T, D2F, D3T, D3F, E1T, E1F, E2T, E2F, E3T, E3F, G1T, G1F, G2T, G2F, G3F, inb_T, inb_L, isB_0, isB_1, isB_b, nI_add, L_add1, L_add2, nI_cl, L_cl, bI_T, bI_F, eq_self, not_true_eq_false, not_false_eq_true, e, nI_sub]
    · rw [decide_eq_true (by omega)]
      simp (disch := omega) only [↓lt_eq, ↓reduceIte, ↓un1, ↓un2, ↓un3, ↓un4, ↓bd_some, ↓bind_some', ↓sel_l, ↓sel_r, C1T, C1F, C2T, C2F, C3T, C3F, D1T, D1F, D2T, D2F, D3T, D3F, E1T, E1F, E2T, E2F, E3T, E3F, G1T, G1F, G2T, G2F, G3F, inb_T, inb_L, isB_0, isB_1, isB_b, nI_add, L_add1, L_add2, nI_cl, L_cl, bI_T, bI_F, eq_self, not_true_eq_false, not_false_eq_true, e, nI_sub]
theorem X_has_neg {a : Nat} {x y : Int32} {σ : St} (q : x < 0 ∨ y < 0) : f_X7_has a x y σ = some (0, σ) := by
  unfold f_X7_has
  by_cases c : x < 0
  · simp (disch := omega) only [↓lt_eq, ↓reduceIte, ↓un1, ↓un2, ↓un3, ↓un4, ↓bd_some, ↓bind_some', ↓sel_l, ↓sel_r, C1T, C1F, C2T, C2F, C3T, C3F, D1T, D1F, D2T, D2F, D3T, D3F, E1T, E1F, E2T, E2F, E3T, E3F, G1T, G1F, G2T, G2F, G3F, inb_T, inb_L, isB_0, isB_1, isB_b, nI_add, L_add1, L_add2, nI_cl, L_cl, bI_T, bI_F, eq_self, not_true_eq_false, not_false_eq_true, c]
  · have c2 : y < 0 := q.resolve_left c
    simp (disch := omega) only [↓lt_eq, ↓reduceIte, ↓un1, ↓un2, ↓un3, ↓un4, ↓bd_some, ↓bind_some', ↓sel_l, ↓sel_r, C1T, C1F, C2T, C2F, C3T, C3F, D1T, D1F, D2T, D2F, D3T, D3F, E1T, E1F, E2T, E2F, E3T, E3F, G1T, G1F, G2T, G2F, G3F, inb_T, inb_L, isB_0, isB_1, isB_b, nI_add, L_add1, L_add2, nI_cl, L_cl, bI_T, bI_F, eq_self, not_true_eq_false, not_false_eq_true, c, c2]
theorem X_begin {r n : Nat} {x : Int32} {σ : St} (hr : r < 8) : Ok (f_X7_begin (35 + 2 * r) x (nI n) σ) (fun s => s (35 + 2 * r) 1 = x ∧ s (35 + 2 * r) 2 = nI n ∧ (∀ i, i < 40 → s (36 + 2 * r) i = 0) ∧ ∀ b, b ≠ 35 + 2 * r → b ≠ 36 + 2 * r → s b = σ b) := by
  unfold f_X7_begin
  simp only [lt_eq]
  refine Ok.bind (loop_n (fun i (y : Int32 × St) => y.1 = nI i ∧ y.2 (35 + 2 * r) 1 = x ∧ y.2 (35 + 2 * r) 2 = nI n ∧ (∀ j, j < i → y.2 (36 + 2 * r) j = 0) ∧ ∀ b, b ≠ 35 + 2 * r → b ≠ 36 + 2 * r → y.2 b = σ b) _ 40 5000 _ (by omega) ⟨rfl, ?_, ?_, fun j q => absurd q (by omega), fun b q1 q2 => ?_⟩ ?_ ?_)
  · dsimp only; rw [wr_k (by omega), wr_same]
  · dsimp only; rw [wr_same]
  · dsimp only; rw [wr_a q1, wr_a q1]
  · rintro i ⟨v, s⟩ hi ⟨q0, q1, q2, q3, q4⟩
    simp only at q0 q1 q2 q3 q4
    subst q0
    refine ⟨(nI (i + 1), wr s (35 + 2 * r + 1) i 0), ?_, rfl, ?_, ?_, ?_, ?_⟩
    · unfold f_X7_begin_L12
      simp (disch := omega) only [↓lt_eq, ↓reduceIte, ↓un1, ↓un2, ↓un3, ↓un4, ↓bd_some, ↓bind_some', ↓sel_l, ↓sel_r, C1T, C1F, C2T, C2F, C3T, C3F, D1T, D1F, D2T, D2F, D3T, D3F, E1T, E1F, E2T, E2F, E3T, E3F, G1T, G1F, G2T, G2F, G3F, inb_T, inb_L, isB_0, isB_1, isB_b, nI_add, L_add1, L_add2, nI_cl, L_cl, bI_T, bI_F, eq_self, not_true_eq_false, not_false_eq_true]
    · dsimp only; rw [wr_a (by omega)]; exact q1
    · dsimp only; rw [wr_a (by omega)]; exact q2
    · intro j hj
      simp only [wr_eq]
      by_cases z : j = i
      · rw [if_pos (by omega)]
      · rw [if_neg (by omega)]; exact q3 j (by omega)
    · intro b b1 b2
      simp only
      rw [wr_a (by omega)]; exact q4 b b1 b2
  · rintro ⟨v, s⟩ ⟨q0, q1, q2, q3, q4⟩
    simp only at q0 q1 q2 q3 q4
    subst q0
    refine ⟨s, ?_, ?_⟩
    · unfold f_X7_begin_L12
      simp (disch := omega) only [↓lt_eq, ↓reduceIte, ↓un1, ↓un2, ↓un3, ↓un4, ↓bd_some, ↓bind_some', ↓sel_l, ↓sel_r, C1T, C1F, C2T, C2F, C3T, C3F, D1T, D1F, D2T, D2F, D3T, D3F, E1T, E1F, E2T, E2F, E3T, E3F, G1T, G1F, G2T, G2F, G3F, inb_T, inb_L, isB_0, isB_1, isB_b, nI_add, L_add1, L_add2, nI_cl, L_cl, bI_T, bI_F, eq_self, not_true_eq_false, not_false_eq_true]
    · simp (disch := omega) only [↓lt_eq, ↓reduceIte, ↓un1, ↓un2, ↓un3, ↓un4, ↓bd_some, ↓bind_some', ↓sel_l, ↓sel_r, C1T, C1F, C2T, C2F, C3T, C3F, D1T, D1F, D2T, D2F, D3T, D3F, E1T, E1F, E2T, E2F, E3T, E3F, G1T, G1F, G2T, G2F, G3F, inb_T, inb_L, isB_0, isB_1, isB_b, nI_add, L_add1, L_add2, nI_cl, L_cl, bI_T, bI_F, eq_self, not_true_eq_false, not_false_eq_true]
      exact Ok.ret ⟨q1, q2, q3, q4⟩
theorem M_rowLoop {r n : Nat} {σ : St} (hr : r < 8) (hn : n ≤ 40) : Ok (loopF (f_X12_row_L60 (nI r) (nI n)) 5000 ((0 : Int32), σ)) (fun s => (∀ i, i < n → s 265 (40 * r + i) = 0) ∧ (∀ k, k < 40 * r ∨ 40 * r + n ≤ k → s 265 k = σ 265 k) ∧ ∀ b, b ≠ 265 → s b = σ b) := by
  refine loop_n (fun i (y : Int32 × St) => y.1 = nI i ∧ (∀ j, j < i → y.2 265 (40 * r + j) = 0) ∧ (∀ k, k < 40 * r ∨ 40 * r + n ≤ k → y.2 265 k = σ 265 k) ∧ ∀ b, b ≠ 265 → y.2 b = σ b) _ n 5000 _ (by omega) ⟨rfl, fun j q => absurd q (by omega), fun _ _ => rfl, fun _ _ => rfl⟩ ?_ ?_
  · rintro i ⟨v, s⟩ hi ⟨q0, q1, q2, q3⟩
    simp only at q0 q1 q2 q3
    subst q0
    refine ⟨(nI (i + 1), wr s 265 (40 * r + i) 0), ?_, rfl, ?_, ?_, ?_⟩
    · unfold f_X12_row_L60
      simp (disch := omega) only [↓lt_eq, ↓reduceIte, ↓un1, ↓un2, ↓un3, ↓un4, ↓bd_some, ↓bind_some', ↓sel_l, ↓sel_r, C1T, C1F, C2T, C2F, C3T, C3F, D1T, D1F, D2T, D2F, D3T, D3F, E1T, E1F, E2T, E2F, E3T, E3F, G1T, G1F, G2T, G2F, G3F, inb_T, inb_L, isB_0, isB_1, isB_b, nI_add, L_add1, L_add2, nI_cl, L_cl, bI_T, bI_F, eq_self, not_true_eq_false, not_false_eq_true, L_mul1]
    · intro j hj
      simp only [wr_eq]
      by_cases z : j = i
      · rw [if_pos ⟨trivial, by omega⟩]
      · rw [if_neg (by omega)]; exact q1 j (by omega)
    · intro k hk
      simp only [wr_eq]
      rw [if_neg (by omega)]; exact q2 k hk
    · intro b hb
      simp only [wr_a hb]
      exact q3 b hb
  · rintro ⟨v, s⟩ ⟨q0, q1, q2, q3⟩
    simp only at q0 q1 q2 q3
    subst q0
    refine ⟨s, ?_, q1, q2, q3⟩
    unfold f_X12_row_L60
    simp (disch := omega) only [↓lt_eq, ↓reduceIte, ↓un1, ↓un2, ↓un3, ↓un4, ↓bd_some, ↓bind_some', ↓sel_l, ↓sel_r, C1T, C1F, C2T, C2F, C3T, C3F, D1T, D1F, D2T, D2F, D3T, D3F, E1T, E1F, E2T, E2F, E3T, E3F, G1T, G1F, G2T, G2F, G3F, inb_T, inb_L, isB_0, isB_1, isB_b, nI_add, L_add1, L_add2, nI_cl, L_cl, bI_T, bI_F, eq_self, not_true_eq_false, not_false_eq_true]
theorem IRows.upd {σ s : St} (hR : IRows σ) {r : Nat} (hr : RowOk s r) (h1 : ∀ b, 35 ≤ b → b < 51 → b ≠ 35 + 2 * r → b ≠ 36 + 2 * r → s b = σ b) (h2 : ∀ k, k ≠ r → s 263 k = σ 263 k) (h3 : ∀ k, k ≠ r → s 264 k = σ 264 k) (h4 : ∀ k, k < 40 * r ∨ 40 * r + 40 ≤ k → s 265 k = σ 265 k) : IRows s := by
  intro q hq
  by_cases e : q = r
  · subst e; exact hr
  · obtain ⟨a, b, c⟩ := hR q hq
    refine ⟨?_, ?_, ?_⟩
    · rw [h1 (35 + 2 * q) (by omega) (by omega) (by omega) (by omega), h2 q e]; exact a
    · rw [h1 (35 + 2 * q) (by omega) (by omega) (by omega) (by omega), h3 q e]; exact b
    · rw [h3 q e]
      rcases c with c | ⟨n, c1, c2, c3⟩
      · exact Or.inl c
      · refine Or.inr ⟨n, c1, c2, fun i hi => ?_⟩
        rw [h1 (36 + 2 * q) (by omega) (by omega) (by omega) (by omega), h4 (40 * q + i) (by omega)]; exact c3 i hi
theorem step_row (x1 x2 x3 : Int32) : Step Inv (f_X11_row x1 x2 x3) (f_X12_row x1 x2 x3) := by
  intro σ hI
  obtain ⟨hR, hP, hF, hT, hH⟩ := id hI
  rcases row_case x1 with q | ⟨r, hr, rfl⟩
  · refine step_same (-1000001) hI ?_ ?_
    · unfold f_X11_row
      simp (disch := omega) only [↓lt_eq, ↓reduceIte, ↓un1, ↓un2, ↓un3, ↓un4, ↓bd_some, ↓bind_some', ↓sel_l, ↓sel_r, C1T, C1F, C2T, C2F, C3T, C3F, D1T, D1F, D2T, D2F, D3T, D3F, E1T, E1F, E2T, E2F, E3T, E3F, G1T, G1F, G2T, G2F, G3F, inb_T, inb_L, isB_0, isB_1, isB_b, nI_add, L_add1, L_add2, nI_cl, L_cl, bI_T, bI_F, eq_self, not_true_eq_false, not_false_eq_true, ↓bd_of (X_noRow_out (σ := σ) q)]
    · unfold f_X12_row
      simp (disch := omega) only [↓lt_eq, ↓reduceIte, ↓un1, ↓un2, ↓un3, ↓un4, ↓bd_some, ↓bind_some', ↓sel_l, ↓sel_r, C1T, C1F, C2T, C2F, C3T, C3F, D1T, D1F, D2T, D2F, D3T, D3F, E1T, E1F, E2T, E2F, E3T, E3F, G1T, G1F, G2T, G2F, G3F, inb_T, inb_L, isB_0, isB_1, isB_b, nI_add, L_add1, L_add2, nI_cl, L_cl, bI_T, bI_F, eq_self, not_true_eq_false, not_false_eq_true, ↓bd_of (M_in7_out (σ := σ) q)]
  rcases rng x2 (lo := 0) (hi := 2) 0 2 (by decide) (by decide) (by omega) (by omega) with q | ⟨w, w1, w2, rfl⟩
  · refine step_same (-1000001) hI ?_ ?_
    · unfold f_X11_row
      simp (disch := omega) only [↓lt_eq, ↓reduceIte, ↓un1, ↓un2, ↓un3, ↓un4, ↓bd_some, ↓bind_some', ↓sel_l, ↓sel_r, C1T, C1F, C2T, C2F, C3T, C3F, D1T, D1F, D2T, D2F, D3T, D3F, E1T, E1F, E2T, E2F, E3T, E3F, G1T, G1F, G2T, G2F, G3F, inb_T, inb_L, isB_0, isB_1, isB_b, nI_add, L_add1, L_add2, nI_cl, L_cl, bI_T, bI_F, eq_self, not_true_eq_false, not_false_eq_true, ↓bd_of (X_noRow_in (σ := σ) hr), ↓ite_out2 q]
    · unfold f_X12_row
      simp (disch := omega) only [↓lt_eq, ↓reduceIte, ↓un1, ↓un2, ↓un3, ↓un4, ↓bd_some, ↓bind_some', ↓sel_l, ↓sel_r, C1T, C1F, C2T, C2F, C3T, C3F, D1T, D1F, D2T, D2F, D3T, D3F, E1T, E1F, E2T, E2F, E3T, E3F, G1T, G1F, G2T, G2F, G3F, inb_T, inb_L, isB_0, isB_1, isB_b, nI_add, L_add1, L_add2, nI_cl, L_cl, bI_T, bI_F, eq_self, not_true_eq_false, not_false_eq_true, ↓bd_of (M_in7_in (σ := σ) hr), ↓bd_of (M_out (lo := 0) (hi := 2) (L := 0) (H := 2) (by decide) (by decide) q)]
  by_cases c1 : ¬ x3 ≤ 40
  · refine step_same (-1000001) hI ?_ ?_
    · unfold f_X11_row
      simp (disch := omega) only [↓lt_eq, ↓reduceIte, ↓un1, ↓un2, ↓un3, ↓un4, ↓bd_some, ↓bind_some', ↓sel_l, ↓sel_r, C1T, C1F, C2T, C2F, C3T, C3F, D1T, D1F, D2T, D2F, D3T, D3F, E1T, E1F, E2T, E2F, E3T, E3F, G1T, G1F, G2T, G2F, G3F, inb_T, inb_L, isB_0, isB_1, isB_b, nI_add, L_add1, L_add2, nI_cl, L_cl, bI_T, bI_F, eq_self, not_true_eq_false, not_false_eq_true, ↓bd_of (X_noRow_in (σ := σ) hr), c1]
    · unfold f_X12_row
      simp (disch := omega) only [↓lt_eq, ↓reduceIte, ↓un1, ↓un2, ↓un3, ↓un4, ↓bd_some, ↓bind_some', ↓sel_l, ↓sel_r, C1T, C1F, C2T, C2F, C3T, C3F, D1T, D1F, D2T, D2F, D3T, D3F, E1T, E1F, E2T, E2F, E3T, E3F, G1T, G1F, G2T, G2F, G3F, inb_T, inb_L, isB_0, isB_1, isB_b, nI_add, L_add1, L_add2, nI_cl, L_cl, bI_T, bI_F, eq_self, not_true_eq_false, not_false_eq_true, ↓bd_of (M_in7_in (σ := σ) hr), ↓bd_of (M_inn (σ := σ) (L := 0) (H := 2) (a := 0) (b := 2) (by decide) (by decide) w1 w2 (by decide)), c1]
  have c1 := Decidable.not_not.mp c1
  by_cases c2 : ¬ 0 ≤ x3
  · refine step_find 4 ((-1000010 : Int32) - 4) hI ?_ ?_
    · unfold f_X11_row
      simp (disch := omega) only [↓lt_eq, ↓reduceIte, ↓un1, ↓un2, ↓un3, ↓un4, ↓bd_some, ↓bind_some', ↓sel_l, ↓sel_r, C1T, C1F, C2T, C2F, C3T, C3F, D1T, D1F, D2T, D2F, D3T, D3F, E1T, E1F, E2T, E2F, E3T, E3F, G1T, G1F, G2T, G2F, G3F, inb_T, inb_L, isB_0, isB_1, isB_b, nI_add, L_add1, L_add2, nI_cl, L_cl, bI_T, bI_F, eq_self, not_true_eq_false, not_false_eq_true, ↓bd_of (X_noRow_in (σ := σ) hr), c1, c2, f_X11_found, bd_some]
    · unfold f_X12_row
      simp (disch := omega) only [↓lt_eq, ↓reduceIte, ↓un1, ↓un2, ↓un3, ↓un4, ↓bd_some, ↓bind_some', ↓sel_l, ↓sel_r, C1T, C1F, C2T, C2F, C3T, C3F, D1T, D1F, D2T, D2F, D3T, D3F, E1T, E1F, E2T, E2F, E3T, E3F, G1T, G1F, G2T, G2F, G3F, inb_T, inb_L, isB_0, isB_1, isB_b, nI_add, L_add1, L_add2, nI_cl, L_cl, bI_T, bI_F, eq_self, not_true_eq_false, not_false_eq_true, ↓bd_of (M_in7_in (σ := wr σ 0 11 4) hr), ↓bd_of (M_inn (σ := wr σ 0 11 4) (L := 0) (H := 2) (a := 0) (b := 2) (by decide) (by decide) w1 w2 (by decide)), c1, c2, f_X12_finds, bd_some]
  have c2 := Decidable.not_not.mp c2
  obtain ⟨n, hn, rfl⟩ : ∃ j : Nat, j ≤ 40 ∧ x3 = nI j := nI_of2 (M := 40) (by decide) (fun z => Int32.not_le.mpr z c2) c1
  obtain ⟨s1, e1, k1, k2, k3, k4⟩ := X_begin (r := r) (n := n) (x := nI w) (σ := σ) hr
  have hs2 : ∀ b, b ≠ 0 → wr s1 0 11 0 b = s1 b := fun b q => wr_a q
  obtain ⟨s2, e2, m1, m2, m3⟩ := M_rowLoop (r := r) (n := n) (σ := wr (wr (wr s1 0 11 0) 263 r (nI w)) 264 r (nI n)) hr hn
  refine ⟨nI n, wr s1 0 11 0, wr s2 259 8 0, ?_, ?_, ?_⟩
  · unfold f_X11_row
    simp (disch := omega) only [↓lt_eq, ↓reduceIte, ↓un1, ↓un2, ↓un3, ↓un4, ↓bd_some, ↓bind_some', ↓sel_l, ↓sel_r, C1T, C1F, C2T, C2F, C3T, C3F, D1T, D1F, D2T, D2F, D3T, D3F, E1T, E1F, E2T, E2F, E3T, E3F, G1T, G1F, G2T, G2F, G3F, inb_T, inb_L, isB_0, isB_1, isB_b, nI_add, L_add1, L_add2, nI_cl, L_cl, bI_T, bI_F, eq_self, not_true_eq_false, not_false_eq_true, ↓bd_of (X_noRow_in (σ := σ) hr), rowA_n hr, ↓bind_of e1, f_X11_fine, bd_some]
  · unfold f_X12_row
    simp (disch := omega) only [↓lt_eq, ↓reduceIte, ↓un1, ↓un2, ↓un3, ↓un4, ↓bd_some, ↓bind_some', ↓sel_l, ↓sel_r, C1T, C1F, C2T, C2F, C3T, C3F, D1T, D1F, D2T, D2F, D3T, D3F, E1T, E1F, E2T, E2F, E3T, E3F, G1T, G1F, G2T, G2F, G3F, inb_T, inb_L, isB_0, isB_1, isB_b, nI_add, L_add1, L_add2, nI_cl, L_cl, bI_T, bI_F, eq_self, not_true_eq_false, not_false_eq_true, ↓bd_of (M_in7_in (σ := wr s1 0 11 0) hr), ↓bd_of (M_inn (σ := wr s1 0 11 0) (L := 0) (H := 2) (a := 0) (b := 2) (by decide) (by decide) w1 w2 (by decide)), ↓bind_of e2, f_X12_fine, bd_some]
  · have o : ∀ b, b ≠ 0 → b ≠ 259 → b ≠ 263 → b ≠ 264 → b ≠ 265 → wr s2 259 8 0 b = s1 b := fun b z1 z2 z3 z4 z5 => by
      rw [wr_a z2, m3 b z5, wr_a z4, wr_a z3, wr_a z1]
    have u1 : ∀ k, wr s2 259 8 0 263 k = if k = r then nI w else σ 263 k := fun k => by
      rw [wr_a (by omega), m3 263 (by omega), wr_a (by omega)]
      by_cases z : k = r
      · rw [z, if_pos rfl, wr_same]
      · rw [if_neg z, wr_k z, wr_a (by omega), k4 263 (by omega) (by omega)]
    have u2 : ∀ k, wr s2 259 8 0 264 k = if k = r then nI n else σ 264 k := fun k => by
      rw [wr_a (by omega), m3 264 (by omega)]
      by_cases z : k = r
      · rw [z, if_pos rfl, wr_same]
      · rw [if_neg z, wr_k z, wr_a (by omega), wr_a (by omega), k4 264 (by omega) (by omega)]
    refine hI.rows ⟨?_, ?_, ?_⟩ ?_ (hR.upd (r := r) ⟨?_, ?_, Or.inr ⟨n, hn, ?_, ?_⟩⟩ ?_ ?_ ?_ ?_)
    · intro b b1 b2 b3 b4
      rw [o b b1 b3 (by omega) (by omega) (by omega), k4 b (by omega) (by omega)]
    · intro k hk
      rw [wr_a (by omega), m3 0 (by omega), wr_a (by omega), wr_a (by omega), wr_k hk, k4 0 (by omega) (by omega)]
    · intro k hk
      rw [wr_k hk, m3 259 (by omega), wr_a (by omega), wr_a (by omega), wr_a (by omega), k4 259 (by omega) (by omega)]
    · rw [wr_same, wr_a (by omega), m3 0 (by omega), wr_a (by omega), wr_a (by omega), wr_same]
    · rw [o (35 + 2 * r) (by omega) (by omega) (by omega) (by omega) (by omega), k1, u1, if_pos rfl]
    · rw [o (35 + 2 * r) (by omega) (by omega) (by omega) (by omega) (by omega), k2, u2, if_pos rfl]
    · rw [u2, if_pos rfl]
    · intro i hi
      rw [o (36 + 2 * r) (by omega) (by omega) (by omega) (by omega) (by omega), k3 i (by omega), wr_a (by omega), m1 i hi]
    · intro b b1 b2 b3 b4
      rw [o b (by omega) (by omega) (by omega) (by omega) (by omega), k4 b b3 b4]
    · intro k hk
      rw [u1, if_neg hk]
    · intro k hk
      rw [u2, if_neg hk]
    · intro k hk
      rw [wr_a (by omega), m2 k (by omega), wr_a (by omega), wr_a (by omega), wr_a (by omega), k4 265 (by omega) (by omega)]
theorem step_drop (x1 : Int32) : Step Inv (f_X11_drop x1) (f_X12_drop x1) := by
  intro σ hI
  obtain ⟨hR, hP, hF, hT, hH⟩ := id hI
  rcases row_case x1 with q | ⟨r, hr, rfl⟩
  · refine step_same (-1000001) hI ?_ ?_
    · unfold f_X11_drop
      simp (disch := omega) only [↓lt_eq, ↓reduceIte, ↓un1, ↓un2, ↓un3, ↓un4, ↓bd_some, ↓bind_some', ↓sel_l, ↓sel_r, C1T, C1F, C2T, C2F, C3T, C3F, D1T, D1F, D2T, D2F, D3T, D3F, E1T, E1F, E2T, E2F, E3T, E3F, G1T, G1F, G2T, G2F, G3F, inb_T, inb_L, isB_0, isB_1, isB_b, nI_add, L_add1, L_add2, nI_cl, L_cl, bI_T, bI_F, eq_self, not_true_eq_false, not_false_eq_true, ↓bd_of (X_noRow_out (σ := σ) q)]
    · unfold f_X12_drop
      simp (disch := omega) only [↓lt_eq, ↓reduceIte, ↓un1, ↓un2, ↓un3, ↓un4, ↓bd_some, ↓bind_some', ↓sel_l, ↓sel_r, C1T, C1F, C2T, C2F, C3T, C3F, D1T, D1F, D2T, D2F, D3T, D3F, E1T, E1F, E2T, E2F, E3T, E3F, G1T, G1F, G2T, G2F, G3F, inb_T, inb_L, isB_0, isB_1, isB_b, nI_add, L_add1, L_add2, nI_cl, L_cl, bI_T, bI_F, eq_self, not_true_eq_false, not_false_eq_true, ↓bd_of (M_in7_out (σ := σ) q)]
  obtain ⟨a1, a2, a3⟩ := hR r hr
  rcases a3 with c | ⟨n, c1, c2, c3⟩
  · have e1 : σ (35 + 2 * r) 2 = -1 := a2.trans c
    have c' : wr σ 0 11 1 264 r = -1 := by rw [wr_a (by omega)]; exact c
    refine step_find 1 ((-1000010 : Int32) - 1) hI ?_ ?_
    · unfold f_X11_drop
      simp (disch := omega) only [↓lt_eq, ↓reduceIte, ↓un1, ↓un2, ↓un3, ↓un4, ↓bd_some, ↓bind_some', ↓sel_l, ↓sel_r, C1T, C1F, C2T, C2F, C3T, C3F, D1T, D1F, D2T, D2F, D3T, D3F, E1T, E1F, E2T, E2F, E3T, E3F, G1T, G1F, G2T, G2F, G3F, inb_T, inb_L, isB_0, isB_1, isB_b, nI_add, L_add1, L_add2, nI_cl, L_cl, bI_T, bI_F, eq_self, not_true_eq_false, not_false_eq_true, ↓bd_of (X_noRow_in (σ := σ) hr), rowA_n hr, ↓bd_of (X_missing_1 e1), f_X11_found, bd_some]
    · unfold f_X12_drop
      simp (disch := omega) only [↓lt_eq, ↓reduceIte, ↓un1, ↓un2, ↓un3, ↓un4, ↓bd_some, ↓bind_some', ↓sel_l, ↓sel_r, C1T, C1F, C2T, C2F, C3T, C3F, D1T, D1F, D2T, D2F, D3T, D3F, E1T, E1F, E2T, E2F, E3T, E3F, G1T, G1F, G2T, G2F, G3F, inb_T, inb_L, isB_0, isB_1, isB_b, nI_add, L_add1, L_add2, nI_cl, L_cl, bI_T, bI_F, eq_self, not_true_eq_false, not_false_eq_true, ↓bd_of (M_in7_in (σ := wr σ 0 11 1) hr), c', m1_neg, f_X12_finds, bd_some]
  · have e1 : σ (35 + 2 * r) 2 = nI n := a2.trans c2
    have hd : 35 + 2 * r ≠ 0 := by omega
    refine ⟨nI n, wr (wr σ (35 + 2 * r) 2 (-1)) 0 11 0, wr (wr (wr (wr σ (35 + 2 * r) 2 (-1)) 0 11 0) 264 r (-1)) 259 8 0, ?_, ?_, ?_⟩
    · unfold f_X11_drop
      simp (disch := omega) only [↓lt_eq, ↓reduceIte, ↓un1, ↓un2, ↓un3, ↓un4, ↓bd_some, ↓bind_some', ↓sel_l, ↓sel_r, C1T, C1F, C2T, C2F, C3T, C3F, D1T, D1F, D2T, D2F, D3T, D3F, E1T, E1F, E2T, E2F, E3T, E3F, G1T, G1F, G2T, G2F, G3F, inb_T, inb_L, isB_0, isB_1, isB_b, nI_add, L_add1, L_add2, nI_cl, L_cl, bI_T, bI_F, eq_self, not_true_eq_false, not_false_eq_true, ↓bd_of (X_noRow_in (σ := σ) hr), rowA_n hr, ↓bd_of (X_missing_0 e1 c1), f_X7_end, f_X11_fine, bd_some, e1]
    · have c' : wr (wr σ (35 + 2 * r) 2 (-1)) 0 11 0 264 r = nI n := by rw [wr_a (by omega), wr_a (by omega)]; exact c2
      unfold f_X12_drop
      simp (disch := omega) only [↓lt_eq, ↓reduceIte, ↓un1, ↓un2, ↓un3, ↓un4, ↓bd_some, ↓bind_some', ↓sel_l, ↓sel_r, C1T, C1F, C2T, C2F, C3T, C3F, D1T, D1F, D2T, D2F, D3T, D3F, E1T, E1F, E2T, E2F, E3T, E3F, G1T, G1F, G2T, G2F, G3F, inb_T, inb_L, isB_0, isB_1, isB_b, nI_add, L_add1, L_add2, nI_cl, L_cl, bI_T, bI_F, eq_self, not_true_eq_false, not_false_eq_true, ↓bd_of (M_in7_in (σ := wr (wr σ (35 + 2 * r) 2 (-1)) 0 11 0) hr), c', f_X12_fine, bd_some]
    · have o : ∀ b, b ≠ 0 → b ≠ 259 → b ≠ 264 → b ≠ 35 + 2 * r → wr (wr (wr (wr σ (35 + 2 * r) 2 (-1)) 0 11 0) 264 r (-1)) 259 8 0 b = σ b := fun b z1 z2 z3 z4 => by
        rw [wr_a z2, wr_a z3, wr_a z1, wr_a z4]
      refine hI.rows ⟨fun b b1 b2 b3 b4 => o b b1 b3 (by omega) (by omega), ?_, ?_⟩ ?_ (hR.upd (r := r) ⟨?_, ?_, Or.inl ?_⟩ ?_ ?_ ?_ ?_)
      · intro k hk
        rw [wr_a (by omega), wr_a (by omega), wr_k hk, wr_a (by omega)]
      · intro k hk
        rw [wr_k hk, wr_a (by omega), wr_a (by omega), wr_a (by omega)]
      · rw [wr_same, wr_a (by omega), wr_a (by omega), wr_same]
      · rw [wr_a (by omega), wr_a (by omega), wr_a (by omega), wr_k (by omega), o 263 (by omega) (by omega) (by omega) (by omega)]; exact a1
      · rw [wr_a (by omega), wr_a (by omega), wr_a (by omega), wr_same, wr_a (by omega), wr_same]
      · rw [wr_a (by omega), wr_same]
      · intro b b1 b2 b3 b4
        exact o b (by omega) (by omega) (by omega) (by omega)
      · intro k hk
        rw [o 263 (by omega) (by omega) (by omega) (by omega)]
      · intro k hk
        rw [wr_a (by omega), wr_k hk, wr_a (by omega), wr_a (by omega)]
      · intro k hk
        rw [o 265 (by omega) (by omega) (by omega) (by omega)]
