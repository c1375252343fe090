/-! the rows: set, copy -/
def cutI (l v : Int32) : Int32 := if l = 0 then v.toInt8.toInt32 else if l = 1 then v.toInt16.toInt32 else v
theorem X_cut (a : Nat) (v : Int32) (σ : St) : f_X7_cut a v σ = some (cutI (σ a 1) v, σ) := by
  unfold f_X7_cut cutI
  split
  · rfl
  · split <;> rfl
theorem step_set (x1 x2 x3 : Int32) : Step Inv (f_X11_set x1 x2 x3) (f_X12_set x1 x2 x3) := by
  intro σ hI
  obtain ⟨hR, hP, hF, hT, hH⟩ := id hI
  rcases row_case x1 with q | ⟨r, hr, rfl⟩
  · refine step_same (-1000001) hI ?_ ?_
    · unfold f_X11_set
      simp (disch := omega) only [↓lt_eq, ↓reduceIte, ↓un1, ↓un2, ↓un3, ↓un4, ↓bd_some, ↓bind_some', ↓sel_l, ↓sel_r, C1T, C1F, C2T, C2F, C3T, C3F, D1T, D1F, D2T, D2F, D3T, D3F, E1T, E1F, E2T, E2F, E3T, E3F, G1T, G1F, G2T, G2F, G3F, inb_T, inb_L, isB_0, isB_1, isB_b, nI_add, L_add1, L_add2, nI_cl, L_cl, bI_T, bI_F, eq_self, not_true_eq_false, not_false_eq_true, ↓bd_of (X_noRow_out (σ := σ) q)]
    · unfold f_X12_set
      simp (disch := omega) only [↓lt_eq, ↓reduceIte, ↓un1, ↓un2, ↓un3, ↓un4, ↓bd_some, ↓bind_some', ↓sel_l, ↓sel_r, C1T, C1F, C2T, C2F, C3T, C3F, D1T, D1F, D2T, D2F, D3T, D3F, E1T, E1F, E2T, E2F, E3T, E3F, G1T, G1F, G2T, G2F, G3F, inb_T, inb_L, isB_0, isB_1, isB_b, nI_add, L_add1, L_add2, nI_cl, L_cl, bI_T, bI_F, eq_self, not_true_eq_false, not_false_eq_true, ↓bd_of (M_in7_out (σ := σ) q)]
  obtain ⟨a1, a2, a3⟩ := hR r hr
  rcases a3 with c | ⟨n, c1, c2, c3⟩
  · have e1 : σ (35 + 2 * r) 2 = -1 := a2.trans c
    have c' : wr σ 0 11 1 264 r = -1 := by rw [wr_a (by omega)]; exact c
    refine step_find 1 ((-1000010 : Int32) - 1) hI ?_ ?_
    · unfold f_X11_set
      simp (disch := omega) only [↓lt_eq, ↓reduceIte, ↓un1, ↓un2, ↓un3, ↓un4, ↓bd_some, ↓bind_some', ↓sel_l, ↓sel_r, C1T, C1F, C2T, C2F, C3T, C3F, D1T, D1F, D2T, D2F, D3T, D3F, E1T, E1F, E2T, E2F, E3T, E3F, G1T, G1F, G2T, G2F, G3F, inb_T, inb_L, isB_0, isB_1, isB_b, nI_add, L_add1, L_add2, nI_cl, L_cl, bI_T, bI_F, eq_self, not_true_eq_false, not_false_eq_true, ↓bd_of (X_noRow_in (σ := σ) hr), rowA_n hr, ↓bd_of (X_missing_1 e1), f_X11_found, bd_some]
    · unfold f_X12_set
      simp (disch := omega) only [↓lt_eq, ↓reduceIte, ↓un1, ↓un2, ↓un3, ↓un4, ↓bd_some, ↓bind_some', ↓sel_l, ↓sel_r, C1T, C1F, C2T, C2F, C3T, C3F, D1T, D1F, D2T, D2F, D3T, D3F, E1T, E1F, E2T, E2F, E3T, E3F, G1T, G1F, G2T, G2F, G3F, inb_T, inb_L, isB_0, isB_1, isB_b, nI_add, L_add1, L_add2, nI_cl, L_cl, bI_T, bI_F, eq_self, not_true_eq_false, not_false_eq_true, ↓bd_of (M_in7_in (σ := wr σ 0 11 1) hr), c', m1_neg, f_X12_finds, bd_some]
  have e1 : σ (35 + 2 * r) 2 = nI n := a2.trans c2
  rcases idx x2 n (by omega) with q | ⟨i, hi, rfl⟩
  · have c' : wr σ 0 11 2 264 r = nI n := by rw [wr_a (by omega)]; exact c2
    have e2 : f_X7_has (35 + 2 * r) x2 (1 : Int32) σ = some (0, σ) := by
      rcases q with q | ⟨q1, q2⟩
      · exact X_has_neg (Or.inl q)
      · obtain ⟨j, hj, rfl⟩ := nI_of q1
        have hj2 : ¬ j < n := fun z => q2 ((nI_ltI hj (by omega)).mpr z)
        have := X_has (a := 35 + 2 * r) (i := j) (k := 1) e1 c1 hj (by omega)
        rw [decide_eq_false (by omega)] at this
        exact this
    refine step_find 2 ((-1000010 : Int32) - 2) hI ?_ ?_
    · unfold f_X11_set
      simp (disch := omega) only [↓lt_eq, ↓reduceIte, ↓un1, ↓un2, ↓un3, ↓un4, ↓bd_some, ↓bind_some', ↓sel_l, ↓sel_r, C1T, C1F, C2T, C2F, C3T, C3F, D1T, D1F, D2T, D2F, D3T, D3F, E1T, E1F, E2T, E2F, E3T, E3F, G1T, G1F, G2T, G2F, G3F, inb_T, inb_L, isB_0, isB_1, isB_b, nI_add, L_add1, L_add2, nI_cl, L_cl, bI_T, bI_F, eq_self, not_true_eq_false, not_false_eq_true, ↓bd_of (X_noRow_in (σ := σ) hr), rowA_n hr, ↓bd_of (X_missing_0 e1 c1), ↓bd_of e2, f_X11_found, bd_some]
    · unfold f_X12_set
      simp (disch := omega) only [↓lt_eq, ↓reduceIte, ↓un1, ↓un2, ↓un3, ↓un4, ↓bd_some, ↓bind_some', ↓sel_l, ↓sel_r, C1T, C1F, C2T, C2F, C3T, C3F, D1T, D1F, D2T, D2F, D3T, D3F, E1T, E1F, E2T, E2F, E3T, E3F, G1T, G1F, G2T, G2F, G3F, inb_T, inb_L, isB_0, isB_1, isB_b, nI_add, L_add1, L_add2, nI_cl, L_cl, bI_T, bI_F, eq_self, not_true_eq_false, not_false_eq_true, ↓bd_of (M_in7_in (σ := wr σ 0 11 2) hr), c', ↓bd_of (M_idx_out (σ := wr σ 0 11 2) q (by omega)), f_X12_finds, bd_some]
  have e2 : f_X7_has (35 + 2 * r) (nI i) (1 : Int32) σ = some (1, σ) := by
    have := X_has (a := 35 + 2 * r) (i := i) (k := 1) e1 c1 (by omega) (by omega)
    rw [decide_eq_true (by omega)] at this
    exact this
  have e3 := X_cut (35 + 2 * r) x3 σ
  rw [a1] at e3
  have hd : 35 + 2 * r + 1 ≠ 0 := by omega
  refine ⟨cutI (σ 263 r) x3, wr (wr σ (35 + 2 * r + 1) i (cutI (σ 263 r) x3)) 0 11 0, wr (wr (wr (wr σ (35 + 2 * r + 1) i (cutI (σ 263 r) x3)) 0 11 0) 265 (40 * r + i) (cutI (σ 263 r) x3)) 259 8 0, ?_, ?_, ?_⟩
  · unfold f_X11_set
    simp (disch := omega) only [↓lt_eq, ↓reduceIte, ↓un1, ↓un2, ↓un3, ↓un4, ↓bd_some, ↓bind_some', ↓sel_l, ↓sel_r, C1T, C1F, C2T, C2F, C3T, C3F, D1T, D1F, D2T, D2F, D3T, D3F, E1T, E1F, E2T, E2F, E3T, E3F, G1T, G1F, G2T, G2F, G3F, inb_T, inb_L, isB_0, isB_1, isB_b, nI_add, L_add1, L_add2, nI_cl, L_cl, bI_T, bI_F, eq_self, not_true_eq_false, not_false_eq_true, ↓bd_of (X_noRow_in (σ := σ) hr), rowA_n hr, ↓bd_of (X_missing_0 e1 c1), ↓bd_of e2, ↓bd_of e3, f_X11_fine, bd_some, wr_same]
  · generalize hs : wr (wr σ (35 + 2 * r + 1) i (cutI (σ 263 r) x3)) 0 11 0 = s
    have c' : s 264 r = nI n := by rw [← hs, wr_a (by omega), wr_a (by omega)]; exact c2
    have c3' : s 263 r = σ 263 r := by rw [← hs, wr_a (by omega), wr_a (by omega)]
    unfold f_X12_set
    by_cases z0 : σ 263 r = 0
    · have ec : cutI (σ 263 r) x3 = x3.toInt8.toInt32 := if_pos z0
      rw [ec]
      simp (disch := omega) only [↓lt_eq, ↓reduceIte, ↓un1, ↓un2, ↓un3, ↓un4, ↓bd_some, ↓bind_some', ↓sel_l, ↓sel_r, C1T, C1F, C2T, C2F, C3T, C3F, D1T, D1F, D2T, D2F, D3T, D3F, E1T, E1F, E2T, E2F, E3T, E3F, G1T, G1F, G2T, G2F, G3F, inb_T, inb_L, isB_0, isB_1, isB_b, nI_add, L_add1, L_add2, nI_cl, L_cl, bI_T, bI_F, eq_self, not_true_eq_false, not_false_eq_true, ↓bd_of (M_in7_in (σ := s) hr), c', ↓bd_of (M_idx_in (σ := s) hi (by omega)), c3', z0, L_mul1, f_X12_fine, bd_some, wr_same]
    · by_cases z1 : σ 263 r = 1
      · have ec : cutI (σ 263 r) x3 = x3.toInt16.toInt32 := by unfold cutI; rw [if_neg z0, if_pos z1]
        rw [ec]
        simp (disch := omega) only [↓lt_eq, ↓reduceIte, ↓un1, ↓un2, ↓un3, ↓un4, ↓bd_some, ↓bind_some', ↓sel_l, ↓sel_r, C1T, C1F, C2T, C2F, C3T, C3F, D1T, D1F, D2T, D2F, D3T, D3F, E1T, E1F, E2T, E2F, E3T, E3F, G1T, G1F, G2T, G2F, G3F, inb_T, inb_L, isB_0, isB_1, isB_b, nI_add, L_add1, L_add2, nI_cl, L_cl, bI_T, bI_F, eq_self, not_true_eq_false, not_false_eq_true, ↓bd_of (M_in7_in (σ := s) hr), c', ↓bd_of (M_idx_in (σ := s) hi (by omega)), c3', z0, z1, L_mul1, f_X12_fine, bd_some, wr_same]
      · have ec : cutI (σ 263 r) x3 = x3 := by unfold cutI; rw [if_neg z0, if_neg z1]
        rw [ec]
        simp (disch := omega) only [↓lt_eq, ↓reduceIte, ↓un1, ↓un2, ↓un3, ↓un4, ↓bd_some, ↓bind_some', ↓sel_l, ↓sel_r, C1T, C1F, C2T, C2F, C3T, C3F, D1T, D1F, D2T, D2F, D3T, D3F, E1T, E1F, E2T, E2F, E3T, E3F, G1T, G1F, G2T, G2F, G3F, inb_T, inb_L, isB_0, isB_1, isB_b, nI_add, L_add1, L_add2, nI_cl, L_cl, bI_T, bI_F, eq_self, not_true_eq_false, not_false_eq_true, ↓bd_of (M_in7_in (σ := s) hr), c', ↓bd_of (M_idx_in (σ := s) hi (by omega)), c3', z0, z1, L_mul1, f_X12_fine, bd_some, wr_same]
  · generalize cutI (σ 263 r) x3 = v
    have o : ∀ b, b ≠ 0 → b ≠ 259 → b ≠ 265 → b ≠ 35 + 2 * r + 1 → wr (wr (wr (wr σ (35 + 2 * r + 1) i v) 0 11 0) 265 (40 * r + i) v) 259 8 0 b = σ b := fun b z1 z2 z3 z4 => by
      rw [wr_a z2, wr_a z3, wr_a z1, wr_a z4]
    refine hI.rows ⟨fun b b1 b2 b3 b4 => o b b1 b3 (by omega) (by omega), ?_, ?_⟩ ?_ (hR.upd (r := r) ⟨?_, ?_, Or.inr ⟨n, c1, ?_, ?_⟩⟩ ?_ ?_ ?_ ?_)
    · intro k hk
      rw [wr_a (by omega), wr_a (by omega), wr_k hk, wr_a (by omega)]
    · intro k hk
      rw [wr_k hk, wr_a (by omega), wr_a (by omega), wr_a (by omega)]
    · rw [wr_same, wr_a (by omega), wr_a (by omega), wr_same]
    · rw [o (35 + 2 * r) (by omega) (by omega) (by omega) (by omega), o 263 (by omega) (by omega) (by omega) (by omega)]; exact a1
    · rw [o (35 + 2 * r) (by omega) (by omega) (by omega) (by omega), o 264 (by omega) (by omega) (by omega) (by omega)]; exact a2
    · rw [o 264 (by omega) (by omega) (by omega) (by omega)]; exact c2
    · intro j hj
      rw [wr_a (show 36 + 2 * r ≠ 259 by omega), wr_a (show 36 + 2 * r ≠ 265 by omega), wr_a (show 36 + 2 * r ≠ 0 by omega), wr_a (show 265 ≠ 259 by omega)]
      by_cases z : j = i
      · rw [z, wr_same, show 36 + 2 * r = 35 + 2 * r + 1 by omega, wr_same]
      · rw [wr_k (show 40 * r + j ≠ 40 * r + i by omega), wr_a (show 265 ≠ 0 by omega), wr_a (show 265 ≠ 35 + 2 * r + 1 by omega), show 36 + 2 * r = 35 + 2 * r + 1 by omega, wr_k z, show 35 + 2 * r + 1 = 36 + 2 * r by omega]
        exact c3 j hj
    · intro b b1 b2 b3 b4
      exact o b (by omega) (by omega) (by omega) (by omega)
    · intro k hk
      rw [o 263 (by omega) (by omega) (by omega) (by omega)]
    · intro k hk
      rw [o 264 (by omega) (by omega) (by omega) (by omega)]
    · intro k hk
      rw [wr_a (by omega), wr_k (by omega), wr_a (by omega), wr_a (by omega)]
theorem lcmp_gt {i n m : Nat} (hi : i < 2147483648) (hn : n < 2147483648) (hm : m < 2147483648) : (0 < lg_cmp ((nI i).toInt64 + (nI n).toInt64) (nI m).toInt64) = (m < i + n) := by
  rw [nI_l hi, nI_l hn, nI_l hm, lN_add]
  exact propext ((lg_cmp_gt _ _).trans (pk_lLT (by omega) (by omega)))
theorem lcmp_le {i n m : Nat} (hi : i < 2147483648) (hn : n < 2147483648) (hm : m < 2147483648) : (lg_cmp ((nI i).toInt64 + (nI n).toInt64) (nI m).toInt64 ≤ 0) = (i + n ≤ m) := by
  rw [nI_l hi, nI_l hn, nI_l hm, lN_add]
  exact propext ((lg_cmp_le _ _).trans (pk_lLE (by omega) (by omega)))
theorem M_copy1 {a i n : Nat} {σ : St} (ha : a < 8) (hi : i + n ≤ 40) : Ok (loopF (f_X12_copy_L130 (nI a) (nI i) (nI n)) 5000 ((0 : Int32), σ)) (fun s => (∀ k, k < n → s 266 k = σ 265 (40 * a + i + k)) ∧ ∀ b, b ≠ 266 → s b = σ b) := by
  refine loop_n (fun m (y : Int32 × St) => y.1 = nI m ∧ (∀ k, k < m → y.2 266 k = σ 265 (40 * a + i + k)) ∧ ∀ b, b ≠ 266 → y.2 b = σ b) _ n 5000 _ (by omega) ⟨rfl, fun k q => absurd q (by omega), fun _ _ => rfl⟩ ?_ ?_
  · rintro m ⟨v, s⟩ hm ⟨q0, q1, q2⟩
    simp only at q0 q1 q2
    subst q0
    refine ⟨(nI (m + 1), wr s 266 m (s 265 (40 * a + i + m))), ?_, rfl, ?_, ?_⟩
    · unfold f_X12_copy_L130
      simp (disch := omega) only [↓lt_eq, ↓reduceIte, ↓un1, ↓un2, ↓un3, ↓un4, ↓bd_some, ↓bind_some', ↓sel_l, ↓sel_r, C1T, C1F, C2T, C2F, C3T, C3F, D1T, D1F, D2T, D2F, D3T, D3F, E1T, E1F, E2T, E2F, E3T, E3F, G1T, G1F, G2T, G2F, G3F, inb_T, inb_L, isB_0, isB_1, isB_b, nI_add, L_add1, L_add2, nI_cl, L_cl, bI_T, bI_F, eq_self, not_true_eq_false, not_false_eq_true, L_mul1]
    · intro k hk
      simp only [wr_eq]
      by_cases z : k = m
      · rw [if_pos ⟨trivial, z⟩, q2 265 (by omega), z]
      · rw [if_neg (by omega)]; exact q1 k (by omega)
    · intro b hb
      simp only [wr_a hb]
      exact q2 b hb
  · rintro ⟨v, s⟩ ⟨q0, q1, q2⟩
    simp only at q0 q1 q2
    subst q0
    refine ⟨s, ?_, q1, q2⟩
    unfold f_X12_copy_L130
    simp (disch := omega) only [↓lt_eq, ↓reduceIte, ↓un1, ↓un2, ↓un3, ↓un4, ↓bd_some, ↓bind_some', ↓sel_l, ↓sel_r, C1T, C1F, C2T, C2F, C3T, C3F, D1T, D1F, D2T, D2F, D3T, D3F, E1T, E1F, E2T, E2F, E3T, E3F, G1T, G1F, G2T, G2F, G3F, inb_T, inb_L, isB_0, isB_1, isB_b, nI_add, L_add1, L_add2, nI_cl, L_cl, bI_T, bI_F, eq_self, not_true_eq_false, not_false_eq_true]
theorem M_copy2 {b j n : Nat} {σ : St} (hb : b < 8) (hj : j + n ≤ 40) : Ok (loopF (f_X12_copy_L167 (nI b) (nI j) (nI n)) 5000 ((0 : Int32), σ)) (fun s => (∀ k, k < n → s 265 (40 * b + j + k) = σ 266 k) ∧ (∀ k, k < 40 * b + j ∨ 40 * b + j + n ≤ k → s 265 k = σ 265 k) ∧ ∀ c, c ≠ 265 → s c = σ c) := by
  refine loop_n (fun m (y : Int32 × St) => y.1 = nI m ∧ (∀ k, k < m → y.2 265 (40 * b + j + k) = σ 266 k) ∧ (∀ k, k < 40 * b + j ∨ 40 * b + j + n ≤ k → y.2 265 k = σ 265 k) ∧ ∀ c, c ≠ 265 → y.2 c = σ c) _ n 5000 _ (by omega) ⟨rfl, fun k q => absurd q (by omega), fun _ _ => rfl, fun _ _ => rfl⟩ ?_ ?_
  · rintro m ⟨v, s⟩ hm ⟨q0, q1, q2, q3⟩
    simp only at q0 q1 q2 q3
    subst q0
    refine ⟨(nI (m + 1), wr s 265 (40 * b + j + m) (s 266 m)), ?_, rfl, ?_, ?_, ?_⟩
    · unfold f_X12_copy_L167
      simp (disch := omega) only [↓lt_eq, ↓reduceIte, ↓un1, ↓un2, ↓un3, ↓un4, ↓bd_some, ↓bind_some', ↓sel_l, ↓sel_r, C1T, C1F, C2T, C2F, C3T, C3F, D1T, D1F, D2T, D2F, D3T, D3F, E1T, E1F, E2T, E2F, E3T, E3F, G1T, G1F, G2T, G2F, G3F, inb_T, inb_L, isB_0, isB_1, isB_b, nI_add, L_add1, L_add2, nI_cl, L_cl, bI_T, bI_F, eq_self, not_true_eq_false, not_false_eq_true, L_mul1]
    · intro k hk
      simp only [wr_eq]
      by_cases z : k = m
      · rw [if_pos ⟨trivial, by omega⟩, q3 266 (by omega), z]
      · rw [if_neg (by omega)]; exact q1 k (by omega)
    · intro k hk
      simp only [wr_eq]
      rw [if_neg (by omega)]; exact q2 k hk
    · intro c hc
      simp only [wr_a hc]
      exact q3 c hc
  · rintro ⟨v, s⟩ ⟨q0, q1, q2, q3⟩
    simp only at q0 q1 q2 q3
    subst q0
    refine ⟨s, ?_, q1, q2, q3⟩
    unfold f_X12_copy_L167
    simp (disch := omega) only [↓lt_eq, ↓reduceIte, ↓un1, ↓un2, ↓un3, ↓un4, ↓bd_some, ↓bind_some', ↓sel_l, ↓sel_r, C1T, C1F, C2T, C2F, C3T, C3F, D1T, D1F, D2T, D2F, D3T, D3F, E1T, E1F, E2T, E2F, E3T, E3F, G1T, G1F, G2T, G2F, G3F, inb_T, inb_L, isB_0, isB_1, isB_b, nI_add, L_add1, L_add2, nI_cl, L_cl, bI_T, bI_F, eq_self, not_true_eq_false, not_false_eq_true]
theorem step_copy (x1 x2 x3 x4 x5 : Int32) : Step Inv (f_X11_copy x1 x2 x3 x4 x5) (f_X12_copy x1 x2 x3 x4 x5) := by
  intro σ hI
  obtain ⟨hR, hP, hF, hT, hH⟩ := id hI
  rcases row_case x1 with q | ⟨a, ha, rfl⟩
  · refine step_same (-1000001) hI ?_ ?_
    · unfold f_X11_copy
      simp (disch := omega) only [↓lt_eq, ↓reduceIte, ↓un1, ↓un2, ↓un3, ↓un4, ↓bd_some, ↓bind_some', ↓sel_l, ↓sel_r, C1T, C1F, C2T, C2F, C3T, C3F, D1T, D1F, D2T, D2F, D3T, D3F, E1T, E1F, E2T, E2F, E3T, E3F, G1T, G1F, G2T, G2F, G3F, inb_T, inb_L, isB_0, isB_1, isB_b, nI_add, L_add1, L_add2, nI_cl, L_cl, bI_T, bI_F, eq_self, not_true_eq_false, not_false_eq_true, ↓bd_of (X_noRow_out (σ := σ) q)]
    · unfold f_X12_copy
      simp (disch := omega) only [↓lt_eq, ↓reduceIte, ↓un1, ↓un2, ↓un3, ↓un4, ↓bd_some, ↓bind_some', ↓sel_l, ↓sel_r, C1T, C1F, C2T, C2F, C3T, C3F, D1T, D1F, D2T, D2F, D3T, D3F, E1T, E1F, E2T, E2F, E3T, E3F, G1T, G1F, G2T, G2F, G3F, inb_T, inb_L, isB_0, isB_1, isB_b, nI_add, L_add1, L_add2, nI_cl, L_cl, bI_T, bI_F, eq_self, not_true_eq_false, not_false_eq_true, ↓bd_of (M_in7_out (σ := σ) q)]
  rcases row_case x3 with q | ⟨b, hb, rfl⟩
  · refine step_same (-1000001) hI ?_ ?_
    · unfold f_X11_copy
      simp (disch := omega) only [↓lt_eq, ↓reduceIte, ↓un1, ↓un2, ↓un3, ↓un4, ↓bd_some, ↓bind_some', ↓sel_l, ↓sel_r, C1T, C1F, C2T, C2F, C3T, C3F, D1T, D1F, D2T, D2F, D3T, D3F, E1T, E1F, E2T, E2F, E3T, E3F, G1T, G1F, G2T, G2F, G3F, inb_T, inb_L, isB_0, isB_1, isB_b, nI_add, L_add1, L_add2, nI_cl, L_cl, bI_T, bI_F, eq_self, not_true_eq_false, not_false_eq_true, ↓bd_of (X_noRow_in (σ := σ) ha), ↓bd_of (X_noRow_out (σ := σ) q)]
    · unfold f_X12_copy
      simp (disch := omega) only [↓lt_eq, ↓reduceIte, ↓un1, ↓un2, ↓un3, ↓un4, ↓bd_some, ↓bind_some', ↓sel_l, ↓sel_r, C1T, C1F, C2T, C2F, C3T, C3F, D1T, D1F, D2T, D2F, D3T, D3F, E1T, E1F, E2T, E2F, E3T, E3F, G1T, G1F, G2T, G2F, G3F, inb_T, inb_L, isB_0, isB_1, isB_b, nI_add, L_add1, L_add2, nI_cl, L_cl, bI_T, bI_F, eq_self, not_true_eq_false, not_false_eq_true, ↓bd_of (M_in7_in (σ := σ) ha), ↓bd_of (M_in7_out (σ := σ) q)]
  obtain ⟨a1, a2, a3⟩ := hR a ha
  obtain ⟨b1, b2, b3⟩ := hR b hb
  have hm : ∀ v k, wr σ 0 11 v 264 k = σ 264 k := fun v k => by rw [wr_a (by omega)]
  have hm3 : ∀ v k, wr σ 0 11 v 263 k = σ 263 k := fun v k => by rw [wr_a (by omega)]
  have m1lt : ((-1 : Int32) < 0) = True := by decide
  rcases a3 with c | ⟨na, c1, c2, c3⟩
  · have e1 : σ (35 + 2 * a) 2 = -1 := a2.trans c
    refine step_find 1 ((-1000010 : Int32) - 1) hI ?_ ?_
    · unfold f_X11_copy
      simp (disch := omega) only [↓lt_eq, ↓reduceIte, ↓un1, ↓un2, ↓un3, ↓un4, ↓bd_some, ↓bind_some', ↓sel_l, ↓sel_r, C1T, C1F, C2T, C2F, C3T, C3F, D1T, D1F, D2T, D2F, D3T, D3F, E1T, E1F, E2T, E2F, E3T, E3F, G1T, G1F, G2T, G2F, G3F, inb_T, inb_L, isB_0, isB_1, isB_b, nI_add, L_add1, L_add2, nI_cl, L_cl, bI_T, bI_F, eq_self, not_true_eq_false, not_false_eq_true, ↓bd_of (X_noRow_in (σ := σ) ha), ↓bd_of (X_noRow_in (σ := σ) hb), rowA_n ha, rowA_n hb, ↓bd_of (X_missing_1 e1), f_X11_found, bd_some]
    · unfold f_X12_copy
      simp (disch := omega) only [↓lt_eq, ↓reduceIte, ↓un1, ↓un2, ↓un3, ↓un4, ↓bd_some, ↓bind_some', ↓sel_l, ↓sel_r, C1T, C1F, C2T, C2F, C3T, C3F, D1T, D1F, D2T, D2F, D3T, D3F, E1T, E1F, E2T, E2F, E3T, E3F, G1T, G1F, G2T, G2F, G3F, inb_T, inb_L, isB_0, isB_1, isB_b, nI_add, L_add1, L_add2, nI_cl, L_cl, bI_T, bI_F, eq_self, not_true_eq_false, not_false_eq_true, ↓bd_of (M_in7_in (σ := wr σ 0 11 1) ha), ↓bd_of (M_in7_in (σ := wr σ 0 11 1) hb), hm, c, m1lt, f_X12_finds, bd_some]
  have e1 : σ (35 + 2 * a) 2 = nI na := a2.trans c2
  rcases b3 with d | ⟨nb, d1, d2, d3⟩
  · have e2 : σ (35 + 2 * b) 2 = -1 := b2.trans d
    refine step_find 1 ((-1000010 : Int32) - 1) hI ?_ ?_
    · unfold f_X11_copy
      simp (disch := omega) only [↓lt_eq, ↓reduceIte, ↓un1, ↓un2, ↓un3, ↓un4, ↓bd_some, ↓bind_some', ↓sel_l, ↓sel_r, C1T, C1F, C2T, C2F, C3T, C3F, D1T, D1F, D2T, D2F, D3T, D3F, E1T, E1F, E2T, E2F, E3T, E3F, G1T, G1F, G2T, G2F, G3F, inb_T, inb_L, isB_0, isB_1, isB_b, nI_add, L_add1, L_add2, nI_cl, L_cl, bI_T, bI_F, eq_self, not_true_eq_false, not_false_eq_true, ↓bd_of (X_noRow_in (σ := σ) ha), ↓bd_of (X_noRow_in (σ := σ) hb), rowA_n ha, rowA_n hb, ↓bd_of (X_missing_0 e1 c1), ↓bd_of (X_missing_1 e2), f_X11_found, bd_some]
    · unfold f_X12_copy
      simp (disch := omega) only [↓lt_eq, ↓reduceIte, ↓un1, ↓un2, ↓un3, ↓un4, ↓bd_some, ↓bind_some', ↓sel_l, ↓sel_r, C1T, C1F, C2T, C2F, C3T, C3F, D1T, D1F, D2T, D2F, D3T, D3F, E1T, E1F, E2T, E2F, E3T, E3F, G1T, G1F, G2T, G2F, G3F, inb_T, inb_L, isB_0, isB_1, isB_b, nI_add, L_add1, L_add2, nI_cl, L_cl, bI_T, bI_F, eq_self, not_true_eq_false, not_false_eq_true, ↓bd_of (M_in7_in (σ := wr σ 0 11 1) ha), ↓bd_of (M_in7_in (σ := wr σ 0 11 1) hb), hm, c2, d, m1_neg, f_X12_finds, bd_some]
  have e2 : σ (35 + 2 * b) 2 = nI nb := b2.trans d2
  by_cases hl : ¬ σ 263 a = σ 263 b
  · refine step_find 5 ((-1000010 : Int32) - 5) hI ?_ ?_
    · unfold f_X11_copy
      simp (disch := omega) only [↓lt_eq, ↓reduceIte, ↓un1, ↓un2, ↓un3, ↓un4, ↓bd_some, ↓bind_some', ↓sel_l, ↓sel_r, C1T, C1F, C2T, C2F, C3T, C3F, D1T, D1F, D2T, D2F, D3T, D3F, E1T, E1F, E2T, E2F, E3T, E3F, G1T, G1F, G2T, G2F, G3F, inb_T, inb_L, isB_0, isB_1, isB_b, nI_add, L_add1, L_add2, nI_cl, L_cl, bI_T, bI_F, eq_self, not_true_eq_false, not_false_eq_true, ↓bd_of (X_noRow_in (σ := σ) ha), ↓bd_of (X_noRow_in (σ := σ) hb), rowA_n ha, rowA_n hb, ↓bd_of (X_missing_0 e1 c1), ↓bd_of (X_missing_0 e2 d1), a1, b1, hl, f_X11_found, bd_some]
    · unfold f_X12_copy
      simp (disch := omega) only [↓lt_eq, ↓reduceIte, ↓un1, ↓un2, ↓un3, ↓un4, ↓bd_some, ↓bind_some', ↓sel_l, ↓sel_r, C1T, C1F, C2T, C2F, C3T, C3F, D1T, D1F, D2T, D2F, D3T, D3F, E1T, E1F, E2T, E2F, E3T, E3F, G1T, G1F, G2T, G2F, G3F, inb_T, inb_L, isB_0, isB_1, isB_b, nI_add, L_add1, L_add2, nI_cl, L_cl, bI_T, bI_F, eq_self, not_true_eq_false, not_false_eq_true, ↓bd_of (M_in7_in (σ := wr σ 0 11 5) ha), ↓bd_of (M_in7_in (σ := wr σ 0 11 5) hb), hm, hm3, c2, d2, hl, f_X12_finds, bd_some]
  have hl := Decidable.not_not.mp hl
  by_cases g : ¬ (¬ x2 < 0 ∧ ¬ x4 < 0 ∧ ¬ x5 < 0)
  · refine step_find 2 ((-1000010 : Int32) - 2) hI ?_ ?_
    · unfold f_X11_copy
      by_cases z : x2 < 0 ∨ x5 < 0
      · simp (disch := omega) only [↓lt_eq, ↓reduceIte, ↓un1, ↓un2, ↓un3, ↓un4, ↓bd_some, ↓bind_some', ↓sel_l, ↓sel_r, C1T, C1F, C2T, C2F, C3T, C3F, D1T, D1F, D2T, D2F, D3T, D3F, E1T, E1F, E2T, E2F, E3T, E3F, G1T, G1F, G2T, G2F, G3F, inb_T, inb_L, isB_0, isB_1, isB_b, nI_add, L_add1, L_add2, nI_cl, L_cl, bI_T, bI_F, eq_self, not_true_eq_false, not_false_eq_true, ↓bd_of (X_noRow_in (σ := σ) ha), ↓bd_of (X_noRow_in (σ := σ) hb), rowA_n ha, rowA_n hb, ↓bd_of (X_missing_0 e1 c1), ↓bd_of (X_missing_0 e2 d1), a1, b1, hl, ↓bd_of (X_has_neg (a := 35 + 2 * a) (σ := σ) z), f_X11_found, bd_some]
      · have z2 : ¬ x2 < 0 := fun q => z (Or.inl q)
        have z5 : ¬ x5 < 0 := fun q => z (Or.inr q)
        have z4 : x4 < 0 := by
          by_cases z4 : x4 < 0
          · exact z4
          · exact absurd ⟨z2, z4, z5⟩ g
        obtain ⟨i, hi, rfl⟩ := nI_of z2
        obtain ⟨n, hn, rfl⟩ := nI_of z5
        have eh := X_has (a := 35 + 2 * a) (i := i) (k := n) e1 c1 hi hn
        cases hd : decide (i + n ≤ na) <;> rw [hd] at eh <;> simp (disch := omega) only [↓lt_eq, ↓reduceIte, ↓un1, ↓un2, ↓un3, ↓un4, ↓bd_some, ↓bind_some', ↓sel_l, ↓sel_r, C1T, C1F, C2T, C2F, C3T, C3F, D1T, D1F, D2T, D2F, D3T, D3F, E1T, E1F, E2T, E2F, E3T, E3F, G1T, G1F, G2T, G2F, G3F, inb_T, inb_L, isB_0, isB_1, isB_b, nI_add, L_add1, L_add2, nI_cl, L_cl, bI_T, bI_F, eq_self, not_true_eq_false, not_false_eq_true, ↓bd_of (X_noRow_in (σ := σ) ha), ↓bd_of (X_noRow_in (σ := σ) hb), rowA_n ha, rowA_n hb, ↓bd_of (X_missing_0 e1 c1), ↓bd_of (X_missing_0 e2 d1), a1, b1, hl, ↓bd_of eh, ↓bd_of (X_has_neg (a := 35 + 2 * b) (y := nI n) (σ := σ) (Or.inl z4)), f_X11_found, bd_some]
    · unfold f_X12_copy
      by_cases z2 : x2 < 0
      · simp (disch := omega) only [↓lt_eq, ↓reduceIte, ↓un1, ↓un2, ↓un3, ↓un4, ↓bd_some, ↓bind_some', ↓sel_l, ↓sel_r, C1T, C1F, C2T, C2F, C3T, C3F, D1T, D1F, D2T, D2F, D3T, D3F, E1T, E1F, E2T, E2F, E3T, E3F, G1T, G1F, G2T, G2F, G3F, inb_T, inb_L, isB_0, isB_1, isB_b, nI_add, L_add1, L_add2, nI_cl, L_cl, bI_T, bI_F, eq_self, not_true_eq_false, not_false_eq_true, ↓bd_of (M_in7_in (σ := wr σ 0 11 2) ha), ↓bd_of (M_in7_in (σ := wr σ 0 11 2) hb), hm, hm3, c2, d2, hl, z2, f_X12_finds, bd_some]
      · by_cases z4 : x4 < 0
        · simp (disch := omega) only [↓lt_eq, ↓reduceIte, ↓un1, ↓un2, ↓un3, ↓un4, ↓bd_some, ↓bind_some', ↓sel_l, ↓sel_r, C1T, C1F, C2T, C2F, C3T, C3F, D1T, D1F, D2T, D2F, D3T, D3F, E1T, E1F, E2T, E2F, E3T, E3F, G1T, G1F, G2T, G2F, G3F, inb_T, inb_L, isB_0, isB_1, isB_b, nI_add, L_add1, L_add2, nI_cl, L_cl, bI_T, bI_F, eq_self, not_true_eq_false, not_false_eq_true, ↓bd_of (M_in7_in (σ := wr σ 0 11 2) ha), ↓bd_of (M_in7_in (σ := wr σ 0 11 2) hb), hm, hm3, c2, d2, hl, z2, z4, f_X12_finds, bd_some]
        · have z5 : x5 < 0 := by
            by_cases z5 : x5 < 0
            · exact z5
            · exact absurd ⟨z2, z4, z5⟩ g
          simp (disch := omega) only [↓lt_eq, ↓reduceIte, ↓un1, ↓un2, ↓un3, ↓un4, ↓bd_some, ↓bind_some', ↓sel_l, ↓sel_r, C1T, C1F, C2T, C2F, C3T, C3F, D1T, D1F, D2T, D2F, D3T, D3F, E1T, E1F, E2T, E2F, E3T, E3F, G1T, G1F, G2T, G2F, G3F, inb_T, inb_L, isB_0, isB_1, isB_b, nI_add, L_add1, L_add2, nI_cl, L_cl, bI_T, bI_F, eq_self, not_true_eq_false, not_false_eq_true, ↓bd_of (M_in7_in (σ := wr σ 0 11 2) ha), ↓bd_of (M_in7_in (σ := wr σ 0 11 2) hb), hm, hm3, c2, d2, hl, z2, z4, z5, f_X12_finds, bd_some]
  have g := Decidable.not_not.mp g
  obtain ⟨i, hi, rfl⟩ := nI_of g.1
  obtain ⟨j, hj, rfl⟩ := nI_of g.2.1
  obtain ⟨n, hn, rfl⟩ := nI_of g.2.2
  have eha := X_has (a := 35 + 2 * a) (i := i) (k := n) e1 c1 hi hn
  have ehb := X_has (a := 35 + 2 * b) (i := j) (k := n) e2 d1 hj hn
  by_cases p1 : ¬ i + n ≤ na
  · rw [decide_eq_false p1] at eha
    have p1' : na < i + n := by omega
    refine step_find 2 ((-1000010 : Int32) - 2) hI ?_ ?_
    · unfold f_X11_copy
      simp (disch := omega) only [↓lt_eq, ↓reduceIte, ↓un1, ↓un2, ↓un3, ↓un4, ↓bd_some, ↓bind_some', ↓sel_l, ↓sel_r, C1T, C1F, C2T, C2F, C3T, C3F, D1T, D1F, D2T, D2F, D3T, D3F, E1T, E1F, E2T, E2F, E3T, E3F, G1T, G1F, G2T, G2F, G3F, inb_T, inb_L, isB_0, isB_1, isB_b, nI_add, L_add1, L_add2, nI_cl, L_cl, bI_T, bI_F, eq_self, not_true_eq_false, not_false_eq_true, ↓bd_of (X_noRow_in (σ := σ) ha), ↓bd_of (X_noRow_in (σ := σ) hb), rowA_n ha, rowA_n hb, ↓bd_of (X_missing_0 e1 c1), ↓bd_of (X_missing_0 e2 d1), a1, b1, hl, ↓bd_of eha, f_X11_found, bd_some]
    · unfold f_X12_copy
      simp (disch := omega) only [↓lt_eq, ↓reduceIte, ↓un1, ↓un2, ↓un3, ↓un4, ↓bd_some, ↓bind_some', ↓sel_l, ↓sel_r, C1T, C1F, C2T, C2F, C3T, C3F, D1T, D1F, D2T, D2F, D3T, D3F, E1T, E1F, E2T, E2F, E3T, E3F, G1T, G1F, G2T, G2F, G3F, inb_T, inb_L, isB_0, isB_1, isB_b, nI_add, L_add1, L_add2, nI_cl, L_cl, bI_T, bI_F, eq_self, not_true_eq_false, not_false_eq_true, ↓bd_of (M_in7_in (σ := wr σ 0 11 2) ha), ↓bd_of (M_in7_in (σ := wr σ 0 11 2) hb), hm, hm3, c2, d2, hl, lcmp_gt, p1', f_X12_finds, bd_some]
  have p1 := Decidable.not_not.mp p1
  have p1' : ¬ na < i + n := by omega
  rw [decide_eq_true p1] at eha
  by_cases p2 : ¬ j + n ≤ nb
  · rw [decide_eq_false p2] at ehb
    refine step_find 2 ((-1000010 : Int32) - 2) hI ?_ ?_
    · unfold f_X11_copy
      simp (disch := omega) only [↓lt_eq, ↓reduceIte, ↓un1, ↓un2, ↓un3, ↓un4, ↓bd_some, ↓bind_some', ↓sel_l, ↓sel_r, C1T, C1F, C2T, C2F, C3T, C3F, D1T, D1F, D2T, D2F, D3T, D3F, E1T, E1F, E2T, E2F, E3T, E3F, G1T, G1F, G2T, G2F, G3F, inb_T, inb_L, isB_0, isB_1, isB_b, nI_add, L_add1, L_add2, nI_cl, L_cl, bI_T, bI_F, eq_self, not_true_eq_false, not_false_eq_true, ↓bd_of (X_noRow_in (σ := σ) ha), ↓bd_of (X_noRow_in (σ := σ) hb), rowA_n ha, rowA_n hb, ↓bd_of (X_missing_0 e1 c1), ↓bd_of (X_missing_0 e2 d1), a1, b1, hl, ↓bd_of eha, ↓bd_of ehb, f_X11_found, bd_some]
    · unfold f_X12_copy
      simp (disch := omega) only [↓lt_eq, ↓reduceIte, ↓un1, ↓un2, ↓un3, ↓un4, ↓bd_some, ↓bind_some', ↓sel_l, ↓sel_r, C1T, C1F, C2T, C2F, C3T, C3F, D1T, D1F, D2T, D2F, D3T, D3F, E1T, E1F, E2T, E2F, E3T, E3F, G1T, G1F, G2T, G2F, G3F, inb_T, inb_L, isB_0, isB_1, isB_b, nI_add, L_add1, L_add2, nI_cl, L_cl, bI_T, bI_F, eq_self, not_true_eq_false, not_false_eq_true, ↓bd_of (M_in7_in (σ := wr σ 0 11 2) ha), ↓bd_of (M_in7_in (σ := wr σ 0 11 2) hb), hm, hm3, c2, d2, hl, lcmp_gt, lcmp_le, p1', p2, f_X12_finds, bd_some]
  have p2 := Decidable.not_not.mp p2
  rw [decide_eq_true p2] at ehb
  have w1 : (i + n ≤ 40) = True := eq_true (by omega)
  have w2 : (j + n ≤ 40) = True := eq_true (by omega)
  generalize hs1 : va_up σ (35 + 2 * b + 1) (va_cpy (σ (35 + 2 * a + 1)) (σ (35 + 2 * b + 1)) i j n) = s1
  have hne : ∀ c, c ≠ 35 + 2 * b + 1 → s1 c = σ c := fun c z => by rw [← hs1, up_a z]
  have heq : s1 (35 + 2 * b + 1) = va_cpy (σ (35 + 2 * a + 1)) (σ (35 + 2 * b + 1)) i j n := by rw [← hs1, up_s]
  obtain ⟨s2, f2, m1, m2⟩ := M_copy1 (a := a) (i := i) (n := n) (σ := wr s1 0 11 0) ha (by omega)
  obtain ⟨s3, f3, m3, m4, m5⟩ := M_copy2 (b := b) (j := j) (n := n) (σ := s2) hb (by omega)
  refine ⟨nI n, wr s1 0 11 0, wr s3 259 8 0, ?_, ?_, ?_⟩
  · unfold f_X11_copy
    simp (disch := omega) only [↓lt_eq, ↓reduceIte, ↓un1, ↓un2, ↓un3, ↓un4, ↓bd_some, ↓bind_some', ↓sel_l, ↓sel_r, C1T, C1F, C2T, C2F, C3T, C3F, D1T, D1F, D2T, D2F, D3T, D3F, E1T, E1F, E2T, E2F, E3T, E3F, G1T, G1F, G2T, G2F, G3F, inb_T, inb_L, isB_0, isB_1, isB_b, nI_add, L_add1, L_add2, nI_cl, L_cl, bI_T, bI_F, eq_self, not_true_eq_false, not_false_eq_true, ↓bd_of (X_noRow_in (σ := σ) ha), ↓bd_of (X_noRow_in (σ := σ) hb), rowA_n ha, rowA_n hb, ↓bd_of (X_missing_0 e1 c1), ↓bd_of (X_missing_0 e2 d1), a1, b1, hl, ↓bd_of eha, ↓bd_of ehb, w1, w2, and_self, hs1, f_X11_fine, bd_some]
  · have h4 : ∀ k, wr s1 0 11 0 264 k = σ 264 k := fun k => by rw [wr_a (by omega), hne 264 (by omega)]
    have h3 : ∀ k, wr s1 0 11 0 263 k = σ 263 k := fun k => by rw [wr_a (by omega), hne 263 (by omega)]
    unfold f_X12_copy
    simp (disch := omega) only [↓lt_eq, ↓reduceIte, ↓un1, ↓un2, ↓un3, ↓un4, ↓bd_some, ↓bind_some', ↓sel_l, ↓sel_r, C1T, C1F, C2T, C2F, C3T, C3F, D1T, D1F, D2T, D2F, D3T, D3F, E1T, E1F, E2T, E2F, E3T, E3F, G1T, G1F, G2T, G2F, G3F, inb_T, inb_L, isB_0, isB_1, isB_b, nI_add, L_add1, L_add2, nI_cl, L_cl, bI_T, bI_F, eq_self, not_true_eq_false, not_false_eq_true, ↓bd_of (M_in7_in (σ := wr s1 0 11 0) ha), ↓bd_of (M_in7_in (σ := wr s1 0 11 0) hb), h4, h3, c2, d2, hl, lcmp_gt, lcmp_le, p1', p2, ↓bind_of f2, ↓bind_of f3, f_X12_fine, bd_some]
  · have o : ∀ c, c ≠ 0 → c ≠ 259 → c ≠ 265 → c ≠ 266 → c ≠ 35 + 2 * b + 1 → wr s3 259 8 0 c = σ c := fun c z1 z2 z3 z4 z5 => by
      rw [wr_a z2, m5 c z3, m2 c z4, wr_a z1, hne c z5]
    have o5 : ∀ k, s2 265 k = σ 265 k := fun k => by rw [m2 265 (by omega), wr_a (by omega), hne 265 (by omega)]
    refine hI.rows ⟨fun c b1 b2 b3 b4 => o c b1 b3 (by omega) (by omega) (by omega), ?_, ?_⟩ ?_ (hR.upd (r := b) ⟨?_, ?_, Or.inr ⟨nb, d1, ?_, ?_⟩⟩ ?_ ?_ ?_ ?_)
    · intro k hk
      rw [wr_a (by omega), m5 0 (by omega), m2 0 (by omega), wr_k hk, hne 0 (by omega)]
    · intro k hk
      rw [wr_k hk, m5 259 (by omega), m2 259 (by omega), wr_a (by omega), hne 259 (by omega)]
    · rw [wr_same, wr_a (by omega), m5 0 (by omega), m2 0 (by omega), wr_same]
    · rw [o (35 + 2 * b) (by omega) (by omega) (by omega) (by omega) (by omega), o 263 (by omega) (by omega) (by omega) (by omega) (by omega)]; exact b1
    · rw [o (35 + 2 * b) (by omega) (by omega) (by omega) (by omega) (by omega), o 264 (by omega) (by omega) (by omega) (by omega) (by omega)]; exact b2
    · rw [o 264 (by omega) (by omega) (by omega) (by omega) (by omega)]; exact d2
    · intro q hq
      rw [show 36 + 2 * b = 35 + 2 * b + 1 by omega, wr_a (show 35 + 2 * b + 1 ≠ 259 by omega), m5 (35 + 2 * b + 1) (by omega), m2 (35 + 2 * b + 1) (by omega), wr_a (show 35 + 2 * b + 1 ≠ 0 by omega), heq, wr_a (show 265 ≠ 259 by omega)]
      unfold va_cpy
      by_cases z : j ≤ q ∧ q < j + n
      · rw [if_pos z]
        have hq2 : 40 * b + q = 40 * b + j + (q - j) := by omega
        rw [hq2, m3 (q - j) (by omega), m1 (q - j) (by omega), wr_a (by omega), hne 265 (by omega)]
        have := c3 (i + (q - j)) (by omega)
        rw [show 35 + 2 * a + 1 = 36 + 2 * a by omega, this]
        congr 1
        omega
      · rw [if_neg z, m4 (40 * b + q) (by omega), o5, show 35 + 2 * b + 1 = 36 + 2 * b by omega]
        exact d3 q hq
    · intro c q1 q2 q3 q4
      exact o c (by omega) (by omega) (by omega) (by omega) (by omega)
    · intro k hk
      rw [o 263 (by omega) (by omega) (by omega) (by omega) (by omega)]
    · intro k hk
      rw [o 264 (by omega) (by omega) (by omega) (by omega) (by omega)]
    · intro k hk
      rw [wr_a (by omega), m4 k (by omega), o5]
