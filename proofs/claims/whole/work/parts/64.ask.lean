/-! ask (written by mkask.py) -/
def trX (σ : St) : Nat → List Int32 → St
  | _, [] => σ
  | n, x :: xs => trX (wr (wr σ 12 n x) 11 1 (nI (n + 1))) (n + 1) xs
def trM (σ : St) : Nat → List Int32 → St
  | _, [] => σ
  | n, x :: xs => trM (wr (wr σ 272 n x) 259 20 (nI (n + 1))) (n + 1) xs
theorem trX_spec : ∀ (L : List Int32) (n : Nat) (σ : St), σ 11 1 = nI n → trX σ n L 11 1 = nI (n + L.length) ∧ (∀ i, i < n → trX σ n L 12 i = σ 12 i) ∧ (∀ i, i < L.length → trX σ n L 12 (n + i) = L.getD i 0) ∧ ∀ b, b ≠ 11 → b ≠ 12 → trX σ n L b = σ b
  | [], n, σ, h => ⟨h, fun _ _ => rfl, fun i q => absurd q (Nat.not_lt_zero i), fun _ _ _ => rfl⟩
  | x :: xs, n, σ, h => by
    obtain ⟨a1, a2, a3, a4⟩ := trX_spec xs (n + 1) (wr (wr σ 12 n x) 11 1 (nI (n + 1))) (wr_same _ _ _ _)
    refine ⟨?_, ?_, ?_, ?_⟩
    · show trX (wr (wr σ 12 n x) 11 1 (nI (n + 1))) (n + 1) xs 11 1 = _
      rw [a1, List.length_cons]; congr 1; omega
    · intro i hi
      show trX (wr (wr σ 12 n x) 11 1 (nI (n + 1))) (n + 1) xs 12 i = _
      rw [a2 i (by omega), wr_a (by omega), wr_k (by omega)]
    · intro i hi
      show trX (wr (wr σ 12 n x) 11 1 (nI (n + 1))) (n + 1) xs 12 (n + i) = _
      cases i with
      | zero => show trX (wr (wr σ 12 n x) 11 1 (nI (n + 1))) (n + 1) xs 12 n = x; rw [a2 n (by omega), wr_a (by omega), wr_same]
      | succ i =>
        rw [show n + (i + 1) = n + 1 + i by omega, a3 i (by rw [List.length_cons] at hi; omega)]; rfl
    · intro b b1 b2
      show trX (wr (wr σ 12 n x) 11 1 (nI (n + 1))) (n + 1) xs b = _
      rw [a4 b b1 b2, wr_a b1, wr_a b2]
theorem trM_spec : ∀ (L : List Int32) (n : Nat) (σ : St), σ 259 20 = nI n → trM σ n L 259 20 = nI (n + L.length) ∧ (∀ i, i < n → trM σ n L 272 i = σ 272 i) ∧ (∀ i, i < L.length → trM σ n L 272 (n + i) = L.getD i 0) ∧ (∀ b, b ≠ 259 → b ≠ 272 → trM σ n L b = σ b) ∧ ∀ k, k ≠ 20 → trM σ n L 259 k = σ 259 k
  | [], n, σ, h => ⟨h, fun _ _ => rfl, fun i q => absurd q (Nat.not_lt_zero i), fun _ _ _ => rfl, fun _ _ => rfl⟩
  | x :: xs, n, σ, h => by
    obtain ⟨a1, a2, a3, a4, a5⟩ := trM_spec xs (n + 1) (wr (wr σ 272 n x) 259 20 (nI (n + 1))) (wr_same _ _ _ _)
    refine ⟨?_, ?_, ?_, ?_, ?_⟩
    · show trM (wr (wr σ 272 n x) 259 20 (nI (n + 1))) (n + 1) xs 259 20 = _
      rw [a1, List.length_cons]; congr 1; omega
    · intro i hi
      show trM (wr (wr σ 272 n x) 259 20 (nI (n + 1))) (n + 1) xs 272 i = _
      rw [a2 i (by omega), wr_a (by omega), wr_k (by omega)]
    · intro i hi
      show trM (wr (wr σ 272 n x) 259 20 (nI (n + 1))) (n + 1) xs 272 (n + i) = _
      cases i with
      | zero => show trM (wr (wr σ 272 n x) 259 20 (nI (n + 1))) (n + 1) xs 272 n = x; rw [a2 n (by omega), wr_a (by omega), wr_same]
      | succ i =>
        rw [show n + (i + 1) = n + 1 + i by omega, a3 i (by rw [List.length_cons] at hi; omega)]; rfl
    · intro b b1 b2
      show trM (wr (wr σ 272 n x) 259 20 (nI (n + 1))) (n + 1) xs b = _
      rw [a4 b b1 b2, wr_a b1, wr_a b2]
    · intro k hk
      show trM (wr (wr σ 272 n x) 259 20 (nI (n + 1))) (n + 1) xs 259 k = _
      rw [a5 k hk, wr_k hk, wr_a (by omega)]
/-- both leave the same -/
theorem step_ask0 {f g : St → Option (Int32 × St)} {σ : St} (a : Int32) (L : List Int32) (hL : L.length ≤ 16) (hI : Inv σ) (h1 : f σ = some (a, trX (wr σ 11 1 (nI 0)) 0 L)) (h2 : g (trX (wr σ 11 1 (nI 0)) 0 L) = some (a, trM (wr (trX (wr σ 11 1 (nI 0)) 0 L) 259 20 (nI 0)) 0 L)) : ∃ r σ1 σ2, f σ = some (r, σ1) ∧ g σ1 = some (r, σ2) ∧ Inv σ2 := by
  refine ⟨a, _, _, h1, h2, ?_⟩
  obtain ⟨hR, hP, hF, hT, hH⟩ := hI
  obtain ⟨a1, a2, a3, a4⟩ := trX_spec L 0 (wr σ 11 1 (nI 0)) (wr_same _ _ _ _)
  generalize trX (wr σ 11 1 (nI 0)) 0 L = s at *
  obtain ⟨b1, b2, b3, b4, b5⟩ := trM_spec L 0 (wr s 259 20 (nI 0)) (wr_same _ _ _ _)
  generalize trM (wr s 259 20 (nI 0)) 0 L = t at *
  have o : ∀ b, b ≠ 11 → b ≠ 12 → b ≠ 259 → b ≠ 272 → t b = σ b := fun b z1 z2 z3 z4 => by
    rw [b4 b z3 z4, wr_a z3, a4 b z1 z2, wr_a z1]
  have o9 : ∀ k, k ≠ 20 → t 259 k = σ 259 k := fun k z => by
    rw [b5 k z, wr_k z, a4 259 (by omega) (by omega), wr_a (by omega)]
  rw [Nat.zero_add] at a1 b1
  refine ⟨hR.fr (fun b q => o b (by omega) (by omega) (by omega) (by omega)), hP.fr ?_ (o9 9 (by omega)) (o 3 (by omega) (by omega) (by omega) (by omega)) (o 267 (by omega) (by omega) (by omega) (by omega)), ⟨?_, ?_⟩, ⟨L.length, hL, ?_, b1, fun i hi => ?_⟩, hH.fr (fun b q => o b (by omega) (by omega) (by omega) (by omega)) ?_ ?_ (o9 3 (by omega))⟩
  · rw [o 2 (by omega) (by omega) (by omega) (by omega)]
  · rw [o 0 (by omega) (by omega) (by omega) (by omega), o9 15 (by omega)]; exact hF.1
  · rw [o 0 (by omega) (by omega) (by omega) (by omega), o9 8 (by omega)]; exact hF.2
  · rw [b4 11 (by omega) (by omega), wr_a (by omega)]; exact a1
  · have u1 := a3 i hi
    have u2 := b3 i hi
    rw [Nat.zero_add] at u1 u2
    rw [u2, b4 12 (by omega) (by omega), wr_a (by omega)]; exact u1
  · rw [o 0 (by omega) (by omega) (by omega) (by omega)]
  · rw [o 0 (by omega) (by omega) (by omega) (by omega)]
theorem X_ask_10 {σ : St} {l r e : Nat} (hl : l < 4) (g2 : σ (19 + 2) l = nI r) (g3 : σ (19 + 3) l = nI e) (i1 : f_X11_noLine (nI l) σ = some (0, σ)) (e1 : f_X3_fuseOf 19 (nI l) (wr σ 11 1 (nI 0)) = some (13 + 1, wr σ 11 1 (nI 0))) : f_X11_ask (nI l) (nI 0) σ = some (nI r + (nI l + nI e), trX (wr σ 11 1 (nI 0)) 0 [11, 10, 21, 20]) := by
  have ed : ∀ s, d_sizeOf (13 + 1) 19 (nI l) s = f_X10_sizeOf_14 19 (nI l) s := fun s => rfl
  have e0 : f_X9_empty σ = some (wr σ 11 1 (nI 0)) := rfl
  unfold f_X11_ask
  simp (disch := omega) only [↓lt_eq, ↓reduceIte, ↓un1, ↓un2, ↓un3, ↓un4, ↓bd_some, ↓bind_some', ↓sel_l, ↓sel_r, C1T, C1F, C2T, C2F, C3T, C3F, D1T, D1F, D2T, D2F, D3T, D3F, E1T, E1F, E2T, E2F, E3T, E3F, G1T, G1F, G2T, G2F, G3F, inb_T, inb_L, isB_0, isB_1, isB_b, nI_add, L_add1, L_add2, nI_cl, L_cl, bI_T, bI_F, eq_self, not_true_eq_false, not_false_eq_true, ↓bd_of i1, ↓bind_of e0, ↓bd_of e1, ed, f_X2_sizeOf_17, f_X0_sizeOf_17, f_X2_sizeOf_18, f_X0_sizeOf_18, f_X2_markOf_17, f_X0_markOf_17, f_X2_markOf_18, f_X1_sizeOf_18, f_X0_markOf_18, f_X2_sizeOf_14, f_X2_sizeOf_15, f_X2_sizeOf_16, f_X2_markOf_14, f_X2_markOf_15, f_X2_markOf_16, f_X10_markOf_16, f_X5_markOf_16, f_X10_markOf_15, f_X8_markOf_15, f_X10_sizeOf_15, f_X8_sizeOf_15, f_X10_markOf_14, f_X10_sizeOf_14, f_X10_sizeOf_16, f_X9_leave, wr_same, wr_a, wr_k, g2, g3, trX, bd_some, bind_some']
theorem M_ask_10 {s : St} {l r e : Nat} (hl : l < 4) (f2 : s 260 (8 + l) = nI r) (f3 : s 260 l = nI e) (f1 : s 261 (3 + l) = nI 1) (i1 : f_X12_isLine (nI l) s = some (1, s)) : f_X12_ask (nI l) (nI 0) s = some (nI r + (nI l + nI e), trM (wr s 259 20 (nI 0)) 0 [11, 10, 21, 20]) := by
  have w1 : 0 ≤ 0 := by omega
  have w2 : 0 ≤ 1 := by omega
  have w0 : wr s 259 20 (0 : Int32) = wr s 259 20 (nI 0) := rfl
  unfold f_X12_ask
  simp (disch := omega) only [↓lt_eq, ↓reduceIte, ↓un1, ↓un2, ↓un3, ↓un4, ↓bd_some, ↓bind_some', ↓sel_l, ↓sel_r, C1T, C1F, C2T, C2F, C3T, C3F, D1T, D1F, D2T, D2F, D3T, D3F, E1T, E1F, E2T, E2F, E3T, E3F, G1T, G1F, G2T, G2F, G3F, inb_T, inb_L, isB_0, isB_1, isB_b, nI_add, L_add1, L_add2, nI_cl, L_cl, bI_T, bI_F, eq_self, not_true_eq_false, not_false_eq_true, ↓bd_of i1, ↓bd_of (M_inn (σ := s) (L := 0) (H := 1) (a := 0) (b := 1) (by decide) (by decide) w1 w2 (by decide)), f1, f_X12_leaves, f_X12_lent, f_X12_wireMark, f_X12_wireSize, f_X12_breakerSize, f_X12_breakerMark, ↓w0, wr_same, wr_a, wr_k, f2, f3, trM, bd_some, bind_some']
theorem X_ask_20 {σ : St} {l r e : Nat} (hl : l < 4) (g2 : σ (19 + 2) l = nI r) (g3 : σ (19 + 3) l = nI e) (i1 : f_X11_noLine (nI l) σ = some (0, σ)) (e1 : f_X3_fuseOf 19 (nI l) (wr σ 11 1 (nI 0)) = some (13 + 2, wr σ 11 1 (nI 0))) : f_X11_ask (nI l) (nI 0) σ = some (-(nI r + 2 * (nI l + nI e)), trX (wr σ 11 1 (nI 0)) 0 [12, 11, 10, 24, 21, 20]) := by
  have ed : ∀ s, d_sizeOf (13 + 2) 19 (nI l) s = f_X8_sizeOf_15 19 (nI l) s := fun s => rfl
  have e0 : f_X9_empty σ = some (wr σ 11 1 (nI 0)) := rfl
  unfold f_X11_ask
  simp (disch := omega) only [↓lt_eq, ↓reduceIte, ↓un1, ↓un2, ↓un3, ↓un4, ↓bd_some, ↓bind_some', ↓sel_l, ↓sel_r, C1T, C1F, C2T, C2F, C3T, C3F, D1T, D1F, D2T, D2F, D3T, D3F, E1T, E1F, E2T, E2F, E3T, E3F, G1T, G1F, G2T, G2F, G3F, inb_T, inb_L, isB_0, isB_1, isB_b, nI_add, L_add1, L_add2, nI_cl, L_cl, bI_T, bI_F, eq_self, not_true_eq_false, not_false_eq_true, ↓bd_of i1, ↓bind_of e0, ↓bd_of e1, ed, f_X2_sizeOf_17, f_X0_sizeOf_17, f_X2_sizeOf_18, f_X0_sizeOf_18, f_X2_markOf_17, f_X0_markOf_17, f_X2_markOf_18, f_X1_sizeOf_18, f_X0_markOf_18, f_X2_sizeOf_14, f_X2_sizeOf_15, f_X2_sizeOf_16, f_X2_markOf_14, f_X2_markOf_15, f_X2_markOf_16, f_X10_markOf_16, f_X5_markOf_16, f_X10_markOf_15, f_X8_markOf_15, f_X10_sizeOf_15, f_X8_sizeOf_15, f_X10_markOf_14, f_X10_sizeOf_14, f_X10_sizeOf_16, f_X9_leave, wr_same, wr_a, wr_k, g2, g3, trX, bd_some, bind_some']
theorem M_ask_20 {s : St} {l r e : Nat} (hl : l < 4) (f2 : s 260 (8 + l) = nI r) (f3 : s 260 l = nI e) (f1 : s 261 (3 + l) = nI 2) (i1 : f_X12_isLine (nI l) s = some (1, s)) : f_X12_ask (nI l) (nI 0) s = some (-(nI r + 2 * (nI l + nI e)), trM (wr s 259 20 (nI 0)) 0 [12, 11, 10, 24, 21, 20]) := by
  have w1 : 0 ≤ 0 := by omega
  have w2 : 0 ≤ 1 := by omega
  have w0 : wr s 259 20 (0 : Int32) = wr s 259 20 (nI 0) := rfl
  unfold f_X12_ask
  simp (disch := omega) only [↓lt_eq, ↓reduceIte, ↓un1, ↓un2, ↓un3, ↓un4, ↓bd_some, ↓bind_some', ↓sel_l, ↓sel_r, C1T, C1F, C2T, C2F, C3T, C3F, D1T, D1F, D2T, D2F, D3T, D3F, E1T, E1F, E2T, E2F, E3T, E3F, G1T, G1F, G2T, G2F, G3F, inb_T, inb_L, isB_0, isB_1, isB_b, nI_add, L_add1, L_add2, nI_cl, L_cl, bI_T, bI_F, eq_self, not_true_eq_false, not_false_eq_true, ↓bd_of i1, ↓bd_of (M_inn (σ := s) (L := 0) (H := 1) (a := 0) (b := 1) (by decide) (by decide) w1 w2 (by decide)), f1, f_X12_leaves, f_X12_lent, f_X12_wireMark, f_X12_wireSize, f_X12_breakerSize, f_X12_breakerMark, ↓w0, wr_same, wr_a, wr_k, f2, f3, trM, bd_some, bind_some']
theorem X_ask_30 {σ : St} {l r e : Nat} (hl : l < 4) (g2 : σ (19 + 2) l = nI r) (g3 : σ (19 + 3) l = nI e) (i1 : f_X11_noLine (nI l) σ = some (0, σ)) (e1 : f_X3_fuseOf 19 (nI l) (wr σ 11 1 (nI 0)) = some (13 + 3, wr σ 11 1 (nI 0))) : f_X11_ask (nI l) (nI 0) σ = some (nI r + ((nI l + nI e) - 1000), trX (wr σ 11 1 (nI 0)) 0 [11, 10, 22, 21, 20]) := by
  have ed : ∀ s, d_sizeOf (13 + 3) 19 (nI l) s = f_X10_sizeOf_16 19 (nI l) s := fun s => rfl
  have e0 : f_X9_empty σ = some (wr σ 11 1 (nI 0)) := rfl
  unfold f_X11_ask
  simp (disch := omega) only [↓lt_eq, ↓reduceIte, ↓un1, ↓un2, ↓un3, ↓un4, ↓bd_some, ↓bind_some', ↓sel_l, ↓sel_r, C1T, C1F, C2T, C2F, C3T, C3F, D1T, D1F, D2T, D2F, D3T, D3F, E1T, E1F, E2T, E2F, E3T, E3F, G1T, G1F, G2T, G2F, G3F, inb_T, inb_L, isB_0, isB_1, isB_b, nI_add, L_add1, L_add2, nI_cl, L_cl, bI_T, bI_F, eq_self, not_true_eq_false, not_false_eq_true, ↓bd_of i1, ↓bind_of e0, ↓bd_of e1, ed, f_X2_sizeOf_17, f_X0_sizeOf_17, f_X2_sizeOf_18, f_X0_sizeOf_18, f_X2_markOf_17, f_X0_markOf_17, f_X2_markOf_18, f_X1_sizeOf_18, f_X0_markOf_18, f_X2_sizeOf_14, f_X2_sizeOf_15, f_X2_sizeOf_16, f_X2_markOf_14, f_X2_markOf_15, f_X2_markOf_16, f_X10_markOf_16, f_X5_markOf_16, f_X10_markOf_15, f_X8_markOf_15, f_X10_sizeOf_15, f_X8_sizeOf_15, f_X10_markOf_14, f_X10_sizeOf_14, f_X10_sizeOf_16, f_X9_leave, wr_same, wr_a, wr_k, g2, g3, trX, bd_some, bind_some']
theorem M_ask_30 {s : St} {l r e : Nat} (hl : l < 4) (f2 : s 260 (8 + l) = nI r) (f3 : s 260 l = nI e) (f1 : s 261 (3 + l) = nI 3) (i1 : f_X12_isLine (nI l) s = some (1, s)) : f_X12_ask (nI l) (nI 0) s = some (nI r + ((nI l + nI e) - 1000), trM (wr s 259 20 (nI 0)) 0 [11, 10, 22, 21, 20]) := by
  have w1 : 0 ≤ 0 := by omega
  have w2 : 0 ≤ 1 := by omega
  have w0 : wr s 259 20 (0 : Int32) = wr s 259 20 (nI 0) := rfl
  unfold f_X12_ask
  simp (disch := omega) only [↓lt_eq, ↓reduceIte, ↓un1, ↓un2, ↓un3, ↓un4, ↓bd_some, ↓bind_some', ↓sel_l, ↓sel_r, C1T, C1F, C2T, C2F, C3T, C3F, D1T, D1F, D2T, D2F, D3T, D3F, E1T, E1F, E2T, E2F, E3T, E3F, G1T, G1F, G2T, G2F, G3F, inb_T, inb_L, isB_0, isB_1, isB_b, nI_add, L_add1, L_add2, nI_cl, L_cl, bI_T, bI_F, eq_self, not_true_eq_false, not_false_eq_true, ↓bd_of i1, ↓bd_of (M_inn (σ := s) (L := 0) (H := 1) (a := 0) (b := 1) (by decide) (by decide) w1 w2 (by decide)), f1, f_X12_leaves, f_X12_lent, f_X12_wireMark, f_X12_wireSize, f_X12_breakerSize, f_X12_breakerMark, ↓w0, wr_same, wr_a, wr_k, f2, f3, trM, bd_some, bind_some']
theorem X_ask_40 {σ : St} {l r e : Nat} (hl : l < 4) (g2 : σ (19 + 2) l = nI r) (g3 : σ (19 + 3) l = nI e) (i1 : f_X11_noLine (nI l) σ = some (0, σ)) (e1 : f_X3_fuseOf 19 (nI l) (wr σ 11 1 (nI 0)) = some (13 + 4, wr σ 11 1 (nI 0))) : f_X11_ask (nI l) (nI 0) σ = some (nI r - 100, trX (wr σ 11 1 (nI 0)) 0 [13, 10]) := by
  have ed : ∀ s, d_sizeOf (13 + 4) 19 (nI l) s = f_X0_sizeOf_17 19 (nI l) s := fun s => rfl
  have e0 : f_X9_empty σ = some (wr σ 11 1 (nI 0)) := rfl
  unfold f_X11_ask
  simp (disch := omega) only [↓lt_eq, ↓reduceIte, ↓un1, ↓un2, ↓un3, ↓un4, ↓bd_some, ↓bind_some', ↓sel_l, ↓sel_r, C1T, C1F, C2T, C2F, C3T, C3F, D1T, D1F, D2T, D2F, D3T, D3F, E1T, E1F, E2T, E2F, E3T, E3F, G1T, G1F, G2T, G2F, G3F, inb_T, inb_L, isB_0, isB_1, isB_b, nI_add, L_add1, L_add2, nI_cl, L_cl, bI_T, bI_F, eq_self, not_true_eq_false, not_false_eq_true, ↓bd_of i1, ↓bind_of e0, ↓bd_of e1, ed, f_X2_sizeOf_17, f_X0_sizeOf_17, f_X2_sizeOf_18, f_X0_sizeOf_18, f_X2_markOf_17, f_X0_markOf_17, f_X2_markOf_18, f_X1_sizeOf_18, f_X0_markOf_18, f_X2_sizeOf_14, f_X2_sizeOf_15, f_X2_sizeOf_16, f_X2_markOf_14, f_X2_markOf_15, f_X2_markOf_16, f_X10_markOf_16, f_X5_markOf_16, f_X10_markOf_15, f_X8_markOf_15, f_X10_sizeOf_15, f_X8_sizeOf_15, f_X10_markOf_14, f_X10_sizeOf_14, f_X10_sizeOf_16, f_X9_leave, wr_same, wr_a, wr_k, g2, g3, trX, bd_some, bind_some']
theorem M_ask_40 {s : St} {l r e : Nat} (hl : l < 4) (f2 : s 260 (8 + l) = nI r) (f3 : s 260 l = nI e) (f1 : s 261 (3 + l) = nI 4) (i1 : f_X12_isLine (nI l) s = some (1, s)) : f_X12_ask (nI l) (nI 0) s = some (nI r - 100, trM (wr s 259 20 (nI 0)) 0 [13, 10]) := by
  have w1 : 0 ≤ 0 := by omega
  have w2 : 0 ≤ 1 := by omega
  have w0 : wr s 259 20 (0 : Int32) = wr s 259 20 (nI 0) := rfl
  unfold f_X12_ask
  simp (disch := omega) only [↓lt_eq, ↓reduceIte, ↓un1, ↓un2, ↓un3, ↓un4, ↓bd_some, ↓bind_some', ↓sel_l, ↓sel_r, C1T, C1F, C2T, C2F, C3T, C3F, D1T, D1F, D2T, D2F, D3T, D3F, E1T, E1F, E2T, E2F, E3T, E3F, G1T, G1F, G2T, G2F, G3F, inb_T, inb_L, isB_0, isB_1, isB_b, nI_add, L_add1, L_add2, nI_cl, L_cl, bI_T, bI_F, eq_self, not_true_eq_false, not_false_eq_true, ↓bd_of i1, ↓bd_of (M_inn (σ := s) (L := 0) (H := 1) (a := 0) (b := 1) (by decide) (by decide) w1 w2 (by decide)), f1, f_X12_leaves, f_X12_lent, f_X12_wireMark, f_X12_wireSize, f_X12_breakerSize, f_X12_breakerMark, ↓w0, wr_same, wr_a, wr_k, f2, f3, trM, bd_some, bind_some']
theorem X_ask_50 {σ : St} {l r e : Nat} (hl : l < 4) (g2 : σ (19 + 2) l = nI r) (g3 : σ (19 + 3) l = nI e) (i1 : f_X11_noLine (nI l) σ = some (0, σ)) (e1 : f_X3_fuseOf 19 (nI l) (wr σ 11 1 (nI 0)) = some (13 + 5, wr σ 11 1 (nI 0))) : f_X11_ask (nI l) (nI 0) σ = some (2 * (nI r - 100), trX (wr σ 11 1 (nI 0)) 0 [14, 13, 10]) := by
  have ed : ∀ s, d_sizeOf (13 + 5) 19 (nI l) s = f_X1_sizeOf_18 19 (nI l) s := fun s => rfl
  have e0 : f_X9_empty σ = some (wr σ 11 1 (nI 0)) := rfl
  unfold f_X11_ask
  simp (disch := omega) only [↓lt_eq, ↓reduceIte, ↓un1, ↓un2, ↓un3, ↓un4, ↓bd_some, ↓bind_some', ↓sel_l, ↓sel_r, C1T, C1F, C2T, C2F, C3T, C3F, D1T, D1F, D2T, D2F, D3T, D3F, E1T, E1F, E2T, E2F, E3T, E3F, G1T, G1F, G2T, G2F, G3F, inb_T, inb_L, isB_0, isB_1, isB_b, nI_add, L_add1, L_add2, nI_cl, L_cl, bI_T, bI_F, eq_self, not_true_eq_false, not_false_eq_true, ↓bd_of i1, ↓bind_of e0, ↓bd_of e1, ed, f_X2_sizeOf_17, f_X0_sizeOf_17, f_X2_sizeOf_18, f_X0_sizeOf_18, f_X2_markOf_17, f_X0_markOf_17, f_X2_markOf_18, f_X1_sizeOf_18, f_X0_markOf_18, f_X2_sizeOf_14, f_X2_sizeOf_15, f_X2_sizeOf_16, f_X2_markOf_14, f_X2_markOf_15, f_X2_markOf_16, f_X10_markOf_16, f_X5_markOf_16, f_X10_markOf_15, f_X8_markOf_15, f_X10_sizeOf_15, f_X8_sizeOf_15, f_X10_markOf_14, f_X10_sizeOf_14, f_X10_sizeOf_16, f_X9_leave, wr_same, wr_a, wr_k, g2, g3, trX, bd_some, bind_some']
theorem M_ask_50 {s : St} {l r e : Nat} (hl : l < 4) (f2 : s 260 (8 + l) = nI r) (f3 : s 260 l = nI e) (f1 : s 261 (3 + l) = nI 5) (i1 : f_X12_isLine (nI l) s = some (1, s)) : f_X12_ask (nI l) (nI 0) s = some (2 * (nI r - 100), trM (wr s 259 20 (nI 0)) 0 [14, 13, 10]) := by
  have w1 : 0 ≤ 0 := by omega
  have w2 : 0 ≤ 1 := by omega
  have w0 : wr s 259 20 (0 : Int32) = wr s 259 20 (nI 0) := rfl
  unfold f_X12_ask
  simp (disch := omega) only [↓lt_eq, ↓reduceIte, ↓un1, ↓un2, ↓un3, ↓un4, ↓bd_some, ↓bind_some', ↓sel_l, ↓sel_r, C1T, C1F, C2T, C2F, C3T, C3F, D1T, D1F, D2T, D2F, D3T, D3F, E1T, E1F, E2T, E2F, E3T, E3F, G1T, G1F, G2T, G2F, G3F, inb_T, inb_L, isB_0, isB_1, isB_b, nI_add, L_add1, L_add2, nI_cl, L_cl, bI_T, bI_F, eq_self, not_true_eq_false, not_false_eq_true, ↓bd_of i1, ↓bd_of (M_inn (σ := s) (L := 0) (H := 1) (a := 0) (b := 1) (by decide) (by decide) w1 w2 (by decide)), f1, f_X12_leaves, f_X12_lent, f_X12_wireMark, f_X12_wireSize, f_X12_breakerSize, f_X12_breakerMark, ↓w0, wr_same, wr_a, wr_k, f2, f3, trM, bd_some, bind_some']
theorem X_ask_11 {σ : St} {l r e : Nat} (hl : l < 4) (g2 : σ (19 + 2) l = nI r) (g3 : σ (19 + 3) l = nI e) (i1 : f_X11_noLine (nI l) σ = some (0, σ)) (e1 : f_X3_fuseOf 19 (nI l) (wr σ 11 1 (nI 0)) = some (13 + 1, wr σ 11 1 (nI 0))) : f_X11_ask (nI l) (nI 1) σ = some (nI l + nI e, trX (wr σ 11 1 (nI 0)) 0 [21, 20]) := by
  have ed : ∀ s, d_markOf (13 + 1) 19 (nI l) s = f_X10_markOf_14 19 (nI l) s := fun s => rfl
  have e0 : f_X9_empty σ = some (wr σ 11 1 (nI 0)) := rfl
  unfold f_X11_ask
  simp (disch := omega) only [↓lt_eq, ↓reduceIte, ↓un1, ↓un2, ↓un3, ↓un4, ↓bd_some, ↓bind_some', ↓sel_l, ↓sel_r, C1T, C1F, C2T, C2F, C3T, C3F, D1T, D1F, D2T, D2F, D3T, D3F, E1T, E1F, E2T, E2F, E3T, E3F, G1T, G1F, G2T, G2F, G3F, inb_T, inb_L, isB_0, isB_1, isB_b, nI_add, L_add1, L_add2, nI_cl, L_cl, bI_T, bI_F, eq_self, not_true_eq_false, not_false_eq_true, ↓bd_of i1, ↓bind_of e0, ↓bd_of e1, ed, f_X2_sizeOf_17, f_X0_sizeOf_17, f_X2_sizeOf_18, f_X0_sizeOf_18, f_X2_markOf_17, f_X0_markOf_17, f_X2_markOf_18, f_X1_sizeOf_18, f_X0_markOf_18, f_X2_sizeOf_14, f_X2_sizeOf_15, f_X2_sizeOf_16, f_X2_markOf_14, f_X2_markOf_15, f_X2_markOf_16, f_X10_markOf_16, f_X5_markOf_16, f_X10_markOf_15, f_X8_markOf_15, f_X10_sizeOf_15, f_X8_sizeOf_15, f_X10_markOf_14, f_X10_sizeOf_14, f_X10_sizeOf_16, f_X9_leave, wr_same, wr_a, wr_k, g2, g3, trX, bd_some, bind_some']
theorem M_ask_11 {s : St} {l r e : Nat} (hl : l < 4) (f2 : s 260 (8 + l) = nI r) (f3 : s 260 l = nI e) (f1 : s 261 (3 + l) = nI 1) (i1 : f_X12_isLine (nI l) s = some (1, s)) : f_X12_ask (nI l) (nI 1) s = some (nI l + nI e, trM (wr s 259 20 (nI 0)) 0 [21, 20]) := by
  have w1 : 0 ≤ 1 := by omega
  have w2 : 1 ≤ 1 := by omega
  have w0 : wr s 259 20 (0 : Int32) = wr s 259 20 (nI 0) := rfl
  unfold f_X12_ask
  simp (disch := omega) only [↓lt_eq, ↓reduceIte, ↓un1, ↓un2, ↓un3, ↓un4, ↓bd_some, ↓bind_some', ↓sel_l, ↓sel_r, C1T, C1F, C2T, C2F, C3T, C3F, D1T, D1F, D2T, D2F, D3T, D3F, E1T, E1F, E2T, E2F, E3T, E3F, G1T, G1F, G2T, G2F, G3F, inb_T, inb_L, isB_0, isB_1, isB_b, nI_add, L_add1, L_add2, nI_cl, L_cl, bI_T, bI_F, eq_self, not_true_eq_false, not_false_eq_true, ↓bd_of i1, ↓bd_of (M_inn (σ := s) (L := 0) (H := 1) (a := 0) (b := 1) (by decide) (by decide) w1 w2 (by decide)), f1, f_X12_leaves, f_X12_lent, f_X12_wireMark, f_X12_wireSize, f_X12_breakerSize, f_X12_breakerMark, ↓w0, wr_same, wr_a, wr_k, f2, f3, trM, bd_some, bind_some']
theorem X_ask_21 {σ : St} {l r e : Nat} (hl : l < 4) (g2 : σ (19 + 2) l = nI r) (g3 : σ (19 + 3) l = nI e) (i1 : f_X11_noLine (nI l) σ = some (0, σ)) (e1 : f_X3_fuseOf 19 (nI l) (wr σ 11 1 (nI 0)) = some (13 + 2, wr σ 11 1 (nI 0))) : f_X11_ask (nI l) (nI 1) σ = some (2 * (nI l + nI e), trX (wr σ 11 1 (nI 0)) 0 [24, 21, 20]) := by
  have ed : ∀ s, d_markOf (13 + 2) 19 (nI l) s = f_X8_markOf_15 19 (nI l) s := fun s => rfl
  have e0 : f_X9_empty σ = some (wr σ 11 1 (nI 0)) := rfl
  unfold f_X11_ask
  simp (disch := omega) only [↓lt_eq, ↓reduceIte, ↓un1, ↓un2, ↓un3, ↓un4, ↓bd_some, ↓bind_some', ↓sel_l, ↓sel_r, C1T, C1F, C2T, C2F, C3T, C3F, D1T, D1F, D2T, D2F, D3T, D3F, E1T, E1F, E2T, E2F, E3T, E3F, G1T, G1F, G2T, G2F, G3F, inb_T, inb_L, isB_0, isB_1, isB_b, nI_add, L_add1, L_add2, nI_cl, L_cl, bI_T, bI_F, eq_self, not_true_eq_false, not_false_eq_true, ↓bd_of i1, ↓bind_of e0, ↓bd_of e1, ed, f_X2_sizeOf_17, f_X0_sizeOf_17, f_X2_sizeOf_18, f_X0_sizeOf_18, f_X2_markOf_17, f_X0_markOf_17, f_X2_markOf_18, f_X1_sizeOf_18, f_X0_markOf_18, f_X2_sizeOf_14, f_X2_sizeOf_15, f_X2_sizeOf_16, f_X2_markOf_14, f_X2_markOf_15, f_X2_markOf_16, f_X10_markOf_16, f_X5_markOf_16, f_X10_markOf_15, f_X8_markOf_15, f_X10_sizeOf_15, f_X8_sizeOf_15, f_X10_markOf_14, f_X10_sizeOf_14, f_X10_sizeOf_16, f_X9_leave, wr_same, wr_a, wr_k, g2, g3, trX, bd_some, bind_some']
theorem M_ask_21 {s : St} {l r e : Nat} (hl : l < 4) (f2 : s 260 (8 + l) = nI r) (f3 : s 260 l = nI e) (f1 : s 261 (3 + l) = nI 2) (i1 : f_X12_isLine (nI l) s = some (1, s)) : f_X12_ask (nI l) (nI 1) s = some (2 * (nI l + nI e), trM (wr s 259 20 (nI 0)) 0 [24, 21, 20]) := by
  have w1 : 0 ≤ 1 := by omega
  have w2 : 1 ≤ 1 := by omega
  have w0 : wr s 259 20 (0 : Int32) = wr s 259 20 (nI 0) := rfl
  unfold f_X12_ask
  simp (disch := omega) only [↓lt_eq, ↓reduceIte, ↓un1, ↓un2, ↓un3, ↓un4, ↓bd_some, ↓bind_some', ↓sel_l, ↓sel_r, C1T, C1F, C2T, C2F, C3T, C3F, D1T, D1F, D2T, D2F, D3T, D3F, E1T, E1F, E2T, E2F, E3T, E3F, G1T, G1F, G2T, G2F, G3F, inb_T, inb_L, isB_0, isB_1, isB_b, nI_add, L_add1, L_add2, nI_cl, L_cl, bI_T, bI_F, eq_self, not_true_eq_false, not_false_eq_true, ↓bd_of i1, ↓bd_of (M_inn (σ := s) (L := 0) (H := 1) (a := 0) (b := 1) (by decide) (by decide) w1 w2 (by decide)), f1, f_X12_leaves, f_X12_lent, f_X12_wireMark, f_X12_wireSize, f_X12_breakerSize, f_X12_breakerMark, ↓w0, wr_same, wr_a, wr_k, f2, f3, trM, bd_some, bind_some']
theorem X_ask_31 {σ : St} {l r e : Nat} (hl : l < 4) (g2 : σ (19 + 2) l = nI r) (g3 : σ (19 + 3) l = nI e) (i1 : f_X11_noLine (nI l) σ = some (0, σ)) (e1 : f_X3_fuseOf 19 (nI l) (wr σ 11 1 (nI 0)) = some (13 + 3, wr σ 11 1 (nI 0))) : f_X11_ask (nI l) (nI 1) σ = some (nI l + nI e - 1000, trX (wr σ 11 1 (nI 0)) 0 [22, 21, 20]) := by
  have ed : ∀ s, d_markOf (13 + 3) 19 (nI l) s = f_X5_markOf_16 19 (nI l) s := fun s => rfl
  have e0 : f_X9_empty σ = some (wr σ 11 1 (nI 0)) := rfl
  unfold f_X11_ask
  simp (disch := omega) only [↓lt_eq, ↓reduceIte, ↓un1, ↓un2, ↓un3, ↓un4, ↓bd_some, ↓bind_some', ↓sel_l, ↓sel_r, C1T, C1F, C2T, C2F, C3T, C3F, D1T, D1F, D2T, D2F, D3T, D3F, E1T, E1F, E2T, E2F, E3T, E3F, G1T, G1F, G2T, G2F, G3F, inb_T, inb_L, isB_0, isB_1, isB_b, nI_add, L_add1, L_add2, nI_cl, L_cl, bI_T, bI_F, eq_self, not_true_eq_false, not_false_eq_true, ↓bd_of i1, ↓bind_of e0, ↓bd_of e1, ed, f_X2_sizeOf_17, f_X0_sizeOf_17, f_X2_sizeOf_18, f_X0_sizeOf_18, f_X2_markOf_17, f_X0_markOf_17, f_X2_markOf_18, f_X1_sizeOf_18, f_X0_markOf_18, f_X2_sizeOf_14, f_X2_sizeOf_15, f_X2_sizeOf_16, f_X2_markOf_14, f_X2_markOf_15, f_X2_markOf_16, f_X10_markOf_16, f_X5_markOf_16, f_X10_markOf_15, f_X8_markOf_15, f_X10_sizeOf_15, f_X8_sizeOf_15, f_X10_markOf_14, f_X10_sizeOf_14, f_X10_sizeOf_16, f_X9_leave, wr_same, wr_a, wr_k, g2, g3, trX, bd_some, bind_some']
theorem M_ask_31 {s : St} {l r e : Nat} (hl : l < 4) (f2 : s 260 (8 + l) = nI r) (f3 : s 260 l = nI e) (f1 : s 261 (3 + l) = nI 3) (i1 : f_X12_isLine (nI l) s = some (1, s)) : f_X12_ask (nI l) (nI 1) s = some (nI l + nI e - 1000, trM (wr s 259 20 (nI 0)) 0 [22, 21, 20]) := by
  have w1 : 0 ≤ 1 := by omega
  have w2 : 1 ≤ 1 := by omega
  have w0 : wr s 259 20 (0 : Int32) = wr s 259 20 (nI 0) := rfl
  unfold f_X12_ask
  simp (disch := omega) only [↓lt_eq, ↓reduceIte, ↓un1, ↓un2, ↓un3, ↓un4, ↓bd_some, ↓bind_some', ↓sel_l, ↓sel_r, C1T, C1F, C2T, C2F, C3T, C3F, D1T, D1F, D2T, D2F, D3T, D3F, E1T, E1F, E2T, E2F, E3T, E3F, G1T, G1F, G2T, G2F, G3F, inb_T, inb_L, isB_0, isB_1, isB_b, nI_add, L_add1, L_add2, nI_cl, L_cl, bI_T, bI_F, eq_self, not_true_eq_false, not_false_eq_true, ↓bd_of i1, ↓bd_of (M_inn (σ := s) (L := 0) (H := 1) (a := 0) (b := 1) (by decide) (by decide) w1 w2 (by decide)), f1, f_X12_leaves, f_X12_lent, f_X12_wireMark, f_X12_wireSize, f_X12_breakerSize, f_X12_breakerMark, ↓w0, wr_same, wr_a, wr_k, f2, f3, trM, bd_some, bind_some']
theorem X_ask_41 {σ : St} {l r e : Nat} (hl : l < 4) (g2 : σ (19 + 2) l = nI r) (g3 : σ (19 + 3) l = nI e) (i1 : f_X11_noLine (nI l) σ = some (0, σ)) (e1 : f_X3_fuseOf 19 (nI l) (wr σ 11 1 (nI 0)) = some (13 + 4, wr σ 11 1 (nI 0))) : f_X11_ask (nI l) (nI 1) σ = some (nI l - (nI r - 100), trX (wr σ 11 1 (nI 0)) 0 [23, 20, 13, 10]) := by
  have ed : ∀ s, d_markOf (13 + 4) 19 (nI l) s = f_X0_markOf_17 19 (nI l) s := fun s => rfl
  have e0 : f_X9_empty σ = some (wr σ 11 1 (nI 0)) := rfl
  unfold f_X11_ask
  simp (disch := omega) only [↓lt_eq, ↓reduceIte, ↓un1, ↓un2, ↓un3, ↓un4, ↓bd_some, ↓bind_some', ↓sel_l, ↓sel_r, C1T, C1F, C2T, C2F, C3T, C3F, D1T, D1F, D2T, D2F, D3T, D3F, E1T, E1F, E2T, E2F, E3T, E3F, G1T, G1F, G2T, G2F, G3F, inb_T, inb_L, isB_0, isB_1, isB_b, nI_add, L_add1, L_add2, nI_cl, L_cl, bI_T, bI_F, eq_self, not_true_eq_false, not_false_eq_true, ↓bd_of i1, ↓bind_of e0, ↓bd_of e1, ed, f_X2_sizeOf_17, f_X0_sizeOf_17, f_X2_sizeOf_18, f_X0_sizeOf_18, f_X2_markOf_17, f_X0_markOf_17, f_X2_markOf_18, f_X1_sizeOf_18, f_X0_markOf_18, f_X2_sizeOf_14, f_X2_sizeOf_15, f_X2_sizeOf_16, f_X2_markOf_14, f_X2_markOf_15, f_X2_markOf_16, f_X10_markOf_16, f_X5_markOf_16, f_X10_markOf_15, f_X8_markOf_15, f_X10_sizeOf_15, f_X8_sizeOf_15, f_X10_markOf_14, f_X10_sizeOf_14, f_X10_sizeOf_16, f_X9_leave, wr_same, wr_a, wr_k, g2, g3, trX, bd_some, bind_some']
theorem M_ask_41 {s : St} {l r e : Nat} (hl : l < 4) (f2 : s 260 (8 + l) = nI r) (f3 : s 260 l = nI e) (f1 : s 261 (3 + l) = nI 4) (i1 : f_X12_isLine (nI l) s = some (1, s)) : f_X12_ask (nI l) (nI 1) s = some (nI l - (nI r - 100), trM (wr s 259 20 (nI 0)) 0 [23, 20, 13, 10]) := by
  have w1 : 0 ≤ 1 := by omega
  have w2 : 1 ≤ 1 := by omega
  have w0 : wr s 259 20 (0 : Int32) = wr s 259 20 (nI 0) := rfl
  unfold f_X12_ask
  simp (disch := omega) only [↓lt_eq, ↓reduceIte, ↓un1, ↓un2, ↓un3, ↓un4, ↓bd_some, ↓bind_some', ↓sel_l, ↓sel_r, C1T, C1F, C2T, C2F, C3T, C3F, D1T, D1F, D2T, D2F, D3T, D3F, E1T, E1F, E2T, E2F, E3T, E3F, G1T, G1F, G2T, G2F, G3F, inb_T, inb_L, isB_0, isB_1, isB_b, nI_add, L_add1, L_add2, nI_cl, L_cl, bI_T, bI_F, eq_self, not_true_eq_false, not_false_eq_true, ↓bd_of i1, ↓bd_of (M_inn (σ := s) (L := 0) (H := 1) (a := 0) (b := 1) (by decide) (by decide) w1 w2 (by decide)), f1, f_X12_leaves, f_X12_lent, f_X12_wireMark, f_X12_wireSize, f_X12_breakerSize, f_X12_breakerMark, ↓w0, wr_same, wr_a, wr_k, f2, f3, trM, bd_some, bind_some']
theorem X_ask_51 {σ : St} {l r e : Nat} (hl : l < 4) (g2 : σ (19 + 2) l = nI r) (g3 : σ (19 + 3) l = nI e) (i1 : f_X11_noLine (nI l) σ = some (0, σ)) (e1 : f_X3_fuseOf 19 (nI l) (wr σ 11 1 (nI 0)) = some (13 + 5, wr σ 11 1 (nI 0))) : f_X11_ask (nI l) (nI 1) σ = some (nI l - 2 * (nI r - 100), trX (wr σ 11 1 (nI 0)) 0 [23, 20, 14, 13, 10]) := by
  have ed : ∀ s, d_markOf (13 + 5) 19 (nI l) s = f_X0_markOf_18 19 (nI l) s := fun s => rfl
  have e0 : f_X9_empty σ = some (wr σ 11 1 (nI 0)) := rfl
  unfold f_X11_ask
  simp (disch := omega) only [↓lt_eq, ↓reduceIte, ↓un1, ↓un2, ↓un3, ↓un4, ↓bd_some, ↓bind_some', ↓sel_l, ↓sel_r, C1T, C1F, C2T, C2F, C3T, C3F, D1T, D1F, D2T, D2F, D3T, D3F, E1T, E1F, E2T, E2F, E3T, E3F, G1T, G1F, G2T, G2F, G3F, inb_T, inb_L, isB_0, isB_1, isB_b, nI_add, L_add1, L_add2, nI_cl, L_cl, bI_T, bI_F, eq_self, not_true_eq_false, not_false_eq_true, ↓bd_of i1, ↓bind_of e0, ↓bd_of e1, ed, f_X2_sizeOf_17, f_X0_sizeOf_17, f_X2_sizeOf_18, f_X0_sizeOf_18, f_X2_markOf_17, f_X0_markOf_17, f_X2_markOf_18, f_X1_sizeOf_18, f_X0_markOf_18, f_X2_sizeOf_14, f_X2_sizeOf_15, f_X2_sizeOf_16, f_X2_markOf_14, f_X2_markOf_15, f_X2_markOf_16, f_X10_markOf_16, f_X5_markOf_16, f_X10_markOf_15, f_X8_markOf_15, f_X10_sizeOf_15, f_X8_sizeOf_15, f_X10_markOf_14, f_X10_sizeOf_14, f_X10_sizeOf_16, f_X9_leave, wr_same, wr_a, wr_k, g2, g3, trX, bd_some, bind_some']
theorem M_ask_51 {s : St} {l r e : Nat} (hl : l < 4) (f2 : s 260 (8 + l) = nI r) (f3 : s 260 l = nI e) (f1 : s 261 (3 + l) = nI 5) (i1 : f_X12_isLine (nI l) s = some (1, s)) : f_X12_ask (nI l) (nI 1) s = some (nI l - 2 * (nI r - 100), trM (wr s 259 20 (nI 0)) 0 [23, 20, 14, 13, 10]) := by
  have w1 : 0 ≤ 1 := by omega
  have w2 : 1 ≤ 1 := by omega
  have w0 : wr s 259 20 (0 : Int32) = wr s 259 20 (nI 0) := rfl
  unfold f_X12_ask
  simp (disch := omega) only [↓lt_eq, ↓reduceIte, ↓un1, ↓un2, ↓un3, ↓un4, ↓bd_some, ↓bind_some', ↓sel_l, ↓sel_r, C1T, C1F, C2T, C2F, C3T, C3F, D1T, D1F, D2T, D2F, D3T, D3F, E1T, E1F, E2T, E2F, E3T, E3F, G1T, G1F, G2T, G2F, G3F, inb_T, inb_L, isB_0, isB_1, isB_b, nI_add, L_add1, L_add2, nI_cl, L_cl, bI_T, bI_F, eq_self, not_true_eq_false, not_false_eq_true, ↓bd_of i1, ↓bd_of (M_inn (σ := s) (L := 0) (H := 1) (a := 0) (b := 1) (by decide) (by decide) w1 w2 (by decide)), f1, f_X12_leaves, f_X12_lent, f_X12_wireMark, f_X12_wireSize, f_X12_breakerSize, f_X12_breakerMark, ↓w0, wr_same, wr_a, wr_k, f2, f3, trM, bd_some, bind_some']
theorem step_ask (x1 x2 : Int32) : Step Inv (f_X11_ask x1 x2) (f_X12_ask x1 x2) := by
  intro σ hI
  obtain ⟨hR, hP, hF, hT, h, o, n, ac, im, hn, ha, hi⟩ := id hI
  have hL4 := hn.L4
  rcases idx x1 (hL h) hL4 with q | ⟨l, hl, rfl⟩
  · refine step_same (-1000001) hI ?_ ?_
    · unfold f_X11_ask
      simp (disch := omega) only [↓lt_eq, ↓reduceIte, ↓un1, ↓un2, ↓un3, ↓un4, ↓bd_some, ↓bind_some', ↓sel_l, ↓sel_r, C1T, C1F, C2T, C2F, C3T, C3F, D1T, D1F, D2T, D2F, D3T, D3F, E1T, E1F, E2T, E2F, E3T, E3F, G1T, G1F, G2T, G2F, G3F, inb_T, inb_L, isB_0, isB_1, isB_b, nI_add, L_add1, L_add2, nI_cl, L_cl, bI_T, bI_F, eq_self, not_true_eq_false, not_false_eq_true, ↓bd_of (X_noLine_out hn.x1 q)]
    · unfold f_X12_ask
      simp (disch := omega) only [↓lt_eq, ↓reduceIte, ↓un1, ↓un2, ↓un3, ↓un4, ↓bd_some, ↓bind_some', ↓sel_l, ↓sel_r, C1T, C1F, C2T, C2F, C3T, C3F, D1T, D1F, D2T, D2F, D3T, D3F, E1T, E1F, E2T, E2F, E3T, E3F, G1T, G1F, G2T, G2F, G3F, inb_T, inb_L, isB_0, isB_1, isB_b, nI_add, L_add1, L_add2, nI_cl, L_cl, bI_T, bI_F, eq_self, not_true_eq_false, not_false_eq_true, ↓bd_of (M_isLine_out hn.m0 q hL4)]
  rcases rng x2 (lo := 0) (hi := 1) 0 1 (by decide) (by decide) (by omega) (by omega) with q | ⟨w, w1, w2, rfl⟩
  · refine step_same (-1000001) hI ?_ ?_
    · unfold f_X11_ask
      simp (disch := omega) only [↓lt_eq, ↓reduceIte, ↓un1, ↓un2, ↓un3, ↓un4, ↓bd_some, ↓bind_some', ↓sel_l, ↓sel_r, C1T, C1F, C2T, C2F, C3T, C3F, D1T, D1F, D2T, D2F, D3T, D3F, E1T, E1F, E2T, E2F, E3T, E3F, G1T, G1F, G2T, G2F, G3F, inb_T, inb_L, isB_0, isB_1, isB_b, nI_add, L_add1, L_add2, nI_cl, L_cl, bI_T, bI_F, eq_self, not_true_eq_false, not_false_eq_true, ↓bd_of (X_noLine_in hn.x1 hl hL4), ↓ite_out1 q]
    · unfold f_X12_ask
      simp (disch := omega) only [↓lt_eq, ↓reduceIte, ↓un1, ↓un2, ↓un3, ↓un4, ↓bd_some, ↓bind_some', ↓sel_l, ↓sel_r, C1T, C1F, C2T, C2F, C3T, C3F, D1T, D1F, D2T, D2F, D3T, D3F, E1T, E1F, E2T, E2F, E3T, E3F, G1T, G1F, G2T, G2F, G3F, inb_T, inb_L, isB_0, isB_1, isB_b, nI_add, L_add1, L_add2, nI_cl, L_cl, bI_T, bI_F, eq_self, not_true_eq_false, not_false_eq_true, ↓bd_of (M_isLine_in hn.m0 hl hL4), ↓bd_of (M_out (lo := 0) (hi := 1) (L := 0) (H := 1) (by decide) (by decide) q)]
  have hw := hn.1
  have hl4 : l < 4 := Nat.lt_of_lt_of_le hl hw.1
  have hkd := hw.2.2.2.2.2.2.1 l hl
  obtain ⟨g1, g2, g3, g4⟩ := hn.2.1.2.2.2.2.2.2.2.1 l hl
  have hm := (hn.2.2.2.1 (by omega)).2
  have i1 := X_noLine_in hn.x1 hl hL4
  have e1 := X_fuseOf (σ := wr σ 11 1 (nI 0)) (hn.2.1.frame (fun b q => wr_a (by omega))) hw hl
  have o4 : ∀ (L : List Int32) b, b ≠ 11 → b ≠ 12 → trX (wr σ 11 1 (nI 0)) 0 L b = σ b := fun L b z1 z2 => by
    rw [(trX_spec L 0 (wr σ 11 1 (nI 0)) (wr_same _ _ _ _)).2.2.2 b z1 z2, wr_a z1]
  have f1 : ∀ L, trX (wr σ 11 1 (nI 0)) 0 L 261 (3 + l) = nI (hKd h l) := fun L => by rw [o4 L 261 (by omega) (by omega)]; exact hm.g_kd hl (by omega)
  have f2 : ∀ L, trX (wr σ 11 1 (nI 0)) 0 L 260 (8 + l) = nI (hRt h l) := fun L => by rw [o4 L 260 (by omega) (by omega)]; exact hm.g_rt hl (by omega)
  have f3 : ∀ L, trX (wr σ 11 1 (nI 0)) 0 L 260 l = nI (hHt h l) := fun L => by rw [o4 L 260 (by omega) (by omega)]; exact hm.g_ht hl (by omega)
  have i2 : ∀ L, f_X12_isLine (nI l) (trX (wr σ 11 1 (nI 0)) 0 L) = _ := fun L => M_isLine_in (by rw [o4 L 261 (by omega) (by omega)]; exact hn.m0) hl hL4
  have k1 := hkd.1
  have k5 := hkd.2.1
  generalize hKd h l = kd at e1 f1 k1 k5
  rcases (show w = 0 ∨ w = 1 by omega) with rfl | rfl <;> rcases (show kd = 1 ∨ kd = 2 ∨ kd = 3 ∨ kd = 4 ∨ kd = 5 by omega) with rfl | rfl | rfl | rfl | rfl
  · exact step_ask0 _ [11, 10, 21, 20] (by decide) hI (X_ask_10 hl4 g2 g3 i1 e1) (M_ask_10 hl4 (f2 _) (f3 _) (f1 _) (i2 _))
  · exact step_ask0 _ [12, 11, 10, 24, 21, 20] (by decide) hI (X_ask_20 hl4 g2 g3 i1 e1) (M_ask_20 hl4 (f2 _) (f3 _) (f1 _) (i2 _))
  · exact step_ask0 _ [11, 10, 22, 21, 20] (by decide) hI (X_ask_30 hl4 g2 g3 i1 e1) (M_ask_30 hl4 (f2 _) (f3 _) (f1 _) (i2 _))
  · exact step_ask0 _ [13, 10] (by decide) hI (X_ask_40 hl4 g2 g3 i1 e1) (M_ask_40 hl4 (f2 _) (f3 _) (f1 _) (i2 _))
  · exact step_ask0 _ [14, 13, 10] (by decide) hI (X_ask_50 hl4 g2 g3 i1 e1) (M_ask_50 hl4 (f2 _) (f3 _) (f1 _) (i2 _))
  · exact step_ask0 _ [21, 20] (by decide) hI (X_ask_11 hl4 g2 g3 i1 e1) (M_ask_11 hl4 (f2 _) (f3 _) (f1 _) (i2 _))
  · exact step_ask0 _ [24, 21, 20] (by decide) hI (X_ask_21 hl4 g2 g3 i1 e1) (M_ask_21 hl4 (f2 _) (f3 _) (f1 _) (i2 _))
  · exact step_ask0 _ [22, 21, 20] (by decide) hI (X_ask_31 hl4 g2 g3 i1 e1) (M_ask_31 hl4 (f2 _) (f3 _) (f1 _) (i2 _))
  · exact step_ask0 _ [23, 20, 13, 10] (by decide) hI (X_ask_41 hl4 g2 g3 i1 e1) (M_ask_41 hl4 (f2 _) (f3 _) (f1 _) (i2 _))
  · exact step_ask0 _ [23, 20, 14, 13, 10] (by decide) hI (X_ask_51 hl4 g2 g3 i1 e1) (M_ask_51 hl4 (f2 _) (f3 _) (f1 _) (i2 _))
