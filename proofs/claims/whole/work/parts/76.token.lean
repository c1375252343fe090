/-! the tape and its tokens; what the class's reader does with one -/
def isD (c : Nat → Nat) (n p : Nat) : Bool := decide (p < n) && (decide (48 ≤ c p) && decide (c p ≤ 57))
def tkC (c : Nat → Nat) (n p : Nat) : Nat := if n ≤ p then 257 else if isD c n p then (if isD c n (p + 1) && isD c n (p + 2) then 258 else 256) else if (97 ≤ c p ∧ c p ≤ 122) ∨ c p = 44 ∨ c p = 59 then c p else 258
def tkV (c : Nat → Nat) (n p : Nat) : Nat := if isD c n (p + 1) then (c p - 48) * 10 + (c (p + 1) - 48) else c p - 48
def tkE (c : Nat → Nat) (n p : Nat) : Nat := if n ≤ p then p else if isD c n p && isD c n (p + 1) then p + 2 else p + 1
theorem isD_t {c : Nat → Nat} {n p : Nat} (h : isD c n p = true) : p < n ∧ 48 ≤ c p ∧ c p ≤ 57 := by
  unfold isD at h
  simp at h
  omega
theorem isD_f {c : Nat → Nat} {n p : Nat} (h : isD c n p = false) (hp : p < n) : c p < 48 ∨ 57 < c p := by
  unfold isD at h
  simp at h
  omega
theorem tkE_le {c : Nat → Nat} {n p : Nat} (hp : p ≤ n) : tkE c n p ≤ n := by
  unfold tkE
  split
  · exact hp
  · split
    · rename_i h
      have := isD_t (c := c) (n := n) (p := p + 1) (by revert h; cases isD c n p <;> simp)
      omega
    · omega
/-- the class's tape -/
def TapeX (c : Nat → Nat) (n : Nat) (s : St) : Prop := n ≤ 90 ∧ s 2 1 = nI n ∧ ∀ i, i < n → c i < 256 ∧ s 3 i = nI (c i)
theorem TapeX.fr {c : Nat → Nat} {n : Nat} {s t : St} (h : TapeX c n s) (h1 : t 2 1 = s 2 1) (h3 : t 3 = s 3) : TapeX c n t := ⟨h.1, h1.trans h.2.1, fun i hi => by rw [h3]; exact h.2.2 i hi⟩
theorem X_isFigure {c : Nat → Nat} {n p : Nat} {s : St} (h : TapeX c n s) (hp : p < 2147483648) : f_X6_isFigure (nI p) s = some (bI (isD c n p), s) := by
  obtain ⟨h1, h2, h3⟩ := h
  unfold f_X6_isFigure isD
  by_cases a : p < n
  · obtain ⟨b1, b2⟩ := h3 p a
    by_cases a2 : 48 ≤ c p
    · by_cases a3 : c p ≤ 57
      · rw [decide_eq_true a, decide_eq_true a2, decide_eq_true a3]
        simp (disch := omega) only [↓lt_eq, ↓reduceIte, ↓un1, ↓un2, ↓un3, ↓un4, ↓bd_some, ↓bind_some', ↓sel_l, ↓sel_r, C1T, C1F, C2T, C2F, C3T, C3F, D1T, D1F, D2T, D2F, D3T, D3F, E1T, E1F, E2T, E2F, E3T, E3F, G1T, G1F, G2T, G2F, G3F, inb_T, inb_L, isB_0, isB_1, isB_b, nI_add, L_add1, L_add2, nI_cl, L_cl, bI_T, bI_F, eq_self, not_true_eq_false, not_false_eq_true, h2, b2, Bool.and_self]
      · rw [decide_eq_true a, decide_eq_true a2, decide_eq_false a3]
        simp (disch := omega) only [↓lt_eq, ↓reduceIte, ↓un1, ↓un2, ↓un3, ↓un4, ↓bd_some, ↓bind_some', ↓sel_l, ↓sel_r, C1T, C1F, C2T, C2F, C3T, C3F, D1T, D1F, D2T, D2F, D3T, D3F, E1T, E1F, E2T, E2F, E3T, E3F, G1T, G1F, G2T, G2F, G3F, inb_T, inb_L, isB_0, isB_1, isB_b, nI_add, L_add1, L_add2, nI_cl, L_cl, bI_T, bI_F, eq_self, not_true_eq_false, not_false_eq_true, h2, b2, Bool.and_false]
    · rw [decide_eq_true a, decide_eq_false a2]
      simp (disch := omega) only [↓lt_eq, ↓reduceIte, ↓un1, ↓un2, ↓un3, ↓un4, ↓bd_some, ↓bind_some', ↓sel_l, ↓sel_r, C1T, C1F, C2T, C2F, C3T, C3F, D1T, D1F, D2T, D2F, D3T, D3F, E1T, E1F, E2T, E2F, E3T, E3F, G1T, G1F, G2T, G2F, G3F, inb_T, inb_L, isB_0, isB_1, isB_b, nI_add, L_add1, L_add2, nI_cl, L_cl, bI_T, bI_F, eq_self, not_true_eq_false, not_false_eq_true, h2, b2, Bool.false_and, Bool.and_false]
  · rw [decide_eq_false a]
    simp (disch := omega) only [↓lt_eq, ↓reduceIte, ↓un1, ↓un2, ↓un3, ↓un4, ↓bd_some, ↓bind_some', ↓sel_l, ↓sel_r, C1T, C1F, C2T, C2F, C3T, C3F, D1T, D1F, D2T, D2F, D3T, D3F, E1T, E1F, E2T, E2F, E3T, E3F, G1T, G1F, G2T, G2F, G3F, inb_T, inb_L, isB_0, isB_1, isB_b, nI_add, L_add1, L_add2, nI_cl, L_cl, bI_T, bI_F, eq_self, not_true_eq_false, not_false_eq_true, h2, Bool.false_and]
/-- what a token that was read leaves -/
def Tok (c : Nat → Nat) (n p : Nat) (s : St) : Prop := s 2 2 = nI (tkC c n p) ∧ (tkC c n p = 256 → s 2 3 = nI (tkV c n p)) ∧ s 2 4 = nI (tkE c n p) ∧ s 2 5 = nI p
def FrC (s t : St) : Prop := (∀ b, b ≠ 2 → t b = s b) ∧ t 2 1 = s 2 1
theorem FrC.rf {s : St} : FrC s s := ⟨fun _ _ => rfl, rfl⟩
theorem FrC.tr {s t u : St} (h1 : FrC s t) (h2 : FrC t u) : FrC s u := ⟨fun b q => (h2.1 b q).trans (h1.1 b q), h2.2.trans h1.2⟩
theorem FrC.tape {c : Nat → Nat} {n : Nat} {s t : St} (h : FrC s t) (ht : TapeX c n s) : TapeX c n t := ht.fr h.2 (h.1 3 (by omega))
theorem X_readNumber {c : Nat → Nat} {n p : Nat} {s : St} (h : TapeX c n s) (hd : isD c n p = true) (e5 : s 2 5 = nI p) (e4 : s 2 4 = nI (p + 1)) : Ok (f_X6_readNumber s) (fun t => Tok c n p t ∧ FrC s t ∧ t 2 6 = s 2 6) := by
  obtain ⟨hp, hc1, hc2⟩ := isD_t hd
  have hn := h.1
  obtain ⟨b1, b2⟩ := h.2.2 p hp
  generalize hs2 : wr (wr s 2 2 256) 2 3 (nI (c p - 48)) = s2
  have y : ∀ k, k ≠ 2 → k ≠ 3 → s2 2 k = s 2 k := fun k z1 z2 => by rw [← hs2, wr_k z2, wr_k z1]
  have yo : ∀ b, b ≠ 2 → s2 b = s b := fun b z => by rw [← hs2, wr_a z, wr_a z]
  have y2 : s2 2 2 = 256 := by rw [← hs2, wr_k (by omega), wr_same]
  have y3 : s2 2 3 = nI (c p - 48) := by rw [← hs2, wr_same]
  have y5 : s2 2 5 = nI p := by rw [y 5 (by omega) (by omega)]; exact e5
  have y4 : s2 2 4 = nI (p + 1) := by rw [y 4 (by omega) (by omega)]; exact e4
  have ht2 : TapeX c n s2 := h.fr (y 1 (by omega) (by omega)) (yo 3 (by omega))
  have f1 := X_isFigure (p := p + 1) ht2 (by omega)
  have w5 : wr s 2 2 256 2 5 = nI p := by rw [wr_k (by omega)]; exact e5
  have w3 : wr s 2 2 256 3 p = nI (c p) := by rw [wr_a (by omega)]; exact b2
  have ee : ∀ x, tkE c n p = x → s2 2 4 = nI x → s2 2 4 = nI (tkE c n p) := fun x e q => by rw [e]; exact q
  cases hd1 : isD c n (p + 1) with
  | false =>
    rw [hd1] at f1
    have k1 : tkC c n p = 256 := by unfold tkC; rw [if_neg (by omega), hd, hd1]; rfl
    have k2 : tkV c n p = c p - 48 := by unfold tkV; rw [hd1]; rfl
    have k3 : tkE c n p = p + 1 := by unfold tkE; rw [if_neg (by omega), hd, hd1]; rfl
    refine ⟨s2, ?_, ⟨by rw [y2, k1]; rfl, fun _ => by rw [y3, k2], by rw [k3]; exact y4, y5⟩, ⟨yo, y 1 (by omega) (by omega)⟩, y 6 (by omega) (by omega)⟩
    unfold f_X6_readNumber
    simp (disch := omega) only [↓lt_eq, ↓reduceIte, ↓un1, ↓un2, ↓un3, ↓un4, ↓bd_some, ↓bind_some', ↓sel_l, ↓sel_r, C1T, C1F, C2T, C2F, C3T, C3F, D1T, D1F, D2T, D2F, D3T, D3F, E1T, E1F, E2T, E2F, E3T, E3F, G1T, G1F, G2T, G2F, G3F, inb_T, inb_L, isB_0, isB_1, isB_b, nI_add, L_add1, L_add2, nI_cl, L_cl, bI_T, bI_F, eq_self, not_true_eq_false, not_false_eq_true, w5, w3, L_sub2, hs2, y5, ↓bd_of f1]
  | true =>
    rw [hd1] at f1
    obtain ⟨hp1, hc3, hc4⟩ := isD_t hd1
    obtain ⟨b3, b4⟩ := h.2.2 (p + 1) hp1
    have k2 : tkV c n p = (c p - 48) * 10 + (c (p + 1) - 48) := by unfold tkV; rw [hd1]; rfl
    have k3 : tkE c n p = p + 2 := by unfold tkE; rw [if_neg (by omega), hd, hd1]; rfl
    have kv : (c p - 48) * 10 + c (p + 1) - 48 = tkV c n p := by rw [k2]; omega
    have z3 : s2 3 (p + 1) = nI (c (p + 1)) := by rw [yo 3 (by omega)]; exact b4
    generalize hs3 : wr (wr s2 2 3 (nI (tkV c n p))) 2 4 (nI (p + 2)) = s3
    have x : ∀ k, k ≠ 3 → k ≠ 4 → s3 2 k = s2 2 k := fun k z1 z2 => by rw [← hs3, wr_k z2, wr_k z1]
    have xo : ∀ b, b ≠ 2 → s3 b = s2 b := fun b z => by rw [← hs3, wr_a z, wr_a z]
    have x3 : s3 2 3 = nI (tkV c n p) := by rw [← hs3, wr_k (by omega), wr_same]
    have x4 : s3 2 4 = nI (p + 2) := by rw [← hs3, wr_same]
    have x5 : s3 2 5 = nI p := by rw [x 5 (by omega) (by omega)]; exact y5
    have x2 : s3 2 2 = 256 := by rw [x 2 (by omega) (by omega)]; exact y2
    have ht3 : TapeX c n s3 := ht2.fr (x 1 (by omega) (by omega)) (xo 3 (by omega))
    have f2 := X_isFigure (p := p + 2) ht3 (by omega)
    have w52 : wr s2 2 3 (nI (tkV c n p)) 2 5 = nI p := by rw [wr_k (by omega)]; exact y5
    cases hd2 : isD c n (p + 2) with
    | false =>
      rw [hd2] at f2
      have k1 : tkC c n p = 256 := by unfold tkC; rw [if_neg (by omega), hd, hd1, hd2]; rfl
      refine ⟨s3, ?_, ⟨by rw [x2, k1]; rfl, fun _ => x3, by rw [k3]; exact x4, x5⟩, ⟨fun b z => (xo b z).trans (yo b z), (x 1 (by omega) (by omega)).trans (y 1 (by omega) (by omega))⟩, (x 6 (by omega) (by omega)).trans (y 6 (by omega) (by omega))⟩
      unfold f_X6_readNumber
      simp (disch := omega) only [↓lt_eq, ↓reduceIte, ↓un1, ↓un2, ↓un3, ↓un4, ↓bd_some, ↓bind_some', ↓sel_l, ↓sel_r, C1T, C1F, C2T, C2F, C3T, C3F, D1T, D1F, D2T, D2F, D3T, D3F, E1T, E1F, E2T, E2F, E3T, E3F, G1T, G1F, G2T, G2F, G3F, inb_T, inb_L, isB_0, isB_1, isB_b, nI_add, L_add1, L_add2, nI_cl, L_cl, bI_T, bI_F, eq_self, not_true_eq_false, not_false_eq_true, w5, w3, L_sub2, hs2, y5, ↓bd_of f1, y3, z3, L_mul2, kv, w52, hs3, x5, ↓bd_of f2]
    | true =>
      rw [hd2] at f2
      have k1 : tkC c n p = 258 := by unfold tkC; rw [if_neg (by omega), hd, hd1, hd2]; rfl
      refine ⟨wr s3 2 2 258, ?_, ⟨by rw [wr_same, k1]; rfl, fun z => by rw [k1] at z; exact absurd z (by decide), by rw [wr_k (by omega), k3]; exact x4, by rw [wr_k (by omega)]; exact x5⟩, ⟨fun b z => by rw [wr_a z, xo b z, yo b z], by rw [wr_k (by omega), x 1 (by omega) (by omega), y 1 (by omega) (by omega)]⟩, by rw [wr_k (by omega), x 6 (by omega) (by omega), y 6 (by omega) (by omega)]⟩
      unfold f_X6_readNumber
      simp (disch := omega) only [↓lt_eq, ↓reduceIte, ↓un1, ↓un2, ↓un3, ↓un4, ↓bd_some, ↓bind_some', ↓sel_l, ↓sel_r, C1T, C1F, C2T, C2F, C3T, C3F, D1T, D1F, D2T, D2F, D3T, D3F, E1T, E1F, E2T, E2F, E3T, E3F, G1T, G1F, G2T, G2F, G3F, inb_T, inb_L, isB_0, isB_1, isB_b, nI_add, L_add1, L_add2, nI_cl, L_cl, bI_T, bI_F, eq_self, not_true_eq_false, not_false_eq_true, w5, w3, L_sub2, hs2, y5, ↓bd_of f1, y3, z3, L_mul2, kv, w52, hs3, x5, ↓bd_of f2]
theorem X_readToken {c : Nat → Nat} {n p : Nat} {s : St} (h : TapeX c n s) (hp : p ≤ n) (e4 : s 2 4 = nI p) : Ok (f_X6_readToken s) (fun t => Tok c n p t ∧ FrC s t ∧ t 2 6 = s 2 6) := by
  have hn := h.1
  generalize hs1 : wr s 2 5 (nI p) = s1
  have y : ∀ k, k ≠ 5 → s1 2 k = s 2 k := fun k z => by rw [← hs1, wr_k z]
  have yo : ∀ b, b ≠ 2 → s1 b = s b := fun b z => by rw [← hs1, wr_a z]
  have y5 : s1 2 5 = nI p := by rw [← hs1, wr_same]
  have ht1 : TapeX c n s1 := h.fr (y 1 (by omega)) (yo 3 (by omega))
  have y1 : s1 2 1 = nI n := ht1.2.1
  by_cases a : p < n
  · obtain ⟨b1, b2⟩ := ht1.2.2 p a
    generalize hs2 : wr s1 2 4 (nI (p + 1)) = s2
    have x : ∀ k, k ≠ 4 → s2 2 k = s1 2 k := fun k z => by rw [← hs2, wr_k z]
    have xo : ∀ b, b ≠ 2 → s2 b = s1 b := fun b z => by rw [← hs2, wr_a z]
    have x4 : s2 2 4 = nI (p + 1) := by rw [← hs2, wr_same]
    have x5 : s2 2 5 = nI p := by rw [x 5 (by omega)]; exact y5
    have ht2 : TapeX c n s2 := ht1.fr (x 1 (by omega)) (xo 3 (by omega))
    have f1 := X_isFigure (p := p) ht2 (by omega)
    have fr12 : FrC s s2 := ⟨fun b z => (xo b z).trans (yo b z), (x 1 (by omega)).trans (y 1 (by omega))⟩
    have e6 : s2 2 6 = s 2 6 := (x 6 (by omega)).trans (y 6 (by omega))
    cases hd : isD c n p with
    | true =>
      rw [hd] at f1
      obtain ⟨t, e, k1, k2, k3⟩ := X_readNumber ht2 hd x5 x4
      refine ⟨t, ?_, k1, fr12.tr k2, k3.trans e6⟩
      unfold f_X6_readToken
      simp (disch := omega) only [↓lt_eq, ↓reduceIte, ↓un1, ↓un2, ↓un3, ↓un4, ↓bd_some, ↓bind_some', ↓sel_l, ↓sel_r, C1T, C1F, C2T, C2F, C3T, C3F, D1T, D1F, D2T, D2F, D3T, D3F, E1T, E1F, E2T, E2F, E3T, E3F, G1T, G1F, G2T, G2F, G3F, inb_T, inb_L, isB_0, isB_1, isB_b, nI_add, L_add1, L_add2, nI_cl, L_cl, bI_T, bI_F, eq_self, not_true_eq_false, not_false_eq_true, e4, hs1, y5, y1, b2, hs2, x5, ↓bd_of f1, ↓bind_of e]
    | false =>
      rw [hd] at f1
      have hE : tkE c n p = p + 1 := by unfold tkE; rw [if_neg (by omega), hd]; rfl
      by_cases q : (97 ≤ c p ∧ c p ≤ 122) ∨ c p = 44 ∨ c p = 59
      · have hC : tkC c n p = c p := by unfold tkC; rw [if_neg (by omega), hd, if_neg (by decide), if_pos q]
        refine ⟨wr s2 2 2 (nI (c p)), ?_, ⟨by rw [wr_same, hC], fun z => by rw [hC] at z; omega, by rw [wr_k (by omega), hE]; exact x4, by rw [wr_k (by omega)]; exact x5⟩, fr12.tr ⟨fun b z => wr_a z, wr_k (by omega)⟩, by rw [wr_k (by omega)]; exact e6⟩
        unfold f_X6_readToken
        by_cases q1 : 97 ≤ c p
        · by_cases q2 : c p ≤ 122
          · simp (disch := omega) only [↓lt_eq, ↓reduceIte, ↓un1, ↓un2, ↓un3, ↓un4, ↓bd_some, ↓bind_some', ↓sel_l, ↓sel_r, C1T, C1F, C2T, C2F, C3T, C3F, D1T, D1F, D2T, D2F, D3T, D3F, E1T, E1F, E2T, E2F, E3T, E3F, G1T, G1F, G2T, G2F, G3F, inb_T, inb_L, isB_0, isB_1, isB_b, nI_add, L_add1, L_add2, nI_cl, L_cl, bI_T, bI_F, eq_self, not_true_eq_false, not_false_eq_true, e4, hs1, y5, y1, b2, hs2, x5, ↓bd_of f1]
          · omega
        · by_cases q3 : c p = 44
          · simp (disch := omega) only [↓lt_eq, ↓reduceIte, ↓un1, ↓un2, ↓un3, ↓un4, ↓bd_some, ↓bind_some', ↓sel_l, ↓sel_r, C1T, C1F, C2T, C2F, C3T, C3F, D1T, D1F, D2T, D2F, D3T, D3F, E1T, E1F, E2T, E2F, E3T, E3F, G1T, G1F, G2T, G2F, G3F, inb_T, inb_L, isB_0, isB_1, isB_b, nI_add, L_add1, L_add2, nI_cl, L_cl, bI_T, bI_F, eq_self, not_true_eq_false, not_false_eq_true, e4, hs1, y5, y1, b2, hs2, x5, ↓bd_of f1]
          · have q4 : c p = 59 := by omega
            simp (disch := omega) only [↓lt_eq, ↓reduceIte, ↓un1, ↓un2, ↓un3, ↓un4, ↓bd_some, ↓bind_some', ↓sel_l, ↓sel_r, C1T, C1F, C2T, C2F, C3T, C3F, D1T, D1F, D2T, D2F, D3T, D3F, E1T, E1F, E2T, E2F, E3T, E3F, G1T, G1F, G2T, G2F, G3F, inb_T, inb_L, isB_0, isB_1, isB_b, nI_add, L_add1, L_add2, nI_cl, L_cl, bI_T, bI_F, eq_self, not_true_eq_false, not_false_eq_true, e4, hs1, y5, y1, b2, hs2, x5, ↓bd_of f1]
      · have hC : tkC c n p = 258 := by unfold tkC; rw [if_neg (by omega), hd, if_neg (by decide), if_neg q]
        refine ⟨wr s2 2 2 258, ?_, ⟨by rw [wr_same, hC]; rfl, fun z => by rw [hC] at z; exact absurd z (by decide), by rw [wr_k (by omega), hE]; exact x4, by rw [wr_k (by omega)]; exact x5⟩, fr12.tr ⟨fun b z => wr_a z, wr_k (by omega)⟩, by rw [wr_k (by omega)]; exact e6⟩
        unfold f_X6_readToken
        by_cases q1 : 97 ≤ c p
        · simp (disch := omega) only [↓lt_eq, ↓reduceIte, ↓un1, ↓un2, ↓un3, ↓un4, ↓bd_some, ↓bind_some', ↓sel_l, ↓sel_r, C1T, C1F, C2T, C2F, C3T, C3F, D1T, D1F, D2T, D2F, D3T, D3F, E1T, E1F, E2T, E2F, E3T, E3F, G1T, G1F, G2T, G2F, G3F, inb_T, inb_L, isB_0, isB_1, isB_b, nI_add, L_add1, L_add2, nI_cl, L_cl, bI_T, bI_F, eq_self, not_true_eq_false, not_false_eq_true, e4, hs1, y5, y1, b2, hs2, x5, ↓bd_of f1]
        · simp (disch := omega) only [↓lt_eq, ↓reduceIte, ↓un1, ↓un2, ↓un3, ↓un4, ↓bd_some, ↓bind_some', ↓sel_l, ↓sel_r, C1T, C1F, C2T, C2F, C3T, C3F, D1T, D1F, D2T, D2F, D3T, D3F, E1T, E1F, E2T, E2F, E3T, E3F, G1T, G1F, G2T, G2F, G3F, inb_T, inb_L, isB_0, isB_1, isB_b, nI_add, L_add1, L_add2, nI_cl, L_cl, bI_T, bI_F, eq_self, not_true_eq_false, not_false_eq_true, e4, hs1, y5, y1, b2, hs2, x5, ↓bd_of f1]
  · have hpn : p = n := by omega
    have hC : tkC c n p = 257 := by unfold tkC; rw [if_pos (by omega)]
    have hE : tkE c n p = p := by unfold tkE; rw [if_pos (by omega)]
    refine ⟨wr s1 2 2 257, ?_, ⟨by rw [wr_same, hC]; rfl, fun z => by rw [hC] at z; exact absurd z (by decide), by rw [wr_k (by omega), hE, y 4 (by omega)]; exact e4, by rw [wr_k (by omega)]; exact y5⟩, ⟨fun b z => by rw [wr_a z, yo b z], by rw [wr_k (by omega), y 1 (by omega)]⟩, by rw [wr_k (by omega), y 6 (by omega)]⟩
    unfold f_X6_readToken
    simp (disch := omega) only [↓lt_eq, ↓reduceIte, ↓un1, ↓un2, ↓un3, ↓un4, ↓bd_some, ↓bind_some', ↓sel_l, ↓sel_r, C1T, C1F, C2T, C2F, C3T, C3F, D1T, D1F, D2T, D2F, D3T, D3F, E1T, E1F, E2T, E2F, E3T, E3F, G1T, G1F, G2T, G2F, G3F, inb_T, inb_L, isB_0, isB_1, isB_b, nI_add, L_add1, L_add2, nI_cl, L_cl, bI_T, bI_F, eq_self, not_true_eq_false, not_false_eq_true, e4, hs1, y5, y1]
/-! what a text means: a fault, or more -/
def sb {α β : Type} (r : (Nat × Nat) ⊕ α) (k : α → (Nat × Nat) ⊕ β) : (Nat × Nat) ⊕ β := match r with
  | .inl e => .inl e
  | .inr a => k a
def takeA (c : Nat → Nat) (n w p : Nat) : (Nat × Nat) ⊕ Nat := if tkC c n p = w then .inr (tkE c n p) else .inl (1, p)
def numA (c : Nat → Nat) (n lo hi p : Nat) : (Nat × Nat) ⊕ (Nat × Nat) := if tkC c n p = 256 then (if lo ≤ tkV c n p ∧ tkV c n p ≤ hi then .inr (tkV c n p, tkE c n p) else .inl (2, p)) else .inl (1, p)
/-- the class's reader stands ahead of a token, or has a fault -/
def CR (c : Nat → Nat) (n : Nat) (r : (Nat × Nat) ⊕ Nat) (s : St) : Prop := match r with
  | .inl e => s 2 6 = nI e.1 ∧ 0 < e.1 ∧ e.1 ≤ 3 ∧ s 2 5 = nI e.2
  | .inr p => p ≤ n ∧ TapeX c n s ∧ s 2 6 = 0 ∧ Tok c n p s
theorem X_fail_err {f : Nat} {x : Int32} {s : St} (e : s 2 6 = nI f) (h0 : 0 < f) (h3 : f ≤ 3) : f_X6_fail x s = some s := by
  unfold f_X6_fail
  simp (disch := omega) only [↓lt_eq, ↓reduceIte, ↓un1, ↓un2, ↓un3, ↓un4, ↓bd_some, ↓bind_some', ↓sel_l, ↓sel_r, C1T, C1F, C2T, C2F, C3T, C3F, D1T, D1F, D2T, D2F, D3T, D3F, E1T, E1F, E2T, E2F, E3T, E3F, G1T, G1F, G2T, G2F, G3F, inb_T, inb_L, isB_0, isB_1, isB_b, nI_add, L_add1, L_add2, nI_cl, L_cl, bI_T, bI_F, eq_self, not_true_eq_false, not_false_eq_true, e]
theorem X_take_err {f : Nat} {x : Int32} {s : St} (e : s 2 6 = nI f) (h0 : 0 < f) (h3 : f ≤ 3) : f_X6_take x s = some s := by
  unfold f_X6_take
  simp (disch := omega) only [↓lt_eq, ↓reduceIte, ↓un1, ↓un2, ↓un3, ↓un4, ↓bd_some, ↓bind_some', ↓sel_l, ↓sel_r, C1T, C1F, C2T, C2F, C3T, C3F, D1T, D1F, D2T, D2F, D3T, D3F, E1T, E1F, E2T, E2F, E3T, E3F, G1T, G1F, G2T, G2F, G3F, inb_T, inb_L, isB_0, isB_1, isB_b, nI_add, L_add1, L_add2, nI_cl, L_cl, bI_T, bI_F, eq_self, not_true_eq_false, not_false_eq_true, e]
theorem X_num_err {f : Nat} {x y : Int32} {s : St} (e : s 2 6 = nI f) (h0 : 0 < f) (h3 : f ≤ 3) : f_X6_takeNumber x y s = some (s 2 3, s) := by
  unfold f_X6_takeNumber
  simp (disch := omega) only [↓lt_eq, ↓reduceIte, ↓un1, ↓un2, ↓un3, ↓un4, ↓bd_some, ↓bind_some', ↓sel_l, ↓sel_r, C1T, C1F, C2T, C2F, C3T, C3F, D1T, D1F, D2T, D2F, D3T, D3F, E1T, E1F, E2T, E2F, E3T, E3F, G1T, G1F, G2T, G2F, G3F, inb_T, inb_L, isB_0, isB_1, isB_b, nI_add, L_add1, L_add2, nI_cl, L_cl, bI_T, bI_F, eq_self, not_true_eq_false, not_false_eq_true, e]
theorem X_fail_0 {x : Int32} {s : St} (e : s 2 6 = 0) : f_X6_fail x s = some (wr s 2 6 x) := by
  unfold f_X6_fail
  simp (disch := omega) only [↓lt_eq, ↓reduceIte, ↓un1, ↓un2, ↓un3, ↓un4, ↓bd_some, ↓bind_some', ↓sel_l, ↓sel_r, C1T, C1F, C2T, C2F, C3T, C3F, D1T, D1F, D2T, D2F, D3T, D3F, E1T, E1F, E2T, E2F, E3T, E3F, G1T, G1F, G2T, G2F, G3F, inb_T, inb_L, isB_0, isB_1, isB_b, nI_add, L_add1, L_add2, nI_cl, L_cl, bI_T, bI_F, eq_self, not_true_eq_false, not_false_eq_true, e]
theorem CR.fail {c : Nat → Nat} {n p : Nat} {s : St} (h : CR c n (.inr p) s) {f : Nat} (h0 : 0 < f) (h3 : f ≤ 3) : CR c n (.inl (f, p)) (wr s 2 6 (nI f)) := ⟨wr_same _ _ _ _, h0, h3, by rw [wr_k (by omega)]; exact h.2.2.2.2.2.2⟩
theorem tkC_le {c : Nat → Nat} {n p : Nat} {s : St} (h : TapeX c n s) : tkC c n p ≤ 258 := by
  unfold tkC
  split
  · omega
  · split
    · split <;> omega
    · split
      · have := (h.2.2 p (by omega)).1; omega
      · omega
theorem X_take {c : Nat → Nat} {n w : Nat} {r : (Nat × Nat) ⊕ Nat} {s : St} (h : CR c n r s) (hw : w ≤ 257) : Ok (f_X6_take (nI w) s) (fun t => CR c n (sb r (takeA c n w)) t ∧ FrC s t) := by
  cases r with
  | inl e => exact ⟨s, X_take_err h.1 h.2.1 h.2.2.1, h, FrC.rf⟩
  | inr p =>
    obtain ⟨h1, h2, h3, h4⟩ := id h
    have hle := tkC_le (p := p) h2
    show Ok _ (fun t => CR c n (takeA c n w p) t ∧ FrC s t)
    unfold takeA
    by_cases q : tkC c n p = w
    · rw [if_pos q]
      obtain ⟨t, e, k1, k2, k3⟩ := X_readToken h2 (tkE_le h1) h4.2.2.1
      refine ⟨t, ?_, ⟨tkE_le h1, k2.tape h2, k3.trans h3, k1⟩, k2⟩
      unfold f_X6_take
      simp (disch := omega) only [↓lt_eq, ↓reduceIte, ↓un1, ↓un2, ↓un3, ↓un4, ↓bd_some, ↓bind_some', ↓sel_l, ↓sel_r, C1T, C1F, C2T, C2F, C3T, C3F, D1T, D1F, D2T, D2F, D3T, D3F, E1T, E1F, E2T, E2F, E3T, E3F, G1T, G1F, G2T, G2F, G3F, inb_T, inb_L, isB_0, isB_1, isB_b, nI_add, L_add1, L_add2, nI_cl, L_cl, bI_T, bI_F, eq_self, not_true_eq_false, not_false_eq_true, h3, h4.1, ↓bind_of e]
    · rw [if_neg q]
      refine ⟨wr s 2 6 (nI 1), ?_, h.fail (by omega) (by omega), ⟨fun b z => wr_a z, wr_k (by omega)⟩⟩
      have e := X_fail_0 (x := 1) h3
      unfold f_X6_take
      simp (disch := omega) only [↓lt_eq, ↓reduceIte, ↓un1, ↓un2, ↓un3, ↓un4, ↓bd_some, ↓bind_some', ↓sel_l, ↓sel_r, C1T, C1F, C2T, C2F, C3T, C3F, D1T, D1F, D2T, D2F, D3T, D3F, E1T, E1F, E2T, E2F, E3T, E3F, G1T, G1F, G2T, G2F, G3F, inb_T, inb_L, isB_0, isB_1, isB_b, nI_add, L_add1, L_add2, nI_cl, L_cl, bI_T, bI_F, eq_self, not_true_eq_false, not_false_eq_true, h3, h4.1, ↓bind_of e]
      rfl
theorem tkV_le {c : Nat → Nat} {n p : Nat} (h : tkC c n p = 256) : tkV c n p ≤ 99 := by
  have hd : isD c n p = true := by
    cases z : isD c n p with
    | true => rfl
    | false =>
      unfold tkC at h
      rw [z] at h
      split at h
      · exact absurd h (by decide)
      · rw [if_neg (by decide)] at h
        split at h
        · omega
        · exact absurd h (by decide)
  have := isD_t hd
  unfold tkV
  split
  · rename_i z
    have := isD_t z
    omega
  · omega
theorem X_num {c : Nat → Nat} {n lo hi : Nat} {r : (Nat × Nat) ⊕ Nat} {s : St} (h : CR c n r s) (hlo : lo < 1000) (hhi : hi < 1000) : Ok (f_X6_takeNumber (nI lo) (nI hi) s) (fun v => CR c n (sb (sb r (numA c n lo hi)) (fun y => .inr y.2)) v.2 ∧ (∀ y, sb r (numA c n lo hi) = .inr y → v.1 = nI y.1) ∧ FrC s v.2) := by
  cases r with
  | inl e => exact ⟨(s 2 3, s), X_num_err h.1 h.2.1 h.2.2.1, h, (fun y q => by cases q), FrC.rf⟩
  | inr p =>
    obtain ⟨h1, h2, h3, h4⟩ := id h
    have hle := tkC_le (p := p) h2
    show Ok (f_X6_takeNumber (nI lo) (nI hi) s) (fun v : Int32 × St => CR c n (sb (numA c n lo hi p) (fun y => .inr y.2)) v.2 ∧ (∀ y, numA c n lo hi p = .inr y → v.1 = nI y.1) ∧ FrC s v.2)
    unfold numA
    by_cases q : tkC c n p = 256
    · have e3 := h4.2.1 q
      have hv := tkV_le q
      rw [if_pos q]
      by_cases q2 : lo ≤ tkV c n p ∧ tkV c n p ≤ hi
      · rw [if_pos q2]
        obtain ⟨t, e, k1, k2, k3⟩ := X_readToken h2 (tkE_le h1) h4.2.2.1
        refine ⟨(nI (tkV c n p), t), ?_, ⟨tkE_le h1, k2.tape h2, k3.trans h3, k1⟩, fun y z => ?_, k2⟩
        · unfold f_X6_takeNumber
          simp (disch := omega) only [↓lt_eq, ↓reduceIte, ↓un1, ↓un2, ↓un3, ↓un4, ↓bd_some, ↓bind_some', ↓sel_l, ↓sel_r, C1T, C1F, C2T, C2F, C3T, C3F, D1T, D1F, D2T, D2F, D3T, D3F, E1T, E1F, E2T, E2F, E3T, E3F, G1T, G1F, G2T, G2F, G3F, inb_T, inb_L, isB_0, isB_1, isB_b, nI_add, L_add1, L_add2, nI_cl, L_cl, bI_T, bI_F, eq_self, not_true_eq_false, not_false_eq_true, h3, h4.1, e3, ↓bind_of e]
        · cases z; rfl
      · rw [if_neg q2]
        refine ⟨(nI (tkV c n p), wr s 2 6 (nI 2)), ?_, h.fail (by omega) (by omega), fun y z => ?_, ⟨fun b z => wr_a z, by dsimp only; rw [wr_k (by omega)]⟩⟩
        · have e : f_X6_fail 2 s = some (wr s 2 6 (nI 2)) := X_fail_0 h3
          unfold f_X6_takeNumber
          by_cases q3 : lo ≤ tkV c n p
          · have q4 : ¬ tkV c n p ≤ hi := fun z => q2 ⟨q3, z⟩
            simp (disch := omega) only [↓lt_eq, ↓reduceIte, ↓un1, ↓un2, ↓un3, ↓un4, ↓bd_some, ↓bind_some', ↓sel_l, ↓sel_r, C1T, C1F, C2T, C2F, C3T, C3F, D1T, D1F, D2T, D2F, D3T, D3F, E1T, E1F, E2T, E2F, E3T, E3F, G1T, G1F, G2T, G2F, G3F, inb_T, inb_L, isB_0, isB_1, isB_b, nI_add, L_add1, L_add2, nI_cl, L_cl, bI_T, bI_F, eq_self, not_true_eq_false, not_false_eq_true, h3, h4.1, e3, ↓bind_of e]
          · simp (disch := omega) only [↓lt_eq, ↓reduceIte, ↓un1, ↓un2, ↓un3, ↓un4, ↓bd_some, ↓bind_some', ↓sel_l, ↓sel_r, C1T, C1F, C2T, C2F, C3T, C3F, D1T, D1F, D2T, D2F, D3T, D3F, E1T, E1F, E2T, E2F, E3T, E3F, G1T, G1F, G2T, G2F, G3F, inb_T, inb_L, isB_0, isB_1, isB_b, nI_add, L_add1, L_add2, nI_cl, L_cl, bI_T, bI_F, eq_self, not_true_eq_false, not_false_eq_true, h3, h4.1, e3, ↓bind_of e]
        · cases z
    · rw [if_neg q]
      refine ⟨(s 2 3, wr s 2 6 (nI 1)), ?_, h.fail (by omega) (by omega), fun y z => ?_, ⟨fun b z => wr_a z, by dsimp only; rw [wr_k (by omega)]⟩⟩
      · have e : f_X6_fail 1 s = some (wr s 2 6 (nI 1)) := X_fail_0 h3
        unfold f_X6_takeNumber
        simp (disch := omega) only [↓lt_eq, ↓reduceIte, ↓un1, ↓un2, ↓un3, ↓un4, ↓bd_some, ↓bind_some', ↓sel_l, ↓sel_r, C1T, C1F, C2T, C2F, C3T, C3F, D1T, D1F, D2T, D2F, D3T, D3F, E1T, E1F, E2T, E2F, E3T, E3F, G1T, G1F, G2T, G2F, G3F, inb_T, inb_L, isB_0, isB_1, isB_b, nI_add, L_add1, L_add2, nI_cl, L_cl, bI_T, bI_F, eq_self, not_true_eq_false, not_false_eq_true, h3, h4.1, ↓bind_of e]
      · cases z
