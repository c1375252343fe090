/-! the reference's tokens -/
theorem byte_and : ∀ k, k < 256 → (nI k).toInt8.toInt32 &&& (255 : Int32) = nI k := by decide +kernel
def TapeM (c : Nat → Nat) (n : Nat) (s : St) : Prop := n ≤ 90 ∧ s 259 9 = nI n ∧ ∀ i, i < n → c i < 256 ∧ s 267 i = (nI (c i)).toInt8.toInt32
theorem TapeM.fr {c : Nat → Nat} {n : Nat} {s t : St} (h : TapeM c n s) (h1 : t 259 9 = s 259 9) (h3 : t 267 = s 267) : TapeM c n t := ⟨h.1, h1.trans h.2.1, fun i hi => by rw [h3]; exact h.2.2 i hi⟩
def byI (c : Nat → Nat) (n p : Nat) : Int32 := if p < n then nI (c p) else -1
theorem M_byteAt {c : Nat → Nat} {n p : Nat} {s : St} (h : TapeM c n s) (hp : p < 2147483648) : f_X12_byteAt (nI p) s = some (byI c n p, s) := by
  obtain ⟨h1, h2, h3⟩ := h
  unfold f_X12_byteAt byI
  by_cases a : p < n
  · obtain ⟨b1, b2⟩ := h3 p a
    have e := byte_and _ b1
    rw [if_pos a]
    simp (disch := omega) only [↓lt_eq, ↓reduceIte, ↓un1, ↓un2, ↓un3, ↓un4, ↓bd_some, ↓bind_some', ↓sel_l, ↓sel_r, C1T, C1F, C2T, C2F, C3T, C3F, D1T, D1F, D2T, D2F, D3T, D3F, E1T, E1F, E2T, E2F, E3T, E3F, G1T, G1F, G2T, G2F, G3F, inb_T, inb_L, isB_0, isB_1, isB_b, nI_add, L_add1, L_add2, nI_cl, L_cl, bI_T, bI_F, eq_self, not_true_eq_false, not_false_eq_true, h2, b2, e]
  · rw [if_neg a]
    simp (disch := omega) only [↓lt_eq, ↓reduceIte, ↓un1, ↓un2, ↓un3, ↓un4, ↓bd_some, ↓bind_some', ↓sel_l, ↓sel_r, C1T, C1F, C2T, C2F, C3T, C3F, D1T, D1F, D2T, D2F, D3T, D3F, E1T, E1F, E2T, E2F, E3T, E3F, G1T, G1F, G2T, G2F, G3F, inb_T, inb_L, isB_0, isB_1, isB_b, nI_add, L_add1, L_add2, nI_cl, L_cl, bI_T, bI_F, eq_self, not_true_eq_false, not_false_eq_true, h2]
theorem M_isD {c : Nat → Nat} {n p : Nat} {s : St} (h : TapeM c n s) : f_X12_in (byI c n p).toInt64 48 57 s = some (bI (isD c n p), s) := by
  unfold byI isD
  by_cases a : p < n
  · have b1 := (h.2.2 p a).1
    rw [if_pos a, decide_eq_true a, Bool.true_and]
    by_cases q : 48 ≤ c p ∧ c p ≤ 57
    · rw [M_inn (a := 48) (b := 57) (by decide) (by decide) q.1 q.2 (by decide), decide_eq_true q.1, decide_eq_true q.2]; rfl
    · have hq : (decide (48 ≤ c p) && decide (c p ≤ 57)) = false := by simp; omega
      rw [hq]
      refine (M_out (lo := 48) (hi := 57) (by decide) (by decide) ?_).trans rfl
      by_cases z : c p < 48
      · exact Or.inl (nI_lt (b := 48) z (by omega))
      · exact Or.inr ⟨nI_nlt (b := 48) (by omega) (by omega), nI_lt (a := 57) (by omega) (by omega)⟩
  · rw [if_neg a, decide_eq_false a, Bool.false_and]
    exact (M_out (lo := 48) (hi := 57) (by decide) (by decide) (Or.inl (by decide))).trans rfl
def rc (t : Nat) : Nat := if t = 256 then 1 else if t = 257 then 3 else if t = 258 then 2 else t
def FrR (s t : St) : Prop := (∀ b, b ≠ 259 → t b = s b) ∧ ∀ k, k ≠ 11 → k ≠ 12 → k ≠ 13 → t 259 k = s 259 k
theorem FrR.rf {s : St} : FrR s s := ⟨fun _ _ => rfl, fun _ _ _ _ => rfl⟩
theorem FrR.tr {s t u : St} (h1 : FrR s t) (h2 : FrR t u) : FrR s u := ⟨fun b q => (h2.1 b q).trans (h1.1 b q), fun k q1 q2 q3 => (h2.2 k q1 q2 q3).trans (h1.2 k q1 q2 q3)⟩
theorem FrR.tape {c : Nat → Nat} {n : Nat} {s t : St} (h : FrR s t) (ht : TapeM c n s) : TapeM c n t := ht.fr (h.2 9 (by omega) (by omega) (by omega)) (h.1 267 (by omega))
def numJ (c : Nat → Nat) (p j : Nat) : Nat := if j = 0 then 0 else if j = 1 then c p - 48 else (c p - 48) * 10 + (c (p + 1) - 48)
theorem M_run {c : Nat → Nat} {n p : Nat} {s : St} (h : TapeM c n s) (hp : p < n) (e11 : s 259 11 = nI p) (e13 : s 259 13 = 0) : Ok (loopF f_X12_token_L44 5000 ((0 : Int32), s)) (fun v => ∃ r, v.1 = nI r ∧ r ≤ 91 ∧ (∀ i, i < r → isD c n (p + i) = true) ∧ isD c n (p + r) = false ∧ v.2 259 11 = nI (p + r) ∧ v.2 259 13 = nI (numJ c p r) ∧ v.2 259 12 = s 259 12 ∧ FrR s v.2) := by
  have hn := h.1
  refine loop_find (fun j (x : Int32 × St) => x.1 = nI j ∧ x.2 259 11 = nI (p + j) ∧ x.2 259 13 = nI (numJ c p j) ∧ x.2 259 12 = s 259 12 ∧ FrR s x.2) (fun j => !isD c n (p + j)) 0 91 _ 5000 _ (by omega) ⟨rfl, e11, e13, rfl, FrR.rf⟩ ?_ ?_
  · rintro j ⟨v, t⟩ _ hj ⟨q0, q1, q2, q3, q4⟩
    simp only at q0 q1 q2 q3 q4
    subst q0
    have ht := q4.tape h
    have e1 := M_byteAt (p := p + j) ht (by omega)
    have e2 := M_isD (p := p + j) ht
    refine ⟨fun hd => ?_, fun hd hb => ?_⟩
    · have hd : isD c n (p + j) = true := by simpa using hd
      rw [hd] at e2
      obtain ⟨z1, z2, z3⟩ := isD_t hd
      have ey : byI c n (p + j) = nI (c (p + j)) := if_pos z1
      rw [ey] at e1 e2
      refine ⟨(nI (j + 1), wr (wr t 259 13 (nI (numJ c p (j + 1)))) 259 11 (nI (p + (j + 1)))), ?_, rfl, by dsimp only; rw [wr_same], ?_, ?_, ?_⟩
      · have ea : p + j + 1 = p + (j + 1) := by omega
        have w11 : wr t 259 13 (nI (numJ c p (j + 1))) 259 11 = nI (p + j) := by rw [wr_k (by omega)]; exact q1
        unfold f_X12_token_L44
        by_cases c2 : 2 ≤ j
        · have en : numJ c p j = numJ c p (j + 1) := by
            unfold numJ
            rw [if_neg (by omega), if_neg (by omega), if_neg (by omega), if_neg (by omega)]
          rw [en] at q2
          simp (disch := omega) only [↓lt_eq, ↓reduceIte, ↓un1, ↓un2, ↓un3, ↓un4, ↓bd_some, ↓bind_some', ↓sel_l, ↓sel_r, C1T, C1F, C2T, C2F, C3T, C3F, D1T, D1F, D2T, D2F, D3T, D3F, E1T, E1F, E2T, E2F, E3T, E3F, G1T, G1F, G2T, G2F, G3F, inb_T, inb_L, isB_0, isB_1, isB_b, nI_add, L_add1, L_add2, nI_cl, L_cl, bI_T, bI_F, eq_self, not_true_eq_false, not_false_eq_true, q1, ↓bd_of e1, ↓bd_of e2, q2, w11, ea]
        · have en : 10 * numJ c p j + c (p + j) - 48 = numJ c p (j + 1) := by
            rcases (show j = 0 ∨ j = 1 by omega) with rfl | rfl
            · show 10 * 0 + c p - 48 = c p - 48
              omega
            · show 10 * (c p - 48) + c (p + 1) - 48 = (c p - 48) * 10 + (c (p + 1) - 48)
              have z2 : 48 ≤ c (p + 1) := z2
              omega
          have hsub : nI (10 * numJ c p j + c (p + j)) - 48 = nI (numJ c p (j + 1)) := by
            rw [← en]; exact nI_sub (b := 48) (by omega)
          simp (disch := omega) only [↓lt_eq, ↓reduceIte, ↓un1, ↓un2, ↓un3, ↓un4, ↓bd_some, ↓bind_some', ↓sel_l, ↓sel_r, C1T, C1F, C2T, C2F, C3T, C3F, D1T, D1F, D2T, D2F, D3T, D3F, E1T, E1F, E2T, E2F, E3T, E3F, G1T, G1F, G2T, G2F, G3F, inb_T, inb_L, isB_0, isB_1, isB_b, nI_add, L_add1, L_add2, nI_cl, L_cl, bI_T, bI_F, eq_self, not_true_eq_false, not_false_eq_true, q1, ↓bd_of e1, ↓bd_of e2, q2, L_mul1, hsub, w11, ea]
      · dsimp only
        rw [wr_k (by omega), wr_same]
      · dsimp only
        rw [wr_k (by omega), wr_k (by omega)]; exact q3
      · exact q4.tr ⟨fun b z => by dsimp only; rw [wr_a z, wr_a z], fun k z1 z2 z3 => by dsimp only; rw [wr_k z1, wr_k z3]⟩
    · have hd : isD c n (p + j) = false := by simpa using hd
      rw [hd] at e2
      refine ⟨(nI j, t), ?_, j, rfl, by omega, fun i hi => by simpa using hb i (by omega) hi, hd, q1, q2, q3, q4⟩
      unfold f_X12_token_L44
      simp (disch := omega) only [↓lt_eq, ↓reduceIte, ↓un1, ↓un2, ↓un3, ↓un4, ↓bd_some, ↓bind_some', ↓sel_l, ↓sel_r, C1T, C1F, C2T, C2F, C3T, C3F, D1T, D1F, D2T, D2F, D3T, D3F, E1T, E1F, E2T, E2F, E3T, E3F, G1T, G1F, G2T, G2F, G3F, inb_T, inb_L, isB_0, isB_1, isB_b, nI_add, L_add1, L_add2, nI_cl, L_cl, bI_T, bI_F, eq_self, not_true_eq_false, not_false_eq_true, q1, ↓bd_of e1, ↓bd_of e2]
  · rintro ⟨v, t⟩ _ hb
    exfalso
    have : isD c n (p + 90) = true := by simpa using hb 90 (by omega) (by omega)
    have := isD_t this
    omega
theorem M_token {c : Nat → Nat} {n p : Nat} {s : St} (h : TapeM c n s) (hp : p ≤ n) (e11 : s 259 11 = nI p) : Ok (f_X12_token s) (fun v => v.1 = nI (rc (tkC c n p)) ∧ v.2 259 12 = nI p ∧ (tkC c n p ≠ 258 → v.2 259 11 = nI (tkE c n p)) ∧ (tkC c n p = 256 → v.2 259 13 = nI (tkV c n p)) ∧ FrR s v.2) := by
  have hn := h.1
  generalize hs1 : wr s 259 12 (nI p) = s1
  have fr1 : FrR s s1 := ⟨fun b z => by rw [← hs1, wr_a z], fun k _ z _ => by rw [← hs1, wr_k z]⟩
  have y12 : s1 259 12 = nI p := by rw [← hs1, wr_same]
  have y11 : s1 259 11 = nI p := by rw [← hs1, wr_k (by omega)]; exact e11
  have ht1 := fr1.tape h
  have e1 := M_byteAt (p := p) ht1 (by omega)
  by_cases a : p < n
  · have b1 := (h.2.2 p a).1
    have e2 := M_isD (p := p) ht1
    have ey : byI c n p = nI (c p) := if_pos a
    rw [ey] at e1 e2
    cases hd : isD c n p with
    | true =>
      rw [hd] at e2
      obtain ⟨⟨v, t⟩, e3, r, r1, r2, r3, r4, r5, r6, r7, r8⟩ := M_run (p := p) (s := wr s1 259 13 0) (ht1.fr (wr_k (by omega)) (wr_a (by omega))) a (by rw [wr_k (by omega)]; exact y11) (wr_same _ _ _ _)
      simp only at r1 r2 r3 r4 r5 r6 r7 r8
      subst r1
      have fr2 : FrR s t := fr1.tr (FrR.tr ⟨fun b z => wr_a z, fun k _ _ z => wr_k z⟩ r8)
      have p12 : t 259 12 = nI p := by rw [r7, wr_k (by omega)]; exact y12
      have hr0 : 0 < r := by
        rcases Nat.eq_zero_or_pos r with z | z
        · rw [z, Nat.add_zero, hd] at r4; cases r4
        · exact z
      by_cases r2' : r ≤ 2
      · have hC : tkC c n p = 256 := by
          unfold tkC
          rw [if_neg (by omega), hd, if_pos rfl]
          rcases (show r = 1 ∨ r = 2 by omega) with rfl | rfl
          · rw [r4]; rfl
          · rw [r4, Bool.and_false]; rfl
        have hE : tkE c n p = p + r := by
          unfold tkE
          rw [if_neg (by omega), hd, Bool.true_and]
          rcases (show r = 1 ∨ r = 2 by omega) with rfl | rfl
          · rw [r4]; rfl
          · rw [r3 1 (by omega)]; rfl
        have hV : numJ c p r = tkV c n p := by
          unfold tkV
          rcases (show r = 1 ∨ r = 2 by omega) with rfl | rfl
          · rw [r4]; rfl
          · rw [r3 1 (by omega)]; rfl
        refine ⟨(1, t), ?_, by rw [hC]; rfl, p12, fun _ => by rw [hE]; exact r5, fun _ => by rw [← hV]; exact r6, fr2⟩
        unfold f_X12_token
        simp (disch := omega) only [↓lt_eq, ↓reduceIte, ↓un1, ↓un2, ↓un3, ↓un4, ↓bd_some, ↓bind_some', ↓sel_l, ↓sel_r, C1T, C1F, C2T, C2F, C3T, C3F, D1T, D1F, D2T, D2F, D3T, D3F, E1T, E1F, E2T, E2F, E3T, E3F, G1T, G1F, G2T, G2F, G3F, inb_T, inb_L, isB_0, isB_1, isB_b, nI_add, L_add1, L_add2, nI_cl, L_cl, bI_T, bI_F, eq_self, not_true_eq_false, not_false_eq_true, e11, hs1, y11, ↓bd_of e1, ↓bd_of e2, ↓bind_of e3]
      · have hC : tkC c n p = 258 := by
          unfold tkC
          rw [if_neg (by omega), hd, r3 1 (by omega), r3 2 (by omega)]; rfl
        refine ⟨(2, t), ?_, by rw [hC]; rfl, p12, fun z => absurd hC z, fun z => by rw [hC] at z; exact absurd z (by decide), fr2⟩
        unfold f_X12_token
        simp (disch := omega) only [↓lt_eq, ↓reduceIte, ↓un1, ↓un2, ↓un3, ↓un4, ↓bd_some, ↓bind_some', ↓sel_l, ↓sel_r, C1T, C1F, C2T, C2F, C3T, C3F, D1T, D1F, D2T, D2F, D3T, D3F, E1T, E1F, E2T, E2F, E3T, E3F, G1T, G1F, G2T, G2F, G3F, inb_T, inb_L, isB_0, isB_1, isB_b, nI_add, L_add1, L_add2, nI_cl, L_cl, bI_T, bI_F, eq_self, not_true_eq_false, not_false_eq_true, e11, hs1, y11, ↓bd_of e1, ↓bd_of e2, ↓bind_of e3]
    | false =>
      rw [hd] at e2
      have hE : tkE c n p = p + 1 := by unfold tkE; rw [if_neg (by omega), hd]; rfl
      generalize hs2 : wr s1 259 11 (nI (p + 1)) = s2
      have fr2 : FrR s s2 := fr1.tr ⟨fun b z => by rw [← hs2, wr_a z], fun k z _ _ => by rw [← hs2, wr_k z]⟩
      have x12 : s2 259 12 = nI p := by rw [← hs2, wr_k (by omega)]; exact y12
      have x11 : s2 259 11 = nI (p + 1) := by rw [← hs2, wr_same]
      have hdf := isD_f hd a
      by_cases q : (97 ≤ c p ∧ c p ≤ 122) ∨ c p = 44 ∨ c p = 59
      · have hC : tkC c n p = c p := by unfold tkC; rw [if_neg (by omega), hd, if_neg (by decide), if_pos q]
        have hrc : rc (c p) = c p := by unfold rc; rw [if_neg (by omega), if_neg (by omega), if_neg (by omega)]
        refine ⟨(nI (c p), s2), ?_, by rw [hC, hrc], x12, fun _ => by rw [hE]; exact x11, fun z => by rw [hC] at z; omega, fr2⟩
        unfold f_X12_token
        by_cases q1 : 97 ≤ c p ∧ c p ≤ 122
        · have e4 : f_X12_in (nI (c p)).toInt64 97 122 s2 = some (1, s2) := M_inn (a := 97) (b := 122) (by decide) (by decide) q1.1 q1.2 (by decide)
          simp (disch := omega) only [↓lt_eq, ↓reduceIte, ↓un1, ↓un2, ↓un3, ↓un4, ↓bd_some, ↓bind_some', ↓sel_l, ↓sel_r, C1T, C1F, C2T, C2F, C3T, C3F, D1T, D1F, D2T, D2F, D3T, D3F, E1T, E1F, E2T, E2F, E3T, E3F, G1T, G1F, G2T, G2F, G3F, inb_T, inb_L, isB_0, isB_1, isB_b, nI_add, L_add1, L_add2, nI_cl, L_cl, bI_T, bI_F, eq_self, not_true_eq_false, not_false_eq_true, e11, hs1, y11, ↓bd_of e1, ↓bd_of e2, hs2, ↓bd_of e4]
        · have e4 : f_X12_in (nI (c p)).toInt64 97 122 s2 = some (0, s2) := by
            refine M_out (lo := 97) (hi := 122) (by decide) (by decide) ?_
            by_cases z : c p < 97
            · exact Or.inl (nI_lt (b := 97) z (by omega))
            · exact Or.inr ⟨nI_nlt (b := 97) (by omega) (by omega), nI_lt (a := 122) (by omega) (by omega)⟩
          by_cases q3 : c p = 44
          · simp (disch := omega) only [↓lt_eq, ↓reduceIte, ↓un1, ↓un2, ↓un3, ↓un4, ↓bd_some, ↓bind_some', ↓sel_l, ↓sel_r, C1T, C1F, C2T, C2F, C3T, C3F, D1T, D1F, D2T, D2F, D3T, D3F, E1T, E1F, E2T, E2F, E3T, E3F, G1T, G1F, G2T, G2F, G3F, inb_T, inb_L, isB_0, isB_1, isB_b, nI_add, L_add1, L_add2, nI_cl, L_cl, bI_T, bI_F, eq_self, not_true_eq_false, not_false_eq_true, e11, hs1, y11, ↓bd_of e1, ↓bd_of e2, hs2, ↓bd_of e4]
          · have q4 : c p = 59 := by omega
            simp (disch := omega) only [↓lt_eq, ↓reduceIte, ↓un1, ↓un2, ↓un3, ↓un4, ↓bd_some, ↓bind_some', ↓sel_l, ↓sel_r, C1T, C1F, C2T, C2F, C3T, C3F, D1T, D1F, D2T, D2F, D3T, D3F, E1T, E1F, E2T, E2F, E3T, E3F, G1T, G1F, G2T, G2F, G3F, inb_T, inb_L, isB_0, isB_1, isB_b, nI_add, L_add1, L_add2, nI_cl, L_cl, bI_T, bI_F, eq_self, not_true_eq_false, not_false_eq_true, e11, hs1, y11, ↓bd_of e1, ↓bd_of e2, hs2, ↓bd_of e4]
      · have hC : tkC c n p = 258 := by unfold tkC; rw [if_neg (by omega), hd, if_neg (by decide), if_neg q]
        refine ⟨(2, s2), ?_, by rw [hC]; rfl, x12, fun z => absurd hC z, fun z => by rw [hC] at z; exact absurd z (by decide), fr2⟩
        have e4 : f_X12_in (nI (c p)).toInt64 97 122 s2 = some (0, s2) := by
          refine M_out (lo := 97) (hi := 122) (by decide) (by decide) ?_
          by_cases z : c p < 97
          · exact Or.inl (nI_lt (b := 97) z (by omega))
          · exact Or.inr ⟨nI_nlt (b := 97) (by omega) (by omega), nI_lt (a := 122) (by omega) (by omega)⟩
        unfold f_X12_token
        simp (disch := omega) only [↓lt_eq, ↓reduceIte, ↓un1, ↓un2, ↓un3, ↓un4, ↓bd_some, ↓bind_some', ↓sel_l, ↓sel_r, C1T, C1F, C2T, C2F, C3T, C3F, D1T, D1F, D2T, D2F, D3T, D3F, E1T, E1F, E2T, E2F, E3T, E3F, G1T, G1F, G2T, G2F, G3F, inb_T, inb_L, isB_0, isB_1, isB_b, nI_add, L_add1, L_add2, nI_cl, L_cl, bI_T, bI_F, eq_self, not_true_eq_false, not_false_eq_true, e11, hs1, y11, ↓bd_of e1, ↓bd_of e2, hs2, ↓bd_of e4]
  · have ey : byI c n p = -1 := if_neg a
    rw [ey] at e1
    have hC : tkC c n p = 257 := by unfold tkC; rw [if_pos (by omega)]
    have hE : tkE c n p = p := by unfold tkE; rw [if_pos (by omega)]
    refine ⟨(3, s1), ?_, by rw [hC]; rfl, y12, fun _ => by rw [hE]; exact y11, fun z => by rw [hC] at z; exact absurd z (by decide), fr1⟩
    unfold f_X12_token
    simp (disch := omega) only [↓lt_eq, ↓reduceIte, ↓un1, ↓un2, ↓un3, ↓un4, ↓bd_some, ↓bind_some', ↓sel_l, ↓sel_r, C1T, C1F, C2T, C2F, C3T, C3F, D1T, D1F, D2T, D2F, D3T, D3F, E1T, E1F, E2T, E2F, E3T, E3F, G1T, G1F, G2T, G2F, G3F, inb_T, inb_L, isB_0, isB_1, isB_b, nI_add, L_add1, L_add2, nI_cl, L_cl, bI_T, bI_F, eq_self, not_true_eq_false, not_false_eq_true, e11, hs1, y11, ↓bd_of e1, m1_neg]
/-- the reference stands ahead of a token, or has a fault -/
def RR (c : Nat → Nat) (n : Nat) (r : (Nat × Nat) ⊕ Nat) (s : St) : Prop := match r with
  | .inl e => s 259 14 = nI e.1 ∧ 0 < e.1 ∧ e.1 ≤ 3 ∧ s 259 12 = nI e.2
  | .inr p => p ≤ n ∧ TapeM c n s ∧ s 259 14 = 0 ∧ s 259 11 = nI p
def FrW (s t : St) : Prop := (∀ b, b ≠ 259 → t b = s b) ∧ ∀ k, k ≠ 11 → k ≠ 12 → k ≠ 13 → k ≠ 14 → t 259 k = s 259 k
theorem FrW.rf {s : St} : FrW s s := ⟨fun _ _ => rfl, fun _ _ _ _ _ => rfl⟩
theorem FrW.tr {s t u : St} (h1 : FrW s t) (h2 : FrW t u) : FrW s u := ⟨fun b q => (h2.1 b q).trans (h1.1 b q), fun k q1 q2 q3 q4 => (h2.2 k q1 q2 q3 q4).trans (h1.2 k q1 q2 q3 q4)⟩
theorem FrW.of {s t : St} (h : FrR s t) : FrW s t := ⟨h.1, fun k q1 q2 q3 _ => h.2 k q1 q2 q3⟩
theorem FrW.w {s : St} {v : Int32} : FrW s (wr s 259 14 v) := ⟨fun b z => wr_a z, fun k _ _ _ z => wr_k z⟩
theorem FrW.tape {c : Nat → Nat} {n : Nat} {s t : St} (h : FrW s t) (ht : TapeM c n s) : TapeM c n t := ht.fr (h.2 9 (by omega) (by omega) (by omega) (by omega)) (h.1 267 (by omega))
theorem rc_eq {t w : Nat} (h1 : 3 < w) (h2 : w < 256) : rc t = w ↔ t = w := by
  unfold rc
  split
  · omega
  · split
    · omega
    · split <;> omega
theorem tkC_leM {c : Nat → Nat} {n p : Nat} {s : St} (h : TapeM c n s) : tkC c n p ≤ 258 := by
  unfold tkC
  split
  · omega
  · split
    · split <;> omega
    · split
      · have := (h.2.2 p (by omega)).1; omega
      · omega
theorem rc_le {t : Nat} (h : t ≤ 258) : rc t ≤ 258 := by
  unfold rc
  split
  · omega
  · split
    · omega
    · split <;> omega
theorem M_sign {c : Nat → Nat} {n w : Nat} {r : (Nat × Nat) ⊕ Nat} {s : St} (h : RR c n r s) (h1 : 3 < w) (h2 : w < 256) : Ok (f_X12_sign (nI w) s) (fun t => RR c n (sb r (takeA c n w)) t ∧ FrW s t) := by
  cases r with
  | inl e =>
    obtain ⟨q1, q2, q3, q4⟩ := id h
    refine ⟨s, ?_, h, FrW.rf⟩
    unfold f_X12_sign
    simp (disch := omega) only [↓lt_eq, ↓reduceIte, ↓un1, ↓un2, ↓un3, ↓un4, ↓bd_some, ↓bind_some', ↓sel_l, ↓sel_r, C1T, C1F, C2T, C2F, C3T, C3F, D1T, D1F, D2T, D2F, D3T, D3F, E1T, E1F, E2T, E2F, E3T, E3F, G1T, G1F, G2T, G2F, G3F, inb_T, inb_L, isB_0, isB_1, isB_b, nI_add, L_add1, L_add2, nI_cl, L_cl, bI_T, bI_F, eq_self, not_true_eq_false, not_false_eq_true, q1]
  | inr p =>
    obtain ⟨g1, g2, g3, g4⟩ := id h
    have hle := rc_le (tkC_leM (p := p) g2)
    obtain ⟨⟨v, t⟩, e, k1, k2, k3, k4, k5⟩ := M_token g2 g1 g4
    simp only at k1 k2 k3 k4 k5
    subst k1
    show Ok (f_X12_sign (nI w) s) (fun t => RR c n (takeA c n w p) t ∧ FrW s t)
    unfold takeA
    by_cases q : tkC c n p = w
    · rw [if_pos q]
      have q' : rc (tkC c n p) = w := (rc_eq h1 h2).mpr q
      refine ⟨wr t 259 14 0, ?_, ⟨tkE_le g1, (FrW.w).tape (k5.tape g2), wr_same _ _ _ _, by rw [wr_k (by omega)]; exact k3 (by omega)⟩, (FrW.of k5).tr FrW.w⟩
      unfold f_X12_sign
      simp (disch := omega) only [↓lt_eq, ↓reduceIte, ↓un1, ↓un2, ↓un3, ↓un4, ↓bd_some, ↓bind_some', ↓sel_l, ↓sel_r, C1T, C1F, C2T, C2F, C3T, C3F, D1T, D1F, D2T, D2F, D3T, D3F, E1T, E1F, E2T, E2F, E3T, E3F, G1T, G1F, G2T, G2F, G3F, inb_T, inb_L, isB_0, isB_1, isB_b, nI_add, L_add1, L_add2, nI_cl, L_cl, bI_T, bI_F, eq_self, not_true_eq_false, not_false_eq_true, g3, ↓bd_of e]
    · rw [if_neg q]
      have q' : ¬ rc (tkC c n p) = w := fun z => q ((rc_eq h1 h2).mp z)
      refine ⟨wr t 259 14 (nI 1), ?_, ⟨wr_same _ _ _ _, by omega, by omega, by rw [wr_k (by omega)]; exact k2⟩, (FrW.of k5).tr FrW.w⟩
      unfold f_X12_sign
      simp (disch := omega) only [↓lt_eq, ↓reduceIte, ↓un1, ↓un2, ↓un3, ↓un4, ↓bd_some, ↓bind_some', ↓sel_l, ↓sel_r, C1T, C1F, C2T, C2F, C3T, C3F, D1T, D1F, D2T, D2F, D3T, D3F, E1T, E1F, E2T, E2F, E3T, E3F, G1T, G1F, G2T, G2F, G3F, inb_T, inb_L, isB_0, isB_1, isB_b, nI_add, L_add1, L_add2, nI_cl, L_cl, bI_T, bI_F, eq_self, not_true_eq_false, not_false_eq_true, g3, ↓bd_of e]
      rfl
theorem M_wants {c : Nat → Nat} {n lo hi : Nat} {r : (Nat × Nat) ⊕ Nat} {s : St} (h : RR c n r s) (hlo : lo < 1000) (hhi : hi < 1000) : Ok (f_X12_wants (nI lo) (nI hi) s) (fun v => RR c n (sb (sb r (numA c n lo hi)) (fun y => .inr y.2)) v.2 ∧ (∀ y, sb r (numA c n lo hi) = .inr y → v.1 = nI y.1) ∧ FrW s v.2) := by
  cases r with
  | inl e =>
    obtain ⟨q1, q2, q3, q4⟩ := id h
    refine ⟨(0, s), ?_, h, (fun y q => by cases q), FrW.rf⟩
    unfold f_X12_wants
    simp (disch := omega) only [↓lt_eq, ↓reduceIte, ↓un1, ↓un2, ↓un3, ↓un4, ↓bd_some, ↓bind_some', ↓sel_l, ↓sel_r, C1T, C1F, C2T, C2F, C3T, C3F, D1T, D1F, D2T, D2F, D3T, D3F, E1T, E1F, E2T, E2F, E3T, E3F, G1T, G1F, G2T, G2F, G3F, inb_T, inb_L, isB_0, isB_1, isB_b, nI_add, L_add1, L_add2, nI_cl, L_cl, bI_T, bI_F, eq_self, not_true_eq_false, not_false_eq_true, q1]
  | inr p =>
    obtain ⟨g1, g2, g3, g4⟩ := id h
    have hle := rc_le (tkC_leM (p := p) g2)
    obtain ⟨⟨v, t⟩, e, k1, k2, k3, k4, k5⟩ := M_token g2 g1 g4
    simp only at k1 k2 k3 k4 k5
    subst k1
    have g3' : s 259 14 = nI 0 := g3
    show Ok (f_X12_wants (nI lo) (nI hi) s) (fun v : Int32 × St => RR c n (sb (numA c n lo hi p) (fun y => .inr y.2)) v.2 ∧ (∀ y, numA c n lo hi p = .inr y → v.1 = nI y.1) ∧ FrW s v.2)
    unfold numA
    by_cases q : tkC c n p = 256
    · have hv := tkV_le q
      have e13 := k4 q
      have hrc : rc (tkC c n p) = 1 := by rw [q]; rfl
      rw [hrc] at e
      rw [if_pos q]
      by_cases q2 : lo ≤ tkV c n p ∧ tkV c n p ≤ hi
      · rw [if_pos q2]
        have e4 : f_X12_in (nI (tkV c n p)).toInt64 (nI lo).toInt64 (nI hi).toInt64 t = some (1, t) := M_inn (a := lo) (b := hi) rfl rfl q2.1 q2.2 (by omega)
        have w13 : wr t 259 14 0 259 13 = nI (tkV c n p) := by rw [wr_k (by omega)]; exact e13
        refine ⟨(nI (tkV c n p), wr t 259 14 0), ?_, ⟨tkE_le g1, (FrW.w).tape (k5.tape g2), by dsimp only; rw [wr_same], ?_⟩, fun y z => ?_, (FrW.of k5).tr FrW.w⟩
        · unfold f_X12_wants
          simp (disch := omega) only [↓lt_eq, ↓reduceIte, ↓un1, ↓un2, ↓un3, ↓un4, ↓bd_some, ↓bind_some', ↓sel_l, ↓sel_r, C1T, C1F, C2T, C2F, C3T, C3F, D1T, D1F, D2T, D2F, D3T, D3F, E1T, E1F, E2T, E2F, E3T, E3F, G1T, G1F, G2T, G2F, G3F, inb_T, inb_L, isB_0, isB_1, isB_b, nI_add, L_add1, L_add2, nI_cl, L_cl, bI_T, bI_F, eq_self, not_true_eq_false, not_false_eq_true, g3', ↓bd_of e, e13, ↓bd_of e4, wr_same, w13]
        · dsimp only
          rw [wr_k (by omega)]; exact k3 (by omega)
        · cases z; rfl
      · rw [if_neg q2]
        have e4 : f_X12_in (nI (tkV c n p)).toInt64 (nI lo).toInt64 (nI hi).toInt64 t = some (0, t) := by
          refine M_out rfl rfl ?_
          by_cases z : tkV c n p < lo
          · exact Or.inl (nI_lt z (by omega))
          · exact Or.inr ⟨nI_nlt (by omega) (by omega), nI_lt (by omega) (by omega)⟩
        refine ⟨(0, wr t 259 14 (nI 2)), ?_, ⟨by dsimp only; rw [wr_same], by omega, by omega, ?_⟩, fun y z => ?_, (FrW.of k5).tr FrW.w⟩
        · have e2 : wr t 259 14 (2 : Int32) = wr t 259 14 (nI 2) := rfl
          unfold f_X12_wants
          simp (disch := omega) only [↓lt_eq, ↓reduceIte, ↓un1, ↓un2, ↓un3, ↓un4, ↓bd_some, ↓bind_some', ↓sel_l, ↓sel_r, C1T, C1F, C2T, C2F, C3T, C3F, D1T, D1F, D2T, D2F, D3T, D3F, E1T, E1F, E2T, E2F, E3T, E3F, G1T, G1F, G2T, G2F, G3F, inb_T, inb_L, isB_0, isB_1, isB_b, nI_add, L_add1, L_add2, nI_cl, L_cl, bI_T, bI_F, eq_self, not_true_eq_false, not_false_eq_true, g3', ↓bd_of e, e13, ↓bd_of e4, wr_same, e2]
        · dsimp only
          rw [wr_k (by omega)]; exact k2
        · cases z
    · rw [if_neg q]
      have hrc : ¬ rc (tkC c n p) = 1 := by
        have hle2 := tkC_leM (p := p) g2
        have hne1 : tkC c n p ≠ 1 := by
          unfold tkC
          split
          · decide
          · split
            · split <;> decide
            · split
              · omega
              · decide
        unfold rc
        split
        · omega
        · split
          · decide
          · split
            · decide
            · exact hne1
      refine ⟨(0, wr t 259 14 (nI 1)), ?_, ⟨by dsimp only; rw [wr_same], by omega, by omega, ?_⟩, fun y z => ?_, (FrW.of k5).tr FrW.w⟩
      · have e2 : wr t 259 14 (1 : Int32) = wr t 259 14 (nI 1) := rfl
        unfold f_X12_wants
        simp (disch := omega) only [↓lt_eq, ↓reduceIte, ↓un1, ↓un2, ↓un3, ↓un4, ↓bd_some, ↓bind_some', ↓sel_l, ↓sel_r, C1T, C1F, C2T, C2F, C3T, C3F, D1T, D1F, D2T, D2F, D3T, D3F, E1T, E1F, E2T, E2F, E3T, E3F, G1T, G1F, G2T, G2F, G3F, inb_T, inb_L, isB_0, isB_1, isB_b, nI_add, L_add1, L_add2, nI_cl, L_cl, bI_T, bI_F, eq_self, not_true_eq_false, not_false_eq_true, g3', ↓bd_of e, wr_same, e2]
      · dsimp only
        rw [wr_k (by omega)]; exact k2
      · cases z
