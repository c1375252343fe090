/-! the class reads a house -/
def sortI (x : Int32) : Int32 := if x = 98 then 4 else if x = 99 then 5 else if x = 113 then 3 else if x = 115 then 2 else if x = 119 then 1 else 0
theorem X6_sortOf (x : Int32) (s : St) : f_X6_sortOf x s = some (sortI x, s) := by
  unfold f_X6_sortOf sortI
  repeat' split
  all_goals rfl
theorem sortI_n {t : Nat} (h : t ≤ 258) : sortI (nI t) = nI (sortN t) := by
  unfold sortI sortN
  by_cases a1 : t = 98
  · subst a1; rfl
  by_cases a2 : t = 99
  · subst a2; rfl
  by_cases a3 : t = 113
  · subst a3; rfl
  by_cases a4 : t = 115
  · subst a4; rfl
  by_cases a5 : t = 119
  · subst a5; rfl
  rw [if_neg a5, if_neg a4, if_neg a3, if_neg a1, if_neg a2]
  simp (disch := omega) only [↓lt_eq, ↓reduceIte, ↓un1, ↓un2, ↓un3, ↓un4, ↓bd_some, ↓bind_some', ↓sel_l, ↓sel_r, C1T, C1F, C2T, C2F, C3T, C3F, D1T, D1F, D2T, D2F, D3T, D3F, E1T, E1F, E2T, E2F, E3T, E3F, G1T, G1F, G2T, G2F, G3F, inb_T, inb_L, isB_0, isB_1, isB_b, nI_add, L_add1, L_add2, nI_cl, L_cl, bI_T, bI_F, eq_self, not_true_eq_false, not_false_eq_true, nI_0]
def CH (c : Nat → Nat) (n : Nat) (r : (Nat × Nat) ⊕ (Hs × Nat)) (s : St) : Prop := match r with
  | .inl e => CR c n (.inl e) s
  | .inr y => CR c n (.inr y.2) s ∧ HX 27 s y.1
def FrH (σ s : St) : Prop := (∀ b, b ≠ 2 → ¬ blk 27 b → s b = σ b) ∧ s 2 1 = σ 2 1
theorem FrH.rf {s : St} : FrH s s := ⟨fun _ _ _ => rfl, rfl⟩
theorem FrH.tr {s t u : St} (h1 : FrH s t) (h2 : FrH t u) : FrH s u := ⟨fun b q1 q2 => (h2.1 b q1 q2).trans (h1.1 b q1 q2), h2.2.trans h1.2⟩
theorem FrH.c {s t : St} (h : FrC s t) : FrH s t := ⟨fun b q _ => h.1 b q, h.2⟩
theorem FrH.b {s t : St} (h : Fr (blk 27) s t) : FrH s t := ⟨fun b _ q => h b q, by rw [h 2 (by unfold blk; omega)]⟩
theorem HX.fc {s t : St} {h : Hs} (hx : HX 27 s h) (hf : FrC s t) : HX 27 t h := hx.frame (fun b q => hf.1 b (by omega))
theorem CR.fb {c : Nat → Nat} {n : Nat} {r : (Nat × Nat) ⊕ Nat} {s t : St} (h : CR c n r s) (hf : Fr (blk 27) s t) : CR c n r t := by
  have e2 := hf 2 (by unfold blk; omega)
  have e3 := hf 3 (by unfold blk; omega)
  cases r with
  | inl e =>
    obtain ⟨a, b, d, g⟩ := h
    exact ⟨by rw [e2]; exact a, b, d, by rw [e2]; exact g⟩
  | inr p =>
    obtain ⟨a, b, d, g⟩ := h
    refine ⟨a, b.fr (by rw [e2]) e3, by rw [e2]; exact d, ?_⟩
    unfold Tok
    rw [e2]; exact g
theorem X_line_err {f : Nat} {s : St} (e : s 2 6 = nI f) (h0 : 0 < f) (h3 : f ≤ 3) : f_X6_readLine 27 s = some s := by
  have e1 := X6_sortOf (s 2 2) s
  have t1 := X_take_err (x := s 2 2) e h0 h3
  have t2 := X_num_err (x := 1) (y := 20) e h0 h3
  have t3 := X_take_err (x := 59) e h0 h3
  have t4 := X_fail_err (x := 3) e h0 h3
  have t5 := X_fail_err (x := 1) e h0 h3
  unfold f_X6_readLine
  by_cases a : sortI (s 2 2) = 0
  · simp (disch := omega) only [↓lt_eq, ↓reduceIte, ↓un1, ↓un2, ↓un3, ↓un4, ↓bd_some, ↓bind_some', ↓sel_l, ↓sel_r, C1T, C1F, C2T, C2F, C3T, C3F, D1T, D1F, D2T, D2F, D3T, D3F, E1T, E1F, E2T, E2F, E3T, E3F, G1T, G1F, G2T, G2F, G3F, inb_T, inb_L, isB_0, isB_1, isB_b, nI_add, L_add1, L_add2, nI_cl, L_cl, bI_T, bI_F, eq_self, not_true_eq_false, not_false_eq_true, ↓bd_of e1, a, ↓bind_of t1, ↓bd_of t2, ↓bind_of t3, ↓bind_of t5, e]
  · by_cases b : s 27 1 < 4
    · simp (disch := omega) only [↓lt_eq, ↓reduceIte, ↓un1, ↓un2, ↓un3, ↓un4, ↓bd_some, ↓bind_some', ↓sel_l, ↓sel_r, C1T, C1F, C2T, C2F, C3T, C3F, D1T, D1F, D2T, D2F, D3T, D3F, E1T, E1F, E2T, E2F, E3T, E3F, G1T, G1F, G2T, G2F, G3F, inb_T, inb_L, isB_0, isB_1, isB_b, nI_add, L_add1, L_add2, nI_cl, L_cl, bI_T, bI_F, eq_self, not_true_eq_false, not_false_eq_true, ↓bd_of e1, a, b, ↓bind_of t1, ↓bd_of t2, ↓bind_of t3, e]
    · simp (disch := omega) only [↓lt_eq, ↓reduceIte, ↓un1, ↓un2, ↓un3, ↓un4, ↓bd_some, ↓bind_some', ↓sel_l, ↓sel_r, C1T, C1F, C2T, C2F, C3T, C3F, D1T, D1F, D2T, D2F, D3T, D3F, E1T, E1F, E2T, E2F, E3T, E3F, G1T, G1F, G2T, G2F, G3F, inb_T, inb_L, isB_0, isB_1, isB_b, nI_add, L_add1, L_add2, nI_cl, L_cl, bI_T, bI_F, eq_self, not_true_eq_false, not_false_eq_true, ↓bd_of e1, a, b, ↓bind_of t1, ↓bd_of t2, ↓bind_of t3, ↓bind_of t4, e]
theorem X_thing_err {f : Nat} {s : St} (e : s 2 6 = nI f) (h0 : 0 < f) (h3 : f ≤ 3) : f_X6_readThing 27 s = some s := by
  have t1 := X_take_err (x := 116) e h0 h3
  have t2 := X_num_err (x := 0) (y := s 27 1 - 1) e h0 h3
  have t3 := X_take_err (x := 44) e h0 h3
  have t4 := X_num_err (x := 1) (y := 20) e h0 h3
  have t5 := X_num_err (x := 0) (y := 1) e h0 h3
  have t6 := X_take_err (x := 59) e h0 h3
  have t7 := X_fail_err (x := 3) e h0 h3
  unfold f_X6_readThing
  by_cases a : s 2 2 = 116
  · by_cases b : s 27 2 < 6
    · simp (disch := omega) only [↓lt_eq, ↓reduceIte, ↓un1, ↓un2, ↓un3, ↓un4, ↓bd_some, ↓bind_some', ↓sel_l, ↓sel_r, C1T, C1F, C2T, C2F, C3T, C3F, D1T, D1F, D2T, D2F, D3T, D3F, E1T, E1F, E2T, E2F, E3T, E3F, G1T, G1F, G2T, G2F, G3F, inb_T, inb_L, isB_0, isB_1, isB_b, nI_add, L_add1, L_add2, nI_cl, L_cl, bI_T, bI_F, eq_self, not_true_eq_false, not_false_eq_true, a, b, ↓bind_of t1, ↓bd_of t2, ↓bind_of t3, ↓bd_of t4, ↓bd_of t5, ↓bind_of t6, e]
    · simp (disch := omega) only [↓lt_eq, ↓reduceIte, ↓un1, ↓un2, ↓un3, ↓un4, ↓bd_some, ↓bind_some', ↓sel_l, ↓sel_r, C1T, C1F, C2T, C2F, C3T, C3F, D1T, D1F, D2T, D2F, D3T, D3F, E1T, E1F, E2T, E2F, E3T, E3F, G1T, G1F, G2T, G2F, G3F, inb_T, inb_L, isB_0, isB_1, isB_b, nI_add, L_add1, L_add2, nI_cl, L_cl, bI_T, bI_F, eq_self, not_true_eq_false, not_false_eq_true, a, b, ↓bind_of t1, ↓bd_of t2, ↓bind_of t3, ↓bd_of t4, ↓bd_of t5, ↓bind_of t6, ↓bind_of t7, e]
  · simp (disch := omega) only [↓lt_eq, ↓reduceIte, ↓un1, ↓un2, ↓un3, ↓un4, ↓bd_some, ↓bind_some', ↓sel_l, ↓sel_r, C1T, C1F, C2T, C2F, C3T, C3F, D1T, D1F, D2T, D2F, D3T, D3F, E1T, E1F, E2T, E2F, E3T, E3F, G1T, G1F, G2T, G2F, G3F, inb_T, inb_L, isB_0, isB_1, isB_b, nI_add, L_add1, L_add2, nI_cl, L_cl, bI_T, bI_F, eq_self, not_true_eq_false, not_false_eq_true, a, ↓bind_of t1, ↓bd_of t2, ↓bind_of t3, ↓bd_of t4, ↓bd_of t5, ↓bind_of t6, e]
theorem X_readLine {c : Nat → Nat} {n p : Nat} {h : Hs} {s : St} (hc : CR c n (.inr p) s) (hx : HX 27 s h) (hp : PH h) : Ok (f_X6_readLine 27 s) (fun t => CH c n (lineStep c n h p) t ∧ FrH s t) := by
  obtain ⟨g1, g2, g3, g4⟩ := id hc
  have hle := tkC_le (p := p) g2
  have hL4 := hp.1.1
  have e1 := X6_sortOf (s 2 2) s
  rw [g4.1, sortI_n hle] at e1
  have hs5 := sortN_le (tkC c n p)
  have f1 : s 27 1 = nI (hL h) := hx.1
  unfold lineStep
  by_cases a : sortN (tkC c n p) = 0
  · rw [if_pos a]
    have t5 : f_X6_fail 1 s = some (wr s 2 6 (nI 1)) := X_fail_0 g3
    have hc1 := hc.fail (f := 1) (by omega) (by omega)
    have w2 : wr s 2 6 (nI 1) 2 2 = nI (tkC c n p) := by rw [wr_k (by omega)]; exact g4.1
    have t1 := X_take_err (x := nI (tkC c n p)) hc1.1 (by omega) (by omega)
    have t2 := X_num_err (x := 1) (y := 20) hc1.1 (by omega) (by omega)
    have t3 := X_take_err (x := 59) hc1.1 (by omega) (by omega)
    refine ⟨wr s 2 6 (nI 1), ?_, hc1, ⟨fun b q _ => wr_a q, wr_k (by omega)⟩⟩
    unfold f_X6_readLine
    simp (disch := omega) only [↓lt_eq, ↓reduceIte, ↓un1, ↓un2, ↓un3, ↓un4, ↓bd_some, ↓bind_some', ↓sel_l, ↓sel_r, C1T, C1F, C2T, C2F, C3T, C3F, D1T, D1F, D2T, D2F, D3T, D3F, E1T, E1F, E2T, E2F, E3T, E3F, G1T, G1F, G2T, G2F, G3F, inb_T, inb_L, isB_0, isB_1, isB_b, nI_add, L_add1, L_add2, nI_cl, L_cl, bI_T, bI_F, eq_self, not_true_eq_false, not_false_eq_true, g4.1, ↓bd_of e1, a, ↓bind_of t5, w2, ↓bind_of t1, ↓bd_of t2, ↓bind_of t3, hc1.1]
  · rw [if_neg a]
    by_cases b : hL h = 4
    · rw [if_pos b]
      have t5 : f_X6_fail 3 s = some (wr s 2 6 (nI 3)) := X_fail_0 g3
      have hc1 := hc.fail (f := 3) (by omega) (by omega)
      have w2 : wr s 2 6 (nI 3) 2 2 = nI (tkC c n p) := by rw [wr_k (by omega)]; exact g4.1
      have t1 := X_take_err (x := nI (tkC c n p)) hc1.1 (by omega) (by omega)
      have t2 := X_num_err (x := 1) (y := 20) hc1.1 (by omega) (by omega)
      have t3 := X_take_err (x := 59) hc1.1 (by omega) (by omega)
      refine ⟨wr s 2 6 (nI 3), ?_, hc1, ⟨fun b q _ => wr_a q, wr_k (by omega)⟩⟩
      unfold f_X6_readLine
      simp (disch := omega) only [↓lt_eq, ↓reduceIte, ↓un1, ↓un2, ↓un3, ↓un4, ↓bd_some, ↓bind_some', ↓sel_l, ↓sel_r, C1T, C1F, C2T, C2F, C3T, C3F, D1T, D1F, D2T, D2F, D3T, D3F, E1T, E1F, E2T, E2F, E3T, E3F, G1T, G1F, G2T, G2F, G3F, inb_T, inb_L, isB_0, isB_1, isB_b, nI_add, L_add1, L_add2, nI_cl, L_cl, bI_T, bI_F, eq_self, not_true_eq_false, not_false_eq_true, g4.1, ↓bd_of e1, f1, ↓bind_of t5, w2, ↓bind_of t1, ↓bd_of t2, ↓bind_of t3, hc1.1]
    · rw [if_neg b]
      have hlt : tkC c n p ≤ 257 := by
        rcases Nat.lt_or_ge (tkC c n p) 258 with z | z
        · omega
        · exfalso
          have : tkC c n p = 258 := by omega
          rw [this] at a
          exact a rfl
      obtain ⟨s1, t1, k1, k2⟩ := X_take (w := tkC c n p) hc hlt
      have hk1 : CR c n (.inr (tkE c n p)) s1 := by
        have : sb (.inr p) (takeA c n (tkC c n p)) = .inr (tkE c n p) := if_pos rfl
        rw [this] at k1; exact k1
      obtain ⟨⟨v, s2⟩, t2, k3, k4, k5⟩ := X_num (lo := 1) (hi := 20) hk1 (by omega) (by omega)
      simp only at k3 k4 k5
      have t2 : f_X6_takeNumber 1 20 s1 = some (v, s2) := t2
      obtain ⟨s3, t3, k6, k7⟩ := X_take (w := 59) k3 (by omega)
      have t3 : f_X6_take 59 s2 = some s3 := t3
      have hx3 := ((hx.fc k2).fc k5).fc k7
      have fr3 := ((FrH.c k2).tr (FrH.c k5)).tr (FrH.c k7)
      cases hy : numA c n 1 20 (tkE c n p) with
      | inl e =>
        have hla : lineA c n p = .inl e := by unfold lineA; rw [hy]; rfl
        have hk6 : CR c n (.inl e) s3 := by
          have : sb (sb (sb (.inr (tkE c n p)) (numA c n 1 20)) (fun y => .inr y.2)) (takeA c n 59) = .inl e := by
            show sb (sb (numA c n 1 20 (tkE c n p)) _) _ = _
            rw [hy]; rfl
          rw [this] at k6; exact k6
        rw [hla]
        refine ⟨s3, ?_, hk6, fr3⟩
        obtain ⟨z1, z2, z3, z4⟩ := hk6
        unfold f_X6_readLine
        simp (disch := omega) only [↓lt_eq, ↓reduceIte, ↓un1, ↓un2, ↓un3, ↓un4, ↓bd_some, ↓bind_some', ↓sel_l, ↓sel_r, C1T, C1F, C2T, C2F, C3T, C3F, D1T, D1F, D2T, D2F, D3T, D3F, E1T, E1F, E2T, E2F, E3T, E3F, G1T, G1F, G2T, G2F, G3F, inb_T, inb_L, isB_0, isB_1, isB_b, nI_add, L_add1, L_add2, nI_cl, L_cl, bI_T, bI_F, eq_self, not_true_eq_false, not_false_eq_true, g4.1, ↓bd_of e1, f1, ↓bind_of t1, ↓bd_of t2, ↓bind_of t3, z1]
      | inr y =>
        have hv : v = nI y.1 := k4 y hy
        subst hv
        have hk6 : CR c n (takeA c n 59 y.2) s3 := by
          have : sb (sb (sb (.inr (tkE c n p)) (numA c n 1 20)) (fun y => .inr y.2)) (takeA c n 59) = takeA c n 59 y.2 := by
            show sb (sb (numA c n 1 20 (tkE c n p)) _) _ = _
            rw [hy]; rfl
          rw [this] at k6; exact k6
        cases hq : takeA c n 59 y.2 with
        | inl e =>
          have hla : lineA c n p = .inl e := by unfold lineA; rw [hy]; show sb (takeA c n 59 y.2) _ = _; rw [hq]; rfl
          rw [hq] at hk6
          rw [hla]
          refine ⟨s3, ?_, hk6, fr3⟩
          obtain ⟨z1, z2, z3, z4⟩ := hk6
          unfold f_X6_readLine
          simp (disch := omega) only [↓lt_eq, ↓reduceIte, ↓un1, ↓un2, ↓un3, ↓un4, ↓bd_some, ↓bind_some', ↓sel_l, ↓sel_r, C1T, C1F, C2T, C2F, C3T, C3F, D1T, D1F, D2T, D2F, D3T, D3F, E1T, E1F, E2T, E2F, E3T, E3F, G1T, G1F, G2T, G2F, G3F, inb_T, inb_L, isB_0, isB_1, isB_b, nI_add, L_add1, L_add2, nI_cl, L_cl, bI_T, bI_F, eq_self, not_true_eq_false, not_false_eq_true, g4.1, ↓bd_of e1, f1, ↓bind_of t1, ↓bd_of t2, ↓bind_of t3, z1]
        | inr q =>
          have hla : lineA c n p = .inr (y.1, q) := by unfold lineA; rw [hy]; show sb (takeA c n 59 y.2) _ = _; rw [hq]; rfl
          rw [hq] at hk6
          rw [hla]
          obtain ⟨s4, t4, k8, k9⟩ := X_addLine hx3 (by omega) (sortN (tkC c n p)) y.1
          refine ⟨s4, ?_, ⟨hk6.fb k9, k8⟩, fr3.tr (FrH.b k9)⟩
          have z1 : s3 2 6 = 0 := hk6.2.2.1
          unfold f_X6_readLine
          simp (disch := omega) only [↓lt_eq, ↓reduceIte, ↓un1, ↓un2, ↓un3, ↓un4, ↓bd_some, ↓bind_some', ↓sel_l, ↓sel_r, C1T, C1F, C2T, C2F, C3T, C3F, D1T, D1F, D2T, D2F, D3T, D3F, E1T, E1F, E2T, E2F, E3T, E3F, G1T, G1F, G2T, G2F, G3F, inb_T, inb_L, isB_0, isB_1, isB_b, nI_add, L_add1, L_add2, nI_cl, L_cl, bI_T, bI_F, eq_self, not_true_eq_false, not_false_eq_true, g4.1, ↓bd_of e1, f1, ↓bind_of t1, ↓bd_of t2, ↓bind_of t3, z1, ↓bind_of t4]
