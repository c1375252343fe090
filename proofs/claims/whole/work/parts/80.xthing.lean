/-! the class reads things, and a whole house -/
def tY1 (c : Nat → Nat) (n L : Nat) (r : (Nat × Nat) ⊕ Nat) : (Nat × Nat) ⊕ (Nat × Nat) := sb r (numA c n 0 (L - 1))
def tR3 (c : Nat → Nat) (n L : Nat) (r : (Nat × Nat) ⊕ Nat) : (Nat × Nat) ⊕ Nat := sb (sb (tY1 c n L r) fun y => .inr y.2) (takeA c n 44)
def tY2 (c : Nat → Nat) (n L : Nat) (r : (Nat × Nat) ⊕ Nat) : (Nat × Nat) ⊕ (Nat × Nat) := sb (tR3 c n L r) (numA c n 1 20)
def tR5 (c : Nat → Nat) (n L : Nat) (r : (Nat × Nat) ⊕ Nat) : (Nat × Nat) ⊕ Nat := sb (sb (tY2 c n L r) fun y => .inr y.2) (takeA c n 44)
def tY3 (c : Nat → Nat) (n L : Nat) (r : (Nat × Nat) ⊕ Nat) : (Nat × Nat) ⊕ (Nat × Nat) := sb (tR5 c n L r) (numA c n 0 1)
def tR7 (c : Nat → Nat) (n L : Nat) (r : (Nat × Nat) ⊕ Nat) : (Nat × Nat) ⊕ Nat := sb (sb (tY3 c n L r) fun y => .inr y.2) (takeA c n 59)
theorem tR7_inl (c : Nat → Nat) (n L : Nat) (e : Nat × Nat) : tR7 c n L (.inl e) = .inl e := rfl
theorem thing_chain (c : Nat → Nat) (n L p : Nat) : (∃ e, tR7 c n L (.inr (tkE c n p)) = .inl e ∧ thingA c n L p = .inl e) ∨ ∃ a b d q, tY1 c n L (.inr (tkE c n p)) = .inr a ∧ tY2 c n L (.inr (tkE c n p)) = .inr b ∧ tY3 c n L (.inr (tkE c n p)) = .inr d ∧ tR7 c n L (.inr (tkE c n p)) = .inr q ∧ thingA c n L p = .inr (a.1, b.1, d.1, q) := by
  cases h1 : numA c n 0 (L - 1) (tkE c n p) with
  | inl e =>
    have y1 : tY1 c n L (.inr (tkE c n p)) = .inl e := h1
    left
    refine ⟨e, ?_, ?_⟩
    · unfold tR7 tY3 tR5 tY2 tR3; rw [y1]; rfl
    · unfold thingA; rw [h1]; rfl
  | inr a =>
    have y1 : tY1 c n L (.inr (tkE c n p)) = .inr a := h1
    cases h2 : takeA c n 44 a.2 with
    | inl e =>
      have r3 : tR3 c n L (.inr (tkE c n p)) = .inl e := by unfold tR3; rw [y1]; exact h2
      left
      refine ⟨e, ?_, ?_⟩
      · unfold tR7 tY3 tR5 tY2; rw [r3]; rfl
      · unfold thingA; rw [h1]; show sb (takeA c n 44 a.2) _ = _; rw [h2]; rfl
    | inr p2 =>
      have r3 : tR3 c n L (.inr (tkE c n p)) = .inr p2 := by unfold tR3; rw [y1]; exact h2
      cases h3 : numA c n 1 20 p2 with
      | inl e =>
        have y2 : tY2 c n L (.inr (tkE c n p)) = .inl e := by unfold tY2; rw [r3]; exact h3
        left
        refine ⟨e, ?_, ?_⟩
        · unfold tR7 tY3 tR5; rw [y2]; rfl
        · unfold thingA; rw [h1]; show sb (takeA c n 44 a.2) _ = _; rw [h2]; show sb (numA c n 1 20 p2) _ = _; rw [h3]; rfl
      | inr b =>
        have y2 : tY2 c n L (.inr (tkE c n p)) = .inr b := by unfold tY2; rw [r3]; exact h3
        cases h4 : takeA c n 44 b.2 with
        | inl e =>
          have r5 : tR5 c n L (.inr (tkE c n p)) = .inl e := by unfold tR5; rw [y2]; exact h4
          left
          refine ⟨e, ?_, ?_⟩
          · unfold tR7 tY3; rw [r5]; rfl
          · unfold thingA; rw [h1]; show sb (takeA c n 44 a.2) _ = _; rw [h2]; show sb (numA c n 1 20 p2) _ = _; rw [h3]; show sb (takeA c n 44 b.2) _ = _; rw [h4]; rfl
        | inr p3 =>
          have r5 : tR5 c n L (.inr (tkE c n p)) = .inr p3 := by unfold tR5; rw [y2]; exact h4
          cases h5 : numA c n 0 1 p3 with
          | inl e =>
            have y3 : tY3 c n L (.inr (tkE c n p)) = .inl e := by unfold tY3; rw [r5]; exact h5
            left
            refine ⟨e, ?_, ?_⟩
            · unfold tR7; rw [y3]; rfl
            · unfold thingA; rw [h1]; show sb (takeA c n 44 a.2) _ = _; rw [h2]; show sb (numA c n 1 20 p2) _ = _; rw [h3]; show sb (takeA c n 44 b.2) _ = _; rw [h4]; show sb (numA c n 0 1 p3) _ = _; rw [h5]; rfl
          | inr d =>
            have y3 : tY3 c n L (.inr (tkE c n p)) = .inr d := by unfold tY3; rw [r5]; exact h5
            cases h6 : takeA c n 59 d.2 with
            | inl e =>
              left
              refine ⟨e, ?_, ?_⟩
              · unfold tR7; rw [y3]; exact h6
              · unfold thingA; rw [h1]; show sb (takeA c n 44 a.2) _ = _; rw [h2]; show sb (numA c n 1 20 p2) _ = _; rw [h3]; show sb (takeA c n 44 b.2) _ = _; rw [h4]; show sb (numA c n 0 1 p3) _ = _; rw [h5]; show sb (takeA c n 59 d.2) _ = _; rw [h6]; rfl
            | inr q =>
              right
              refine ⟨a, b, d, q, y1, y2, y3, ?_, ?_⟩
              · unfold tR7; rw [y3]; exact h6
              · unfold thingA; rw [h1]; show sb (takeA c n 44 a.2) _ = _; rw [h2]; show sb (numA c n 1 20 p2) _ = _; rw [h3]; show sb (takeA c n 44 b.2) _ = _; rw [h4]; show sb (numA c n 0 1 p3) _ = _; rw [h5]; show sb (takeA c n 59 d.2) _ = _; rw [h6]; rfl
theorem X_readThing {c : Nat → Nat} {n p : Nat} {h : Hs} {s : St} (hc : CR c n (.inr p) s) (hx : HX 27 s h) (hp : PH h) (hL0 : 0 < hL h) : Ok (f_X6_readThing 27 s) (fun t => CH c n (thingStep c n h p) t ∧ FrH s t) := by
  obtain ⟨g1, g2, g3, g4⟩ := id hc
  have hle := tkC_le (p := p) g2
  have hL4 := hp.1.1
  have hN6 := hp.1.2.1
  have f1 : s 27 1 = nI (hL h) := hx.1
  have f2 : s 27 2 = nI (hN h) := hx.2.1
  unfold thingStep
  by_cases b : tkC c n p = 116 ∧ hN h = 6
  · rw [if_pos b.1, if_pos b.2]
    have t0 : f_X6_fail 3 s = some (wr s 2 6 (nI 3)) := X_fail_0 g3
    have hc1 := hc.fail (f := 3) (by omega) (by omega)
    have w2 : wr s 2 6 (nI 3) 27 1 = nI (hL h) := by rw [wr_a (by omega)]; exact f1
    have t1 := X_take_err (x := 116) hc1.1 (by omega) (by omega)
    have t2 := X_num_err (x := 0) (y := nI (hL h - 1)) hc1.1 (by omega) (by omega)
    have t3 := X_take_err (x := 44) hc1.1 (by omega) (by omega)
    have t4 := X_num_err (x := 1) (y := 20) hc1.1 (by omega) (by omega)
    have t5 := X_num_err (x := 0) (y := 1) hc1.1 (by omega) (by omega)
    have t6 := X_take_err (x := 59) hc1.1 (by omega) (by omega)
    refine ⟨wr s 2 6 (nI 3), ?_, hc1, ⟨fun b q _ => wr_a q, wr_k (by omega)⟩⟩
    unfold f_X6_readThing
    simp (disch := omega) only [↓lt_eq, ↓reduceIte, ↓un1, ↓un2, ↓un3, ↓un4, ↓bd_some, ↓bind_some', ↓sel_l, ↓sel_r, C1T, C1F, C2T, C2F, C3T, C3F, D1T, D1F, D2T, D2F, D3T, D3F, E1T, E1F, E2T, E2F, E3T, E3F, G1T, G1F, G2T, G2F, G3F, inb_T, inb_L, isB_0, isB_1, isB_b, nI_add, L_add1, L_add2, nI_cl, L_cl, bI_T, bI_F, eq_self, not_true_eq_false, not_false_eq_true, g4.1, f2, ↓bind_of t0, ↓bind_of t1, w2, L_sub2, ↓bd_of t2, ↓bind_of t3, ↓bd_of t4, ↓bd_of t5, ↓bind_of t6, hc1.1]
  · obtain ⟨s1, t1, k1, l1⟩ := X_take (w := 116) hc (by omega)
    have t1 : f_X6_take 116 s = some s1 := t1
    have hx1 := hx.fc l1
    obtain ⟨⟨v1, s2⟩, t2, k2, m2, l2⟩ := X_num (lo := 0) (hi := hL h - 1) k1 (by omega) (by omega)
    simp only at k2 m2 l2
    have t2 : f_X6_takeNumber 0 (nI (hL h - 1)) s1 = some (v1, s2) := t2
    obtain ⟨s3, t3, k3, l3⟩ := X_take (w := 44) k2 (by omega)
    have t3 : f_X6_take 44 s2 = some s3 := t3
    obtain ⟨⟨v2, s4⟩, t4, k4, m4, l4⟩ := X_num (lo := 1) (hi := 20) k3 (by omega) (by omega)
    simp only at k4 m4 l4
    have t4 : f_X6_takeNumber 1 20 s3 = some (v2, s4) := t4
    obtain ⟨s5, t5, k5, l5⟩ := X_take (w := 44) k4 (by omega)
    have t5 : f_X6_take 44 s4 = some s5 := t5
    obtain ⟨⟨v3, s6⟩, t6, k6, m6, l6⟩ := X_num (lo := 0) (hi := 1) k5 (by omega) (by omega)
    simp only at k6 m6 l6
    have t6 : f_X6_takeNumber 0 1 s5 = some (v3, s6) := t6
    obtain ⟨s7, t7, k7, l7⟩ := X_take (w := 59) k6 (by omega)
    have t7 : f_X6_take 59 s6 = some s7 := t7
    have hx7 := (((((hx1.fc l2).fc l3).fc l4).fc l5).fc l6).fc l7
    have fr7 : FrH s s7 := (FrH.c l1).tr ((FrH.c l2).tr ((FrH.c l3).tr ((FrH.c l4).tr ((FrH.c l5).tr ((FrH.c l6).tr (FrH.c l7))))))
    have w1 : s1 27 1 = nI (hL h) := hx1.1
    by_cases a : tkC c n p = 116
    · have b6 : ¬ hN h = 6 := fun z => b ⟨a, z⟩
      rw [if_pos a, if_neg b6]
      have hr : sb (.inr p) (takeA c n 116) = .inr (tkE c n p) := if_pos a
      rw [hr] at k7 m2 m4 m6
      rcases thing_chain c n (hL h) p with ⟨e, q1, q2⟩ | ⟨y1, y2, y3, q, q1, q2, q3, q4, q5⟩
      · have hk : CR c n (.inl e) s7 := by rw [← q1]; exact k7
        rw [q2]
        refine ⟨s7, ?_, hk, fr7⟩
        obtain ⟨z1, z2, z3, z4⟩ := hk
        unfold f_X6_readThing
        simp (disch := omega) only [↓lt_eq, ↓reduceIte, ↓un1, ↓un2, ↓un3, ↓un4, ↓bd_some, ↓bind_some', ↓sel_l, ↓sel_r, C1T, C1F, C2T, C2F, C3T, C3F, D1T, D1F, D2T, D2F, D3T, D3F, E1T, E1F, E2T, E2F, E3T, E3F, G1T, G1F, G2T, G2F, G3F, inb_T, inb_L, isB_0, isB_1, isB_b, nI_add, L_add1, L_add2, nI_cl, L_cl, bI_T, bI_F, eq_self, not_true_eq_false, not_false_eq_true, g4.1, f2, ↓bind_of t1, w1, L_sub2, ↓bd_of t2, ↓bind_of t3, ↓bd_of t4, ↓bind_of t5, ↓bd_of t6, ↓bind_of t7, z1]
      · have hk : CR c n (.inr q) s7 := by rw [← q4]; exact k7
        have e1 : v1 = nI y1.1 := m2 y1 q1
        have e2 : v2 = nI y2.1 := m4 y2 q2
        have e3 : v3 = nI y3.1 := m6 y3 q3
        subst e1 e2 e3
        have ho : y3.1 ≤ 1 := by
          unfold tY3 at q3
          obtain ⟨u, u1, u2⟩ := sb_ok q3
          exact (numA_ok u2).2.1
        obtain ⟨s8, t8, k8, k9⟩ := X_addThing hx7 (by omega) hp.1.2.2.2.2.2.1 y1.1 y2.1 y3.1 ho
        rw [q5]
        refine ⟨s8, ?_, ⟨hk.fb k9, k8⟩, fr7.tr (FrH.b k9)⟩
        have z1 : s7 2 6 = 0 := hk.2.2.1
        unfold f_X6_readThing
        simp (disch := omega) only [↓lt_eq, ↓reduceIte, ↓un1, ↓un2, ↓un3, ↓un4, ↓bd_some, ↓bind_some', ↓sel_l, ↓sel_r, C1T, C1F, C2T, C2F, C3T, C3F, D1T, D1F, D2T, D2F, D3T, D3F, E1T, E1F, E2T, E2F, E3T, E3F, G1T, G1F, G2T, G2F, G3F, inb_T, inb_L, isB_0, isB_1, isB_b, nI_add, L_add1, L_add2, nI_cl, L_cl, bI_T, bI_F, eq_self, not_true_eq_false, not_false_eq_true, g4.1, f2, ↓bind_of t1, w1, L_sub2, ↓bd_of t2, ↓bind_of t3, ↓bd_of t4, ↓bind_of t5, ↓bd_of t6, ↓bind_of t7, z1, ↓bind_of t8]
    · rw [if_neg a]
      have hr : sb (.inr p) (takeA c n 116) = .inl (1, p) := if_neg a
      rw [hr] at k7
      have hk : CR c n (.inl (1, p)) s7 := k7
      refine ⟨s7, ?_, hk, fr7⟩
      obtain ⟨z1, z2, z3, z4⟩ := hk
      unfold f_X6_readThing
      simp (disch := omega) only [↓lt_eq, ↓reduceIte, ↓un1, ↓un2, ↓un3, ↓un4, ↓bd_some, ↓bind_some', ↓sel_l, ↓sel_r, C1T, C1F, C2T, C2F, C3T, C3F, D1T, D1F, D2T, D2F, D3T, D3F, E1T, E1F, E2T, E2F, E3T, E3F, G1T, G1F, G2T, G2F, G3F, inb_T, inb_L, isB_0, isB_1, isB_b, nI_add, L_add1, L_add2, nI_cl, L_cl, bI_T, bI_F, eq_self, not_true_eq_false, not_false_eq_true, g4.1, ↓bind_of t1, w1, L_sub2, ↓bd_of t2, ↓bind_of t3, ↓bd_of t4, ↓bind_of t5, ↓bd_of t6, ↓bind_of t7, z1]
theorem X_clear {s : St} : ∃ t, f_X3_clear 27 s = some t ∧ HX 27 t (h00 0) ∧ Fr (blk 27) s t := by
  refine ⟨_, rfl, ⟨?_, ?_, ?_, ?_, ?_, ?_, ?_, fun l hl => absurd hl (Nat.not_lt_zero l), fun t ht => absurd ht (Nat.not_lt_zero t)⟩, ?_⟩
  · rw [wr_k (by omega), wr_k (by omega), wr_k (by omega), wr_k (by omega), wr_k (by omega), wr_k (by omega), wr_same]; rfl
  · rw [wr_k (by omega), wr_k (by omega), wr_k (by omega), wr_k (by omega), wr_k (by omega), wr_same]; rfl
  · rw [wr_k (by omega), wr_k (by omega), wr_k (by omega), wr_k (by omega), wr_same]; rfl
  · rw [wr_k (by omega), wr_k (by omega), wr_k (by omega), wr_same]; rfl
  · rw [wr_k (by omega), wr_k (by omega), wr_same]; rfl
  · rw [wr_k (by omega), wr_same]; rfl
  · rw [wr_same]; rfl
  · intro b hb
    have hb : b ≠ 27 := by unfold blk at hb; omega
    rw [wr_a hb, wr_a hb, wr_a hb, wr_a hb, wr_a hb, wr_a hb, wr_a hb]
theorem lawA_le {c : Nat → Nat} {n : Nat} {y : Nat × Nat} (h : lawA c n = .inr y) : y.1 ≤ 60 := by
  unfold lawA at h
  obtain ⟨a, _, h⟩ := sb_ok h
  obtain ⟨b, q, h⟩ := sb_ok h
  obtain ⟨d, _, h⟩ := sb_ok h
  cases h
  exact (numA_ok q).2.1
theorem X_readLaw {c : Nat → Nat} {n : Nat} {s : St} (hc : CR c n (.inr 0) s) (hx : HX 27 s (h00 0)) : Ok (f_X6_readLaw 27 s) (fun t => CH c n (sb (lawA c n) fun y => .inr (h00 y.1, y.2)) t ∧ FrH s t) := by
  obtain ⟨s1, t1, k1, l1⟩ := X_take (w := 109) hc (by omega)
  have t1 : f_X6_take 109 s = some s1 := t1
  obtain ⟨⟨v, s2⟩, t2, k2, m2, l2⟩ := X_num (lo := 1) (hi := 60) k1 (by omega) (by omega)
  simp only at k2 m2 l2
  have t2 : f_X6_takeNumber 1 60 s1 = some (v, s2) := t2
  have fr3 : Fr (blk 27) s2 (wr s2 27 3 v) := Fr.w1 (by unfold blk; omega)
  obtain ⟨s4, t4, k4, l4⟩ := X_take (w := 59) (k2.fb fr3) (by omega)
  have t4 : f_X6_take 59 (wr s2 27 3 v) = some s4 := t4
  refine ⟨s4, ?_, ?_, ((FrH.c l1).tr (FrH.c l2)).tr ((FrH.b fr3).tr (FrH.c l4))⟩
  · unfold f_X6_readLaw
    simp (disch := omega) only [↓lt_eq, ↓reduceIte, ↓un1, ↓un2, ↓un3, ↓un4, ↓bd_some, ↓bind_some', ↓sel_l, ↓sel_r, C1T, C1F, C2T, C2F, C3T, C3F, D1T, D1F, D2T, D2F, D3T, D3F, E1T, E1F, E2T, E2F, E3T, E3F, G1T, G1F, G2T, G2F, G3F, inb_T, inb_L, isB_0, isB_1, isB_b, nI_add, L_add1, L_add2, nI_cl, L_cl, bI_T, bI_F, eq_self, not_true_eq_false, not_false_eq_true, ↓bind_of t1, ↓bd_of t2, ↓bind_of t4]
  · unfold lawA
    have k1' : sb (.inr 0) (takeA c n 109) = takeA c n 109 0 := rfl
    rw [k1'] at k4 m2
    cases h1 : takeA c n 109 0 with
    | inl e => rw [h1] at k4; exact k4
    | inr p =>
      rw [h1] at k4 m2
      have z : sb (.inr p) (numA c n 1 60) = numA c n 1 60 p := rfl
      rw [z] at k4 m2
      show CH c n (sb (sb (numA c n 1 60 p) _) _) s4
      cases h2 : numA c n 1 60 p with
      | inl e => rw [h2] at k4; exact k4
      | inr y =>
        rw [h2] at k4 m2
        have hv : v = nI y.1 := m2 y rfl
        subst hv
        have k4 : CR c n (takeA c n 59 y.2) s4 := k4
        show CH c n (sb (sb (takeA c n 59 y.2) _) _) s4
        cases h3 : takeA c n 59 y.2 with
        | inl e => rw [h3] at k4; exact k4
        | inr q =>
          rw [h3] at k4
          refine ⟨k4, ?_⟩
          exact (((hx.fc l1).fc l2).setMain y.1).fc l4
