/-! the class reads a text -/
def PE (c : Nat → Nat) (n : Nat) (R : (Nat × Nat) ⊕ Hs) (s : St) : Prop := ∃ e, R = .inl e ∧ CR c n (.inl e) s
def PO (c : Nat → Nat) (n : Nat) (R : (Nat × Nat) ⊕ Hs) (s : St) (Q : Hs → Nat → Prop) : Prop := ∃ h p, R = runS c n h p ∧ CR c n (.inr p) s ∧ HX 27 s h ∧ PH h ∧ Q h p
theorem X_lines {c : Nat → Nat} {n : Nat} {R : (Nat × Nat) ⊕ Hs} {s : St} (h0 : PE c n R s ∨ PO c n R s (fun h _ => hN h = 0 ∧ hL h = 1)) : Ok (loopF (f_X6_readInto_L30 27) 5000 ((0 : Int32), s)) (fun t => (PE c n R t ∨ PO c n R t (fun h p => hN h = 0 ∧ 0 < hL h ∧ sortN (tkC c n p) = 0)) ∧ FrH s t) := by
  refine loop_inv (fun i (x : Int32 × St) => i ≤ 4 ∧ x.1 = nI i ∧ (PE c n R x.2 ∨ PO c n R x.2 (fun h _ => hN h = 0 ∧ hL h = 1 + i)) ∧ FrH s x.2) _ 4 5000 _ 0 (by omega) ⟨by omega, rfl, h0, FrH.rf⟩ ?_
  rintro i ⟨v, t⟩ _ ⟨hi, q0, q1, q2⟩
  simp only at q0 q1 q2
  subst q0
  have e1 := X6_sortOf (t 2 2) t
  by_cases c4 : 4 ≤ i
  · right
    refine ⟨t, ?_, ?_, q2⟩
    · unfold f_X6_readInto_L30
      simp (disch := omega) only [↓lt_eq, ↓reduceIte, ↓un1, ↓un2, ↓un3, ↓un4, ↓bd_some, ↓bind_some', ↓sel_l, ↓sel_r, C1T, C1F, C2T, C2F, C3T, C3F, D1T, D1F, D2T, D2F, D3T, D3F, E1T, E1F, E2T, E2F, E3T, E3F, G1T, G1F, G2T, G2F, G3F, inb_T, inb_L, isB_0, isB_1, isB_b, nI_add, L_add1, L_add2, nI_cl, L_cl, bI_T, bI_F, eq_self, not_true_eq_false, not_false_eq_true]
    · rcases q1 with q | ⟨h, p, a1, a2, a3, a4, a5, a6⟩
      · exact Or.inl q
      · have := a4.1.1; omega
  · rcases q1 with ⟨e, r1, r2⟩ | ⟨h, p, a1, a2, a3, a4, a5, a6⟩
    · by_cases z : sortI (t 2 2) = 0
      · right
        refine ⟨t, ?_, Or.inl ⟨e, r1, r2⟩, q2⟩
        unfold f_X6_readInto_L30
        simp (disch := omega) only [↓lt_eq, ↓reduceIte, ↓un1, ↓un2, ↓un3, ↓un4, ↓bd_some, ↓bind_some', ↓sel_l, ↓sel_r, C1T, C1F, C2T, C2F, C3T, C3F, D1T, D1F, D2T, D2F, D3T, D3F, E1T, E1F, E2T, E2F, E3T, E3F, G1T, G1F, G2T, G2F, G3F, inb_T, inb_L, isB_0, isB_1, isB_b, nI_add, L_add1, L_add2, nI_cl, L_cl, bI_T, bI_F, eq_self, not_true_eq_false, not_false_eq_true, ↓bd_of e1, z]
      · left
        have e2 := X_line_err r2.1 r2.2.1 r2.2.2.1
        refine ⟨(nI (i + 1), t), ?_, by omega, by omega, rfl, Or.inl ⟨e, r1, r2⟩, q2⟩
        unfold f_X6_readInto_L30
        simp (disch := omega) only [↓lt_eq, ↓reduceIte, ↓un1, ↓un2, ↓un3, ↓un4, ↓bd_some, ↓bind_some', ↓sel_l, ↓sel_r, C1T, C1F, C2T, C2F, C3T, C3F, D1T, D1F, D2T, D2F, D3T, D3F, E1T, E1F, E2T, E2F, E3T, E3F, G1T, G1F, G2T, G2F, G3F, inb_T, inb_L, isB_0, isB_1, isB_b, nI_add, L_add1, L_add2, nI_cl, L_cl, bI_T, bI_F, eq_self, not_true_eq_false, not_false_eq_true, ↓bd_of e1, z, ↓bind_of e2]
    · obtain ⟨g1, g2, g3, g4⟩ := id a2
      have hle := tkC_le (p := p) g2
      have hs5 := sortN_le (tkC c n p)
      rw [g4.1, sortI_n hle] at e1
      by_cases z : sortN (tkC c n p) = 0
      · right
        refine ⟨t, ?_, Or.inr ⟨h, p, a1, a2, a3, a4, a5, by omega, z⟩, q2⟩
        unfold f_X6_readInto_L30
        simp (disch := omega) only [↓lt_eq, ↓reduceIte, ↓un1, ↓un2, ↓un3, ↓un4, ↓bd_some, ↓bind_some', ↓sel_l, ↓sel_r, C1T, C1F, C2T, C2F, C3T, C3F, D1T, D1F, D2T, D2F, D3T, D3F, E1T, E1F, E2T, E2F, E3T, E3F, G1T, G1F, G2T, G2F, G3F, inb_T, inb_L, isB_0, isB_1, isB_b, nI_add, L_add1, L_add2, nI_cl, L_cl, bI_T, bI_F, eq_self, not_true_eq_false, not_false_eq_true, g4.1, ↓bd_of e1]
      · left
        obtain ⟨u, e2, k1, k2⟩ := X_readLine a2 a3 a4
        have hr := runS_line (c := c) (n := n) (p := p) a4 a5 (Or.inl (by omega))
        refine ⟨(nI (i + 1), u), ?_, by omega, by omega, rfl, ?_, q2.tr k2⟩
        · unfold f_X6_readInto_L30
          simp (disch := omega) only [↓lt_eq, ↓reduceIte, ↓un1, ↓un2, ↓un3, ↓un4, ↓bd_some, ↓bind_some', ↓sel_l, ↓sel_r, C1T, C1F, C2T, C2F, C3T, C3F, D1T, D1F, D2T, D2F, D3T, D3F, E1T, E1F, E2T, E2F, E3T, E3F, G1T, G1F, G2T, G2F, G3F, inb_T, inb_L, isB_0, isB_1, isB_b, nI_add, L_add1, L_add2, nI_cl, L_cl, bI_T, bI_F, eq_self, not_true_eq_false, not_false_eq_true, g4.1, ↓bd_of e1, ↓bind_of e2]
        · cases hq : lineStep c n h p with
          | inl e =>
            rw [hq] at k1 hr
            exact Or.inl ⟨e, a1.trans hr, k1⟩
          | inr y =>
            rw [hq] at k1 hr
            obtain ⟨b1, b2, b3⟩ := lineStep_ok a4 a5 hq
            exact Or.inr ⟨y.1, y.2, a1.trans hr, k1.1, k1.2, b1, b3.trans a5, by rw [b2, a6]; omega⟩
theorem X_things {c : Nat → Nat} {n : Nat} {R : (Nat × Nat) ⊕ Hs} {s : St} (h0 : PE c n R s ∨ PO c n R s (fun h _ => 0 < hL h ∧ hN h = 1)) : Ok (loopF (f_X6_readInto_L63 27) 5000 ((0 : Int32), s)) (fun t => (PE c n R t ∨ PO c n R t (fun h p => 0 < hL h ∧ 0 < hN h ∧ tkC c n p ≠ 116)) ∧ FrH s t) := by
  refine loop_inv (fun i (x : Int32 × St) => i ≤ 6 ∧ x.1 = nI i ∧ (PE c n R x.2 ∨ PO c n R x.2 (fun h _ => 0 < hL h ∧ hN h = 1 + i)) ∧ FrH s x.2) _ 6 5000 _ 0 (by omega) ⟨by omega, rfl, h0, FrH.rf⟩ ?_
  rintro i ⟨v, t⟩ _ ⟨hi, q0, q1, q2⟩
  simp only at q0 q1 q2
  subst q0
  by_cases c4 : 6 ≤ i
  · right
    refine ⟨t, ?_, ?_, q2⟩
    · unfold f_X6_readInto_L63
      simp (disch := omega) only [↓lt_eq, ↓reduceIte, ↓un1, ↓un2, ↓un3, ↓un4, ↓bd_some, ↓bind_some', ↓sel_l, ↓sel_r, C1T, C1F, C2T, C2F, C3T, C3F, D1T, D1F, D2T, D2F, D3T, D3F, E1T, E1F, E2T, E2F, E3T, E3F, G1T, G1F, G2T, G2F, G3F, inb_T, inb_L, isB_0, isB_1, isB_b, nI_add, L_add1, L_add2, nI_cl, L_cl, bI_T, bI_F, eq_self, not_true_eq_false, not_false_eq_true]
    · rcases q1 with q | ⟨h, p, a1, a2, a3, a4, a5, a6⟩
      · exact Or.inl q
      · have := a4.1.2.1; omega
  · rcases q1 with ⟨e, r1, r2⟩ | ⟨h, p, a1, a2, a3, a4, a5, a6⟩
    · by_cases z : t 2 2 = 116
      · left
        have e2 := X_thing_err r2.1 r2.2.1 r2.2.2.1
        refine ⟨(nI (i + 1), t), ?_, by omega, by omega, rfl, Or.inl ⟨e, r1, r2⟩, q2⟩
        unfold f_X6_readInto_L63
        simp (disch := omega) only [↓lt_eq, ↓reduceIte, ↓un1, ↓un2, ↓un3, ↓un4, ↓bd_some, ↓bind_some', ↓sel_l, ↓sel_r, C1T, C1F, C2T, C2F, C3T, C3F, D1T, D1F, D2T, D2F, D3T, D3F, E1T, E1F, E2T, E2F, E3T, E3F, G1T, G1F, G2T, G2F, G3F, inb_T, inb_L, isB_0, isB_1, isB_b, nI_add, L_add1, L_add2, nI_cl, L_cl, bI_T, bI_F, eq_self, not_true_eq_false, not_false_eq_true, z, ↓bind_of e2]
      · right
        refine ⟨t, ?_, Or.inl ⟨e, r1, r2⟩, q2⟩
        unfold f_X6_readInto_L63
        simp (disch := omega) only [↓lt_eq, ↓reduceIte, ↓un1, ↓un2, ↓un3, ↓un4, ↓bd_some, ↓bind_some', ↓sel_l, ↓sel_r, C1T, C1F, C2T, C2F, C3T, C3F, D1T, D1F, D2T, D2F, D3T, D3F, E1T, E1F, E2T, E2F, E3T, E3F, G1T, G1F, G2T, G2F, G3F, inb_T, inb_L, isB_0, isB_1, isB_b, nI_add, L_add1, L_add2, nI_cl, L_cl, bI_T, bI_F, eq_self, not_true_eq_false, not_false_eq_true, z]
    · obtain ⟨g1, g2, g3, g4⟩ := id a2
      have hle := tkC_le (p := p) g2
      by_cases z : tkC c n p = 116
      · left
        obtain ⟨u, e2, k1, k2⟩ := X_readThing a2 a3 a4 a5
        have hr := runS_thing (c := c) (n := n) (p := p) a4 a5 (Or.inl z)
        refine ⟨(nI (i + 1), u), ?_, by omega, by omega, rfl, ?_, q2.tr k2⟩
        · unfold f_X6_readInto_L63
          simp (disch := omega) only [↓lt_eq, ↓reduceIte, ↓un1, ↓un2, ↓un3, ↓un4, ↓bd_some, ↓bind_some', ↓sel_l, ↓sel_r, C1T, C1F, C2T, C2F, C3T, C3F, D1T, D1F, D2T, D2F, D3T, D3F, E1T, E1F, E2T, E2F, E3T, E3F, G1T, G1F, G2T, G2F, G3F, inb_T, inb_L, isB_0, isB_1, isB_b, nI_add, L_add1, L_add2, nI_cl, L_cl, bI_T, bI_F, eq_self, not_true_eq_false, not_false_eq_true, g4.1, ↓bind_of e2]
        · cases hq : thingStep c n h p with
          | inl e =>
            rw [hq] at k1 hr
            exact Or.inl ⟨e, a1.trans hr, k1⟩
          | inr y =>
            rw [hq] at k1 hr
            obtain ⟨b1, b2, b3⟩ := thingStep_ok a4 a5 hq
            exact Or.inr ⟨y.1, y.2, a1.trans hr, k1.1, k1.2, b1, by rw [b2]; exact a5, by rw [b3, a6]; omega⟩
      · right
        refine ⟨t, ?_, Or.inr ⟨h, p, a1, a2, a3, a4, a5, by omega, z⟩, q2⟩
        unfold f_X6_readInto_L63
        simp (disch := omega) only [↓lt_eq, ↓reduceIte, ↓un1, ↓un2, ↓un3, ↓un4, ↓bd_some, ↓bind_some', ↓sel_l, ↓sel_r, C1T, C1F, C2T, C2F, C3T, C3F, D1T, D1F, D2T, D2F, D3T, D3F, E1T, E1F, E2T, E2F, E3T, E3F, G1T, G1F, G2T, G2F, G3F, inb_T, inb_L, isB_0, isB_1, isB_b, nI_add, L_add1, L_add2, nI_cl, L_cl, bI_T, bI_F, eq_self, not_true_eq_false, not_false_eq_true, g4.1]
theorem X_readInto {c : Nat → Nat} {n : Nat} {s : St} (ht : TapeX c n s) : Ok (f_X6_readInto 27 s) (fun v => ((∃ e, parseA c n = .inl e ∧ v.1 = nI e.1 ∧ 0 < e.1 ∧ e.1 ≤ 3 ∧ v.2 2 5 = nI e.2) ∨ ∃ h, parseA c n = .inr h ∧ v.1 = 0 ∧ HX 27 v.2 h ∧ PH h ∧ 0 < hL h ∧ 0 < hN h) ∧ v.2 2 1 = 0 ∧ ∀ b, b ≠ 2 → ¬ blk 27 b → v.2 b = s b) := by
  generalize hs2 : wr (wr s 2 6 0) 2 4 0 = s2
  have y6 : s2 2 6 = 0 := by rw [← hs2, wr_k (by omega), wr_same]
  have y4 : s2 2 4 = nI 0 := by rw [← hs2, wr_same]; rfl
  have y1 : s2 2 1 = s 2 1 := by rw [← hs2, wr_k (by omega), wr_k (by omega)]
  have yo : ∀ b, b ≠ 2 → s2 b = s b := fun b z => by rw [← hs2, wr_a z, wr_a z]
  obtain ⟨s3, e3, k3, l3⟩ := X_clear (s := s2)
  have z3 : s3 2 = s2 2 := l3 2 (by unfold blk; omega)
  have ht3 : TapeX c n s3 := ht.fr (by rw [z3]; exact y1) (by rw [l3 3 (by unfold blk; omega), yo 3 (by omega)])
  obtain ⟨s4, e4, k4, l4, m4⟩ := X_readToken ht3 (Nat.zero_le n) (by rw [z3]; exact y4)
  have hc4 : CR c n (.inr 0) s4 := ⟨Nat.zero_le n, l4.tape ht3, m4.trans (by rw [z3]; exact y6), k4⟩
  have fr4 : FrH s s4 := FrH.tr ⟨fun b q _ => yo b q, y1⟩ ((FrH.b l3).tr (FrH.c l4))
  obtain ⟨s5, e5, k5, l5⟩ := X_readLaw hc4 (k3.fc l4)
  have st5 : PE c n (parseA c n) s5 ∨ PO c n (parseA c n) s5 (fun h _ => hN h = 0 ∧ hL h = 0) := by
    unfold parseA
    cases hq : lawA c n with
    | inl e => rw [hq] at k5; exact Or.inl ⟨e, rfl, k5⟩
    | inr y => rw [hq] at k5; exact Or.inr ⟨h00 y.1, y.2, rfl, k5.1, k5.2, PH.h00 (lawA_le hq), rfl, rfl⟩
  have st6 : ∃ s6, f_X6_readLine 27 s5 = some s6 ∧ (PE c n (parseA c n) s6 ∨ PO c n (parseA c n) s6 (fun h _ => hN h = 0 ∧ hL h = 1)) ∧ FrH s5 s6 := by
    rcases st5 with ⟨e, r1, r2⟩ | ⟨h, p, a1, a2, a3, a4, a5, a6⟩
    · exact ⟨s5, X_line_err r2.1 r2.2.1 r2.2.2.1, Or.inl ⟨e, r1, r2⟩, FrH.rf⟩
    · obtain ⟨u, e2, k1, k2⟩ := X_readLine a2 a3 a4
      have hr := runS_line (c := c) (n := n) (p := p) a4 a5 (Or.inr a6)
      refine ⟨u, e2, ?_, k2⟩
      cases hq : lineStep c n h p with
      | inl e =>
        rw [hq] at k1 hr
        exact Or.inl ⟨e, a1.trans hr, k1⟩
      | inr y =>
        rw [hq] at k1 hr
        obtain ⟨b1, b2, b3⟩ := lineStep_ok a4 a5 hq
        exact Or.inr ⟨y.1, y.2, a1.trans hr, k1.1, k1.2, b1, b3.trans a5, by rw [b2, a6]⟩
  obtain ⟨s6, e6, k6, l6⟩ := st6
  obtain ⟨s7, e7, k7, l7⟩ := X_lines k6
  have st8 : ∃ s8, f_X6_readThing 27 s7 = some s8 ∧ (PE c n (parseA c n) s8 ∨ PO c n (parseA c n) s8 (fun h _ => 0 < hL h ∧ hN h = 1)) ∧ FrH s7 s8 := by
    rcases k7 with ⟨e, r1, r2⟩ | ⟨h, p, a1, a2, a3, a4, a5, a6, a7⟩
    · exact ⟨s7, X_thing_err r2.1 r2.2.1 r2.2.2.1, Or.inl ⟨e, r1, r2⟩, FrH.rf⟩
    · obtain ⟨u, e2, k1, k2⟩ := X_readThing a2 a3 a4 a6
      have hr := runS_thing (c := c) (n := n) (p := p) a4 a6 (Or.inr ⟨a5, a7⟩)
      refine ⟨u, e2, ?_, k2⟩
      cases hq : thingStep c n h p with
      | inl e =>
        rw [hq] at k1 hr
        exact Or.inl ⟨e, a1.trans hr, k1⟩
      | inr y =>
        rw [hq] at k1 hr
        obtain ⟨b1, b2, b3⟩ := thingStep_ok a4 a6 hq
        exact Or.inr ⟨y.1, y.2, a1.trans hr, k1.1, k1.2, b1, by rw [b2]; exact a6, by rw [b3, a5]⟩
  obtain ⟨s8, e8, k8, l8⟩ := st8
  obtain ⟨s9, e9, k9, l9⟩ := X_things k8
  have fr9 : FrH s s9 := fr4.tr (l5.tr (l6.tr (l7.tr (l8.tr l9))))
  have st10 : ∃ s10, f_X6_take 257 s9 = some s10 ∧ ((∃ e, parseA c n = .inl e ∧ s10 2 6 = nI e.1 ∧ 0 < e.1 ∧ e.1 ≤ 3 ∧ s10 2 5 = nI e.2) ∨ ∃ h, parseA c n = .inr h ∧ s10 2 6 = 0 ∧ HX 27 s10 h ∧ PH h ∧ 0 < hL h ∧ 0 < hN h) ∧ FrH s9 s10 := by
    rcases k9 with ⟨e, r1, r2⟩ | ⟨h, p, a1, a2, a3, a4, a5, a6, a7⟩
    · exact ⟨s9, X_take_err r2.1 r2.2.1 r2.2.2.1, Or.inl ⟨e, r1, r2⟩, FrH.rf⟩
    · obtain ⟨u, e2, k1, k2⟩ := X_take (w := 257) a2 (by omega)
      have e2 : f_X6_take 257 s9 = some u := e2
      have hr := runS_end (c := c) (n := n) (p := p) a4 a6 a7
      refine ⟨u, e2, ?_, FrH.c k2⟩
      have k1 : CR c n (takeA c n 257 p) u := k1
      cases hq : takeA c n 257 p with
      | inl e =>
        rw [hq] at k1 hr
        exact Or.inl ⟨e, a1.trans hr, k1⟩
      | inr y =>
        rw [hq] at k1 hr
        exact Or.inr ⟨h, a1.trans hr, k1.2.2.1, a3.fc k2, a4, a5, a6⟩
  obtain ⟨s10, e10, k10, l10⟩ := st10
  have fr10 := fr9.tr l10
  refine ⟨(s10 2 6, wr s10 2 1 0), ?_, ?_, wr_same s10 2 1 0, fun b q1 q2 => ?_⟩
  · have w6 : wr s10 2 1 0 2 6 = s10 2 6 := wr_k (by omega)
    unfold f_X6_readInto
    simp (disch := omega) only [↓lt_eq, ↓reduceIte, ↓un1, ↓un2, ↓un3, ↓un4, ↓bd_some, ↓bind_some', ↓sel_l, ↓sel_r, C1T, C1F, C2T, C2F, C3T, C3F, D1T, D1F, D2T, D2F, D3T, D3F, E1T, E1F, E2T, E2F, E3T, E3F, G1T, G1F, G2T, G2F, G3F, inb_T, inb_L, isB_0, isB_1, isB_b, nI_add, L_add1, L_add2, nI_cl, L_cl, bI_T, bI_F, eq_self, not_true_eq_false, not_false_eq_true, hs2, ↓bind_of e3, ↓bind_of e4, ↓bind_of e5, ↓bind_of e6, ↓bind_of e7, ↓bind_of e8, ↓bind_of e9, ↓bind_of e10, w6]
  · rcases k10 with ⟨e, r1, r2, r3, r4, r5⟩ | ⟨h, r1, r2, r3, r4⟩
    · exact Or.inl ⟨e, r1, r2, r3, r4, by dsimp only; rw [wr_k (by omega)]; exact r5⟩
    · exact Or.inr ⟨h, r1, r2, r3.frame (fun b q => wr_a (by omega)), r4⟩
  · dsimp only
    rw [wr_a q1]; exact fr10.1 b q1 q2
