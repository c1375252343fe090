/-! the reference reads a text -/
def RM (s : St) (h : Hs) : Prop := s 268 0 = nI (hL h) ∧ s 268 1 = nI (hN h) ∧ s 268 2 = nI (hMain h) ∧ (∀ l, l < hL h → s 268 (3 + l) = nI (hKd h l) ∧ s 269 l = nI (hRt h l)) ∧ ∀ t, t < hN h → s 270 t = nI (hPg h t) ∧ s 268 (7 + t) = nI (hLd h t) ∧ s 271 t = bI (isOnH h t)
theorem RM.fr {s t : St} {h : Hs} (hm : RM s h) (hf : ∀ b, 268 ≤ b → b ≤ 271 → t b = s b) : RM t h := by
  unfold RM
  rw [hf 268 (by omega) (by omega), hf 269 (by omega) (by omega), hf 270 (by omega) (by omega), hf 271 (by omega) (by omega)]
  exact hm
def FrD (σ s : St) : Prop := (∀ b, b ≠ 259 → ¬ (268 ≤ b ∧ b ≤ 271) → s b = σ b) ∧ ∀ k, k ≠ 11 → k ≠ 12 → k ≠ 13 → k ≠ 14 → s 259 k = σ 259 k
theorem FrD.rf {s : St} : FrD s s := ⟨fun _ _ _ => rfl, fun _ _ _ _ _ => rfl⟩
theorem FrD.tr {s t u : St} (h1 : FrD s t) (h2 : FrD t u) : FrD s u := ⟨fun b q1 q2 => (h2.1 b q1 q2).trans (h1.1 b q1 q2), fun k q1 q2 q3 q4 => (h2.2 k q1 q2 q3 q4).trans (h1.2 k q1 q2 q3 q4)⟩
theorem FrD.w {s t : St} (h : FrW s t) : FrD s t := ⟨fun b q _ => h.1 b q, h.2⟩
theorem FrD.r {s t : St} (h : FrR s t) : FrD s t := FrD.w (FrW.of h)
theorem FrD.u {s t : St} (h : ∀ b, ¬ (268 ≤ b ∧ b ≤ 271) → t b = s b) : FrD s t := ⟨fun b _ q => h b q, fun k _ _ _ _ => by rw [h 259 (by omega)]⟩
theorem RR.u {c : Nat → Nat} {n : Nat} {r : (Nat × Nat) ⊕ Nat} {s t : St} (hr : RR c n r s) (h : ∀ b, ¬ (268 ≤ b ∧ b ≤ 271) → t b = s b) : RR c n r t := by
  have e := h 259 (by omega)
  cases r with
  | inl x =>
    obtain ⟨a, b, d, g⟩ := hr
    exact ⟨by rw [e]; exact a, b, d, by rw [e]; exact g⟩
  | inr p =>
    obtain ⟨a, b, d, g⟩ := hr
    exact ⟨a, b.fr (by rw [e]) (h 267 (by omega)), by rw [e]; exact d, by rw [e]; exact g⟩
def MH (c : Nat → Nat) (n : Nat) (r : (Nat × Nat) ⊕ (Hs × Nat)) (s : St) : Prop := match r with
  | .inl e => RR c n (.inl e) s
  | .inr y => RR c n (.inr y.2) s ∧ RM s y.1
theorem on_bits : ∀ N, N < 6 → ∀ m, m < 2 ^ N → ∀ o, o < 2 → ∀ t, t ≤ N → bI ((m + o * 2 ^ N).testBit t) = if t = N then nI o else bI (m.testBit t) := by decide +kernel
theorem M_lineItem {c : Nat → Nat} {n p : Nat} {h : Hs} {s : St} (hp1 : p ≤ n) (ht : TapeM c n s) (e11 : s 259 11 = nI (tkE c n p)) (e12 : s 259 12 = nI p) (hm : RM s h) (hp : PH h) (hz : ¬ sortN (tkC c n p) = 0) : Ok (f_X12_lineItem (nI (sortN (tkC c n p))) s) (fun t => MH c n (lineStep c n h p) t ∧ FrD s t) := by
  have hL4 := hp.1.1
  have m0 := hm.1
  unfold lineStep
  rw [if_neg hz]
  by_cases b : hL h = 4
  · rw [if_pos b]
    have hr1 : RR c n (.inl (3, p)) (wr s 259 14 (nI 3)) := ⟨wr_same _ _ _ _, by omega, by omega, by rw [wr_k (by omega)]; exact e12⟩
    obtain ⟨⟨v, s2⟩, t2, k2, m2, l2⟩ := M_wants (lo := 1) (hi := 20) hr1 (by omega) (by omega)
    simp only at k2 m2 l2
    have t2 : f_X12_wants 1 20 (wr s 259 14 3) = some (v, s2) := t2
    obtain ⟨s3, t3, k3, l3⟩ := M_sign (w := 59) k2 (by omega) (by omega)
    have t3 : f_X12_sign 59 s2 = some s3 := t3
    have k3 : RR c n (.inl (3, p)) s3 := k3
    refine ⟨s3, ?_, k3, FrD.w (FrW.w.tr (l2.tr l3))⟩
    obtain ⟨z1, z2, z3, z4⟩ := k3
    unfold f_X12_lineItem
    simp (disch := omega) only [↓lt_eq, ↓reduceIte, ↓un1, ↓un2, ↓un3, ↓un4, ↓bd_some, ↓bind_some', ↓sel_l, ↓sel_r, C1T, C1F, C2T, C2F, C3T, C3F, D1T, D1F, D2T, D2F, D3T, D3F, E1T, E1F, E2T, E2F, E3T, E3F, G1T, G1F, G2T, G2F, G3F, inb_T, inb_L, isB_0, isB_1, isB_b, nI_add, L_add1, L_add2, nI_cl, L_cl, bI_T, bI_F, eq_self, not_true_eq_false, not_false_eq_true, m0, ↓bd_of t2, ↓bind_of t3, z1]
  · rw [if_neg b]
    have hr1 : RR c n (.inr (tkE c n p)) (wr s 259 14 0) := ⟨tkE_le hp1, ht.fr (wr_k (by omega)) (wr_a (by omega)), wr_same _ _ _ _, by rw [wr_k (by omega)]; exact e11⟩
    obtain ⟨⟨v, s2⟩, t2, k2, m2, l2⟩ := M_wants (lo := 1) (hi := 20) hr1 (by omega) (by omega)
    simp only at k2 m2 l2
    have t2 : f_X12_wants 1 20 (wr s 259 14 0) = some (v, s2) := t2
    obtain ⟨s3, t3, k3, l3⟩ := M_sign (w := 59) k2 (by omega) (by omega)
    have t3 : f_X12_sign 59 s2 = some s3 := t3
    have fr3 : FrW s s3 := FrW.w.tr (l2.tr l3)
    have hm3 : RM s3 h := hm.fr (fun b q1 q2 => fr3.1 b (by omega))
    have m03 := hm3.1
    unfold lineA
    cases hy : numA c n 1 20 (tkE c n p) with
    | inl e =>
      have k3 : RR c n (.inl e) s3 := by
        have : sb (sb (sb (.inr (tkE c n p)) (numA c n 1 20)) (fun y => .inr y.2)) (takeA c n 59) = .inl e := by
          show sb (sb (numA c n 1 20 (tkE c n p)) _) _ = _
          rw [hy]; rfl
        rw [this] at k3; exact k3
      refine ⟨s3, ?_, k3, FrD.w fr3⟩
      obtain ⟨z1, z2, z3, z4⟩ := k3
      unfold f_X12_lineItem
      simp (disch := omega) only [↓lt_eq, ↓reduceIte, ↓un1, ↓un2, ↓un3, ↓un4, ↓bd_some, ↓bind_some', ↓sel_l, ↓sel_r, C1T, C1F, C2T, C2F, C3T, C3F, D1T, D1F, D2T, D2F, D3T, D3F, E1T, E1F, E2T, E2F, E3T, E3F, G1T, G1F, G2T, G2F, G3F, inb_T, inb_L, isB_0, isB_1, isB_b, nI_add, L_add1, L_add2, nI_cl, L_cl, bI_T, bI_F, eq_self, not_true_eq_false, not_false_eq_true, m0, ↓bd_of t2, ↓bind_of t3, z1]
    | inr y =>
      have hv : v = nI y.1 := m2 y hy
      subst hv
      have k3 : RR c n (takeA c n 59 y.2) s3 := by
        have : sb (sb (sb (.inr (tkE c n p)) (numA c n 1 20)) (fun y => .inr y.2)) (takeA c n 59) = takeA c n 59 y.2 := by
          show sb (sb (numA c n 1 20 (tkE c n p)) _) _ = _
          rw [hy]; rfl
        rw [this] at k3; exact k3
      show Ok _ (fun t => MH c n (sb (sb (takeA c n 59 y.2) _) _) t ∧ FrD s t)
      cases hq : takeA c n 59 y.2 with
      | inl e =>
        rw [hq] at k3
        refine ⟨s3, ?_, k3, FrD.w fr3⟩
        obtain ⟨z1, z2, z3, z4⟩ := k3
        unfold f_X12_lineItem
        simp (disch := omega) only [↓lt_eq, ↓reduceIte, ↓un1, ↓un2, ↓un3, ↓un4, ↓bd_some, ↓bind_some', ↓sel_l, ↓sel_r, C1T, C1F, C2T, C2F, C3T, C3F, D1T, D1F, D2T, D2F, D3T, D3F, E1T, E1F, E2T, E2F, E3T, E3F, G1T, G1F, G2T, G2F, G3F, inb_T, inb_L, isB_0, isB_1, isB_b, nI_add, L_add1, L_add2, nI_cl, L_cl, bI_T, bI_F, eq_self, not_true_eq_false, not_false_eq_true, m0, ↓bd_of t2, ↓bind_of t3, z1]
      | inr q =>
        rw [hq] at k3
        have z1 : s3 259 14 = 0 := k3.2.2.1
        generalize hs5 : wr (wr s3 268 (3 + hL h) (nI (sortN (tkC c n p)))) 269 (hL h) (nI y.1) = s5
        have w1 : wr s3 268 (3 + hL h) (nI (sortN (tkC c n p))) 268 0 = nI (hL h) := by rw [wr_k (by omega)]; exact m03
        have w2 : s5 268 0 = nI (hL h) := by rw [← hs5, wr_a (by omega)]; exact w1
        have u : ∀ b, ¬ (268 ≤ b ∧ b ≤ 271) → wr s5 268 0 (nI (hL h + 1)) b = s3 b := fun b hb => by
          rw [wr_a (by omega), ← hs5, wr_a (by omega), wr_a (by omega)]
        refine ⟨wr s5 268 0 (nI (hL h + 1)), ?_, ⟨k3.u u, ?_⟩, (FrD.w fr3).tr (FrD.u u)⟩
        · unfold f_X12_lineItem
          simp (disch := omega) only [↓lt_eq, ↓reduceIte, ↓un1, ↓un2, ↓un3, ↓un4, ↓bd_some, ↓bind_some', ↓sel_l, ↓sel_r, C1T, C1F, C2T, C2F, C3T, C3F, D1T, D1F, D2T, D2F, D3T, D3F, E1T, E1F, E2T, E2F, E3T, E3F, G1T, G1F, G2T, G2F, G3F, inb_T, inb_L, isB_0, isB_1, isB_b, nI_add, L_add1, L_add2, nI_cl, L_cl, bI_T, bI_F, eq_self, not_true_eq_false, not_false_eq_true, m0, ↓bd_of t2, ↓bind_of t3, z1, m03, w1, hs5, w2]
        · obtain ⟨g0, g1, g2, g3, g4⟩ := hm3
          have o8 : ∀ k, k ≠ 0 → k ≠ 3 + hL h → wr s5 268 0 (nI (hL h + 1)) 268 k = s3 268 k := fun k z1 z2 => by
            rw [wr_k z1, ← hs5, wr_a (by omega), wr_k z2]
          refine ⟨wr_same _ _ _ _, (o8 1 (by omega) (by omega)).trans g1, (o8 2 (by omega) (by omega)).trans g2, fun l hl => ?_, fun t ht => ?_⟩
          · have hl : l < hL h + 1 := hl
            show wr s5 268 0 (nI (hL h + 1)) 268 (3 + l) = nI (if l = hL h then sortN (tkC c n p) else hKd h l) ∧ wr s5 268 0 (nI (hL h + 1)) 269 l = nI (if l = hL h then y.1 else hRt h l)
            by_cases z : l = hL h
            · subst z
              rw [if_pos rfl, if_pos rfl]
              refine ⟨?_, ?_⟩
              · rw [wr_k (by omega), ← hs5, wr_a (by omega), wr_same]
              · rw [wr_a (by omega), ← hs5, wr_same]
            · rw [if_neg z, if_neg z]
              refine ⟨?_, ?_⟩
              · rw [o8 (3 + l) (by omega) (by omega)]; exact (g3 l (by omega)).1
              · rw [wr_a (by omega), ← hs5, wr_k z, wr_a (by omega)]; exact (g3 l (by omega)).2
          · have ht' : t < hN h := ht
            obtain ⟨q1, q2, q3⟩ := g4 t ht'
            refine ⟨?_, ?_, ?_⟩
            · rw [wr_a (by omega), ← hs5, wr_a (by omega), wr_a (by omega)]; exact q1
            · rw [o8 (7 + t) (by omega) (by omega)]; exact q2
            · rw [wr_a (by omega), ← hs5, wr_a (by omega), wr_a (by omega)]; exact q3
theorem M_thingItem {c : Nat → Nat} {n p : Nat} {h : Hs} {s : St} (hp1 : p ≤ n) (ht : TapeM c n s) (e11 : s 259 11 = nI (tkE c n p)) (e12 : s 259 12 = nI p) (hm : RM s h) (hp : PH h) (hL0 : 0 < hL h) (hz : tkC c n p = 116) : Ok (f_X12_thingItem s) (fun t => MH c n (thingStep c n h p) t ∧ FrD s t) := by
  have hL4 := hp.1.1
  have hN6 := hp.1.2.1
  have m0 := hm.1
  have m1 := hm.2.1
  unfold thingStep
  rw [if_pos hz]
  have hmain : ∀ (x : Nat) (r : (Nat × Nat) ⊕ Nat), x ≤ 3 → RR c n r (wr s 259 14 (nI x)) → ∃ v1 v2 v3 s2 s3 s4 s5 s6 s7, f_X12_wants 0 (nI (hL h - 1)) (wr s 259 14 (nI x)) = some (v1, s2) ∧ f_X12_sign 44 s2 = some s3 ∧ f_X12_wants 1 20 s3 = some (v2, s4) ∧ f_X12_sign 44 s4 = some s5 ∧ f_X12_wants 0 1 s5 = some (v3, s6) ∧ f_X12_sign 59 s6 = some s7 ∧ RR c n (tR7 c n (hL h) r) s7 ∧ (∀ y, tY1 c n (hL h) r = .inr y → v1 = nI y.1) ∧ (∀ y, tY2 c n (hL h) r = .inr y → v2 = nI y.1) ∧ (∀ y, tY3 c n (hL h) r = .inr y → v3 = nI y.1) ∧ FrW s s7 := by
    intro x r _ hr1
    obtain ⟨⟨v1, s2⟩, t2, k2, m2, l2⟩ := M_wants (lo := 0) (hi := hL h - 1) hr1 (by omega) (by omega)
    obtain ⟨s3, t3, k3, l3⟩ := M_sign (w := 44) k2 (by omega) (by omega)
    obtain ⟨⟨v2, s4⟩, t4, k4, m4, l4⟩ := M_wants (lo := 1) (hi := 20) k3 (by omega) (by omega)
    obtain ⟨s5, t5, k5, l5⟩ := M_sign (w := 44) k4 (by omega) (by omega)
    obtain ⟨⟨v3, s6⟩, t6, k6, m6, l6⟩ := M_wants (lo := 0) (hi := 1) k5 (by omega) (by omega)
    obtain ⟨s7, t7, k7, l7⟩ := M_sign (w := 59) k6 (by omega) (by omega)
    exact ⟨v1, v2, v3, s2, s3, s4, s5, s6, s7, t2, t3, t4, t5, t6, t7, k7, m2, m4, m6, FrW.w.tr (l2.tr (l3.tr (l4.tr (l5.tr (l6.tr l7)))))⟩
  have w0 : ∀ v, wr s 259 14 v 268 0 = nI (hL h) := fun v => by rw [wr_a (by omega)]; exact m0
  by_cases b : hN h = 6
  · rw [if_pos b]
    obtain ⟨v1, v2, v3, s2, s3, s4, s5, s6, s7, t2, t3, t4, t5, t6, t7, k7, -, -, -, l7⟩ := hmain 3 (.inl (3, p)) (by omega) ⟨wr_same _ _ _ _, by omega, by omega, by rw [wr_k (by omega)]; exact e12⟩
    have t2 : f_X12_wants 0 (nI (hL h - 1)) (wr s 259 14 3) = some (v1, s2) := t2
    have k7 : RR c n (.inl (3, p)) s7 := k7
    refine ⟨s7, ?_, k7, FrD.w l7⟩
    obtain ⟨z1, z2, z3, z4⟩ := k7
    unfold f_X12_thingItem
    simp (disch := omega) only [↓lt_eq, ↓reduceIte, ↓un1, ↓un2, ↓un3, ↓un4, ↓bd_some, ↓bind_some', ↓sel_l, ↓sel_r, C1T, C1F, C2T, C2F, C3T, C3F, D1T, D1F, D2T, D2F, D3T, D3F, E1T, E1F, E2T, E2F, E3T, E3F, G1T, G1F, G2T, G2F, G3F, inb_T, inb_L, isB_0, isB_1, isB_b, nI_add, L_add1, L_add2, nI_cl, L_cl, bI_T, bI_F, eq_self, not_true_eq_false, not_false_eq_true, m1, w0, L_sub2, ↓bd_of t2, ↓bind_of t3, ↓bd_of t4, ↓bind_of t5, ↓bd_of t6, ↓bind_of t7, z1]
  · rw [if_neg b]
    obtain ⟨v1, v2, v3, s2, s3, s4, s5, s6, s7, t2, t3, t4, t5, t6, t7, k7, n1, n2, n3, l7⟩ := hmain 0 (.inr (tkE c n p)) (by omega) ⟨tkE_le hp1, ht.fr (wr_k (by omega)) (wr_a (by omega)), wr_same _ _ _ _, by rw [wr_k (by omega)]; exact e11⟩
    have t2 : f_X12_wants 0 (nI (hL h - 1)) (wr s 259 14 0) = some (v1, s2) := t2
    have hm7 : RM s7 h := hm.fr (fun b q1 q2 => l7.1 b (by omega))
    have m17 := hm7.2.1
    rcases thing_chain c n (hL h) p with ⟨e, q1, q2⟩ | ⟨y1, y2, y3, q, q1, q2, q3, q4, q5⟩
    · rw [q1] at k7
      rw [q2]
      refine ⟨s7, ?_, k7, FrD.w l7⟩
      obtain ⟨z1, z2, z3, z4⟩ := k7
      unfold f_X12_thingItem
      simp (disch := omega) only [↓lt_eq, ↓reduceIte, ↓un1, ↓un2, ↓un3, ↓un4, ↓bd_some, ↓bind_some', ↓sel_l, ↓sel_r, C1T, C1F, C2T, C2F, C3T, C3F, D1T, D1F, D2T, D2F, D3T, D3F, E1T, E1F, E2T, E2F, E3T, E3F, G1T, G1F, G2T, G2F, G3F, inb_T, inb_L, isB_0, isB_1, isB_b, nI_add, L_add1, L_add2, nI_cl, L_cl, bI_T, bI_F, eq_self, not_true_eq_false, not_false_eq_true, m1, w0, L_sub2, ↓bd_of t2, ↓bind_of t3, ↓bd_of t4, ↓bind_of t5, ↓bd_of t6, ↓bind_of t7, z1]
    · rw [q4] at k7
      rw [q5]
      have e1 := n1 y1 q1
      have e2 := n2 y2 q2
      have e3 := n3 y3 q3
      subst e1 e2 e3
      have ho : y3.1 ≤ 1 := by
        unfold tY3 at q3
        obtain ⟨u, u1, u2⟩ := sb_ok q3
        exact (numA_ok u2).2.1
      have z1 : s7 259 14 = 0 := k7.2.2.1
      generalize hs8 : wr s7 268 (7 + hN h) (nI y2.1) = s8
      have w8 : s8 268 1 = nI (hN h) := by rw [← hs8, wr_k (by omega)]; exact m17
      generalize hs9 : wr s8 270 (hN h) (nI y1.1) = s9
      have w9 : s9 268 1 = nI (hN h) := by rw [← hs9, wr_a (by omega)]; exact w8
      generalize hs10 : wr s9 271 (hN h) (nI y3.1) = s10
      have w10 : s10 268 1 = nI (hN h) := by rw [← hs10, wr_a (by omega)]; exact w9
      have u : ∀ b, ¬ (268 ≤ b ∧ b ≤ 271) → wr s10 268 1 (nI (hN h + 1)) b = s7 b := fun b hb => by
        rw [wr_a (by omega), ← hs10, wr_a (by omega), ← hs9, wr_a (by omega), ← hs8, wr_a (by omega)]
      refine ⟨wr s10 268 1 (nI (hN h + 1)), ?_, ⟨k7.u u, ?_⟩, (FrD.w l7).tr (FrD.u u)⟩
      · unfold f_X12_thingItem
        simp (disch := omega) only [↓lt_eq, ↓reduceIte, ↓un1, ↓un2, ↓un3, ↓un4, ↓bd_some, ↓bind_some', ↓sel_l, ↓sel_r, C1T, C1F, C2T, C2F, C3T, C3F, D1T, D1F, D2T, D2F, D3T, D3F, E1T, E1F, E2T, E2F, E3T, E3F, G1T, G1F, G2T, G2F, G3F, inb_T, inb_L, isB_0, isB_1, isB_b, nI_add, L_add1, L_add2, nI_cl, L_cl, bI_T, bI_F, eq_self, not_true_eq_false, not_false_eq_true, m1, w0, L_sub2, ↓bd_of t2, ↓bind_of t3, ↓bd_of t4, ↓bind_of t5, ↓bd_of t6, ↓bind_of t7, z1, m17, hs8, w8, hs9, w9, hs10, w10]
      · obtain ⟨g0, g1, g2, g3, g4⟩ := hm7
        have o8 : ∀ k, k ≠ 1 → k ≠ 7 + hN h → wr s10 268 1 (nI (hN h + 1)) 268 k = s7 268 k := fun k z1 z2 => by
          rw [wr_k z1, ← hs10, wr_a (by omega), ← hs9, wr_a (by omega), ← hs8, wr_k z2]
        have o9 : ∀ k, wr s10 268 1 (nI (hN h + 1)) 269 k = s7 269 k := fun k => by
          rw [wr_a (by omega), ← hs10, wr_a (by omega), ← hs9, wr_a (by omega), ← hs8, wr_a (by omega)]
        refine ⟨(o8 0 (by omega) (by omega)).trans g0, wr_same _ _ _ _, (o8 2 (by omega) (by omega)).trans g2, fun l hl => ?_, fun t ht => ?_⟩
        · have hl4 : l < 4 := Nat.lt_of_lt_of_le hl hL4
          have hl' : l < hL h := hl
          exact ⟨(o8 (3 + l) (by omega) (by omega)).trans (g3 l hl').1, (o9 l).trans (g3 l hl').2⟩
        · have ht : t < hN h + 1 := ht
          have hb := on_bits (hN h) (by omega) (hOn h) hp.1.2.2.2.2.2.1 y3.1 (by omega) t (by omega)
          show wr s10 268 1 (nI (hN h + 1)) 270 t = nI (if t = hN h then y1.1 else hPg h t) ∧ wr s10 268 1 (nI (hN h + 1)) 268 (7 + t) = nI (if t = hN h then y2.1 else hLd h t) ∧ wr s10 268 1 (nI (hN h + 1)) 271 t = bI ((hOn h + y3.1 * 2 ^ hN h).testBit t)
          rw [hb]
          by_cases z : t = hN h
          · subst z
            rw [if_pos rfl, if_pos rfl, if_pos rfl]
            refine ⟨?_, ?_, ?_⟩
            · rw [wr_a (by omega), ← hs10, wr_a (by omega), ← hs9, wr_same]
            · rw [wr_k (by omega), ← hs10, wr_a (by omega), ← hs9, wr_a (by omega), ← hs8, wr_same]
            · rw [wr_a (by omega), ← hs10, wr_same]
          · rw [if_neg z, if_neg z, if_neg z]
            obtain ⟨q1, q2, q3⟩ := g4 t (by omega)
            refine ⟨?_, ?_, ?_⟩
            · rw [wr_a (by omega), ← hs10, wr_a (by omega), ← hs9, wr_k z, ← hs8, wr_a (by omega)]; exact q1
            · rw [o8 (7 + t) (by omega) (by omega)]; exact q2
            · rw [wr_a (by omega), ← hs10, wr_k z, ← hs9, wr_a (by omega), ← hs8, wr_a (by omega)]; exact q3
theorem M12_sortOf {t : Nat} (h : t < 2147483648) (s : St) : f_X12_sortOf (nI t) s = some (nI (sortN t), s) := by
  unfold f_X12_sortOf sortN
  by_cases a1 : t = 119
  · subst a1; rfl
  by_cases a2 : t = 115
  · subst a2; rfl
  by_cases a3 : t = 113
  · subst a3; rfl
  by_cases a4 : t = 98
  · subst a4; rfl
  by_cases a5 : t = 99
  · subst a5; rfl
  rw [if_neg a1, if_neg a2, if_neg a3, if_neg a4, if_neg a5]
  simp (disch := omega) only [↓lt_eq, ↓reduceIte, ↓un1, ↓un2, ↓un3, ↓un4, ↓bd_some, ↓bind_some', ↓sel_l, ↓sel_r, C1T, C1F, C2T, C2F, C3T, C3F, D1T, D1F, D2T, D2F, D3T, D3F, E1T, E1F, E2T, E2F, E3T, E3F, G1T, G1F, G2T, G2F, G3F, inb_T, inb_L, isB_0, isB_1, isB_b, nI_add, L_add1, L_add2, nI_cl, L_cl, bI_T, bI_F, eq_self, not_true_eq_false, not_false_eq_true, nI_0]
