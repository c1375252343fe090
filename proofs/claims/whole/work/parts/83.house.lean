/-! the reference reads a text; house -/
def MFin (c : Nat → Nat) (n : Nat) (R : (Nat × Nat) ⊕ Hs) (s : St) : Prop := (∃ e, R = .inl e ∧ RR c n (.inl e) s) ∨ ∃ h, R = .inr h ∧ s 259 14 = 0 ∧ RM s h ∧ PH h ∧ 0 < hL h ∧ 0 < hN h
theorem PH.pos {h : Hs} (hp : PH h) (h0 : 0 < hN h) : 0 < hL h := by
  have := (hp.1.2.2.2.2.2.2.2 0 h0).1
  omega
theorem rc_small {t : Nat} (h : t ≤ 258) (ht : 256 ≤ t ∨ (44 ≤ t ∧ t < 256)) : (rc t ≤ 3 ↔ 256 ≤ t) := by
  unfold rc
  split
  · omega
  · split
    · omega
    · split <;> omega
theorem tkC_rng {c : Nat → Nat} {n p : Nat} {s : St} (h : TapeM c n s) : 256 ≤ tkC c n p ∨ (44 ≤ tkC c n p ∧ tkC c n p < 256) := by
  unfold tkC
  split
  · omega
  · split
    · split <;> omega
    · split
      · have := (h.2.2 p (by omega)).1; omega
      · omega
theorem M_readsLoop {c : Nat → Nat} {n : Nat} {R : (Nat × Nat) ⊕ Hs} {h0 : Hs} {p0 : Nat} {s : St} (hR : R = runS c n h0 p0) (hr : RR c n (.inr p0) s) (hm : RM s h0) (hp : PH h0) (hz : hL h0 + hN h0 = 0) : Ok (loopF f_X12_reads_L69 5000 ((1 : Int32), s)) (fun t => MFin c n R t ∧ FrD s t) := by
  refine loop_inv (fun j (x : Int32 × St) => j ≤ 13 ∧ ((x.1 = 1 ∧ ∃ h p, R = runS c n h p ∧ RR c n (.inr p) x.2 ∧ RM x.2 h ∧ PH h ∧ hL h + hN h = j) ∨ (x.1 = 0 ∧ MFin c n R x.2)) ∧ FrD s x.2) _ 13 5000 _ 0 (by omega) ⟨by omega, Or.inl ⟨rfl, h0, p0, hR, hr, hm, hp, hz⟩, FrD.rf⟩ ?_
  rintro j ⟨v, t⟩ _ ⟨hj, q1, q2⟩
  simp only at q1 q2
  rcases q1 with ⟨rfl, h, p, a1, a2, a3, a4, a5⟩ | ⟨rfl, q1⟩
  · left
    have hb := a4.b
    obtain ⟨g1, g2, g3, g4⟩ := id a2
    have hle := tkC_leM (p := p) g2
    have hrg := tkC_rng (p := p) g2
    have hrs := rc_small hle hrg
    have hrl := rc_le hle
    have hs5 := sortN_le (tkC c n p)
    have hL4 := a4.1.1
    have hN6 := a4.1.2.1
    obtain ⟨⟨w, u⟩, e1, k1, k2, k3, k4, k5⟩ := M_token g2 g1 g4
    simp only at k1 k2 k3 k4 k5
    subst k1
    have hmu : RM u h := a3.fr (fun b q1 q2 => k5.1 b (by omega))
    have u0 : u 268 0 = nI (hL h) := hmu.1
    have u1 : u 268 1 = nI (hN h) := hmu.2.1
    have u14 : u 259 14 = 0 := by rw [k5.2 14 (by omega) (by omega) (by omega)]; exact g3
    have fru : FrD s u := q2.tr (FrD.r k5)
    have hrun := runS_eq (c := c) (n := n) (p := p) hb
    -- the sort
    have hsrt : ∃ x, x = sortN (tkC c n p) := ⟨_, rfl⟩
    by_cases cE : tkC c n p = 257 ∧ 0 < hN h
    · have hst : stepA c n h p = .inr none := if_pos cE
      rw [hst] at hrun
      have hrc : rc (tkC c n p) = 3 := by rw [cE.1]; rfl
      rw [hrc] at e1
      refine ⟨(0, u), ?_, by omega, by omega, Or.inr ⟨rfl, Or.inr ⟨h, a1.trans hrun, u14, hmu, a4, a4.pos cE.2, cE.2⟩⟩, fru⟩
      unfold f_X12_reads_L69
      simp (disch := omega) only [↓lt_eq, ↓reduceIte, ↓un1, ↓un2, ↓un3, ↓un4, ↓bd_some, ↓bind_some', ↓sel_l, ↓sel_r, C1T, C1F, C2T, C2F, C3T, C3F, D1T, D1F, D2T, D2F, D3T, D3F, E1T, E1F, E2T, E2F, E3T, E3F, G1T, G1F, G2T, G2F, G3F, inb_T, inb_L, isB_0, isB_1, isB_b, nI_add, L_add1, L_add2, nI_cl, L_cl, bI_T, bI_F, eq_self, not_true_eq_false, not_false_eq_true, ↓bd_of e1, u1]
    · by_cases cS : 0 < sortN (tkC c n p) ∧ hN h = 0
      · have hst : stepA c n h p = sb (lineStep c n h p) fun y => .inr (some y) := by unfold stepA; rw [if_neg cE, if_pos cS]
        have hlt : tkC c n p < 256 := by
          rcases hrg with z | z
          · exfalso
            have : sortN (tkC c n p) = 0 := by unfold sortN; rw [if_neg (by omega), if_neg (by omega), if_neg (by omega), if_neg (by omega), if_neg (by omega)]
            omega
          · exact z.2
        have hrc : rc (tkC c n p) = tkC c n p := by unfold rc; rw [if_neg (by omega), if_neg (by omega), if_neg (by omega)]
        rw [hrc] at e1
        have e2 := M12_sortOf (t := tkC c n p) (by omega) u
        obtain ⟨t2, e3, m1, m2⟩ := M_lineItem g1 (k5.tape g2) (k3 (by omega)) k2 hmu a4 (by omega)
        have hr2 := runS_line (c := c) (n := n) (p := p) a4 cS.2 (Or.inl cS.1)
        cases hq : lineStep c n h p with
        | inl e =>
          rw [hq] at m1 hr2
          obtain ⟨z1, z2, z3, z4⟩ := id m1
          refine ⟨(0, t2), ?_, by omega, by omega, Or.inr ⟨rfl, Or.inl ⟨e, a1.trans hr2, m1⟩⟩, fru.tr m2⟩
          unfold f_X12_reads_L69
          simp (disch := omega) only [↓lt_eq, ↓reduceIte, ↓un1, ↓un2, ↓un3, ↓un4, ↓bd_some, ↓bind_some', ↓sel_l, ↓sel_r, C1T, C1F, C2T, C2F, C3T, C3F, D1T, D1F, D2T, D2F, D3T, D3F, E1T, E1F, E2T, E2F, E3T, E3F, G1T, G1F, G2T, G2F, G3F, inb_T, inb_L, isB_0, isB_1, isB_b, nI_add, L_add1, L_add2, nI_cl, L_cl, bI_T, bI_F, eq_self, not_true_eq_false, not_false_eq_true, ↓bd_of e1, ↓bd_of e2, u1, ↓bind_of e3, z1]
        | inr y =>
          rw [hq] at m1 hr2
          obtain ⟨b1, b2, b3⟩ := lineStep_ok a4 cS.2 hq
          have z1 : t2 259 14 = 0 := m1.1.2.2.1
          refine ⟨(1, t2), ?_, by omega, by omega, Or.inl ⟨rfl, y.1, y.2, a1.trans hr2, m1.1, m1.2, b1, by omega⟩, fru.tr m2⟩
          unfold f_X12_reads_L69
          simp (disch := omega) only [↓lt_eq, ↓reduceIte, ↓un1, ↓un2, ↓un3, ↓un4, ↓bd_some, ↓bind_some', ↓sel_l, ↓sel_r, C1T, C1F, C2T, C2F, C3T, C3F, D1T, D1F, D2T, D2F, D3T, D3F, E1T, E1F, E2T, E2F, E3T, E3F, G1T, G1F, G2T, G2F, G3F, inb_T, inb_L, isB_0, isB_1, isB_b, nI_add, L_add1, L_add2, nI_cl, L_cl, bI_T, bI_F, eq_self, not_true_eq_false, not_false_eq_true, ↓bd_of e1, ↓bd_of e2, u1, ↓bind_of e3, z1]
      · by_cases cT : tkC c n p = 116 ∧ 0 < hL h
        · have hr2 := runS_thing (c := c) (n := n) (p := p) a4 cT.2 (Or.inl cT.1)
          have hrc : rc (tkC c n p) = 116 := by rw [cT.1]; rfl
          have e1 : f_X12_token t = some (nI 116, u) := by rw [hrc] at e1; exact e1
          have e2 : f_X12_sortOf (nI 116) u = some (0, u) := rfl
          obtain ⟨t2, e3, m1, m2⟩ := M_thingItem g1 (k5.tape g2) (k3 (by omega)) k2 hmu a4 cT.2 cT.1
          cases hq : thingStep c n h p with
          | inl e =>
            rw [hq] at m1 hr2
            obtain ⟨z1, z2, z3, z4⟩ := id m1
            refine ⟨(0, t2), ?_, by omega, by omega, Or.inr ⟨rfl, Or.inl ⟨e, a1.trans hr2, m1⟩⟩, fru.tr m2⟩
            unfold f_X12_reads_L69
            simp (disch := omega) only [↓lt_eq, ↓reduceIte, ↓un1, ↓un2, ↓un3, ↓un4, ↓bd_some, ↓bind_some', ↓sel_l, ↓sel_r, C1T, C1F, C2T, C2F, C3T, C3F, D1T, D1F, D2T, D2F, D3T, D3F, E1T, E1F, E2T, E2F, E3T, E3F, G1T, G1F, G2T, G2F, G3F, inb_T, inb_L, isB_0, isB_1, isB_b, nI_add, L_add1, L_add2, nI_cl, L_cl, bI_T, bI_F, eq_self, not_true_eq_false, not_false_eq_true, ↓bd_of e1, ↓bd_of e2, u0, u1, ↓bind_of e3, z1]
          | inr y =>
            rw [hq] at m1 hr2
            obtain ⟨b1, b2, b3⟩ := thingStep_ok a4 cT.2 hq
            have z1 : t2 259 14 = 0 := m1.1.2.2.1
            refine ⟨(1, t2), ?_, by omega, by omega, Or.inl ⟨rfl, y.1, y.2, a1.trans hr2, m1.1, m1.2, b1, by omega⟩, fru.tr m2⟩
            unfold f_X12_reads_L69
            simp (disch := omega) only [↓lt_eq, ↓reduceIte, ↓un1, ↓un2, ↓un3, ↓un4, ↓bd_some, ↓bind_some', ↓sel_l, ↓sel_r, C1T, C1F, C2T, C2F, C3T, C3F, D1T, D1F, D2T, D2F, D3T, D3F, E1T, E1F, E2T, E2F, E3T, E3F, G1T, G1F, G2T, G2F, G3F, inb_T, inb_L, isB_0, isB_1, isB_b, nI_add, L_add1, L_add2, nI_cl, L_cl, bI_T, bI_F, eq_self, not_true_eq_false, not_false_eq_true, ↓bd_of e1, ↓bd_of e2, u0, u1, ↓bind_of e3, z1]
        · have hst : stepA c n h p = .inl (1, p) := by unfold stepA; rw [if_neg cE, if_neg cS, if_neg cT]
          rw [hst] at hrun
          refine ⟨(0, wr u 259 14 (nI 1)), ?_, by omega, by omega, Or.inr ⟨rfl, Or.inl ⟨(1, p), a1.trans hrun, ⟨by dsimp only; rw [wr_same], by omega, by omega, by dsimp only; rw [wr_k (by omega)]; exact k2⟩⟩⟩, fru.tr (FrD.w FrW.w)⟩
          have ew : wr u 259 14 (1 : Int32) = wr u 259 14 (nI 1) := rfl
          unfold f_X12_reads_L69
          by_cases b3 : rc (tkC c n p) ≤ 3
          · have h116 : ¬ rc (tkC c n p) = 116 := by omega
            by_cases b4 : rc (tkC c n p) = 3
            · have h257 : tkC c n p = 257 := by
                revert b4
                unfold rc
                split
                · omega
                · split
                  · intro _; assumption
                  · split <;> omega
              have hN0 : hN h = 0 := by
                rcases Nat.eq_zero_or_pos (hN h) with z | z
                · exact z
                · exact absurd ⟨h257, z⟩ cE
              simp (disch := omega) only [↓lt_eq, ↓reduceIte, ↓un1, ↓un2, ↓un3, ↓un4, ↓bd_some, ↓bind_some', ↓sel_l, ↓sel_r, C1T, C1F, C2T, C2F, C3T, C3F, D1T, D1F, D2T, D2F, D3T, D3F, E1T, E1F, E2T, E2F, E3T, E3F, G1T, G1F, G2T, G2F, G3F, inb_T, inb_L, isB_0, isB_1, isB_b, nI_add, L_add1, L_add2, nI_cl, L_cl, bI_T, bI_F, eq_self, not_true_eq_false, not_false_eq_true, ↓bd_of e1, u1, ew, wr_same]
            · simp (disch := omega) only [↓lt_eq, ↓reduceIte, ↓un1, ↓un2, ↓un3, ↓un4, ↓bd_some, ↓bind_some', ↓sel_l, ↓sel_r, C1T, C1F, C2T, C2F, C3T, C3F, D1T, D1F, D2T, D2F, D3T, D3F, E1T, E1F, E2T, E2F, E3T, E3F, G1T, G1F, G2T, G2F, G3F, inb_T, inb_L, isB_0, isB_1, isB_b, nI_add, L_add1, L_add2, nI_cl, L_cl, bI_T, bI_F, eq_self, not_true_eq_false, not_false_eq_true, ↓bd_of e1, ew, wr_same]
          · have hlt : tkC c n p < 256 := by
              rcases hrg with z | z
              · exact absurd (hrs.mpr z) b3
              · exact z.2
            have hrc : rc (tkC c n p) = tkC c n p := by unfold rc; rw [if_neg (by omega), if_neg (by omega), if_neg (by omega)]
            rw [hrc] at e1 b3
            have e2 := M12_sortOf (t := tkC c n p) (by omega) u
            by_cases bs : sortN (tkC c n p) = 0
            · by_cases b6 : tkC c n p = 116
              · have hL0 : hL h = 0 := by
                  rcases Nat.eq_zero_or_pos (hL h) with z | z
                  · exact z
                  · exact absurd ⟨b6, z⟩ cT
                simp (disch := omega) only [↓lt_eq, ↓reduceIte, ↓un1, ↓un2, ↓un3, ↓un4, ↓bd_some, ↓bind_some', ↓sel_l, ↓sel_r, C1T, C1F, C2T, C2F, C3T, C3F, D1T, D1F, D2T, D2F, D3T, D3F, E1T, E1F, E2T, E2F, E3T, E3F, G1T, G1F, G2T, G2F, G3F, inb_T, inb_L, isB_0, isB_1, isB_b, nI_add, L_add1, L_add2, nI_cl, L_cl, bI_T, bI_F, eq_self, not_true_eq_false, not_false_eq_true, ↓bd_of e1, ↓bd_of e2, u0, ew, wr_same]
              · simp (disch := omega) only [↓lt_eq, ↓reduceIte, ↓un1, ↓un2, ↓un3, ↓un4, ↓bd_some, ↓bind_some', ↓sel_l, ↓sel_r, C1T, C1F, C2T, C2F, C3T, C3F, D1T, D1F, D2T, D2F, D3T, D3F, E1T, E1F, E2T, E2F, E3T, E3F, G1T, G1F, G2T, G2F, G3F, inb_T, inb_L, isB_0, isB_1, isB_b, nI_add, L_add1, L_add2, nI_cl, L_cl, bI_T, bI_F, eq_self, not_true_eq_false, not_false_eq_true, ↓bd_of e1, ↓bd_of e2, ew, wr_same]
            · have hN0 : ¬ hN h = 0 := fun z => cS ⟨by omega, z⟩
              have b6 : ¬ tkC c n p = 116 := fun z => bs (by rw [z]; rfl)
              simp (disch := omega) only [↓lt_eq, ↓reduceIte, ↓un1, ↓un2, ↓un3, ↓un4, ↓bd_some, ↓bind_some', ↓sel_l, ↓sel_r, C1T, C1F, C2T, C2F, C3T, C3F, D1T, D1F, D2T, D2F, D3T, D3F, E1T, E1F, E2T, E2F, E3T, E3F, G1T, G1F, G2T, G2F, G3F, inb_T, inb_L, isB_0, isB_1, isB_b, nI_add, L_add1, L_add2, nI_cl, L_cl, bI_T, bI_F, eq_self, not_true_eq_false, not_false_eq_true, ↓bd_of e1, ↓bd_of e2, u1, ew, wr_same]
  · right
    refine ⟨t, ?_, q1, q2⟩
    unfold f_X12_reads_L69
    simp (disch := omega) only [↓lt_eq, ↓reduceIte, ↓un1, ↓un2, ↓un3, ↓un4, ↓bd_some, ↓bind_some', ↓sel_l, ↓sel_r, C1T, C1F, C2T, C2F, C3T, C3F, D1T, D1F, D2T, D2F, D3T, D3F, E1T, E1F, E2T, E2F, E3T, E3F, G1T, G1F, G2T, G2F, G3F, inb_T, inb_L, isB_0, isB_1, isB_b, nI_add, L_add1, L_add2, nI_cl, L_cl, bI_T, bI_F, eq_self, not_true_eq_false, not_false_eq_true]
theorem M_reads {c : Nat → Nat} {n : Nat} {s : St} (ht : TapeM c n s) : Ok (f_X12_reads s) (fun t => MFin c n (parseA c n) t ∧ FrD s t) := by
  have fr0 : FrR s (wr s 259 11 0) := ⟨fun b z => wr_a z, fun k z _ _ => wr_k z⟩
  obtain ⟨⟨w, s2⟩, e1, k1, k2, k3, k4, k5⟩ := M_token (p := 0) (fr0.tape ht) (Nat.zero_le n) (wr_same s 259 11 0)
  simp only at k1 k2 k3 k4 k5
  subst k1
  have hle := tkC_leM (p := 0) ht
  have hrl := rc_le hle
  have hr : ∃ x, x ≤ 1 ∧ (rc (tkC c n 0) = 109 → x = 0) ∧ (¬ rc (tkC c n 0) = 109 → x = 1) ∧ RR c n (takeA c n 109 0) (wr s2 259 14 (nI x)) := by
    unfold takeA
    by_cases q : tkC c n 0 = 109
    · refine ⟨0, by omega, fun _ => rfl, fun z => absurd ((rc_eq (by omega) (by omega)).mpr q) z, ?_⟩
      rw [if_pos q]
      exact ⟨tkE_le (Nat.zero_le n), (FrW.w).tape (k5.tape (fr0.tape ht)), wr_same _ _ _ _, by rw [wr_k (by omega)]; exact k3 (by omega)⟩
    · refine ⟨1, by omega, fun z => absurd ((rc_eq (by omega) (by omega)).mp z) q, fun _ => rfl, ?_⟩
      rw [if_neg q]
      exact ⟨wr_same _ _ _ _, by omega, by omega, by rw [wr_k (by omega)]; exact k2⟩
  obtain ⟨x, hx1, hx2, hx3, hrr⟩ := hr
  generalize hs4 : wr (wr (wr s2 259 14 (nI x)) 268 0 0) 268 1 0 = s4
  have y4 : ∀ b, ¬ (268 ≤ b ∧ b ≤ 271) → s4 b = wr s2 259 14 (nI x) b := fun b hb => by rw [← hs4, wr_a (by omega), wr_a (by omega)]
  have y40 : s4 268 0 = nI 0 := by rw [← hs4, wr_k (by omega), wr_same]; rfl
  have y41 : s4 268 1 = nI 0 := by rw [← hs4, wr_same]; rfl
  obtain ⟨⟨v, s5⟩, t5, k6, m6, l6⟩ := M_wants (lo := 1) (hi := 60) (hrr.u y4) (by omega) (by omega)
  simp only at k6 m6 l6
  have t5 : f_X12_wants 1 60 s4 = some (v, s5) := t5
  have y6 : ∀ b, ¬ (268 ≤ b ∧ b ≤ 271) → wr s5 268 2 v b = s5 b := fun b hb => wr_a (by omega)
  obtain ⟨s7, t7, k7, l7⟩ := M_sign (w := 59) (k6.u y6) (by omega) (by omega)
  have t7 : f_X12_sign 59 (wr s5 268 2 v) = some s7 := t7
  have fr7 : FrD s s7 := (FrD.r (fr0.tr k5)).tr ((FrD.w FrW.w).tr ((FrD.u y4).tr ((FrD.w l6).tr ((FrD.u y6).tr (FrD.w l7)))))
  have z0 : s7 268 0 = nI 0 := by rw [l7.1 268 (by omega), wr_k (by omega), l6.1 268 (by omega)]; exact y40
  have z1 : s7 268 1 = nI 0 := by rw [l7.1 268 (by omega), wr_k (by omega), l6.1 268 (by omega)]; exact y41
  have z2 : s7 268 2 = v := by rw [l7.1 268 (by omega), wr_same]
  have hlaw : (∃ e, lawA c n = .inl e ∧ RR c n (.inl e) s7) ∨ ∃ y, lawA c n = .inr y ∧ RR c n (.inr y.2) s7 ∧ v = nI y.1 := by
    unfold lawA
    cases h1 : takeA c n 109 0 with
    | inl e => rw [h1] at k7; exact Or.inl ⟨e, rfl, k7⟩
    | inr p =>
      rw [h1] at k7 m6
      show (∃ e, sb (numA c n 1 60 p) _ = .inl e ∧ _) ∨ ∃ y, sb (numA c n 1 60 p) _ = .inr y ∧ _
      have zz : sb (.inr p) (numA c n 1 60) = numA c n 1 60 p := rfl
      rw [zz] at k7 m6
      cases h2 : numA c n 1 60 p with
      | inl e => rw [h2] at k7; exact Or.inl ⟨e, rfl, k7⟩
      | inr y =>
        rw [h2] at k7 m6
        have hv : v = nI y.1 := m6 y rfl
        have k7 : RR c n (takeA c n 59 y.2) s7 := k7
        show (∃ e, sb (takeA c n 59 y.2) _ = .inl e ∧ _) ∨ ∃ y', sb (takeA c n 59 y.2) _ = .inr y' ∧ _
        cases h3 : takeA c n 59 y.2 with
        | inl e => rw [h3] at k7; exact Or.inl ⟨e, rfl, k7⟩
        | inr q => rw [h3] at k7; exact Or.inr ⟨(y.1, q), rfl, k7, hv⟩
  rcases hlaw with ⟨e, q1, q2⟩ | ⟨y, q1, q2, q3⟩
  · refine ⟨s7, ?_, Or.inl ⟨e, by unfold parseA; rw [q1]; rfl, q2⟩, fr7⟩
    obtain ⟨a1, a2, a3, a4⟩ := q2
    have hloop : loopF f_X12_reads_L69 5000 ((0 : Int32), s7) = some s7 := by
      have : f_X12_reads_L69 ((0 : Int32), s7) = some (.inr s7) := by
        unfold f_X12_reads_L69
        simp (disch := omega) only [↓lt_eq, ↓reduceIte, ↓un1, ↓un2, ↓un3, ↓un4, ↓bd_some, ↓bind_some', ↓sel_l, ↓sel_r, C1T, C1F, C2T, C2F, C3T, C3F, D1T, D1F, D2T, D2F, D3T, D3F, E1T, E1F, E2T, E2F, E3T, E3F, G1T, G1F, G2T, G2F, G3F, inb_T, inb_L, isB_0, isB_1, isB_b, nI_add, L_add1, L_add2, nI_cl, L_cl, bI_T, bI_F, eq_self, not_true_eq_false, not_false_eq_true]
      unfold loopF
      rw [this]
    unfold f_X12_reads
    by_cases q : rc (tkC c n 0) = 109
    · have hs4 : wr (wr (wr s2 259 14 0) 268 0 0) 268 1 0 = s4 := by rw [← hs4, hx2 q]; rfl
      simp (disch := omega) only [↓lt_eq, ↓reduceIte, ↓un1, ↓un2, ↓un3, ↓un4, ↓bd_some, ↓bind_some', ↓sel_l, ↓sel_r, C1T, C1F, C2T, C2F, C3T, C3F, D1T, D1F, D2T, D2F, D3T, D3F, E1T, E1F, E2T, E2F, E3T, E3F, G1T, G1F, G2T, G2F, G3F, inb_T, inb_L, isB_0, isB_1, isB_b, nI_add, L_add1, L_add2, nI_cl, L_cl, bI_T, bI_F, eq_self, not_true_eq_false, not_false_eq_true, ↓bd_of e1, hs4, ↓bd_of t5, ↓bind_of t7, a1, ↓bind_of hloop]
    · have hs4 : wr (wr (wr s2 259 14 1) 268 0 0) 268 1 0 = s4 := by rw [← hs4, hx3 q]; rfl
      simp (disch := omega) only [↓lt_eq, ↓reduceIte, ↓un1, ↓un2, ↓un3, ↓un4, ↓bd_some, ↓bind_some', ↓sel_l, ↓sel_r, C1T, C1F, C2T, C2F, C3T, C3F, D1T, D1F, D2T, D2F, D3T, D3F, E1T, E1F, E2T, E2F, E3T, E3F, G1T, G1F, G2T, G2F, G3F, inb_T, inb_L, isB_0, isB_1, isB_b, nI_add, L_add1, L_add2, nI_cl, L_cl, bI_T, bI_F, eq_self, not_true_eq_false, not_false_eq_true, ↓bd_of e1, hs4, ↓bd_of t5, ↓bind_of t7, a1, ↓bind_of hloop]
  · have hrm : RM s7 (h00 y.1) := ⟨z0, z1, by rw [z2]; exact q3, fun l hl => absurd hl (Nat.not_lt_zero l), fun t ht => absurd ht (Nat.not_lt_zero t)⟩
    obtain ⟨s8, e8, k8, l8⟩ := M_readsLoop (R := parseA c n) (h0 := h00 y.1) (p0 := y.2) (by unfold parseA; rw [q1]; rfl) q2 hrm (PH.h00 (lawA_le q1)) rfl
    refine ⟨s8, ?_, k8, fr7.tr l8⟩
    have a1 : s7 259 14 = 0 := q2.2.2.1
    unfold f_X12_reads
    by_cases q : rc (tkC c n 0) = 109
    · have hs4 : wr (wr (wr s2 259 14 0) 268 0 0) 268 1 0 = s4 := by rw [← hs4, hx2 q]; rfl
      simp (disch := omega) only [↓lt_eq, ↓reduceIte, ↓un1, ↓un2, ↓un3, ↓un4, ↓bd_some, ↓bind_some', ↓sel_l, ↓sel_r, C1T, C1F, C2T, C2F, C3T, C3F, D1T, D1F, D2T, D2F, D3T, D3F, E1T, E1F, E2T, E2F, E3T, E3F, G1T, G1F, G2T, G2F, G3F, inb_T, inb_L, isB_0, isB_1, isB_b, nI_add, L_add1, L_add2, nI_cl, L_cl, bI_T, bI_F, eq_self, not_true_eq_false, not_false_eq_true, ↓bd_of e1, hs4, ↓bd_of t5, ↓bind_of t7, a1, ↓bind_of e8]
    · have hs4 : wr (wr (wr s2 259 14 1) 268 0 0) 268 1 0 = s4 := by rw [← hs4, hx3 q]; rfl
      simp (disch := omega) only [↓lt_eq, ↓reduceIte, ↓un1, ↓un2, ↓un3, ↓un4, ↓bd_some, ↓bind_some', ↓sel_l, ↓sel_r, C1T, C1F, C2T, C2F, C3T, C3F, D1T, D1F, D2T, D2F, D3T, D3F, E1T, E1F, E2T, E2F, E3T, E3F, G1T, G1F, G2T, G2F, G3F, inb_T, inb_L, isB_0, isB_1, isB_b, nI_add, L_add1, L_add2, nI_cl, L_cl, bI_T, bI_F, eq_self, not_true_eq_false, not_false_eq_true, ↓bd_of e1, hs4, ↓bd_of t5, ↓bind_of t7, a1, ↓bind_of e8]
/-! the text becomes the house -/
theorem M_told {σ : St} : Ok (loopF f_X12_house_L34 5000 ((0 : Int32), σ)) (fun s => (∀ k, k < 13 → s 261 k = σ 268 k) ∧ (∀ k, 13 ≤ k → s 261 k = σ 261 k) ∧ ∀ b, b ≠ 261 → s b = σ b) := by
  refine loop_n (fun i (x : Int32 × St) => x.1 = nI i ∧ (∀ k, k < i → x.2 261 k = σ 268 k) ∧ (∀ k, 13 ≤ k → x.2 261 k = σ 261 k) ∧ ∀ b, b ≠ 261 → x.2 b = σ b) _ 13 5000 _ (by omega) ⟨rfl, fun k q => absurd q (by omega), fun _ _ => rfl, fun _ _ => rfl⟩ ?_ ?_
  · rintro i ⟨v, s⟩ hi ⟨q0, q1, q2, q3⟩
    simp only at q0 q1 q2 q3
    subst q0
    refine ⟨(nI (i + 1), wr s 261 i (s 268 i)), ?_, rfl, ?_, ?_, ?_⟩
    · unfold f_X12_house_L34
      simp (disch := omega) only [↓lt_eq, ↓reduceIte, ↓un1, ↓un2, ↓un3, ↓un4, ↓bd_some, ↓bind_some', ↓sel_l, ↓sel_r, C1T, C1F, C2T, C2F, C3T, C3F, D1T, D1F, D2T, D2F, D3T, D3F, E1T, E1F, E2T, E2F, E3T, E3F, G1T, G1F, G2T, G2F, G3F, inb_T, inb_L, isB_0, isB_1, isB_b, nI_add, L_add1, L_add2, nI_cl, L_cl, bI_T, bI_F, eq_self, not_true_eq_false, not_false_eq_true]
    · intro k hk
      simp only [wr_eq]
      by_cases z : k = i
      · rw [if_pos ⟨trivial, z⟩, q3 268 (by omega), z]
      · rw [if_neg (by omega)]; exact q1 k (by omega)
    · intro k hk
      simp only [wr_eq]
      rw [if_neg (by omega)]; exact q2 k hk
    · intro b hb
      simp only [wr_a hb]
      exact q3 b hb
  · rintro ⟨v, s⟩ ⟨q0, q1, q2, q3⟩
    simp only at q0 q1 q2 q3
    subst q0
    refine ⟨s, ?_, q1, q2, q3⟩
    unfold f_X12_house_L34
    simp (disch := omega) only [↓lt_eq, ↓reduceIte, ↓un1, ↓un2, ↓un3, ↓un4, ↓bd_some, ↓bind_some', ↓sel_l, ↓sel_r, C1T, C1F, C2T, C2F, C3T, C3F, D1T, D1F, D2T, D2F, D3T, D3F, E1T, E1F, E2T, E2F, E3T, E3F, G1T, G1F, G2T, G2F, G3F, inb_T, inb_L, isB_0, isB_1, isB_b, nI_add, L_add1, L_add2, nI_cl, L_cl, bI_T, bI_F, eq_self, not_true_eq_false, not_false_eq_true]
theorem M_zero {σ : St} : Ok (loopF f_X12_house_L60 5000 ((0 : Int32), σ)) (fun s => (∀ k, k < 27 → s 260 k = 0) ∧ (∀ k, 27 ≤ k → s 260 k = σ 260 k) ∧ ∀ b, b ≠ 260 → s b = σ b) := by
  refine loop_n (fun i (x : Int32 × St) => x.1 = nI i ∧ (∀ k, k < i → x.2 260 k = 0) ∧ (∀ k, 27 ≤ k → x.2 260 k = σ 260 k) ∧ ∀ b, b ≠ 260 → x.2 b = σ b) _ 27 5000 _ (by omega) ⟨rfl, fun k q => absurd q (by omega), fun _ _ => rfl, fun _ _ => rfl⟩ ?_ ?_
  · rintro i ⟨v, s⟩ hi ⟨q0, q1, q2, q3⟩
    simp only at q0 q1 q2 q3
    subst q0
    refine ⟨(nI (i + 1), wr s 260 i 0), ?_, rfl, ?_, ?_, ?_⟩
    · unfold f_X12_house_L60
      simp (disch := omega) only [↓lt_eq, ↓reduceIte, ↓un1, ↓un2, ↓un3, ↓un4, ↓bd_some, ↓bind_some', ↓sel_l, ↓sel_r, C1T, C1F, C2T, C2F, C3T, C3F, D1T, D1F, D2T, D2F, D3T, D3F, E1T, E1F, E2T, E2F, E3T, E3F, G1T, G1F, G2T, G2F, G3F, inb_T, inb_L, isB_0, isB_1, isB_b, nI_add, L_add1, L_add2, nI_cl, L_cl, bI_T, bI_F, eq_self, not_true_eq_false, not_false_eq_true]
    · intro k hk
      simp only [wr_eq]
      by_cases z : k = i
      · rw [if_pos ⟨trivial, z⟩]
      · rw [if_neg (by omega)]; exact q1 k (by omega)
    · intro k hk
      simp only [wr_eq]
      rw [if_neg (by omega)]; exact q2 k hk
    · intro b hb
      simp only [wr_a hb]
      exact q3 b hb
  · rintro ⟨v, s⟩ ⟨q0, q1, q2, q3⟩
    simp only at q0 q1 q2 q3
    subst q0
    refine ⟨s, ?_, q1, q2, q3⟩
    unfold f_X12_house_L60
    simp (disch := omega) only [↓lt_eq, ↓reduceIte, ↓un1, ↓un2, ↓un3, ↓un4, ↓bd_some, ↓bind_some', ↓sel_l, ↓sel_r, C1T, C1F, C2T, C2F, C3T, C3F, D1T, D1F, D2T, D2F, D3T, D3F, E1T, E1F, E2T, E2F, E3T, E3F, G1T, G1F, G2T, G2F, G3F, inb_T, inb_L, isB_0, isB_1, isB_b, nI_add, L_add1, L_add2, nI_cl, L_cl, bI_T, bI_F, eq_self, not_true_eq_false, not_false_eq_true]
theorem M_ratesIn {σ : St} {L : Nat} (e0 : σ 261 0 = nI L) (hL : L ≤ 4) : Ok (loopF f_X12_house_L81 5000 ((0 : Int32), σ)) (fun s => (∀ l, l < L → s 260 (8 + l) = σ 269 l) ∧ (∀ k, k < 8 ∨ 8 + L ≤ k → s 260 k = σ 260 k) ∧ ∀ b, b ≠ 260 → s b = σ b) := by
  refine loop_n (fun i (x : Int32 × St) => x.1 = nI i ∧ (∀ l, l < i → x.2 260 (8 + l) = σ 269 l) ∧ (∀ k, k < 8 ∨ 8 + i ≤ k → x.2 260 k = σ 260 k) ∧ ∀ b, b ≠ 260 → x.2 b = σ b) _ L 5000 _ (by omega) ⟨rfl, fun k q => absurd q (by omega), fun _ _ => rfl, fun _ _ => rfl⟩ ?_ ?_
  · rintro i ⟨v, s⟩ hi ⟨q0, q1, q2, q3⟩
    simp only at q0 q1 q2 q3
    subst q0
    have e1 : s 261 0 = nI L := by rw [q3 261 (by omega)]; exact e0
    refine ⟨(nI (i + 1), wr s 260 (8 + i) (s 269 i)), ?_, rfl, ?_, ?_, ?_⟩
    · unfold f_X12_house_L81
      simp (disch := omega) only [↓lt_eq, ↓reduceIte, ↓un1, ↓un2, ↓un3, ↓un4, ↓bd_some, ↓bind_some', ↓sel_l, ↓sel_r, C1T, C1F, C2T, C2F, C3T, C3F, D1T, D1F, D2T, D2F, D3T, D3F, E1T, E1F, E2T, E2F, E3T, E3F, G1T, G1F, G2T, G2F, G3F, inb_T, inb_L, isB_0, isB_1, isB_b, nI_add, L_add1, L_add2, nI_cl, L_cl, bI_T, bI_F, eq_self, not_true_eq_false, not_false_eq_true, e1]
    · intro k hk
      simp only [wr_eq]
      by_cases z : k = i
      · rw [if_pos ⟨trivial, by omega⟩, q3 269 (by omega), z]
      · rw [if_neg (by omega)]; exact q1 k (by omega)
    · intro k hk
      simp only [wr_eq]
      rw [if_neg (by omega)]; exact q2 k (by omega)
    · intro b hb
      simp only [wr_a hb]
      exact q3 b hb
  · rintro ⟨v, s⟩ ⟨q0, q1, q2, q3⟩
    simp only at q0 q1 q2 q3
    subst q0
    have e1 : s 261 0 = nI L := by rw [q3 261 (by omega)]; exact e0
    refine ⟨s, ?_, q1, q2, q3⟩
    unfold f_X12_house_L81
    simp (disch := omega) only [↓lt_eq, ↓reduceIte, ↓un1, ↓un2, ↓un3, ↓un4, ↓bd_some, ↓bind_some', ↓sel_l, ↓sel_r, C1T, C1F, C2T, C2F, C3T, C3F, D1T, D1F, D2T, D2F, D3T, D3F, E1T, E1F, E2T, E2F, E3T, E3F, G1T, G1F, G2T, G2F, G3F, inb_T, inb_L, isB_0, isB_1, isB_b, nI_add, L_add1, L_add2, nI_cl, L_cl, bI_T, bI_F, eq_self, not_true_eq_false, not_false_eq_true, e1]
theorem M_thingsIn {σ : St} {N : Nat} (e0 : σ 261 1 = nI N) (hN : N ≤ 6) : Ok (loopF f_X12_house_L114 5000 ((0 : Int32), σ)) (fun s => (∀ t, t < N → s 260 (12 + t) = σ 270 t ∧ s 260 (18 + t) = σ 271 t) ∧ (∀ k, k < 12 ∨ 24 ≤ k → s 260 k = σ 260 k) ∧ ∀ b, b ≠ 260 → s b = σ b) := by
  refine loop_n (fun i (x : Int32 × St) => x.1 = nI i ∧ (∀ t, t < i → x.2 260 (12 + t) = σ 270 t ∧ x.2 260 (18 + t) = σ 271 t) ∧ (∀ k, k < 12 ∨ 24 ≤ k → x.2 260 k = σ 260 k) ∧ ∀ b, b ≠ 260 → x.2 b = σ b) _ N 5000 _ (by omega) ⟨rfl, fun k q => absurd q (by omega), fun _ _ => rfl, fun _ _ => rfl⟩ ?_ ?_
  · rintro i ⟨v, s⟩ hi ⟨q0, q1, q2, q3⟩
    simp only at q0 q1 q2 q3
    subst q0
    have e1 : s 261 1 = nI N := by rw [q3 261 (by omega)]; exact e0
    have w1 : wr s 260 (12 + i) (s 270 i) 271 i = s 271 i := by rw [wr_a (by omega)]
    refine ⟨(nI (i + 1), wr (wr s 260 (12 + i) (s 270 i)) 260 (18 + i) (s 271 i)), ?_, rfl, ?_, ?_, ?_⟩
    · unfold f_X12_house_L114
      simp (disch := omega) only [↓lt_eq, ↓reduceIte, ↓un1, ↓un2, ↓un3, ↓un4, ↓bd_some, ↓bind_some', ↓sel_l, ↓sel_r, C1T, C1F, C2T, C2F, C3T, C3F, D1T, D1F, D2T, D2F, D3T, D3F, E1T, E1F, E2T, E2F, E3T, E3F, G1T, G1F, G2T, G2F, G3F, inb_T, inb_L, isB_0, isB_1, isB_b, nI_add, L_add1, L_add2, nI_cl, L_cl, bI_T, bI_F, eq_self, not_true_eq_false, not_false_eq_true, e1, w1]
    · intro k hk
      simp only [wr_eq]
      by_cases z : k = i
      · refine ⟨?_, ?_⟩
        · rw [if_neg (by omega), if_pos ⟨trivial, by omega⟩, q3 270 (by omega), z]
        · rw [if_pos ⟨trivial, by omega⟩, q3 271 (by omega), z]
      · refine ⟨?_, ?_⟩
        · rw [if_neg (by omega), if_neg (by omega)]; exact (q1 k (by omega)).1
        · rw [if_neg (by omega), if_neg (by omega)]; exact (q1 k (by omega)).2
    · intro k hk
      simp only [wr_eq]
      rw [if_neg (by omega), if_neg (by omega)]; exact q2 k (by omega)
    · intro b hb
      simp only [wr_a hb]
      exact q3 b hb
  · rintro ⟨v, s⟩ ⟨q0, q1, q2, q3⟩
    simp only at q0 q1 q2 q3
    subst q0
    have e1 : s 261 1 = nI N := by rw [q3 261 (by omega)]; exact e0
    refine ⟨s, ?_, q1, q2, q3⟩
    unfold f_X12_house_L114
    simp (disch := omega) only [↓lt_eq, ↓reduceIte, ↓un1, ↓un2, ↓un3, ↓un4, ↓bd_some, ↓bind_some', ↓sel_l, ↓sel_r, C1T, C1F, C2T, C2F, C3T, C3F, D1T, D1F, D2T, D2F, D3T, D3F, E1T, E1F, E2T, E2F, E3T, E3F, G1T, G1F, G2T, G2F, G3F, inb_T, inb_L, isB_0, isB_1, isB_b, nI_add, L_add1, L_add2, nI_cl, L_cl, bI_T, bI_F, eq_self, not_true_eq_false, not_false_eq_true, e1]
theorem step_house : Step Inv f_X11_house f_X12_house := by
  intro σ hI
  obtain ⟨hR, ⟨n, tp1, tp2, tp3, tp4⟩, hF, hT, h0, o, n0, ac, im, hn, ha, hi⟩ := id hI
  have hch : ∃ c : Nat → Nat, ∀ i, i < n → c i < 256 ∧ σ 3 i = nI (c i) ∧ σ 267 i = (nI (c i)).toInt8.toInt32 := by
    refine ⟨fun i => if q : i < n then (tp4 i q).choose else 0, fun i q => ?_⟩
    have := (tp4 i q).choose_spec
    simp only [dif_pos q]
    exact this
  obtain ⟨c, hc⟩ := hch
  have hX : TapeX c n σ := ⟨tp1, tp2, fun i q => ⟨(hc i q).1, (hc i q).2.1⟩⟩
  obtain ⟨⟨v, s1⟩, e1, k1, k2, k3⟩ := X_readInto hX
  simp only at k1 k2 k3
  -- what the class does behind it
  have hMt : ∀ t : St, (∀ b, 259 ≤ b → t b = σ b) → TapeM c n t := fun t q => ⟨tp1, by rw [q 259 (by omega)]; exact tp3, fun i z => ⟨(hc i z).1, by rw [q 267 (by omega)]; exact (hc i z).2.2⟩⟩
  rcases k1 with ⟨e, p1, p2, p3, p4, p5⟩ | ⟨h, p1, p2, p3, p4, p5, p6⟩
  · -- a fault
    subst p2
    generalize hs2 : wr s1 0 10 (nI e.1) = s2
    have y : ∀ b, b ≠ 0 → s2 b = s1 b := fun b z => by rw [← hs2, wr_a z]
    have y0 : ∀ k, k ≠ 10 → s2 0 k = σ 0 k := fun k z => by rw [← hs2, wr_k z, k3 0 (by omega) (by unfold blk; omega)]
    obtain ⟨s3, e3, m1, m2⟩ := M_reads (hMt s2 (fun b z => by rw [y b (by omega), k3 b (by omega) (by unfold blk; omega)]))
    rcases m1 with ⟨e', q1, q2⟩ | ⟨h', q1, q2⟩
    · rw [p1] at q1
      cases q1
      obtain ⟨r1, r2, r3, r4⟩ := q2
      generalize hs4 : wr (wr s3 259 9 0) 259 15 (nI e.1) = s4
      refine ⟨(-1000100 : Int32) - nI e.2, s2, s4, ?_, ?_, ?_⟩
      · have w5 : s2 2 5 = nI e.2 := by rw [y 2 (by omega)]; exact p5
        unfold f_X11_house
        simp (disch := omega) only [↓lt_eq, ↓reduceIte, ↓un1, ↓un2, ↓un3, ↓un4, ↓bd_some, ↓bind_some', ↓sel_l, ↓sel_r, C1T, C1F, C2T, C2F, C3T, C3F, D1T, D1F, D2T, D2F, D3T, D3F, E1T, E1F, E2T, E2F, E3T, E3F, G1T, G1F, G2T, G2F, G3F, inb_T, inb_L, isB_0, isB_1, isB_b, nI_add, L_add1, L_add2, nI_cl, L_cl, bI_T, bI_F, eq_self, not_true_eq_false, not_false_eq_true, ↓bd_of e1, hs2, w5]
      · have w14 : wr s3 259 9 0 259 14 = nI e.1 := by rw [wr_k (by omega)]; exact r1
        have w12 : s4 259 12 = nI e.2 := by rw [← hs4, wr_k (by omega), wr_k (by omega)]; exact r4
        unfold f_X12_house
        simp (disch := omega) only [↓lt_eq, ↓reduceIte, ↓un1, ↓un2, ↓un3, ↓un4, ↓bd_some, ↓bind_some', ↓sel_l, ↓sel_r, C1T, C1F, C2T, C2F, C3T, C3F, D1T, D1F, D2T, D2F, D3T, D3F, E1T, E1F, E2T, E2F, E3T, E3F, G1T, G1F, G2T, G2F, G3F, inb_T, inb_L, isB_0, isB_1, isB_b, nI_add, L_add1, L_add2, nI_cl, L_cl, bI_T, bI_F, eq_self, not_true_eq_false, not_false_eq_true, ↓bind_of e3, w14, hs4, w12]
      · have z : ∀ b, b ≠ 0 → b ≠ 2 → ¬ (27 ≤ b ∧ b < 35) → b ≠ 259 → ¬ (268 ≤ b ∧ b ≤ 271) → s4 b = σ b := fun b z1 z2 z3 z4 z5 => by
          rw [← hs4, wr_a z4, wr_a z4, m2.1 b z4 z5, y b z1, k3 b z2 (by unfold blk; omega)]
        have z0 : ∀ k, k ≠ 10 → s4 0 k = σ 0 k := fun k q => by
          rw [← hs4, wr_a (by omega), wr_a (by omega), m2.1 0 (by omega) (by omega)]; exact y0 k q
        have z9 : ∀ k, k ≠ 9 → k ≠ 15 → k ≠ 11 → k ≠ 12 → k ≠ 13 → k ≠ 14 → s4 259 k = σ 259 k := fun k q1 q2 q3 q4 q5 q6 => by
          rw [← hs4, wr_k q2, wr_k q1, m2.2 k q3 q4 q5 q6, y 259 (by omega), k3 259 (by omega) (by unfold blk; omega)]
        refine ⟨hR.fr (fun b q => z b (by omega) (by omega) (by omega) (by omega) (by omega)), ⟨0, by omega, ?_, ?_, fun i q => absurd q (by omega)⟩, ⟨?_, ?_⟩, hT.fr ?_ (z9 20 (by omega) (by omega) (by omega) (by omega) (by omega) (by omega)) (z 12 (by omega) (by omega) (by omega) (by omega) (by omega)) (z 272 (by omega) (by omega) (by omega) (by omega) (by omega)), IHous.fr ⟨h0, o, n0, ac, im, hn, ha, hi⟩ (fun b q => z b (by omega) (by omega) (by omega) (by omega) (by omega)) (z0 6 (by omega)) (z0 7 (by omega)) (z9 3 (by omega) (by omega) (by omega) (by omega) (by omega) (by omega))⟩
        · rw [← hs4, wr_a (by omega), wr_a (by omega), m2.1 2 (by omega) (by omega), y 2 (by omega), k2]; rfl
        · rw [← hs4, wr_k (by omega), wr_same]; rfl
        · rw [← hs4, wr_same, wr_a (by omega), wr_a (by omega), m2.1 0 (by omega) (by omega), ← hs2, wr_same]
        · rw [z0 11 (by omega), z9 8 (by omega) (by omega) (by omega) (by omega) (by omega) (by omega)]; exact hF.2
        · rw [z 11 (by omega) (by omega) (by omega) (by omega) (by omega)]
    · rw [p1] at q1; cases q1
  · -- a house
    subst p2
    obtain ⟨s2, e2, k4, k5⟩ := X_become (a := 19) p3 p4.1 (by omega)
    generalize hs3 : wr (wr s2 0 6 0) 0 7 0 = s3
    have y : ∀ b, b ≠ 0 → s3 b = s2 b := fun b z => by rw [← hs3, wr_a z, wr_a z]
    have y0 : ∀ k, k ≠ 6 → k ≠ 7 → s3 0 k = σ 0 k := fun k z1 z2 => by rw [← hs3, wr_k z2, wr_k z1, k5 0 (by unfold blk; omega), k3 0 (by omega) (by unfold blk; omega)]
    have y6 : s3 0 6 = nI 0 := by rw [← hs3, wr_k (by omega), wr_same]; rfl
    have y7 : s3 0 7 = nI 0 := by rw [← hs3, wr_same]; rfl
    have hx3 : HX 19 s3 h := k4.frame (fun b q => y b (by omega))
    have zc : ∀ b, b ≠ 0 → b ≠ 2 → ¬ (19 ≤ b ∧ b < 35) → s3 b = σ b := fun b z1 z2 z3 => by
      rw [y b z1, k5 b (by unfold blk; omega), k3 b z2 (by unfold blk; omega)]
    have s321 : s3 2 1 = 0 := by rw [y 2 (by omega), k5 2 (by unfold blk; omega)]; exact k2
    obtain ⟨t1, f1, m1, m2⟩ := M_reads (hMt s3 (fun b z => zc b (by omega) (by omega) (by omega)))
    rcases m1 with ⟨e', q1, q2⟩ | ⟨h', q1, q2, q3, q4, q5, q6⟩
    · rw [p1] at q1; cases q1
    · rw [p1] at q1
      cases q1
      obtain ⟨g0, g1, g2, g3, g4⟩ := q3
      have hL4 := p4.1.1
      have hN6 := p4.1.2.1
      generalize ht2 : wr t1 259 9 0 = t2
      have x2 : ∀ b, b ≠ 259 → t2 b = t1 b := fun b z => by rw [← ht2, wr_a z]
      obtain ⟨t3, f3, a1, a2, a3⟩ := M_told (σ := t2)
      obtain ⟨t4, f4, b1, b2, b3⟩ := M_zero (σ := t3)
      have c0 : t4 261 0 = nI (hL h) := by rw [b3 261 (by omega), a1 0 (by omega), x2 268 (by omega)]; exact g0
      have c1 : t4 261 1 = nI (hN h) := by rw [b3 261 (by omega), a1 1 (by omega), x2 268 (by omega)]; exact g1
      obtain ⟨t5, f5, d1, d2, d3⟩ := M_ratesIn c0 hL4
      have c5 : t5 261 1 = nI (hN h) := by rw [d3 261 (by omega)]; exact c1
      obtain ⟨t6, f6, j1, j2, j3⟩ := M_thingsIn c5 hN6
      generalize ht7 : wr t6 259 3 0 = t7
      have c7 : t7 261 0 = nI (hL h) := by rw [← ht7, wr_a (by omega), j3 261 (by omega), d3 261 (by omega)]; exact c0
      refine ⟨nI (hL h), s3, t7, ?_, ?_, ?_⟩
      · have w1 : s3 19 1 = nI (hL h) := hx3.1
        unfold f_X11_house
        simp (disch := omega) only [↓lt_eq, ↓reduceIte, ↓un1, ↓un2, ↓un3, ↓un4, ↓bd_some, ↓bind_some', ↓sel_l, ↓sel_r, C1T, C1F, C2T, C2F, C3T, C3F, D1T, D1F, D2T, D2F, D3T, D3F, E1T, E1F, E2T, E2F, E3T, E3F, G1T, G1F, G2T, G2F, G3F, inb_T, inb_L, isB_0, isB_1, isB_b, nI_add, L_add1, L_add2, nI_cl, L_cl, bI_T, bI_F, eq_self, not_true_eq_false, not_false_eq_true, ↓bd_of e1, ↓bind_of e2, f_X11_forgetActs, bind_some', hs3, w1]
      · have w14 : t2 259 14 = nI 0 := by rw [← ht2, wr_k (by omega)]; exact q2
        unfold f_X12_house
        simp (disch := omega) only [↓lt_eq, ↓reduceIte, ↓un1, ↓un2, ↓un3, ↓un4, ↓bd_some, ↓bind_some', ↓sel_l, ↓sel_r, C1T, C1F, C2T, C2F, C3T, C3F, D1T, D1F, D2T, D2F, D3T, D3F, E1T, E1F, E2T, E2F, E3T, E3F, G1T, G1F, G2T, G2F, G3F, inb_T, inb_L, isB_0, isB_1, isB_b, nI_add, L_add1, L_add2, nI_cl, L_cl, bI_T, bI_F, eq_self, not_true_eq_false, not_false_eq_true, ↓bind_of f1, ht2, w14, ↓bind_of f3, ↓bind_of f4, ↓bind_of f5, ↓bind_of f6, ht7, c7]
      · -- cells
        have u7 : ∀ b, b ≠ 259 → b ≠ 260 → b ≠ 261 → t7 b = t1 b := fun b z1 z2 z3 => by
          rw [← ht7, wr_a z1, j3 b z2, d3 b z2, b3 b z2, a3 b z3, x2 b z1]
        have z : ∀ b, b ≠ 0 → b ≠ 2 → ¬ (19 ≤ b ∧ b < 35) → b ≠ 259 → b ≠ 260 → b ≠ 261 → ¬ (268 ≤ b ∧ b ≤ 271) → t7 b = σ b := fun b z1 z2 z3 z4 z5 z6 z7 => by
          rw [u7 b z4 z5 z6, m2.1 b z4 z7, zc b z1 z2 z3]
        have zx : ∀ b, ¬ (259 ≤ b ∧ b ≤ 261) → ¬ (268 ≤ b ∧ b ≤ 271) → t7 b = s3 b := fun b z1 z2 => by
          rw [u7 b (by omega) (by omega) (by omega), m2.1 b (by omega) z2]
        have z9 : ∀ k, k ≠ 3 → k ≠ 9 → k ≠ 11 → k ≠ 12 → k ≠ 13 → k ≠ 14 → t7 259 k = σ 259 k := fun k q1 q2 q3 q4 q5 q6 => by
          rw [← ht7, wr_k q1, j3 259 (by omega), d3 259 (by omega), b3 259 (by omega), a3 259 (by omega), ← ht2, wr_k q2, m2.2 k q3 q4 q5 q6, zc 259 (by omega) (by omega) (by omega)]
        have z1 : ∀ k, k < 13 → t7 261 k = t1 268 k := fun k hk => by
          rw [← ht7, wr_a (by omega), j3 261 (by omega), d3 261 (by omega), b3 261 (by omega), a1 k hk, x2 268 (by omega)]
        have z13 : ∀ k, 13 ≤ k → t7 261 k = σ 261 k := fun k hk => by
          rw [← ht7, wr_a (by omega), j3 261 (by omega), d3 261 (by omega), b3 261 (by omega), a2 k hk, x2 261 (by omega), m2.1 261 (by omega) (by omega), zc 261 (by omega) (by omega) (by omega)]
        have z27 : ∀ k, 27 ≤ k → t7 260 k = σ 260 k := fun k hk => by
          rw [← ht7, wr_a (by omega), j2 k (by omega), d2 k (by omega), b2 k hk, a3 260 (by omega), x2 260 (by omega), m2.1 260 (by omega) (by omega), zc 260 (by omega) (by omega) (by omega)]
        have zz : ∀ k, k < 8 ∨ (24 ≤ k ∧ k < 27) → t7 260 k = nI 0 := fun k hk => by
          rw [← ht7, wr_a (by omega), j2 k (by omega), d2 k (by omega), b1 k (by omega)]; rfl
        obtain ⟨-, ph1, ph2, ph3, ph4⟩ := id p4
        have hHM : HM 0 0 t7 h := by
          refine ⟨(z1 0 (by omega)).trans g0, (z1 1 (by omega)).trans g1, (z1 2 (by omega)).trans g2, by rw [zz _ (by omega), ph1], by rw [zz _ (by omega), ph2], by rw [zz _ (by omega), ph3]; rfl, fun l hl => ?_, fun t ht => ?_⟩
          · have hl4 : l < 4 := Nat.lt_of_lt_of_le hl hL4
            refine ⟨?_, ?_, ?_, ?_⟩
            · rw [Nat.zero_add, z1 (3 + l) (by omega)]; exact (g3 l hl).1
            · rw [Nat.zero_add, ← ht7, wr_a (by omega), j2 (8 + l) (by omega), d1 l hl, b3 269 (by omega), a3 269 (by omega), x2 269 (by omega)]; exact (g3 l hl).2
            · rw [zz _ (by omega), (ph4 l).1]
            · rw [zz _ (by omega), (ph4 l).2]
          · have ht6 : t < 6 := Nat.lt_of_lt_of_le ht hN6
            obtain ⟨w1, w2, w3⟩ := g4 t ht
            refine ⟨?_, ?_, ?_⟩
            · rw [Nat.zero_add, ← ht7, wr_a (by omega), (j1 t ht).1, d3 270 (by omega), b3 270 (by omega), a3 270 (by omega), x2 270 (by omega)]; exact w1
            · rw [Nat.zero_add, z1 (7 + t) (by omega)]; exact w2
            · rw [Nat.zero_add, ← ht7, wr_a (by omega), (j1 t ht).2, d3 271 (by omega), b3 271 (by omega), a3 271 (by omega), x2 271 (by omega)]; exact w3
        refine ⟨hR.fr (fun b q => z b (by omega) (by omega) (by omega) (by omega) (by omega) (by omega) (by omega)), ⟨0, by omega, ?_, ?_, fun i q => absurd q (by omega)⟩, ⟨?_, ?_⟩, hT.fr ?_ (z9 20 (by omega) (by omega) (by omega) (by omega) (by omega) (by omega)) (z 12 (by omega) (by omega) (by omega) (by omega) (by omega) (by omega) (by omega)) (z 272 (by omega) (by omega) (by omega) (by omega) (by omega) (by omega) (by omega)), h, 0, 0, ac, im, ⟨p4.1, hx3.frame (fun b q => zx b (by omega) (by omega)), by rw [ph1]; omega, fun _ => ⟨p6, hHM⟩, fun q => absurd q (by omega)⟩, ⟨by omega, by omega, ?_, ?_, ?_, fun _ => rfl, fun i q => absurd q (by omega)⟩, fun k hk => ?_⟩
        · rw [zx 2 (by omega) (by omega), s321]; rfl
        · rw [← ht7, wr_k (by omega), j3 259 (by omega), d3 259 (by omega), b3 259 (by omega), a3 259 (by omega), ← ht2, wr_same]; rfl
        · rw [zx 0 (by omega) (by omega), y0 10 (by omega) (by omega), z9 15 (by omega) (by omega) (by omega) (by omega) (by omega) (by omega)]; exact hF.1
        · rw [zx 0 (by omega) (by omega), y0 11 (by omega) (by omega), z9 8 (by omega) (by omega) (by omega) (by omega) (by omega) (by omega)]; exact hF.2
        · rw [z 11 (by omega) (by omega) (by omega) (by omega) (by omega) (by omega) (by omega)]
        · rw [zx 0 (by omega) (by omega)]; exact y6
        · rw [zx 0 (by omega) (by omega)]; exact y7
        · rw [← ht7, wr_same]; rfl
        · rcases hi k hk with ⟨c1, c2⟩ | ⟨c1, c2, c3, c4, c5, c6, c7⟩
          · exact Or.inl ⟨by rw [z 262 (by omega) (by omega) (by omega) (by omega) (by omega) (by omega) (by omega)]; exact c1, by rw [z (51 + 8 * k) (by omega) (by omega) (by omega) (by omega) (by omega) (by omega) (by omega)]; exact c2⟩
          · exact Or.inr ⟨by rw [z 262 (by omega) (by omega) (by omega) (by omega) (by omega) (by omega) (by omega)]; exact c1, c2, c3, c4, c5, c6.frame (fun b q => z b (by omega) (by omega) (by omega) (by omega) (by omega) (by omega) (by omega)), c7.moved c4 (fun j hj => z27 _ (by omega)) (fun j hj => z13 _ (by omega))⟩
