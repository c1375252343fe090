/-! minutes, undo, image, restore -/
def actN (n : Nat) (ac : Nat → Hs) (h : Hs) : Nat → Nat × (Nat → Hs)
  | 0 => (n, ac)
  | i + 1 => (pushN (actN n ac h i).1, pushA (actN n ac h i).1 (actN n ac h i).2 (minN h i))
theorem actN_le {n : Nat} (ac : Nat → Hs) (h : Hs) (hn : n ≤ 24) : ∀ i, (actN n ac h i).1 ≤ 24
  | 0 => hn
  | i + 1 => pushN_le (actN_le ac h hn i)
theorem actN_W {n : Nat} {ac : Nat → Hs} {h : Hs} (hW : ActsW n ac) (hw : WF h) (h0 : 0 < hN h) : ∀ i, hMin h + i ≤ 9999 → ActsW (actN n ac h i).1 (actN n ac h i).2
  | 0, _ => hW
  | i + 1, q => (actN_W hW hw h0 i (by omega)).push (minN_WF hw i (by omega)) (by rw [minN_m]; omega) (by rw [minN_N]; exact h0)
theorem step_minutes (x1 : Int32) : Step Inv (f_X11_minutes x1) (f_X12_minutes x1) := by
  intro σ hI
  obtain ⟨hR, hP, hF, hT, h, o, n, ac, im, hn, ha, hi⟩ := id hI
  have hL4 := hn.L4
  rcases Nat.eq_zero_or_pos (hL h) with hz | hp
  · have e1 := hn.x1
    have e2 := hn.m0
    rw [hz] at e1 e2
    refine step_same (-1000002) hI ?_ ?_
    · unfold f_X11_minutes
      simp (disch := omega) only [↓lt_eq, ↓reduceIte, ↓un1, ↓un2, ↓un3, ↓un4, ↓bd_some, ↓bind_some', ↓sel_l, ↓sel_r, C1T, C1F, C2T, C2F, C3T, C3F, D1T, D1F, D2T, D2F, D3T, D3F, E1T, E1F, E2T, E2F, E3T, E3F, G1T, G1F, G2T, G2F, G3F, inb_T, inb_L, isB_0, isB_1, isB_b, nI_add, L_add1, L_add2, nI_cl, L_cl, bI_T, bI_F, eq_self, not_true_eq_false, not_false_eq_true, ↓bd_of (X_noHouse_1 e1)]
    · unfold f_X12_minutes
      simp (disch := omega) only [↓lt_eq, ↓reduceIte, ↓un1, ↓un2, ↓un3, ↓un4, ↓bd_some, ↓bind_some', ↓sel_l, ↓sel_r, C1T, C1F, C2T, C2F, C3T, C3F, D1T, D1F, D2T, D2F, D3T, D3F, E1T, E1F, E2T, E2F, E3T, E3F, G1T, G1F, G2T, G2F, G3F, inb_T, inb_L, isB_0, isB_1, isB_b, nI_add, L_add1, L_add2, nI_cl, L_cl, bI_T, bI_F, eq_self, not_true_eq_false, not_false_eq_true, ↓bd_of (M_isHouse_0 e2)]
  rcases rng x1 (lo := 1) (hi := 24) 1 24 (by decide) (by decide) (by omega) (by omega) with q | ⟨d, d1, d2, rfl⟩
  · refine step_same (-1000001) hI ?_ ?_
    · unfold f_X11_minutes
      simp (disch := omega) only [↓lt_eq, ↓reduceIte, ↓un1, ↓un2, ↓un3, ↓un4, ↓bd_some, ↓bind_some', ↓sel_l, ↓sel_r, C1T, C1F, C2T, C2F, C3T, C3F, D1T, D1F, D2T, D2F, D3T, D3F, E1T, E1F, E2T, E2F, E3T, E3F, G1T, G1F, G2T, G2F, G3F, inb_T, inb_L, isB_0, isB_1, isB_b, nI_add, L_add1, L_add2, nI_cl, L_cl, bI_T, bI_F, eq_self, not_true_eq_false, not_false_eq_true, ↓bd_of (X_noHouse_0 hn.x1 hp hL4), ↓ite_out1 q]
    · unfold f_X12_minutes
      simp (disch := omega) only [↓lt_eq, ↓reduceIte, ↓un1, ↓un2, ↓un3, ↓un4, ↓bd_some, ↓bind_some', ↓sel_l, ↓sel_r, C1T, C1F, C2T, C2F, C3T, C3F, D1T, D1F, D2T, D2F, D3T, D3F, E1T, E1F, E2T, E2F, E3T, E3F, G1T, G1F, G2T, G2F, G3F, inb_T, inb_L, isB_0, isB_1, isB_b, nI_add, L_add1, L_add2, nI_cl, L_cl, bI_T, bI_F, eq_self, not_true_eq_false, not_false_eq_true, ↓bd_of (M_isHouse_1 hn.m0 hp hL4), ↓bd_of (M_out (lo := 1) (hi := 24) (L := 1) (H := 24) (by decide) (by decide) q)]
  have hw := hn.1
  have e4 := hn.2.1.2.2.2.1
  have hmm := hn.2.2.1
  by_cases c : ¬ hMin h + d ≤ 9999
  · refine step_same (-1000003) hI ?_ ?_
    · unfold f_X11_minutes
      simp (disch := omega) only [↓lt_eq, ↓reduceIte, ↓un1, ↓un2, ↓un3, ↓un4, ↓bd_some, ↓bind_some', ↓sel_l, ↓sel_r, C1T, C1F, C2T, C2F, C3T, C3F, D1T, D1F, D2T, D2F, D3T, D3F, E1T, E1F, E2T, E2F, E3T, E3F, G1T, G1F, G2T, G2F, G3F, inb_T, inb_L, isB_0, isB_1, isB_b, nI_add, L_add1, L_add2, nI_cl, L_cl, bI_T, bI_F, eq_self, not_true_eq_false, not_false_eq_true, ↓bd_of (X_noHouse_0 hn.x1 hp hL4), e4]
    · unfold f_X12_minutes
      simp (disch := omega) only [↓lt_eq, ↓reduceIte, ↓un1, ↓un2, ↓un3, ↓un4, ↓bd_some, ↓bind_some', ↓sel_l, ↓sel_r, C1T, C1F, C2T, C2F, C3T, C3F, D1T, D1F, D2T, D2F, D3T, D3F, E1T, E1F, E2T, E2F, E3T, E3F, G1T, G1F, G2T, G2F, G3F, inb_T, inb_L, isB_0, isB_1, isB_b, nI_add, L_add1, L_add2, nI_cl, L_cl, bI_T, bI_F, eq_self, not_true_eq_false, not_false_eq_true, ↓bd_of (M_isHouse_1 hn.m0 hp hL4), ↓bd_of (M_inn (σ := σ) (L := 1) (H := 24) (a := 1) (b := 24) (by decide) (by decide) d1 d2 (by decide)), hn.m26]
  have c := Decidable.not_not.mp c
  have h0 := (hn.2.2.2.1 hp).1
  have hwd := minN_WF hw d (by omega)
  refine step_act (h' := minN h d) (n' := (actN n ac h d).1) (ac' := (actN n ac h d).2) (orT (live (minN h d)) (hL h)) hI hn hi hwd (by rw [minN_m]; exact c) (by rw [minN_L]; exact hp) (by rw [minN_N]; exact h0) (actN_le ac h ha.2.1 d) (actN_W ha.w hw h0 d c) ?_ (fun s hc => ?_)
  · unfold f_X11_minutes
    simp (disch := omega) only [↓lt_eq, ↓reduceIte, ↓un1, ↓un2, ↓un3, ↓un4, ↓bd_some, ↓bind_some', ↓sel_l, ↓sel_r, C1T, C1F, C2T, C2F, C3T, C3F, D1T, D1F, D2T, D2F, D3T, D3F, E1T, E1F, E2T, E2F, E3T, E3F, G1T, G1F, G2T, G2F, G3F, inb_T, inb_L, isB_0, isB_1, isB_b, nI_add, L_add1, L_add2, nI_cl, L_cl, bI_T, bI_F, eq_self, not_true_eq_false, not_false_eq_true, ↓bd_of (X_noHouse_0 hn.x1 hp hL4), e4]
    refine Ok.bind (loop_n (fun i (x : Int32 × St) => x.1 = nI i ∧ HX 19 x.2 (minN h i) ∧ (∃ o', ActsX x.2 o' (actN n ac h i).1 (actN n ac h i).2) ∧ CX σ x.2) _ d 5000 _ (by omega) ⟨rfl, hn.2.1, ⟨o, ha.x⟩, CX.rf⟩ ?_ ?_)
    · rintro i ⟨v, s⟩ hi ⟨q0, q1, ⟨o', q2⟩, q3⟩
      simp only at q0 q1 q2 q3
      subst q0
      have hwi := minN_WF hw i (by omega)
      obtain ⟨s1, e1, ⟨o2, k1⟩, k2, k3⟩ := X_keepAct q1 hwi q2
      obtain ⟨s2, e2, k4, k5⟩ := X_passMinute (q1.frame (fun b z => k2 b (by omega) (by omega))) hwi
      refine ⟨(nI (i + 1), s2), ?_, rfl, k4, ⟨o2, k1.fr19 k5⟩, q3.tr (CX.tr ⟨fun b b1 b2 b3 => k2 b b1 b3, k3⟩ (CX.fr k5))⟩
      unfold f_X11_minutes_L44
      simp (disch := omega) only [↓lt_eq, ↓reduceIte, ↓un1, ↓un2, ↓un3, ↓un4, ↓bd_some, ↓bind_some', ↓sel_l, ↓sel_r, C1T, C1F, C2T, C2F, C3T, C3F, D1T, D1F, D2T, D2F, D3T, D3F, E1T, E1F, E2T, E2F, E3T, E3F, G1T, G1F, G2T, G2F, G3F, inb_T, inb_L, isB_0, isB_1, isB_b, nI_add, L_add1, L_add2, nI_cl, L_cl, bI_T, bI_F, eq_self, not_true_eq_false, not_false_eq_true, ↓bind_of e1, ↓bind_of e2]
    · rintro ⟨v, s⟩ ⟨q0, q1, q2, q3⟩
      simp only at q0 q1 q2 q3
      subst q0
      have f3 := X_liveLines q1 hwd
      rw [minN_L] at f3
      refine ⟨s, ?_, ?_⟩
      · unfold f_X11_minutes_L44
        simp (disch := omega) only [↓lt_eq, ↓reduceIte, ↓un1, ↓un2, ↓un3, ↓un4, ↓bd_some, ↓bind_some', ↓sel_l, ↓sel_r, C1T, C1F, C2T, C2F, C3T, C3F, D1T, D1F, D2T, D2F, D3T, D3F, E1T, E1F, E2T, E2F, E3T, E3F, G1T, G1F, G2T, G2F, G3F, inb_T, inb_L, isB_0, isB_1, isB_b, nI_add, L_add1, L_add2, nI_cl, L_cl, bI_T, bI_F, eq_self, not_true_eq_false, not_false_eq_true]
      · simp (disch := omega) only [↓lt_eq, ↓reduceIte, ↓un1, ↓un2, ↓un3, ↓un4, ↓bd_some, ↓bind_some', ↓sel_l, ↓sel_r, C1T, C1F, C2T, C2F, C3T, C3F, D1T, D1F, D2T, D2F, D3T, D3F, E1T, E1F, E2T, E2F, E3T, E3F, G1T, G1F, G2T, G2F, G3F, inb_T, inb_L, isB_0, isB_1, isB_b, nI_add, L_add1, L_add2, nI_cl, L_cl, bI_T, bI_F, eq_self, not_true_eq_false, not_false_eq_true, ↓bd_of f3]
        exact Ok.ret ⟨rfl, q1, q2, q3⟩
  · have hm := ((hn.2.2.2.1 hp).2).cx hc
    have g2 : s 261 0 = nI (hL h) := by rw [hc.1 261 (by omega) (by omega) (by omega)]; exact hn.m0
    have g3 : s 260 26 = nI (hMin h) := by rw [hc.1 260 (by omega) (by omega) (by omega)]; exact hn.m26
    unfold f_X12_minutes
    simp (disch := omega) only [↓lt_eq, ↓reduceIte, ↓un1, ↓un2, ↓un3, ↓un4, ↓bd_some, ↓bind_some', ↓sel_l, ↓sel_r, C1T, C1F, C2T, C2F, C3T, C3F, D1T, D1F, D2T, D2F, D3T, D3F, E1T, E1F, E2T, E2F, E3T, E3F, G1T, G1F, G2T, G2F, G3F, inb_T, inb_L, isB_0, isB_1, isB_b, nI_add, L_add1, L_add2, nI_cl, L_cl, bI_T, bI_F, eq_self, not_true_eq_false, not_false_eq_true, ↓bd_of (M_isHouse_1 g2 hp hL4), ↓bd_of (M_inn (σ := s) (L := 1) (H := 24) (a := 1) (b := 24) (by decide) (by decide) d1 d2 (by decide)), g3]
    refine Ok.bind (loop_n (fun i (x : Int32 × St) => x.1 = nI i ∧ HM 0 0 x.2 (minN h i) ∧ ActsM x.2 (actN n ac h i).1 (actN n ac h i).2 ∧ CM s x.2) _ d 5000 _ (by omega) ⟨rfl, hm, ha.m.cx ha.2.1 ha.w hc, CM.rf⟩ ?_ ?_)
    · rintro i ⟨v, s⟩ hi ⟨q0, q1, q2, q3⟩
      simp only at q0 q1 q2 q3
      subst q0
      have hwi := minN_WF hw i (by omega)
      obtain ⟨s1, e1, k1, k2, k3, k4⟩ := M_known q1 hwi (actN_le ac h ha.2.1 i) q2 (actN_W ha.w hw h0 i (by omega))
      obtain ⟨s2, e2, k5, k6⟩ := M_passes (b := 0) (q1.copied hwi (fun k z => k4 _ (by omega)) (k2 261 (by omega) (by omega))) hwi (by omega)
      have e2 : f_X12_passes (0 : Int32) s1 = some s2 := e2
      refine ⟨(nI (i + 1), s2), ?_, rfl, k5, k1.fr0 (actN_le ac h ha.2.1 (i + 1)) (actN_W ha.w hw h0 (i + 1) (by omega)) k6, q3.tr (CM.tr ⟨fun b b1 b2 _ => k2 b b1 b2, k3, fun k z => k4 k (by omega)⟩ (CM.fr k6))⟩
      unfold f_X12_minutes_L45
      simp (disch := omega) only [↓lt_eq, ↓reduceIte, ↓un1, ↓un2, ↓un3, ↓un4, ↓bd_some, ↓bind_some', ↓sel_l, ↓sel_r, C1T, C1F, C2T, C2F, C3T, C3F, D1T, D1F, D2T, D2F, D3T, D3F, E1T, E1F, E2T, E2F, E3T, E3F, G1T, G1F, G2T, G2F, G3F, inb_T, inb_L, isB_0, isB_1, isB_b, nI_add, L_add1, L_add2, nI_cl, L_cl, bI_T, bI_F, eq_self, not_true_eq_false, not_false_eq_true, ↓bind_of e1, ↓bind_of e2]
    · rintro ⟨v, s⟩ ⟨q0, q1, q2, q3⟩
      simp only at q0 q1 q2 q3
      subst q0
      have f3 : f_X12_liveOnes (0 : Int32) s = _ := M_liveOnes (b := 0) q1 hwd (by omega)
      rw [minN_L] at f3
      refine ⟨s, ?_, ?_⟩
      · unfold f_X12_minutes_L45
        simp (disch := omega) only [↓lt_eq, ↓reduceIte, ↓un1, ↓un2, ↓un3, ↓un4, ↓bd_some, ↓bind_some', ↓sel_l, ↓sel_r, C1T, C1F, C2T, C2F, C3T, C3F, D1T, D1F, D2T, D2F, D3T, D3F, E1T, E1F, E2T, E2F, E3T, E3F, G1T, G1F, G2T, G2F, G3F, inb_T, inb_L, isB_0, isB_1, isB_b, nI_add, L_add1, L_add2, nI_cl, L_cl, bI_T, bI_F, eq_self, not_true_eq_false, not_false_eq_true]
      · simp (disch := omega) only [↓lt_eq, ↓reduceIte, ↓un1, ↓un2, ↓un3, ↓un4, ↓bd_some, ↓bind_some', ↓sel_l, ↓sel_r, C1T, C1F, C2T, C2F, C3T, C3F, D1T, D1F, D2T, D2F, D3T, D3F, E1T, E1F, E2T, E2F, E3T, E3F, G1T, G1F, G2T, G2F, G3F, inb_T, inb_L, isB_0, isB_1, isB_b, nI_add, L_add1, L_add2, nI_cl, L_cl, bI_T, bI_F, eq_self, not_true_eq_false, not_false_eq_true, ↓bd_of f3]
        exact Ok.ret ⟨rfl, q1, q2, q3⟩
theorem step_undo : Step Inv f_X11_undo f_X12_undo := by
  intro σ hI
  obtain ⟨hR, hP, hF, hT, h, o, n, ac, im, hn, ha, hi⟩ := id hI
  obtain ⟨a1, a2, a3, a4, a5, a6, a7⟩ := id ha
  rcases Nat.eq_zero_or_pos n with hz | hp
  · subst hz
    refine step_same (-1000002) hI ?_ ?_
    · unfold f_X11_undo
      simp (disch := omega) only [↓lt_eq, ↓reduceIte, ↓un1, ↓un2, ↓un3, ↓un4, ↓bd_some, ↓bind_some', ↓sel_l, ↓sel_r, C1T, C1F, C2T, C2F, C3T, C3F, D1T, D1F, D2T, D2F, D3T, D3F, E1T, E1F, E2T, E2F, E3T, E3F, G1T, G1F, G2T, G2F, G3F, inb_T, inb_L, isB_0, isB_1, isB_b, nI_add, L_add1, L_add2, nI_cl, L_cl, bI_T, bI_F, eq_self, not_true_eq_false, not_false_eq_true, a4]
    · unfold f_X12_undo
      simp (disch := omega) only [↓lt_eq, ↓reduceIte, ↓un1, ↓un2, ↓un3, ↓un4, ↓bd_some, ↓bind_some', ↓sel_l, ↓sel_r, C1T, C1F, C2T, C2F, C3T, C3F, D1T, D1F, D2T, D2F, D3T, D3F, E1T, E1F, E2T, E2F, E3T, E3F, G1T, G1F, G2T, G2F, G3F, inb_T, inb_L, isB_0, isB_1, isB_b, nI_add, L_add1, L_add2, nI_cl, L_cl, bI_T, bI_F, eq_self, not_true_eq_false, not_false_eq_true, a5]
  obtain ⟨m, rfl⟩ : ∃ m, n = m + 1 := ⟨n - 1, by omega⟩
  obtain ⟨b1, b2, b3, b4, b5⟩ := a7 m (by omega)
  have hL0 : 0 < hL h := by
    rcases Nat.eq_zero_or_pos (hL h) with z | z
    · have := a6 z; omega
    · exact z
  have hLe : hL (ac m) = hL h := by
    have z1 := b5.1
    rw [hn.m0] at z1
    exact ((nI_eq hn.L4 (by have := b1.1; omega)).mp z1).symm
  have hlt : (o + m) % 24 < 24 := Nat.mod_lt _ (by decide)
  refine step_act (h' := ac m) (n' := m) (ac' := ac) (nI m) hI hn hi b1 b2 (by rw [hLe]; exact hL0) b3 (by omega) (fun i hi => ha.w i (by omega)) ?_ (fun s hc => ?_)
  · obtain ⟨s, e, k1, k2⟩ := X_become (a := 19) (σ := wr σ 0 7 (nI m)) (b4.frame (fun b q => wr_a (by omega))) b1 (by omega)
    have k0 : s 0 7 = nI m := by rw [k2 0 (by unfold blk; omega), wr_same]
    have k6 : ∀ k, k ≠ 7 → s 0 k = σ 0 k := fun k z => by rw [k2 0 (by unfold blk; omega), wr_k z]
    refine ⟨(nI m, s), ?_, rfl, k1, ⟨o, a1, by omega, ?_, k0, fun i hi => ?_⟩, fun b q1 q2 q3 => ?_, fun k q1 q2 => k6 k q2⟩
    · have e1 : wr σ 0 7 (nI m) 0 6 = nI o := by rw [wr_k (by omega)]; exact a3
      unfold f_X11_undo
      simp (disch := omega) only [↓lt_eq, ↓reduceIte, ↓un1, ↓un2, ↓un3, ↓un4, ↓bd_some, ↓bind_some', ↓sel_l, ↓sel_r, C1T, C1F, C2T, C2F, C3T, C3F, D1T, D1F, D2T, D2F, D3T, D3F, E1T, E1F, E2T, E2F, E3T, E3F, G1T, G1F, G2T, G2F, G3F, inb_T, inb_L, isB_0, isB_1, isB_b, nI_add, L_add1, L_add2, nI_cl, L_cl, bI_T, bI_F, eq_self, not_true_eq_false, not_false_eq_true, a4, L_sub2, Nat.add_sub_cancel, wr_same, e1, rem24, actA_n hlt, ↓bind_of e, k0]
    · exact (k6 6 (by omega)).trans a3
    · have hlt2 : (o + i) % 24 < 24 := Nat.mod_lt _ (by decide)
      refine (a7 i (by omega)).2.2.2.1.frame (fun b q => ?_)
      dsimp only; rw [k2 b (by unfold blk; omega), wr_a (by omega)]
    · dsimp only; rw [k2 b (by unfold blk; omega), wr_a q1]
  · have g3 : s 259 3 = nI (m + 1) := by rw [hc.1 259 (by omega) (by omega) (by omega)]; exact a5
    obtain ⟨t, e, k1, k2, k3⟩ := M_copies (b := (m + 1) * 27) (c := 0) (σ := s) (by omega) (by omega) (by omega)
    have e : f_X12_copies (nI ((m + 1) * 27)) (0 : Int32) s = some t := e
    have k9 : t 259 3 = nI (m + 1) := by rw [k2 259 (by omega)]; exact g3
    have hb5 : HM ((m + 1) * 27) 0 s (ac m) := by
      have := b5.cx hc
      rw [Nat.mul_comm] at this
      exact this
    refine ⟨(nI m, wr t 259 3 (nI m)), ?_, rfl, ?_, ?_, ?_⟩
    · unfold f_X12_undo
      simp (disch := omega) only [↓lt_eq, ↓reduceIte, ↓un1, ↓un2, ↓un3, ↓un4, ↓bd_some, ↓bind_some', ↓sel_l, ↓sel_r, C1T, C1F, C2T, C2F, C3T, C3F, D1T, D1F, D2T, D2F, D3T, D3F, E1T, E1F, E2T, E2F, E3T, E3F, G1T, G1F, G2T, G2F, G3F, inb_T, inb_L, isB_0, isB_1, isB_b, nI_add, L_add1, L_add2, nI_cl, L_cl, bI_T, bI_F, eq_self, not_true_eq_false, not_false_eq_true, g3, L_mul2, ↓bind_of e, k9, L_sub2, Nat.add_sub_cancel, wr_same]
    · show HM 0 0 (wr t 259 3 (nI m)) (ac m)
      exact (hb5.copied (c := 0) b1 (s := t) k1 (k2 261 (by omega))).frame (wr_a (show 260 ≠ 259 by omega)) (wr_a (show 261 ≠ 259 by omega))
    · refine ⟨wr_same t 259 3 (nI m), fun i hi => ?_⟩
      refine ((a7 i (by omega)).2.2.2.2.cx hc).copied (a7 i (by omega)).1 (fun k hk => ?_) ?_
      · dsimp only
        rw [wr_a (by omega), k3 _ (by omega)]
      · dsimp only
        rw [wr_a (by omega), k2 261 (by omega)]
    · refine ⟨fun b q1 q2 q3 => ?_, fun k q => ?_, fun k q => ?_⟩
      · dsimp only
        rw [wr_a q1, k2 b q2]
      · dsimp only
        rw [wr_k q, k2 259 (by omega)]
      · dsimp only
        rw [wr_a (by omega), k3 k (by omega)]
theorem HM.moved {b c d e : Nat} {σ s : St} {h : Hs} (hm : HM b d σ h) (hw : WF h) (h1 : ∀ k, k < 27 → s 260 (c + k) = σ 260 (b + k)) (h2 : ∀ k, k < 13 → s 261 (e + k) = σ 261 (d + k)) : HM c e s h := by
  obtain ⟨g1, g2, g3, g4, g5, g6, gl, gt⟩ := hm
  have hL4 := hw.1
  have hN6 := hw.2.1
  refine ⟨(h2 0 (by omega)).trans g1, (h2 1 (by omega)).trans g2, (h2 2 (by omega)).trans g3, (h1 26 (by omega)).trans g4, (h1 25 (by omega)).trans g5, (h1 24 (by omega)).trans g6, fun l hl => ⟨?_, ?_, ?_, ?_⟩, fun t ht => ⟨?_, ?_, ?_⟩⟩
  · rw [Nat.add_assoc, h2 (3 + l) (by omega), ← Nat.add_assoc]; exact (gl l hl).1
  · rw [Nat.add_assoc, h1 (8 + l) (by omega), ← Nat.add_assoc]; exact (gl l hl).2.1
  · rw [h1 l (by omega)]; exact (gl l hl).2.2.1
  · rw [Nat.add_assoc, h1 (4 + l) (by omega), ← Nat.add_assoc]; exact (gl l hl).2.2.2
  · rw [Nat.add_assoc, h1 (12 + t) (by omega), ← Nat.add_assoc]; exact (gt t ht).1
  · rw [Nat.add_assoc, h2 (7 + t) (by omega), ← Nat.add_assoc]; exact (gt t ht).2.1
  · rw [Nat.add_assoc, h1 (18 + t) (by omega), ← Nat.add_assoc]; exact (gt t ht).2.2
theorem imgA_n {k : Nat} (h : k < 2) : imgA (nI k) = 51 + 8 * k := by unfold imgA; rw [nI_cl (by omega)]
theorem X_noImage_in {k : Nat} {σ : St} (h : k ≤ 1) : f_X11_noImage (nI k) σ = some (0, σ) := by
  unfold f_X11_noImage
  simp (disch := omega) only [↓lt_eq, ↓reduceIte, ↓un1, ↓un2, ↓un3, ↓un4, ↓bd_some, ↓bind_some', ↓sel_l, ↓sel_r, C1T, C1F, C2T, C2F, C3T, C3F, D1T, D1F, D2T, D2F, D3T, D3F, E1T, E1F, E2T, E2F, E3T, E3F, G1T, G1F, G2T, G2F, G3F, inb_T, inb_L, isB_0, isB_1, isB_b, nI_add, L_add1, L_add2, nI_cl, L_cl, bI_T, bI_F, eq_self, not_true_eq_false, not_false_eq_true]
theorem X_noImage_out {x : Int32} {σ : St} (q : Out x 0 1) : f_X11_noImage x σ = some (1, σ) := by
  unfold f_X11_noImage
  rcases q with q | ⟨q1, q2⟩
  · simp (disch := omega) only [↓lt_eq, ↓reduceIte, ↓un1, ↓un2, ↓un3, ↓un4, ↓bd_some, ↓bind_some', ↓sel_l, ↓sel_r, C1T, C1F, C2T, C2F, C3T, C3F, D1T, D1F, D2T, D2F, D3T, D3F, E1T, E1F, E2T, E2F, E3T, E3F, G1T, G1F, G2T, G2F, G3F, inb_T, inb_L, isB_0, isB_1, isB_b, nI_add, L_add1, L_add2, nI_cl, L_cl, bI_T, bI_F, eq_self, not_true_eq_false, not_false_eq_true, q]
  · have q3 : ¬ x < 2 := by
      intro z
      rw [Int32.lt_iff_toInt_lt] at z q2
      have e1 : (1 : Int32).toInt = 1 := by decide
      have e2 : (2 : Int32).toInt = 2 := by decide
      omega
    simp (disch := omega) only [↓lt_eq, ↓reduceIte, ↓un1, ↓un2, ↓un3, ↓un4, ↓bd_some, ↓bind_some', ↓sel_l, ↓sel_r, C1T, C1F, C2T, C2F, C3T, C3F, D1T, D1F, D2T, D2F, D3T, D3F, E1T, E1F, E2T, E2F, E3T, E3F, G1T, G1F, G2T, G2F, G3F, inb_T, inb_L, isB_0, isB_1, isB_b, nI_add, L_add1, L_add2, nI_cl, L_cl, bI_T, bI_F, eq_self, not_true_eq_false, not_false_eq_true, q1, q3]
theorem M_imgLoop {σ : St} {k : Nat} (hk : k ≤ 1) : Ok (loopF (f_X12_image_L38 (nI k)) 5000 ((0 : Int32), σ)) (fun s => (∀ q, q < 13 → s 261 (13 * (k + 1) + q) = σ 261 q) ∧ (∀ q, q < 13 * (k + 1) ∨ 13 * (k + 1) + 13 ≤ q → s 261 q = σ 261 q) ∧ ∀ b, b ≠ 261 → s b = σ b) := by
  refine loop_n (fun i (x : Int32 × St) => x.1 = nI i ∧ (∀ q, q < i → x.2 261 (13 * (k + 1) + q) = σ 261 q) ∧ (∀ q, q < 13 * (k + 1) ∨ 13 * (k + 1) + i ≤ q → x.2 261 q = σ 261 q) ∧ ∀ b, b ≠ 261 → x.2 b = σ b) _ 13 5000 _ (by omega) ⟨rfl, fun q z => absurd z (by omega), fun _ _ => rfl, fun _ _ => rfl⟩ ?_ ?_
  · rintro i ⟨v, s⟩ hi ⟨q0, q1, q2, q3⟩
    simp only at q0 q1 q2 q3
    subst q0
    refine ⟨(nI (i + 1), wr s 261 (13 * (k + 1) + i) (s 261 i)), ?_, rfl, ?_, ?_, ?_⟩
    · unfold f_X12_image_L38
      simp (disch := omega) only [↓lt_eq, ↓reduceIte, ↓un1, ↓un2, ↓un3, ↓un4, ↓bd_some, ↓bind_some', ↓sel_l, ↓sel_r, C1T, C1F, C2T, C2F, C3T, C3F, D1T, D1F, D2T, D2F, D3T, D3F, E1T, E1F, E2T, E2F, E3T, E3F, G1T, G1F, G2T, G2F, G3F, inb_T, inb_L, isB_0, isB_1, isB_b, nI_add, L_add1, L_add2, nI_cl, L_cl, bI_T, bI_F, eq_self, not_true_eq_false, not_false_eq_true, L_mul1]
    · intro q hq
      simp only [wr_eq]
      by_cases z : q = i
      · rw [if_pos ⟨trivial, by omega⟩, q2 i (by omega), z]
      · rw [if_neg (by omega)]; exact q1 q (by omega)
    · intro q hq
      simp only [wr_eq]
      rw [if_neg (by omega)]; exact q2 q (by omega)
    · intro b hb
      simp only [wr_a hb]
      exact q3 b hb
  · rintro ⟨v, s⟩ ⟨q0, q1, q2, q3⟩
    simp only at q0 q1 q2 q3
    subst q0
    refine ⟨s, ?_, q1, q2, q3⟩
    unfold f_X12_image_L38
    simp (disch := omega) only [↓lt_eq, ↓reduceIte, ↓un1, ↓un2, ↓un3, ↓un4, ↓bd_some, ↓bind_some', ↓sel_l, ↓sel_r, C1T, C1F, C2T, C2F, C3T, C3F, D1T, D1F, D2T, D2F, D3T, D3F, E1T, E1F, E2T, E2F, E3T, E3F, G1T, G1F, G2T, G2F, G3F, inb_T, inb_L, isB_0, isB_1, isB_b, nI_add, L_add1, L_add2, nI_cl, L_cl, bI_T, bI_F, eq_self, not_true_eq_false, not_false_eq_true]
theorem M_resLoop {σ : St} {k : Nat} (hk : k ≤ 1) : Ok (loopF (f_X12_restore_L40 (nI k)) 5000 ((0 : Int32), σ)) (fun s => (∀ q, q < 13 → s 261 q = σ 261 (13 * (k + 1) + q)) ∧ (∀ q, 13 ≤ q → s 261 q = σ 261 q) ∧ ∀ b, b ≠ 261 → s b = σ b) := by
  refine loop_n (fun i (x : Int32 × St) => x.1 = nI i ∧ (∀ q, q < i → x.2 261 q = σ 261 (13 * (k + 1) + q)) ∧ (∀ q, i ≤ q → x.2 261 q = σ 261 q) ∧ ∀ b, b ≠ 261 → x.2 b = σ b) _ 13 5000 _ (by omega) ⟨rfl, fun q z => absurd z (by omega), fun _ _ => rfl, fun _ _ => rfl⟩ ?_ ?_
  · rintro i ⟨v, s⟩ hi ⟨q0, q1, q2, q3⟩
    simp only at q0 q1 q2 q3
    subst q0
    refine ⟨(nI (i + 1), wr s 261 i (s 261 (13 * (k + 1) + i))), ?_, rfl, ?_, ?_, ?_⟩
    · unfold f_X12_restore_L40
      simp (disch := omega) only [↓lt_eq, ↓reduceIte, ↓un1, ↓un2, ↓un3, ↓un4, ↓bd_some, ↓bind_some', ↓sel_l, ↓sel_r, C1T, C1F, C2T, C2F, C3T, C3F, D1T, D1F, D2T, D2F, D3T, D3F, E1T, E1F, E2T, E2F, E3T, E3F, G1T, G1F, G2T, G2F, G3F, inb_T, inb_L, isB_0, isB_1, isB_b, nI_add, L_add1, L_add2, nI_cl, L_cl, bI_T, bI_F, eq_self, not_true_eq_false, not_false_eq_true, L_mul1]
    · intro q hq
      simp only [wr_eq]
      by_cases z : q = i
      · rw [if_pos ⟨trivial, z⟩, q2 (13 * (k + 1) + i) (by omega), z]
      · rw [if_neg (by omega)]; exact q1 q (by omega)
    · intro q hq
      simp only [wr_eq]
      rw [if_neg (by omega)]; exact q2 q (by omega)
    · intro b hb
      simp only [wr_a hb]
      exact q3 b hb
  · rintro ⟨v, s⟩ ⟨q0, q1, q2, q3⟩
    simp only at q0 q1 q2 q3
    subst q0
    refine ⟨s, ?_, q1, q2, q3⟩
    unfold f_X12_restore_L40
    simp (disch := omega) only [↓lt_eq, ↓reduceIte, ↓un1, ↓un2, ↓un3, ↓un4, ↓bd_some, ↓bind_some', ↓sel_l, ↓sel_r, C1T, C1F, C2T, C2F, C3T, C3F, D1T, D1F, D2T, D2F, D3T, D3F, E1T, E1F, E2T, E2F, E3T, E3F, G1T, G1F, G2T, G2F, G3F, inb_T, inb_L, isB_0, isB_1, isB_b, nI_add, L_add1, L_add2, nI_cl, L_cl, bI_T, bI_F, eq_self, not_true_eq_false, not_false_eq_true]
theorem step_image (x1 : Int32) : Step Inv (f_X11_image x1) (f_X12_image x1) := by
  intro σ hI
  obtain ⟨hR, hP, hF, hT, h, o, n, ac, im, hn, ha, hi⟩ := id hI
  have hL4 := hn.L4
  rcases rng x1 (lo := 0) (hi := 1) 0 1 (by decide) (by decide) (by omega) (by omega) with q | ⟨k, k1, k2, rfl⟩
  · refine step_same (-1000001) hI ?_ ?_
    · unfold f_X11_image
      simp (disch := omega) only [↓lt_eq, ↓reduceIte, ↓un1, ↓un2, ↓un3, ↓un4, ↓bd_some, ↓bind_some', ↓sel_l, ↓sel_r, C1T, C1F, C2T, C2F, C3T, C3F, D1T, D1F, D2T, D2F, D3T, D3F, E1T, E1F, E2T, E2F, E3T, E3F, G1T, G1F, G2T, G2F, G3F, inb_T, inb_L, isB_0, isB_1, isB_b, nI_add, L_add1, L_add2, nI_cl, L_cl, bI_T, bI_F, eq_self, not_true_eq_false, not_false_eq_true, ↓bd_of (X_noImage_out (σ := σ) q)]
    · unfold f_X12_image
      simp (disch := omega) only [↓lt_eq, ↓reduceIte, ↓un1, ↓un2, ↓un3, ↓un4, ↓bd_some, ↓bind_some', ↓sel_l, ↓sel_r, C1T, C1F, C2T, C2F, C3T, C3F, D1T, D1F, D2T, D2F, D3T, D3F, E1T, E1F, E2T, E2F, E3T, E3F, G1T, G1F, G2T, G2F, G3F, inb_T, inb_L, isB_0, isB_1, isB_b, nI_add, L_add1, L_add2, nI_cl, L_cl, bI_T, bI_F, eq_self, not_true_eq_false, not_false_eq_true, ↓bd_of (M_out (lo := 0) (hi := 1) (L := 0) (H := 1) (by decide) (by decide) q)]
  rcases Nat.eq_zero_or_pos (hL h) with hz | hp
  · have e1 := hn.x1
    have e2 := hn.m0
    rw [hz] at e1 e2
    refine step_same (-1000002) hI ?_ ?_
    · unfold f_X11_image
      simp (disch := omega) only [↓lt_eq, ↓reduceIte, ↓un1, ↓un2, ↓un3, ↓un4, ↓bd_some, ↓bind_some', ↓sel_l, ↓sel_r, C1T, C1F, C2T, C2F, C3T, C3F, D1T, D1F, D2T, D2F, D3T, D3F, E1T, E1F, E2T, E2F, E3T, E3F, G1T, G1F, G2T, G2F, G3F, inb_T, inb_L, isB_0, isB_1, isB_b, nI_add, L_add1, L_add2, nI_cl, L_cl, bI_T, bI_F, eq_self, not_true_eq_false, not_false_eq_true, ↓bd_of (X_noImage_in (σ := σ) k2), ↓bd_of (X_noHouse_1 e1)]
    · unfold f_X12_image
      simp (disch := omega) only [↓lt_eq, ↓reduceIte, ↓un1, ↓un2, ↓un3, ↓un4, ↓bd_some, ↓bind_some', ↓sel_l, ↓sel_r, C1T, C1F, C2T, C2F, C3T, C3F, D1T, D1F, D2T, D2F, D3T, D3F, E1T, E1F, E2T, E2F, E3T, E3F, G1T, G1F, G2T, G2F, G3F, inb_T, inb_L, isB_0, isB_1, isB_b, nI_add, L_add1, L_add2, nI_cl, L_cl, bI_T, bI_F, eq_self, not_true_eq_false, not_false_eq_true, ↓bd_of (M_inn (σ := σ) (L := 0) (H := 1) (a := 0) (b := 1) (by decide) (by decide) k1 k2 (by decide)), ↓bd_of (M_isHouse_0 e2)]
  have hw := hn.1
  have hkk : k < 2 := by omega
  obtain ⟨s1, e1, f1, f2⟩ := X_become (a := 51 + 8 * k) hn.2.1 hw (by omega)
  have g0 : s1 261 0 = nI (hL h) := by rw [f2 261 (by unfold blk; omega)]; exact hn.m0
  obtain ⟨s2, e2, c1, c2, c3⟩ := M_copies (b := 0) (c := 675 + k * 27) (σ := s1) (by omega) (by omega) (by omega)
  have e2 : f_X12_copies (0 : Int32) (nI (675 + k * 27)) s1 = some s2 := e2
  obtain ⟨s3, e3, d1, d2, d3⟩ := M_imgLoop (σ := s2) k2
  refine ⟨1, s1, wr s3 262 k 1, ?_, ?_, ?_⟩
  · unfold f_X11_image
    simp (disch := omega) only [↓lt_eq, ↓reduceIte, ↓un1, ↓un2, ↓un3, ↓un4, ↓bd_some, ↓bind_some', ↓sel_l, ↓sel_r, C1T, C1F, C2T, C2F, C3T, C3F, D1T, D1F, D2T, D2F, D3T, D3F, E1T, E1F, E2T, E2F, E3T, E3F, G1T, G1F, G2T, G2F, G3F, inb_T, inb_L, isB_0, isB_1, isB_b, nI_add, L_add1, L_add2, nI_cl, L_cl, bI_T, bI_F, eq_self, not_true_eq_false, not_false_eq_true, ↓bd_of (X_noImage_in (σ := σ) k2), ↓bd_of (X_noHouse_0 hn.x1 hp hL4), imgA_n hkk, ↓bind_of e1]
  · unfold f_X12_image
    simp (disch := omega) only [↓lt_eq, ↓reduceIte, ↓un1, ↓un2, ↓un3, ↓un4, ↓bd_some, ↓bind_some', ↓sel_l, ↓sel_r, C1T, C1F, C2T, C2F, C3T, C3F, D1T, D1F, D2T, D2F, D3T, D3F, E1T, E1F, E2T, E2F, E3T, E3F, G1T, G1F, G2T, G2F, G3F, inb_T, inb_L, isB_0, isB_1, isB_b, nI_add, L_add1, L_add2, nI_cl, L_cl, bI_T, bI_F, eq_self, not_true_eq_false, not_false_eq_true, ↓bd_of (M_inn (σ := s1) (L := 0) (H := 1) (a := 0) (b := 1) (by decide) (by decide) k1 k2 (by decide)), ↓bd_of (M_isHouse_1 g0 hp hL4), L_mul2, ↓bind_of e2, ↓bind_of e3]
  have z : ∀ b, ¬ (51 + 8 * k ≤ b ∧ b < 59 + 8 * k) → b ≠ 260 → b ≠ 261 → b ≠ 262 → wr s3 262 k 1 b = σ b := fun b q1 q2 q3 q4 => by
    rw [wr_a q4, d3 b q3, c2 b q2, f2 b (by unfold blk; omega)]
  have z0 : ∀ q, q < 675 + k * 27 ∨ 675 + k * 27 + 27 ≤ q → wr s3 262 k 1 260 q = σ 260 q := fun q hq => by
    rw [wr_a (by omega), d3 260 (by omega), c3 q hq, f2 260 (by unfold blk; omega)]
  have z1 : ∀ q, q < 13 * (k + 1) ∨ 13 * (k + 1) + 13 ≤ q → wr s3 262 k 1 261 q = σ 261 q := fun q hq => by
    rw [wr_a (by omega), d2 q hq, c2 261 (by omega), f2 261 (by unfold blk; omega)]
  obtain ⟨a1, a2, a3, a4, a5, a6, a7⟩ := ha
  refine ⟨hR.fr (fun b q => z b (by omega) (by omega) (by omega) (by omega)), hP.fr ?_ ?_ (z 3 (by omega) (by omega) (by omega) (by omega)) (z 267 (by omega) (by omega) (by omega) (by omega)), ⟨?_, ?_⟩, hT.fr ?_ ?_ (z 12 (by omega) (by omega) (by omega) (by omega)) (z 272 (by omega) (by omega) (by omega) (by omega)), h, o, n, ac, fun q => if q = k then h else im q, ⟨hw, hn.2.1.frame (fun b q => z b (by omega) (by omega) (by omega) (by omega)), hn.2.2.1, fun _ => ⟨(hn.2.2.2.1 hp).1, (hn.2.2.2.1 hp).2.moved hw (fun q hq => z0 _ (by omega)) (fun q hq => z1 _ (by omega))⟩, fun q => absurd q (by omega)⟩, ⟨a1, a2, ?_, ?_, ?_, a6, fun i hi => ?_⟩, fun q hq => ?_⟩
  · rw [z 2 (by omega) (by omega) (by omega) (by omega)]
  · rw [z 259 (by omega) (by omega) (by omega) (by omega)]
  · rw [z 0 (by omega) (by omega) (by omega) (by omega), z 259 (by omega) (by omega) (by omega) (by omega)]; exact hF.1
  · rw [z 0 (by omega) (by omega) (by omega) (by omega), z 259 (by omega) (by omega) (by omega) (by omega)]; exact hF.2
  · rw [z 11 (by omega) (by omega) (by omega) (by omega)]
  · rw [z 259 (by omega) (by omega) (by omega) (by omega)]
  · rw [z 0 (by omega) (by omega) (by omega) (by omega)]; exact a3
  · rw [z 0 (by omega) (by omega) (by omega) (by omega)]; exact a4
  · rw [z 259 (by omega) (by omega) (by omega) (by omega)]; exact a5
  · obtain ⟨b1, b2, b3, b4, b5⟩ := a7 i hi
    have hlt : (o + i) % 24 < 24 := Nat.mod_lt _ (by decide)
    exact ⟨b1, b2, b3, b4.frame (fun b q => z b (by omega) (by omega) (by omega) (by omega)), b5.moved b1 (fun q hq => z0 _ (by omega)) (fun q hq => z1 _ (by omega))⟩
  · show IImg (wr s3 262 k 1) q (if q = k then h else im q)
    by_cases e : q = k
    · rw [e, if_pos rfl]
      refine Or.inr ⟨wr_same _ _ _ _, hp, (hn.2.2.2.1 hp).1, hw, hn.2.2.1, ?_, ?_⟩
      · refine f1.frame (fun b q => ?_)
        rw [wr_a (by omega), d3 b (by omega), c2 b (by omega)]
      · refine (hn.2.2.2.1 hp).2.moved hw (fun j hj => ?_) (fun j hj => ?_)
        · rw [wr_a (by omega), d3 260 (by omega), Nat.mul_comm 27 k, c1 j hj, f2 260 (by unfold blk; omega)]
        · rw [wr_a (by omega), d1 j hj, c2 261 (by omega), f2 261 (by unfold blk; omega), Nat.zero_add]
    · rw [if_neg e]
      have z2 : wr s3 262 k 1 262 q = σ 262 q := by
        rw [wr_k e, d3 262 (by omega), c2 262 (by omega), f2 262 (by unfold blk; omega)]
      rcases hi q hq with ⟨c1, c2⟩ | ⟨c1, c2, c3, c4, c5, c6, c7⟩
      · exact Or.inl ⟨z2.trans c1, by rw [z (51 + 8 * q) (by omega) (by omega) (by omega) (by omega)]; exact c2⟩
      · exact Or.inr ⟨z2.trans c1, c2, c3, c4, c5, c6.frame (fun b q => z b (by omega) (by omega) (by omega) (by omega)), c7.moved c4 (fun j hj => z0 _ (by omega)) (fun j hj => z1 _ (by omega))⟩
theorem step_restore (x1 : Int32) : Step Inv (f_X11_restore x1) (f_X12_restore x1) := by
  intro σ hI
  obtain ⟨hR, hP, hF, hT, h, o, n, ac, im, hn, ha, hi⟩ := id hI
  have hL4 := hn.L4
  rcases rng x1 (lo := 0) (hi := 1) 0 1 (by decide) (by decide) (by omega) (by omega) with q | ⟨k, k1, k2, rfl⟩
  · refine step_same (-1000001) hI ?_ ?_
    · unfold f_X11_restore
      simp (disch := omega) only [↓lt_eq, ↓reduceIte, ↓un1, ↓un2, ↓un3, ↓un4, ↓bd_some, ↓bind_some', ↓sel_l, ↓sel_r, C1T, C1F, C2T, C2F, C3T, C3F, D1T, D1F, D2T, D2F, D3T, D3F, E1T, E1F, E2T, E2F, E3T, E3F, G1T, G1F, G2T, G2F, G3F, inb_T, inb_L, isB_0, isB_1, isB_b, nI_add, L_add1, L_add2, nI_cl, L_cl, bI_T, bI_F, eq_self, not_true_eq_false, not_false_eq_true, ↓bd_of (X_noImage_out (σ := σ) q)]
    · unfold f_X12_restore
      simp (disch := omega) only [↓lt_eq, ↓reduceIte, ↓un1, ↓un2, ↓un3, ↓un4, ↓bd_some, ↓bind_some', ↓sel_l, ↓sel_r, C1T, C1F, C2T, C2F, C3T, C3F, D1T, D1F, D2T, D2F, D3T, D3F, E1T, E1F, E2T, E2F, E3T, E3F, G1T, G1F, G2T, G2F, G3F, inb_T, inb_L, isB_0, isB_1, isB_b, nI_add, L_add1, L_add2, nI_cl, L_cl, bI_T, bI_F, eq_self, not_true_eq_false, not_false_eq_true, ↓bd_of (M_out (lo := 0) (hi := 1) (L := 0) (H := 1) (by decide) (by decide) q)]
  have hkk : k < 2 := by omega
  rcases hi k hkk with ⟨c1, c2⟩ | ⟨c1, c2, c3, c4, c5, c6, c7⟩
  · refine step_same (-1000002) hI ?_ ?_
    · unfold f_X11_restore
      simp (disch := omega) only [↓lt_eq, ↓reduceIte, ↓un1, ↓un2, ↓un3, ↓un4, ↓bd_some, ↓bind_some', ↓sel_l, ↓sel_r, C1T, C1F, C2T, C2F, C3T, C3F, D1T, D1F, D2T, D2F, D3T, D3F, E1T, E1F, E2T, E2F, E3T, E3F, G1T, G1F, G2T, G2F, G3F, inb_T, inb_L, isB_0, isB_1, isB_b, nI_add, L_add1, L_add2, nI_cl, L_cl, bI_T, bI_F, eq_self, not_true_eq_false, not_false_eq_true, ↓bd_of (X_noImage_in (σ := σ) k2), imgA_n hkk, c2]
    · unfold f_X12_restore
      simp (disch := omega) only [↓lt_eq, ↓reduceIte, ↓un1, ↓un2, ↓un3, ↓un4, ↓bd_some, ↓bind_some', ↓sel_l, ↓sel_r, C1T, C1F, C2T, C2F, C3T, C3F, D1T, D1F, D2T, D2F, D3T, D3F, E1T, E1F, E2T, E2F, E3T, E3F, G1T, G1F, G2T, G2F, G3F, inb_T, inb_L, isB_0, isB_1, isB_b, nI_add, L_add1, L_add2, nI_cl, L_cl, bI_T, bI_F, eq_self, not_true_eq_false, not_false_eq_true, ↓bd_of (M_inn (σ := σ) (L := 0) (H := 1) (a := 0) (b := 1) (by decide) (by decide) k1 k2 (by decide)), c1]
  have hLb := c4.1
  obtain ⟨s1, e1, f1, f2⟩ := X_become (a := 19) c6 c4 (by omega)
  generalize hs2 : wr (wr s1 0 6 0) 0 7 0 = s2
  have y : ∀ b, b ≠ 0 → s2 b = s1 b := fun b q => by rw [← hs2, wr_a q, wr_a q]
  have y0 : ∀ q, q ≠ 6 → q ≠ 7 → s2 0 q = σ 0 q := fun q q1 q2 => by rw [← hs2, wr_k q2, wr_k q1, f2 0 (by unfold blk; omega)]
  have y6 : s2 0 6 = nI 0 := by rw [← hs2, wr_k (by omega), wr_same]; rfl
  have y7 : s2 0 7 = nI 0 := by rw [← hs2, wr_same]; rfl
  have g0 : s2 262 k = 1 := by rw [y 262 (by omega), f2 262 (by unfold blk; omega)]; exact c1
  obtain ⟨s3, e3, d1, d2, d3⟩ := M_copies (b := 675 + k * 27) (c := 0) (σ := s2) (by omega) (by omega) (by omega)
  have e3 : f_X12_copies (nI (675 + k * 27)) (0 : Int32) s2 = some s3 := e3
  obtain ⟨s4, e4, r1, r2, r3⟩ := M_resLoop (σ := s3) k2
  refine ⟨1, s2, wr s4 259 3 0, ?_, ?_, ?_⟩
  · unfold f_X11_restore
    simp (disch := omega) only [↓lt_eq, ↓reduceIte, ↓un1, ↓un2, ↓un3, ↓un4, ↓bd_some, ↓bind_some', ↓sel_l, ↓sel_r, C1T, C1F, C2T, C2F, C3T, C3F, D1T, D1F, D2T, D2F, D3T, D3F, E1T, E1F, E2T, E2F, E3T, E3F, G1T, G1F, G2T, G2F, G3F, inb_T, inb_L, isB_0, isB_1, isB_b, nI_add, L_add1, L_add2, nI_cl, L_cl, bI_T, bI_F, eq_self, not_true_eq_false, not_false_eq_true, ↓bd_of (X_noImage_in (σ := σ) k2), imgA_n hkk, c6.1, ↓bind_of e1, f_X11_forgetActs, bind_some', hs2]
  · unfold f_X12_restore
    simp (disch := omega) only [↓lt_eq, ↓reduceIte, ↓un1, ↓un2, ↓un3, ↓un4, ↓bd_some, ↓bind_some', ↓sel_l, ↓sel_r, C1T, C1F, C2T, C2F, C3T, C3F, D1T, D1F, D2T, D2F, D3T, D3F, E1T, E1F, E2T, E2F, E3T, E3F, G1T, G1F, G2T, G2F, G3F, inb_T, inb_L, isB_0, isB_1, isB_b, nI_add, L_add1, L_add2, nI_cl, L_cl, bI_T, bI_F, eq_self, not_true_eq_false, not_false_eq_true, ↓bd_of (M_inn (σ := s2) (L := 0) (H := 1) (a := 0) (b := 1) (by decide) (by decide) k1 k2 (by decide)), g0, L_mul2, ↓bind_of e3, ↓bind_of e4]
  have z : ∀ b, b ≠ 0 → ¬ (19 ≤ b ∧ b < 27) → b ≠ 259 → b ≠ 260 → b ≠ 261 → wr s4 259 3 0 b = σ b := fun b q1 q2 q3 q4 q5 => by
    rw [wr_a q3, r3 b q5, d2 b q4, y b q1, f2 b (by unfold blk; omega)]
  have z00 : ∀ q, wr s4 259 3 0 0 q = s2 0 q := fun q => by
    rw [wr_a (by omega), r3 0 (by omega), d2 0 (by omega)]
  have z9 : ∀ q, q ≠ 3 → wr s4 259 3 0 259 q = σ 259 q := fun q q1 => by
    rw [wr_k q1, r3 259 (by omega), d2 259 (by omega), y 259 (by omega), f2 259 (by unfold blk; omega)]
  have z0 : ∀ q, 27 ≤ q → wr s4 259 3 0 260 q = σ 260 q := fun q hq => by
    rw [wr_a (by omega), r3 260 (by omega), d3 q (by omega), y 260 (by omega), f2 260 (by unfold blk; omega)]
  have z1 : ∀ q, 13 ≤ q → wr s4 259 3 0 261 q = σ 261 q := fun q hq => by
    rw [wr_a (by omega), r2 q hq, d2 261 (by omega), y 261 (by omega), f2 261 (by unfold blk; omega)]
  refine ⟨hR.fr (fun b q => z b (by omega) (by omega) (by omega) (by omega) (by omega)), hP.fr ?_ (z9 9 (by omega)) (z 3 (by omega) (by omega) (by omega) (by omega) (by omega)) (z 267 (by omega) (by omega) (by omega) (by omega) (by omega)), ⟨?_, ?_⟩, hT.fr ?_ (z9 20 (by omega)) (z 12 (by omega) (by omega) (by omega) (by omega) (by omega)) (z 272 (by omega) (by omega) (by omega) (by omega) (by omega)), im k, 0, 0, ac, im, ⟨c4, ?_, c5, fun _ => ⟨c3, ?_⟩, fun q => absurd q (by omega)⟩, ⟨by omega, by omega, ?_, ?_, ?_, fun _ => rfl, fun i hi => absurd hi (by omega)⟩, fun q hq => ?_⟩
  · rw [z 2 (by omega) (by omega) (by omega) (by omega) (by omega)]
  · rw [z00, y0 10 (by omega) (by omega), z9 15 (by omega)]; exact hF.1
  · rw [z00, y0 11 (by omega) (by omega), z9 8 (by omega)]; exact hF.2
  · rw [z 11 (by omega) (by omega) (by omega) (by omega) (by omega)]
  · refine f1.frame (fun b q => ?_)
    rw [wr_a (by omega), r3 b (by omega), d2 b (by omega), y b (by omega)]
  · refine c7.moved c4 (fun j hj => ?_) (fun j hj => ?_)
    · rw [wr_a (by omega), r3 260 (by omega), d1 j hj, y 260 (by omega), f2 260 (by unfold blk; omega), Nat.mul_comm k 27]
    · rw [wr_a (by omega), Nat.zero_add, r1 j hj, d2 261 (by omega), y 261 (by omega), f2 261 (by unfold blk; omega)]
  · rw [z00]; exact y6
  · rw [z00]; exact y7
  · rw [wr_same]; rfl
  · rcases hi q hq with ⟨c1, c2⟩ | ⟨c1, c2, c3, c4, c5, c6, c7⟩
    · exact Or.inl ⟨by rw [z 262 (by omega) (by omega) (by omega) (by omega) (by omega)]; exact c1, by rw [z (51 + 8 * q) (by omega) (by omega) (by omega) (by omega) (by omega)]; exact c2⟩
    · exact Or.inr ⟨by rw [z 262 (by omega) (by omega) (by omega) (by omega) (by omega)]; exact c1, c2, c3, c4, c5, c6.frame (fun b q => z b (by omega) (by omega) (by omega) (by omega) (by omega)), c7.moved c4 (fun j hj => z0 _ (by omega)) (fun j hj => z1 _ (by omega))⟩
