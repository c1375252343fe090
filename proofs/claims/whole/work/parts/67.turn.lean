/-! turn, plug, mend, mains, rate -/
theorem M_flip0 {σ : St} {h : Hs} (hm : HM 0 0 σ h) (hw : WF h) {t : Nat} (ht : t < hN h) : HM 0 0 (wr σ 260 (18 + t) (bI (!isOnH h t))) (setOn h (hOn h ^^^ 2 ^ t)) := by
  have hN6 := hw.2.1
  refine hm.setOn hw _ (wr_a (by omega)) (fun k q => wr_k (by omega)) (fun q hq => ?_)
  rw [xor_tb]
  by_cases e : q = t
  · rw [if_pos e, e, show 0 + 18 + t = 18 + t by omega, wr_same]; rfl
  · rw [if_neg e, wr_k (by omega)]; exact hm.g_on hq rfl
theorem wf_flip {h : Hs} (hw : WF h) {t : Nat} (ht : t < hN h) : WF (setOn h (hOn h ^^^ 2 ^ t)) := WF.setOn hw _ (Nat.xor_lt_two_pow hw.2.2.2.2.2.1 (Nat.pow_lt_pow_right (by decide) ht))
theorem step_turn (x1 x2 : Int32) : Step Inv (f_X11_turn x1 x2) (f_X12_turn x1 x2) := by
  intro σ hI
  obtain ⟨hR, hP, hF, hT, h, o, n, ac, im, hn, ha, hi⟩ := id hI
  have hN4 := hn.N6
  rcases idx x1 (hN h) hN4 with q | ⟨t, ht, rfl⟩
  · refine step_same (-1000001) hI ?_ ?_
    · unfold f_X11_turn
      simp (disch := omega) only [↓lt_eq, ↓reduceIte, ↓un1, ↓un2, ↓un3, ↓un4, ↓bd_some, ↓bind_some', ↓sel_l, ↓sel_r, C1T, C1F, C2T, C2F, C3T, C3F, D1T, D1F, D2T, D2F, D3T, D3F, E1T, E1F, E2T, E2F, E3T, E3F, G1T, G1F, G2T, G2F, G3F, inb_T, inb_L, isB_0, isB_1, isB_b, nI_add, L_add1, L_add2, nI_cl, L_cl, bI_T, bI_F, eq_self, not_true_eq_false, not_false_eq_true, ↓bd_of (X_noThing_out hn.x2 q)]
    · unfold f_X12_turn
      simp (disch := omega) only [↓lt_eq, ↓reduceIte, ↓un1, ↓un2, ↓un3, ↓un4, ↓bd_some, ↓bind_some', ↓sel_l, ↓sel_r, C1T, C1F, C2T, C2F, C3T, C3F, D1T, D1F, D2T, D2F, D3T, D3F, E1T, E1F, E2T, E2F, E3T, E3F, G1T, G1F, G2T, G2F, G3F, inb_T, inb_L, isB_0, isB_1, isB_b, nI_add, L_add1, L_add2, nI_cl, L_cl, bI_T, bI_F, eq_self, not_true_eq_false, not_false_eq_true, ↓bd_of (M_isThing_out hn.m1 q hN4)]
  rcases rng x2 (lo := 0) (hi := 1) 0 1 (by decide) (by decide) (by omega) (by omega) with q | ⟨w, w1, w2, rfl⟩
  · refine step_same (-1000001) hI ?_ ?_
    · unfold f_X11_turn
      simp (disch := omega) only [↓lt_eq, ↓reduceIte, ↓un1, ↓un2, ↓un3, ↓un4, ↓bd_some, ↓bind_some', ↓sel_l, ↓sel_r, C1T, C1F, C2T, C2F, C3T, C3F, D1T, D1F, D2T, D2F, D3T, D3F, E1T, E1F, E2T, E2F, E3T, E3F, G1T, G1F, G2T, G2F, G3F, inb_T, inb_L, isB_0, isB_1, isB_b, nI_add, L_add1, L_add2, nI_cl, L_cl, bI_T, bI_F, eq_self, not_true_eq_false, not_false_eq_true, ↓bd_of (X_noThing_in hn.x2 ht hN4), ↓ite_out1 q]
    · unfold f_X12_turn
      simp (disch := omega) only [↓lt_eq, ↓reduceIte, ↓un1, ↓un2, ↓un3, ↓un4, ↓bd_some, ↓bind_some', ↓sel_l, ↓sel_r, C1T, C1F, C2T, C2F, C3T, C3F, D1T, D1F, D2T, D2F, D3T, D3F, E1T, E1F, E2T, E2F, E3T, E3F, G1T, G1F, G2T, G2F, G3F, inb_T, inb_L, isB_0, isB_1, isB_b, nI_add, L_add1, L_add2, nI_cl, L_cl, bI_T, bI_F, eq_self, not_true_eq_false, not_false_eq_true, ↓bd_of (M_isThing_in hn.m1 ht hN4), ↓bd_of (M_out (lo := 0) (hi := 1) (L := 0) (H := 1) (by decide) (by decide) q)]
  have hw := hn.1
  have ht6 : t < 6 := Nat.lt_of_lt_of_le ht hw.2.1
  have hp := hn.pos ht
  have e2 := X_isOn hn.2.1 hw ht6
  have hm := (hn.2.2.2.1 hp).2
  have e3 : σ 260 (18 + t) = bI (isOnH h t) := hm.g_on ht (by omega)
  by_cases c : isOnH h t = decide (w = 1)
  · refine step_same (-1000002) hI ?_ ?_
    · unfold f_X11_turn
      rcases (show w = 0 ∨ w = 1 by omega) with rfl | rfl <;> rw [c] at e2 <;> simp (disch := omega) only [↓lt_eq, ↓reduceIte, ↓un1, ↓un2, ↓un3, ↓un4, ↓bd_some, ↓bind_some', ↓sel_l, ↓sel_r, C1T, C1F, C2T, C2F, C3T, C3F, D1T, D1F, D2T, D2F, D3T, D3F, E1T, E1F, E2T, E2F, E3T, E3F, G1T, G1F, G2T, G2F, G3F, inb_T, inb_L, isB_0, isB_1, isB_b, nI_add, L_add1, L_add2, nI_cl, L_cl, bI_T, bI_F, eq_self, not_true_eq_false, not_false_eq_true, ↓bd_of (X_noThing_in hn.x2 ht hN4), ↓bd_of e2, decide_true, decide_false] <;> rfl
    · unfold f_X12_turn
      rcases (show w = 0 ∨ w = 1 by omega) with rfl | rfl <;> rw [c] at e3 <;> simp (disch := omega) only [↓lt_eq, ↓reduceIte, ↓un1, ↓un2, ↓un3, ↓un4, ↓bd_some, ↓bind_some', ↓sel_l, ↓sel_r, C1T, C1F, C2T, C2F, C3T, C3F, D1T, D1F, D2T, D2F, D3T, D3F, E1T, E1F, E2T, E2F, E3T, E3F, G1T, G1F, G2T, G2F, G3F, inb_T, inb_L, isB_0, isB_1, isB_b, nI_add, L_add1, L_add2, nI_cl, L_cl, bI_T, bI_F, eq_self, not_true_eq_false, not_false_eq_true, ↓bd_of (M_isThing_in hn.m1 ht hN4), ↓bd_of (M_inn (σ := σ) (L := 0) (H := 1) (a := 0) (b := 1) (by decide) (by decide) w1 w2 (by decide)), e3, decide_true, decide_false] <;> rfl
  have c' : isOnH h t = !decide (w = 1) := by
    cases z1 : isOnH h t <;> cases z2 : decide (w = 1) <;> first | rfl | (exfalso; exact c (z1.trans z2.symm))
  have hW' := ha.w.push hw hn.2.2.1 (hn.2.2.2.1 hp).1
  refine step_act (h' := setOn h (hOn h ^^^ 2 ^ t)) (n' := pushN n) (ac' := pushA n ac h) (orT (runsH (setOn h (hOn h ^^^ 2 ^ t))) (hN h)) hI hn hi (wf_flip hw ht) hn.2.2.1 hp (hn.2.2.2.1 hp).1 (pushN_le ha.2.1) hW' ?_ (fun s hc => ?_)
  · have hk : ∀ s, HX 19 s h → Ok ((f_X3_toggle 19 (nI t) s).bind fun (s_9 : St) => bd (f_X3_runningThings 19 s_9) fun (r_11 : Int32) (s_10 : St) => some (r_11, s_10)) (fun v => v.1 = orT (runsH (setOn h (hOn h ^^^ 2 ^ t))) (hN h) ∧ HX 19 v.2 (setOn h (hOn h ^^^ 2 ^ t)) ∧ Fr (blk 19) s v.2) := by
      intro s hs
      have f1 := X_toggle hs hw ht6
      have f2 := hs.setOn (hOn h ^^^ 2 ^ t)
      have f3 := X_runningThings f2 (wf_flip hw ht)
      simp (disch := omega) only [↓lt_eq, ↓reduceIte, ↓un1, ↓un2, ↓un3, ↓un4, ↓bd_some, ↓bind_some', ↓sel_l, ↓sel_r, C1T, C1F, C2T, C2F, C3T, C3F, D1T, D1F, D2T, D2F, D3T, D3F, E1T, E1F, E2T, E2F, E3T, E3F, G1T, G1F, G2T, G2F, G3F, inb_T, inb_L, isB_0, isB_1, isB_b, nI_add, L_add1, L_add2, nI_cl, L_cl, bI_T, bI_F, eq_self, not_true_eq_false, not_false_eq_true, ↓bind_of f1, ↓bd_of f3]
      exact Ok.ret ⟨rfl, f2, Fr.w1 (by unfold blk; omega)⟩
    unfold f_X11_turn
    rw [c'] at e2
    rcases (show w = 0 ∨ w = 1 by omega) with rfl | rfl
    · have e2 : f_X3_isOn 19 (nI t) σ = some (1, σ) := e2
      simp (disch := omega) only [↓lt_eq, ↓reduceIte, ↓un1, ↓un2, ↓un3, ↓un4, ↓bd_some, ↓bind_some', ↓sel_l, ↓sel_r, C1T, C1F, C2T, C2F, C3T, C3F, D1T, D1F, D2T, D2F, D3T, D3F, E1T, E1F, E2T, E2F, E3T, E3F, G1T, G1F, G2T, G2F, G3F, inb_T, inb_L, isB_0, isB_1, isB_b, nI_add, L_add1, L_add2, nI_cl, L_cl, bI_T, bI_F, eq_self, not_true_eq_false, not_false_eq_true, ↓bd_of (X_noThing_in hn.x2 ht hN4), ↓bd_of e2]
      exact X_act hn.2.1 hw ha.x hk
    · have e2 : f_X3_isOn 19 (nI t) σ = some (0, σ) := e2
      simp (disch := omega) only [↓lt_eq, ↓reduceIte, ↓un1, ↓un2, ↓un3, ↓un4, ↓bd_some, ↓bind_some', ↓sel_l, ↓sel_r, C1T, C1F, C2T, C2F, C3T, C3F, D1T, D1F, D2T, D2F, D3T, D3F, E1T, E1F, E2T, E2F, E3T, E3F, G1T, G1F, G2T, G2F, G3F, inb_T, inb_L, isB_0, isB_1, isB_b, nI_add, L_add1, L_add2, nI_cl, L_cl, bI_T, bI_F, eq_self, not_true_eq_false, not_false_eq_true, ↓bd_of (X_noThing_in hn.x2 ht hN4), ↓bd_of e2]
      exact X_act hn.2.1 hw ha.x hk
  · have g0 : s 261 1 = nI (hN h) := by rw [hc.1 261 (by omega) (by omega) (by omega)]; exact hn.m1
    have g1 : s 260 (18 + t) = bI (!decide (w = 1)) := by rw [hc.1 260 (by omega) (by omega) (by omega), ← c']; exact e3
    have hv : nI w = bI (!isOnH h t) := by
      rw [c', Bool.not_not]
      rcases (show w = 0 ∨ w = 1 by omega) with rfl | rfl <;> rfl
    have hne : ¬ bI (!decide (w = 1)) = nI w := by
      rcases (show w = 0 ∨ w = 1 by omega) with rfl | rfl <;> decide
    unfold f_X12_turn
    simp (disch := omega) only [↓lt_eq, ↓reduceIte, ↓un1, ↓un2, ↓un3, ↓un4, ↓bd_some, ↓bind_some', ↓sel_l, ↓sel_r, C1T, C1F, C2T, C2F, C3T, C3F, D1T, D1F, D2T, D2F, D3T, D3F, E1T, E1F, E2T, E2F, E3T, E3F, G1T, G1F, G2T, G2F, G3F, inb_T, inb_L, isB_0, isB_1, isB_b, nI_add, L_add1, L_add2, nI_cl, L_cl, bI_T, bI_F, eq_self, not_true_eq_false, not_false_eq_true, ↓bd_of (M_isThing_in g0 ht hN4), ↓bd_of (M_inn (σ := s) (L := 0) (H := 1) (a := 0) (b := 1) (by decide) (by decide) w1 w2 (by decide)), g1, hne]
    refine M_act (hm.cx hc) hw ha.2.1 (ha.m.cx ha.2.1 ha.w hc) ha.w hW' (fun u hu => ?_)
    have f2 := M_flip0 hu hw ht
    rw [← hv] at f2
    have f3 : f_X12_running (0 : Int32) (wr u 260 (18 + t) (nI w)) = _ := M_running (b := 0) f2 (wf_flip hw ht) (by omega)
    try simp (disch := omega) only [↓lt_eq, ↓reduceIte, ↓un1, ↓un2, ↓un3, ↓un4, ↓bd_some, ↓bind_some', ↓sel_l, ↓sel_r, C1T, C1F, C2T, C2F, C3T, C3F, D1T, D1F, D2T, D2F, D3T, D3F, E1T, E1F, E2T, E2F, E3T, E3F, G1T, G1F, G2T, G2F, G3F, inb_T, inb_L, isB_0, isB_1, isB_b, nI_add, L_add1, L_add2, nI_cl, L_cl, bI_T, bI_F, eq_self, not_true_eq_false, not_false_eq_true]
    simp (disch := omega) only [↓lt_eq, ↓reduceIte, ↓un1, ↓un2, ↓un3, ↓un4, ↓bd_some, ↓bind_some', ↓sel_l, ↓sel_r, C1T, C1F, C2T, C2F, C3T, C3F, D1T, D1F, D2T, D2F, D3T, D3F, E1T, E1F, E2T, E2F, E3T, E3F, G1T, G1F, G2T, G2F, G3F, inb_T, inb_L, isB_0, isB_1, isB_b, nI_add, L_add1, L_add2, nI_cl, L_cl, bI_T, bI_F, eq_self, not_true_eq_false, not_false_eq_true, ↓bd_of f3]
    exact Ok.ret ⟨rfl, f2, FrM.w1 (by omega) (by omega)⟩
theorem step_plug (x1 x2 : Int32) : Step Inv (f_X11_plug x1 x2) (f_X12_plug x1 x2) := by
  intro σ hI
  obtain ⟨hR, hP, hF, hT, h, o, n, ac, im, hn, ha, hi⟩ := id hI
  have hN4 := hn.N6
  have hL4 := hn.L4
  rcases idx x1 (hN h) hN4 with q | ⟨t, ht, rfl⟩
  · refine step_same (-1000001) hI ?_ ?_
    · unfold f_X11_plug
      simp (disch := omega) only [↓lt_eq, ↓reduceIte, ↓un1, ↓un2, ↓un3, ↓un4, ↓bd_some, ↓bind_some', ↓sel_l, ↓sel_r, C1T, C1F, C2T, C2F, C3T, C3F, D1T, D1F, D2T, D2F, D3T, D3F, E1T, E1F, E2T, E2F, E3T, E3F, G1T, G1F, G2T, G2F, G3F, inb_T, inb_L, isB_0, isB_1, isB_b, nI_add, L_add1, L_add2, nI_cl, L_cl, bI_T, bI_F, eq_self, not_true_eq_false, not_false_eq_true, ↓bd_of (X_noThing_out hn.x2 q)]
    · unfold f_X12_plug
      simp (disch := omega) only [↓lt_eq, ↓reduceIte, ↓un1, ↓un2, ↓un3, ↓un4, ↓bd_some, ↓bind_some', ↓sel_l, ↓sel_r, C1T, C1F, C2T, C2F, C3T, C3F, D1T, D1F, D2T, D2F, D3T, D3F, E1T, E1F, E2T, E2F, E3T, E3F, G1T, G1F, G2T, G2F, G3F, inb_T, inb_L, isB_0, isB_1, isB_b, nI_add, L_add1, L_add2, nI_cl, L_cl, bI_T, bI_F, eq_self, not_true_eq_false, not_false_eq_true, ↓bd_of (M_isThing_out hn.m1 q hN4)]
  rcases idx x2 (hL h) hL4 with q | ⟨l, hl, rfl⟩
  · refine step_same (-1000001) hI ?_ ?_
    · unfold f_X11_plug
      simp (disch := omega) only [↓lt_eq, ↓reduceIte, ↓un1, ↓un2, ↓un3, ↓un4, ↓bd_some, ↓bind_some', ↓sel_l, ↓sel_r, C1T, C1F, C2T, C2F, C3T, C3F, D1T, D1F, D2T, D2F, D3T, D3F, E1T, E1F, E2T, E2F, E3T, E3F, G1T, G1F, G2T, G2F, G3F, inb_T, inb_L, isB_0, isB_1, isB_b, nI_add, L_add1, L_add2, nI_cl, L_cl, bI_T, bI_F, eq_self, not_true_eq_false, not_false_eq_true, ↓bd_of (X_noThing_in hn.x2 ht hN4), ↓bd_of (X_noLine_out hn.x1 q)]
    · unfold f_X12_plug
      simp (disch := omega) only [↓lt_eq, ↓reduceIte, ↓un1, ↓un2, ↓un3, ↓un4, ↓bd_some, ↓bind_some', ↓sel_l, ↓sel_r, C1T, C1F, C2T, C2F, C3T, C3F, D1T, D1F, D2T, D2F, D3T, D3F, E1T, E1F, E2T, E2F, E3T, E3F, G1T, G1F, G2T, G2F, G3F, inb_T, inb_L, isB_0, isB_1, isB_b, nI_add, L_add1, L_add2, nI_cl, L_cl, bI_T, bI_F, eq_self, not_true_eq_false, not_false_eq_true, ↓bd_of (M_isThing_in hn.m1 ht hN4), ↓bd_of (M_isLine_out hn.m0 q hL4)]
  have hw := hn.1
  have hw1 := hw.1
  have ht6 : t < 6 := Nat.lt_of_lt_of_le ht hw.2.1
  have hp := hn.pos ht
  have hpg := (hw.2.2.2.2.2.2.2 t ht).1
  have e2 := (hn.2.1.2.2.2.2.2.2.2.2 t ht).1
  have hm := (hn.2.2.2.1 hp).2
  have e3 : σ 260 (12 + t) = nI (hPg h t) := hm.g_pg ht (by omega)
  by_cases c : hPg h t = l
  · refine step_same (-1000002) hI ?_ ?_
    · unfold f_X11_plug
      simp (disch := omega) only [↓lt_eq, ↓reduceIte, ↓un1, ↓un2, ↓un3, ↓un4, ↓bd_some, ↓bind_some', ↓sel_l, ↓sel_r, C1T, C1F, C2T, C2F, C3T, C3F, D1T, D1F, D2T, D2F, D3T, D3F, E1T, E1F, E2T, E2F, E3T, E3F, G1T, G1F, G2T, G2F, G3F, inb_T, inb_L, isB_0, isB_1, isB_b, nI_add, L_add1, L_add2, nI_cl, L_cl, bI_T, bI_F, eq_self, not_true_eq_false, not_false_eq_true, ↓bd_of (X_noThing_in hn.x2 ht hN4), ↓bd_of (X_noLine_in hn.x1 hl hL4), e2]
    · unfold f_X12_plug
      simp (disch := omega) only [↓lt_eq, ↓reduceIte, ↓un1, ↓un2, ↓un3, ↓un4, ↓bd_some, ↓bind_some', ↓sel_l, ↓sel_r, C1T, C1F, C2T, C2F, C3T, C3F, D1T, D1F, D2T, D2F, D3T, D3F, E1T, E1F, E2T, E2F, E3T, E3F, G1T, G1F, G2T, G2F, G3F, inb_T, inb_L, isB_0, isB_1, isB_b, nI_add, L_add1, L_add2, nI_cl, L_cl, bI_T, bI_F, eq_self, not_true_eq_false, not_false_eq_true, ↓bd_of (M_isThing_in hn.m1 ht hN4), ↓bd_of (M_isLine_in hn.m0 hl hL4), e3]
  have hW' := ha.w.push hw hn.2.2.1 (hn.2.2.2.1 hp).1
  refine step_act (h' := setPg h t l) (n' := pushN n) (ac' := pushA n ac h) (nI (hPg h t)) hI hn hi (hw.setPg t l hl) hn.2.2.1 hp (hn.2.2.2.1 hp).1 (pushN_le ha.2.1) hW' ?_ (fun s hc => ?_)
  · unfold f_X11_plug
    simp (disch := omega) only [↓lt_eq, ↓reduceIte, ↓un1, ↓un2, ↓un3, ↓un4, ↓bd_some, ↓bind_some', ↓sel_l, ↓sel_r, C1T, C1F, C2T, C2F, C3T, C3F, D1T, D1F, D2T, D2F, D3T, D3F, E1T, E1F, E2T, E2F, E3T, E3F, G1T, G1F, G2T, G2F, G3F, inb_T, inb_L, isB_0, isB_1, isB_b, nI_add, L_add1, L_add2, nI_cl, L_cl, bI_T, bI_F, eq_self, not_true_eq_false, not_false_eq_true, ↓bd_of (X_noThing_in hn.x2 ht hN4), ↓bd_of (X_noLine_in hn.x1 hl hL4), e2]
    exact X_act hn.2.1 hw ha.x (fun s hs => Ok.ret ⟨rfl, hs.setPg t l, Fr.w1 (by unfold blk; omega)⟩)
  · have g0 : s 261 1 = nI (hN h) := by rw [hc.1 261 (by omega) (by omega) (by omega)]; exact hn.m1
    have g2 : s 261 0 = nI (hL h) := by rw [hc.1 261 (by omega) (by omega) (by omega)]; exact hn.m0
    have g1 : s 260 (12 + t) = nI (hPg h t) := by rw [hc.1 260 (by omega) (by omega) (by omega)]; exact e3
    unfold f_X12_plug
    simp (disch := omega) only [↓lt_eq, ↓reduceIte, ↓un1, ↓un2, ↓un3, ↓un4, ↓bd_some, ↓bind_some', ↓sel_l, ↓sel_r, C1T, C1F, C2T, C2F, C3T, C3F, D1T, D1F, D2T, D2F, D3T, D3F, E1T, E1F, E2T, E2F, E3T, E3F, G1T, G1F, G2T, G2F, G3F, inb_T, inb_L, isB_0, isB_1, isB_b, nI_add, L_add1, L_add2, nI_cl, L_cl, bI_T, bI_F, eq_self, not_true_eq_false, not_false_eq_true, ↓bd_of (M_isThing_in g0 ht hN4), ↓bd_of (M_isLine_in g2 hl hL4), g1]
    refine M_act (hm.cx hc) hw ha.2.1 (ha.m.cx ha.2.1 ha.w hc) ha.w hW' (fun u hu => ?_)
    have f1 : u 260 (12 + t) = nI (hPg h t) := hu.g_pg ht (by omega)
    exact Ok.ret ⟨f1, hu.setPg (k := 12 + t) hw t l ht6 (by omega), FrM.w1 (by omega) (by omega)⟩
theorem step_mend (x1 : Int32) : Step Inv (f_X11_mend x1) (f_X12_mend x1) := by
  intro σ hI
  obtain ⟨hR, hP, hF, hT, h, o, n, ac, im, hn, ha, hi⟩ := id hI
  have hL4 := hn.L4
  rcases idx x1 (hL h) hL4 with q | ⟨l, hl, rfl⟩
  · refine step_same (-1000001) hI ?_ ?_
    · unfold f_X11_mend
      simp (disch := omega) only [↓lt_eq, ↓reduceIte, ↓un1, ↓un2, ↓un3, ↓un4, ↓bd_some, ↓bind_some', ↓sel_l, ↓sel_r, C1T, C1F, C2T, C2F, C3T, C3F, D1T, D1F, D2T, D2F, D3T, D3F, E1T, E1F, E2T, E2F, E3T, E3F, G1T, G1F, G2T, G2F, G3F, inb_T, inb_L, isB_0, isB_1, isB_b, nI_add, L_add1, L_add2, nI_cl, L_cl, bI_T, bI_F, eq_self, not_true_eq_false, not_false_eq_true, ↓bd_of (X_noLine_out hn.x1 q)]
    · unfold f_X12_mend
      simp (disch := omega) only [↓lt_eq, ↓reduceIte, ↓un1, ↓un2, ↓un3, ↓un4, ↓bd_some, ↓bind_some', ↓sel_l, ↓sel_r, C1T, C1F, C2T, C2F, C3T, C3F, D1T, D1F, D2T, D2F, D3T, D3F, E1T, E1F, E2T, E2F, E3T, E3F, G1T, G1F, G2T, G2F, G3F, inb_T, inb_L, isB_0, isB_1, isB_b, nI_add, L_add1, L_add2, nI_cl, L_cl, bI_T, bI_F, eq_self, not_true_eq_false, not_false_eq_true, ↓bd_of (M_isLine_out hn.m0 q hL4)]
  have hw := hn.1
  have hl4 : l < 4 := Nat.lt_of_lt_of_le hl hw.1
  have hp : 0 < hL h := by omega
  have hdb := (hw.2.2.2.2.2.2.1 l hl).2.2.2.2
  have e2 := X_isDead hn.2.1 hw hl
  have hm := (hn.2.2.2.1 hp).2
  have e3 : σ 260 (4 + l) = nI (hDd h l) := hm.g_dd hl (by omega)
  by_cases c : hDd h l = 0
  · rw [decide_eq_false (by omega)] at e2
    refine step_same (-1000002) hI ?_ ?_
    · unfold f_X11_mend
      simp (disch := omega) only [↓lt_eq, ↓reduceIte, ↓un1, ↓un2, ↓un3, ↓un4, ↓bd_some, ↓bind_some', ↓sel_l, ↓sel_r, C1T, C1F, C2T, C2F, C3T, C3F, D1T, D1F, D2T, D2F, D3T, D3F, E1T, E1F, E2T, E2F, E3T, E3F, G1T, G1F, G2T, G2F, G3F, inb_T, inb_L, isB_0, isB_1, isB_b, nI_add, L_add1, L_add2, nI_cl, L_cl, bI_T, bI_F, eq_self, not_true_eq_false, not_false_eq_true, ↓bd_of (X_noLine_in hn.x1 hl hL4), ↓bd_of e2]
    · unfold f_X12_mend
      simp (disch := omega) only [↓lt_eq, ↓reduceIte, ↓un1, ↓un2, ↓un3, ↓un4, ↓bd_some, ↓bind_some', ↓sel_l, ↓sel_r, C1T, C1F, C2T, C2F, C3T, C3F, D1T, D1F, D2T, D2F, D3T, D3F, E1T, E1F, E2T, E2F, E3T, E3F, G1T, G1F, G2T, G2F, G3F, inb_T, inb_L, isB_0, isB_1, isB_b, nI_add, L_add1, L_add2, nI_cl, L_cl, bI_T, bI_F, eq_self, not_true_eq_false, not_false_eq_true, ↓bd_of (M_isLine_in hn.m0 hl hL4), e3]
  rw [decide_eq_true (by omega)] at e2
  have hW' := ha.w.push hw hn.2.2.1 (hn.2.2.2.1 hp).1
  have hwd := hw.setDd l 0 (by omega)
  have hwh := hwd.setHt l 0 (by omega)
  refine step_act (h' := setHt (setDd h l 0) l 0) (n' := pushN n) (ac' := pushA n ac h) (orT (fun m => decide (0 < hDd (setHt (setDd h l 0) l 0) m)) (hL h)) hI hn hi hwh hn.2.2.1 hp (hn.2.2.2.1 hp).1 (pushN_le ha.2.1) hW' ?_ (fun s hc => ?_)
  · unfold f_X11_mend
    simp (disch := omega) only [↓lt_eq, ↓reduceIte, ↓un1, ↓un2, ↓un3, ↓un4, ↓bd_some, ↓bind_some', ↓sel_l, ↓sel_r, C1T, C1F, C2T, C2F, C3T, C3F, D1T, D1F, D2T, D2F, D3T, D3F, E1T, E1F, E2T, E2F, E3T, E3F, G1T, G1F, G2T, G2F, G3F, inb_T, inb_L, isB_0, isB_1, isB_b, nI_add, L_add1, L_add2, nI_cl, L_cl, bI_T, bI_F, eq_self, not_true_eq_false, not_false_eq_true, ↓bd_of (X_noLine_in hn.x1 hl hL4), ↓bd_of e2]
    refine X_act hn.2.1 hw ha.x (fun s hs => ?_)
    have f1 := X_mendLine (a := 19) (σ := s) hl4
    have f2 := (hs.setDd l 0).setHt l 0
    have f3 := X_deadLines f2 hwh
    simp (disch := omega) only [↓lt_eq, ↓reduceIte, ↓un1, ↓un2, ↓un3, ↓un4, ↓bd_some, ↓bind_some', ↓sel_l, ↓sel_r, C1T, C1F, C2T, C2F, C3T, C3F, D1T, D1F, D2T, D2F, D3T, D3F, E1T, E1F, E2T, E2F, E3T, E3F, G1T, G1F, G2T, G2F, G3F, inb_T, inb_L, isB_0, isB_1, isB_b, nI_add, L_add1, L_add2, nI_cl, L_cl, bI_T, bI_F, eq_self, not_true_eq_false, not_false_eq_true, ↓bind_of f1, ↓bd_of f3]
    exact Ok.ret ⟨rfl, f2, (Fr.w1 (by unfold blk; omega)).tr (Fr.w1 (by unfold blk; omega))⟩
  · have g2 : s 261 0 = nI (hL h) := by rw [hc.1 261 (by omega) (by omega) (by omega)]; exact hn.m0
    have g1 : s 260 (4 + l) = nI (hDd h l) := by rw [hc.1 260 (by omega) (by omega) (by omega)]; exact e3
    unfold f_X12_mend
    simp (disch := omega) only [↓lt_eq, ↓reduceIte, ↓un1, ↓un2, ↓un3, ↓un4, ↓bd_some, ↓bind_some', ↓sel_l, ↓sel_r, C1T, C1F, C2T, C2F, C3T, C3F, D1T, D1F, D2T, D2F, D3T, D3F, E1T, E1F, E2T, E2F, E3T, E3F, G1T, G1F, G2T, G2F, G3F, inb_T, inb_L, isB_0, isB_1, isB_b, nI_add, L_add1, L_add2, nI_cl, L_cl, bI_T, bI_F, eq_self, not_true_eq_false, not_false_eq_true, ↓bd_of (M_isLine_in g2 hl hL4), g1]
    refine M_act (hm.cx hc) hw ha.2.1 (ha.m.cx ha.2.1 ha.w hc) ha.w hW' (fun u hu => ?_)
    have f1 : f_X12_mends (0 : Int32) (nI l) u = _ := M_mends (b := 0) (σ := u) hl4 (by omega)
    have f2 := (hu.setDd (k := 0 + 4 + l) hw l 0 hl4 rfl).setHt (k := 0 + l) hwd l 0 hl4 rfl
    have f3 := M_deadOnes hwh f2.1 (fun m hm => f2.g_dd hm (by omega))
    simp (disch := omega) only [↓lt_eq, ↓reduceIte, ↓un1, ↓un2, ↓un3, ↓un4, ↓bd_some, ↓bind_some', ↓sel_l, ↓sel_r, C1T, C1F, C2T, C2F, C3T, C3F, D1T, D1F, D2T, D2F, D3T, D3F, E1T, E1F, E2T, E2F, E3T, E3F, G1T, G1F, G2T, G2F, G3F, inb_T, inb_L, isB_0, isB_1, isB_b, nI_add, L_add1, L_add2, nI_cl, L_cl, bI_T, bI_F, eq_self, not_true_eq_false, not_false_eq_true, ↓bind_of f1, ↓bd_of f3]
    exact Ok.ret ⟨rfl, f2, (FrM.w1 (by omega) (by omega)).tr (FrM.w1 (by omega) (by omega))⟩
theorem step_mains : Step Inv f_X11_mains f_X12_mains := by
  intro σ hI
  obtain ⟨hR, hP, hF, hT, h, o, n, ac, im, hn, ha, hi⟩ := id hI
  have hL4 := hn.L4
  rcases Nat.eq_zero_or_pos (hL h) with hz | hp
  · have e1 := hn.x1
    have e2 := hn.m0
    rw [hz] at e1 e2
    refine step_same (-1000002) hI ?_ ?_
    · unfold f_X11_mains
      simp (disch := omega) only [↓lt_eq, ↓reduceIte, ↓un1, ↓un2, ↓un3, ↓un4, ↓bd_some, ↓bind_some', ↓sel_l, ↓sel_r, C1T, C1F, C2T, C2F, C3T, C3F, D1T, D1F, D2T, D2F, D3T, D3F, E1T, E1F, E2T, E2F, E3T, E3F, G1T, G1F, G2T, G2F, G3F, inb_T, inb_L, isB_0, isB_1, isB_b, nI_add, L_add1, L_add2, nI_cl, L_cl, bI_T, bI_F, eq_self, not_true_eq_false, not_false_eq_true, ↓bd_of (X_noHouse_1 e1)]
    · unfold f_X12_mains
      simp (disch := omega) only [↓lt_eq, ↓reduceIte, ↓un1, ↓un2, ↓un3, ↓un4, ↓bd_some, ↓bind_some', ↓sel_l, ↓sel_r, C1T, C1F, C2T, C2F, C3T, C3F, D1T, D1F, D2T, D2F, D3T, D3F, E1T, E1F, E2T, E2F, E3T, E3F, G1T, G1F, G2T, G2F, G3F, inb_T, inb_L, isB_0, isB_1, isB_b, nI_add, L_add1, L_add2, nI_cl, L_cl, bI_T, bI_F, eq_self, not_true_eq_false, not_false_eq_true, ↓bd_of (M_isHouse_0 e2)]
  have hw := hn.1
  have e2 := hn.2.1.2.2.2.2.2.1
  have hm := (hn.2.2.2.1 hp).2
  have e3 : σ 260 24 = bI (!hIn h) := hm.2.2.2.2.2.1
  cases c : hIn h with
  | true =>
    rw [c] at e2 e3
    refine step_same (-1000002) hI ?_ ?_
    · unfold f_X11_mains
      simp (disch := omega) only [↓lt_eq, ↓reduceIte, ↓un1, ↓un2, ↓un3, ↓un4, ↓bd_some, ↓bind_some', ↓sel_l, ↓sel_r, C1T, C1F, C2T, C2F, C3T, C3F, D1T, D1F, D2T, D2F, D3T, D3F, E1T, E1F, E2T, E2F, E3T, E3F, G1T, G1F, G2T, G2F, G3F, inb_T, inb_L, isB_0, isB_1, isB_b, nI_add, L_add1, L_add2, nI_cl, L_cl, bI_T, bI_F, eq_self, not_true_eq_false, not_false_eq_true, ↓bd_of (X_noHouse_0 hn.x1 hp hL4), e2]
    · unfold f_X12_mains
      simp (disch := omega) only [↓lt_eq, ↓reduceIte, ↓un1, ↓un2, ↓un3, ↓un4, ↓bd_some, ↓bind_some', ↓sel_l, ↓sel_r, C1T, C1F, C2T, C2F, C3T, C3F, D1T, D1F, D2T, D2F, D3T, D3F, E1T, E1F, E2T, E2F, E3T, E3F, G1T, G1F, G2T, G2F, G3F, inb_T, inb_L, isB_0, isB_1, isB_b, nI_add, L_add1, L_add2, nI_cl, L_cl, bI_T, bI_F, eq_self, not_true_eq_false, not_false_eq_true, ↓bd_of (M_isHouse_1 hn.m0 hp hL4), e3, Bool.not_true]
  | false =>
    rw [c] at e2 e3
    have hW' := ha.w.push hw hn.2.2.1 (hn.2.2.2.1 hp).1
    refine step_act (h' := setIn h true) (n' := pushN n) (ac' := pushA n ac h) (orT (live (setIn h true)) (hL h)) hI hn hi (hw.setIn true) hn.2.2.1 hp (hn.2.2.2.1 hp).1 (pushN_le ha.2.1) hW' ?_ (fun s hc => ?_)
    · unfold f_X11_mains
      simp (disch := omega) only [↓lt_eq, ↓reduceIte, ↓un1, ↓un2, ↓un3, ↓un4, ↓bd_some, ↓bind_some', ↓sel_l, ↓sel_r, C1T, C1F, C2T, C2F, C3T, C3F, D1T, D1F, D2T, D2F, D3T, D3F, E1T, E1F, E2T, E2F, E3T, E3F, G1T, G1F, G2T, G2F, G3F, inb_T, inb_L, isB_0, isB_1, isB_b, nI_add, L_add1, L_add2, nI_cl, L_cl, bI_T, bI_F, eq_self, not_true_eq_false, not_false_eq_true, ↓bd_of (X_noHouse_0 hn.x1 hp hL4), e2]
      refine X_act hn.2.1 hw ha.x (fun s hs => ?_)
      have f2 := hs.setIn true
      have f3 := X_liveLines f2 (hw.setIn true)
      have f3 : f_X3_liveLines 19 (wr s 19 6 1) = _ := f3
      simp (disch := omega) only [↓lt_eq, ↓reduceIte, ↓un1, ↓un2, ↓un3, ↓un4, ↓bd_some, ↓bind_some', ↓sel_l, ↓sel_r, C1T, C1F, C2T, C2F, C3T, C3F, D1T, D1F, D2T, D2F, D3T, D3F, E1T, E1F, E2T, E2F, E3T, E3F, G1T, G1F, G2T, G2F, G3F, inb_T, inb_L, isB_0, isB_1, isB_b, nI_add, L_add1, L_add2, nI_cl, L_cl, bI_T, bI_F, eq_self, not_true_eq_false, not_false_eq_true, ↓bd_of f3]
      exact Ok.ret ⟨rfl, f2, Fr.w1 (by unfold blk; omega)⟩
    · have g2 : s 261 0 = nI (hL h) := by rw [hc.1 261 (by omega) (by omega) (by omega)]; exact hn.m0
      have g1 : s 260 24 = bI (!false) := by rw [hc.1 260 (by omega) (by omega) (by omega)]; exact e3
      unfold f_X12_mains
      simp (disch := omega) only [↓lt_eq, ↓reduceIte, ↓un1, ↓un2, ↓un3, ↓un4, ↓bd_some, ↓bind_some', ↓sel_l, ↓sel_r, C1T, C1F, C2T, C2F, C3T, C3F, D1T, D1F, D2T, D2F, D3T, D3F, E1T, E1F, E2T, E2F, E3T, E3F, G1T, G1F, G2T, G2F, G3F, inb_T, inb_L, isB_0, isB_1, isB_b, nI_add, L_add1, L_add2, nI_cl, L_cl, bI_T, bI_F, eq_self, not_true_eq_false, not_false_eq_true, ↓bd_of (M_isHouse_1 g2 hp hL4), g1, Bool.not_false]
      refine M_act (hm.cx hc) hw ha.2.1 (ha.m.cx ha.2.1 ha.w hc) ha.w hW' (fun u hu => ?_)
      have f2 := hu.setIn (k := 24) hw true rfl
      have f3 : f_X12_liveOnes (0 : Int32) (wr u 260 24 0) = _ := M_liveOnes (b := 0) f2 (hw.setIn true) (by omega)
      simp (disch := omega) only [↓lt_eq, ↓reduceIte, ↓un1, ↓un2, ↓un3, ↓un4, ↓bd_some, ↓bind_some', ↓sel_l, ↓sel_r, C1T, C1F, C2T, C2F, C3T, C3F, D1T, D1F, D2T, D2F, D3T, D3F, E1T, E1F, E2T, E2F, E3T, E3F, G1T, G1F, G2T, G2F, G3F, inb_T, inb_L, isB_0, isB_1, isB_b, nI_add, L_add1, L_add2, nI_cl, L_cl, bI_T, bI_F, eq_self, not_true_eq_false, not_false_eq_true, ↓bd_of f3]
      exact Ok.ret ⟨rfl, f2, FrM.w1 (by omega) (by omega)⟩
theorem step_rate (x1 x2 : Int32) : Step Inv (f_X11_rate x1 x2) (f_X12_rate x1 x2) := by
  intro σ hI
  obtain ⟨hR, hP, hF, hT, h, o, n, ac, im, hn, ha, hi⟩ := id hI
  have hL4 := hn.L4
  rcases idx x1 (hL h) hL4 with q | ⟨l, hl, rfl⟩
  · refine step_same (-1000001) hI ?_ ?_
    · unfold f_X11_rate
      simp (disch := omega) only [↓lt_eq, ↓reduceIte, ↓un1, ↓un2, ↓un3, ↓un4, ↓bd_some, ↓bind_some', ↓sel_l, ↓sel_r, C1T, C1F, C2T, C2F, C3T, C3F, D1T, D1F, D2T, D2F, D3T, D3F, E1T, E1F, E2T, E2F, E3T, E3F, G1T, G1F, G2T, G2F, G3F, inb_T, inb_L, isB_0, isB_1, isB_b, nI_add, L_add1, L_add2, nI_cl, L_cl, bI_T, bI_F, eq_self, not_true_eq_false, not_false_eq_true, ↓bd_of (X_noLine_out hn.x1 q)]
    · unfold f_X12_rate
      simp (disch := omega) only [↓lt_eq, ↓reduceIte, ↓un1, ↓un2, ↓un3, ↓un4, ↓bd_some, ↓bind_some', ↓sel_l, ↓sel_r, C1T, C1F, C2T, C2F, C3T, C3F, D1T, D1F, D2T, D2F, D3T, D3F, E1T, E1F, E2T, E2F, E3T, E3F, G1T, G1F, G2T, G2F, G3F, inb_T, inb_L, isB_0, isB_1, isB_b, nI_add, L_add1, L_add2, nI_cl, L_cl, bI_T, bI_F, eq_self, not_true_eq_false, not_false_eq_true, ↓bd_of (M_isLine_out hn.m0 q hL4)]
  rcases rng x2 (lo := 1) (hi := 20) 1 20 (by decide) (by decide) (by omega) (by omega) with q | ⟨w, w1, w2, rfl⟩
  · refine step_same (-1000001) hI ?_ ?_
    · unfold f_X11_rate
      simp (disch := omega) only [↓lt_eq, ↓reduceIte, ↓un1, ↓un2, ↓un3, ↓un4, ↓bd_some, ↓bind_some', ↓sel_l, ↓sel_r, C1T, C1F, C2T, C2F, C3T, C3F, D1T, D1F, D2T, D2F, D3T, D3F, E1T, E1F, E2T, E2F, E3T, E3F, G1T, G1F, G2T, G2F, G3F, inb_T, inb_L, isB_0, isB_1, isB_b, nI_add, L_add1, L_add2, nI_cl, L_cl, bI_T, bI_F, eq_self, not_true_eq_false, not_false_eq_true, ↓bd_of (X_noLine_in hn.x1 hl hL4), ↓ite_out1 q]
    · unfold f_X12_rate
      simp (disch := omega) only [↓lt_eq, ↓reduceIte, ↓un1, ↓un2, ↓un3, ↓un4, ↓bd_some, ↓bind_some', ↓sel_l, ↓sel_r, C1T, C1F, C2T, C2F, C3T, C3F, D1T, D1F, D2T, D2F, D3T, D3F, E1T, E1F, E2T, E2F, E3T, E3F, G1T, G1F, G2T, G2F, G3F, inb_T, inb_L, isB_0, isB_1, isB_b, nI_add, L_add1, L_add2, nI_cl, L_cl, bI_T, bI_F, eq_self, not_true_eq_false, not_false_eq_true, ↓bd_of (M_isLine_in hn.m0 hl hL4), ↓bd_of (M_out (lo := 1) (hi := 20) (L := 1) (H := 20) (by decide) (by decide) q)]
  have hw := hn.1
  have hl4 : l < 4 := Nat.lt_of_lt_of_le hl hw.1
  have hp : 0 < hL h := by omega
  have e2 := (hn.2.1.2.2.2.2.2.2.2.1 l hl).2.1
  have hm := (hn.2.2.2.1 hp).2
  have hW' := ha.w.push hw hn.2.2.1 (hn.2.2.2.1 hp).1
  refine step_act (h' := setRt h l w) (n' := pushN n) (ac' := pushA n ac h) (nI (hRt h l)) hI hn hi (hw.setRt l w w2) hn.2.2.1 hp (hn.2.2.2.1 hp).1 (pushN_le ha.2.1) hW' ?_ (fun s hc => ?_)
  · unfold f_X11_rate
    simp (disch := omega) only [↓lt_eq, ↓reduceIte, ↓un1, ↓un2, ↓un3, ↓un4, ↓bd_some, ↓bind_some', ↓sel_l, ↓sel_r, C1T, C1F, C2T, C2F, C3T, C3F, D1T, D1F, D2T, D2F, D3T, D3F, E1T, E1F, E2T, E2F, E3T, E3F, G1T, G1F, G2T, G2F, G3F, inb_T, inb_L, isB_0, isB_1, isB_b, nI_add, L_add1, L_add2, nI_cl, L_cl, bI_T, bI_F, eq_self, not_true_eq_false, not_false_eq_true, ↓bd_of (X_noLine_in hn.x1 hl hL4), e2]
    exact X_act hn.2.1 hw ha.x (fun s hs => Ok.ret ⟨rfl, hs.setRt l w, Fr.w1 (by unfold blk; omega)⟩)
  · have g2 : s 261 0 = nI (hL h) := by rw [hc.1 261 (by omega) (by omega) (by omega)]; exact hn.m0
    unfold f_X12_rate
    simp (disch := omega) only [↓lt_eq, ↓reduceIte, ↓un1, ↓un2, ↓un3, ↓un4, ↓bd_some, ↓bind_some', ↓sel_l, ↓sel_r, C1T, C1F, C2T, C2F, C3T, C3F, D1T, D1F, D2T, D2F, D3T, D3F, E1T, E1F, E2T, E2F, E3T, E3F, G1T, G1F, G2T, G2F, G3F, inb_T, inb_L, isB_0, isB_1, isB_b, nI_add, L_add1, L_add2, nI_cl, L_cl, bI_T, bI_F, eq_self, not_true_eq_false, not_false_eq_true, ↓bd_of (M_isLine_in g2 hl hL4), ↓bd_of (M_inn (σ := s) (L := 1) (H := 20) (a := 1) (b := 20) (by decide) (by decide) w1 w2 (by decide))]
    refine M_act (hm.cx hc) hw ha.2.1 (ha.m.cx ha.2.1 ha.w hc) ha.w hW' (fun u hu => ?_)
    have f1 : u 260 (8 + l) = nI (hRt h l) := hu.g_rt hl (by omega)
    exact Ok.ret ⟨f1, hu.setRt (k := 8 + l) hw l w hl4 (by omega), FrM.w1 (by omega) (by omega)⟩
