/-! line, thing, kind, as, trace, count -/
theorem out_ne {x : Int32} {a b k : Nat} (q : Out x (nI a) (nI b)) (h1 : a ≤ k) (h2 : k ≤ b) (hb : b < 2147483648) : ¬ x = nI k := by
  rintro rfl
  rcases q with q | ⟨-, q⟩
  · exact nI_nlt h1 (by omega) q
  · exact nI_nlt h2 (by omega) q
theorem X_pluggedInto {σ : St} {h : Hs} (hx : HX 19 σ h) (hw : WF h) {l : Nat} (hl : l < hL h) : f_X3_pluggedInto 19 (nI l) σ = some (orT (fun t => decide (hPg h t = l)) (hN h), σ) := by
  have hN6 := hw.2.1
  have hL4 := hw.1
  unfold f_X3_pluggedInto
  simp only [lt_eq]
  have hloop := loop_up (body := f_X3_pluggedInto_L4 19 (nI l)) (r := (orT (fun t => decide (hPg h t = l)) (hN h), σ)) (hN h) 5000 (fun i => (orT (fun t => decide (hPg h t = l)) i, nI i, σ)) (by omega) (fun i hi => by
    have e1 := (hx.2.2.2.2.2.2.2.2 i hi).1
    have hp := (hw.2.2.2.2.2.2.2 i hi).1
    unfold f_X3_pluggedInto_L4
    by_cases c : hPg h i = l
    · simp (disch := omega) only [↓lt_eq, ↓reduceIte, ↓un1, ↓un2, ↓un3, ↓un4, ↓bd_some, ↓bind_some', ↓sel_l, ↓sel_r, C1T, C1F, C2T, C2F, C3T, C3F, D1T, D1F, D2T, D2F, D3T, D3F, E1T, E1F, E2T, E2F, E3T, E3F, G1T, G1F, G2T, G2F, G3F, inb_T, inb_L, isB_0, isB_1, isB_b, nI_add, L_add1, L_add2, nI_cl, L_cl, bI_T, bI_F, eq_self, not_true_eq_false, not_false_eq_true, hx.2.1, e1, orT, decide_eq_true c, if_true]
    · simp (disch := omega) only [↓lt_eq, ↓reduceIte, ↓un1, ↓un2, ↓un3, ↓un4, ↓bd_some, ↓bind_some', ↓sel_l, ↓sel_r, C1T, C1F, C2T, C2F, C3T, C3F, D1T, D1F, D2T, D2F, D3T, D3F, E1T, E1F, E2T, E2F, E3T, E3F, G1T, G1F, G2T, G2F, G3F, inb_T, inb_L, isB_0, isB_1, isB_b, nI_add, L_add1, L_add2, nI_cl, L_cl, bI_T, bI_F, eq_self, not_true_eq_false, not_false_eq_true, hx.2.1, e1, orT, decide_eq_false c, if_false, Bool.false_eq_true]) (by
    unfold f_X3_pluggedInto_L4
    simp (disch := omega) only [↓lt_eq, ↓reduceIte, ↓un1, ↓un2, ↓un3, ↓un4, ↓bd_some, ↓bind_some', ↓sel_l, ↓sel_r, C1T, C1F, C2T, C2F, C3T, C3F, D1T, D1F, D2T, D2F, D3T, D3F, E1T, E1F, E2T, E2F, E3T, E3F, G1T, G1F, G2T, G2F, G3F, inb_T, inb_L, isB_0, isB_1, isB_b, nI_add, L_add1, L_add2, nI_cl, L_cl, bI_T, bI_F, eq_self, not_true_eq_false, not_false_eq_true, hx.2.1])
  have e : ((0 : Int32), (0 : Int32), σ) = (orT (fun t => decide (hPg h t = l)) 0, nI 0, σ) := by rw [nI_0]; rfl
  rw [e, hloop]
  rfl
theorem M_pluggedLoop {σ : St} {h : Hs} (hx : HM 0 0 σ h) (hw : WF h) {l : Nat} (hl : l < hL h) : loopF (f_X12_line_L33 (nI l)) 5000 ((0 : Int32), (0 : Int32), σ) = some (orT (fun t => decide (hPg h t = l)) (hN h), σ) := by
  have hN6 := hw.2.1
  have hL4 := hw.1
  have hN1 : σ 261 1 = nI (hN h) := hx.2.1
  have hloop := loop_up (body := f_X12_line_L33 (nI l)) (r := (orT (fun t => decide (hPg h t = l)) (hN h), σ)) (hN h) 5000 (fun i => (orT (fun t => decide (hPg h t = l)) i, nI i, σ)) (by omega) (fun i hi => by
    have e1 : σ 260 (12 + i) = _ := hx.g_pg hi (by omega)
    have hp := (hw.2.2.2.2.2.2.2 i hi).1
    unfold f_X12_line_L33
    by_cases c : hPg h i = l
    · simp (disch := omega) only [↓lt_eq, ↓reduceIte, ↓un1, ↓un2, ↓un3, ↓un4, ↓bd_some, ↓bind_some', ↓sel_l, ↓sel_r, C1T, C1F, C2T, C2F, C3T, C3F, D1T, D1F, D2T, D2F, D3T, D3F, E1T, E1F, E2T, E2F, E3T, E3F, G1T, G1F, G2T, G2F, G3F, inb_T, inb_L, isB_0, isB_1, isB_b, nI_add, L_add1, L_add2, nI_cl, L_cl, bI_T, bI_F, eq_self, not_true_eq_false, not_false_eq_true, hN1, e1, orT, decide_eq_true c, if_true]
    · simp (disch := omega) only [↓lt_eq, ↓reduceIte, ↓un1, ↓un2, ↓un3, ↓un4, ↓bd_some, ↓bind_some', ↓sel_l, ↓sel_r, C1T, C1F, C2T, C2F, C3T, C3F, D1T, D1F, D2T, D2F, D3T, D3F, E1T, E1F, E2T, E2F, E3T, E3F, G1T, G1F, G2T, G2F, G3F, inb_T, inb_L, isB_0, isB_1, isB_b, nI_add, L_add1, L_add2, nI_cl, L_cl, bI_T, bI_F, eq_self, not_true_eq_false, not_false_eq_true, hN1, e1, orT, decide_eq_false c, if_false, Bool.false_eq_true]) (by
    unfold f_X12_line_L33
    simp (disch := omega) only [↓lt_eq, ↓reduceIte, ↓un1, ↓un2, ↓un3, ↓un4, ↓bd_some, ↓bind_some', ↓sel_l, ↓sel_r, C1T, C1F, C2T, C2F, C3T, C3F, D1T, D1F, D2T, D2F, D3T, D3F, E1T, E1F, E2T, E2F, E3T, E3F, G1T, G1F, G2T, G2F, G3F, inb_T, inb_L, isB_0, isB_1, isB_b, nI_add, L_add1, L_add2, nI_cl, L_cl, bI_T, bI_F, eq_self, not_true_eq_false, not_false_eq_true, hN1])
  exact hloop
theorem X_flowOf {σ : St} {h : Hs} (hx : HX 19 σ h) (hw : WF h) {l : Nat} (hl : l < hL h) : Ok (f_X3_flowOf 19 (nI l) σ) (fun v => v.1 = nI (flowH h l) ∧ Keep σ v.2) := by
  have hL4 := hw.1
  obtain ⟨s, e, k1, k2⟩ := X_reckon hx hw
  refine ⟨(nI (flowH h l), s), ?_, rfl, Keep.cells (fun b q => k2 b (by omega))⟩
  unfold f_X3_flowOf
  simp (disch := omega) only [↓lt_eq, ↓reduceIte, ↓un1, ↓un2, ↓un3, ↓un4, ↓bd_some, ↓bind_some', ↓sel_l, ↓sel_r, C1T, C1F, C2T, C2F, C3T, C3F, D1T, D1F, D2T, D2F, D3T, D3F, E1T, E1F, E2T, E2F, E3T, E3F, G1T, G1F, G2T, G2F, G3F, inb_T, inb_L, isB_0, isB_1, isB_b, nI_add, L_add1, L_add2, nI_cl, L_cl, bI_T, bI_F, eq_self, not_true_eq_false, not_false_eq_true, ↓bd_of e, k1 l hl]
theorem step_line (x1 x2 : Int32) : Step Inv (f_X11_line x1 x2) (f_X12_line x1 x2) := by
  intro σ hI
  obtain ⟨hR, hP, hF, hT, h, o, n, ac, im, hn, ha, hi⟩ := id hI
  have hL4 := hn.L4
  rcases idx x1 (hL h) hL4 with q | ⟨l, hl, rfl⟩
  · refine step_same (-1000001) hI ?_ ?_
    · unfold f_X11_line
      simp (disch := omega) only [↓lt_eq, ↓reduceIte, ↓un1, ↓un2, ↓un3, ↓un4, ↓bd_some, ↓bind_some', ↓sel_l, ↓sel_r, C1T, C1F, C2T, C2F, C3T, C3F, D1T, D1F, D2T, D2F, D3T, D3F, E1T, E1F, E2T, E2F, E3T, E3F, G1T, G1F, G2T, G2F, G3F, inb_T, inb_L, isB_0, isB_1, isB_b, nI_add, L_add1, L_add2, nI_cl, L_cl, bI_T, bI_F, eq_self, not_true_eq_false, not_false_eq_true, ↓bd_of (X_noLine_out hn.x1 q)]
    · unfold f_X12_line
      simp (disch := omega) only [↓lt_eq, ↓reduceIte, ↓un1, ↓un2, ↓un3, ↓un4, ↓bd_some, ↓bind_some', ↓sel_l, ↓sel_r, C1T, C1F, C2T, C2F, C3T, C3F, D1T, D1F, D2T, D2F, D3T, D3F, E1T, E1F, E2T, E2F, E3T, E3F, G1T, G1F, G2T, G2F, G3F, inb_T, inb_L, isB_0, isB_1, isB_b, nI_add, L_add1, L_add2, nI_cl, L_cl, bI_T, bI_F, eq_self, not_true_eq_false, not_false_eq_true, ↓bd_of (M_isLine_out hn.m0 q hL4)]
  rcases rng x2 (lo := 0) (hi := 5) 0 5 (by decide) (by decide) (by omega) (by omega) with q | ⟨w, w1, w2, rfl⟩
  · have z0 : ¬ x2 = 0 := out_ne (a := 0) (b := 5) (k := 0) q (by omega) (by omega) (by omega)
    have z1 : ¬ x2 = 1 := out_ne (a := 0) (b := 5) (k := 1) q (by omega) (by omega) (by omega)
    have z2 : ¬ x2 = 2 := out_ne (a := 0) (b := 5) (k := 2) q (by omega) (by omega) (by omega)
    have z3 : ¬ x2 = 3 := out_ne (a := 0) (b := 5) (k := 3) q (by omega) (by omega) (by omega)
    have z4 : ¬ x2 = 4 := out_ne (a := 0) (b := 5) (k := 4) q (by omega) (by omega) (by omega)
    have z5 : ¬ x2 = 5 := out_ne (a := 0) (b := 5) (k := 5) q (by omega) (by omega) (by omega)
    refine step_same (-1000001) hI ?_ ?_
    · unfold f_X11_line
      simp (disch := omega) only [↓lt_eq, ↓reduceIte, ↓un1, ↓un2, ↓un3, ↓un4, ↓bd_some, ↓bind_some', ↓sel_l, ↓sel_r, C1T, C1F, C2T, C2F, C3T, C3F, D1T, D1F, D2T, D2F, D3T, D3F, E1T, E1F, E2T, E2F, E3T, E3F, G1T, G1F, G2T, G2F, G3F, inb_T, inb_L, isB_0, isB_1, isB_b, nI_add, L_add1, L_add2, nI_cl, L_cl, bI_T, bI_F, eq_self, not_true_eq_false, not_false_eq_true, ↓bd_of (X_noLine_in hn.x1 hl hL4), z0, z1, z2, z3, z4, z5]
    · unfold f_X12_line
      simp (disch := omega) only [↓lt_eq, ↓reduceIte, ↓un1, ↓un2, ↓un3, ↓un4, ↓bd_some, ↓bind_some', ↓sel_l, ↓sel_r, C1T, C1F, C2T, C2F, C3T, C3F, D1T, D1F, D2T, D2F, D3T, D3F, E1T, E1F, E2T, E2F, E3T, E3F, G1T, G1F, G2T, G2F, G3F, inb_T, inb_L, isB_0, isB_1, isB_b, nI_add, L_add1, L_add2, nI_cl, L_cl, bI_T, bI_F, eq_self, not_true_eq_false, not_false_eq_true, ↓bd_of (M_isLine_in hn.m0 hl hL4), ↓bd_of (M_out (lo := 0) (hi := 5) (L := 0) (H := 5) (by decide) (by decide) q)]
  have hw := hn.1
  have hl4 : l < 4 := Nat.lt_of_lt_of_le hl hw.1
  obtain ⟨g1, g2, g3, g4⟩ := hn.2.1.2.2.2.2.2.2.2.1 l hl
  refine step_keep (if w = 0 then nI (hRt h l) else if w = 1 then nI (hHt h l) else if w = 2 then nI (hDd h l) else if w = 3 then bI (live h l) else if w = 4 then nI (flowH h l) else orT (fun t => decide (hPg h t = l)) (hN h)) hI ?_ (fun s hk => ?_)
  · have e3 := X_isLive hn.2.1 hw hl
    have e5 := X_pluggedInto hn.2.1 hw hl
    unfold f_X11_line
    rcases (show w = 0 ∨ w = 1 ∨ w = 2 ∨ w = 3 ∨ w = 4 ∨ w = 5 by omega) with rfl | rfl | rfl | rfl | rfl | rfl
    · simp (disch := omega) only [↓lt_eq, ↓reduceIte, ↓un1, ↓un2, ↓un3, ↓un4, ↓bd_some, ↓bind_some', ↓sel_l, ↓sel_r, C1T, C1F, C2T, C2F, C3T, C3F, D1T, D1F, D2T, D2F, D3T, D3F, E1T, E1F, E2T, E2F, E3T, E3F, G1T, G1F, G2T, G2F, G3F, inb_T, inb_L, isB_0, isB_1, isB_b, nI_add, L_add1, L_add2, nI_cl, L_cl, bI_T, bI_F, eq_self, not_true_eq_false, not_false_eq_true, ↓bd_of (X_noLine_in hn.x1 hl hL4), g2]
      exact Ok.ret ⟨rfl, Keep.rf⟩
    · simp (disch := omega) only [↓lt_eq, ↓reduceIte, ↓un1, ↓un2, ↓un3, ↓un4, ↓bd_some, ↓bind_some', ↓sel_l, ↓sel_r, C1T, C1F, C2T, C2F, C3T, C3F, D1T, D1F, D2T, D2F, D3T, D3F, E1T, E1F, E2T, E2F, E3T, E3F, G1T, G1F, G2T, G2F, G3F, inb_T, inb_L, isB_0, isB_1, isB_b, nI_add, L_add1, L_add2, nI_cl, L_cl, bI_T, bI_F, eq_self, not_true_eq_false, not_false_eq_true, ↓bd_of (X_noLine_in hn.x1 hl hL4), g3]
      exact Ok.ret ⟨rfl, Keep.rf⟩
    · simp (disch := omega) only [↓lt_eq, ↓reduceIte, ↓un1, ↓un2, ↓un3, ↓un4, ↓bd_some, ↓bind_some', ↓sel_l, ↓sel_r, C1T, C1F, C2T, C2F, C3T, C3F, D1T, D1F, D2T, D2F, D3T, D3F, E1T, E1F, E2T, E2F, E3T, E3F, G1T, G1F, G2T, G2F, G3F, inb_T, inb_L, isB_0, isB_1, isB_b, nI_add, L_add1, L_add2, nI_cl, L_cl, bI_T, bI_F, eq_self, not_true_eq_false, not_false_eq_true, ↓bd_of (X_noLine_in hn.x1 hl hL4), g4]
      exact Ok.ret ⟨rfl, Keep.rf⟩
    · cases hv : live h l <;> rw [hv] at e3 <;> simp (disch := omega) only [↓lt_eq, ↓reduceIte, ↓un1, ↓un2, ↓un3, ↓un4, ↓bd_some, ↓bind_some', ↓sel_l, ↓sel_r, C1T, C1F, C2T, C2F, C3T, C3F, D1T, D1F, D2T, D2F, D3T, D3F, E1T, E1F, E2T, E2F, E3T, E3F, G1T, G1F, G2T, G2F, G3F, inb_T, inb_L, isB_0, isB_1, isB_b, nI_add, L_add1, L_add2, nI_cl, L_cl, bI_T, bI_F, eq_self, not_true_eq_false, not_false_eq_true, ↓bd_of (X_noLine_in hn.x1 hl hL4), ↓bd_of e3] <;> exact Ok.ret ⟨rfl, Keep.rf⟩
    · simp (disch := omega) only [↓lt_eq, ↓reduceIte, ↓un1, ↓un2, ↓un3, ↓un4, ↓bd_some, ↓bind_some', ↓sel_l, ↓sel_r, C1T, C1F, C2T, C2F, C3T, C3F, D1T, D1F, D2T, D2F, D3T, D3F, E1T, E1F, E2T, E2F, E3T, E3F, G1T, G1F, G2T, G2F, G3F, inb_T, inb_L, isB_0, isB_1, isB_b, nI_add, L_add1, L_add2, nI_cl, L_cl, bI_T, bI_F, eq_self, not_true_eq_false, not_false_eq_true, ↓bd_of (X_noLine_in hn.x1 hl hL4)]
      exact Ok.bd (Ok.mono (X_flowOf hn.2.1 hw hl) (fun v q => Ok.ret ⟨q.1, q.2⟩))
    · simp (disch := omega) only [↓lt_eq, ↓reduceIte, ↓un1, ↓un2, ↓un3, ↓un4, ↓bd_some, ↓bind_some', ↓sel_l, ↓sel_r, C1T, C1F, C2T, C2F, C3T, C3F, D1T, D1F, D2T, D2F, D3T, D3F, E1T, E1F, E2T, E2F, E3T, E3F, G1T, G1F, G2T, G2F, G3F, inb_T, inb_L, isB_0, isB_1, isB_b, nI_add, L_add1, L_add2, nI_cl, L_cl, bI_T, bI_F, eq_self, not_true_eq_false, not_false_eq_true, ↓bd_of (X_noLine_in hn.x1 hl hL4), ↓bd_of e5]
      exact Ok.ret ⟨rfl, Keep.rf⟩
  · have hn := hn.keep hk
    have hm := (hn.2.2.2.1 (by omega)).2
    have f2 : s 260 (8 + l) = _ := hm.g_rt hl (by omega)
    have f3 : s 260 l = _ := hm.g_ht hl (by omega)
    have f4 : s 260 (4 + l) = _ := hm.g_dd hl (by omega)
    have e3 : f_X12_isLive (0 : Int32) (nI l) s = _ := M_isLive (b := 0) hm hw (by omega) hl
    have e4 : f_X12_flowOf (0 : Int32) (nI l) s = _ := M_flowOf (b := 0) hm hw (by omega) hl
    have e5 := M_pluggedLoop hm hw hl
    unfold f_X12_line
    rcases (show w = 0 ∨ w = 1 ∨ w = 2 ∨ w = 3 ∨ w = 4 ∨ w = 5 by omega) with rfl | rfl | rfl | rfl | rfl | rfl
    · simp (disch := omega) only [↓lt_eq, ↓reduceIte, ↓un1, ↓un2, ↓un3, ↓un4, ↓bd_some, ↓bind_some', ↓sel_l, ↓sel_r, C1T, C1F, C2T, C2F, C3T, C3F, D1T, D1F, D2T, D2F, D3T, D3F, E1T, E1F, E2T, E2F, E3T, E3F, G1T, G1F, G2T, G2F, G3F, inb_T, inb_L, isB_0, isB_1, isB_b, nI_add, L_add1, L_add2, nI_cl, L_cl, bI_T, bI_F, eq_self, not_true_eq_false, not_false_eq_true, ↓bd_of (M_isLine_in hn.m0 hl hL4), ↓bd_of (M_inn (σ := s) (L := 0) (H := 5) (a := 0) (b := 5) (by decide) (by decide) w1 w2 (by decide)), f2]
      exact Ok.ret ⟨rfl, Keep.rf⟩
    · simp (disch := omega) only [↓lt_eq, ↓reduceIte, ↓un1, ↓un2, ↓un3, ↓un4, ↓bd_some, ↓bind_some', ↓sel_l, ↓sel_r, C1T, C1F, C2T, C2F, C3T, C3F, D1T, D1F, D2T, D2F, D3T, D3F, E1T, E1F, E2T, E2F, E3T, E3F, G1T, G1F, G2T, G2F, G3F, inb_T, inb_L, isB_0, isB_1, isB_b, nI_add, L_add1, L_add2, nI_cl, L_cl, bI_T, bI_F, eq_self, not_true_eq_false, not_false_eq_true, ↓bd_of (M_isLine_in hn.m0 hl hL4), ↓bd_of (M_inn (σ := s) (L := 0) (H := 5) (a := 0) (b := 5) (by decide) (by decide) w1 w2 (by decide)), f3]
      exact Ok.ret ⟨rfl, Keep.rf⟩
    · simp (disch := omega) only [↓lt_eq, ↓reduceIte, ↓un1, ↓un2, ↓un3, ↓un4, ↓bd_some, ↓bind_some', ↓sel_l, ↓sel_r, C1T, C1F, C2T, C2F, C3T, C3F, D1T, D1F, D2T, D2F, D3T, D3F, E1T, E1F, E2T, E2F, E3T, E3F, G1T, G1F, G2T, G2F, G3F, inb_T, inb_L, isB_0, isB_1, isB_b, nI_add, L_add1, L_add2, nI_cl, L_cl, bI_T, bI_F, eq_self, not_true_eq_false, not_false_eq_true, ↓bd_of (M_isLine_in hn.m0 hl hL4), ↓bd_of (M_inn (σ := s) (L := 0) (H := 5) (a := 0) (b := 5) (by decide) (by decide) w1 w2 (by decide)), f4]
      exact Ok.ret ⟨rfl, Keep.rf⟩
    · cases hv : live h l <;> rw [hv] at e3 <;> simp (disch := omega) only [↓lt_eq, ↓reduceIte, ↓un1, ↓un2, ↓un3, ↓un4, ↓bd_some, ↓bind_some', ↓sel_l, ↓sel_r, C1T, C1F, C2T, C2F, C3T, C3F, D1T, D1F, D2T, D2F, D3T, D3F, E1T, E1F, E2T, E2F, E3T, E3F, G1T, G1F, G2T, G2F, G3F, inb_T, inb_L, isB_0, isB_1, isB_b, nI_add, L_add1, L_add2, nI_cl, L_cl, bI_T, bI_F, eq_self, not_true_eq_false, not_false_eq_true, ↓bd_of (M_isLine_in hn.m0 hl hL4), ↓bd_of (M_inn (σ := s) (L := 0) (H := 5) (a := 0) (b := 5) (by decide) (by decide) w1 w2 (by decide)), ↓bd_of e3] <;> exact Ok.ret ⟨rfl, Keep.rf⟩
    · simp (disch := omega) only [↓lt_eq, ↓reduceIte, ↓un1, ↓un2, ↓un3, ↓un4, ↓bd_some, ↓bind_some', ↓sel_l, ↓sel_r, C1T, C1F, C2T, C2F, C3T, C3F, D1T, D1F, D2T, D2F, D3T, D3F, E1T, E1F, E2T, E2F, E3T, E3F, G1T, G1F, G2T, G2F, G3F, inb_T, inb_L, isB_0, isB_1, isB_b, nI_add, L_add1, L_add2, nI_cl, L_cl, bI_T, bI_F, eq_self, not_true_eq_false, not_false_eq_true, ↓bd_of (M_isLine_in hn.m0 hl hL4), ↓bd_of (M_inn (σ := s) (L := 0) (H := 5) (a := 0) (b := 5) (by decide) (by decide) w1 w2 (by decide)), ↓bd_of e4]
      exact Ok.ret ⟨rfl, Keep.rf⟩
    · simp (disch := omega) only [↓lt_eq, ↓reduceIte, ↓un1, ↓un2, ↓un3, ↓un4, ↓bd_some, ↓bind_some', ↓sel_l, ↓sel_r, C1T, C1F, C2T, C2F, C3T, C3F, D1T, D1F, D2T, D2F, D3T, D3F, E1T, E1F, E2T, E2F, E3T, E3F, G1T, G1F, G2T, G2F, G3F, inb_T, inb_L, isB_0, isB_1, isB_b, nI_add, L_add1, L_add2, nI_cl, L_cl, bI_T, bI_F, eq_self, not_true_eq_false, not_false_eq_true, ↓bd_of (M_isLine_in hn.m0 hl hL4), ↓bd_of (M_inn (σ := s) (L := 0) (H := 5) (a := 0) (b := 5) (by decide) (by decide) w1 w2 (by decide)), ↓bind_of e5]
      exact Ok.ret ⟨rfl, Keep.rf⟩
theorem step_thing (x1 x2 : Int32) : Step Inv (f_X11_thing x1 x2) (f_X12_thing x1 x2) := by
  intro σ hI
  obtain ⟨hR, hP, hF, hT, h, o, n, ac, im, hn, ha, hi⟩ := id hI
  have hN4 := hn.N6
  rcases idx x1 (hN h) hN4 with q | ⟨t, ht, rfl⟩
  · refine step_same (-1000001) hI ?_ ?_
    · unfold f_X11_thing
      simp (disch := omega) only [↓lt_eq, ↓reduceIte, ↓un1, ↓un2, ↓un3, ↓un4, ↓bd_some, ↓bind_some', ↓sel_l, ↓sel_r, C1T, C1F, C2T, C2F, C3T, C3F, D1T, D1F, D2T, D2F, D3T, D3F, E1T, E1F, E2T, E2F, E3T, E3F, G1T, G1F, G2T, G2F, G3F, inb_T, inb_L, isB_0, isB_1, isB_b, nI_add, L_add1, L_add2, nI_cl, L_cl, bI_T, bI_F, eq_self, not_true_eq_false, not_false_eq_true, ↓bd_of (X_noThing_out hn.x2 q)]
    · unfold f_X12_thing
      simp (disch := omega) only [↓lt_eq, ↓reduceIte, ↓un1, ↓un2, ↓un3, ↓un4, ↓bd_some, ↓bind_some', ↓sel_l, ↓sel_r, C1T, C1F, C2T, C2F, C3T, C3F, D1T, D1F, D2T, D2F, D3T, D3F, E1T, E1F, E2T, E2F, E3T, E3F, G1T, G1F, G2T, G2F, G3F, inb_T, inb_L, isB_0, isB_1, isB_b, nI_add, L_add1, L_add2, nI_cl, L_cl, bI_T, bI_F, eq_self, not_true_eq_false, not_false_eq_true, ↓bd_of (M_isThing_out hn.m1 q hN4)]
  rcases rng x2 (lo := 0) (hi := 3) 0 3 (by decide) (by decide) (by omega) (by omega) with q | ⟨w, w1, w2, rfl⟩
  · have z0 : ¬ x2 = 0 := out_ne (a := 0) (b := 3) (k := 0) q (by omega) (by omega) (by omega)
    have z1 : ¬ x2 = 1 := out_ne (a := 0) (b := 3) (k := 1) q (by omega) (by omega) (by omega)
    have z2 : ¬ x2 = 2 := out_ne (a := 0) (b := 3) (k := 2) q (by omega) (by omega) (by omega)
    have z3 : ¬ x2 = 3 := out_ne (a := 0) (b := 3) (k := 3) q (by omega) (by omega) (by omega)
    refine step_same (-1000001) hI ?_ ?_
    · unfold f_X11_thing
      simp (disch := omega) only [↓lt_eq, ↓reduceIte, ↓un1, ↓un2, ↓un3, ↓un4, ↓bd_some, ↓bind_some', ↓sel_l, ↓sel_r, C1T, C1F, C2T, C2F, C3T, C3F, D1T, D1F, D2T, D2F, D3T, D3F, E1T, E1F, E2T, E2F, E3T, E3F, G1T, G1F, G2T, G2F, G3F, inb_T, inb_L, isB_0, isB_1, isB_b, nI_add, L_add1, L_add2, nI_cl, L_cl, bI_T, bI_F, eq_self, not_true_eq_false, not_false_eq_true, ↓bd_of (X_noThing_in hn.x2 ht hN4), z0, z1, z2, z3]
    · unfold f_X12_thing
      simp (disch := omega) only [↓lt_eq, ↓reduceIte, ↓un1, ↓un2, ↓un3, ↓un4, ↓bd_some, ↓bind_some', ↓sel_l, ↓sel_r, C1T, C1F, C2T, C2F, C3T, C3F, D1T, D1F, D2T, D2F, D3T, D3F, E1T, E1F, E2T, E2F, E3T, E3F, G1T, G1F, G2T, G2F, G3F, inb_T, inb_L, isB_0, isB_1, isB_b, nI_add, L_add1, L_add2, nI_cl, L_cl, bI_T, bI_F, eq_self, not_true_eq_false, not_false_eq_true, ↓bd_of (M_isThing_in hn.m1 ht hN4), ↓bd_of (M_out (lo := 0) (hi := 3) (L := 0) (H := 3) (by decide) (by decide) q)]
  have hw := hn.1
  have ht6 : t < 6 := Nat.lt_of_lt_of_le ht hw.2.1
  obtain ⟨g1, g2⟩ := hn.2.1.2.2.2.2.2.2.2.2 t ht
  refine step_keep (if w = 0 then nI (hPg h t) else if w = 1 then nI (hLd h t) else if w = 2 then bI (isOnH h t) else bI (runsH h t)) hI ?_ (fun s hk => ?_)
  · have e2 := X_isOn hn.2.1 hw ht6
    have e3 := X_runs hn.2.1 hw ht
    unfold f_X11_thing
    rcases (show w = 0 ∨ w = 1 ∨ w = 2 ∨ w = 3 by omega) with rfl | rfl | rfl | rfl
    · simp (disch := omega) only [↓lt_eq, ↓reduceIte, ↓un1, ↓un2, ↓un3, ↓un4, ↓bd_some, ↓bind_some', ↓sel_l, ↓sel_r, C1T, C1F, C2T, C2F, C3T, C3F, D1T, D1F, D2T, D2F, D3T, D3F, E1T, E1F, E2T, E2F, E3T, E3F, G1T, G1F, G2T, G2F, G3F, inb_T, inb_L, isB_0, isB_1, isB_b, nI_add, L_add1, L_add2, nI_cl, L_cl, bI_T, bI_F, eq_self, not_true_eq_false, not_false_eq_true, ↓bd_of (X_noThing_in hn.x2 ht hN4), g1]
      exact Ok.ret ⟨rfl, Keep.rf⟩
    · simp (disch := omega) only [↓lt_eq, ↓reduceIte, ↓un1, ↓un2, ↓un3, ↓un4, ↓bd_some, ↓bind_some', ↓sel_l, ↓sel_r, C1T, C1F, C2T, C2F, C3T, C3F, D1T, D1F, D2T, D2F, D3T, D3F, E1T, E1F, E2T, E2F, E3T, E3F, G1T, G1F, G2T, G2F, G3F, inb_T, inb_L, isB_0, isB_1, isB_b, nI_add, L_add1, L_add2, nI_cl, L_cl, bI_T, bI_F, eq_self, not_true_eq_false, not_false_eq_true, ↓bd_of (X_noThing_in hn.x2 ht hN4), g2]
      exact Ok.ret ⟨rfl, Keep.rf⟩
    · cases hv : isOnH h t <;> rw [hv] at e2 <;> simp (disch := omega) only [↓lt_eq, ↓reduceIte, ↓un1, ↓un2, ↓un3, ↓un4, ↓bd_some, ↓bind_some', ↓sel_l, ↓sel_r, C1T, C1F, C2T, C2F, C3T, C3F, D1T, D1F, D2T, D2F, D3T, D3F, E1T, E1F, E2T, E2F, E3T, E3F, G1T, G1F, G2T, G2F, G3F, inb_T, inb_L, isB_0, isB_1, isB_b, nI_add, L_add1, L_add2, nI_cl, L_cl, bI_T, bI_F, eq_self, not_true_eq_false, not_false_eq_true, ↓bd_of (X_noThing_in hn.x2 ht hN4), ↓bd_of e2] <;> exact Ok.ret ⟨rfl, Keep.rf⟩
    · cases hv : runsH h t <;> rw [hv] at e3 <;> simp (disch := omega) only [↓lt_eq, ↓reduceIte, ↓un1, ↓un2, ↓un3, ↓un4, ↓bd_some, ↓bind_some', ↓sel_l, ↓sel_r, C1T, C1F, C2T, C2F, C3T, C3F, D1T, D1F, D2T, D2F, D3T, D3F, E1T, E1F, E2T, E2F, E3T, E3F, G1T, G1F, G2T, G2F, G3F, inb_T, inb_L, isB_0, isB_1, isB_b, nI_add, L_add1, L_add2, nI_cl, L_cl, bI_T, bI_F, eq_self, not_true_eq_false, not_false_eq_true, ↓bd_of (X_noThing_in hn.x2 ht hN4), ↓bd_of e3] <;> exact Ok.ret ⟨rfl, Keep.rf⟩
  · have hn := hn.keep hk
    have hm := (hn.2.2.2.1 (hn.pos ht)).2
    have f1 : s 260 (12 + t) = _ := hm.g_pg ht (by omega)
    have f2 : s 261 (7 + t) = _ := hm.g_ld ht (by omega)
    have f3 : s 260 (18 + t) = _ := hm.g_on ht (by omega)
    have e3 : f_X12_runs (0 : Int32) (nI t) s = _ := M_runs (b := 0) hm hw (by omega) ht
    unfold f_X12_thing
    rcases (show w = 0 ∨ w = 1 ∨ w = 2 ∨ w = 3 by omega) with rfl | rfl | rfl | rfl
    · simp (disch := omega) only [↓lt_eq, ↓reduceIte, ↓un1, ↓un2, ↓un3, ↓un4, ↓bd_some, ↓bind_some', ↓sel_l, ↓sel_r, C1T, C1F, C2T, C2F, C3T, C3F, D1T, D1F, D2T, D2F, D3T, D3F, E1T, E1F, E2T, E2F, E3T, E3F, G1T, G1F, G2T, G2F, G3F, inb_T, inb_L, isB_0, isB_1, isB_b, nI_add, L_add1, L_add2, nI_cl, L_cl, bI_T, bI_F, eq_self, not_true_eq_false, not_false_eq_true, ↓bd_of (M_isThing_in hn.m1 ht hN4), ↓bd_of (M_inn (σ := s) (L := 0) (H := 3) (a := 0) (b := 3) (by decide) (by decide) w1 w2 (by decide)), f1]
      exact Ok.ret ⟨rfl, Keep.rf⟩
    · simp (disch := omega) only [↓lt_eq, ↓reduceIte, ↓un1, ↓un2, ↓un3, ↓un4, ↓bd_some, ↓bind_some', ↓sel_l, ↓sel_r, C1T, C1F, C2T, C2F, C3T, C3F, D1T, D1F, D2T, D2F, D3T, D3F, E1T, E1F, E2T, E2F, E3T, E3F, G1T, G1F, G2T, G2F, G3F, inb_T, inb_L, isB_0, isB_1, isB_b, nI_add, L_add1, L_add2, nI_cl, L_cl, bI_T, bI_F, eq_self, not_true_eq_false, not_false_eq_true, ↓bd_of (M_isThing_in hn.m1 ht hN4), ↓bd_of (M_inn (σ := s) (L := 0) (H := 3) (a := 0) (b := 3) (by decide) (by decide) w1 w2 (by decide)), f2]
      exact Ok.ret ⟨rfl, Keep.rf⟩
    · simp (disch := omega) only [↓lt_eq, ↓reduceIte, ↓un1, ↓un2, ↓un3, ↓un4, ↓bd_some, ↓bind_some', ↓sel_l, ↓sel_r, C1T, C1F, C2T, C2F, C3T, C3F, D1T, D1F, D2T, D2F, D3T, D3F, E1T, E1F, E2T, E2F, E3T, E3F, G1T, G1F, G2T, G2F, G3F, inb_T, inb_L, isB_0, isB_1, isB_b, nI_add, L_add1, L_add2, nI_cl, L_cl, bI_T, bI_F, eq_self, not_true_eq_false, not_false_eq_true, ↓bd_of (M_isThing_in hn.m1 ht hN4), ↓bd_of (M_inn (σ := s) (L := 0) (H := 3) (a := 0) (b := 3) (by decide) (by decide) w1 w2 (by decide)), f3]
      exact Ok.ret ⟨rfl, Keep.rf⟩
    · cases hv : runsH h t <;> rw [hv] at e3 <;> simp (disch := omega) only [↓lt_eq, ↓reduceIte, ↓un1, ↓un2, ↓un3, ↓un4, ↓bd_some, ↓bind_some', ↓sel_l, ↓sel_r, C1T, C1F, C2T, C2F, C3T, C3F, D1T, D1F, D2T, D2F, D3T, D3F, E1T, E1F, E2T, E2F, E3T, E3F, G1T, G1F, G2T, G2F, G3F, inb_T, inb_L, isB_0, isB_1, isB_b, nI_add, L_add1, L_add2, nI_cl, L_cl, bI_T, bI_F, eq_self, not_true_eq_false, not_false_eq_true, ↓bd_of (M_isThing_in hn.m1 ht hN4), ↓bd_of (M_inn (σ := s) (L := 0) (H := 3) (a := 0) (b := 3) (by decide) (by decide) w1 w2 (by decide)), ↓bd_of e3] <;> exact Ok.ret ⟨rfl, Keep.rf⟩
theorem step_kind (x1 : Int32) : Step Inv (f_X11_kind x1) (f_X12_kind x1) := by
  intro σ hI
  obtain ⟨hR, hP, hF, hT, h, o, n, ac, im, hn, ha, hi⟩ := id hI
  have hL4 := hn.L4
  rcases idx x1 (hL h) hL4 with q | ⟨l, hl, rfl⟩
  · refine step_same (-1000001) hI ?_ ?_
    · unfold f_X11_kind
      simp (disch := omega) only [↓lt_eq, ↓reduceIte, ↓un1, ↓un2, ↓un3, ↓un4, ↓bd_some, ↓bind_some', ↓sel_l, ↓sel_r, C1T, C1F, C2T, C2F, C3T, C3F, D1T, D1F, D2T, D2F, D3T, D3F, E1T, E1F, E2T, E2F, E3T, E3F, G1T, G1F, G2T, G2F, G3F, inb_T, inb_L, isB_0, isB_1, isB_b, nI_add, L_add1, L_add2, nI_cl, L_cl, bI_T, bI_F, eq_self, not_true_eq_false, not_false_eq_true, ↓bd_of (X_noLine_out hn.x1 q)]
    · unfold f_X12_kind
      simp (disch := omega) only [↓lt_eq, ↓reduceIte, ↓un1, ↓un2, ↓un3, ↓un4, ↓bd_some, ↓bind_some', ↓sel_l, ↓sel_r, C1T, C1F, C2T, C2F, C3T, C3F, D1T, D1F, D2T, D2F, D3T, D3F, E1T, E1F, E2T, E2F, E3T, E3F, G1T, G1F, G2T, G2F, G3F, inb_T, inb_L, isB_0, isB_1, isB_b, nI_add, L_add1, L_add2, nI_cl, L_cl, bI_T, bI_F, eq_self, not_true_eq_false, not_false_eq_true, ↓bd_of (M_isLine_out hn.m0 q hL4)]
  have hw := hn.1
  have hl4 : l < 4 := Nat.lt_of_lt_of_le hl hw.1
  obtain ⟨g1, g2, g3, g4⟩ := hn.2.1.2.2.2.2.2.2.2.1 l hl
  have f1 : σ 261 (3 + l) = _ := (hn.2.2.2.1 (by omega)).2.g_kd hl (by omega)
  refine step_same (nI (hKd h l)) hI ?_ ?_
  · unfold f_X11_kind
    simp (disch := omega) only [↓lt_eq, ↓reduceIte, ↓un1, ↓un2, ↓un3, ↓un4, ↓bd_some, ↓bind_some', ↓sel_l, ↓sel_r, C1T, C1F, C2T, C2F, C3T, C3F, D1T, D1F, D2T, D2F, D3T, D3F, E1T, E1F, E2T, E2F, E3T, E3F, G1T, G1F, G2T, G2F, G3F, inb_T, inb_L, isB_0, isB_1, isB_b, nI_add, L_add1, L_add2, nI_cl, L_cl, bI_T, bI_F, eq_self, not_true_eq_false, not_false_eq_true, ↓bd_of (X_noLine_in hn.x1 hl hL4), g1]
  · unfold f_X12_kind
    simp (disch := omega) only [↓lt_eq, ↓reduceIte, ↓un1, ↓un2, ↓un3, ↓un4, ↓bd_some, ↓bind_some', ↓sel_l, ↓sel_r, C1T, C1F, C2T, C2F, C3T, C3F, D1T, D1F, D2T, D2F, D3T, D3F, E1T, E1F, E2T, E2F, E3T, E3F, G1T, G1F, G2T, G2F, G3F, inb_T, inb_L, isB_0, isB_1, isB_b, nI_add, L_add1, L_add2, nI_cl, L_cl, bI_T, bI_F, eq_self, not_true_eq_false, not_false_eq_true, ↓bd_of (M_isLine_in hn.m0 hl hL4), f1]
def isAN (kd k : Nat) : Bool := k == 0 || k == kd || (k == 1 && (kd == 2 || kd == 3)) || (k == 4 && kd == 5)
theorem X_isA {kd k : Nat} {σ : St} (h1 : 1 ≤ kd) (h5 : kd ≤ 5) (hk : k ≤ 5) : f_X11_isA (13 + kd) (nI k) σ = some (bI (isAN kd k), σ) := by
  rcases (show kd = 1 ∨ kd = 2 ∨ kd = 3 ∨ kd = 4 ∨ kd = 5 by omega) with rfl | rfl | rfl | rfl | rfl <;> rcases (show k = 0 ∨ k = 1 ∨ k = 2 ∨ k = 3 ∨ k = 4 ∨ k = 5 by omega) with rfl | rfl | rfl | rfl | rfl | rfl <;> rfl
theorem step_as (x1 x2 : Int32) : Step Inv (f_X11_as x1 x2) (f_X12_as x1 x2) := by
  intro σ hI
  obtain ⟨hR, hP, hF, hT, h, o, n, ac, im, hn, ha, hi⟩ := id hI
  have hL4 := hn.L4
  rcases idx x1 (hL h) hL4 with q | ⟨l, hl, rfl⟩
  · refine step_same (-1000001) hI ?_ ?_
    · unfold f_X11_as
      simp (disch := omega) only [↓lt_eq, ↓reduceIte, ↓un1, ↓un2, ↓un3, ↓un4, ↓bd_some, ↓bind_some', ↓sel_l, ↓sel_r, C1T, C1F, C2T, C2F, C3T, C3F, D1T, D1F, D2T, D2F, D3T, D3F, E1T, E1F, E2T, E2F, E3T, E3F, G1T, G1F, G2T, G2F, G3F, inb_T, inb_L, isB_0, isB_1, isB_b, nI_add, L_add1, L_add2, nI_cl, L_cl, bI_T, bI_F, eq_self, not_true_eq_false, not_false_eq_true, ↓bd_of (X_noLine_out hn.x1 q)]
    · unfold f_X12_as
      simp (disch := omega) only [↓lt_eq, ↓reduceIte, ↓un1, ↓un2, ↓un3, ↓un4, ↓bd_some, ↓bind_some', ↓sel_l, ↓sel_r, C1T, C1F, C2T, C2F, C3T, C3F, D1T, D1F, D2T, D2F, D3T, D3F, E1T, E1F, E2T, E2F, E3T, E3F, G1T, G1F, G2T, G2F, G3F, inb_T, inb_L, isB_0, isB_1, isB_b, nI_add, L_add1, L_add2, nI_cl, L_cl, bI_T, bI_F, eq_self, not_true_eq_false, not_false_eq_true, ↓bd_of (M_isLine_out hn.m0 q hL4)]
  rcases rng x2 (lo := 0) (hi := 5) 0 5 (by decide) (by decide) (by omega) (by omega) with q | ⟨w, w1, w2, rfl⟩
  · refine step_same (-1000001) hI ?_ ?_
    · unfold f_X11_as
      simp (disch := omega) only [↓lt_eq, ↓reduceIte, ↓un1, ↓un2, ↓un3, ↓un4, ↓bd_some, ↓bind_some', ↓sel_l, ↓sel_r, C1T, C1F, C2T, C2F, C3T, C3F, D1T, D1F, D2T, D2F, D3T, D3F, E1T, E1F, E2T, E2F, E3T, E3F, G1T, G1F, G2T, G2F, G3F, inb_T, inb_L, isB_0, isB_1, isB_b, nI_add, L_add1, L_add2, nI_cl, L_cl, bI_T, bI_F, eq_self, not_true_eq_false, not_false_eq_true, ↓bd_of (X_noLine_in hn.x1 hl hL4), ↓ite_out1 q]
    · unfold f_X12_as
      simp (disch := omega) only [↓lt_eq, ↓reduceIte, ↓un1, ↓un2, ↓un3, ↓un4, ↓bd_some, ↓bind_some', ↓sel_l, ↓sel_r, C1T, C1F, C2T, C2F, C3T, C3F, D1T, D1F, D2T, D2F, D3T, D3F, E1T, E1F, E2T, E2F, E3T, E3F, G1T, G1F, G2T, G2F, G3F, inb_T, inb_L, isB_0, isB_1, isB_b, nI_add, L_add1, L_add2, nI_cl, L_cl, bI_T, bI_F, eq_self, not_true_eq_false, not_false_eq_true, ↓bd_of (M_isLine_in hn.m0 hl hL4), ↓bd_of (M_out (lo := 0) (hi := 5) (L := 0) (H := 5) (by decide) (by decide) q)]
  have hw := hn.1
  have hl4 : l < 4 := Nat.lt_of_lt_of_le hl hw.1
  have hkd := hw.2.2.2.2.2.2.1 l hl
  have e1 := X_fuseOf hn.2.1 hw hl
  have e2 := X_isA (σ := σ) hkd.1 hkd.2.1 w2
  have hc : f_X11_as (nI l) (nI w) σ = some (if isAN (hKd h l) w then nI l else (-1000010 : Int32) - 3, wr σ 0 11 (if isAN (hKd h l) w then 0 else 3)) := by
    unfold f_X11_as
    cases hb : isAN (hKd h l) w <;> rw [hb] at e2 <;> simp (disch := omega) only [↓lt_eq, ↓reduceIte, ↓un1, ↓un2, ↓un3, ↓un4, ↓bd_some, ↓bind_some', ↓sel_l, ↓sel_r, C1T, C1F, C2T, C2F, C3T, C3F, D1T, D1F, D2T, D2F, D3T, D3F, E1T, E1F, E2T, E2F, E3T, E3F, G1T, G1F, G2T, G2F, G3F, inb_T, inb_L, isB_0, isB_1, isB_b, nI_add, L_add1, L_add2, nI_cl, L_cl, bI_T, bI_F, eq_self, not_true_eq_false, not_false_eq_true, ↓bd_of (X_noLine_in hn.x1 hl hL4), ↓bd_of e1, ↓bd_of e2, f_X11_fine, f_X11_found, if_false, if_true, Bool.false_eq_true, bd_some]
  have hr : ∀ v, f_X12_as (nI l) (nI w) (wr σ 0 11 v) = some (if isAN (hKd h l) w then nI l else (-1000010 : Int32) - 3, wr (wr σ 0 11 v) 259 8 (if isAN (hKd h l) w then 0 else 3)) := by
    intro v
    have u0 : wr σ 0 11 v 261 0 = nI (hL h) := by rw [wr_a (by omega)]; exact hn.m0
    have u1 : wr σ 0 11 v 261 (3 + l) = nI (hKd h l) := by rw [wr_a (by omega)]; exact (hn.2.2.2.1 (by omega)).2.g_kd hl (by omega)
    have k1 := hkd.1
    have k5 := hkd.2.1
    generalize hKd h l = kd at u1 k1 k5
    generalize wr σ 0 11 v = s at u0 u1
    have i1 := M_isLine_in u0 hl hL4
    unfold f_X12_as
    rcases (show kd = 1 ∨ kd = 2 ∨ kd = 3 ∨ kd = 4 ∨ kd = 5 by omega) with rfl | rfl | rfl | rfl | rfl <;> rcases (show w = 0 ∨ w = 1 ∨ w = 2 ∨ w = 3 ∨ w = 4 ∨ w = 5 by omega) with rfl | rfl | rfl | rfl | rfl | rfl <;> (simp (disch := omega) only [↓lt_eq, ↓reduceIte, ↓un1, ↓un2, ↓un3, ↓un4, ↓bd_some, ↓bind_some', ↓sel_l, ↓sel_r, C1T, C1F, C2T, C2F, C3T, C3F, D1T, D1F, D2T, D2F, D3T, D3F, E1T, E1F, E2T, E2F, E3T, E3F, G1T, G1F, G2T, G2F, G3F, inb_T, inb_L, isB_0, isB_1, isB_b, nI_add, L_add1, L_add2, nI_cl, L_cl, bI_T, bI_F, eq_self, not_true_eq_false, not_false_eq_true, ↓bd_of i1, ↓bd_of (M_inn (σ := s) (L := 0) (H := 5) (a := 0) (b := 5) (by decide) (by decide) w1 w2 (by decide)), u1, f_X12_fine, f_X12_finds, bd_some]) <;> rfl
  exact step_find _ _ hI hc (hr _)
theorem step_trace (x1 : Int32) : Step Inv (f_X11_trace x1) (f_X12_trace x1) := by
  intro σ hI
  obtain ⟨hR, hP, hF, ⟨n, t1, t2, t3, t4⟩, hH⟩ := id hI
  rcases idx x1 n (by omega) with q | ⟨i, hi, rfl⟩
  · refine step_same (-1000000) hI ?_ ?_
    · unfold f_X11_trace
      rcases q with q | ⟨q1, q2⟩
      · simp (disch := omega) only [↓lt_eq, ↓reduceIte, ↓un1, ↓un2, ↓un3, ↓un4, ↓bd_some, ↓bind_some', ↓sel_l, ↓sel_r, C1T, C1F, C2T, C2F, C3T, C3F, D1T, D1F, D2T, D2F, D3T, D3F, E1T, E1F, E2T, E2F, E3T, E3F, G1T, G1F, G2T, G2F, G3F, inb_T, inb_L, isB_0, isB_1, isB_b, nI_add, L_add1, L_add2, nI_cl, L_cl, bI_T, bI_F, eq_self, not_true_eq_false, not_false_eq_true, q]
      · simp (disch := omega) only [↓lt_eq, ↓reduceIte, ↓un1, ↓un2, ↓un3, ↓un4, ↓bd_some, ↓bind_some', ↓sel_l, ↓sel_r, C1T, C1F, C2T, C2F, C3T, C3F, D1T, D1F, D2T, D2F, D3T, D3F, E1T, E1F, E2T, E2F, E3T, E3F, G1T, G1F, G2T, G2F, G3F, inb_T, inb_L, isB_0, isB_1, isB_b, nI_add, L_add1, L_add2, nI_cl, L_cl, bI_T, bI_F, eq_self, not_true_eq_false, not_false_eq_true, q1, t2, q2]
    · unfold f_X12_trace
      simp (disch := omega) only [↓lt_eq, ↓reduceIte, ↓un1, ↓un2, ↓un3, ↓un4, ↓bd_some, ↓bind_some', ↓sel_l, ↓sel_r, C1T, C1F, C2T, C2F, C3T, C3F, D1T, D1F, D2T, D2F, D3T, D3F, E1T, E1F, E2T, E2F, E3T, E3F, G1T, G1F, G2T, G2F, G3F, inb_T, inb_L, isB_0, isB_1, isB_b, nI_add, L_add1, L_add2, nI_cl, L_cl, bI_T, bI_F, eq_self, not_true_eq_false, not_false_eq_true, t3, ↓bd_of (M_idx_out (σ := σ) q (by omega))]
  · refine step_same (σ 272 i) hI ?_ ?_
    · unfold f_X11_trace
      simp (disch := omega) only [↓lt_eq, ↓reduceIte, ↓un1, ↓un2, ↓un3, ↓un4, ↓bd_some, ↓bind_some', ↓sel_l, ↓sel_r, C1T, C1F, C2T, C2F, C3T, C3F, D1T, D1F, D2T, D2F, D3T, D3F, E1T, E1F, E2T, E2F, E3T, E3F, G1T, G1F, G2T, G2F, G3F, inb_T, inb_L, isB_0, isB_1, isB_b, nI_add, L_add1, L_add2, nI_cl, L_cl, bI_T, bI_F, eq_self, not_true_eq_false, not_false_eq_true, t2, t4 i hi]
    · unfold f_X12_trace
      simp (disch := omega) only [↓lt_eq, ↓reduceIte, ↓un1, ↓un2, ↓un3, ↓un4, ↓bd_some, ↓bind_some', ↓sel_l, ↓sel_r, C1T, C1F, C2T, C2F, C3T, C3F, D1T, D1F, D2T, D2F, D3T, D3F, E1T, E1F, E2T, E2F, E3T, E3F, G1T, G1F, G2T, G2F, G3F, inb_T, inb_L, isB_0, isB_1, isB_b, nI_add, L_add1, L_add2, nI_cl, L_cl, bI_T, bI_F, eq_self, not_true_eq_false, not_false_eq_true, t3, ↓bd_of (M_idx_in (σ := σ) hi (by omega))]
theorem INow.m2 {σ : St} {h : Hs} (hn : INow σ h) : σ 261 2 = nI (hMain h) := by
  rcases Nat.eq_zero_or_pos (hL h) with q | q
  · obtain ⟨z1, z2, z3, z4, z5, z6, z7, z8, z9, z10, z11⟩ := hn.2.2.2.2 q
    rw [z2, z9, nI_0]
  · exact (hn.2.2.2.1 q).2.2.2.1
theorem INow.m26 {σ : St} {h : Hs} (hn : INow σ h) : σ 260 26 = nI (hMin h) := by
  rcases Nat.eq_zero_or_pos (hL h) with q | q
  · obtain ⟨z1, z2, z3, z4, z5, z6, z7, z8, z9, z10, z11⟩ := hn.2.2.2.2 q
    rw [z3, z11, nI_0]
  · have := (hn.2.2.2.1 q).2.2.2.2.1
    rw [Nat.zero_add] at this; exact this
theorem INow.m25 {σ : St} {h : Hs} (hn : INow σ h) : σ 260 25 = nI (hUsed h) := by
  rcases Nat.eq_zero_or_pos (hL h) with q | q
  · obtain ⟨z1, z2, z3, z4, z5, z6, z7, z8, z9, z10, z11⟩ := hn.2.2.2.2 q
    rw [z4, z10, nI_0]
  · have := (hn.2.2.2.1 q).2.2.2.2.2.1
    rw [Nat.zero_add] at this; exact this
theorem M_deadOnes {σ : St} {h : Hs} (hw : WF h) (e0 : σ 261 0 = nI (hL h)) (e1 : ∀ l, l < hL h → σ 260 (4 + l) = nI (hDd h l)) : f_X12_deadOnes σ = some (orT (fun l => decide (0 < hDd h l)) (hL h), σ) := by
  have hL4 := hw.1
  unfold f_X12_deadOnes
  simp only [lt_eq]
  have hloop := loop_up (body := f_X12_deadOnes_L4) (r := (orT (fun l => decide (0 < hDd h l)) (hL h), σ)) (hL h) 5000 (fun i => (orT (fun l => decide (0 < hDd h l)) i, nI i, σ)) (by omega) (fun i hi => by
    have e2 := e1 i hi
    have hd := (hw.2.2.2.2.2.2.1 i hi).2.2.2.2
    unfold f_X12_deadOnes_L4
    by_cases c : 0 < hDd h i
    · simp (disch := omega) only [↓lt_eq, ↓reduceIte, ↓un1, ↓un2, ↓un3, ↓un4, ↓bd_some, ↓bind_some', ↓sel_l, ↓sel_r, C1T, C1F, C2T, C2F, C3T, C3F, D1T, D1F, D2T, D2F, D3T, D3F, E1T, E1F, E2T, E2F, E3T, E3F, G1T, G1F, G2T, G2F, G3F, inb_T, inb_L, isB_0, isB_1, isB_b, nI_add, L_add1, L_add2, nI_cl, L_cl, bI_T, bI_F, eq_self, not_true_eq_false, not_false_eq_true, e0, e2, orT, decide_eq_true c, if_true]
    · simp (disch := omega) only [↓lt_eq, ↓reduceIte, ↓un1, ↓un2, ↓un3, ↓un4, ↓bd_some, ↓bind_some', ↓sel_l, ↓sel_r, C1T, C1F, C2T, C2F, C3T, C3F, D1T, D1F, D2T, D2F, D3T, D3F, E1T, E1F, E2T, E2F, E3T, E3F, G1T, G1F, G2T, G2F, G3F, inb_T, inb_L, isB_0, isB_1, isB_b, nI_add, L_add1, L_add2, nI_cl, L_cl, bI_T, bI_F, eq_self, not_true_eq_false, not_false_eq_true, e0, e2, orT, decide_eq_false c, if_false, Bool.false_eq_true]) (by
    unfold f_X12_deadOnes_L4
    simp (disch := omega) only [↓lt_eq, ↓reduceIte, ↓un1, ↓un2, ↓un3, ↓un4, ↓bd_some, ↓bind_some', ↓sel_l, ↓sel_r, C1T, C1F, C2T, C2F, C3T, C3F, D1T, D1F, D2T, D2F, D3T, D3F, E1T, E1F, E2T, E2F, E3T, E3F, G1T, G1F, G2T, G2F, G3F, inb_T, inb_L, isB_0, isB_1, isB_b, nI_add, L_add1, L_add2, nI_cl, L_cl, bI_T, bI_F, eq_self, not_true_eq_false, not_false_eq_true, e0])
  have e : ((0 : Int32), (0 : Int32), σ) = (orT (fun l => decide (0 < hDd h l)) 0, nI 0, σ) := by rw [nI_0]; rfl
  rw [e, hloop]
  rfl
def cntN (σ : St) (n : Nat) : Nat := sumT (fun r => if 0 ≤ σ 264 r then 1 else 0) n
theorem X_rowsThere {σ : St} (hR : IRows σ) : f_X11_rowsThere σ = some (nI (cntN σ 8), σ) := by
  unfold f_X11_rowsThere
  simp only [lt_eq]
  have hloop := loop_up (body := f_X11_rowsThere_L4) (r := (nI (cntN σ 8), σ)) 8 5000 (fun i => (nI (cntN σ i), nI i, σ)) (by omega) (fun i hi => by
    have e2 := (hR i hi).2.1
    have e3 : cntN σ (i + 1) = cntN σ i + if 0 ≤ σ 264 i then 1 else 0 := rfl
    unfold f_X11_rowsThere_L4
    by_cases c : 0 ≤ σ 264 i
    · simp (disch := omega) only [↓lt_eq, ↓reduceIte, ↓un1, ↓un2, ↓un3, ↓un4, ↓bd_some, ↓bind_some', ↓sel_l, ↓sel_r, C1T, C1F, C2T, C2F, C3T, C3F, D1T, D1F, D2T, D2F, D3T, D3F, E1T, E1F, E2T, E2F, E3T, E3F, G1T, G1F, G2T, G2F, G3F, inb_T, inb_L, isB_0, isB_1, isB_b, nI_add, L_add1, L_add2, nI_cl, L_cl, bI_T, bI_F, eq_self, not_true_eq_false, not_false_eq_true, rowA_n hi, f_X7_isMissing, e2, c, bd_some, e3]
    · simp (disch := omega) only [↓lt_eq, ↓reduceIte, ↓un1, ↓un2, ↓un3, ↓un4, ↓bd_some, ↓bind_some', ↓sel_l, ↓sel_r, C1T, C1F, C2T, C2F, C3T, C3F, D1T, D1F, D2T, D2F, D3T, D3F, E1T, E1F, E2T, E2F, E3T, E3F, G1T, G1F, G2T, G2F, G3F, inb_T, inb_L, isB_0, isB_1, isB_b, nI_add, L_add1, L_add2, nI_cl, L_cl, bI_T, bI_F, eq_self, not_true_eq_false, not_false_eq_true, rowA_n hi, f_X7_isMissing, e2, c, bd_some, e3, Int32.add_zero, Nat.add_zero]) (by
    unfold f_X11_rowsThere_L4
    simp (disch := omega) only [↓lt_eq, ↓reduceIte, ↓un1, ↓un2, ↓un3, ↓un4, ↓bd_some, ↓bind_some', ↓sel_l, ↓sel_r, C1T, C1F, C2T, C2F, C3T, C3F, D1T, D1F, D2T, D2F, D3T, D3F, E1T, E1F, E2T, E2F, E3T, E3F, G1T, G1F, G2T, G2F, G3F, inb_T, inb_L, isB_0, isB_1, isB_b, nI_add, L_add1, L_add2, nI_cl, L_cl, bI_T, bI_F, eq_self, not_true_eq_false, not_false_eq_true])
  have e : ((0 : Int32), (0 : Int32), σ) = (nI (cntN σ 0), nI 0, σ) := by rw [nI_0]; rfl
  rw [e, hloop]
  rfl
theorem M_rowsThere {σ : St} : loopF f_X12_count_L19 5000 ((0 : Int32), (0 : Int32), σ) = some (nI (cntN σ 8), σ) := by
  have hloop := loop_up (body := f_X12_count_L19) (r := (nI (cntN σ 8), σ)) 8 5000 (fun i => (nI (cntN σ i), nI i, σ)) (by omega) (fun i hi => by
    have e3 : cntN σ (i + 1) = cntN σ i + if 0 ≤ σ 264 i then 1 else 0 := rfl
    unfold f_X12_count_L19
    by_cases c : 0 ≤ σ 264 i
    · simp (disch := omega) only [↓lt_eq, ↓reduceIte, ↓un1, ↓un2, ↓un3, ↓un4, ↓bd_some, ↓bind_some', ↓sel_l, ↓sel_r, C1T, C1F, C2T, C2F, C3T, C3F, D1T, D1F, D2T, D2F, D3T, D3F, E1T, E1F, E2T, E2F, E3T, E3F, G1T, G1F, G2T, G2F, G3F, inb_T, inb_L, isB_0, isB_1, isB_b, nI_add, L_add1, L_add2, nI_cl, L_cl, bI_T, bI_F, eq_self, not_true_eq_false, not_false_eq_true, c, e3]
    · simp (disch := omega) only [↓lt_eq, ↓reduceIte, ↓un1, ↓un2, ↓un3, ↓un4, ↓bd_some, ↓bind_some', ↓sel_l, ↓sel_r, C1T, C1F, C2T, C2F, C3T, C3F, D1T, D1F, D2T, D2F, D3T, D3F, E1T, E1F, E2T, E2F, E3T, E3F, G1T, G1F, G2T, G2F, G3F, inb_T, inb_L, isB_0, isB_1, isB_b, nI_add, L_add1, L_add2, nI_cl, L_cl, bI_T, bI_F, eq_self, not_true_eq_false, not_false_eq_true, c, e3, Int32.add_zero, Nat.add_zero]) (by
    unfold f_X12_count_L19
    simp (disch := omega) only [↓lt_eq, ↓reduceIte, ↓un1, ↓un2, ↓un3, ↓un4, ↓bd_some, ↓bind_some', ↓sel_l, ↓sel_r, C1T, C1F, C2T, C2F, C3T, C3F, D1T, D1F, D2T, D2F, D3T, D3F, E1T, E1F, E2T, E2F, E3T, E3F, G1T, G1F, G2T, G2F, G3F, inb_T, inb_L, isB_0, isB_1, isB_b, nI_add, L_add1, L_add2, nI_cl, L_cl, bI_T, bI_F, eq_self, not_true_eq_false, not_false_eq_true])
  exact hloop
theorem step_count (x1 : Int32) : Step Inv (f_X11_count x1) (f_X12_count x1) := by
  intro σ hI
  obtain ⟨hR, ⟨tn, tp1, tp2, tp3, tp4⟩, hF, hT, h, o, n, ac, im, hn, ⟨a1, a2, a3, a4, a5, a6, a7⟩, hi⟩ := id hI
  have hL4 := hn.L4
  rcases rng x1 (lo := 0) (hi := 9) 0 9 (by decide) (by decide) (by omega) (by omega) with q | ⟨w, w1, w2, rfl⟩
  · have z0 : ¬ x1 = 0 := out_ne (a := 0) (b := 9) (k := 0) q (by omega) (by omega) (by omega)
    have z1 : ¬ x1 = 1 := out_ne (a := 0) (b := 9) (k := 1) q (by omega) (by omega) (by omega)
    have z2 : ¬ x1 = 2 := out_ne (a := 0) (b := 9) (k := 2) q (by omega) (by omega) (by omega)
    have z3 : ¬ x1 = 3 := out_ne (a := 0) (b := 9) (k := 3) q (by omega) (by omega) (by omega)
    have z4 : ¬ x1 = 4 := out_ne (a := 0) (b := 9) (k := 4) q (by omega) (by omega) (by omega)
    have z5 : ¬ x1 = 5 := out_ne (a := 0) (b := 9) (k := 5) q (by omega) (by omega) (by omega)
    have z6 : ¬ x1 = 6 := out_ne (a := 0) (b := 9) (k := 6) q (by omega) (by omega) (by omega)
    have z7 : ¬ x1 = 7 := out_ne (a := 0) (b := 9) (k := 7) q (by omega) (by omega) (by omega)
    have z8 : ¬ x1 = 8 := out_ne (a := 0) (b := 9) (k := 8) q (by omega) (by omega) (by omega)
    have z9 : ¬ x1 = 9 := out_ne (a := 0) (b := 9) (k := 9) q (by omega) (by omega) (by omega)
    refine step_same (-1000001) hI ?_ ?_
    · unfold f_X11_count
      simp (disch := omega) only [↓lt_eq, ↓reduceIte, ↓un1, ↓un2, ↓un3, ↓un4, ↓bd_some, ↓bind_some', ↓sel_l, ↓sel_r, C1T, C1F, C2T, C2F, C3T, C3F, D1T, D1F, D2T, D2F, D3T, D3F, E1T, E1F, E2T, E2F, E3T, E3F, G1T, G1F, G2T, G2F, G3F, inb_T, inb_L, isB_0, isB_1, isB_b, nI_add, L_add1, L_add2, nI_cl, L_cl, bI_T, bI_F, eq_self, not_true_eq_false, not_false_eq_true, z0, z1, z2, z3, z4, z5, z6, z7, z8, z9]
    · unfold f_X12_count
      simp (disch := omega) only [↓lt_eq, ↓reduceIte, ↓un1, ↓un2, ↓un3, ↓un4, ↓bd_some, ↓bind_some', ↓sel_l, ↓sel_r, C1T, C1F, C2T, C2F, C3T, C3F, D1T, D1F, D2T, D2F, D3T, D3F, E1T, E1F, E2T, E2F, E3T, E3F, G1T, G1F, G2T, G2F, G3F, inb_T, inb_L, isB_0, isB_1, isB_b, nI_add, L_add1, L_add2, nI_cl, L_cl, bI_T, bI_F, eq_self, not_true_eq_false, not_false_eq_true, ↓bd_of (M_out (lo := 0) (hi := 9) (L := 0) (H := 9) (by decide) (by decide) q)]
  have hw := hn.1
  have hx := hn.2.1
  have er := X_rowsThere hR
  have em := M_rowsThere (σ := σ)
  have ed := X_deadLines hx hw
  have edm : f_X12_deadOnes σ = _ := M_deadOnes hw hn.m0 (fun l hl => (hn.2.2.2.1 (by omega)).2.g_dd hl (by omega))
  have hb : ∀ b : Bool, (if bI b = 0 then (0 : Int32) else 1) = bI b := fun b => by cases b <;> rfl
  rcases (show w = 0 ∨ w = 1 ∨ w = 2 ∨ w = 3 ∨ w = 4 ∨ w = 5 ∨ w = 6 ∨ w = 7 ∨ w = 8 ∨ w = 9 by omega) with rfl | rfl | rfl | rfl | rfl | rfl | rfl | rfl | rfl | rfl
  · refine step_same (nI (cntN σ 8)) hI ?_ ?_
    · unfold f_X11_count
      simp (disch := omega) only [↓lt_eq, ↓reduceIte, ↓un1, ↓un2, ↓un3, ↓un4, ↓bd_some, ↓bind_some', ↓sel_l, ↓sel_r, C1T, C1F, C2T, C2F, C3T, C3F, D1T, D1F, D2T, D2F, D3T, D3F, E1T, E1F, E2T, E2F, E3T, E3F, G1T, G1F, G2T, G2F, G3F, inb_T, inb_L, isB_0, isB_1, isB_b, nI_add, L_add1, L_add2, nI_cl, L_cl, bI_T, bI_F, eq_self, not_true_eq_false, not_false_eq_true, ↓bd_of er]
    · unfold f_X12_count
      simp (disch := omega) only [↓lt_eq, ↓reduceIte, ↓un1, ↓un2, ↓un3, ↓un4, ↓bd_some, ↓bind_some', ↓sel_l, ↓sel_r, C1T, C1F, C2T, C2F, C3T, C3F, D1T, D1F, D2T, D2F, D3T, D3F, E1T, E1F, E2T, E2F, E3T, E3F, G1T, G1F, G2T, G2F, G3F, inb_T, inb_L, isB_0, isB_1, isB_b, nI_add, L_add1, L_add2, nI_cl, L_cl, bI_T, bI_F, eq_self, not_true_eq_false, not_false_eq_true, ↓bd_of (M_inn (σ := σ) (L := 0) (H := 9) (a := 0) (b := 9) (by decide) (by decide) w1 w2 (by decide)), ↓bind_of em]
  · refine step_same (nI (hL h)) hI ?_ ?_
    · unfold f_X11_count
      simp (disch := omega) only [↓lt_eq, ↓reduceIte, ↓un1, ↓un2, ↓un3, ↓un4, ↓bd_some, ↓bind_some', ↓sel_l, ↓sel_r, C1T, C1F, C2T, C2F, C3T, C3F, D1T, D1F, D2T, D2F, D3T, D3F, E1T, E1F, E2T, E2F, E3T, E3F, G1T, G1F, G2T, G2F, G3F, inb_T, inb_L, isB_0, isB_1, isB_b, nI_add, L_add1, L_add2, nI_cl, L_cl, bI_T, bI_F, eq_self, not_true_eq_false, not_false_eq_true, hn.x1]
    · unfold f_X12_count
      simp (disch := omega) only [↓lt_eq, ↓reduceIte, ↓un1, ↓un2, ↓un3, ↓un4, ↓bd_some, ↓bind_some', ↓sel_l, ↓sel_r, C1T, C1F, C2T, C2F, C3T, C3F, D1T, D1F, D2T, D2F, D3T, D3F, E1T, E1F, E2T, E2F, E3T, E3F, G1T, G1F, G2T, G2F, G3F, inb_T, inb_L, isB_0, isB_1, isB_b, nI_add, L_add1, L_add2, nI_cl, L_cl, bI_T, bI_F, eq_self, not_true_eq_false, not_false_eq_true, ↓bd_of (M_inn (σ := σ) (L := 0) (H := 9) (a := 0) (b := 9) (by decide) (by decide) w1 w2 (by decide)), ↓bind_of em, hn.m0]
  · refine step_same (nI (hN h)) hI ?_ ?_
    · unfold f_X11_count
      simp (disch := omega) only [↓lt_eq, ↓reduceIte, ↓un1, ↓un2, ↓un3, ↓un4, ↓bd_some, ↓bind_some', ↓sel_l, ↓sel_r, C1T, C1F, C2T, C2F, C3T, C3F, D1T, D1F, D2T, D2F, D3T, D3F, E1T, E1F, E2T, E2F, E3T, E3F, G1T, G1F, G2T, G2F, G3F, inb_T, inb_L, isB_0, isB_1, isB_b, nI_add, L_add1, L_add2, nI_cl, L_cl, bI_T, bI_F, eq_self, not_true_eq_false, not_false_eq_true, hn.x2]
    · unfold f_X12_count
      simp (disch := omega) only [↓lt_eq, ↓reduceIte, ↓un1, ↓un2, ↓un3, ↓un4, ↓bd_some, ↓bind_some', ↓sel_l, ↓sel_r, C1T, C1F, C2T, C2F, C3T, C3F, D1T, D1F, D2T, D2F, D3T, D3F, E1T, E1F, E2T, E2F, E3T, E3F, G1T, G1F, G2T, G2F, G3F, inb_T, inb_L, isB_0, isB_1, isB_b, nI_add, L_add1, L_add2, nI_cl, L_cl, bI_T, bI_F, eq_self, not_true_eq_false, not_false_eq_true, ↓bd_of (M_inn (σ := σ) (L := 0) (H := 9) (a := 0) (b := 9) (by decide) (by decide) w1 w2 (by decide)), ↓bind_of em, hn.m1]
  · refine step_same (nI (hMin h)) hI ?_ ?_
    · unfold f_X11_count
      simp (disch := omega) only [↓lt_eq, ↓reduceIte, ↓un1, ↓un2, ↓un3, ↓un4, ↓bd_some, ↓bind_some', ↓sel_l, ↓sel_r, C1T, C1F, C2T, C2F, C3T, C3F, D1T, D1F, D2T, D2F, D3T, D3F, E1T, E1F, E2T, E2F, E3T, E3F, G1T, G1F, G2T, G2F, G3F, inb_T, inb_L, isB_0, isB_1, isB_b, nI_add, L_add1, L_add2, nI_cl, L_cl, bI_T, bI_F, eq_self, not_true_eq_false, not_false_eq_true, hx.2.2.2.1]
    · unfold f_X12_count
      simp (disch := omega) only [↓lt_eq, ↓reduceIte, ↓un1, ↓un2, ↓un3, ↓un4, ↓bd_some, ↓bind_some', ↓sel_l, ↓sel_r, C1T, C1F, C2T, C2F, C3T, C3F, D1T, D1F, D2T, D2F, D3T, D3F, E1T, E1F, E2T, E2F, E3T, E3F, G1T, G1F, G2T, G2F, G3F, inb_T, inb_L, isB_0, isB_1, isB_b, nI_add, L_add1, L_add2, nI_cl, L_cl, bI_T, bI_F, eq_self, not_true_eq_false, not_false_eq_true, ↓bd_of (M_inn (σ := σ) (L := 0) (H := 9) (a := 0) (b := 9) (by decide) (by decide) w1 w2 (by decide)), ↓bind_of em, hn.m26]
  · refine step_same (nI (hMain h)) hI ?_ ?_
    · unfold f_X11_count
      simp (disch := omega) only [↓lt_eq, ↓reduceIte, ↓un1, ↓un2, ↓un3, ↓un4, ↓bd_some, ↓bind_some', ↓sel_l, ↓sel_r, C1T, C1F, C2T, C2F, C3T, C3F, D1T, D1F, D2T, D2F, D3T, D3F, E1T, E1F, E2T, E2F, E3T, E3F, G1T, G1F, G2T, G2F, G3F, inb_T, inb_L, isB_0, isB_1, isB_b, nI_add, L_add1, L_add2, nI_cl, L_cl, bI_T, bI_F, eq_self, not_true_eq_false, not_false_eq_true, hx.2.2.1]
    · unfold f_X12_count
      simp (disch := omega) only [↓lt_eq, ↓reduceIte, ↓un1, ↓un2, ↓un3, ↓un4, ↓bd_some, ↓bind_some', ↓sel_l, ↓sel_r, C1T, C1F, C2T, C2F, C3T, C3F, D1T, D1F, D2T, D2F, D3T, D3F, E1T, E1F, E2T, E2F, E3T, E3F, G1T, G1F, G2T, G2F, G3F, inb_T, inb_L, isB_0, isB_1, isB_b, nI_add, L_add1, L_add2, nI_cl, L_cl, bI_T, bI_F, eq_self, not_true_eq_false, not_false_eq_true, ↓bd_of (M_inn (σ := σ) (L := 0) (H := 9) (a := 0) (b := 9) (by decide) (by decide) w1 w2 (by decide)), ↓bind_of em, hn.m2]
  · refine step_same (bI (hIn h)) hI ?_ ?_
    · unfold f_X11_count
      cases hv : hIn h <;> simp (disch := omega) only [↓lt_eq, ↓reduceIte, ↓un1, ↓un2, ↓un3, ↓un4, ↓bd_some, ↓bind_some', ↓sel_l, ↓sel_r, C1T, C1F, C2T, C2F, C3T, C3F, D1T, D1F, D2T, D2F, D3T, D3F, E1T, E1F, E2T, E2F, E3T, E3F, G1T, G1F, G2T, G2F, G3F, inb_T, inb_L, isB_0, isB_1, isB_b, nI_add, L_add1, L_add2, nI_cl, L_cl, bI_T, bI_F, eq_self, not_true_eq_false, not_false_eq_true, hx.2.2.2.2.2.1, hv]
    · unfold f_X12_count
      rcases Nat.eq_zero_or_pos (hL h) with q | q
      · have e2 := hn.m0
        rw [q] at e2
        rw [(hn.2.2.2.2 q).2.2.2.2.2.1]
        simp (disch := omega) only [↓lt_eq, ↓reduceIte, ↓un1, ↓un2, ↓un3, ↓un4, ↓bd_some, ↓bind_some', ↓sel_l, ↓sel_r, C1T, C1F, C2T, C2F, C3T, C3F, D1T, D1F, D2T, D2F, D3T, D3F, E1T, E1F, E2T, E2F, E3T, E3F, G1T, G1F, G2T, G2F, G3F, inb_T, inb_L, isB_0, isB_1, isB_b, nI_add, L_add1, L_add2, nI_cl, L_cl, bI_T, bI_F, eq_self, not_true_eq_false, not_false_eq_true, ↓bd_of (M_inn (σ := σ) (L := 0) (H := 9) (a := 0) (b := 9) (by decide) (by decide) w1 w2 (by decide)), ↓bind_of em, ↓bd_of (M_isHouse_0 e2)]
      · have e3 : σ 260 24 = _ := (hn.2.2.2.1 q).2.2.2.2.2.2.1
        simp (disch := omega) only [↓lt_eq, ↓reduceIte, ↓un1, ↓un2, ↓un3, ↓un4, ↓bd_some, ↓bind_some', ↓sel_l, ↓sel_r, C1T, C1F, C2T, C2F, C3T, C3F, D1T, D1F, D2T, D2F, D3T, D3F, E1T, E1F, E2T, E2F, E3T, E3F, G1T, G1F, G2T, G2F, G3F, inb_T, inb_L, isB_0, isB_1, isB_b, nI_add, L_add1, L_add2, nI_cl, L_cl, bI_T, bI_F, eq_self, not_true_eq_false, not_false_eq_true, ↓bd_of (M_inn (σ := σ) (L := 0) (H := 9) (a := 0) (b := 9) (by decide) (by decide) w1 w2 (by decide)), ↓bind_of em, ↓bd_of (M_isHouse_1 hn.m0 q hL4), e3, sub_b, Bool.not_not]
  · refine step_same (orT (fun l => decide (0 < hDd h l)) (hL h)) hI ?_ ?_
    · unfold f_X11_count
      simp (disch := omega) only [↓lt_eq, ↓reduceIte, ↓un1, ↓un2, ↓un3, ↓un4, ↓bd_some, ↓bind_some', ↓sel_l, ↓sel_r, C1T, C1F, C2T, C2F, C3T, C3F, D1T, D1F, D2T, D2F, D3T, D3F, E1T, E1F, E2T, E2F, E3T, E3F, G1T, G1F, G2T, G2F, G3F, inb_T, inb_L, isB_0, isB_1, isB_b, nI_add, L_add1, L_add2, nI_cl, L_cl, bI_T, bI_F, eq_self, not_true_eq_false, not_false_eq_true, ↓bd_of ed]
    · unfold f_X12_count
      simp (disch := omega) only [↓lt_eq, ↓reduceIte, ↓un1, ↓un2, ↓un3, ↓un4, ↓bd_some, ↓bind_some', ↓sel_l, ↓sel_r, C1T, C1F, C2T, C2F, C3T, C3F, D1T, D1F, D2T, D2F, D3T, D3F, E1T, E1F, E2T, E2F, E3T, E3F, G1T, G1F, G2T, G2F, G3F, inb_T, inb_L, isB_0, isB_1, isB_b, nI_add, L_add1, L_add2, nI_cl, L_cl, bI_T, bI_F, eq_self, not_true_eq_false, not_false_eq_true, ↓bd_of (M_inn (σ := σ) (L := 0) (H := 9) (a := 0) (b := 9) (by decide) (by decide) w1 w2 (by decide)), ↓bind_of em, ↓bd_of edm]
  · refine step_same (nI (hUsed h)) hI ?_ ?_
    · unfold f_X11_count
      simp (disch := omega) only [↓lt_eq, ↓reduceIte, ↓un1, ↓un2, ↓un3, ↓un4, ↓bd_some, ↓bind_some', ↓sel_l, ↓sel_r, C1T, C1F, C2T, C2F, C3T, C3F, D1T, D1F, D2T, D2F, D3T, D3F, E1T, E1F, E2T, E2F, E3T, E3F, G1T, G1F, G2T, G2F, G3F, inb_T, inb_L, isB_0, isB_1, isB_b, nI_add, L_add1, L_add2, nI_cl, L_cl, bI_T, bI_F, eq_self, not_true_eq_false, not_false_eq_true, hx.2.2.2.2.1]
    · unfold f_X12_count
      simp (disch := omega) only [↓lt_eq, ↓reduceIte, ↓un1, ↓un2, ↓un3, ↓un4, ↓bd_some, ↓bind_some', ↓sel_l, ↓sel_r, C1T, C1F, C2T, C2F, C3T, C3F, D1T, D1F, D2T, D2F, D3T, D3F, E1T, E1F, E2T, E2F, E3T, E3F, G1T, G1F, G2T, G2F, G3F, inb_T, inb_L, isB_0, isB_1, isB_b, nI_add, L_add1, L_add2, nI_cl, L_cl, bI_T, bI_F, eq_self, not_true_eq_false, not_false_eq_true, ↓bd_of (M_inn (σ := σ) (L := 0) (H := 9) (a := 0) (b := 9) (by decide) (by decide) w1 w2 (by decide)), ↓bind_of em, hn.m25]
  · refine step_same (nI n) hI ?_ ?_
    · unfold f_X11_count
      simp (disch := omega) only [↓lt_eq, ↓reduceIte, ↓un1, ↓un2, ↓un3, ↓un4, ↓bd_some, ↓bind_some', ↓sel_l, ↓sel_r, C1T, C1F, C2T, C2F, C3T, C3F, D1T, D1F, D2T, D2F, D3T, D3F, E1T, E1F, E2T, E2F, E3T, E3F, G1T, G1F, G2T, G2F, G3F, inb_T, inb_L, isB_0, isB_1, isB_b, nI_add, L_add1, L_add2, nI_cl, L_cl, bI_T, bI_F, eq_self, not_true_eq_false, not_false_eq_true, a4]
    · unfold f_X12_count
      simp (disch := omega) only [↓lt_eq, ↓reduceIte, ↓un1, ↓un2, ↓un3, ↓un4, ↓bd_some, ↓bind_some', ↓sel_l, ↓sel_r, C1T, C1F, C2T, C2F, C3T, C3F, D1T, D1F, D2T, D2F, D3T, D3F, E1T, E1F, E2T, E2F, E3T, E3F, G1T, G1F, G2T, G2F, G3F, inb_T, inb_L, isB_0, isB_1, isB_b, nI_add, L_add1, L_add2, nI_cl, L_cl, bI_T, bI_F, eq_self, not_true_eq_false, not_false_eq_true, ↓bd_of (M_inn (σ := σ) (L := 0) (H := 9) (a := 0) (b := 9) (by decide) (by decide) w1 w2 (by decide)), ↓bind_of em, a5]
  · refine step_same (nI tn) hI ?_ ?_
    · unfold f_X11_count
      simp (disch := omega) only [↓lt_eq, ↓reduceIte, ↓un1, ↓un2, ↓un3, ↓un4, ↓bd_some, ↓bind_some', ↓sel_l, ↓sel_r, C1T, C1F, C2T, C2F, C3T, C3F, D1T, D1F, D2T, D2F, D3T, D3F, E1T, E1F, E2T, E2F, E3T, E3F, G1T, G1F, G2T, G2F, G3F, inb_T, inb_L, isB_0, isB_1, isB_b, nI_add, L_add1, L_add2, nI_cl, L_cl, bI_T, bI_F, eq_self, not_true_eq_false, not_false_eq_true, tp2]
    · unfold f_X12_count
      simp (disch := omega) only [↓lt_eq, ↓reduceIte, ↓un1, ↓un2, ↓un3, ↓un4, ↓bd_some, ↓bind_some', ↓sel_l, ↓sel_r, C1T, C1F, C2T, C2F, C3T, C3F, D1T, D1F, D2T, D2F, D3T, D3F, E1T, E1F, E2T, E2F, E3T, E3F, G1T, G1F, G2T, G2F, G3F, inb_T, inb_L, isB_0, isB_1, isB_b, nI_add, L_add1, L_add2, nI_cl, L_cl, bI_T, bI_F, eq_self, not_true_eq_false, not_false_eq_true, ↓bd_of (M_inn (σ := σ) (L := 0) (H := 9) (a := 0) (b := 9) (by decide) (by decide) w1 w2 (by decide)), ↓bind_of em, tp3]
