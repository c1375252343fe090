/-! bill -/
theorem sumT_ge {f : Nat → Nat} {t : Nat} : ∀ n, t < n → f t ≤ sumT f n
  | 0, h => by omega
  | n + 1, h => by
    show f t ≤ sumT f n + f n
    by_cases e : t = n
    · rw [e]; omega
    · have := sumT_ge (f := f) n (show t < n by omega); omega
theorem all_pos {h : Hs} (hw : WF h) {t : Nat} (ht : t < hN h) (hr : runsH h t = true) : 0 < allH h := by
  have h1 := sumT_ge (f := fun t => if runsH h t then hLd h t else 0) (hN h) ht
  simp only [hr, if_true] at h1
  have h2 := (hw.2.2.2.2.2.2.2 t ht).2.2
  unfold allH allN
  omega
def leftI (h : Hs) (n : Nat) : Nat → Int32
  | 0 => nI n
  | i + 1 => if runsH h i then leftI h n i - nI n * nI (hLd h i) / nI (allH h) else leftI h n i
def aheadN (h : Hs) (t : Nat) : Nat → Nat
  | 0 => 0
  | i + 1 => if runsH h i && decide (i < t) then aheadN h t i + 1 else aheadN h t i
theorem aheadN_le (h : Hs) (t : Nat) : ∀ i, aheadN h t i ≤ i
  | 0 => Nat.le_refl 0
  | i + 1 => by
    have := aheadN_le h t i
    show (if runsH h i && decide (i < t) then aheadN h t i + 1 else aheadN h t i) ≤ i + 1
    split <;> omega
def billI (h : Hs) (t n : Nat) : Int32 := if runsH h t then nI n * nI (hLd h t) / nI (allH h) + (if leftI h n (hN h) ≤ nI (aheadN h t (hN h)) then 0 else 1) else 0
theorem step_bill (x1 x2 : Int32) : Step Inv (f_X11_bill x1 x2) (f_X12_bill x1 x2) := by
  intro σ hI
  obtain ⟨hR, hP, hF, hT, h, o, n, ac, im, hn, ha, hi⟩ := id hI
  have hN4 := hn.N6
  rcases idx x1 (hN h) hN4 with q | ⟨t, ht, rfl⟩
  · refine step_same (-1000001) hI ?_ ?_
    · unfold f_X11_bill
      simp (disch := omega) only [↓lt_eq, ↓reduceIte, ↓un1, ↓un2, ↓un3, ↓un4, ↓bd_some, ↓bind_some', ↓sel_l, ↓sel_r, C1T, C1F, C2T, C2F, C3T, C3F, D1T, D1F, D2T, D2F, D3T, D3F, E1T, E1F, E2T, E2F, E3T, E3F, G1T, G1F, G2T, G2F, G3F, inb_T, inb_L, isB_0, isB_1, isB_b, nI_add, L_add1, L_add2, nI_cl, L_cl, bI_T, bI_F, eq_self, not_true_eq_false, not_false_eq_true, ↓bd_of (X_noThing_out hn.x2 q)]
    · unfold f_X12_bill
      simp (disch := omega) only [↓lt_eq, ↓reduceIte, ↓un1, ↓un2, ↓un3, ↓un4, ↓bd_some, ↓bind_some', ↓sel_l, ↓sel_r, C1T, C1F, C2T, C2F, C3T, C3F, D1T, D1F, D2T, D2F, D3T, D3F, E1T, E1F, E2T, E2F, E3T, E3F, G1T, G1F, G2T, G2F, G3F, inb_T, inb_L, isB_0, isB_1, isB_b, nI_add, L_add1, L_add2, nI_cl, L_cl, bI_T, bI_F, eq_self, not_true_eq_false, not_false_eq_true, ↓bd_of (M_isThing_out hn.m1 q hN4)]
  rcases rng x2 (lo := 0) (hi := 999) 0 999 (by decide) (by decide) (by omega) (by omega) with q | ⟨d, d1, d2, rfl⟩
  · refine step_same (-1000001) hI ?_ ?_
    · unfold f_X11_bill
      simp (disch := omega) only [↓lt_eq, ↓reduceIte, ↓un1, ↓un2, ↓un3, ↓un4, ↓bd_some, ↓bind_some', ↓sel_l, ↓sel_r, C1T, C1F, C2T, C2F, C3T, C3F, D1T, D1F, D2T, D2F, D3T, D3F, E1T, E1F, E2T, E2F, E3T, E3F, G1T, G1F, G2T, G2F, G3F, inb_T, inb_L, isB_0, isB_1, isB_b, nI_add, L_add1, L_add2, nI_cl, L_cl, bI_T, bI_F, eq_self, not_true_eq_false, not_false_eq_true, ↓bd_of (X_noThing_in hn.x2 ht hN4), ↓ite_out1 q]
    · unfold f_X12_bill
      simp (disch := omega) only [↓lt_eq, ↓reduceIte, ↓un1, ↓un2, ↓un3, ↓un4, ↓bd_some, ↓bind_some', ↓sel_l, ↓sel_r, C1T, C1F, C2T, C2F, C3T, C3F, D1T, D1F, D2T, D2F, D3T, D3F, E1T, E1F, E2T, E2F, E3T, E3F, G1T, G1F, G2T, G2F, G3F, inb_T, inb_L, isB_0, isB_1, isB_b, nI_add, L_add1, L_add2, nI_cl, L_cl, bI_T, bI_F, eq_self, not_true_eq_false, not_false_eq_true, ↓bd_of (M_isThing_in hn.m1 ht hN4), ↓bd_of (M_out (lo := 0) (hi := 999) (L := 0) (H := 999) (by decide) (by decide) q)]
  have hw := hn.1
  have hN6 := hw.2.1
  have hal := allH_le hw
  refine step_keep (billI h t d) hI ?_ (fun s hk => ?_)
  · obtain ⟨s, e, k1, k2⟩ := X_reckon hn.2.1 hw
    have kk : Keep σ s := Keep.cells (fun b q => k2 b (by omega))
    have hn0 := hn
    have hn := hn.keep kk
    have e2 := X_runs hn.2.1 hw ht
    refine Ok.mono (Q := fun v => v.1 = billI h t d ∧ v.2 = s) ?_ (fun v q => ⟨q.1, by rw [q.2]; exact kk⟩)
    unfold f_X11_bill billI
    cases hr : runsH h t with
    | false =>
      rw [hr] at e2
      simp (disch := omega) only [↓lt_eq, ↓reduceIte, ↓un1, ↓un2, ↓un3, ↓un4, ↓bd_some, ↓bind_some', ↓sel_l, ↓sel_r, C1T, C1F, C2T, C2F, C3T, C3F, D1T, D1F, D2T, D2F, D3T, D3F, E1T, E1F, E2T, E2F, E3T, E3F, G1T, G1F, G2T, G2F, G3F, inb_T, inb_L, isB_0, isB_1, isB_b, nI_add, L_add1, L_add2, nI_cl, L_cl, bI_T, bI_F, eq_self, not_true_eq_false, not_false_eq_true, ↓bd_of (X_noThing_in hn0.x2 ht hN4), ↓bd_of e, ↓bd_of e2, if_false, Bool.false_eq_true]
      exact Ok.ret ⟨rfl, rfl⟩
    | true =>
      rw [hr] at e2
      have hp := all_pos hw ht hr
      simp (disch := omega) only [↓lt_eq, ↓reduceIte, ↓un1, ↓un2, ↓un3, ↓un4, ↓bd_some, ↓bind_some', ↓sel_l, ↓sel_r, C1T, C1F, C2T, C2F, C3T, C3F, D1T, D1F, D2T, D2F, D3T, D3F, E1T, E1F, E2T, E2F, E3T, E3F, G1T, G1F, G2T, G2F, G3F, inb_T, inb_L, isB_0, isB_1, isB_b, nI_add, L_add1, L_add2, nI_cl, L_cl, bI_T, bI_F, eq_self, not_true_eq_false, not_false_eq_true, ↓bd_of (X_noThing_in hn0.x2 ht hN4), ↓bd_of e, ↓bd_of e2, if_true]
      refine Ok.bind (loop_n (fun i (x : Int32 × Int32 × Int32 × St) => x.1 = leftI h d i ∧ x.2.1 = nI (aheadN h t i) ∧ x.2.2.1 = nI i ∧ x.2.2.2 = s) _ (hN h) 5000 _ (by omega) ⟨rfl, rfl, rfl, rfl⟩ ?_ ?_)
      · rintro i ⟨a, b, v, u⟩ hi ⟨q0, q1, q2, q3⟩
        simp only at q0 q1 q2 q3
        subst q0 q1 q2 q3
        have e3 := X_runs hn.2.1 hw hi
        have e4 := (hn.2.1.2.2.2.2.2.2.2.2 i hi).2
        have ha := aheadN_le h t i
        refine ⟨(leftI h d (i + 1), nI (aheadN h t (i + 1)), nI (i + 1), u), ?_, rfl, rfl, rfl, rfl⟩
        unfold f_X11_bill_L56
        cases hv : runsH h i with
        | false =>
          rw [hv] at e3
          simp (disch := omega) only [↓lt_eq, ↓reduceIte, ↓un1, ↓un2, ↓un3, ↓un4, ↓bd_some, ↓bind_some', ↓sel_l, ↓sel_r, C1T, C1F, C2T, C2F, C3T, C3F, D1T, D1F, D2T, D2F, D3T, D3F, E1T, E1F, E2T, E2F, E3T, E3F, G1T, G1F, G2T, G2F, G3F, inb_T, inb_L, isB_0, isB_1, isB_b, nI_add, L_add1, L_add2, nI_cl, L_cl, bI_T, bI_F, eq_self, not_true_eq_false, not_false_eq_true, hn.x2, ↓bd_of e3, leftI, aheadN, hv, if_false, Bool.false_eq_true, Bool.false_and]
        | true =>
          rw [hv] at e3
          by_cases c : i < t
          · have c' : decide (i < t) = true := decide_eq_true c
            simp (disch := omega) only [↓lt_eq, ↓reduceIte, ↓un1, ↓un2, ↓un3, ↓un4, ↓bd_some, ↓bind_some', ↓sel_l, ↓sel_r, C1T, C1F, C2T, C2F, C3T, C3F, D1T, D1F, D2T, D2F, D3T, D3F, E1T, E1F, E2T, E2F, E3T, E3F, G1T, G1F, G2T, G2F, G3F, inb_T, inb_L, isB_0, isB_1, isB_b, nI_add, L_add1, L_add2, nI_cl, L_cl, bI_T, bI_F, eq_self, not_true_eq_false, not_false_eq_true, hn.x2, ↓bd_of e3, leftI, aheadN, hv, if_true, Bool.true_and, c', e4]
          · have c' : decide (i < t) = false := decide_eq_false c
            simp (disch := omega) only [↓lt_eq, ↓reduceIte, ↓un1, ↓un2, ↓un3, ↓un4, ↓bd_some, ↓bind_some', ↓sel_l, ↓sel_r, C1T, C1F, C2T, C2F, C3T, C3F, D1T, D1F, D2T, D2F, D3T, D3F, E1T, E1F, E2T, E2F, E3T, E3F, G1T, G1F, G2T, G2F, G3F, inb_T, inb_L, isB_0, isB_1, isB_b, nI_add, L_add1, L_add2, nI_cl, L_cl, bI_T, bI_F, eq_self, not_true_eq_false, not_false_eq_true, hn.x2, ↓bd_of e3, leftI, aheadN, hv, if_true, Bool.true_and, c', e4, Int32.add_zero, if_false, Bool.false_eq_true]
      · rintro ⟨a, b, v, u⟩ ⟨q0, q1, q2, q3⟩
        simp only at q0 q1 q2 q3
        subst q0 q1 q2 q3
        have e4 := (hn.2.1.2.2.2.2.2.2.2.2 t ht).2
        refine ⟨(leftI h d (hN h), nI (aheadN h t (hN h)), u), ?_, ?_⟩
        · unfold f_X11_bill_L56
          simp (disch := omega) only [↓lt_eq, ↓reduceIte, ↓un1, ↓un2, ↓un3, ↓un4, ↓bd_some, ↓bind_some', ↓sel_l, ↓sel_r, C1T, C1F, C2T, C2F, C3T, C3F, D1T, D1F, D2T, D2F, D3T, D3F, E1T, E1F, E2T, E2F, E3T, E3F, G1T, G1F, G2T, G2F, G3F, inb_T, inb_L, isB_0, isB_1, isB_b, nI_add, L_add1, L_add2, nI_cl, L_cl, bI_T, bI_F, eq_self, not_true_eq_false, not_false_eq_true, hn.x2]
        · by_cases c : leftI h d (hN h) ≤ nI (aheadN h t (hN h))
          · simp (disch := omega) only [↓lt_eq, ↓reduceIte, ↓un1, ↓un2, ↓un3, ↓un4, ↓bd_some, ↓bind_some', ↓sel_l, ↓sel_r, C1T, C1F, C2T, C2F, C3T, C3F, D1T, D1F, D2T, D2F, D3T, D3F, E1T, E1F, E2T, E2F, E3T, E3F, G1T, G1F, G2T, G2F, G3F, inb_T, inb_L, isB_0, isB_1, isB_b, nI_add, L_add1, L_add2, nI_cl, L_cl, bI_T, bI_F, eq_self, not_true_eq_false, not_false_eq_true, e4, c]
            exact Ok.ret ⟨rfl, rfl⟩
          · simp (disch := omega) only [↓lt_eq, ↓reduceIte, ↓un1, ↓un2, ↓un3, ↓un4, ↓bd_some, ↓bind_some', ↓sel_l, ↓sel_r, C1T, C1F, C2T, C2F, C3T, C3F, D1T, D1F, D2T, D2F, D3T, D3F, E1T, E1F, E2T, E2F, E3T, E3F, G1T, G1F, G2T, G2F, G3F, inb_T, inb_L, isB_0, isB_1, isB_b, nI_add, L_add1, L_add2, nI_cl, L_cl, bI_T, bI_F, eq_self, not_true_eq_false, not_false_eq_true, e4, c]
            exact Ok.ret ⟨rfl, rfl⟩
  · have hn := hn.keep hk
    have hm := (hn.2.2.2.1 (hn.pos ht)).2
    refine Ok.mono (Q := fun v => v.1 = billI h t d ∧ v.2 = s) ?_ (fun v q => ⟨q.1, by rw [q.2]; exact Keep.rf⟩)
    have er : ∀ i, i < hN h → f_X12_runs (0 : Int32) (nI i) s = some (bI (runsH h i), s) := fun i hi => M_runs (b := 0) hm hw (by omega) hi
    unfold f_X12_bill
    simp (disch := omega) only [↓lt_eq, ↓reduceIte, ↓un1, ↓un2, ↓un3, ↓un4, ↓bd_some, ↓bind_some', ↓sel_l, ↓sel_r, C1T, C1F, C2T, C2F, C3T, C3F, D1T, D1F, D2T, D2F, D3T, D3F, E1T, E1F, E2T, E2F, E3T, E3F, G1T, G1F, G2T, G2F, G3F, inb_T, inb_L, isB_0, isB_1, isB_b, nI_add, L_add1, L_add2, nI_cl, L_cl, bI_T, bI_F, eq_self, not_true_eq_false, not_false_eq_true, ↓bd_of (M_isThing_in hn.m1 ht hN4), ↓bd_of (M_inn (σ := s) (L := 0) (H := 999) (a := 0) (b := 999) (by decide) (by decide) d1 d2 (by decide))]
    refine Ok.bind (loop_n (fun i (x : Int32 × Int32 × St) => x.1 = nI (allN h i) ∧ x.2.1 = nI i ∧ x.2.2 = s) _ (hN h) 5000 _ (by omega) ⟨rfl, rfl, rfl⟩ ?_ ?_)
    · rintro i ⟨a, v, u⟩ hi ⟨q0, q2, q3⟩
      simp only at q0 q2 q3
      subst q0 q2 q3
      have e3 := er i hi
      have e4 : u 261 (7 + i) = _ := hm.g_ld hi (by omega)
      refine ⟨(nI (allN h (i + 1)), nI (i + 1), u), ?_, rfl, rfl, rfl⟩
      have e5 : allN h (i + 1) = allN h i + if runsH h i then hLd h i else 0 := rfl
      unfold f_X12_bill_L28
      cases hv : runsH h i with
      | false =>
        rw [hv] at e3
        simp (disch := omega) only [↓lt_eq, ↓reduceIte, ↓un1, ↓un2, ↓un3, ↓un4, ↓bd_some, ↓bind_some', ↓sel_l, ↓sel_r, C1T, C1F, C2T, C2F, C3T, C3F, D1T, D1F, D2T, D2F, D3T, D3F, E1T, E1F, E2T, E2F, E3T, E3F, G1T, G1F, G2T, G2F, G3F, inb_T, inb_L, isB_0, isB_1, isB_b, nI_add, L_add1, L_add2, nI_cl, L_cl, bI_T, bI_F, eq_self, not_true_eq_false, not_false_eq_true, hn.m1, ↓bd_of e3, e5, hv, if_false, Bool.false_eq_true, Int32.add_zero, Nat.add_zero]
      | true =>
        rw [hv] at e3
        simp (disch := omega) only [↓lt_eq, ↓reduceIte, ↓un1, ↓un2, ↓un3, ↓un4, ↓bd_some, ↓bind_some', ↓sel_l, ↓sel_r, C1T, C1F, C2T, C2F, C3T, C3F, D1T, D1F, D2T, D2F, D3T, D3F, E1T, E1F, E2T, E2F, E3T, E3F, G1T, G1F, G2T, G2F, G3F, inb_T, inb_L, isB_0, isB_1, isB_b, nI_add, L_add1, L_add2, nI_cl, L_cl, bI_T, bI_F, eq_self, not_true_eq_false, not_false_eq_true, hn.m1, ↓bd_of e3, e5, hv, if_true, e4]
    · rintro ⟨a, v, u⟩ ⟨q0, q2, q3⟩
      simp only at q0 q2 q3
      subst q0 q2 q3
      refine ⟨(nI (allN h (hN h)), u), ?_, ?_⟩
      · unfold f_X12_bill_L28
        simp (disch := omega) only [↓lt_eq, ↓reduceIte, ↓un1, ↓un2, ↓un3, ↓un4, ↓bd_some, ↓bind_some', ↓sel_l, ↓sel_r, C1T, C1F, C2T, C2F, C3T, C3F, D1T, D1F, D2T, D2F, D3T, D3F, E1T, E1F, E2T, E2F, E3T, E3F, G1T, G1F, G2T, G2F, G3F, inb_T, inb_L, isB_0, isB_1, isB_b, nI_add, L_add1, L_add2, nI_cl, L_cl, bI_T, bI_F, eq_self, not_true_eq_false, not_false_eq_true, hn.m1]
      · simp (disch := omega) only [↓lt_eq, ↓reduceIte, ↓un1, ↓un2, ↓un3, ↓un4, ↓bd_some, ↓bind_some', ↓sel_l, ↓sel_r, C1T, C1F, C2T, C2F, C3T, C3F, D1T, D1F, D2T, D2F, D3T, D3F, E1T, E1F, E2T, E2F, E3T, E3F, G1T, G1F, G2T, G2F, G3F, inb_T, inb_L, isB_0, isB_1, isB_b, nI_add, L_add1, L_add2, nI_cl, L_cl, bI_T, bI_F, eq_self, not_true_eq_false, not_false_eq_true]
        rw [show allN h (hN h) = allH h from rfl]
        refine Ok.bind (loop_n (fun i (x : Int32 × Int32 × Int32 × St) => x.1 = leftI h d i ∧ x.2.1 = nI (aheadN h t i) ∧ x.2.2.1 = nI i ∧ x.2.2.2 = u) _ (hN h) 5000 _ (by omega) ⟨rfl, rfl, rfl, rfl⟩ ?_ ?_)
        · rintro i ⟨a, b, v, s⟩ hi ⟨q0, q1, q2, q3⟩
          simp only at q0 q1 q2 q3
          subst q0 q1 q2 q3
          have e3 := er i hi
          have e4 : s 261 (7 + i) = _ := hm.g_ld hi (by omega)
          have ha := aheadN_le h t i
          refine ⟨(leftI h d (i + 1), nI (aheadN h t (i + 1)), nI (i + 1), s), ?_, rfl, rfl, rfl, rfl⟩
          unfold f_X12_bill_L81
          cases hv : runsH h i with
          | false =>
            rw [hv] at e3
            by_cases c : i < t
            · simp (disch := omega) only [↓lt_eq, ↓reduceIte, ↓un1, ↓un2, ↓un3, ↓un4, ↓bd_some, ↓bind_some', ↓sel_l, ↓sel_r, C1T, C1F, C2T, C2F, C3T, C3F, D1T, D1F, D2T, D2F, D3T, D3F, E1T, E1F, E2T, E2F, E3T, E3F, G1T, G1F, G2T, G2F, G3F, inb_T, inb_L, isB_0, isB_1, isB_b, nI_add, L_add1, L_add2, nI_cl, L_cl, bI_T, bI_F, eq_self, not_true_eq_false, not_false_eq_true, hn.m1, ↓bd_of e3, leftI, aheadN, hv, if_false, Bool.false_eq_true, Bool.false_and, Int32.sub_zero, Int32.add_zero]
            · simp (disch := omega) only [↓lt_eq, ↓reduceIte, ↓un1, ↓un2, ↓un3, ↓un4, ↓bd_some, ↓bind_some', ↓sel_l, ↓sel_r, C1T, C1F, C2T, C2F, C3T, C3F, D1T, D1F, D2T, D2F, D3T, D3F, E1T, E1F, E2T, E2F, E3T, E3F, G1T, G1F, G2T, G2F, G3F, inb_T, inb_L, isB_0, isB_1, isB_b, nI_add, L_add1, L_add2, nI_cl, L_cl, bI_T, bI_F, eq_self, not_true_eq_false, not_false_eq_true, hn.m1, ↓bd_of e3, leftI, aheadN, hv, if_false, Bool.false_eq_true, Bool.false_and, Int32.sub_zero, Int32.add_zero]
          | true =>
            rw [hv] at e3
            have hp := all_pos hw hi hv
            by_cases c : i < t
            · have c' : decide (i < t) = true := decide_eq_true c
              simp (disch := omega) only [↓lt_eq, ↓reduceIte, ↓un1, ↓un2, ↓un3, ↓un4, ↓bd_some, ↓bind_some', ↓sel_l, ↓sel_r, C1T, C1F, C2T, C2F, C3T, C3F, D1T, D1F, D2T, D2F, D3T, D3F, E1T, E1F, E2T, E2F, E3T, E3F, G1T, G1F, G2T, G2F, G3F, inb_T, inb_L, isB_0, isB_1, isB_b, nI_add, L_add1, L_add2, nI_cl, L_cl, bI_T, bI_F, eq_self, not_true_eq_false, not_false_eq_true, hn.m1, ↓bd_of e3, leftI, aheadN, hv, if_true, Bool.true_and, c', e4]
            · have c' : decide (i < t) = false := decide_eq_false c
              simp (disch := omega) only [↓lt_eq, ↓reduceIte, ↓un1, ↓un2, ↓un3, ↓un4, ↓bd_some, ↓bind_some', ↓sel_l, ↓sel_r, C1T, C1F, C2T, C2F, C3T, C3F, D1T, D1F, D2T, D2F, D3T, D3F, E1T, E1F, E2T, E2F, E3T, E3F, G1T, G1F, G2T, G2F, G3F, inb_T, inb_L, isB_0, isB_1, isB_b, nI_add, L_add1, L_add2, nI_cl, L_cl, bI_T, bI_F, eq_self, not_true_eq_false, not_false_eq_true, hn.m1, ↓bd_of e3, leftI, aheadN, hv, if_true, Bool.true_and, c', e4, Int32.add_zero, if_false, Bool.false_eq_true]
        · rintro ⟨a, b, v, s⟩ ⟨q0, q1, q2, q3⟩
          simp only at q0 q1 q2 q3
          subst q0 q1 q2 q3
          have e3 := er t ht
          have e4 : s 261 (7 + t) = _ := hm.g_ld ht (by omega)
          refine ⟨(leftI h d (hN h), nI (aheadN h t (hN h)), s), ?_, ?_⟩
          · unfold f_X12_bill_L81
            simp (disch := omega) only [↓lt_eq, ↓reduceIte, ↓un1, ↓un2, ↓un3, ↓un4, ↓bd_some, ↓bind_some', ↓sel_l, ↓sel_r, C1T, C1F, C2T, C2F, C3T, C3F, D1T, D1F, D2T, D2F, D3T, D3F, E1T, E1F, E2T, E2F, E3T, E3F, G1T, G1F, G2T, G2F, G3F, inb_T, inb_L, isB_0, isB_1, isB_b, nI_add, L_add1, L_add2, nI_cl, L_cl, bI_T, bI_F, eq_self, not_true_eq_false, not_false_eq_true, hn.m1]
          · unfold billI
            cases hr : runsH h t with
            | false =>
              rw [hr] at e3
              simp (disch := omega) only [↓lt_eq, ↓reduceIte, ↓un1, ↓un2, ↓un3, ↓un4, ↓bd_some, ↓bind_some', ↓sel_l, ↓sel_r, C1T, C1F, C2T, C2F, C3T, C3F, D1T, D1F, D2T, D2F, D3T, D3F, E1T, E1F, E2T, E2F, E3T, E3F, G1T, G1F, G2T, G2F, G3F, inb_T, inb_L, isB_0, isB_1, isB_b, nI_add, L_add1, L_add2, nI_cl, L_cl, bI_T, bI_F, eq_self, not_true_eq_false, not_false_eq_true, ↓bd_of e3, if_false, Bool.false_eq_true]
              exact Ok.ret ⟨rfl, rfl⟩
            | true =>
              rw [hr] at e3
              have hp := all_pos hw ht hr
              by_cases c : leftI h d (hN h) ≤ nI (aheadN h t (hN h))
              · simp (disch := omega) only [↓lt_eq, ↓reduceIte, ↓un1, ↓un2, ↓un3, ↓un4, ↓bd_some, ↓bind_some', ↓sel_l, ↓sel_r, C1T, C1F, C2T, C2F, C3T, C3F, D1T, D1F, D2T, D2F, D3T, D3F, E1T, E1F, E2T, E2F, E3T, E3F, G1T, G1F, G2T, G2F, G3F, inb_T, inb_L, isB_0, isB_1, isB_b, nI_add, L_add1, L_add2, nI_cl, L_cl, bI_T, bI_F, eq_self, not_true_eq_false, not_false_eq_true, ↓bd_of e3, e4, c, if_true]
                exact Ok.ret ⟨rfl, rfl⟩
              · simp (disch := omega) only [↓lt_eq, ↓reduceIte, ↓un1, ↓un2, ↓un3, ↓un4, ↓bd_some, ↓bind_some', ↓sel_l, ↓sel_r, C1T, C1F, C2T, C2F, C3T, C3F, D1T, D1F, D2T, D2F, D3T, D3F, E1T, E1F, E2T, E2F, E3T, E3F, G1T, G1F, G2T, G2F, G3F, inb_T, inb_L, isB_0, isB_1, isB_b, nI_add, L_add1, L_add2, nI_cl, L_cl, bI_T, bI_F, eq_self, not_true_eq_false, not_false_eq_true, ↓bd_of e3, e4, c, if_true]
                exact Ok.ret ⟨rfl, rfl⟩
