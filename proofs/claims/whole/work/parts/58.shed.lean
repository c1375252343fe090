/-! shed -/
theorem mneg : ((-1000000 : Int32) < 0) = True := by decide
def othH (h : Hs) (t : Nat) : Nat := hOn h &&& (hOn h ^^^ 2 ^ t)
def shF (o : Option Nat) : Nat := match o with
  | none => 7
  | some b => bcU b 6
def shW (o : Option Nat) : Nat := match o with
  | none => 0
  | some b => b
def shM (o : Option Nat) : Int32 := match o with
  | none => -1000000
  | some b => nI b
def shB (h : Hs) (t n : Nat) : Nat → Option Nat
  | 0 => none
  | i + 1 => if i &&& (i ^^^ othH h t) = 0 ∧ bcU i 6 < shF (shB h t n i) ∧ (runsH h t && stayH (offH h i) (hPg h t) n) = true then some i else shB h t n i
theorem shB_lt (h : Hs) (t n : Nat) : ∀ i b, shB h t n i = some b → b < i
  | 0, b, q => by cases q
  | i + 1, b, q => by
    unfold shB at q
    split at q
    · cases q; omega
    · have := shB_lt h t n i b q; omega
theorem shF_le {o : Option Nat} (h : ∀ b, o = some b → b < 64) : shF o ≤ 7 := by
  cases o with
  | none => exact Nat.le_refl 7
  | some b => have := bcU_6 b (h b rfl); show bcU b 6 ≤ 7; omega
theorem oth64 : ∀ t, t < 6 → ∀ a, a < 64 → a &&& (a ^^^ 2 ^ t) < 64 := by decide +kernel
theorem and64 : ∀ m, m < 64 → ∀ q, q < 64 → m &&& (m ^^^ q) < 64 := by decide +kernel
theorem X_shedLoop {σ : St} {h : Hs} (hn : INow σ h) {t n : Nat} (ht : t < hN h) (hd : n ≤ 30) : Ok (loopF (f_X11_shed_L56 (nI t) (nI n) (nI (othH h t))) 5000 ((7 : Int32), (0 : Int32), (0 : Int32), σ)) (fun v => v.1 = nI (shF (shB h t n 64)) ∧ v.2.1 = nI (shW (shB h t n 64)) ∧ Fr (blk 27) σ v.2.2) := by
  have hw := hn.1
  have hN6 := hw.2.1
  have h64 := hw.on64
  have hmm := hn.2.2.1
  have ho : othH h t < 64 := oth64 t (by omega) _ h64
  refine loop_n (fun i (x : Int32 × Int32 × Int32 × St) => x.1 = nI (shF (shB h t n i)) ∧ x.2.1 = nI (shW (shB h t n i)) ∧ x.2.2.1 = nI i ∧ Fr (blk 27) σ x.2.2.2) _ 64 5000 _ (by omega) ⟨rfl, rfl, rfl, Fr.rf⟩ ?_ ?_
  · rintro i ⟨a, b, v, s⟩ hi ⟨q0, q1, q2, q3⟩
    simp only at q0 q1 q2 q3
    subst q0 q1 q2
    have hb := shF_le (o := shB h t n i) (fun b q => by have := shB_lt h t n i b q; omega)
    have hbi := bcU_6 i hi
    have hz := and_not i hi _ ho
    have hz6 := and64 i hi _ ho
    have eb := J_bc hi
    have es : shB h t n (i + 1) = if i &&& (i ^^^ othH h t) = 0 ∧ bcU i 6 < shF (shB h t n i) ∧ (runsH h t && stayH (offH h i) (hPg h t) n) = true then some i else shB h t n i := rfl
    by_cases c1 : i &&& (i ^^^ othH h t) = 0
    · have hsub := off_sub t (by omega) i hi _ h64 c1
      by_cases c2 : bcU i 6 < shF (shB h t n i)
      · obtain ⟨⟨b, u⟩, e2, rfl, k5⟩ := X_runsWithout (hn.keep (Keep.fr27 q3)).2.1 hw ht hi (n := n) (by omega) hmm hsub
        cases c3 : (runsH h t && stayH (offH h i) (hPg h t) n) with
        | false =>
          rw [c3] at e2
          rw [if_neg (by rintro ⟨-, -, z⟩; rw [c3] at z; cases z)] at es
          refine ⟨(nI (shF (shB h t n i)), nI (shW (shB h t n i)), nI (i + 1), u), ?_, ?_, ?_, rfl, q3.tr k5⟩
          · unfold f_X11_shed_L56
            simp (disch := omega) only [↓lt_eq, ↓reduceIte, ↓un1, ↓un2, ↓un3, ↓un4, ↓bd_some, ↓bind_some', ↓sel_l, ↓sel_r, C1T, C1F, C2T, C2F, C3T, C3F, D1T, D1F, D2T, D2F, D3T, D3F, E1T, E1F, E2T, E2F, E3T, E3F, G1T, G1F, G2T, G2F, G3F, inb_T, inb_L, isB_0, isB_1, isB_b, nI_add, L_add1, L_add2, nI_cl, L_cl, bI_T, bI_F, eq_self, not_true_eq_false, not_false_eq_true, hz, c1, ↓bd_of (eb s), ↓bd_of e2]
          · rw [es]
          · rw [es]
        | true =>
          rw [c3] at e2
          rw [if_pos ⟨c1, c2, c3⟩] at es
          refine ⟨(nI (bcU i 6), nI i, nI (i + 1), u), ?_, ?_, ?_, rfl, q3.tr k5⟩
          · unfold f_X11_shed_L56
            simp (disch := omega) only [↓lt_eq, ↓reduceIte, ↓un1, ↓un2, ↓un3, ↓un4, ↓bd_some, ↓bind_some', ↓sel_l, ↓sel_r, C1T, C1F, C2T, C2F, C3T, C3F, D1T, D1F, D2T, D2F, D3T, D3F, E1T, E1F, E2T, E2F, E3T, E3F, G1T, G1F, G2T, G2F, G3F, inb_T, inb_L, isB_0, isB_1, isB_b, nI_add, L_add1, L_add2, nI_cl, L_cl, bI_T, bI_F, eq_self, not_true_eq_false, not_false_eq_true, hz, c1, ↓bd_of (eb s), ↓bd_of e2, ↓bd_of (eb u)]
          · rw [es]; rfl
          · rw [es]; rfl
      · rw [if_neg (by rintro ⟨-, z, -⟩; exact c2 z)] at es
        refine ⟨(nI (shF (shB h t n i)), nI (shW (shB h t n i)), nI (i + 1), s), ?_, ?_, ?_, rfl, q3⟩
        · unfold f_X11_shed_L56
          simp (disch := omega) only [↓lt_eq, ↓reduceIte, ↓un1, ↓un2, ↓un3, ↓un4, ↓bd_some, ↓bind_some', ↓sel_l, ↓sel_r, C1T, C1F, C2T, C2F, C3T, C3F, D1T, D1F, D2T, D2F, D3T, D3F, E1T, E1F, E2T, E2F, E3T, E3F, G1T, G1F, G2T, G2F, G3F, inb_T, inb_L, isB_0, isB_1, isB_b, nI_add, L_add1, L_add2, nI_cl, L_cl, bI_T, bI_F, eq_self, not_true_eq_false, not_false_eq_true, hz, c1, ↓bd_of (eb s)]
        · rw [es]
        · rw [es]
    · rw [if_neg (by rintro ⟨z, -, -⟩; exact c1 z)] at es
      have c1' : ¬ nI (i &&& (i ^^^ othH h t)) = 0 := fun q => c1 ((nI_z (by omega)).mp q)
      refine ⟨(nI (shF (shB h t n i)), nI (shW (shB h t n i)), nI (i + 1), s), ?_, ?_, ?_, rfl, q3⟩
      · unfold f_X11_shed_L56
        simp (disch := omega) only [↓lt_eq, ↓reduceIte, ↓un1, ↓un2, ↓un3, ↓un4, ↓bd_some, ↓bind_some', ↓sel_l, ↓sel_r, C1T, C1F, C2T, C2F, C3T, C3F, D1T, D1F, D2T, D2F, D3T, D3F, E1T, E1F, E2T, E2F, E3T, E3F, G1T, G1F, G2T, G2F, G3F, inb_T, inb_L, isB_0, isB_1, isB_b, nI_add, L_add1, L_add2, nI_cl, L_cl, bI_T, bI_F, eq_self, not_true_eq_false, not_false_eq_true, hz, c1']
      · rw [es]
      · rw [es]
  · rintro ⟨a, b, v, s⟩ ⟨q0, q1, q2, q3⟩
    simp only at q0 q1 q2 q3
    subst q0 q1 q2
    refine ⟨(nI (shF (shB h t n 64)), nI (shW (shB h t n 64)), s), ?_, rfl, rfl, q3⟩
    unfold f_X11_shed_L56
    simp (disch := omega) only [↓lt_eq, ↓reduceIte, ↓un1, ↓un2, ↓un3, ↓un4, ↓bd_some, ↓bind_some', ↓sel_l, ↓sel_r, C1T, C1F, C2T, C2F, C3T, C3F, D1T, D1F, D2T, D2F, D3T, D3F, E1T, E1F, E2T, E2F, E3T, E3F, G1T, G1F, G2T, G2F, G3F, inb_T, inb_L, isB_0, isB_1, isB_b, nI_add, L_add1, L_add2, nI_cl, L_cl, bI_T, bI_F, eq_self, not_true_eq_false, not_false_eq_true]
theorem M_shedLoop {σ : St} {h : Hs} (hn : INow σ h) {t n : Nat} (ht : t < hN h) (hd : n ≤ 30) : Ok (loopF (f_X12_shed_L52 (nI t) (nI n) (nI (othH h t))) 5000 ((-1000000 : Int32), (0 : Int32), σ)) (fun v => v.1 = shM (shB h t n 64) ∧ FrM 729 σ v.2) := by
  have hw := hn.1
  have hN6 := hw.2.1
  have h64 := hw.on64
  have hmm := hn.2.2.1
  have hp := hn.pos ht
  have ho : othH h t < 64 := oth64 t (by omega) _ h64
  have hpg := (hw.2.2.2.2.2.2.2 t ht).1
  refine loop_n (fun i (x : Int32 × Int32 × St) => x.1 = shM (shB h t n i) ∧ x.2.1 = nI i ∧ FrM 729 σ x.2.2) _ 64 5000 _ (by omega) ⟨rfl, rfl, FrM.rf⟩ ?_ ?_
  · rintro i ⟨a, v, s⟩ hi ⟨q0, q2, q3⟩
    simp only at q0 q2 q3
    subst q0 q2
    have hbi := bcU_6 i hi
    have hz := and_not i hi _ ho
    have hz6 := and64 i hi _ ho
    have es : shB h t n (i + 1) = if i &&& (i ^^^ othH h t) = 0 ∧ bcU i 6 < shF (shB h t n i) ∧ (runsH h t && stayH (offH h i) (hPg h t) n) = true then some i else shB h t n i := rfl
    have hm := ((hn.keep (Keep.frM q3)).2.2.2.1 hp).2
    have e0 : f_X12_runs (0 : Int32) (nI t) s = _ := M_runs (b := 0) hm hw (by omega) ht
    obtain ⟨s1, e1, k1, k2⟩ := M_try hm hw
    obtain ⟨s2, e3, k3, k4⟩ := M_offs k1 hw hi
    have e4 : s2 260 (12 + t) = nI (hPg h t) := by
      rw [k4.2 (12 + t) (by omega), k2.2 (12 + t) (by omega)]; exact hm.g_pg ht (by omega)
    obtain ⟨⟨b, u⟩, e2, rfl, k5⟩ := M_isLiveFor k3 (hw.off _) (l := hPg h t) (n := n) hpg (by omega) (by show hMin h + n ≤ 20000; omega)
    have k6 := q3.tr (k2.tr (k4.tr k5))
    have c1f : ¬ i &&& (i ^^^ othH h t) = 0 → ¬ nI (i &&& (i ^^^ othH h t)) = 0 := fun c1 q => c1 ((nI_z (by omega)).mp q)
    cases hB : shB h t n i with
    | none =>
      rw [hB] at es
      have hF7 : shF none = 7 := rfl
      by_cases c1 : i &&& (i ^^^ othH h t) = 0
      · cases c3 : runsH h t with
        | false =>
          rw [c3] at e0
          rw [if_neg (by rintro ⟨-, -, z⟩; rw [c3] at z; cases z)] at es
          refine ⟨(-1000000, nI (i + 1), s), ?_, by rw [es]; rfl, rfl, q3⟩
          unfold f_X12_shed_L52
          simp (disch := omega) only [↓lt_eq, ↓reduceIte, ↓un1, ↓un2, ↓un3, ↓un4, ↓bd_some, ↓bind_some', ↓sel_l, ↓sel_r, C1T, C1F, C2T, C2F, C3T, C3F, D1T, D1F, D2T, D2F, D3T, D3F, E1T, E1F, E2T, E2F, E3T, E3F, G1T, G1F, G2T, G2F, G3F, inb_T, inb_L, isB_0, isB_1, isB_b, nI_add, L_add1, L_add2, nI_cl, L_cl, bI_T, bI_F, eq_self, not_true_eq_false, not_false_eq_true, hz, c1, shM, mneg, ↓bd_of e0]
        | true =>
          rw [c3] at e0
          cases c4 : stayH (offH h i) (hPg h t) n with
          | false =>
            rw [c4] at e2
            rw [if_neg (by rintro ⟨-, -, z⟩; rw [c3, c4] at z; cases z)] at es
            refine ⟨(-1000000, nI (i + 1), u), ?_, by rw [es]; rfl, rfl, k6⟩
            unfold f_X12_shed_L52
            simp (disch := omega) only [↓lt_eq, ↓reduceIte, ↓un1, ↓un2, ↓un3, ↓un4, ↓bd_some, ↓bind_some', ↓sel_l, ↓sel_r, C1T, C1F, C2T, C2F, C3T, C3F, D1T, D1F, D2T, D2F, D3T, D3F, E1T, E1F, E2T, E2F, E3T, E3F, G1T, G1F, G2T, G2F, G3F, inb_T, inb_L, isB_0, isB_1, isB_b, nI_add, L_add1, L_add2, nI_cl, L_cl, bI_T, bI_F, eq_self, not_true_eq_false, not_false_eq_true, hz, c1, shM, mneg, ↓bd_of e0, ↓bind_of e1, ↓bind_of e3, e4, ↓bd_of e2]
          | true =>
            rw [c4] at e2
            rw [if_pos ⟨c1, by omega, by rw [c3, c4]; rfl⟩] at es
            refine ⟨(nI i, nI (i + 1), u), ?_, by rw [es]; rfl, rfl, k6⟩
            unfold f_X12_shed_L52
            simp (disch := omega) only [↓lt_eq, ↓reduceIte, ↓un1, ↓un2, ↓un3, ↓un4, ↓bd_some, ↓bind_some', ↓sel_l, ↓sel_r, C1T, C1F, C2T, C2F, C3T, C3F, D1T, D1F, D2T, D2F, D3T, D3F, E1T, E1F, E2T, E2F, E3T, E3F, G1T, G1F, G2T, G2F, G3F, inb_T, inb_L, isB_0, isB_1, isB_b, nI_add, L_add1, L_add2, nI_cl, L_cl, bI_T, bI_F, eq_self, not_true_eq_false, not_false_eq_true, hz, c1, shM, mneg, ↓bd_of e0, ↓bind_of e1, ↓bind_of e3, e4, ↓bd_of e2]
      · have c1' := c1f c1
        rw [if_neg (by rintro ⟨z, -, -⟩; exact c1 z)] at es
        refine ⟨(-1000000, nI (i + 1), s), ?_, by rw [es]; rfl, rfl, q3⟩
        unfold f_X12_shed_L52
        simp (disch := omega) only [↓lt_eq, ↓reduceIte, ↓un1, ↓un2, ↓un3, ↓un4, ↓bd_some, ↓bind_some', ↓sel_l, ↓sel_r, C1T, C1F, C2T, C2F, C3T, C3F, D1T, D1F, D2T, D2F, D3T, D3F, E1T, E1F, E2T, E2F, E3T, E3F, G1T, G1F, G2T, G2F, G3F, inb_T, inb_L, isB_0, isB_1, isB_b, nI_add, L_add1, L_add2, nI_cl, L_cl, bI_T, bI_F, eq_self, not_true_eq_false, not_false_eq_true, hz, c1', shM, mneg]
    | some b =>
      rw [hB] at es
      have hb64 : b < 64 := by have := shB_lt h t n i b hB; omega
      have hb6 := bcU_6 b hb64
      have hF7 : shF (some b) = bcU b 6 := rfl
      have ebi := M_bits hi
      have ebb := M_bits hb64
      by_cases c2 : bcU i 6 < bcU b 6
      · by_cases c1 : i &&& (i ^^^ othH h t) = 0
        · cases c3 : runsH h t with
          | false =>
            rw [c3] at e0
            rw [if_neg (by rintro ⟨-, -, z⟩; rw [c3] at z; cases z)] at es
            refine ⟨(nI b, nI (i + 1), s), ?_, by rw [es]; rfl, rfl, q3⟩
            unfold f_X12_shed_L52
            simp (disch := omega) only [↓lt_eq, ↓reduceIte, ↓un1, ↓un2, ↓un3, ↓un4, ↓bd_some, ↓bind_some', ↓sel_l, ↓sel_r, C1T, C1F, C2T, C2F, C3T, C3F, D1T, D1F, D2T, D2F, D3T, D3F, E1T, E1F, E2T, E2F, E3T, E3F, G1T, G1F, G2T, G2F, G3F, inb_T, inb_L, isB_0, isB_1, isB_b, nI_add, L_add1, L_add2, nI_cl, L_cl, bI_T, bI_F, eq_self, not_true_eq_false, not_false_eq_true, hz, c1, shM, ↓bd_of (ebi s), ↓bd_of (ebb s), ↓bd_of e0]
          | true =>
            rw [c3] at e0
            cases c4 : stayH (offH h i) (hPg h t) n with
            | false =>
              rw [c4] at e2
              rw [if_neg (by rintro ⟨-, -, z⟩; rw [c3, c4] at z; cases z)] at es
              refine ⟨(nI b, nI (i + 1), u), ?_, by rw [es]; rfl, rfl, k6⟩
              unfold f_X12_shed_L52
              simp (disch := omega) only [↓lt_eq, ↓reduceIte, ↓un1, ↓un2, ↓un3, ↓un4, ↓bd_some, ↓bind_some', ↓sel_l, ↓sel_r, C1T, C1F, C2T, C2F, C3T, C3F, D1T, D1F, D2T, D2F, D3T, D3F, E1T, E1F, E2T, E2F, E3T, E3F, G1T, G1F, G2T, G2F, G3F, inb_T, inb_L, isB_0, isB_1, isB_b, nI_add, L_add1, L_add2, nI_cl, L_cl, bI_T, bI_F, eq_self, not_true_eq_false, not_false_eq_true, hz, c1, shM, ↓bd_of (ebi s), ↓bd_of (ebb s), ↓bd_of e0, ↓bind_of e1, ↓bind_of e3, e4, ↓bd_of e2]
            | true =>
              rw [c4] at e2
              rw [if_pos ⟨c1, by omega, by rw [c3, c4]; rfl⟩] at es
              refine ⟨(nI i, nI (i + 1), u), ?_, by rw [es]; rfl, rfl, k6⟩
              unfold f_X12_shed_L52
              simp (disch := omega) only [↓lt_eq, ↓reduceIte, ↓un1, ↓un2, ↓un3, ↓un4, ↓bd_some, ↓bind_some', ↓sel_l, ↓sel_r, C1T, C1F, C2T, C2F, C3T, C3F, D1T, D1F, D2T, D2F, D3T, D3F, E1T, E1F, E2T, E2F, E3T, E3F, G1T, G1F, G2T, G2F, G3F, inb_T, inb_L, isB_0, isB_1, isB_b, nI_add, L_add1, L_add2, nI_cl, L_cl, bI_T, bI_F, eq_self, not_true_eq_false, not_false_eq_true, hz, c1, shM, ↓bd_of (ebi s), ↓bd_of (ebb s), ↓bd_of e0, ↓bind_of e1, ↓bind_of e3, e4, ↓bd_of e2]
        · have c1' := c1f c1
          rw [if_neg (by rintro ⟨z, -, -⟩; exact c1 z)] at es
          refine ⟨(nI b, nI (i + 1), s), ?_, by rw [es]; rfl, rfl, q3⟩
          unfold f_X12_shed_L52
          simp (disch := omega) only [↓lt_eq, ↓reduceIte, ↓un1, ↓un2, ↓un3, ↓un4, ↓bd_some, ↓bind_some', ↓sel_l, ↓sel_r, C1T, C1F, C2T, C2F, C3T, C3F, D1T, D1F, D2T, D2F, D3T, D3F, E1T, E1F, E2T, E2F, E3T, E3F, G1T, G1F, G2T, G2F, G3F, inb_T, inb_L, isB_0, isB_1, isB_b, nI_add, L_add1, L_add2, nI_cl, L_cl, bI_T, bI_F, eq_self, not_true_eq_false, not_false_eq_true, hz, c1', shM, ↓bd_of (ebi s), ↓bd_of (ebb s)]
      · rw [if_neg (by rintro ⟨-, z, -⟩; exact c2 z)] at es
        refine ⟨(nI b, nI (i + 1), s), ?_, by rw [es]; rfl, rfl, q3⟩
        unfold f_X12_shed_L52
        by_cases c1 : i &&& (i ^^^ othH h t) = 0
        · simp (disch := omega) only [↓lt_eq, ↓reduceIte, ↓un1, ↓un2, ↓un3, ↓un4, ↓bd_some, ↓bind_some', ↓sel_l, ↓sel_r, C1T, C1F, C2T, C2F, C3T, C3F, D1T, D1F, D2T, D2F, D3T, D3F, E1T, E1F, E2T, E2F, E3T, E3F, G1T, G1F, G2T, G2F, G3F, inb_T, inb_L, isB_0, isB_1, isB_b, nI_add, L_add1, L_add2, nI_cl, L_cl, bI_T, bI_F, eq_self, not_true_eq_false, not_false_eq_true, hz, c1, shM, ↓bd_of (ebi s), ↓bd_of (ebb s)]
        · have c1' := c1f c1
          simp (disch := omega) only [↓lt_eq, ↓reduceIte, ↓un1, ↓un2, ↓un3, ↓un4, ↓bd_some, ↓bind_some', ↓sel_l, ↓sel_r, C1T, C1F, C2T, C2F, C3T, C3F, D1T, D1F, D2T, D2F, D3T, D3F, E1T, E1F, E2T, E2F, E3T, E3F, G1T, G1F, G2T, G2F, G3F, inb_T, inb_L, isB_0, isB_1, isB_b, nI_add, L_add1, L_add2, nI_cl, L_cl, bI_T, bI_F, eq_self, not_true_eq_false, not_false_eq_true, hz, c1', shM, ↓bd_of (ebi s), ↓bd_of (ebb s)]
  · rintro ⟨a, v, s⟩ ⟨q0, q2, q3⟩
    simp only at q0 q2 q3
    subst q0 q2
    refine ⟨(shM (shB h t n 64), s), ?_, rfl, q3⟩
    unfold f_X12_shed_L52
    simp (disch := omega) only [↓lt_eq, ↓reduceIte, ↓un1, ↓un2, ↓un3, ↓un4, ↓bd_some, ↓bind_some', ↓sel_l, ↓sel_r, C1T, C1F, C2T, C2F, C3T, C3F, D1T, D1F, D2T, D2F, D3T, D3F, E1T, E1F, E2T, E2F, E3T, E3F, G1T, G1F, G2T, G2F, G3F, inb_T, inb_L, isB_0, isB_1, isB_b, nI_add, L_add1, L_add2, nI_cl, L_cl, bI_T, bI_F, eq_self, not_true_eq_false, not_false_eq_true]
theorem step_shed (x1 x2 x3 : Int32) : Step Inv (f_X11_shed x1 x2 x3) (f_X12_shed x1 x2 x3) := by
  intro σ hI
  obtain ⟨hR, hP, hF, hT, h, o, n, ac, im, hn, ha, hi⟩ := id hI
  have hN4 := hn.N6
  rcases idx x1 (hN h) hN4 with q | ⟨t, ht, rfl⟩
  · refine step_same (-1000001) hI ?_ ?_
    · unfold f_X11_shed
      simp (disch := omega) only [↓lt_eq, ↓reduceIte, ↓un1, ↓un2, ↓un3, ↓un4, ↓bd_some, ↓bind_some', ↓sel_l, ↓sel_r, C1T, C1F, C2T, C2F, C3T, C3F, D1T, D1F, D2T, D2F, D3T, D3F, E1T, E1F, E2T, E2F, E3T, E3F, G1T, G1F, G2T, G2F, G3F, inb_T, inb_L, isB_0, isB_1, isB_b, nI_add, L_add1, L_add2, nI_cl, L_cl, bI_T, bI_F, eq_self, not_true_eq_false, not_false_eq_true, ↓bd_of (X_noThing_out hn.x2 q)]
    · unfold f_X12_shed
      simp (disch := omega) only [↓lt_eq, ↓reduceIte, ↓un1, ↓un2, ↓un3, ↓un4, ↓bd_some, ↓bind_some', ↓sel_l, ↓sel_r, C1T, C1F, C2T, C2F, C3T, C3F, D1T, D1F, D2T, D2F, D3T, D3F, E1T, E1F, E2T, E2F, E3T, E3F, G1T, G1F, G2T, G2F, G3F, inb_T, inb_L, isB_0, isB_1, isB_b, nI_add, L_add1, L_add2, nI_cl, L_cl, bI_T, bI_F, eq_self, not_true_eq_false, not_false_eq_true, ↓bd_of (M_isThing_out hn.m1 q hN4)]
  rcases rng x2 (lo := 1) (hi := 30) 1 30 (by decide) (by decide) (by omega) (by omega) with q | ⟨d, d1, d2, rfl⟩
  · refine step_same (-1000001) hI ?_ ?_
    · unfold f_X11_shed
      simp (disch := omega) only [↓lt_eq, ↓reduceIte, ↓un1, ↓un2, ↓un3, ↓un4, ↓bd_some, ↓bind_some', ↓sel_l, ↓sel_r, C1T, C1F, C2T, C2F, C3T, C3F, D1T, D1F, D2T, D2F, D3T, D3F, E1T, E1F, E2T, E2F, E3T, E3F, G1T, G1F, G2T, G2F, G3F, inb_T, inb_L, isB_0, isB_1, isB_b, nI_add, L_add1, L_add2, nI_cl, L_cl, bI_T, bI_F, eq_self, not_true_eq_false, not_false_eq_true, ↓bd_of (X_noThing_in hn.x2 ht hN4), ↓ite_out2 q]
    · unfold f_X12_shed
      simp (disch := omega) only [↓lt_eq, ↓reduceIte, ↓un1, ↓un2, ↓un3, ↓un4, ↓bd_some, ↓bind_some', ↓sel_l, ↓sel_r, C1T, C1F, C2T, C2F, C3T, C3F, D1T, D1F, D2T, D2F, D3T, D3F, E1T, E1F, E2T, E2F, E3T, E3F, G1T, G1F, G2T, G2F, G3F, inb_T, inb_L, isB_0, isB_1, isB_b, nI_add, L_add1, L_add2, nI_cl, L_cl, bI_T, bI_F, eq_self, not_true_eq_false, not_false_eq_true, ↓bd_of (M_isThing_in hn.m1 ht hN4), ↓bd_of (M_out (lo := 1) (hi := 30) (L := 1) (H := 30) (by decide) (by decide) q)]
  rcases rng x3 (lo := 0) (hi := 1) 0 1 (by decide) (by decide) (by omega) (by omega) with q | ⟨w, w1, w2, rfl⟩
  · refine step_same (-1000001) hI ?_ ?_
    · unfold f_X11_shed
      simp (disch := omega) only [↓lt_eq, ↓reduceIte, ↓un1, ↓un2, ↓un3, ↓un4, ↓bd_some, ↓bind_some', ↓sel_l, ↓sel_r, C1T, C1F, C2T, C2F, C3T, C3F, D1T, D1F, D2T, D2F, D3T, D3F, E1T, E1F, E2T, E2F, E3T, E3F, G1T, G1F, G2T, G2F, G3F, inb_T, inb_L, isB_0, isB_1, isB_b, nI_add, L_add1, L_add2, nI_cl, L_cl, bI_T, bI_F, eq_self, not_true_eq_false, not_false_eq_true, ↓bd_of (X_noThing_in hn.x2 ht hN4), ↓ite_out1 q]
    · unfold f_X12_shed
      simp (disch := omega) only [↓lt_eq, ↓reduceIte, ↓un1, ↓un2, ↓un3, ↓un4, ↓bd_some, ↓bind_some', ↓sel_l, ↓sel_r, C1T, C1F, C2T, C2F, C3T, C3F, D1T, D1F, D2T, D2F, D3T, D3F, E1T, E1F, E2T, E2F, E3T, E3F, G1T, G1F, G2T, G2F, G3F, inb_T, inb_L, isB_0, isB_1, isB_b, nI_add, L_add1, L_add2, nI_cl, L_cl, bI_T, bI_F, eq_self, not_true_eq_false, not_false_eq_true, ↓bd_of (M_isThing_in hn.m1 ht hN4), ↓bd_of (M_inn (σ := σ) (L := 1) (H := 30) (a := 1) (b := 30) (by decide) (by decide) d1 d2 (by decide)), ↓bd_of (M_out (lo := 0) (hi := 1) (L := 0) (H := 1) (by decide) (by decide) q)]
  have hw := hn.1
  have hN6 := hw.2.1
  have h64 := hw.on64
  have hb : ∀ b, shB h t d 64 = some b → b < 64 := fun b q => shB_lt h t d 64 b q
  refine step_keep (match shB h t d 64 with | none => -1000000 | some b => if w = 0 then nI (bcU b 6) else nI b) hI ?_ (fun s hk => ?_)
  · have e1 : σ 19 14 &&& ((1 : Int32) <<< (nI t &&& 31) ^^^ -1) = nI (othH h t) := by
      rw [hn.2.1.2.2.2.2.2.2.1, shl1 t (by omega), and_not _ h64 _ (Nat.lt_of_lt_of_le (Nat.pow_lt_pow_right (by decide) (show t < 6 by omega)) (by decide))]; rfl
    obtain ⟨⟨a, b, s⟩, e2, r1, r2, k1⟩ := X_shedLoop hn ht d2
    simp only at r1 r2 k1
    subst r1 r2
    unfold f_X11_shed
    simp (disch := omega) only [↓lt_eq, ↓reduceIte, ↓un1, ↓un2, ↓un3, ↓un4, ↓bd_some, ↓bind_some', ↓sel_l, ↓sel_r, C1T, C1F, C2T, C2F, C3T, C3F, D1T, D1F, D2T, D2F, D3T, D3F, E1T, E1F, E2T, E2F, E3T, E3F, G1T, G1F, G2T, G2F, G3F, inb_T, inb_L, isB_0, isB_1, isB_b, nI_add, L_add1, L_add2, nI_cl, L_cl, bI_T, bI_F, eq_self, not_true_eq_false, not_false_eq_true, ↓bd_of (X_noThing_in hn.x2 ht hN4), e1, ↓bind_of e2]
    cases hB : shB h t d 64 with
    | none =>
      simp (disch := omega) only [↓lt_eq, ↓reduceIte, ↓un1, ↓un2, ↓un3, ↓un4, ↓bd_some, ↓bind_some', ↓sel_l, ↓sel_r, C1T, C1F, C2T, C2F, C3T, C3F, D1T, D1F, D2T, D2F, D3T, D3F, E1T, E1F, E2T, E2F, E3T, E3F, G1T, G1F, G2T, G2F, G3F, inb_T, inb_L, isB_0, isB_1, isB_b, nI_add, L_add1, L_add2, nI_cl, L_cl, bI_T, bI_F, eq_self, not_true_eq_false, not_false_eq_true, shF]
      exact Ok.ret ⟨rfl, Keep.fr27 k1⟩
    | some b =>
      have := bcU_6 b (hb b hB)
      rcases (show w = 0 ∨ w = 1 by omega) with rfl | rfl
      · simp (disch := omega) only [↓lt_eq, ↓reduceIte, ↓un1, ↓un2, ↓un3, ↓un4, ↓bd_some, ↓bind_some', ↓sel_l, ↓sel_r, C1T, C1F, C2T, C2F, C3T, C3F, D1T, D1F, D2T, D2F, D3T, D3F, E1T, E1F, E2T, E2F, E3T, E3F, G1T, G1F, G2T, G2F, G3F, inb_T, inb_L, isB_0, isB_1, isB_b, nI_add, L_add1, L_add2, nI_cl, L_cl, bI_T, bI_F, eq_self, not_true_eq_false, not_false_eq_true, shF]
        exact Ok.ret ⟨rfl, Keep.fr27 k1⟩
      · simp (disch := omega) only [↓lt_eq, ↓reduceIte, ↓un1, ↓un2, ↓un3, ↓un4, ↓bd_some, ↓bind_some', ↓sel_l, ↓sel_r, C1T, C1F, C2T, C2F, C3T, C3F, D1T, D1F, D2T, D2F, D3T, D3F, E1T, E1F, E2T, E2F, E3T, E3F, G1T, G1F, G2T, G2F, G3F, inb_T, inb_L, isB_0, isB_1, isB_b, nI_add, L_add1, L_add2, nI_cl, L_cl, bI_T, bI_F, eq_self, not_true_eq_false, not_false_eq_true, shF]
        exact Ok.ret ⟨rfl, Keep.fr27 k1⟩
  · have hn := hn.keep hk
    have e0 := M_onOnes (hn.2.2.2.1 (hn.pos ht)).2 hw
    have e1 : nI (hOn h) &&& ((1 : Int32) <<< (nI t &&& 31) ^^^ -1) = nI (othH h t) := by
      rw [shl1 t (by omega), and_not _ h64 _ (Nat.lt_of_lt_of_le (Nat.pow_lt_pow_right (by decide) (show t < 6 by omega)) (by decide))]; rfl
    obtain ⟨⟨a, u⟩, e2, r1, k1⟩ := M_shedLoop hn ht d2
    simp only at r1 k1
    subst r1
    unfold f_X12_shed
    simp (disch := omega) only [↓lt_eq, ↓reduceIte, ↓un1, ↓un2, ↓un3, ↓un4, ↓bd_some, ↓bind_some', ↓sel_l, ↓sel_r, C1T, C1F, C2T, C2F, C3T, C3F, D1T, D1F, D2T, D2F, D3T, D3F, E1T, E1F, E2T, E2F, E3T, E3F, G1T, G1F, G2T, G2F, G3F, inb_T, inb_L, isB_0, isB_1, isB_b, nI_add, L_add1, L_add2, nI_cl, L_cl, bI_T, bI_F, eq_self, not_true_eq_false, not_false_eq_true, ↓bd_of (M_isThing_in hn.m1 ht hN4), ↓bd_of (M_inn (σ := s) (L := 1) (H := 30) (a := 1) (b := 30) (by decide) (by decide) d1 d2 (by decide)), ↓bd_of (M_inn (σ := s) (L := 0) (H := 1) (a := 0) (b := 1) (by decide) (by decide) w1 w2 (by decide)), ↓bd_of e0, e1, ↓bind_of e2]
    cases hB : shB h t d 64 with
    | none =>
      simp (disch := omega) only [↓lt_eq, ↓reduceIte, ↓un1, ↓un2, ↓un3, ↓un4, ↓bd_some, ↓bind_some', ↓sel_l, ↓sel_r, C1T, C1F, C2T, C2F, C3T, C3F, D1T, D1F, D2T, D2F, D3T, D3F, E1T, E1F, E2T, E2F, E3T, E3F, G1T, G1F, G2T, G2F, G3F, inb_T, inb_L, isB_0, isB_1, isB_b, nI_add, L_add1, L_add2, nI_cl, L_cl, bI_T, bI_F, eq_self, not_true_eq_false, not_false_eq_true, shM, mneg]
      exact Ok.ret ⟨rfl, Keep.frM k1⟩
    | some b =>
      have hb64 := hb b hB
      rcases (show w = 0 ∨ w = 1 by omega) with rfl | rfl
      · simp (disch := omega) only [↓lt_eq, ↓reduceIte, ↓un1, ↓un2, ↓un3, ↓un4, ↓bd_some, ↓bind_some', ↓sel_l, ↓sel_r, C1T, C1F, C2T, C2F, C3T, C3F, D1T, D1F, D2T, D2F, D3T, D3F, E1T, E1F, E2T, E2F, E3T, E3F, G1T, G1F, G2T, G2F, G3F, inb_T, inb_L, isB_0, isB_1, isB_b, nI_add, L_add1, L_add2, nI_cl, L_cl, bI_T, bI_F, eq_self, not_true_eq_false, not_false_eq_true, shM, ↓bd_of (M_bits hb64 u)]
        exact Ok.ret ⟨rfl, Keep.frM k1⟩
      · simp (disch := omega) only [↓lt_eq, ↓reduceIte, ↓un1, ↓un2, ↓un3, ↓un4, ↓bd_some, ↓bind_some', ↓sel_l, ↓sel_r, C1T, C1F, C2T, C2F, C3T, C3F, D1T, D1F, D2T, D2F, D3T, D3F, E1T, E1F, E2T, E2F, E3T, E3F, G1T, G1F, G2T, G2F, G3F, inb_T, inb_L, isB_0, isB_1, isB_b, nI_add, L_add1, L_add2, nI_cl, L_cl, bI_T, bI_F, eq_self, not_true_eq_false, not_false_eq_true, shM]
        exact Ok.ret ⟨rfl, Keep.frM k1⟩
