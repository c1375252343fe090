/-! things turned off: faulty, shed -/
theorem and_not : ∀ m, m < 64 → ∀ q, q < 64 → (nI m &&& (nI q ^^^ (-1 : Int32))) = nI (m &&& (m ^^^ q)) := by decide +kernel
theorem xor_bit : ∀ m, m < 64 → ∀ t, t < 6 → nI m ^^^ ((1 : Int32) <<< (nI t &&& 31)) = nI (m ^^^ 2 ^ t) := by decide +kernel
theorem xor_off : ∀ m, m < 64 → ∀ t, t < 6 → m.testBit t = true → m ^^^ 2 ^ t = m &&& (m ^^^ 2 ^ t) := by decide +kernel
theorem shl1 : ∀ t, t < 31 → (1 : Int32) <<< (nI t &&& 31) = nI (2 ^ t) := by decide +kernel
theorem shlB : ∀ t, t < 31 → (0 : Int32) <<< (nI t &&& 31) = 0 := by decide +kernel
theorem mask_id : ∀ n, n < 7 → ∀ m, m < 2 ^ n → maskT (fun t => m.testBit t) n = m := by decide +kernel
theorem WF.on64 {h : Hs} (hw : WF h) : hOn h < 64 := by
  have h1 := hw.2.2.2.2.2.1
  have h2 : 2 ^ hN h ≤ 2 ^ 6 := Nat.pow_le_pow_right (by decide) hw.2.1
  omega
def offH (h : Hs) (m : Nat) : Hs := setOn h (hOn h &&& (hOn h ^^^ m))
theorem WF.off {h : Hs} (hw : WF h) (m : Nat) : WF (offH h m) := hw.setOn _ (Nat.lt_of_le_of_lt Nat.and_le_left hw.2.2.2.2.2.1)
theorem off_bit (a b t : Nat) : (a &&& (a ^^^ b)).testBit t = (a.testBit t && !b.testBit t) := by
  rw [Nat.testBit_and, Nat.testBit_xor]
  cases a.testBit t <;> cases b.testBit t <;> rfl
theorem M_hasN {m t : Nat} {σ : St} (hm : m < 64) (ht : t < 6) : f_X12_has (nI m) (nI t) σ = some (bI (m.testBit t), σ) := by
  unfold f_X12_has
  simp only [bit_at m hm t ht]
  cases m.testBit t <;> simp (disch := omega) only [↓lt_eq, ↓reduceIte, ↓un1, ↓un2, ↓un3, ↓un4, ↓bd_some, ↓bind_some', ↓sel_l, ↓sel_r, C1T, C1F, C2T, C2F, C3T, C3F, D1T, D1F, D2T, D2F, D3T, D3F, E1T, E1F, E2T, E2F, E3T, E3F, G1T, G1F, G2T, G2F, G3F, inb_T, inb_L, isB_0, isB_1, isB_b, nI_add, L_add1, L_add2, nI_cl, L_cl, bI_T, bI_F, eq_self, not_true_eq_false, not_false_eq_true]
theorem M_offs {σ : St} {h : Hs} (hx : HM 729 0 σ h) (hw : WF h) {m : Nat} (hm : m < 64) : Ok (f_X12_offs (nI m) σ) (fun s => HM 729 0 s (offH h m) ∧ FrM 729 σ s) := by
  have hN6 := hw.2.1
  have hN1 : σ 261 1 = nI (hN h) := hx.2.1
  unfold f_X12_offs
  rw [lt_eq]
  refine Ok.bind (Ok.mono (Q := fun s => HM 729 0 s (offH h m) ∧ FrM 729 σ s) ?_ (fun s q => Ok.ret q))
  refine loop_n (fun i (x : Int32 × St) => x.1 = nI i ∧ (∀ b, b ≠ 260 → x.2 b = σ b) ∧ (∀ k, k < 747 ∨ 747 + i ≤ k → x.2 260 k = σ 260 k) ∧ ∀ t, t < i → x.2 260 (729 + 18 + t) = bI ((hOn h).testBit t && !m.testBit t)) _ (hN h) 5000 _ (by omega) ⟨nI_0.symm, fun _ _ => rfl, fun _ _ => rfl, fun t q => absurd q (by omega)⟩ ?_ ?_
  · rintro i ⟨v, s⟩ hi ⟨q1, q2, q3, q4⟩
    simp only at q1 q2 q3 q4
    subst q1
    have hN1 : s 261 1 = nI (hN h) := by rw [q2 261 (by omega)]; exact hN1
    have e1 := M_hasN (σ := s) hm (t := i) (by omega)
    have e2 : s 260 (747 + i) = bI (isOnH h i) := by rw [q3 (747 + i) (by omega)]; exact hx.g_on hi (by omega)
    refine ⟨(nI (i + 1), wr s 260 (747 + i) (bI ((hOn h).testBit i && !m.testBit i))), ?_, rfl, ?_, ?_, ?_⟩
    · unfold f_X12_offs_L2
      cases hv : m.testBit i <;> rw [hv] at e1 <;> simp (disch := omega) only [↓lt_eq, ↓reduceIte, ↓un1, ↓un2, ↓un3, ↓un4, ↓bd_some, ↓bind_some', ↓sel_l, ↓sel_r, C1T, C1F, C2T, C2F, C3T, C3F, D1T, D1F, D2T, D2F, D3T, D3F, E1T, E1F, E2T, E2F, E3T, E3F, G1T, G1F, G2T, G2F, G3F, inb_T, inb_L, isB_0, isB_1, isB_b, nI_add, L_add1, L_add2, nI_cl, L_cl, bI_T, bI_F, eq_self, not_true_eq_false, not_false_eq_true, hN1, ↓bd_of e1, e2, Bool.not_false, Bool.not_true, Bool.and_true, Bool.and_false, isOnH]
    · intro b hb
      simp only [wr_a hb]
      exact q2 b hb
    · intro k hk
      simp only [wr_eq]
      rw [if_neg (by omega)]
      exact q3 k (by omega)
    · intro t ht
      simp only [wr_eq]
      by_cases z : t = i
      · rw [if_pos ⟨trivial, by omega⟩, z]
      · rw [if_neg (by omega)]
        exact q4 t (by omega)
  · rintro ⟨v, s⟩ ⟨q1, q2, q3, q4⟩
    simp only at q1 q2 q3 q4
    subst q1
    have hN1 : s 261 1 = nI (hN h) := by rw [q2 261 (by omega)]; exact hN1
    refine ⟨s, ?_, ?_, fun a q _ => q2 a q, fun k q => q3 k (by omega)⟩
    · unfold f_X12_offs_L2
      simp (disch := omega) only [↓lt_eq, ↓reduceIte, ↓un1, ↓un2, ↓un3, ↓un4, ↓bd_some, ↓bind_some', ↓sel_l, ↓sel_r, C1T, C1F, C2T, C2F, C3T, C3F, D1T, D1F, D2T, D2F, D3T, D3F, E1T, E1F, E2T, E2F, E3T, E3F, G1T, G1F, G2T, G2F, G3F, inb_T, inb_L, isB_0, isB_1, isB_b, nI_add, L_add1, L_add2, nI_cl, L_cl, bI_T, bI_F, eq_self, not_true_eq_false, not_false_eq_true, hN1]
    · refine hx.setOn hw _ (q2 261 (by omega)) (fun k q => q3 (729 + k) (by omega)) (fun t ht => ?_)
      rw [off_bit]
      exact q4 t ht
theorem M_onOnes {σ : St} {h : Hs} (hx : HM 0 0 σ h) (hw : WF h) : f_X12_onOnes σ = some (nI (hOn h), σ) := by
  have hN6 := hw.2.1
  have hN1 : σ 261 1 = nI (hN h) := hx.2.1
  have hm : nI (hOn h) = orT (isOnH h) (hN h) := by
    rw [orT_mask _ _ hN6]
    congr 1
    exact (mask_id (hN h) (by omega) (hOn h) hw.2.2.2.2.2.1).symm
  rw [hm]
  unfold f_X12_onOnes
  simp only [lt_eq]
  have hloop := loop_up (body := f_X12_onOnes_L4) (r := (orT (isOnH h) (hN h), σ)) (hN h) 5000 (fun i => (orT (isOnH h) i, nI i, σ)) (by omega) (fun i hi => by
    have e1 : σ 260 (18 + i) = bI (isOnH h i) := hx.g_on hi (by omega)
    unfold f_X12_onOnes_L4
    cases hv : isOnH h i <;> rw [hv] at e1 <;> simp (disch := omega) only [↓lt_eq, ↓reduceIte, ↓un1, ↓un2, ↓un3, ↓un4, ↓bd_some, ↓bind_some', ↓sel_l, ↓sel_r, C1T, C1F, C2T, C2F, C3T, C3F, D1T, D1F, D2T, D2F, D3T, D3F, E1T, E1F, E2T, E2F, E3T, E3F, G1T, G1F, G2T, G2F, G3F, inb_T, inb_L, isB_0, isB_1, isB_b, nI_add, L_add1, L_add2, nI_cl, L_cl, bI_T, bI_F, eq_self, not_true_eq_false, not_false_eq_true, hN1, e1, orT, hv, shlB i (by omega), if_true, if_false, Bool.false_eq_true]) (by
    unfold f_X12_onOnes_L4
    simp (disch := omega) only [↓lt_eq, ↓reduceIte, ↓un1, ↓un2, ↓un3, ↓un4, ↓bd_some, ↓bind_some', ↓sel_l, ↓sel_r, C1T, C1F, C2T, C2F, C3T, C3F, D1T, D1F, D2T, D2F, D3T, D3F, E1T, E1F, E2T, E2F, E3T, E3F, G1T, G1F, G2T, G2F, G3F, inb_T, inb_L, isB_0, isB_1, isB_b, nI_add, L_add1, L_add2, nI_cl, L_cl, bI_T, bI_F, eq_self, not_true_eq_false, not_false_eq_true, hN1])
  have e : ((0 : Int32), (0 : Int32), σ) = (orT (isOnH h) 0, nI 0, σ) := by rw [nI_0]; rfl
  rw [e, hloop]
  rfl
theorem X_toggle {a : Nat} {σ : St} {h : Hs} (hx : HX a σ h) (hw : WF h) {t : Nat} (ht : t < 6) : f_X3_toggle a (nI t) σ = some (wr σ a 14 (nI (hOn h ^^^ 2 ^ t))) := by
  unfold f_X3_toggle
  rw [lt_eq, hx.2.2.2.2.2.2.1, xor_bit _ hw.on64 _ ht]
theorem step_faulty (x1 x2 : Int32) : Step Inv (f_X11_faulty x1 x2) (f_X12_faulty x1 x2) := by
  intro σ hI
  obtain ⟨hR, hP, hF, hT, h, o, n, ac, im, hn, ha, hi⟩ := id hI
  have hL4 := hn.L4
  rcases idx x1 (hL h) hL4 with q | ⟨l, hl, rfl⟩
  · refine step_same (-1000001) hI ?_ ?_
    · unfold f_X11_faulty
      simp (disch := omega) only [↓lt_eq, ↓reduceIte, ↓un1, ↓un2, ↓un3, ↓un4, ↓bd_some, ↓bind_some', ↓sel_l, ↓sel_r, C1T, C1F, C2T, C2F, C3T, C3F, D1T, D1F, D2T, D2F, D3T, D3F, E1T, E1F, E2T, E2F, E3T, E3F, G1T, G1F, G2T, G2F, G3F, inb_T, inb_L, isB_0, isB_1, isB_b, nI_add, L_add1, L_add2, nI_cl, L_cl, bI_T, bI_F, eq_self, not_true_eq_false, not_false_eq_true, ↓bd_of (X_noLine_out hn.x1 q)]
    · unfold f_X12_faulty
      simp (disch := omega) only [↓lt_eq, ↓reduceIte, ↓un1, ↓un2, ↓un3, ↓un4, ↓bd_some, ↓bind_some', ↓sel_l, ↓sel_r, C1T, C1F, C2T, C2F, C3T, C3F, D1T, D1F, D2T, D2F, D3T, D3F, E1T, E1F, E2T, E2F, E3T, E3F, G1T, G1F, G2T, G2F, G3F, inb_T, inb_L, isB_0, isB_1, isB_b, nI_add, L_add1, L_add2, nI_cl, L_cl, bI_T, bI_F, eq_self, not_true_eq_false, not_false_eq_true, ↓bd_of (M_isLine_out hn.m0 q hL4)]
  rcases rng x2 (lo := 1) (hi := 30) 1 30 (by decide) (by decide) (by omega) (by omega) with q | ⟨d, d1, d2, rfl⟩
  · refine step_same (-1000001) hI ?_ ?_
    · unfold f_X11_faulty
      simp (disch := omega) only [↓lt_eq, ↓reduceIte, ↓un1, ↓un2, ↓un3, ↓un4, ↓bd_some, ↓bind_some', ↓sel_l, ↓sel_r, C1T, C1F, C2T, C2F, C3T, C3F, D1T, D1F, D2T, D2F, D3T, D3F, E1T, E1F, E2T, E2F, E3T, E3F, G1T, G1F, G2T, G2F, G3F, inb_T, inb_L, isB_0, isB_1, isB_b, nI_add, L_add1, L_add2, nI_cl, L_cl, bI_T, bI_F, eq_self, not_true_eq_false, not_false_eq_true, ↓bd_of (X_noLine_in hn.x1 hl hL4), ↓ite_out1 q]
    · unfold f_X12_faulty
      simp (disch := omega) only [↓lt_eq, ↓reduceIte, ↓un1, ↓un2, ↓un3, ↓un4, ↓bd_some, ↓bind_some', ↓sel_l, ↓sel_r, C1T, C1F, C2T, C2F, C3T, C3F, D1T, D1F, D2T, D2F, D3T, D3F, E1T, E1F, E2T, E2F, E3T, E3F, G1T, G1F, G2T, G2F, G3F, inb_T, inb_L, isB_0, isB_1, isB_b, nI_add, L_add1, L_add2, nI_cl, L_cl, bI_T, bI_F, eq_self, not_true_eq_false, not_false_eq_true, ↓bd_of (M_isLine_in hn.m0 hl hL4), ↓bd_of (M_out (lo := 1) (hi := 30) (L := 1) (H := 30) (by decide) (by decide) q)]
  have hl4 : l < 4 := Nat.lt_of_lt_of_le hl hn.1.1
  have hN6 := hn.1.2.1
  have hmm := hn.2.2.1
  have hw := hn.1
  have h64 := hw.on64
  refine step_keep (orT (fun t => isOnH h t && stayH (offH h (2 ^ t)) l d) (hN h)) hI ?_ (fun s hk => ?_)
  · unfold f_X11_faulty
    simp (disch := omega) only [↓lt_eq, ↓reduceIte, ↓un1, ↓un2, ↓un3, ↓un4, ↓bd_some, ↓bind_some', ↓sel_l, ↓sel_r, C1T, C1F, C2T, C2F, C3T, C3F, D1T, D1F, D2T, D2F, D3T, D3F, E1T, E1F, E2T, E2F, E3T, E3F, G1T, G1F, G2T, G2F, G3F, inb_T, inb_L, isB_0, isB_1, isB_b, nI_add, L_add1, L_add2, nI_cl, L_cl, bI_T, bI_F, eq_self, not_true_eq_false, not_false_eq_true, ↓bd_of (X_noLine_in hn.x1 hl hL4)]
    refine Ok.bind (loop_n (fun i (x : Int32 × Int32 × St) => x.1 = orT (fun t => isOnH h t && stayH (offH h (2 ^ t)) l d) i ∧ x.2.1 = nI i ∧ Fr (blk 27) σ x.2.2) _ (hN h) 5000 _ (by omega) ⟨rfl, nI_0.symm, Fr.rf⟩ ?_ ?_)
    · rintro i ⟨w, v, s⟩ hi ⟨q0, q1, q3⟩
      simp only at q0 q1 q3
      subst q0 q1
      have hn := hn.keep (Keep.fr27 q3)
      have e1 := X_isOn hn.2.1 hw (t := i) (by omega)
      cases hv : isOnH h i with
      | false =>
        rw [hv] at e1
        refine ⟨(_, nI (i + 1), s), ?_, rfl, rfl, q3⟩
        unfold f_X11_faulty_L27
        simp (disch := omega) only [↓lt_eq, ↓reduceIte, ↓un1, ↓un2, ↓un3, ↓un4, ↓bd_some, ↓bind_some', ↓sel_l, ↓sel_r, C1T, C1F, C2T, C2F, C3T, C3F, D1T, D1F, D2T, D2F, D3T, D3F, E1T, E1F, E2T, E2F, E3T, E3F, G1T, G1F, G2T, G2F, G3F, inb_T, inb_L, isB_0, isB_1, isB_b, nI_add, L_add1, L_add2, nI_cl, L_cl, bI_T, bI_F, eq_self, not_true_eq_false, not_false_eq_true, hn.x2, ↓bd_of e1, orT, hv, Bool.false_and, or_zero, if_false, Bool.false_eq_true]
      | true =>
        rw [hv] at e1
        obtain ⟨t, e, k1, k2⟩ := X_try hn.2.1 hw
        have e3 := X_toggle k1 hw (t := i) (by omega)
        have k3 := k1.setOn (hOn h ^^^ 2 ^ i)
        have k4 : setOn h (hOn h ^^^ 2 ^ i) = offH h (2 ^ i) := congrArg (setOn h) (xor_off _ h64 i (by omega) hv)
        rw [k4] at k3
        obtain ⟨⟨b, u⟩, e2, rfl, k5⟩ := X_staysLive k3 (hw.off _) (l := l) (n := d) hl (by omega) (by show hMin h + d ≤ 20000; omega)
        refine ⟨(_, nI (i + 1), u), ?_, rfl, rfl, q3.tr (k2.tr ((Fr.w1 (by unfold blk; omega)).tr k5))⟩
        unfold f_X11_faulty_L27
        cases hs : stayH (offH h (2 ^ i)) l d <;> rw [hs] at e2 <;> simp (disch := omega) only [↓lt_eq, ↓reduceIte, ↓un1, ↓un2, ↓un3, ↓un4, ↓bd_some, ↓bind_some', ↓sel_l, ↓sel_r, C1T, C1F, C2T, C2F, C3T, C3F, D1T, D1F, D2T, D2F, D3T, D3F, E1T, E1F, E2T, E2F, E3T, E3F, G1T, G1F, G2T, G2F, G3F, inb_T, inb_L, isB_0, isB_1, isB_b, nI_add, L_add1, L_add2, nI_cl, L_cl, bI_T, bI_F, eq_self, not_true_eq_false, not_false_eq_true, hn.x2, ↓bd_of e1, ↓bind_of e, ↓bind_of e3, ↓bd_of e2, orT, hv, hs, Bool.true_and, or_zero, if_false, if_true, Bool.false_eq_true]
    · rintro ⟨w, v, s⟩ ⟨q0, q1, q3⟩
      simp only at q0 q1 q3
      subst q0 q1
      have hn := hn.keep (Keep.fr27 q3)
      refine ⟨(orT (fun t => isOnH h t && stayH (offH h (2 ^ t)) l d) (hN h), s), ?_, ?_⟩
      · unfold f_X11_faulty_L27
        simp (disch := omega) only [↓lt_eq, ↓reduceIte, ↓un1, ↓un2, ↓un3, ↓un4, ↓bd_some, ↓bind_some', ↓sel_l, ↓sel_r, C1T, C1F, C2T, C2F, C3T, C3F, D1T, D1F, D2T, D2F, D3T, D3F, E1T, E1F, E2T, E2F, E3T, E3F, G1T, G1F, G2T, G2F, G3F, inb_T, inb_L, isB_0, isB_1, isB_b, nI_add, L_add1, L_add2, nI_cl, L_cl, bI_T, bI_F, eq_self, not_true_eq_false, not_false_eq_true, hn.x2]
      · simp (disch := omega) only [↓lt_eq, ↓reduceIte, ↓un1, ↓un2, ↓un3, ↓un4, ↓bd_some, ↓bind_some', ↓sel_l, ↓sel_r, C1T, C1F, C2T, C2F, C3T, C3F, D1T, D1F, D2T, D2F, D3T, D3F, E1T, E1F, E2T, E2F, E3T, E3F, G1T, G1F, G2T, G2F, G3F, inb_T, inb_L, isB_0, isB_1, isB_b, nI_add, L_add1, L_add2, nI_cl, L_cl, bI_T, bI_F, eq_self, not_true_eq_false, not_false_eq_true]
        exact Ok.ret ⟨rfl, Keep.fr27 q3⟩
  · have hn := hn.keep hk
    unfold f_X12_faulty
    simp (disch := omega) only [↓lt_eq, ↓reduceIte, ↓un1, ↓un2, ↓un3, ↓un4, ↓bd_some, ↓bind_some', ↓sel_l, ↓sel_r, C1T, C1F, C2T, C2F, C3T, C3F, D1T, D1F, D2T, D2F, D3T, D3F, E1T, E1F, E2T, E2F, E3T, E3F, G1T, G1F, G2T, G2F, G3F, inb_T, inb_L, isB_0, isB_1, isB_b, nI_add, L_add1, L_add2, nI_cl, L_cl, bI_T, bI_F, eq_self, not_true_eq_false, not_false_eq_true, ↓bd_of (M_isLine_in hn.m0 hl hL4), ↓bd_of (M_inn (σ := s) (L := 1) (H := 30) (a := 1) (b := 30) (by decide) (by decide) d1 d2 (by decide))]
    refine Ok.bind (loop_n (fun i (x : Int32 × Int32 × St) => x.1 = orT (fun t => isOnH h t && stayH (offH h (2 ^ t)) l d) i ∧ x.2.1 = nI i ∧ FrM 729 s x.2.2) _ (hN h) 5000 _ (by omega) ⟨rfl, nI_0.symm, FrM.rf⟩ ?_ ?_)
    · rintro i ⟨w, v, s⟩ hi ⟨q0, q1, q3⟩
      simp only at q0 q1 q3
      subst q0 q1
      have hn := hn.keep (Keep.frM q3)
      have hm := (hn.2.2.2.1 (by omega)).2
      have e1 : s 260 (18 + i) = _ := hm.g_on hi (by omega)
      cases hv : isOnH h i with
      | false =>
        rw [hv] at e1
        refine ⟨(_, nI (i + 1), s), ?_, rfl, rfl, q3⟩
        unfold f_X12_faulty_L28
        simp (disch := omega) only [↓lt_eq, ↓reduceIte, ↓un1, ↓un2, ↓un3, ↓un4, ↓bd_some, ↓bind_some', ↓sel_l, ↓sel_r, C1T, C1F, C2T, C2F, C3T, C3F, D1T, D1F, D2T, D2F, D3T, D3F, E1T, E1F, E2T, E2F, E3T, E3F, G1T, G1F, G2T, G2F, G3F, inb_T, inb_L, isB_0, isB_1, isB_b, nI_add, L_add1, L_add2, nI_cl, L_cl, bI_T, bI_F, eq_self, not_true_eq_false, not_false_eq_true, hn.m1, e1, orT, hv, Bool.false_and, or_zero, if_false, Bool.false_eq_true]
      | true =>
        rw [hv] at e1
        obtain ⟨t, e, k1, k2⟩ := M_try hm hw
        have hp : 2 ^ i < 64 := Nat.lt_of_lt_of_le (Nat.pow_lt_pow_right (by decide) (show i < 6 by omega)) (by decide)
        obtain ⟨t2, e3, k3, k4⟩ := M_offs k1 hw hp
        obtain ⟨⟨b, u⟩, e2, rfl, k5⟩ := M_isLiveFor k3 (hw.off _) (l := l) (n := d) hl (by omega) (by show hMin h + d ≤ 20000; omega)
        have e3 : f_X12_offs ((1 : Int32) <<< (nI i &&& 31)) t = some t2 := by rw [shl1 i (by omega)]; exact e3
        refine ⟨(_, nI (i + 1), u), ?_, rfl, rfl, q3.tr (k2.tr (k4.tr k5))⟩
        unfold f_X12_faulty_L28
        cases hs : stayH (offH h (2 ^ i)) l d <;> rw [hs] at e2 <;> simp (disch := omega) only [↓lt_eq, ↓reduceIte, ↓un1, ↓un2, ↓un3, ↓un4, ↓bd_some, ↓bind_some', ↓sel_l, ↓sel_r, C1T, C1F, C2T, C2F, C3T, C3F, D1T, D1F, D2T, D2F, D3T, D3F, E1T, E1F, E2T, E2F, E3T, E3F, G1T, G1F, G2T, G2F, G3F, inb_T, inb_L, isB_0, isB_1, isB_b, nI_add, L_add1, L_add2, nI_cl, L_cl, bI_T, bI_F, eq_self, not_true_eq_false, not_false_eq_true, hn.m1, e1, ↓bind_of e, ↓bind_of e3, ↓bd_of e2, orT, hv, hs, Bool.true_and, or_zero, if_false, if_true, Bool.false_eq_true]
    · rintro ⟨w, v, s⟩ ⟨q0, q1, q3⟩
      simp only at q0 q1 q3
      subst q0 q1
      have hn := hn.keep (Keep.frM q3)
      refine ⟨(orT (fun t => isOnH h t && stayH (offH h (2 ^ t)) l d) (hN h), s), ?_, ?_⟩
      · unfold f_X12_faulty_L28
        simp (disch := omega) only [↓lt_eq, ↓reduceIte, ↓un1, ↓un2, ↓un3, ↓un4, ↓bd_some, ↓bind_some', ↓sel_l, ↓sel_r, C1T, C1F, C2T, C2F, C3T, C3F, D1T, D1F, D2T, D2F, D3T, D3F, E1T, E1F, E2T, E2F, E3T, E3F, G1T, G1F, G2T, G2F, G3F, inb_T, inb_L, isB_0, isB_1, isB_b, nI_add, L_add1, L_add2, nI_cl, L_cl, bI_T, bI_F, eq_self, not_true_eq_false, not_false_eq_true, hn.m1]
      · simp (disch := omega) only [↓lt_eq, ↓reduceIte, ↓un1, ↓un2, ↓un3, ↓un4, ↓bd_some, ↓bind_some', ↓sel_l, ↓sel_r, C1T, C1F, C2T, C2F, C3T, C3F, D1T, D1F, D2T, D2F, D3T, D3F, E1T, E1F, E2T, E2F, E3T, E3F, G1T, G1F, G2T, G2F, G3F, inb_T, inb_L, isB_0, isB_1, isB_b, nI_add, L_add1, L_add2, nI_cl, L_cl, bI_T, bI_F, eq_self, not_true_eq_false, not_false_eq_true]
        exact Ok.ret ⟨rfl, Keep.frM q3⟩
