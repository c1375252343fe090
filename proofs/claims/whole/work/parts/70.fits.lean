/-! what fits: the reference, and both -/
theorem M_rates {σ : St} {h : Hs} (hn : INow σ h) {l n i r : Nat} {T : Nat → Int32} (hl : l < hL h) (hr : r < 8) (hn1 : n ≤ 12) (hin : i + n ≤ 40) (hT : ∀ k, k < n → σ 265 (40 * r + i + k) = T k) : Ok (loopF (f_X12_fits_L160 (nI l) (nI r) (nI i) (nI n) (nI 1)) 5000 ((0 : Int32), (1 : Int32), σ)) (fun v => v.1 = accI (fun k => soH (setRt h l k) l T n) 1 20 ∧ FrM 729 σ v.2) := by
  have hw := hn.1
  have hmm := hn.2.2.1
  have hp : 0 < hL h := by omega
  have hl4 : l < 4 := Nat.lt_of_lt_of_le hl hw.1
  refine loop_n (fun j (x : Int32 × Int32 × St) => x.1 = accI (fun k => soH (setRt h l k) l T n) 1 j ∧ x.2.1 = nI (1 + j) ∧ FrM 729 σ x.2.2) _ 20 5000 _ (by omega) ⟨rfl, rfl, FrM.rf⟩ ?_ ?_
  · rintro j ⟨a, v, s⟩ hj ⟨q0, q1, q3⟩
    simp only at q0 q1 q3
    subst q0 q1
    obtain ⟨s1, e1, k1, k2⟩ := M_try ((hn.keep (Keep.frM q3)).2.2.2.1 hp).2 hw
    have k3 := k1.setRt (k := 729 + (8 + l)) hw l (1 + j) hl4 (by omega)
    obtain ⟨⟨b, u⟩, e3, rfl, k5⟩ := M_isSo k3 (hw.setRt l (1 + j) (by omega)) (l := l) (n := n) (i := i) (r := r) (T := T) hl hr hn1 hin hmm (fun k hk => by
      rw [wr_a (by omega), k2.1 _ (by omega) (by omega), q3.1 _ (by omega) (by omega)]; exact hT k hk)
    refine ⟨(accI (fun k => soH (setRt h l k) l T n) 1 (j + 1), nI (1 + (j + 1)), u), ?_, rfl, rfl, q3.tr (k2.tr ((FrM.w1 (by omega) (by omega)).tr k5))⟩
    have ej : 1 + j + 1 = 1 + (j + 1) := by omega
    unfold f_X12_fits_L160
    cases hs : soH (setRt h l (1 + j)) l T n <;> rw [hs] at e3 <;> simp (disch := omega) only [↓lt_eq, ↓reduceIte, ↓un1, ↓un2, ↓un3, ↓un4, ↓bd_some, ↓bind_some', ↓sel_l, ↓sel_r, C1T, C1F, C2T, C2F, C3T, C3F, D1T, D1F, D2T, D2F, D3T, D3F, E1T, E1F, E2T, E2F, E3T, E3F, G1T, G1F, G2T, G2F, G3F, inb_T, inb_L, isB_0, isB_1, isB_b, nI_add, L_add1, L_add2, nI_cl, L_cl, bI_T, bI_F, eq_self, not_true_eq_false, not_false_eq_true, ↓bind_of e1, ↓bd_of e3, accI, hs, if_false, if_true, Bool.false_eq_true, ej]
  · rintro ⟨a, v, s⟩ ⟨q0, q1, q3⟩
    simp only at q0 q1 q3
    subst q0 q1
    refine ⟨(accI (fun k => soH (setRt h l k) l T n) 1 20, s), ?_, rfl, q3⟩
    unfold f_X12_fits_L160
    simp (disch := omega) only [↓lt_eq, ↓reduceIte, ↓un1, ↓un2, ↓un3, ↓un4, ↓bd_some, ↓bind_some', ↓sel_l, ↓sel_r, C1T, C1F, C2T, C2F, C3T, C3F, D1T, D1F, D2T, D2F, D3T, D3F, E1T, E1F, E2T, E2F, E3T, E3F, G1T, G1F, G2T, G2F, G3F, inb_T, inb_L, isB_0, isB_1, isB_b, nI_add, L_add1, L_add2, nI_cl, L_cl, bI_T, bI_F, eq_self, not_true_eq_false, not_false_eq_true]
theorem M_heatsFit {σ : St} {h : Hs} (hn : INow σ h) {l n i r : Nat} {T : Nat → Int32} (hl : l < hL h) (hr : r < 8) (hn1 : n ≤ 12) (hin : i + n ≤ 40) (hT : ∀ k, k < n → σ 265 (40 * r + i + k) = T k) : Ok (loopF (f_X12_fits_L160 (nI l) (nI r) (nI i) (nI n) (nI 2)) 5000 ((0 : Int32), (0 : Int32), σ)) (fun v => v.1 = accI (fun k => soH (setHt h l k) l T n) 0 10 ∧ FrM 729 σ v.2) := by
  have hw := hn.1
  have hmm := hn.2.2.1
  have hp : 0 < hL h := by omega
  have hl4 : l < 4 := Nat.lt_of_lt_of_le hl hw.1
  refine loop_n (fun j (x : Int32 × Int32 × St) => x.1 = accI (fun k => soH (setHt h l k) l T n) 0 j ∧ x.2.1 = nI (0 + j) ∧ FrM 729 σ x.2.2) _ 10 5000 _ (by omega) ⟨rfl, rfl, FrM.rf⟩ ?_ ?_
  · rintro j ⟨a, v, s⟩ hj ⟨q0, q1, q3⟩
    simp only at q0 q1 q3
    subst q0 q1
    obtain ⟨s1, e1, k1, k2⟩ := M_try ((hn.keep (Keep.frM q3)).2.2.2.1 hp).2 hw
    have k3 := k1.setHt (k := 729 + l) hw l (0 + j) hl4 (by omega)
    obtain ⟨⟨b, u⟩, e3, rfl, k5⟩ := M_isSo k3 (hw.setHt l (0 + j) (by omega)) (l := l) (n := n) (i := i) (r := r) (T := T) hl hr hn1 hin hmm (fun k hk => by
      rw [wr_a (by omega), k2.1 _ (by omega) (by omega), q3.1 _ (by omega) (by omega)]; exact hT k hk)
    refine ⟨(accI (fun k => soH (setHt h l k) l T n) 0 (j + 1), nI (0 + (j + 1)), u), ?_, rfl, rfl, q3.tr (k2.tr ((FrM.w1 (by omega) (by omega)).tr k5))⟩
    have ej : 0 + j + 1 = 0 + (j + 1) := by omega
    unfold f_X12_fits_L160
    cases hs : soH (setHt h l (0 + j)) l T n <;> rw [hs] at e3 <;> simp (disch := omega) only [↓lt_eq, ↓reduceIte, ↓un1, ↓un2, ↓un3, ↓un4, ↓bd_some, ↓bind_some', ↓sel_l, ↓sel_r, C1T, C1F, C2T, C2F, C3T, C3F, D1T, D1F, D2T, D2F, D3T, D3F, E1T, E1F, E2T, E2F, E3T, E3F, G1T, G1F, G2T, G2F, G3F, inb_T, inb_L, isB_0, isB_1, isB_b, nI_add, L_add1, L_add2, nI_cl, L_cl, bI_T, bI_F, eq_self, not_true_eq_false, not_false_eq_true, ↓bind_of e1, ↓bd_of e3, accI, hs, if_false, if_true, Bool.false_eq_true, ej]
  · rintro ⟨a, v, s⟩ ⟨q0, q1, q3⟩
    simp only at q0 q1 q3
    subst q0 q1
    refine ⟨(accI (fun k => soH (setHt h l k) l T n) 0 10, s), ?_, rfl, q3⟩
    unfold f_X12_fits_L160
    simp (disch := omega) only [↓lt_eq, ↓reduceIte, ↓un1, ↓un2, ↓un3, ↓un4, ↓bd_some, ↓bind_some', ↓sel_l, ↓sel_r, C1T, C1F, C2T, C2F, C3T, C3F, D1T, D1F, D2T, D2F, D3T, D3F, E1T, E1F, E2T, E2F, E3T, E3F, G1T, G1F, G2T, G2F, G3F, inb_T, inb_L, isB_0, isB_1, isB_b, nI_add, L_add1, L_add2, nI_cl, L_cl, bI_T, bI_F, eq_self, not_true_eq_false, not_false_eq_true]
/-- the told part has one number that is another for a while -/
def FrT (c : Nat) (σ s : St) : Prop := (∀ b, b ≠ 260 → b ≠ 261 → b ≠ 273 → s b = σ b) ∧ (∀ k, k < 729 → s 260 k = σ 260 k) ∧ ∀ q, q ≠ c → s 261 q = σ 261 q
theorem FrT.rf {c : Nat} {σ : St} : FrT c σ σ := ⟨fun _ _ _ _ => rfl, fun _ _ => rfl, fun _ _ => rfl⟩
theorem FrT.tr {c : Nat} {σ s t : St} (h1 : FrT c σ s) (h2 : FrT c s t) : FrT c σ t := ⟨fun b q1 q2 q3 => (h2.1 b q1 q2 q3).trans (h1.1 b q1 q2 q3), fun k q => (h2.2.1 k q).trans (h1.2.1 k q), fun k q => (h2.2.2 k q).trans (h1.2.2 k q)⟩
theorem FrT.frM {c : Nat} {σ s : St} (h : FrM 729 σ s) : FrT c σ s := ⟨fun b q1 _ q3 => h.1 b q1 q3, fun k q => h.2 k (by omega), fun q _ => by rw [h.1 261 (by omega) (by omega)]⟩
theorem FrT.w {c : Nat} {σ : St} {v : Int32} : FrT c σ (wr σ 261 c v) := ⟨fun b _ q2 _ => wr_a q2, fun k _ => by rw [wr_a (by omega)], fun q hq => wr_k hq⟩
theorem FrT.end {c : Nat} {σ s : St} {v : Int32} (h : FrT c σ s) (e : σ 261 c = v) : Keep σ (wr s 261 c v) := by
  refine ⟨fun b q => ?_, fun k q => ?_, fun k q => ?_⟩
  · by_cases z : b = 261
    · subst z
      funext q
      by_cases z2 : q = c
      · rw [z2, wr_same, e]
      · rw [wr_k z2]; exact h.2.2 q z2
    · rw [wr_a z]; exact h.1 b (by omega) z (by omega)
  · rw [wr_a (by omega)]; exact h.2.1 k q
  · rw [wr_a (by omega), h.1 259 (by omega) (by omega) (by omega)]
/-- a trial while the told number c is another: as if it were the old one, then the new one -/
theorem M_tryT {σ s : St} {h : Hs} {c : Nat} {v : Int32} (hm : HM 0 0 σ h) (hw : WF h) (hf : FrT c σ s) (hc : c < 13) (e : σ 261 c = v) : ∃ u, f_X12_copies (0 : Int32) (729 : Int32) s = some u ∧ HM 729 0 (wr u 261 c v) h ∧ FrM 729 s u := by
  obtain ⟨u, e1, k1, k2, k3⟩ := M_copies (b := 0) (c := 729) (σ := s) (by omega) (by omega) (by omega)
  refine ⟨u, e1, hm.moved hw (fun k hk => ?_) (fun q hq => ?_), fun a q _ => k2 a q, fun k q => k3 k (by omega)⟩
  · rw [wr_a (by omega), k1 k hk, hf.2.1 _ (by omega)]
  · rw [Nat.zero_add]
    by_cases z : q = c
    · rw [z, wr_same, e]
    · rw [wr_k z, k2 261 (by omega), hf.2.2 q z]
theorem M_sorts {σ : St} {h : Hs} (hn : INow σ h) {l n i r : Nat} {T : Nat → Int32} (hl : l < hL h) (hr : r < 8) (hn1 : n ≤ 12) (hin : i + n ≤ 40) (hT : ∀ k, k < n → σ 265 (40 * r + i + k) = T k) : Ok (f_X12_sorts (nI l) (nI r) (nI i) (nI n) σ) (fun v => v.1 = accI (fun k => soH (kindH h l k) l T n) 1 5 ∧ Keep σ v.2) := by
  have hw := hn.1
  have hmm := hn.2.2.1
  have hp : 0 < hL h := by omega
  have hl4 : l < 4 := Nat.lt_of_lt_of_le hl hw.1
  have hm := (hn.2.2.2.1 hp).2
  have hkd := hw.2.2.2.2.2.2.1 l hl
  have e0 : σ 261 (3 + l) = nI (hKd h l) := hm.g_kd hl (by omega)
  unfold f_X12_sorts
  simp (disch := omega) only [↓lt_eq, ↓reduceIte, ↓un1, ↓un2, ↓un3, ↓un4, ↓bd_some, ↓bind_some', ↓sel_l, ↓sel_r, C1T, C1F, C2T, C2F, C3T, C3F, D1T, D1F, D2T, D2F, D3T, D3F, E1T, E1F, E2T, E2F, E3T, E3F, G1T, G1F, G2T, G2F, G3F, inb_T, inb_L, isB_0, isB_1, isB_b, nI_add, L_add1, L_add2, nI_cl, L_cl, bI_T, bI_F, eq_self, not_true_eq_false, not_false_eq_true, e0]
  refine Ok.bind (loop_n (fun j (x : Int32 × Int32 × St) => x.1 = accI (fun k => soH (kindH h l k) l T n) 1 j ∧ x.2.1 = nI (1 + j) ∧ FrT (3 + l) σ x.2.2) _ 5 5000 _ (by omega) ⟨rfl, rfl, FrT.rf⟩ ?_ ?_)
  · rintro j ⟨a, v, s⟩ hj ⟨q0, q1, q3⟩
    simp only at q0 q1 q3
    subst q0 q1
    obtain ⟨u, e1, k1, k2⟩ := M_tryT hm hw q3 (by omega) e0
    have e2 : u 260 (4 + l) = nI (hDd h l) := by rw [k2.2 _ (by omega), q3.2.1 _ (by omega)]; exact hm.g_dd hl (by omega)
    have hdd : kdDd h l (1 + j) ≤ 3 := by
      unfold kdDd
      split
      · omega
      · split <;> omega
    have k3 : HM 729 0 (wr (wr u 260 (733 + l) (nI (kdDd h l (1 + j)))) 261 (3 + l) (nI (1 + j))) (kindH h l (1 + j)) := by
      have z := (k1.setDd (k := 733 + l) hw l (kdDd h l (1 + j)) hl4 (by omega)).setKd (k := 3 + l) (hw.setDd l _ hdd) l (1 + j) hl4 (by omega)
      refine z.frame ?_ ?_
      · rw [wr_a (show 260 ≠ 261 by omega), wr_a (show 260 ≠ 261 by omega)]
        funext q
        by_cases y : q = 733 + l
        · rw [y, wr_same, wr_same]
        · rw [wr_k y, wr_k y, wr_a (show 260 ≠ 261 by omega)]
      · funext q
        by_cases y : q = 3 + l
        · rw [y, wr_same, wr_same]
        · rw [wr_k y, wr_k y, wr_a (by omega), wr_a (by omega), wr_k y]
    have k4 : FrT (3 + l) u (wr (wr u 260 (733 + l) (nI (kdDd h l (1 + j)))) 261 (3 + l) (nI (1 + j))) := FrT.tr (FrT.frM (FrM.w1 (by omega) (by omega))) FrT.w
    obtain ⟨⟨b, t⟩, e3, rfl, k5⟩ := M_isSo k3 (kind_WF hw hl (by omega) (by omega)) (l := l) (n := n) (i := i) (r := r) (T := T) hl hr hn1 hin hmm (fun k hk => by
      rw [wr_a (by omega), wr_a (by omega), k2.1 _ (by omega) (by omega), q3.1 _ (by omega) (by omega) (by omega)]; exact hT k hk)
    refine ⟨(accI (fun k => soH (kindH h l k) l T n) 1 (j + 1), nI (1 + (j + 1)), t), ?_, rfl, rfl, q3.tr ((FrT.frM k2).tr (k4.tr (FrT.frM k5)))⟩
    have ej : 1 + j + 1 = 1 + (j + 1) := by omega
    unfold f_X12_sorts_L16
    unfold kdDd at e3
    by_cases c1 : hDd h l = 0
    · rw [if_pos (Or.inl c1)] at e3
      cases hs : soH (kindH h l (1 + j)) l T n <;> rw [hs] at e3 <;> simp (disch := omega) only [↓lt_eq, ↓reduceIte, ↓un1, ↓un2, ↓un3, ↓un4, ↓bd_some, ↓bind_some', ↓sel_l, ↓sel_r, C1T, C1F, C2T, C2F, C3T, C3F, D1T, D1F, D2T, D2F, D3T, D3F, E1T, E1F, E2T, E2F, E3T, E3F, G1T, G1F, G2T, G2F, G3F, inb_T, inb_L, isB_0, isB_1, isB_b, nI_add, L_add1, L_add2, nI_cl, L_cl, bI_T, bI_F, eq_self, not_true_eq_false, not_false_eq_true, ↓bind_of e1, e2, ↓bd_of e3, accI, hs, if_false, if_true, Bool.false_eq_true, ej]
    · by_cases c2 : 1 + j = hKd h l
      · rw [if_pos (Or.inr c2)] at e3
        cases hs : soH (kindH h l (1 + j)) l T n <;> rw [hs] at e3 <;> simp (disch := omega) only [↓lt_eq, ↓reduceIte, ↓un1, ↓un2, ↓un3, ↓un4, ↓bd_some, ↓bind_some', ↓sel_l, ↓sel_r, C1T, C1F, C2T, C2F, C3T, C3F, D1T, D1F, D2T, D2F, D3T, D3F, E1T, E1F, E2T, E2F, E3T, E3F, G1T, G1F, G2T, G2F, G3F, inb_T, inb_L, isB_0, isB_1, isB_b, nI_add, L_add1, L_add2, nI_cl, L_cl, bI_T, bI_F, eq_self, not_true_eq_false, not_false_eq_true, ↓bind_of e1, e2, ↓bd_of e3, accI, hs, if_false, if_true, Bool.false_eq_true, ej]
      · rw [if_neg (by omega)] at e3
        by_cases c5 : 1 + j = 5
        · rw [if_pos c5] at e3
          have e3 : f_X12_isSo (nI l) (nI r) (nI i) (nI n) (wr (wr u 260 (733 + l) 3) 261 (3 + l) (nI (1 + j))) = _ := e3
          cases hs : soH (kindH h l (1 + j)) l T n <;> rw [hs] at e3 <;> simp (disch := omega) only [↓lt_eq, ↓reduceIte, ↓un1, ↓un2, ↓un3, ↓un4, ↓bd_some, ↓bind_some', ↓sel_l, ↓sel_r, C1T, C1F, C2T, C2F, C3T, C3F, D1T, D1F, D2T, D2F, D3T, D3F, E1T, E1F, E2T, E2F, E3T, E3F, G1T, G1F, G2T, G2F, G3F, inb_T, inb_L, isB_0, isB_1, isB_b, nI_add, L_add1, L_add2, nI_cl, L_cl, bI_T, bI_F, eq_self, not_true_eq_false, not_false_eq_true, ↓bind_of e1, e2, ↓bd_of e3, accI, hs, if_false, if_true, Bool.false_eq_true, ej]
        · rw [if_neg c5] at e3
          have e3 : f_X12_isSo (nI l) (nI r) (nI i) (nI n) (wr (wr u 260 (733 + l) 1) 261 (3 + l) (nI (1 + j))) = _ := e3
          cases hs : soH (kindH h l (1 + j)) l T n <;> rw [hs] at e3 <;> simp (disch := omega) only [↓lt_eq, ↓reduceIte, ↓un1, ↓un2, ↓un3, ↓un4, ↓bd_some, ↓bind_some', ↓sel_l, ↓sel_r, C1T, C1F, C2T, C2F, C3T, C3F, D1T, D1F, D2T, D2F, D3T, D3F, E1T, E1F, E2T, E2F, E3T, E3F, G1T, G1F, G2T, G2F, G3F, inb_T, inb_L, isB_0, isB_1, isB_b, nI_add, L_add1, L_add2, nI_cl, L_cl, bI_T, bI_F, eq_self, not_true_eq_false, not_false_eq_true, ↓bind_of e1, e2, ↓bd_of e3, accI, hs, if_false, if_true, Bool.false_eq_true, ej]
  · rintro ⟨a, v, s⟩ ⟨q0, q1, q3⟩
    simp only at q0 q1 q3
    subst q0 q1
    refine ⟨(accI (fun k => soH (kindH h l k) l T n) 1 5, s), ?_, ?_⟩
    · unfold f_X12_sorts_L16
      simp (disch := omega) only [↓lt_eq, ↓reduceIte, ↓un1, ↓un2, ↓un3, ↓un4, ↓bd_some, ↓bind_some', ↓sel_l, ↓sel_r, C1T, C1F, C2T, C2F, C3T, C3F, D1T, D1F, D2T, D2F, D3T, D3F, E1T, E1F, E2T, E2F, E3T, E3F, G1T, G1F, G2T, G2F, G3F, inb_T, inb_L, isB_0, isB_1, isB_b, nI_add, L_add1, L_add2, nI_cl, L_cl, bI_T, bI_F, eq_self, not_true_eq_false, not_false_eq_true]
    · simp (disch := omega) only [↓lt_eq, ↓reduceIte, ↓un1, ↓un2, ↓un3, ↓un4, ↓bd_some, ↓bind_some', ↓sel_l, ↓sel_r, C1T, C1F, C2T, C2F, C3T, C3F, D1T, D1F, D2T, D2F, D3T, D3F, E1T, E1F, E2T, E2F, E3T, E3F, G1T, G1F, G2T, G2F, G3F, inb_T, inb_L, isB_0, isB_1, isB_b, nI_add, L_add1, L_add2, nI_cl, L_cl, bI_T, bI_F, eq_self, not_true_eq_false, not_false_eq_true]
      exact Ok.ret ⟨rfl, q3.end e0⟩
theorem M_mainsThat {σ : St} {h : Hs} (hn : INow σ h) {l n i r : Nat} {T : Nat → Int32} (hl : l < hL h) (hr : r < 8) (hn1 : n ≤ 12) (hin : i + n ≤ 40) (hT : ∀ k, k < n → σ 265 (40 * r + i + k) = T k) (w : Bool) : Ok (f_X12_mainsThat (nI l) (nI r) (nI i) (nI n) (bI w) σ) (fun v => v.1 = (if w then mnL (fun k => soH (setMain h k) l T n) 60 else nI (mnC (fun k => soH (setMain h k) l T n) 60)) ∧ Keep σ v.2) := by
  have hw := hn.1
  have hmm := hn.2.2.1
  have hp : 0 < hL h := by omega
  have hm := (hn.2.2.2.1 hp).2
  have e0 : σ 261 2 = nI (hMain h) := hm.2.2.1
  unfold f_X12_mainsThat
  simp (disch := omega) only [↓lt_eq, ↓reduceIte, ↓un1, ↓un2, ↓un3, ↓un4, ↓bd_some, ↓bind_some', ↓sel_l, ↓sel_r, C1T, C1F, C2T, C2F, C3T, C3F, D1T, D1F, D2T, D2F, D3T, D3F, E1T, E1F, E2T, E2F, E3T, E3F, G1T, G1F, G2T, G2F, G3F, inb_T, inb_L, isB_0, isB_1, isB_b, nI_add, L_add1, L_add2, nI_cl, L_cl, bI_T, bI_F, eq_self, not_true_eq_false, not_false_eq_true, e0]
  refine Ok.bind (loop_n (fun j (x : Int32 × Int32 × Int32 × St) => x.1 = nI (mnC (fun k => soH (setMain h k) l T n) j) ∧ x.2.1 = mnL (fun k => soH (setMain h k) l T n) j ∧ x.2.2.1 = nI (60 - j) ∧ FrT 2 σ x.2.2.2) _ 60 5000 _ (by omega) ⟨rfl, rfl, rfl, FrT.rf⟩ ?_ ?_)
  · rintro j ⟨a, b, v, s⟩ hj ⟨q0, q1, q2, q3⟩
    simp only at q0 q1 q2 q3
    subst q0 q1 q2
    obtain ⟨u, e1, k1, k2⟩ := M_tryT hm hw q3 (by omega) e0
    have k3 : HM 729 0 (wr u 261 2 (nI (60 - j))) (setMain h (60 - j)) := by
      have z := k1.setMain (k := 2) hw (60 - j) rfl
      refine z.frame ?_ ?_
      · rw [wr_a (by omega), wr_a (by omega), wr_a (by omega)]
      · funext q
        by_cases y : q = 2
        · rw [y, wr_same, wr_same]
        · rw [wr_k y, wr_k y, wr_k y]
    obtain ⟨⟨b, t⟩, e3, rfl, k5⟩ := M_isSo k3 (hw.setMain (60 - j) (by omega)) (l := l) (n := n) (i := i) (r := r) (T := T) hl hr hn1 hin hmm (fun k hk => by
      rw [wr_a (by omega), k2.1 _ (by omega) (by omega), q3.1 _ (by omega) (by omega) (by omega)]; exact hT k hk)
    refine ⟨(nI (mnC (fun k => soH (setMain h k) l T n) (j + 1)), mnL (fun k => soH (setMain h k) l T n) (j + 1), nI (60 - (j + 1)), t), ?_, rfl, rfl, rfl, q3.tr ((FrT.frM k2).tr (FrT.w.tr (FrT.frM k5)))⟩
    unfold f_X12_mainsThat_L19
    cases hs : soH (setMain h (60 - j)) l T n <;> rw [hs] at e3 <;> simp (disch := omega) only [↓lt_eq, ↓reduceIte, ↓un1, ↓un2, ↓un3, ↓un4, ↓bd_some, ↓bind_some', ↓sel_l, ↓sel_r, C1T, C1F, C2T, C2F, C3T, C3F, D1T, D1F, D2T, D2F, D3T, D3F, E1T, E1F, E2T, E2F, E3T, E3F, G1T, G1F, G2T, G2F, G3F, inb_T, inb_L, isB_0, isB_1, isB_b, nI_add, L_add1, L_add2, nI_cl, L_cl, bI_T, bI_F, eq_self, not_true_eq_false, not_false_eq_true, ↓bind_of e1, ↓bd_of e3, mnC, mnL, hs, if_false, if_true, Bool.false_eq_true, nI_dn hj, Nat.add_zero, Int32.add_zero]
  · rintro ⟨a, b, v, s⟩ ⟨q0, q1, q2, q3⟩
    simp only at q0 q1 q2 q3
    subst q0 q1 q2
    refine ⟨(nI (mnC (fun k => soH (setMain h k) l T n) 60), mnL (fun k => soH (setMain h k) l T n) 60, s), ?_, ?_⟩
    · unfold f_X12_mainsThat_L19
      simp (disch := omega) only [↓lt_eq, ↓reduceIte, ↓un1, ↓un2, ↓un3, ↓un4, ↓bd_some, ↓bind_some', ↓sel_l, ↓sel_r, C1T, C1F, C2T, C2F, C3T, C3F, D1T, D1F, D2T, D2F, D3T, D3F, E1T, E1F, E2T, E2F, E3T, E3F, G1T, G1F, G2T, G2F, G3F, inb_T, inb_L, isB_0, isB_1, isB_b, nI_add, L_add1, L_add2, nI_cl, L_cl, bI_T, bI_F, eq_self, not_true_eq_false, not_false_eq_true]
    · cases w
      · simp (disch := omega) only [↓lt_eq, ↓reduceIte, ↓un1, ↓un2, ↓un3, ↓un4, ↓bd_some, ↓bind_some', ↓sel_l, ↓sel_r, C1T, C1F, C2T, C2F, C3T, C3F, D1T, D1F, D2T, D2F, D3T, D3F, E1T, E1F, E2T, E2F, E3T, E3F, G1T, G1F, G2T, G2F, G3F, inb_T, inb_L, isB_0, isB_1, isB_b, nI_add, L_add1, L_add2, nI_cl, L_cl, bI_T, bI_F, eq_self, not_true_eq_false, not_false_eq_true, if_false, Bool.false_eq_true]
        exact Ok.ret ⟨rfl, q3.end e0⟩
      · simp (disch := omega) only [↓lt_eq, ↓reduceIte, ↓un1, ↓un2, ↓un3, ↓un4, ↓bd_some, ↓bind_some', ↓sel_l, ↓sel_r, C1T, C1F, C2T, C2F, C3T, C3F, D1T, D1F, D2T, D2F, D3T, D3F, E1T, E1F, E2T, E2F, E3T, E3F, G1T, G1F, G2T, G2F, G3F, inb_T, inb_L, isB_0, isB_1, isB_b, nI_add, L_add1, L_add2, nI_cl, L_cl, bI_T, bI_F, eq_self, not_true_eq_false, not_false_eq_true, if_true]
        exact Ok.ret ⟨rfl, q3.end e0⟩
def fitA (h : Hs) (l : Nat) (T : Nat → Int32) (n w : Nat) : Int32 := if w = 0 then accI (fun k => soH (kindH h l k) l T n) 1 5 else if w = 1 then accI (fun k => soH (setRt h l k) l T n) 1 20 else if w = 2 then accI (fun k => soH (setHt h l k) l T n) 0 10 else if w = 3 then nI (mnC (fun k => soH (setMain h k) l T n) 60) else mnL (fun k => soH (setMain h k) l T n) 60
theorem step_fits (x1 x2 x3 x4 x5 : Int32) : Step Inv (f_X11_fits x1 x2 x3 x4 x5) (f_X12_fits x1 x2 x3 x4 x5) := by
  intro σ hI
  obtain ⟨hR, hP, hF, hT, h, o, n, ac, im, hn, ha, hi⟩ := id hI
  have hL4 := hn.L4
  rcases idx x1 (hL h) hL4 with q | ⟨l, hl, rfl⟩
  · refine step_same (-1000001) hI ?_ ?_
    · unfold f_X11_fits
      simp (disch := omega) only [↓lt_eq, ↓reduceIte, ↓un1, ↓un2, ↓un3, ↓un4, ↓bd_some, ↓bind_some', ↓sel_l, ↓sel_r, C1T, C1F, C2T, C2F, C3T, C3F, D1T, D1F, D2T, D2F, D3T, D3F, E1T, E1F, E2T, E2F, E3T, E3F, G1T, G1F, G2T, G2F, G3F, inb_T, inb_L, isB_0, isB_1, isB_b, nI_add, L_add1, L_add2, nI_cl, L_cl, bI_T, bI_F, eq_self, not_true_eq_false, not_false_eq_true, ↓bd_of (X_noLine_out hn.x1 q)]
    · unfold f_X12_fits
      simp (disch := omega) only [↓lt_eq, ↓reduceIte, ↓un1, ↓un2, ↓un3, ↓un4, ↓bd_some, ↓bind_some', ↓sel_l, ↓sel_r, C1T, C1F, C2T, C2F, C3T, C3F, D1T, D1F, D2T, D2F, D3T, D3F, E1T, E1F, E2T, E2F, E3T, E3F, G1T, G1F, G2T, G2F, G3F, inb_T, inb_L, isB_0, isB_1, isB_b, nI_add, L_add1, L_add2, nI_cl, L_cl, bI_T, bI_F, eq_self, not_true_eq_false, not_false_eq_true, ↓bd_of (M_isLine_out hn.m0 q hL4)]
  rcases row_case x2 with q | ⟨r, hr, rfl⟩
  · refine step_same (-1000001) hI ?_ ?_
    · unfold f_X11_fits
      simp (disch := omega) only [↓lt_eq, ↓reduceIte, ↓un1, ↓un2, ↓un3, ↓un4, ↓bd_some, ↓bind_some', ↓sel_l, ↓sel_r, C1T, C1F, C2T, C2F, C3T, C3F, D1T, D1F, D2T, D2F, D3T, D3F, E1T, E1F, E2T, E2F, E3T, E3F, G1T, G1F, G2T, G2F, G3F, inb_T, inb_L, isB_0, isB_1, isB_b, nI_add, L_add1, L_add2, nI_cl, L_cl, bI_T, bI_F, eq_self, not_true_eq_false, not_false_eq_true, ↓bd_of (X_noLine_in hn.x1 hl hL4), ↓bd_of (X_noRow_out (σ := σ) q)]
    · unfold f_X12_fits
      simp (disch := omega) only [↓lt_eq, ↓reduceIte, ↓un1, ↓un2, ↓un3, ↓un4, ↓bd_some, ↓bind_some', ↓sel_l, ↓sel_r, C1T, C1F, C2T, C2F, C3T, C3F, D1T, D1F, D2T, D2F, D3T, D3F, E1T, E1F, E2T, E2F, E3T, E3F, G1T, G1F, G2T, G2F, G3F, inb_T, inb_L, isB_0, isB_1, isB_b, nI_add, L_add1, L_add2, nI_cl, L_cl, bI_T, bI_F, eq_self, not_true_eq_false, not_false_eq_true, ↓bd_of (M_isLine_in hn.m0 hl hL4), ↓bd_of (M_in7_out (σ := σ) q)]
  rcases rng x4 (lo := 1) (hi := 12) 1 12 (by decide) (by decide) (by omega) (by omega) with q | ⟨d, d1, d2, rfl⟩
  · refine step_same (-1000001) hI ?_ ?_
    · unfold f_X11_fits
      simp (disch := omega) only [↓lt_eq, ↓reduceIte, ↓un1, ↓un2, ↓un3, ↓un4, ↓bd_some, ↓bind_some', ↓sel_l, ↓sel_r, C1T, C1F, C2T, C2F, C3T, C3F, D1T, D1F, D2T, D2F, D3T, D3F, E1T, E1F, E2T, E2F, E3T, E3F, G1T, G1F, G2T, G2F, G3F, inb_T, inb_L, isB_0, isB_1, isB_b, nI_add, L_add1, L_add2, nI_cl, L_cl, bI_T, bI_F, eq_self, not_true_eq_false, not_false_eq_true, ↓bd_of (X_noLine_in hn.x1 hl hL4), ↓bd_of (X_noRow_in (σ := σ) hr), ↓ite_out2 q]
    · unfold f_X12_fits
      simp (disch := omega) only [↓lt_eq, ↓reduceIte, ↓un1, ↓un2, ↓un3, ↓un4, ↓bd_some, ↓bind_some', ↓sel_l, ↓sel_r, C1T, C1F, C2T, C2F, C3T, C3F, D1T, D1F, D2T, D2F, D3T, D3F, E1T, E1F, E2T, E2F, E3T, E3F, G1T, G1F, G2T, G2F, G3F, inb_T, inb_L, isB_0, isB_1, isB_b, nI_add, L_add1, L_add2, nI_cl, L_cl, bI_T, bI_F, eq_self, not_true_eq_false, not_false_eq_true, ↓bd_of (M_isLine_in hn.m0 hl hL4), ↓bd_of (M_in7_in (σ := σ) hr), ↓bd_of (M_out (lo := 1) (hi := 12) (L := 1) (H := 12) (by decide) (by decide) q)]
  rcases rng x5 (lo := 0) (hi := 4) 0 4 (by decide) (by decide) (by omega) (by omega) with q | ⟨w, w1, w2, rfl⟩
  · refine step_same (-1000001) hI ?_ ?_
    · unfold f_X11_fits
      simp (disch := omega) only [↓lt_eq, ↓reduceIte, ↓un1, ↓un2, ↓un3, ↓un4, ↓bd_some, ↓bind_some', ↓sel_l, ↓sel_r, C1T, C1F, C2T, C2F, C3T, C3F, D1T, D1F, D2T, D2F, D3T, D3F, E1T, E1F, E2T, E2F, E3T, E3F, G1T, G1F, G2T, G2F, G3F, inb_T, inb_L, isB_0, isB_1, isB_b, nI_add, L_add1, L_add2, nI_cl, L_cl, bI_T, bI_F, eq_self, not_true_eq_false, not_false_eq_true, ↓bd_of (X_noLine_in hn.x1 hl hL4), ↓bd_of (X_noRow_in (σ := σ) hr), ↓ite_out1 q]
    · unfold f_X12_fits
      simp (disch := omega) only [↓lt_eq, ↓reduceIte, ↓un1, ↓un2, ↓un3, ↓un4, ↓bd_some, ↓bind_some', ↓sel_l, ↓sel_r, C1T, C1F, C2T, C2F, C3T, C3F, D1T, D1F, D2T, D2F, D3T, D3F, E1T, E1F, E2T, E2F, E3T, E3F, G1T, G1F, G2T, G2F, G3F, inb_T, inb_L, isB_0, isB_1, isB_b, nI_add, L_add1, L_add2, nI_cl, L_cl, bI_T, bI_F, eq_self, not_true_eq_false, not_false_eq_true, ↓bd_of (M_isLine_in hn.m0 hl hL4), ↓bd_of (M_in7_in (σ := σ) hr), ↓bd_of (M_inn (σ := σ) (L := 1) (H := 12) (a := 1) (b := 12) (by decide) (by decide) d1 d2 (by decide)), ↓bd_of (M_out (lo := 0) (hi := 4) (L := 0) (H := 4) (by decide) (by decide) q)]
  obtain ⟨a1, a2, a3⟩ := hR r hr
  have hnv : ∀ v, INow (wr σ 0 11 v) h := fun v => hn.w11 v
  rcases a3 with c | ⟨m, c1, c2, c3⟩
  · have e1 : σ (35 + 2 * r) 2 = -1 := a2.trans c
    have c' : wr σ 0 11 1 264 r = -1 := by rw [wr_a (by omega)]; exact c
    refine step_find 1 ((-1000010 : Int32) - 1) hI ?_ ?_
    · unfold f_X11_fits
      simp only [rowA_n hr]
      simp (disch := omega) only [↓lt_eq, ↓reduceIte, ↓un1, ↓un2, ↓un3, ↓un4, ↓bd_some, ↓bind_some', ↓sel_l, ↓sel_r, C1T, C1F, C2T, C2F, C3T, C3F, D1T, D1F, D2T, D2F, D3T, D3F, E1T, E1F, E2T, E2F, E3T, E3F, G1T, G1F, G2T, G2F, G3F, inb_T, inb_L, isB_0, isB_1, isB_b, nI_add, L_add1, L_add2, nI_cl, L_cl, bI_T, bI_F, eq_self, not_true_eq_false, not_false_eq_true, ↓bd_of (X_noLine_in hn.x1 hl hL4), ↓bd_of (X_noRow_in (σ := σ) hr), ↓bd_of (X_missing_1 e1), f_X11_found, bd_some]
    · unfold f_X12_fits
      simp (disch := omega) only [↓lt_eq, ↓reduceIte, ↓un1, ↓un2, ↓un3, ↓un4, ↓bd_some, ↓bind_some', ↓sel_l, ↓sel_r, C1T, C1F, C2T, C2F, C3T, C3F, D1T, D1F, D2T, D2F, D3T, D3F, E1T, E1F, E2T, E2F, E3T, E3F, G1T, G1F, G2T, G2F, G3F, inb_T, inb_L, isB_0, isB_1, isB_b, nI_add, L_add1, L_add2, nI_cl, L_cl, bI_T, bI_F, eq_self, not_true_eq_false, not_false_eq_true, ↓bd_of (M_isLine_in (hnv 1).m0 hl hL4), ↓bd_of (M_in7_in (σ := wr σ 0 11 1) hr), ↓bd_of (M_inn (σ := wr σ 0 11 1) (L := 1) (H := 12) (a := 1) (b := 12) (by decide) (by decide) d1 d2 (by decide)), ↓bd_of (M_inn (σ := wr σ 0 11 1) (L := 0) (H := 4) (a := 0) (b := 4) (by decide) (by decide) w1 w2 (by decide)), c', m1_neg, f_X12_finds, bd_some]
  have e1 : σ (35 + 2 * r) 2 = nI m := a2.trans c2
  by_cases g : x3 < 0
  · have c' : wr σ 0 11 2 264 r = nI m := by rw [wr_a (by omega)]; exact c2
    refine step_find 2 ((-1000010 : Int32) - 2) hI ?_ ?_
    · unfold f_X11_fits
      simp only [rowA_n hr]
      simp (disch := omega) only [↓lt_eq, ↓reduceIte, ↓un1, ↓un2, ↓un3, ↓un4, ↓bd_some, ↓bind_some', ↓sel_l, ↓sel_r, C1T, C1F, C2T, C2F, C3T, C3F, D1T, D1F, D2T, D2F, D3T, D3F, E1T, E1F, E2T, E2F, E3T, E3F, G1T, G1F, G2T, G2F, G3F, inb_T, inb_L, isB_0, isB_1, isB_b, nI_add, L_add1, L_add2, nI_cl, L_cl, bI_T, bI_F, eq_self, not_true_eq_false, not_false_eq_true, ↓bd_of (X_noLine_in hn.x1 hl hL4), ↓bd_of (X_noRow_in (σ := σ) hr), ↓bd_of (X_missing_0 e1 c1), ↓bd_of (X_has_neg (a := 35 + 2 * r) (y := nI d) (σ := σ) (Or.inl g)), f_X11_found, bd_some]
    · unfold f_X12_fits
      simp (disch := omega) only [↓lt_eq, ↓reduceIte, ↓un1, ↓un2, ↓un3, ↓un4, ↓bd_some, ↓bind_some', ↓sel_l, ↓sel_r, C1T, C1F, C2T, C2F, C3T, C3F, D1T, D1F, D2T, D2F, D3T, D3F, E1T, E1F, E2T, E2F, E3T, E3F, G1T, G1F, G2T, G2F, G3F, inb_T, inb_L, isB_0, isB_1, isB_b, nI_add, L_add1, L_add2, nI_cl, L_cl, bI_T, bI_F, eq_self, not_true_eq_false, not_false_eq_true, ↓bd_of (M_isLine_in (hnv 2).m0 hl hL4), ↓bd_of (M_in7_in (σ := wr σ 0 11 2) hr), ↓bd_of (M_inn (σ := wr σ 0 11 2) (L := 1) (H := 12) (a := 1) (b := 12) (by decide) (by decide) d1 d2 (by decide)), ↓bd_of (M_inn (σ := wr σ 0 11 2) (L := 0) (H := 4) (a := 0) (b := 4) (by decide) (by decide) w1 w2 (by decide)), c', g, f_X12_finds, bd_some]
  obtain ⟨i, hi3, rfl⟩ := nI_of g
  have eh := X_has (a := 35 + 2 * r) (i := i) (k := d) e1 c1 hi3 (by omega)
  by_cases p1 : ¬ i + d ≤ m
  · rw [decide_eq_false p1] at eh
    have c' : wr σ 0 11 2 264 r = nI m := by rw [wr_a (by omega)]; exact c2
    refine step_find 2 ((-1000010 : Int32) - 2) hI ?_ ?_
    · unfold f_X11_fits
      simp only [rowA_n hr]
      simp (disch := omega) only [↓lt_eq, ↓reduceIte, ↓un1, ↓un2, ↓un3, ↓un4, ↓bd_some, ↓bind_some', ↓sel_l, ↓sel_r, C1T, C1F, C2T, C2F, C3T, C3F, D1T, D1F, D2T, D2F, D3T, D3F, E1T, E1F, E2T, E2F, E3T, E3F, G1T, G1F, G2T, G2F, G3F, inb_T, inb_L, isB_0, isB_1, isB_b, nI_add, L_add1, L_add2, nI_cl, L_cl, bI_T, bI_F, eq_self, not_true_eq_false, not_false_eq_true, ↓bd_of (X_noLine_in hn.x1 hl hL4), ↓bd_of (X_noRow_in (σ := σ) hr), ↓bd_of (X_missing_0 e1 c1), ↓bd_of eh, f_X11_found, bd_some]
    · unfold f_X12_fits
      simp (disch := omega) only [↓lt_eq, ↓reduceIte, ↓un1, ↓un2, ↓un3, ↓un4, ↓bd_some, ↓bind_some', ↓sel_l, ↓sel_r, C1T, C1F, C2T, C2F, C3T, C3F, D1T, D1F, D2T, D2F, D3T, D3F, E1T, E1F, E2T, E2F, E3T, E3F, G1T, G1F, G2T, G2F, G3F, inb_T, inb_L, isB_0, isB_1, isB_b, nI_add, L_add1, L_add2, nI_cl, L_cl, bI_T, bI_F, eq_self, not_true_eq_false, not_false_eq_true, ↓bd_of (M_isLine_in (hnv 2).m0 hl hL4), ↓bd_of (M_in7_in (σ := wr σ 0 11 2) hr), ↓bd_of (M_inn (σ := wr σ 0 11 2) (L := 1) (H := 12) (a := 1) (b := 12) (by decide) (by decide) d1 d2 (by decide)), ↓bd_of (M_inn (σ := wr σ 0 11 2) (L := 0) (H := 4) (a := 0) (b := 4) (by decide) (by decide) w1 w2 (by decide)), c', lcmp_le, p1, f_X12_finds, bd_some]
  have p1 := Decidable.not_not.mp p1
  rw [decide_eq_true p1] at eh
  generalize hTd : (fun k => σ 265 (40 * r + i + k)) = T
  have hTk : ∀ k, σ 265 (40 * r + i + k) = T k := fun k => by rw [← hTd]
  have hTx : ∀ k, k < d → σ (35 + 2 * r + 1) (i + k) = T k := fun k hk => by
    rw [← hTk, show 35 + 2 * r + 1 = 36 + 2 * r by omega, c3 (i + k) (by omega)]
    exact congrArg (σ 265) (by omega)
  refine step_fine (fitA h l T d w) hI ?_ (fun s hk => ?_)
  · unfold f_X11_fits fitA
    simp only [rowA_n hr]
    rcases (show w = 0 ∨ w = 1 ∨ w = 2 ∨ w = 3 ∨ w = 4 by omega) with rfl | rfl | rfl | rfl | rfl
    · simp (disch := omega) only [↓lt_eq, ↓reduceIte, ↓un1, ↓un2, ↓un3, ↓un4, ↓bd_some, ↓bind_some', ↓sel_l, ↓sel_r, C1T, C1F, C2T, C2F, C3T, C3F, D1T, D1F, D2T, D2F, D3T, D3F, E1T, E1F, E2T, E2F, E3T, E3F, G1T, G1F, G2T, G2F, G3F, inb_T, inb_L, isB_0, isB_1, isB_b, nI_add, L_add1, L_add2, nI_cl, L_cl, bI_T, bI_F, eq_self, not_true_eq_false, not_false_eq_true, ↓bd_of (X_noLine_in hn.x1 hl hL4), ↓bd_of (X_noRow_in (σ := σ) hr), ↓bd_of (X_missing_0 e1 c1), ↓bd_of eh]
      exact Ok.bd (Ok.mono (X_sorts hn hl hr d2 (by omega) hTx) (fun v q => Ok.ret ⟨q.1, v.2, Keep.fr27 q.2, rfl⟩))
    · simp (disch := omega) only [↓lt_eq, ↓reduceIte, ↓un1, ↓un2, ↓un3, ↓un4, ↓bd_some, ↓bind_some', ↓sel_l, ↓sel_r, C1T, C1F, C2T, C2F, C3T, C3F, D1T, D1F, D2T, D2F, D3T, D3F, E1T, E1F, E2T, E2F, E3T, E3F, G1T, G1F, G2T, G2F, G3F, inb_T, inb_L, isB_0, isB_1, isB_b, nI_add, L_add1, L_add2, nI_cl, L_cl, bI_T, bI_F, eq_self, not_true_eq_false, not_false_eq_true, ↓bd_of (X_noLine_in hn.x1 hl hL4), ↓bd_of (X_noRow_in (σ := σ) hr), ↓bd_of (X_missing_0 e1 c1), ↓bd_of eh]
      exact Ok.bd (Ok.mono (X_rates hn hl hr d2 (by omega) hTx) (fun v q => Ok.ret ⟨q.1, v.2, Keep.fr27 q.2, rfl⟩))
    · simp (disch := omega) only [↓lt_eq, ↓reduceIte, ↓un1, ↓un2, ↓un3, ↓un4, ↓bd_some, ↓bind_some', ↓sel_l, ↓sel_r, C1T, C1F, C2T, C2F, C3T, C3F, D1T, D1F, D2T, D2F, D3T, D3F, E1T, E1F, E2T, E2F, E3T, E3F, G1T, G1F, G2T, G2F, G3F, inb_T, inb_L, isB_0, isB_1, isB_b, nI_add, L_add1, L_add2, nI_cl, L_cl, bI_T, bI_F, eq_self, not_true_eq_false, not_false_eq_true, ↓bd_of (X_noLine_in hn.x1 hl hL4), ↓bd_of (X_noRow_in (σ := σ) hr), ↓bd_of (X_missing_0 e1 c1), ↓bd_of eh]
      exact Ok.bd (Ok.mono (X_heats hn hl hr d2 (by omega) hTx) (fun v q => Ok.ret ⟨q.1, v.2, Keep.fr27 q.2, rfl⟩))
    · simp (disch := omega) only [↓lt_eq, ↓reduceIte, ↓un1, ↓un2, ↓un3, ↓un4, ↓bd_some, ↓bind_some', ↓sel_l, ↓sel_r, C1T, C1F, C2T, C2F, C3T, C3F, D1T, D1F, D2T, D2F, D3T, D3F, E1T, E1F, E2T, E2F, E3T, E3F, G1T, G1F, G2T, G2F, G3F, inb_T, inb_L, isB_0, isB_1, isB_b, nI_add, L_add1, L_add2, nI_cl, L_cl, bI_T, bI_F, eq_self, not_true_eq_false, not_false_eq_true, ↓bd_of (X_noLine_in hn.x1 hl hL4), ↓bd_of (X_noRow_in (σ := σ) hr), ↓bd_of (X_missing_0 e1 c1), ↓bd_of eh]
      exact Ok.bd (Ok.mono (X_mains hn hl hr d2 (by omega) hTx false) (fun v q => Ok.ret ⟨q.1, v.2, Keep.fr27 q.2, rfl⟩))
    · simp (disch := omega) only [↓lt_eq, ↓reduceIte, ↓un1, ↓un2, ↓un3, ↓un4, ↓bd_some, ↓bind_some', ↓sel_l, ↓sel_r, C1T, C1F, C2T, C2F, C3T, C3F, D1T, D1F, D2T, D2F, D3T, D3F, E1T, E1F, E2T, E2F, E3T, E3F, G1T, G1F, G2T, G2F, G3F, inb_T, inb_L, isB_0, isB_1, isB_b, nI_add, L_add1, L_add2, nI_cl, L_cl, bI_T, bI_F, eq_self, not_true_eq_false, not_false_eq_true, ↓bd_of (X_noLine_in hn.x1 hl hL4), ↓bd_of (X_noRow_in (σ := σ) hr), ↓bd_of (X_missing_0 e1 c1), ↓bd_of eh]
      exact Ok.bd (Ok.mono (X_mains hn hl hr d2 (by omega) hTx true) (fun v q => Ok.ret ⟨q.1, v.2, Keep.fr27 q.2, rfl⟩))
  · have hns := (hn.keep hk).w11 0
    have g4 : wr s 0 11 0 264 r = nI m := by rw [wr_a (by omega), hk.1 264 (by omega)]; exact c2
    have g5 : ∀ k, k < d → wr s 0 11 0 265 (40 * r + i + k) = T k := fun k _ => by rw [wr_a (by omega), hk.1 265 (by omega)]; exact hTk k
    generalize wr s 0 11 0 = t at hns g4 g5
    unfold f_X12_fits fitA
    rcases (show w = 0 ∨ w = 1 ∨ w = 2 ∨ w = 3 ∨ w = 4 by omega) with rfl | rfl | rfl | rfl | rfl
    · simp (disch := omega) only [↓lt_eq, ↓reduceIte, ↓un1, ↓un2, ↓un3, ↓un4, ↓bd_some, ↓bind_some', ↓sel_l, ↓sel_r, C1T, C1F, C2T, C2F, C3T, C3F, D1T, D1F, D2T, D2F, D3T, D3F, E1T, E1F, E2T, E2F, E3T, E3F, G1T, G1F, G2T, G2F, G3F, inb_T, inb_L, isB_0, isB_1, isB_b, nI_add, L_add1, L_add2, nI_cl, L_cl, bI_T, bI_F, eq_self, not_true_eq_false, not_false_eq_true, ↓bd_of (M_isLine_in hns.m0 hl hL4), ↓bd_of (M_in7_in (σ := t) hr), ↓bd_of (M_inn (σ := t) (L := 1) (H := 12) (a := 1) (b := 12) (by decide) (by decide) d1 d2 (by decide)), ↓bd_of (M_inn (σ := t) (L := 0) (H := 4) (a := 0) (b := 4) (by decide) (by decide) w1 w2 (by decide)), g4, lcmp_le, p1]
      exact Ok.bd (Ok.mono (M_sorts hns hl hr d2 (by omega) g5) (fun v q => Ok.ret ⟨q.1, v.2, q.2, rfl⟩))
    · simp (disch := omega) only [↓lt_eq, ↓reduceIte, ↓un1, ↓un2, ↓un3, ↓un4, ↓bd_some, ↓bind_some', ↓sel_l, ↓sel_r, C1T, C1F, C2T, C2F, C3T, C3F, D1T, D1F, D2T, D2F, D3T, D3F, E1T, E1F, E2T, E2F, E3T, E3F, G1T, G1F, G2T, G2F, G3F, inb_T, inb_L, isB_0, isB_1, isB_b, nI_add, L_add1, L_add2, nI_cl, L_cl, bI_T, bI_F, eq_self, not_true_eq_false, not_false_eq_true, ↓bd_of (M_isLine_in hns.m0 hl hL4), ↓bd_of (M_in7_in (σ := t) hr), ↓bd_of (M_inn (σ := t) (L := 1) (H := 12) (a := 1) (b := 12) (by decide) (by decide) d1 d2 (by decide)), ↓bd_of (M_inn (σ := t) (L := 0) (H := 4) (a := 0) (b := 4) (by decide) (by decide) w1 w2 (by decide)), g4, lcmp_le, p1]
      exact Ok.bind (Ok.mono (M_rates hns hl hr d2 (by omega) g5) (fun v q => Ok.ret ⟨q.1, v.2, Keep.frM q.2, rfl⟩))
    · simp (disch := omega) only [↓lt_eq, ↓reduceIte, ↓un1, ↓un2, ↓un3, ↓un4, ↓bd_some, ↓bind_some', ↓sel_l, ↓sel_r, C1T, C1F, C2T, C2F, C3T, C3F, D1T, D1F, D2T, D2F, D3T, D3F, E1T, E1F, E2T, E2F, E3T, E3F, G1T, G1F, G2T, G2F, G3F, inb_T, inb_L, isB_0, isB_1, isB_b, nI_add, L_add1, L_add2, nI_cl, L_cl, bI_T, bI_F, eq_self, not_true_eq_false, not_false_eq_true, ↓bd_of (M_isLine_in hns.m0 hl hL4), ↓bd_of (M_in7_in (σ := t) hr), ↓bd_of (M_inn (σ := t) (L := 1) (H := 12) (a := 1) (b := 12) (by decide) (by decide) d1 d2 (by decide)), ↓bd_of (M_inn (σ := t) (L := 0) (H := 4) (a := 0) (b := 4) (by decide) (by decide) w1 w2 (by decide)), g4, lcmp_le, p1]
      exact Ok.bind (Ok.mono (M_heatsFit hns hl hr d2 (by omega) g5) (fun v q => Ok.ret ⟨q.1, v.2, Keep.frM q.2, rfl⟩))
    · simp (disch := omega) only [↓lt_eq, ↓reduceIte, ↓un1, ↓un2, ↓un3, ↓un4, ↓bd_some, ↓bind_some', ↓sel_l, ↓sel_r, C1T, C1F, C2T, C2F, C3T, C3F, D1T, D1F, D2T, D2F, D3T, D3F, E1T, E1F, E2T, E2F, E3T, E3F, G1T, G1F, G2T, G2F, G3F, inb_T, inb_L, isB_0, isB_1, isB_b, nI_add, L_add1, L_add2, nI_cl, L_cl, bI_T, bI_F, eq_self, not_true_eq_false, not_false_eq_true, ↓bd_of (M_isLine_in hns.m0 hl hL4), ↓bd_of (M_in7_in (σ := t) hr), ↓bd_of (M_inn (σ := t) (L := 1) (H := 12) (a := 1) (b := 12) (by decide) (by decide) d1 d2 (by decide)), ↓bd_of (M_inn (σ := t) (L := 0) (H := 4) (a := 0) (b := 4) (by decide) (by decide) w1 w2 (by decide)), g4, lcmp_le, p1]
      exact Ok.bd (Ok.mono (M_mainsThat hns hl hr d2 (by omega) g5 false) (fun v q => Ok.ret ⟨q.1, v.2, q.2, rfl⟩))
    · simp (disch := omega) only [↓lt_eq, ↓reduceIte, ↓un1, ↓un2, ↓un3, ↓un4, ↓bd_some, ↓bind_some', ↓sel_l, ↓sel_r, C1T, C1F, C2T, C2F, C3T, C3F, D1T, D1F, D2T, D2F, D3T, D3F, E1T, E1F, E2T, E2F, E3T, E3F, G1T, G1F, G2T, G2F, G3F, inb_T, inb_L, isB_0, isB_1, isB_b, nI_add, L_add1, L_add2, nI_cl, L_cl, bI_T, bI_F, eq_self, not_true_eq_false, not_false_eq_true, ↓bd_of (M_isLine_in hns.m0 hl hL4), ↓bd_of (M_in7_in (σ := t) hr), ↓bd_of (M_inn (σ := t) (L := 1) (H := 12) (a := 1) (b := 12) (by decide) (by decide) d1 d2 (by decide)), ↓bd_of (M_inn (σ := t) (L := 0) (H := 4) (a := 0) (b := 4) (by decide) (by decide) w1 w2 (by decide)), g4, lcmp_le, p1]
      exact Ok.bd (Ok.mono (M_mainsThat hns hl hr d2 (by omega) g5 true) (fun v q => Ok.ret ⟨q.1, v.2, q.2, rfl⟩))
