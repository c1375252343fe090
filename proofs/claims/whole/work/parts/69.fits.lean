/-! what fits a row of heats -/
def soH (h : Hs) (l : Nat) (T : Nat → Int32) (n : Nat) : Bool := allB (fun k => decide (nI (hHt (minN h (k + 1)) l) = T k)) n
theorem X_heatsAs {σ : St} {h : Hs} (hx : HX 27 σ h) (hw : WF h) {l n i r : Nat} {T : Nat → Int32} (hl : l < hL h) (hr : r < 8) (hn : n ≤ 12) (hin : i + n ≤ 40) (hm : hMin h ≤ 9999) (hT : ∀ k, k < n → σ (35 + 2 * r + 1) (i + k) = T k) : Ok (f_X3_heatsAs 27 (nI l) (35 + 2 * r + 1) (nI i) (nI n) σ) (fun v => v.1 = bI (soH h l T n) ∧ Fr (blk 27) σ v.2) := by
  have hL4 := hw.1
  unfold f_X3_heatsAs
  rw [lt_eq]
  refine Ok.bind (loop_find (fun j (x : Int32 × St) => x.1 = nI j ∧ HX 27 x.2 (minN h j) ∧ Fr (blk 27) σ x.2) (fun k => !decide (nI (hHt (minN h (k + 1)) l) = T k)) 0 n _ 5000 _ (by omega) ⟨nI_0.symm, hx, Fr.rf⟩ ?_ ?_)
  · rintro j ⟨v, s⟩ _ hj ⟨q1, q2, q3⟩
    simp only at q1 q2 q3
    subst q1
    obtain ⟨t, e, k1, k2⟩ := X_passMinute q2 (minN_WF hw j (by omega))
    have e1 : t (27 + 3) l = nI (hHt (minN h (j + 1)) l) := (k1.2.2.2.2.2.2.2.1 l (by show l < hL (minN h (j + 1)); rw [minN_L]; exact hl)).2.2.1
    have e2 : t (35 + 2 * r + 1) (i + j) = T j := by
      rw [k2 _ (by unfold blk; omega), q3 _ (by unfold blk; omega)]; exact hT j (by omega)
    refine ⟨fun hp => ?_, fun hp hb => ?_⟩
    · have hv : (nI (hHt (minN h (j + 1)) l) = T j) = True := by simpa using hp
      refine ⟨(nI (j + 1), t), ?_, rfl, k1, q3.tr k2⟩
      unfold f_X3_heatsAs_L3
      simp (disch := omega) only [↓lt_eq, ↓reduceIte, ↓un1, ↓un2, ↓un3, ↓un4, ↓bd_some, ↓bind_some', ↓sel_l, ↓sel_r, C1T, C1F, C2T, C2F, C3T, C3F, D1T, D1F, D2T, D2F, D3T, D3F, E1T, E1F, E2T, E2F, E3T, E3F, G1T, G1F, G2T, G2F, G3F, inb_T, inb_L, isB_0, isB_1, isB_b, nI_add, L_add1, L_add2, nI_cl, L_cl, bI_T, bI_F, eq_self, not_true_eq_false, not_false_eq_true, ↓bind_of e, e1, e2, hv]
    · have hv : (nI (hHt (minN h (j + 1)) l) = T j) = False := by simpa using hp
      refine ⟨.inr t, ?_, ?_⟩
      · unfold f_X3_heatsAs_L3
        simp (disch := omega) only [↓lt_eq, ↓reduceIte, ↓un1, ↓un2, ↓un3, ↓un4, ↓bd_some, ↓bind_some', ↓sel_l, ↓sel_r, C1T, C1F, C2T, C2F, C3T, C3F, D1T, D1F, D2T, D2F, D3T, D3F, E1T, E1F, E2T, E2F, E3T, E3F, G1T, G1F, G2T, G2F, G3F, inb_T, inb_L, isB_0, isB_1, isB_b, nI_add, L_add1, L_add2, nI_cl, L_cl, bI_T, bI_F, eq_self, not_true_eq_false, not_false_eq_true, ↓bind_of e, e1, e2, hv]
      · simp (disch := omega) only [↓lt_eq, ↓reduceIte, ↓un1, ↓un2, ↓un3, ↓un4, ↓bd_some, ↓bind_some', ↓sel_l, ↓sel_r, C1T, C1F, C2T, C2F, C3T, C3F, D1T, D1F, D2T, D2F, D3T, D3F, E1T, E1F, E2T, E2F, E3T, E3F, G1T, G1F, G2T, G2F, G3F, inb_T, inb_L, isB_0, isB_1, isB_b, nI_add, L_add1, L_add2, nI_cl, L_cl, bI_T, bI_F, eq_self, not_true_eq_false, not_false_eq_true]
        refine Ok.ret ⟨?_, q3.tr k2⟩
        unfold soH
        rw [allB_f (k := j) (by simpa using hp) n (by omega)]; rfl
  · rintro ⟨v, s⟩ ⟨q1, q2, q3⟩ hb
    simp only [Nat.zero_add] at q1 q2 q3 hb
    subst q1
    refine ⟨.inl s, ?_, ?_⟩
    · unfold f_X3_heatsAs_L3
      simp (disch := omega) only [↓lt_eq, ↓reduceIte, ↓un1, ↓un2, ↓un3, ↓un4, ↓bd_some, ↓bind_some', ↓sel_l, ↓sel_r, C1T, C1F, C2T, C2F, C3T, C3F, D1T, D1F, D2T, D2F, D3T, D3F, E1T, E1F, E2T, E2F, E3T, E3F, G1T, G1F, G2T, G2F, G3F, inb_T, inb_L, isB_0, isB_1, isB_b, nI_add, L_add1, L_add2, nI_cl, L_cl, bI_T, bI_F, eq_self, not_true_eq_false, not_false_eq_true]
    · simp (disch := omega) only [↓lt_eq, ↓reduceIte, ↓un1, ↓un2, ↓un3, ↓un4, ↓bd_some, ↓bind_some', ↓sel_l, ↓sel_r, C1T, C1F, C2T, C2F, C3T, C3F, D1T, D1F, D2T, D2F, D3T, D3F, E1T, E1F, E2T, E2F, E3T, E3F, G1T, G1F, G2T, G2F, G3F, inb_T, inb_L, isB_0, isB_1, isB_b, nI_add, L_add1, L_add2, nI_cl, L_cl, bI_T, bI_F, eq_self, not_true_eq_false, not_false_eq_true]
      refine Ok.ret ⟨?_, q3⟩
      unfold soH
      rw [allB_t n (fun k q => by simpa using hb k (by omega) q)]; rfl
theorem M_isSo {σ : St} {h : Hs} (hx : HM 729 0 σ h) (hw : WF h) {l n i r : Nat} {T : Nat → Int32} (hl : l < hL h) (hr : r < 8) (hn : n ≤ 12) (hin : i + n ≤ 40) (hm : hMin h ≤ 9999) (hT : ∀ k, k < n → σ 265 (40 * r + i + k) = T k) : Ok (f_X12_isSo (nI l) (nI r) (nI i) (nI n) σ) (fun v => v.1 = bI (soH h l T n) ∧ FrM 729 σ v.2) := by
  have hL4 := hw.1
  unfold f_X12_isSo
  rw [lt_eq, lt_eq]
  refine Ok.bind (loop_n (fun j (x : Int32 × Int32 × St) => x.1 = bI (soH h l T j) ∧ x.2.1 = nI j ∧ HM 729 0 x.2.2 (minN h j) ∧ FrM 729 σ x.2.2) _ n 5000 _ (by omega) ⟨rfl, nI_0.symm, hx, FrM.rf⟩ ?_ ?_)
  · rintro j ⟨b, v, s⟩ hj ⟨q0, q1, q2, q3⟩
    simp only at q0 q1 q2 q3
    subst q0 q1
    obtain ⟨t, e, k1, k2⟩ := M_goesOn1 q2 (minN_WF hw j (by omega)) (by rw [minN_m]; omega)
    have e1 : t 260 (729 + l) = nI (hHt (minN h (j + 1)) l) := k1.g_ht (l := l) (by show l < hL (minN h (j + 1)); rw [minN_L]; exact hl) rfl
    have e3 : t 265 (40 * r + i + j) = T j := by
      rw [k2.1 265 (by omega) (by omega), q3.1 265 (by omega) (by omega)]; exact hT j hj
    have e2 : soH h l T (j + 1) = (soH h l T j && decide (nI (hHt (minN h (j + 1)) l) = T j)) := rfl
    refine ⟨(bI (soH h l T (j + 1)), nI (j + 1), t), ?_, rfl, rfl, k1, q3.tr k2⟩
    unfold f_X12_isSo_L6
    rw [e2]
    by_cases hv : nI (hHt (minN h (j + 1)) l) = T j
    · cases hs : soH h l T j <;> simp (disch := omega) only [↓lt_eq, ↓reduceIte, ↓un1, ↓un2, ↓un3, ↓un4, ↓bd_some, ↓bind_some', ↓sel_l, ↓sel_r, C1T, C1F, C2T, C2F, C3T, C3F, D1T, D1F, D2T, D2F, D3T, D3F, E1T, E1F, E2T, E2F, E3T, E3F, G1T, G1F, G2T, G2F, G3F, inb_T, inb_L, isB_0, isB_1, isB_b, nI_add, L_add1, L_add2, nI_cl, L_cl, bI_T, bI_F, eq_self, not_true_eq_false, not_false_eq_true, ↓bind_of e, L_mul1, e1, e3, hv, decide_true, Bool.and_true, Bool.false_and, Bool.true_and]
    · cases hs : soH h l T j <;> simp (disch := omega) only [↓lt_eq, ↓reduceIte, ↓un1, ↓un2, ↓un3, ↓un4, ↓bd_some, ↓bind_some', ↓sel_l, ↓sel_r, C1T, C1F, C2T, C2F, C3T, C3F, D1T, D1F, D2T, D2F, D3T, D3F, E1T, E1F, E2T, E2F, E3T, E3F, G1T, G1F, G2T, G2F, G3F, inb_T, inb_L, isB_0, isB_1, isB_b, nI_add, L_add1, L_add2, nI_cl, L_cl, bI_T, bI_F, eq_self, not_true_eq_false, not_false_eq_true, ↓bind_of e, L_mul1, e1, e3, hv, decide_false, Bool.and_false, Bool.false_and, Bool.true_and]
  · rintro ⟨b, v, s⟩ ⟨q0, q1, q2, q3⟩
    simp only at q0 q1 q2 q3
    subst q0 q1
    refine ⟨(bI (soH h l T n), s), ?_, ?_⟩
    · unfold f_X12_isSo_L6
      simp (disch := omega) only [↓lt_eq, ↓reduceIte, ↓un1, ↓un2, ↓un3, ↓un4, ↓bd_some, ↓bind_some', ↓sel_l, ↓sel_r, C1T, C1F, C2T, C2F, C3T, C3F, D1T, D1F, D2T, D2F, D3T, D3F, E1T, E1F, E2T, E2F, E3T, E3F, G1T, G1F, G2T, G2F, G3F, inb_T, inb_L, isB_0, isB_1, isB_b, nI_add, L_add1, L_add2, nI_cl, L_cl, bI_T, bI_F, eq_self, not_true_eq_false, not_false_eq_true]
    · simp (disch := omega) only [↓lt_eq, ↓reduceIte, ↓un1, ↓un2, ↓un3, ↓un4, ↓bd_some, ↓bind_some', ↓sel_l, ↓sel_r, C1T, C1F, C2T, C2F, C3T, C3F, D1T, D1F, D2T, D2F, D3T, D3F, E1T, E1F, E2T, E2F, E3T, E3F, G1T, G1F, G2T, G2F, G3F, inb_T, inb_L, isB_0, isB_1, isB_b, nI_add, L_add1, L_add2, nI_cl, L_cl, bI_T, bI_F, eq_self, not_true_eq_false, not_false_eq_true]
      exact Ok.ret ⟨rfl, q3⟩
/-- bits gathered from a number on -/
def accI (p : Nat → Bool) (a : Nat) : Nat → Int32
  | 0 => 0
  | i + 1 => accI p a i ||| (if p (a + i) then (1 : Int32) <<< (nI (a + i) &&& 31) else 0)
theorem INow.w11 {σ : St} {h : Hs} (hn : INow σ h) (v : Int32) : INow (wr σ 0 11 v) h := by
  obtain ⟨w, x, mi, p1, p2⟩ := hn
  refine ⟨w, x.frame (fun b q => wr_a (by omega)), mi, fun q => ⟨(p1 q).1, (p1 q).2.frame (wr_a (by omega)) (wr_a (by omega))⟩, fun q => ?_⟩
  rw [wr_a (show 261 ≠ 0 by omega), wr_a (show 260 ≠ 0 by omega)]
  exact p2 q
theorem Keep.wr8 {s t : St} (h : Keep s t) (v : Int32) : Keep (wr s 259 8 v) (wr t 259 8 v) := by
  refine ⟨fun b q => ?_, fun k q => ?_, fun k q => ?_⟩
  · rw [wr_a (by omega), wr_a (by omega)]; exact h.1 b q
  · rw [wr_a (by omega), wr_a (by omega)]; exact h.2.1 k q
  · by_cases e : k = 8
    · rw [e, wr_same, wr_same]
    · rw [wr_k e, wr_k e]; exact h.2.2 k q
theorem step_fine {f g : St → Option (Int32 × St)} {σ : St} (a : Int32) (hI : Inv σ) (h1 : Ok (f σ) (fun v => v.1 = a ∧ ∃ s, Keep σ s ∧ v.2 = wr s 0 11 0)) (h2 : ∀ s, Keep σ s → Ok (g (wr s 0 11 0)) (fun w => w.1 = a ∧ ∃ t, Keep (wr s 0 11 0) t ∧ w.2 = wr t 259 8 0)) : ∃ r σ1 σ2, f σ = some (r, σ1) ∧ g σ1 = some (r, σ2) ∧ Inv σ2 := by
  obtain ⟨⟨v, s'⟩, e1, rfl, s, k1, q1⟩ := h1
  simp only at q1
  subst q1
  obtain ⟨⟨w, t'⟩, e2, q, t, k2, q2⟩ := h2 s k1
  simp only at q q2
  subst q q2
  exact ⟨w, _, _, e1, e2, ((hI.keep k1).find 0).keep (k2.wr8 0)⟩
theorem setDd_id (h : Hs) (l : Nat) : setDd h l (hDd h l) = h := by
  have e : (fun m => if m = l then hDd h l else hDd h m) = hDd h := funext fun m => by
    by_cases q : m = l
    · rw [if_pos q, q]
    · rw [if_neg q]
  unfold setDd
  rw [e]
  rfl
def kdDd (h : Hs) (l k : Nat) : Nat := if hDd h l = 0 ∨ k = hKd h l then hDd h l else if k = 5 then 3 else 1
def kindH (h : Hs) (l k : Nat) : Hs := setKd (setDd h l (kdDd h l k)) l k
theorem kind_WF {h : Hs} (hw : WF h) {l k : Nat} (hl : l < hL h) (h1 : 1 ≤ k) (h5 : k ≤ 5) : WF (kindH h l k) := by
  refine (hw.setDd l _ ?_).setKd l k h1 h5
  have := (hw.2.2.2.2.2.2.1 l hl).2.2.2.2
  unfold kdDd
  split
  · exact this
  · split <;> omega
theorem X_takeKind {σ : St} {h : Hs} (hx : HX 27 σ h) (hw : WF h) {l k : Nat} (hl : l < hL h) (h1 : 1 ≤ k) (h5 : k ≤ 5) : Ok (f_X3_takeKind 27 (nI l) (nI k) σ) (fun s => HX 27 s (kindH h l k) ∧ Fr (blk 27) σ s) := by
  have hL4 := hw.1
  have hkd := hw.2.2.2.2.2.2.1 l hl
  have e1 := X_isDead hx hw hl
  have e2 := (hx.2.2.2.2.2.2.2.1 l hl).1
  unfold f_X3_takeKind
  by_cases c : hDd h l = 0
  · rw [decide_eq_false (by omega)] at e1
    have ek : kindH h l k = setKd h l k := by
      have : kdDd h l k = hDd h l := if_pos (Or.inl c)
      unfold kindH
      rw [this, setDd_id]
    rw [ek]
    simp (disch := omega) only [↓lt_eq, ↓reduceIte, ↓un1, ↓un2, ↓un3, ↓un4, ↓bd_some, ↓bind_some', ↓sel_l, ↓sel_r, C1T, C1F, C2T, C2F, C3T, C3F, D1T, D1F, D2T, D2F, D3T, D3F, E1T, E1F, E2T, E2F, E3T, E3F, G1T, G1F, G2T, G2F, G3F, inb_T, inb_L, isB_0, isB_1, isB_b, nI_add, L_add1, L_add2, nI_cl, L_cl, bI_T, bI_F, eq_self, not_true_eq_false, not_false_eq_true, ↓bd_of e1]
    exact Ok.ret ⟨hx.setKd l k, Fr.w1 (by unfold blk; omega)⟩
  · rw [decide_eq_true (by omega)] at e1
    by_cases c2 : hKd h l = k
    · have ek : kindH h l k = setKd h l k := by
        have : kdDd h l k = hDd h l := if_pos (Or.inr c2.symm)
        unfold kindH
        rw [this, setDd_id]
      rw [ek]
      simp (disch := omega) only [↓lt_eq, ↓reduceIte, ↓un1, ↓un2, ↓un3, ↓un4, ↓bd_some, ↓bind_some', ↓sel_l, ↓sel_r, C1T, C1F, C2T, C2F, C3T, C3F, D1T, D1F, D2T, D2F, D3T, D3F, E1T, E1F, E2T, E2F, E3T, E3F, G1T, G1F, G2T, G2F, G3F, inb_T, inb_L, isB_0, isB_1, isB_b, nI_add, L_add1, L_add2, nI_cl, L_cl, bI_T, bI_F, eq_self, not_true_eq_false, not_false_eq_true, ↓bd_of e1, e2]
      exact Ok.ret ⟨hx.setKd l k, Fr.w1 (by unfold blk; omega)⟩
    · have ed : kdDd h l k = if k = 5 then 3 else 1 := if_neg (by omega)
      by_cases c5 : k = 5
      · rw [if_pos c5] at ed
        simp (disch := omega) only [↓lt_eq, ↓reduceIte, ↓un1, ↓un2, ↓un3, ↓un4, ↓bd_some, ↓bind_some', ↓sel_l, ↓sel_r, C1T, C1F, C2T, C2F, C3T, C3F, D1T, D1F, D2T, D2F, D3T, D3F, E1T, E1F, E2T, E2F, E3T, E3F, G1T, G1F, G2T, G2F, G3F, inb_T, inb_L, isB_0, isB_1, isB_b, nI_add, L_add1, L_add2, nI_cl, L_cl, bI_T, bI_F, eq_self, not_true_eq_false, not_false_eq_true, ↓bd_of e1, e2]
        refine Ok.ret ⟨?_, (Fr.w1 (by unfold blk; omega)).tr (Fr.w1 (by unfold blk; omega))⟩
        unfold kindH
        rw [ed]
        exact (hx.setDd l 3).setKd l k
      · rw [if_neg c5] at ed
        simp (disch := omega) only [↓lt_eq, ↓reduceIte, ↓un1, ↓un2, ↓un3, ↓un4, ↓bd_some, ↓bind_some', ↓sel_l, ↓sel_r, C1T, C1F, C2T, C2F, C3T, C3F, D1T, D1F, D2T, D2F, D3T, D3F, E1T, E1F, E2T, E2F, E3T, E3F, G1T, G1F, G2T, G2F, G3F, inb_T, inb_L, isB_0, isB_1, isB_b, nI_add, L_add1, L_add2, nI_cl, L_cl, bI_T, bI_F, eq_self, not_true_eq_false, not_false_eq_true, ↓bd_of e1, e2]
        refine Ok.ret ⟨?_, (Fr.w1 (by unfold blk; omega)).tr (Fr.w1 (by unfold blk; omega))⟩
        unfold kindH
        rw [ed]
        exact (hx.setDd l 1).setKd l k
theorem X_sorts {σ : St} {h : Hs} (hn : INow σ h) {l n i r : Nat} {T : Nat → Int32} (hl : l < hL h) (hr : r < 8) (hn1 : n ≤ 12) (hin : i + n ≤ 40) (hT : ∀ k, k < n → σ (35 + 2 * r + 1) (i + k) = T k) : Ok (f_X11_sortsThatFit (nI l) (35 + 2 * r) (nI i) (nI n) σ) (fun v => v.1 = accI (fun k => soH (kindH h l k) l T n) 1 5 ∧ Fr (blk 27) σ v.2) := by
  have hw := hn.1
  have hmm := hn.2.2.1
  unfold f_X11_sortsThatFit
  rw [lt_eq, lt_eq]
  refine Ok.bind (loop_n (fun j (x : Int32 × Int32 × St) => x.1 = accI (fun k => soH (kindH h l k) l T n) 1 j ∧ x.2.1 = nI (1 + j) ∧ Fr (blk 27) σ x.2.2) _ 5 5000 _ (by omega) ⟨rfl, rfl, Fr.rf⟩ ?_ ?_)
  · rintro j ⟨a, v, s⟩ hj ⟨q0, q1, q3⟩
    simp only at q0 q1 q3
    subst q0 q1
    obtain ⟨s1, e1, k1, k2⟩ := X_try (hn.keep (Keep.fr27 q3)).2.1 hw
    obtain ⟨s2, e2, k3, k4⟩ := X_takeKind k1 hw (k := 1 + j) hl (by omega) (by omega)
    obtain ⟨⟨b, u⟩, e3, rfl, k5⟩ := X_heatsAs k3 (kind_WF hw hl (by omega) (by omega)) (l := l) (n := n) (i := i) (r := r) (T := T) hl hr hn1 hin hmm (fun k hk => by
      rw [k4 _ (by unfold blk; omega), k2 _ (by unfold blk; omega), q3 _ (by unfold blk; omega)]; exact hT k hk)
    refine ⟨(accI (fun k => soH (kindH h l k) l T n) 1 (j + 1), nI (1 + (j + 1)), u), ?_, rfl, rfl, q3.tr (k2.tr (k4.tr k5))⟩
    have ej : 1 + j + 1 = 1 + (j + 1) := by omega
    unfold f_X11_sortsThatFit_L6
    cases hs : soH (kindH h l (1 + j)) l T n <;> rw [hs] at e3 <;> simp (disch := omega) only [↓lt_eq, ↓reduceIte, ↓un1, ↓un2, ↓un3, ↓un4, ↓bd_some, ↓bind_some', ↓sel_l, ↓sel_r, C1T, C1F, C2T, C2F, C3T, C3F, D1T, D1F, D2T, D2F, D3T, D3F, E1T, E1F, E2T, E2F, E3T, E3F, G1T, G1F, G2T, G2F, G3F, inb_T, inb_L, isB_0, isB_1, isB_b, nI_add, L_add1, L_add2, nI_cl, L_cl, bI_T, bI_F, eq_self, not_true_eq_false, not_false_eq_true, ↓bind_of e1, ↓bind_of e2, ↓bd_of e3, accI, hs, if_false, if_true, Bool.false_eq_true, ej]
  · rintro ⟨a, v, s⟩ ⟨q0, q1, q3⟩
    simp only at q0 q1 q3
    subst q0 q1
    refine ⟨(accI (fun k => soH (kindH h l k) l T n) 1 5, s), ?_, ?_⟩
    · unfold f_X11_sortsThatFit_L6
      simp (disch := omega) only [↓lt_eq, ↓reduceIte, ↓un1, ↓un2, ↓un3, ↓un4, ↓bd_some, ↓bind_some', ↓sel_l, ↓sel_r, C1T, C1F, C2T, C2F, C3T, C3F, D1T, D1F, D2T, D2F, D3T, D3F, E1T, E1F, E2T, E2F, E3T, E3F, G1T, G1F, G2T, G2F, G3F, inb_T, inb_L, isB_0, isB_1, isB_b, nI_add, L_add1, L_add2, nI_cl, L_cl, bI_T, bI_F, eq_self, not_true_eq_false, not_false_eq_true]
    · simp (disch := omega) only [↓lt_eq, ↓reduceIte, ↓un1, ↓un2, ↓un3, ↓un4, ↓bd_some, ↓bind_some', ↓sel_l, ↓sel_r, C1T, C1F, C2T, C2F, C3T, C3F, D1T, D1F, D2T, D2F, D3T, D3F, E1T, E1F, E2T, E2F, E3T, E3F, G1T, G1F, G2T, G2F, G3F, inb_T, inb_L, isB_0, isB_1, isB_b, nI_add, L_add1, L_add2, nI_cl, L_cl, bI_T, bI_F, eq_self, not_true_eq_false, not_false_eq_true]
      exact Ok.ret ⟨rfl, q3⟩
theorem X_rates {σ : St} {h : Hs} (hn : INow σ h) {l n i r : Nat} {T : Nat → Int32} (hl : l < hL h) (hr : r < 8) (hn1 : n ≤ 12) (hin : i + n ≤ 40) (hT : ∀ k, k < n → σ (35 + 2 * r + 1) (i + k) = T k) : Ok (f_X11_ratesThatFit (nI l) (35 + 2 * r) (nI i) (nI n) σ) (fun v => v.1 = accI (fun k => soH (setRt h l k) l T n) 1 20 ∧ Fr (blk 27) σ v.2) := by
  have hw := hn.1
  have hmm := hn.2.2.1
  have hl4 : l < 4 := Nat.lt_of_lt_of_le hl hw.1
  unfold f_X11_ratesThatFit
  rw [lt_eq, lt_eq]
  refine Ok.bind (loop_n (fun j (x : Int32 × Int32 × St) => x.1 = accI (fun k => soH (setRt h l k) l T n) 1 j ∧ x.2.1 = nI (1 + j) ∧ Fr (blk 27) σ x.2.2) _ 20 5000 _ (by omega) ⟨rfl, rfl, Fr.rf⟩ ?_ ?_)
  · rintro j ⟨a, v, s⟩ hj ⟨q0, q1, q3⟩
    simp only at q0 q1 q3
    subst q0 q1
    obtain ⟨s1, e1, k1, k2⟩ := X_try (hn.keep (Keep.fr27 q3)).2.1 hw
    have k3 := k1.setRt l (1 + j)
    obtain ⟨⟨b, u⟩, e3, rfl, k5⟩ := X_heatsAs k3 (hw.setRt l (1 + j) (by omega)) (l := l) (n := n) (i := i) (r := r) (T := T) hl hr hn1 hin hmm (fun k hk => by
      rw [wr_a (by omega), k2 _ (by unfold blk; omega), q3 _ (by unfold blk; omega)]; exact hT k hk)
    refine ⟨(accI (fun k => soH (setRt h l k) l T n) 1 (j + 1), nI (1 + (j + 1)), u), ?_, rfl, rfl, q3.tr (k2.tr ((Fr.w1 (by unfold blk; omega)).tr k5))⟩
    have ej : 1 + j + 1 = 1 + (j + 1) := by omega
    unfold f_X11_ratesThatFit_L6
    cases hs : soH (setRt h l (1 + j)) l T n <;> rw [hs] at e3 <;> simp (disch := omega) only [↓lt_eq, ↓reduceIte, ↓un1, ↓un2, ↓un3, ↓un4, ↓bd_some, ↓bind_some', ↓sel_l, ↓sel_r, C1T, C1F, C2T, C2F, C3T, C3F, D1T, D1F, D2T, D2F, D3T, D3F, E1T, E1F, E2T, E2F, E3T, E3F, G1T, G1F, G2T, G2F, G3F, inb_T, inb_L, isB_0, isB_1, isB_b, nI_add, L_add1, L_add2, nI_cl, L_cl, bI_T, bI_F, eq_self, not_true_eq_false, not_false_eq_true, ↓bind_of e1, ↓bd_of e3, accI, hs, if_false, if_true, Bool.false_eq_true, ej]
  · rintro ⟨a, v, s⟩ ⟨q0, q1, q3⟩
    simp only at q0 q1 q3
    subst q0 q1
    refine ⟨(accI (fun k => soH (setRt h l k) l T n) 1 20, s), ?_, ?_⟩
    · unfold f_X11_ratesThatFit_L6
      simp (disch := omega) only [↓lt_eq, ↓reduceIte, ↓un1, ↓un2, ↓un3, ↓un4, ↓bd_some, ↓bind_some', ↓sel_l, ↓sel_r, C1T, C1F, C2T, C2F, C3T, C3F, D1T, D1F, D2T, D2F, D3T, D3F, E1T, E1F, E2T, E2F, E3T, E3F, G1T, G1F, G2T, G2F, G3F, inb_T, inb_L, isB_0, isB_1, isB_b, nI_add, L_add1, L_add2, nI_cl, L_cl, bI_T, bI_F, eq_self, not_true_eq_false, not_false_eq_true]
    · simp (disch := omega) only [↓lt_eq, ↓reduceIte, ↓un1, ↓un2, ↓un3, ↓un4, ↓bd_some, ↓bind_some', ↓sel_l, ↓sel_r, C1T, C1F, C2T, C2F, C3T, C3F, D1T, D1F, D2T, D2F, D3T, D3F, E1T, E1F, E2T, E2F, E3T, E3F, G1T, G1F, G2T, G2F, G3F, inb_T, inb_L, isB_0, isB_1, isB_b, nI_add, L_add1, L_add2, nI_cl, L_cl, bI_T, bI_F, eq_self, not_true_eq_false, not_false_eq_true]
      exact Ok.ret ⟨rfl, q3⟩
theorem X_heats {σ : St} {h : Hs} (hn : INow σ h) {l n i r : Nat} {T : Nat → Int32} (hl : l < hL h) (hr : r < 8) (hn1 : n ≤ 12) (hin : i + n ≤ 40) (hT : ∀ k, k < n → σ (35 + 2 * r + 1) (i + k) = T k) : Ok (f_X11_heatsThatFit (nI l) (35 + 2 * r) (nI i) (nI n) σ) (fun v => v.1 = accI (fun k => soH (setHt h l k) l T n) 0 10 ∧ Fr (blk 27) σ v.2) := by
  have hw := hn.1
  have hmm := hn.2.2.1
  have hl4 : l < 4 := Nat.lt_of_lt_of_le hl hw.1
  unfold f_X11_heatsThatFit
  rw [lt_eq, lt_eq]
  refine Ok.bind (loop_n (fun j (x : Int32 × Int32 × St) => x.1 = accI (fun k => soH (setHt h l k) l T n) 0 j ∧ x.2.1 = nI (0 + j) ∧ Fr (blk 27) σ x.2.2) _ 10 5000 _ (by omega) ⟨rfl, rfl, Fr.rf⟩ ?_ ?_)
  · rintro j ⟨a, v, s⟩ hj ⟨q0, q1, q3⟩
    simp only at q0 q1 q3
    subst q0 q1
    obtain ⟨s1, e1, k1, k2⟩ := X_try (hn.keep (Keep.fr27 q3)).2.1 hw
    have k3 := k1.setHt l (0 + j)
    obtain ⟨⟨b, u⟩, e3, rfl, k5⟩ := X_heatsAs k3 (hw.setHt l (0 + j) (by omega)) (l := l) (n := n) (i := i) (r := r) (T := T) hl hr hn1 hin hmm (fun k hk => by
      rw [wr_a (by omega), k2 _ (by unfold blk; omega), q3 _ (by unfold blk; omega)]; exact hT k hk)
    refine ⟨(accI (fun k => soH (setHt h l k) l T n) 0 (j + 1), nI (0 + (j + 1)), u), ?_, rfl, rfl, q3.tr (k2.tr ((Fr.w1 (by unfold blk; omega)).tr k5))⟩
    have ej : 0 + j + 1 = 0 + (j + 1) := by omega
    unfold f_X11_heatsThatFit_L6
    cases hs : soH (setHt h l (0 + j)) l T n <;> rw [hs] at e3 <;> simp (disch := omega) only [↓lt_eq, ↓reduceIte, ↓un1, ↓un2, ↓un3, ↓un4, ↓bd_some, ↓bind_some', ↓sel_l, ↓sel_r, C1T, C1F, C2T, C2F, C3T, C3F, D1T, D1F, D2T, D2F, D3T, D3F, E1T, E1F, E2T, E2F, E3T, E3F, G1T, G1F, G2T, G2F, G3F, inb_T, inb_L, isB_0, isB_1, isB_b, nI_add, L_add1, L_add2, nI_cl, L_cl, bI_T, bI_F, eq_self, not_true_eq_false, not_false_eq_true, ↓bind_of e1, ↓bd_of e3, accI, hs, if_false, if_true, Bool.false_eq_true, ej]
  · rintro ⟨a, v, s⟩ ⟨q0, q1, q3⟩
    simp only at q0 q1 q3
    subst q0 q1
    refine ⟨(accI (fun k => soH (setHt h l k) l T n) 0 10, s), ?_, ?_⟩
    · unfold f_X11_heatsThatFit_L6
      simp (disch := omega) only [↓lt_eq, ↓reduceIte, ↓un1, ↓un2, ↓un3, ↓un4, ↓bd_some, ↓bind_some', ↓sel_l, ↓sel_r, C1T, C1F, C2T, C2F, C3T, C3F, D1T, D1F, D2T, D2F, D3T, D3F, E1T, E1F, E2T, E2F, E3T, E3F, G1T, G1F, G2T, G2F, G3F, inb_T, inb_L, isB_0, isB_1, isB_b, nI_add, L_add1, L_add2, nI_cl, L_cl, bI_T, bI_F, eq_self, not_true_eq_false, not_false_eq_true]
    · simp (disch := omega) only [↓lt_eq, ↓reduceIte, ↓un1, ↓un2, ↓un3, ↓un4, ↓bd_some, ↓bind_some', ↓sel_l, ↓sel_r, C1T, C1F, C2T, C2F, C3T, C3F, D1T, D1F, D2T, D2F, D3T, D3F, E1T, E1F, E2T, E2F, E3T, E3F, G1T, G1F, G2T, G2F, G3F, inb_T, inb_L, isB_0, isB_1, isB_b, nI_add, L_add1, L_add2, nI_cl, L_cl, bI_T, bI_F, eq_self, not_true_eq_false, not_false_eq_true]
      exact Ok.ret ⟨rfl, q3⟩
def mnC (p : Nat → Bool) : Nat → Nat
  | 0 => 0
  | i + 1 => mnC p i + (if p (60 - i) then 1 else 0)
def mnL (p : Nat → Bool) : Nat → Int32
  | 0 => -1000000
  | i + 1 => if p (60 - i) then nI (60 - i) else mnL p i
theorem nI_dn {i : Nat} (h : i < 60) : nI (60 - i) + (-1) = nI (60 - (i + 1)) := by
  have e : 60 - i = (60 - (i + 1)) + 1 := by omega
  rw [e, pk_m1]
theorem X_mains {σ : St} {h : Hs} (hn : INow σ h) {l n i r : Nat} {T : Nat → Int32} (hl : l < hL h) (hr : r < 8) (hn1 : n ≤ 12) (hin : i + n ≤ 40) (hT : ∀ k, k < n → σ (35 + 2 * r + 1) (i + k) = T k) (w : Bool) : Ok (f_X11_mainsThatFit (nI l) (35 + 2 * r) (nI i) (nI n) (bI w) σ) (fun v => v.1 = (if w then mnL (fun k => soH (setMain h k) l T n) 60 else nI (mnC (fun k => soH (setMain h k) l T n) 60)) ∧ Fr (blk 27) σ v.2) := by
  have hw := hn.1
  have hmm := hn.2.2.1
  unfold f_X11_mainsThatFit
  simp only [lt_eq]
  refine Ok.bind (loop_n (fun j (x : Int32 × Int32 × Int32 × St) => x.1 = nI (mnC (fun k => soH (setMain h k) l T n) j) ∧ x.2.1 = mnL (fun k => soH (setMain h k) l T n) j ∧ x.2.2.1 = nI (60 - j) ∧ Fr (blk 27) σ x.2.2.2) _ 60 5000 _ (by omega) ⟨rfl, rfl, rfl, Fr.rf⟩ ?_ ?_)
  · rintro j ⟨a, b, v, s⟩ hj ⟨q0, q1, q2, q3⟩
    simp only at q0 q1 q2 q3
    subst q0 q1 q2
    obtain ⟨s1, e1, k1, k2⟩ := X_try (hn.keep (Keep.fr27 q3)).2.1 hw
    have k3 := k1.setMain (60 - j)
    obtain ⟨⟨b, u⟩, e3, rfl, k5⟩ := X_heatsAs k3 (hw.setMain (60 - j) (by omega)) (l := l) (n := n) (i := i) (r := r) (T := T) hl hr hn1 hin hmm (fun k hk => by
      rw [wr_a (by omega), k2 _ (by unfold blk; omega), q3 _ (by unfold blk; omega)]; exact hT k hk)
    refine ⟨(nI (mnC (fun k => soH (setMain h k) l T n) (j + 1)), mnL (fun k => soH (setMain h k) l T n) (j + 1), nI (60 - (j + 1)), u), ?_, rfl, rfl, rfl, q3.tr (k2.tr ((Fr.w1 (by unfold blk; omega)).tr k5))⟩
    unfold f_X11_mainsThatFit_L11
    cases hs : soH (setMain h (60 - j)) l T n <;> rw [hs] at e3 <;> simp (disch := omega) only [↓lt_eq, ↓reduceIte, ↓un1, ↓un2, ↓un3, ↓un4, ↓bd_some, ↓bind_some', ↓sel_l, ↓sel_r, C1T, C1F, C2T, C2F, C3T, C3F, D1T, D1F, D2T, D2F, D3T, D3F, E1T, E1F, E2T, E2F, E3T, E3F, G1T, G1F, G2T, G2F, G3F, inb_T, inb_L, isB_0, isB_1, isB_b, nI_add, L_add1, L_add2, nI_cl, L_cl, bI_T, bI_F, eq_self, not_true_eq_false, not_false_eq_true, ↓bind_of e1, ↓bd_of e3, mnC, mnL, hs, if_false, if_true, Bool.false_eq_true, nI_dn hj, Nat.add_zero]
  · rintro ⟨a, b, v, s⟩ ⟨q0, q1, q2, q3⟩
    simp only at q0 q1 q2 q3
    subst q0 q1 q2
    refine ⟨(nI (mnC (fun k => soH (setMain h k) l T n) 60), mnL (fun k => soH (setMain h k) l T n) 60, s), ?_, ?_⟩
    · unfold f_X11_mainsThatFit_L11
      simp (disch := omega) only [↓lt_eq, ↓reduceIte, ↓un1, ↓un2, ↓un3, ↓un4, ↓bd_some, ↓bind_some', ↓sel_l, ↓sel_r, C1T, C1F, C2T, C2F, C3T, C3F, D1T, D1F, D2T, D2F, D3T, D3F, E1T, E1F, E2T, E2F, E3T, E3F, G1T, G1F, G2T, G2F, G3F, inb_T, inb_L, isB_0, isB_1, isB_b, nI_add, L_add1, L_add2, nI_cl, L_cl, bI_T, bI_F, eq_self, not_true_eq_false, not_false_eq_true]
    · cases w
      · simp (disch := omega) only [↓lt_eq, ↓reduceIte, ↓un1, ↓un2, ↓un3, ↓un4, ↓bd_some, ↓bind_some', ↓sel_l, ↓sel_r, C1T, C1F, C2T, C2F, C3T, C3F, D1T, D1F, D2T, D2F, D3T, D3F, E1T, E1F, E2T, E2F, E3T, E3F, G1T, G1F, G2T, G2F, G3F, inb_T, inb_L, isB_0, isB_1, isB_b, nI_add, L_add1, L_add2, nI_cl, L_cl, bI_T, bI_F, eq_self, not_true_eq_false, not_false_eq_true, if_false, Bool.false_eq_true]
        exact Ok.ret ⟨rfl, q3⟩
      · simp (disch := omega) only [↓lt_eq, ↓reduceIte, ↓un1, ↓un2, ↓un3, ↓un4, ↓bd_some, ↓bind_some', ↓sel_l, ↓sel_r, C1T, C1F, C2T, C2F, C3T, C3F, D1T, D1F, D2T, D2F, D3T, D3F, E1T, E1F, E2T, E2F, E3T, E3F, G1T, G1F, G2T, G2F, G3F, inb_T, inb_L, isB_0, isB_1, isB_b, nI_add, L_add1, L_add2, nI_cl, L_cl, bI_T, bI_F, eq_self, not_true_eq_false, not_false_eq_true, if_true]
        exact Ok.ret ⟨rfl, q3⟩
