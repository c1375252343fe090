/-! days by draws -/
def xN (seed : Nat) : Nat → Nat
  | 0 => seed
  | i + 1 => xN seed i * 16807 % 2147483647
theorem xN_lt {seed : Nat} (h : seed < 2147483647) : ∀ i, xN seed i < 2147483647
  | 0 => h
  | i + 1 => Nat.mod_lt _ (by decide)
theorem l_next {x : Nat} (h : x < 2147483647) : lN x * (16807 : Int64) - lN x * (16807 : Int64) / (2147483647 : Int64) * (2147483647 : Int64) = lN (x * 16807 % 2147483647) := by
  have e : lN x * (16807 : Int64) = lN (x * 16807) := lN_mul x 16807
  rw [e]
  exact pk_lRem (a := x * 16807) (b := 2147483647) (by omega) (by omega) (by omega)
theorem l_3 {x : Nat} (h : x < 2147483647) : (lg_cmp (lN x - lN x / (3 : Int64) * (3 : Int64)) (0 : Int64) = 0) = (x % 3 = 0) := by
  have e : lN x - lN x / (3 : Int64) * (3 : Int64) = lN (x % 3) := pk_lRem (a := x) (b := 3) (by omega) (by omega) (by omega)
  rw [e]
  exact propext ((lg_cmp_eq _ _).trans (pk_lEQ (a := x % 3) (b := 0) (by omega) (by omega)))
theorem l_5 {x : Nat} (h : x < 2147483647) : (lg_cmp (lN x - lN x / (5 : Int64) * (5 : Int64)) (0 : Int64) = 0) = (x % 5 = 0) := by
  have e : lN x - lN x / (5 : Int64) * (5 : Int64) = lN (x % 5) := pk_lRem (a := x) (b := 5) (by omega) (by omega) (by omega)
  rw [e]
  exact propext ((lg_cmp_eq _ _).trans (pk_lEQ (a := x % 5) (b := 0) (by omega) (by omega)))
theorem l_N {x n : Nat} (h : x < 2147483647) (h0 : 0 < n) (hn : n ≤ 6) : (lN x - lN x / (nI n).toInt64 * (nI n).toInt64).toInt32 = nI (x % n) := by
  rw [nI_l (by omega), pk_lRem (by omega) h0 (by omega), lN_i]
theorem l_0 {n : Nat} (h0 : 0 < n) (hn : n ≤ 6) : ((nI n).toInt64 = 0) = False := by
  rw [nI_l (by omega)]
  exact eq_false (fun q => absurd ((pk_lEQ (a := n) (b := 0) (by omega) (by omega)).mp q) (by omega))
def mendI (h : Hs) (i : Nat) : Hs := mkH (hL h) (hN h) (hMain h) (hMin h) (hUsed h) (hOn h) (hIn h) (hKd h) (hRt h) (fun l => if l < i ∧ 0 < hDd h l then 0 else hHt h l) (fun l => if l < i then 0 else hDd h l) (hPg h) (hLd h)
theorem htdd_congr {h : Hs} {a a2 b b2 : Nat → Nat} (e1 : a = a2) (e2 : b = b2) : mkH (hL h) (hN h) (hMain h) (hMin h) (hUsed h) (hOn h) (hIn h) (hKd h) (hRt h) a b (hPg h) (hLd h) = mkH (hL h) (hN h) (hMain h) (hMin h) (hUsed h) (hOn h) (hIn h) (hKd h) (hRt h) a2 b2 (hPg h) (hLd h) := by rw [e1, e2]
theorem mendI_0 (h : Hs) : mendI h 0 = h := by
  have e1 : (fun l => if l < 0 ∧ 0 < hDd h l then 0 else hHt h l) = hHt h := funext fun l => if_neg (by omega)
  have e2 : (fun l => if l < 0 then 0 else hDd h l) = hDd h := funext fun l => if_neg (by omega)
  unfold mendI
  rw [e1, e2]
  rfl
theorem mendI_d {h : Hs} {i : Nat} (hd : 0 < hDd h i) : setHt (setDd (mendI h i) i 0) i 0 = mendI h (i + 1) := by
  have e1 : (fun m => if m = i then 0 else (if m < i ∧ 0 < hDd h m then 0 else hHt h m)) = fun l => if l < i + 1 ∧ 0 < hDd h l then 0 else hHt h l := funext fun m => by
    by_cases q : m = i
    · rw [if_pos q, if_pos (by subst q; omega)]
    · rw [if_neg q]
      by_cases z : m < i ∧ 0 < hDd h m
      · rw [if_pos z, if_pos (by omega)]
      · rw [if_neg z, if_neg (by omega)]
  have e2 : (fun m => if m = i then 0 else (if m < i then 0 else hDd h m)) = fun l => if l < i + 1 then 0 else hDd h l := funext fun m => by
    by_cases q : m = i
    · rw [if_pos q, if_pos (by omega)]
    · rw [if_neg q]
      by_cases z : m < i
      · rw [if_pos z, if_pos (by omega)]
      · rw [if_neg z, if_neg (by omega)]
  exact htdd_congr (h := h) e1 e2
theorem mendI_n {h : Hs} {i : Nat} (hd : hDd h i = 0) : mendI h i = mendI h (i + 1) := by
  have e1 : (fun m => if m < i ∧ 0 < hDd h m then 0 else hHt h m) = fun l => if l < i + 1 ∧ 0 < hDd h l then 0 else hHt h l := funext fun m => by
    by_cases z : m < i ∧ 0 < hDd h m
    · rw [if_pos z, if_pos (by omega)]
    · rw [if_neg z, if_neg]
      rintro ⟨z1, z2⟩
      have : m = i := by omega
      subst this
      omega
  have e2 : (fun m => if m < i then 0 else hDd h m) = fun l => if l < i + 1 then 0 else hDd h l := funext fun m => by
    by_cases z : m < i
    · rw [if_pos z, if_pos (by omega)]
    · rw [if_neg z]
      by_cases q : m = i
      · rw [if_pos (by omega), q]; exact hd
      · rw [if_neg (by omega)]
  exact htdd_congr (h := h) e1 e2
theorem mendI_WF {h : Hs} (hw : WF h) (i : Nat) : WF (mendI h i) := by
  obtain ⟨h1, h2, h3, h4, h5, h6, h7, h8⟩ := hw
  refine ⟨h1, h2, h3, h4, h5, h6, fun m hm => ?_, h8⟩
  obtain ⟨q1, q2, q3, q4, q5⟩ := h7 m hm
  refine ⟨q1, q2, q3, ?_, ?_⟩
  · show (if m < i ∧ 0 < hDd h m then 0 else hHt h m) ≤ 99
    split <;> omega
  · show (if m < i then 0 else hDd h m) ≤ 3
    split <;> omega
theorem mendI_dd (h : Hs) (i : Nat) : hDd (mendI h i) i = hDd h i := by
  show (if i < i then 0 else hDd h i) = hDd h i
  rw [if_neg (by omega)]
theorem X_mendLine {a l : Nat} {σ : St} (hl : l < 4) : f_X3_mendLine a (nI l) σ = some (wr (wr σ (a + 4) l (nI 0)) (a + 3) l (nI 0)) := by
  unfold f_X3_mendLine
  simp (disch := omega) only [↓lt_eq, ↓reduceIte, ↓un1, ↓un2, ↓un3, ↓un4, ↓bd_some, ↓bind_some', ↓sel_l, ↓sel_r, C1T, C1F, C2T, C2F, C3T, C3F, D1T, D1F, D2T, D2F, D3T, D3F, E1T, E1F, E2T, E2F, E3T, E3F, G1T, G1F, G2T, G2F, G3F, inb_T, inb_L, isB_0, isB_1, isB_b, nI_add, L_add1, L_add2, nI_cl, L_cl, bI_T, bI_F, eq_self, not_true_eq_false, not_false_eq_true, nI_0]
theorem M_mends {b l : Nat} {σ : St} (hl : l < 4) (hb : b ≤ 729) : f_X12_mends (nI b) (nI l) σ = some (wr (wr σ 260 (b + 4 + l) (nI 0)) 260 (b + l) (nI 0)) := by
  unfold f_X12_mends
  simp (disch := omega) only [↓lt_eq, ↓reduceIte, ↓un1, ↓un2, ↓un3, ↓un4, ↓bd_some, ↓bind_some', ↓sel_l, ↓sel_r, C1T, C1F, C2T, C2F, C3T, C3F, D1T, D1F, D2T, D2F, D3T, D3F, E1T, E1F, E2T, E2F, E3T, E3F, G1T, G1F, G2T, G2F, G3F, inb_T, inb_L, isB_0, isB_1, isB_b, nI_add, L_add1, L_add2, nI_cl, L_cl, bI_T, bI_F, eq_self, not_true_eq_false, not_false_eq_true, nI_0]
theorem X_mendAll {σ : St} {h : Hs} (hx : HX 27 σ h) (hw : WF h) : Ok (f_X3_mendAll 27 σ) (fun s => HX 27 s (setIn (mendI h (hL h)) true) ∧ Fr (blk 27) σ s) := by
  have hL4 := hw.1
  unfold f_X3_mendAll
  rw [lt_eq]
  refine Ok.bind (loop_n (fun i (x : Int32 × St) => x.1 = nI i ∧ HX 27 x.2 (mendI h i) ∧ Fr (blk 27) σ x.2) _ (hL h) 5000 _ (by omega) ⟨rfl, by rw [mendI_0]; exact hx, Fr.rf⟩ ?_ ?_)
  · rintro i ⟨v, s⟩ hi ⟨q1, q2, q3⟩
    simp only at q1 q2 q3
    subst q1
    have e0 : s 27 1 = nI (hL h) := q2.1
    have e1 := X_isDead q2 (mendI_WF hw i) (l := i) hi
    rw [mendI_dd] at e1
    have hdb := (hw.2.2.2.2.2.2.1 i hi).2.2.2.2
    by_cases c : 0 < hDd h i
    · rw [decide_eq_true c] at e1
      have e2 := X_mendLine (a := 27) (σ := s) (l := i) (by omega)
      refine ⟨(nI (i + 1), wr (wr s (27 + 4) i (nI 0)) (27 + 3) i (nI 0)), ?_, rfl, ?_, q3.tr ((Fr.w1 (by unfold blk; omega)).tr (Fr.w1 (by unfold blk; omega)))⟩
      · unfold f_X3_mendAll_L2
        simp (disch := omega) only [↓lt_eq, ↓reduceIte, ↓un1, ↓un2, ↓un3, ↓un4, ↓bd_some, ↓bind_some', ↓sel_l, ↓sel_r, C1T, C1F, C2T, C2F, C3T, C3F, D1T, D1F, D2T, D2F, D3T, D3F, E1T, E1F, E2T, E2F, E3T, E3F, G1T, G1F, G2T, G2F, G3F, inb_T, inb_L, isB_0, isB_1, isB_b, nI_add, L_add1, L_add2, nI_cl, L_cl, bI_T, bI_F, eq_self, not_true_eq_false, not_false_eq_true, e0, ↓bd_of e1, ↓bind_of e2]
      · rw [← mendI_d c]
        exact (q2.setDd i 0).setHt i 0
    · rw [decide_eq_false c] at e1
      refine ⟨(nI (i + 1), s), ?_, rfl, ?_, q3⟩
      · unfold f_X3_mendAll_L2
        simp (disch := omega) only [↓lt_eq, ↓reduceIte, ↓un1, ↓un2, ↓un3, ↓un4, ↓bd_some, ↓bind_some', ↓sel_l, ↓sel_r, C1T, C1F, C2T, C2F, C3T, C3F, D1T, D1F, D2T, D2F, D3T, D3F, E1T, E1F, E2T, E2F, E3T, E3F, G1T, G1F, G2T, G2F, G3F, inb_T, inb_L, isB_0, isB_1, isB_b, nI_add, L_add1, L_add2, nI_cl, L_cl, bI_T, bI_F, eq_self, not_true_eq_false, not_false_eq_true, e0, ↓bd_of e1]
      · rw [← mendI_n (by omega)]; exact q2
  · rintro ⟨v, s⟩ ⟨q1, q2, q3⟩
    simp only at q1 q2 q3
    subst q1
    have e0 : s 27 1 = nI (hL h) := q2.1
    refine ⟨s, ?_, ?_⟩
    · unfold f_X3_mendAll_L2
      simp (disch := omega) only [↓lt_eq, ↓reduceIte, ↓un1, ↓un2, ↓un3, ↓un4, ↓bd_some, ↓bind_some', ↓sel_l, ↓sel_r, C1T, C1F, C2T, C2F, C3T, C3F, D1T, D1F, D2T, D2F, D3T, D3F, E1T, E1F, E2T, E2F, E3T, E3F, G1T, G1F, G2T, G2F, G3F, inb_T, inb_L, isB_0, isB_1, isB_b, nI_add, L_add1, L_add2, nI_cl, L_cl, bI_T, bI_F, eq_self, not_true_eq_false, not_false_eq_true, e0]
    · simp (disch := omega) only [↓lt_eq, ↓reduceIte, ↓un1, ↓un2, ↓un3, ↓un4, ↓bd_some, ↓bind_some', ↓sel_l, ↓sel_r, C1T, C1F, C2T, C2F, C3T, C3F, D1T, D1F, D2T, D2F, D3T, D3F, E1T, E1F, E2T, E2F, E3T, E3F, G1T, G1F, G2T, G2F, G3F, inb_T, inb_L, isB_0, isB_1, isB_b, nI_add, L_add1, L_add2, nI_cl, L_cl, bI_T, bI_F, eq_self, not_true_eq_false, not_false_eq_true]
      exact Ok.ret ⟨q2.setIn true, q3.tr (Fr.w1 (by unfold blk; omega))⟩
theorem M_mendLoop {σ : St} {h : Hs} (hx : HM 729 0 σ h) (hw : WF h) : Ok (loopF f_X12_drawn_L154 5000 ((0 : Int32), σ)) (fun s => HM 729 0 s (mendI h (hL h)) ∧ FrM 729 σ s) := by
  have hL4 := hw.1
  refine loop_n (fun i (x : Int32 × St) => x.1 = nI i ∧ HM 729 0 x.2 (mendI h i) ∧ FrM 729 σ x.2) _ (hL h) 5000 _ (by omega) ⟨rfl, by rw [mendI_0]; exact hx, FrM.rf⟩ ?_ ?_
  · rintro i ⟨v, s⟩ hi ⟨q1, q2, q3⟩
    simp only at q1 q2 q3
    subst q1
    have e0 : s 261 0 = nI (hL h) := q2.1
    have e1 : s 260 (733 + i) = _ := q2.g_dd (l := i) hi (by omega)
    rw [mendI_dd] at e1
    have hdb := (hw.2.2.2.2.2.2.1 i hi).2.2.2.2
    by_cases c : 0 < hDd h i
    · have e2 : f_X12_mends (729 : Int32) (nI i) s = _ := M_mends (b := 729) (σ := s) (l := i) (by omega) (by omega)
      refine ⟨(nI (i + 1), wr (wr s 260 (729 + 4 + i) (nI 0)) 260 (729 + i) (nI 0)), ?_, rfl, ?_, ?_⟩
      · unfold f_X12_drawn_L154
        simp (disch := omega) only [↓lt_eq, ↓reduceIte, ↓un1, ↓un2, ↓un3, ↓un4, ↓bd_some, ↓bind_some', ↓sel_l, ↓sel_r, C1T, C1F, C2T, C2F, C3T, C3F, D1T, D1F, D2T, D2F, D3T, D3F, E1T, E1F, E2T, E2F, E3T, E3F, G1T, G1F, G2T, G2F, G3F, inb_T, inb_L, isB_0, isB_1, isB_b, nI_add, L_add1, L_add2, nI_cl, L_cl, bI_T, bI_F, eq_self, not_true_eq_false, not_false_eq_true, e0, e1, ↓bind_of e2]
      · rw [← mendI_d c]
        exact (q2.setDd (k := 729 + 4 + i) (mendI_WF hw i) i 0 (by omega) rfl).setHt (k := 729 + i) ((mendI_WF hw i).setDd i 0 (by omega)) i 0 (by omega) rfl
      · exact q3.tr ((FrM.w1 (by omega) (by omega)).tr (FrM.w1 (by omega) (by omega)))
    · refine ⟨(nI (i + 1), s), ?_, rfl, ?_, q3⟩
      · unfold f_X12_drawn_L154
        simp (disch := omega) only [↓lt_eq, ↓reduceIte, ↓un1, ↓un2, ↓un3, ↓un4, ↓bd_some, ↓bind_some', ↓sel_l, ↓sel_r, C1T, C1F, C2T, C2F, C3T, C3F, D1T, D1F, D2T, D2F, D3T, D3F, E1T, E1F, E2T, E2F, E3T, E3F, G1T, G1F, G2T, G2F, G3F, inb_T, inb_L, isB_0, isB_1, isB_b, nI_add, L_add1, L_add2, nI_cl, L_cl, bI_T, bI_F, eq_self, not_true_eq_false, not_false_eq_true, e0, e1]
      · rw [← mendI_n (by omega)]; exact q2
  · rintro ⟨v, s⟩ ⟨q1, q2, q3⟩
    simp only at q1 q2 q3
    subst q1
    have e0 : s 261 0 = nI (hL h) := q2.1
    refine ⟨s, ?_, q2, q3⟩
    unfold f_X12_drawn_L154
    simp (disch := omega) only [↓lt_eq, ↓reduceIte, ↓un1, ↓un2, ↓un3, ↓un4, ↓bd_some, ↓bind_some', ↓sel_l, ↓sel_r, C1T, C1F, C2T, C2F, C3T, C3F, D1T, D1F, D2T, D2F, D3T, D3F, E1T, E1F, E2T, E2F, E3T, E3F, G1T, G1F, G2T, G2F, G3F, inb_T, inb_L, isB_0, isB_1, isB_b, nI_add, L_add1, L_add2, nI_cl, L_cl, bI_T, bI_F, eq_self, not_true_eq_false, not_false_eq_true, e0]
def drawH (h : Hs) (x : Nat) : Hs := if x % 3 = 0 then setOn h (hOn h ^^^ 2 ^ (x % hN h)) else if x % 5 = 0 then setIn (mendI h (hL h)) true else h
theorem draw_WF {h : Hs} (hw : WF h) (x : Nat) (h0 : 0 < hN h) : WF (drawH h x) := by
  unfold drawH
  split
  · refine hw.setOn _ (Nat.xor_lt_two_pow hw.2.2.2.2.2.1 (Nat.pow_lt_pow_right (by decide) (Nat.mod_lt _ h0)))
  · split
    · exact (mendI_WF hw _).setIn true
    · exact hw
theorem draw_L (h : Hs) (x : Nat) : hL (drawH h x) = hL h := by unfold drawH; split; rfl; split <;> rfl
theorem draw_N (h : Hs) (x : Nat) : hN (drawH h x) = hN h := by unfold drawH; split; rfl; split <;> rfl
theorem draw_m (h : Hs) (x : Nat) : hMin (drawH h x) = hMin h := by unfold drawH; split; rfl; split <;> rfl
theorem X_draw {σ : St} {h : Hs} (hx : HX 27 σ h) (hw : WF h) (h0 : 0 < hN h) {x : Nat} (hX : x < 2147483647) : Ok (f_X3_draw 27 (lN x) σ) (fun s => HX 27 s (drawH h x) ∧ Fr (blk 27) σ s) := by
  have hN6 := hw.2.1
  have e3 := l_3 hX
  have e5 := l_5 hX
  have e2 : σ 27 2 = nI (hN h) := hx.2.1
  unfold f_X3_draw drawH
  by_cases c3 : x % 3 = 0
  · have hlt : x % hN h < hN h := Nat.mod_lt _ h0
    have et := X_toggle hx hw (t := x % hN h) (by omega)
    simp (disch := omega) only [↓lt_eq, ↓reduceIte, ↓un1, ↓un2, ↓un3, ↓un4, ↓bd_some, ↓bind_some', ↓sel_l, ↓sel_r, C1T, C1F, C2T, C2F, C3T, C3F, D1T, D1F, D2T, D2F, D3T, D3F, E1T, E1F, E2T, E2F, E3T, E3F, G1T, G1F, G2T, G2F, G3F, inb_T, inb_L, isB_0, isB_1, isB_b, nI_add, L_add1, L_add2, nI_cl, L_cl, bI_T, bI_F, eq_self, not_true_eq_false, not_false_eq_true, e3, c3, e2, l_N hX h0 hN6, l_0 h0 hN6, ↓bind_of et]
    exact Ok.ret ⟨hx.setOn _, Fr.w1 (by unfold blk; omega)⟩
  · by_cases c5 : x % 5 = 0
    · simp (disch := omega) only [↓lt_eq, ↓reduceIte, ↓un1, ↓un2, ↓un3, ↓un4, ↓bd_some, ↓bind_some', ↓sel_l, ↓sel_r, C1T, C1F, C2T, C2F, C3T, C3F, D1T, D1F, D2T, D2F, D3T, D3F, E1T, E1F, E2T, E2F, E3T, E3F, G1T, G1F, G2T, G2F, G3F, inb_T, inb_L, isB_0, isB_1, isB_b, nI_add, L_add1, L_add2, nI_cl, L_cl, bI_T, bI_F, eq_self, not_true_eq_false, not_false_eq_true, e3, c3, e5, c5]
      exact Ok.bind (Ok.mono (X_mendAll hx hw) (fun s q => Ok.ret q))
    · simp (disch := omega) only [↓lt_eq, ↓reduceIte, ↓un1, ↓un2, ↓un3, ↓un4, ↓bd_some, ↓bind_some', ↓sel_l, ↓sel_r, C1T, C1F, C2T, C2F, C3T, C3F, D1T, D1F, D2T, D2F, D3T, D3F, E1T, E1F, E2T, E2F, E3T, E3F, G1T, G1F, G2T, G2F, G3F, inb_T, inb_L, isB_0, isB_1, isB_b, nI_add, L_add1, L_add2, nI_cl, L_cl, bI_T, bI_F, eq_self, not_true_eq_false, not_false_eq_true, e3, c3, e5, c5]
      exact Ok.ret ⟨hx, Fr.rf⟩
/-- the reference draws -/
theorem sub_b (b : Bool) : (1 : Int32) - bI b = bI (!b) := by cases b <;> rfl
theorem xor_tb (a t q : Nat) : (a ^^^ 2 ^ t).testBit q = if q = t then !a.testBit q else a.testBit q := by
  rw [Nat.testBit_xor, Nat.testBit_two_pow]
  by_cases e : q = t
  · rw [if_pos e, decide_eq_true e.symm]; cases a.testBit q <;> rfl
  · rw [if_neg e, decide_eq_false (fun z => e z.symm)]; cases a.testBit q <;> rfl
theorem M_flip {σ : St} {h : Hs} (hm : HM 729 0 σ h) (hw : WF h) {t : Nat} (ht : t < hN h) : HM 729 0 (wr σ 260 (747 + t) (bI (!isOnH h t))) (setOn h (hOn h ^^^ 2 ^ t)) := by
  have hN6 := hw.2.1
  refine hm.setOn hw _ (wr_a (by omega)) (fun k q => wr_k (by omega)) (fun q hq => ?_)
  rw [xor_tb]
  by_cases e : q = t
  · rw [if_pos e, e, show 729 + 18 + t = 747 + t from rfl, wr_same]; rfl
  · rw [if_neg e, wr_k (by omega)]; exact hm.g_on hq rfl
def dayH (h : Hs) (seed : Nat) : Nat → Hs
  | 0 => setUsed h 0
  | i + 1 => minuteH (drawH (dayH h seed i) (xN seed (i + 1)))
theorem day_L (h : Hs) (seed : Nat) : ∀ i, hL (dayH h seed i) = hL h
  | 0 => rfl
  | i + 1 => (draw_L _ _).trans (day_L h seed i)
theorem day_N (h : Hs) (seed : Nat) : ∀ i, hN (dayH h seed i) = hN h
  | 0 => rfl
  | i + 1 => (draw_N _ _).trans (day_N h seed i)
theorem day_m (h : Hs) (seed : Nat) : ∀ i, hMin (dayH h seed i) = hMin h + i
  | 0 => rfl
  | i + 1 => by
    show hMin (drawH (dayH h seed i) (xN seed (i + 1))) + 1 = _
    rw [draw_m, day_m h seed i]; omega
theorem day_WF {h : Hs} (hw : WF h) (h0 : 0 < hN h) (seed : Nat) : ∀ i, hMin h + i ≤ 20000 → WF (dayH h seed i)
  | 0, _ => hw.setUsed 0 (by omega)
  | i + 1, q => minute_WF (draw_WF (day_WF hw h0 seed i (by omega)) _ (by rw [day_N]; exact h0)) (by rw [draw_m, day_m]; omega)
theorem X_days {σ : St} {h : Hs} (hx : HX 27 σ (setUsed h 0)) (hw : WF h) (h0 : 0 < hN h) {n seed : Nat} (hn : n ≤ 60) (hs : seed < 2147483647) (hmm : hMin h ≤ 9999) : Ok (loopF (f_X11_drawn_L70 (nI n)) 5000 (lN seed, (0 : Int32), σ)) (fun s => HX 27 s (dayH h seed n) ∧ Fr (blk 27) σ s) := by
  refine loop_n (fun i (x : Int64 × Int32 × St) => x.1 = lN (xN seed i) ∧ x.2.1 = nI i ∧ HX 27 x.2.2 (dayH h seed i) ∧ Fr (blk 27) σ x.2.2) _ n 5000 _ (by omega) ⟨rfl, rfl, hx, Fr.rf⟩ ?_ ?_
  · rintro i ⟨y, v, s⟩ hi ⟨q0, q1, q2, q3⟩
    simp only at q0 q1 q2 q3
    subst q0 q1
    have hX := xN_lt hs i
    have hw1 := day_WF hw h0 seed i (by omega)
    have h01 : 0 < hN (dayH h seed i) := by rw [day_N]; exact h0
    obtain ⟨s1, e1, k1, k2⟩ := X_draw q2 hw1 h01 (xN_lt hs (i + 1))
    obtain ⟨s2, e2, k3, k4⟩ := X_passMinute k1 (draw_WF hw1 _ h01)
    refine ⟨(lN (xN seed (i + 1)), nI (i + 1), s2), ?_, rfl, rfl, k3, q3.tr (k2.tr k4)⟩
    have e3 : lN (xN seed i * 16807 % 2147483647) = lN (xN seed (i + 1)) := rfl
    unfold f_X11_drawn_L70
    simp (disch := omega) only [↓lt_eq, ↓reduceIte, ↓un1, ↓un2, ↓un3, ↓un4, ↓bd_some, ↓bind_some', ↓sel_l, ↓sel_r, C1T, C1F, C2T, C2F, C3T, C3F, D1T, D1F, D2T, D2F, D3T, D3F, E1T, E1F, E2T, E2F, E3T, E3F, G1T, G1F, G2T, G2F, G3F, inb_T, inb_L, isB_0, isB_1, isB_b, nI_add, L_add1, L_add2, nI_cl, L_cl, bI_T, bI_F, eq_self, not_true_eq_false, not_false_eq_true, l_next hX, e3, ↓bind_of e1, ↓bind_of e2]
  · rintro ⟨y, v, s⟩ ⟨q0, q1, q2, q3⟩
    simp only at q0 q1 q2 q3
    subst q0 q1
    refine ⟨s, ?_, q2, q3⟩
    unfold f_X11_drawn_L70
    simp (disch := omega) only [↓lt_eq, ↓reduceIte, ↓un1, ↓un2, ↓un3, ↓un4, ↓bd_some, ↓bind_some', ↓sel_l, ↓sel_r, C1T, C1F, C2T, C2F, C3T, C3F, D1T, D1F, D2T, D2F, D3T, D3F, E1T, E1F, E2T, E2F, E3T, E3F, G1T, G1F, G2T, G2F, G3F, inb_T, inb_L, isB_0, isB_1, isB_b, nI_add, L_add1, L_add2, nI_cl, L_cl, bI_T, bI_F, eq_self, not_true_eq_false, not_false_eq_true]
theorem M_days {σ : St} {h : Hs} (hx : HM 729 0 σ (setUsed h 0)) (hw : WF h) (h0 : 0 < hN h) {n seed : Nat} (hn : n ≤ 60) (hs : seed < 2147483647) (hmm : hMin h ≤ 9999) : Ok (loopF (f_X12_drawn_L71 (nI n)) 5000 (lN seed, (0 : Int32), σ)) (fun s => HM 729 0 s (dayH h seed n) ∧ FrM 729 σ s) := by
  refine loop_n (fun i (x : Int64 × Int32 × St) => x.1 = lN (xN seed i) ∧ x.2.1 = nI i ∧ HM 729 0 x.2.2 (dayH h seed i) ∧ FrM 729 σ x.2.2) _ n 5000 _ (by omega) ⟨rfl, rfl, hx, FrM.rf⟩ ?_ ?_
  · rintro i ⟨y, v, s⟩ hi ⟨q0, q1, q2, q3⟩
    simp only at q0 q1 q2 q3
    subst q0 q1
    have hX := xN_lt hs i
    have hX1 := xN_lt hs (i + 1)
    have hw1 := day_WF hw h0 seed i (by omega)
    have h01 : 0 < hN (dayH h seed i) := by rw [day_N]; exact h0
    have hN6 := hw1.2.1
    have ed : dayH h seed (i + 1) = minuteH (drawH (dayH h seed i) (xN seed (i + 1))) := rfl
    have eN : s 261 1 = nI (hN (dayH h seed i)) := q2.2.1
    have e3 : lN (xN seed i * 16807 % 2147483647) = lN (xN seed (i + 1)) := rfl
    generalize dayH h seed i = g at *
    generalize xN seed (i + 1) = x at *
    have hlt : x % hN g < hN g := Nat.mod_lt _ h01
    have hw2 := draw_WF hw1 x h01
    have hm2 : hMin (drawH g x) + 1 ≤ 20000 := by
      have := day_m h seed (i + 1)
      rw [ed] at this
      have : hMin (drawH g x) + 1 = hMin h + (i + 1) := this
      omega
    rw [ed]
    by_cases c3 : x % 3 = 0
    · have hd : drawH g x = setOn g (hOn g ^^^ 2 ^ (x % hN g)) := if_pos c3
      have k1 := M_flip q2 hw1 hlt
      rw [← hd] at k1
      obtain ⟨s2, e2, k3, k4⟩ := M_goesOn1 k1 hw2 hm2
      have e4 : s 260 (747 + x % hN g) = _ := q2.g_on hlt rfl
      refine ⟨(lN x, nI (i + 1), s2), ?_, rfl, rfl, k3, q3.tr ((FrM.w1 (by omega) (by omega)).tr k4)⟩
      unfold f_X12_drawn_L71
      simp (disch := omega) only [↓lt_eq, ↓reduceIte, ↓un1, ↓un2, ↓un3, ↓un4, ↓bd_some, ↓bind_some', ↓sel_l, ↓sel_r, C1T, C1F, C2T, C2F, C3T, C3F, D1T, D1F, D2T, D2F, D3T, D3F, E1T, E1F, E2T, E2F, E3T, E3F, G1T, G1F, G2T, G2F, G3F, inb_T, inb_L, isB_0, isB_1, isB_b, nI_add, L_add1, L_add2, nI_cl, L_cl, bI_T, bI_F, eq_self, not_true_eq_false, not_false_eq_true, l_next hX, e3, eN, l_N hX1 h01 hN6, l_0 h01 hN6, l_3 hX1, c3, e4, sub_b, ↓bind_of e2]
    · by_cases c5 : x % 5 = 0
      · have hd : drawH g x = setIn (mendI g (hL g)) true := by unfold drawH; rw [if_neg c3, if_pos c5]
        obtain ⟨s1, e1, k1, k2⟩ := M_mendLoop q2 hw1
        have k3 := k1.setIn (k := 753) (mendI_WF hw1 _) true rfl
        rw [← hd] at k3
        obtain ⟨s2, e2, k4, k5⟩ := M_goesOn1 k3 hw2 hm2
        refine ⟨(lN x, nI (i + 1), s2), ?_, rfl, rfl, k4, q3.tr (k2.tr ((FrM.w1 (by omega) (by omega)).tr k5))⟩
        have e2 : f_X12_goesOn 1 (wr s1 260 753 0) = some s2 := e2
        unfold f_X12_drawn_L71
        simp (disch := omega) only [↓lt_eq, ↓reduceIte, ↓un1, ↓un2, ↓un3, ↓un4, ↓bd_some, ↓bind_some', ↓sel_l, ↓sel_r, C1T, C1F, C2T, C2F, C3T, C3F, D1T, D1F, D2T, D2F, D3T, D3F, E1T, E1F, E2T, E2F, E3T, E3F, G1T, G1F, G2T, G2F, G3F, inb_T, inb_L, isB_0, isB_1, isB_b, nI_add, L_add1, L_add2, nI_cl, L_cl, bI_T, bI_F, eq_self, not_true_eq_false, not_false_eq_true, l_next hX, e3, eN, l_N hX1 h01 hN6, l_0 h01 hN6, l_3 hX1, c3, l_5 hX1, c5, ↓bind_of e1, ↓bind_of e2]
      · have hd : drawH g x = g := by unfold drawH; rw [if_neg c3, if_neg c5]
        rw [hd] at hm2
        obtain ⟨s2, e2, k4, k5⟩ := M_goesOn1 q2 hw1 hm2
        rw [hd]
        refine ⟨(lN x, nI (i + 1), s2), ?_, rfl, rfl, k4, q3.tr k5⟩
        unfold f_X12_drawn_L71
        simp (disch := omega) only [↓lt_eq, ↓reduceIte, ↓un1, ↓un2, ↓un3, ↓un4, ↓bd_some, ↓bind_some', ↓sel_l, ↓sel_r, C1T, C1F, C2T, C2F, C3T, C3F, D1T, D1F, D2T, D2F, D3T, D3F, E1T, E1F, E2T, E2F, E3T, E3F, G1T, G1F, G2T, G2F, G3F, inb_T, inb_L, isB_0, isB_1, isB_b, nI_add, L_add1, L_add2, nI_cl, L_cl, bI_T, bI_F, eq_self, not_true_eq_false, not_false_eq_true, l_next hX, e3, eN, l_N hX1 h01 hN6, l_0 h01 hN6, l_3 hX1, c3, l_5 hX1, c5, ↓bind_of e2]
  · rintro ⟨y, v, s⟩ ⟨q0, q1, q2, q3⟩
    simp only at q0 q1 q2 q3
    subst q0 q1
    refine ⟨s, ?_, q2, q3⟩
    unfold f_X12_drawn_L71
    simp (disch := omega) only [↓lt_eq, ↓reduceIte, ↓un1, ↓un2, ↓un3, ↓un4, ↓bd_some, ↓bind_some', ↓sel_l, ↓sel_r, C1T, C1F, C2T, C2F, C3T, C3F, D1T, D1F, D2T, D2F, D3T, D3F, E1T, E1F, E2T, E2F, E3T, E3F, G1T, G1F, G2T, G2F, G3F, inb_T, inb_L, isB_0, isB_1, isB_b, nI_add, L_add1, L_add2, nI_cl, L_cl, bI_T, bI_F, eq_self, not_true_eq_false, not_false_eq_true]
theorem step_drawn (x1 x2 x3 : Int32) : Step Inv (f_X11_drawn x1 x2 x3) (f_X12_drawn x1 x2 x3) := by
  intro σ hI
  obtain ⟨hR, hP, hF, hT, h, o, n, ac, im, hn, ha, hi⟩ := id hI
  have hL4 := hn.L4
  rcases Nat.eq_zero_or_pos (hL h) with hz | hp
  · have e1 := hn.x1
    have e2 := hn.m0
    rw [hz] at e1 e2
    refine step_same (-1000002) hI ?_ ?_
    · unfold f_X11_drawn
      simp (disch := omega) only [↓lt_eq, ↓reduceIte, ↓un1, ↓un2, ↓un3, ↓un4, ↓bd_some, ↓bind_some', ↓sel_l, ↓sel_r, C1T, C1F, C2T, C2F, C3T, C3F, D1T, D1F, D2T, D2F, D3T, D3F, E1T, E1F, E2T, E2F, E3T, E3F, G1T, G1F, G2T, G2F, G3F, inb_T, inb_L, isB_0, isB_1, isB_b, nI_add, L_add1, L_add2, nI_cl, L_cl, bI_T, bI_F, eq_self, not_true_eq_false, not_false_eq_true, ↓bd_of (X_noHouse_1 e1)]
    · unfold f_X12_drawn
      simp (disch := omega) only [↓lt_eq, ↓reduceIte, ↓un1, ↓un2, ↓un3, ↓un4, ↓bd_some, ↓bind_some', ↓sel_l, ↓sel_r, C1T, C1F, C2T, C2F, C3T, C3F, D1T, D1F, D2T, D2F, D3T, D3F, E1T, E1F, E2T, E2F, E3T, E3F, G1T, G1F, G2T, G2F, G3F, inb_T, inb_L, isB_0, isB_1, isB_b, nI_add, L_add1, L_add2, nI_cl, L_cl, bI_T, bI_F, eq_self, not_true_eq_false, not_false_eq_true, ↓bd_of (M_isHouse_0 e2)]
  rcases rng x1 (lo := 0) (hi := 60) 0 60 (by decide) (by decide) (by omega) (by omega) with q | ⟨d, d1, d2, rfl⟩
  · refine step_same (-1000001) hI ?_ ?_
    · unfold f_X11_drawn
      simp (disch := omega) only [↓lt_eq, ↓reduceIte, ↓un1, ↓un2, ↓un3, ↓un4, ↓bd_some, ↓bind_some', ↓sel_l, ↓sel_r, C1T, C1F, C2T, C2F, C3T, C3F, D1T, D1F, D2T, D2F, D3T, D3F, E1T, E1F, E2T, E2F, E3T, E3F, G1T, G1F, G2T, G2F, G3F, inb_T, inb_L, isB_0, isB_1, isB_b, nI_add, L_add1, L_add2, nI_cl, L_cl, bI_T, bI_F, eq_self, not_true_eq_false, not_false_eq_true, ↓bd_of (X_noHouse_0 hn.x1 hp hL4), ↓ite_out2 q]
    · unfold f_X12_drawn
      simp (disch := omega) only [↓lt_eq, ↓reduceIte, ↓un1, ↓un2, ↓un3, ↓un4, ↓bd_some, ↓bind_some', ↓sel_l, ↓sel_r, C1T, C1F, C2T, C2F, C3T, C3F, D1T, D1F, D2T, D2F, D3T, D3F, E1T, E1F, E2T, E2F, E3T, E3F, G1T, G1F, G2T, G2F, G3F, inb_T, inb_L, isB_0, isB_1, isB_b, nI_add, L_add1, L_add2, nI_cl, L_cl, bI_T, bI_F, eq_self, not_true_eq_false, not_false_eq_true, ↓bd_of (M_isHouse_1 hn.m0 hp hL4), ↓bd_of (M_out (lo := 0) (hi := 60) (L := 0) (H := 60) (by decide) (by decide) q)]
  rcases rng x2 (lo := 1) (hi := 999999) 1 999999 (by decide) (by decide) (by omega) (by omega) with q | ⟨sd, s1, s2, rfl⟩
  · refine step_same (-1000001) hI ?_ ?_
    · unfold f_X11_drawn
      simp (disch := omega) only [↓lt_eq, ↓reduceIte, ↓un1, ↓un2, ↓un3, ↓un4, ↓bd_some, ↓bind_some', ↓sel_l, ↓sel_r, C1T, C1F, C2T, C2F, C3T, C3F, D1T, D1F, D2T, D2F, D3T, D3F, E1T, E1F, E2T, E2F, E3T, E3F, G1T, G1F, G2T, G2F, G3F, inb_T, inb_L, isB_0, isB_1, isB_b, nI_add, L_add1, L_add2, nI_cl, L_cl, bI_T, bI_F, eq_self, not_true_eq_false, not_false_eq_true, ↓bd_of (X_noHouse_0 hn.x1 hp hL4), ↓ite_out2 q]
    · unfold f_X12_drawn
      simp (disch := omega) only [↓lt_eq, ↓reduceIte, ↓un1, ↓un2, ↓un3, ↓un4, ↓bd_some, ↓bind_some', ↓sel_l, ↓sel_r, C1T, C1F, C2T, C2F, C3T, C3F, D1T, D1F, D2T, D2F, D3T, D3F, E1T, E1F, E2T, E2F, E3T, E3F, G1T, G1F, G2T, G2F, G3F, inb_T, inb_L, isB_0, isB_1, isB_b, nI_add, L_add1, L_add2, nI_cl, L_cl, bI_T, bI_F, eq_self, not_true_eq_false, not_false_eq_true, ↓bd_of (M_isHouse_1 hn.m0 hp hL4), ↓bd_of (M_inn (σ := σ) (L := 0) (H := 60) (a := 0) (b := 60) (by decide) (by decide) d1 d2 (by decide)), ↓bd_of (M_out (lo := 1) (hi := 999999) (L := 1) (H := 999999) (by decide) (by decide) q)]
  rcases rng x3 (lo := 0) (hi := 1) 0 1 (by decide) (by decide) (by omega) (by omega) with q | ⟨w, w1, w2, rfl⟩
  · refine step_same (-1000001) hI ?_ ?_
    · unfold f_X11_drawn
      simp (disch := omega) only [↓lt_eq, ↓reduceIte, ↓un1, ↓un2, ↓un3, ↓un4, ↓bd_some, ↓bind_some', ↓sel_l, ↓sel_r, C1T, C1F, C2T, C2F, C3T, C3F, D1T, D1F, D2T, D2F, D3T, D3F, E1T, E1F, E2T, E2F, E3T, E3F, G1T, G1F, G2T, G2F, G3F, inb_T, inb_L, isB_0, isB_1, isB_b, nI_add, L_add1, L_add2, nI_cl, L_cl, bI_T, bI_F, eq_self, not_true_eq_false, not_false_eq_true, ↓bd_of (X_noHouse_0 hn.x1 hp hL4), ↓ite_out1 q]
    · unfold f_X12_drawn
      simp (disch := omega) only [↓lt_eq, ↓reduceIte, ↓un1, ↓un2, ↓un3, ↓un4, ↓bd_some, ↓bind_some', ↓sel_l, ↓sel_r, C1T, C1F, C2T, C2F, C3T, C3F, D1T, D1F, D2T, D2F, D3T, D3F, E1T, E1F, E2T, E2F, E3T, E3F, G1T, G1F, G2T, G2F, G3F, inb_T, inb_L, isB_0, isB_1, isB_b, nI_add, L_add1, L_add2, nI_cl, L_cl, bI_T, bI_F, eq_self, not_true_eq_false, not_false_eq_true, ↓bd_of (M_isHouse_1 hn.m0 hp hL4), ↓bd_of (M_inn (σ := σ) (L := 0) (H := 60) (a := 0) (b := 60) (by decide) (by decide) d1 d2 (by decide)), ↓bd_of (M_inn (σ := σ) (L := 1) (H := 999999) (a := 1) (b := 999999) (by decide) (by decide) s1 s2 (by decide)), ↓bd_of (M_out (lo := 0) (hi := 1) (L := 0) (H := 1) (by decide) (by decide) q)]
  have hw := hn.1
  have h0 := (hn.2.2.2.1 hp).1
  have hmm := hn.2.2.1
  have hw' := day_WF hw h0 sd d (by omega)
  have hl64 : maskT (live (dayH h sd d)) (hL h) < 64 := by
    have h1 := maskT_lt (live (dayH h sd d)) (hL h)
    have h2 : 2 ^ hL h ≤ 2 ^ 4 := Nat.pow_le_pow_right (by decide) hw.1
    omega
  have eM : orT (live (dayH h sd d)) (hL h) = nI (maskT (live (dayH h sd d)) (hL h)) := orT_mask _ _ (by have := hw.1; omega)
  refine step_keep (if w = 0 then nI (hUsed (dayH h sd d)) else nI (bcU (maskT (live (dayH h sd d)) (hL h)) 6)) hI ?_ (fun s hk => ?_)
  · obtain ⟨t, e1, k1, k2⟩ := X_try hn.2.1 hw
    have k3 := k1.setUsed 0
    obtain ⟨u, e2, k4, k5⟩ := X_days k3 hw h0 d2 (seed := sd) (by omega) hmm
    have e2 : loopF (f_X11_drawn_L70 (nI d)) 5000 ((nI sd).toInt64, 0, wr t 27 5 0) = some u := by rw [nI_l (by omega)]; exact e2
    have e3 := X_liveLines k4 hw'
    rw [day_L, eM] at e3
    have e4 := k4.2.2.2.2.1
    have kk := Keep.fr27 (k2.tr ((Fr.w1 (by unfold blk; omega)).tr k5))
    unfold f_X11_drawn
    rcases (show w = 0 ∨ w = 1 by omega) with rfl | rfl
    · simp (disch := omega) only [↓lt_eq, ↓reduceIte, ↓un1, ↓un2, ↓un3, ↓un4, ↓bd_some, ↓bind_some', ↓sel_l, ↓sel_r, C1T, C1F, C2T, C2F, C3T, C3F, D1T, D1F, D2T, D2F, D3T, D3F, E1T, E1F, E2T, E2F, E3T, E3F, G1T, G1F, G2T, G2F, G3F, inb_T, inb_L, isB_0, isB_1, isB_b, nI_add, L_add1, L_add2, nI_cl, L_cl, bI_T, bI_F, eq_self, not_true_eq_false, not_false_eq_true, ↓bd_of (X_noHouse_0 hn.x1 hp hL4), ↓bind_of e1, ↓bind_of e2, e4]
      exact Ok.ret ⟨rfl, kk⟩
    · simp (disch := omega) only [↓lt_eq, ↓reduceIte, ↓un1, ↓un2, ↓un3, ↓un4, ↓bd_some, ↓bind_some', ↓sel_l, ↓sel_r, C1T, C1F, C2T, C2F, C3T, C3F, D1T, D1F, D2T, D2F, D3T, D3F, E1T, E1F, E2T, E2F, E3T, E3F, G1T, G1F, G2T, G2F, G3F, inb_T, inb_L, isB_0, isB_1, isB_b, nI_add, L_add1, L_add2, nI_cl, L_cl, bI_T, bI_F, eq_self, not_true_eq_false, not_false_eq_true, ↓bd_of (X_noHouse_0 hn.x1 hp hL4), ↓bind_of e1, ↓bind_of e2, ↓bd_of e3, ↓bd_of (J_bc hl64 u)]
      exact Ok.ret ⟨rfl, kk⟩
  · have hn := hn.keep hk
    obtain ⟨t, e1, k1, k2⟩ := M_try (hn.2.2.2.1 hp).2 hw
    have k3 := k1.setUsed (k := 754) hw 0 rfl
    obtain ⟨u, e2, k4, k5⟩ := M_days k3 hw h0 d2 (seed := sd) (by omega) hmm
    have e2 : loopF (f_X12_drawn_L71 (nI d)) 5000 ((nI sd).toInt64, 0, wr t 260 754 0) = some u := by rw [nI_l (by omega)]; exact e2
    have e3 : f_X12_liveOnes (729 : Int32) u = _ := M_liveOnes (b := 729) k4 hw' (by omega)
    rw [day_L, eM] at e3
    have e4 : u 260 754 = _ := k4.2.2.2.2.1
    have kk := Keep.frM (k2.tr ((FrM.w1 (by omega) (by omega)).tr k5))
    unfold f_X12_drawn
    rcases (show w = 0 ∨ w = 1 by omega) with rfl | rfl
    · simp (disch := omega) only [↓lt_eq, ↓reduceIte, ↓un1, ↓un2, ↓un3, ↓un4, ↓bd_some, ↓bind_some', ↓sel_l, ↓sel_r, C1T, C1F, C2T, C2F, C3T, C3F, D1T, D1F, D2T, D2F, D3T, D3F, E1T, E1F, E2T, E2F, E3T, E3F, G1T, G1F, G2T, G2F, G3F, inb_T, inb_L, isB_0, isB_1, isB_b, nI_add, L_add1, L_add2, nI_cl, L_cl, bI_T, bI_F, eq_self, not_true_eq_false, not_false_eq_true, ↓bd_of (M_isHouse_1 hn.m0 hp hL4), ↓bd_of (M_inn (σ := s) (L := 0) (H := 60) (a := 0) (b := 60) (by decide) (by decide) d1 d2 (by decide)), ↓bd_of (M_inn (σ := s) (L := 1) (H := 999999) (a := 1) (b := 999999) (by decide) (by decide) s1 s2 (by decide)), ↓bd_of (M_inn (σ := s) (L := 0) (H := 1) (a := 0) (b := 1) (by decide) (by decide) w1 w2 (by decide)), ↓bind_of e1, ↓bind_of e2, e4]
      exact Ok.ret ⟨rfl, kk⟩
    · simp (disch := omega) only [↓lt_eq, ↓reduceIte, ↓un1, ↓un2, ↓un3, ↓un4, ↓bd_some, ↓bind_some', ↓sel_l, ↓sel_r, C1T, C1F, C2T, C2F, C3T, C3F, D1T, D1F, D2T, D2F, D3T, D3F, E1T, E1F, E2T, E2F, E3T, E3F, G1T, G1F, G2T, G2F, G3F, inb_T, inb_L, isB_0, isB_1, isB_b, nI_add, L_add1, L_add2, nI_cl, L_cl, bI_T, bI_F, eq_self, not_true_eq_false, not_false_eq_true, ↓bd_of (M_isHouse_1 hn.m0 hp hL4), ↓bd_of (M_inn (σ := s) (L := 0) (H := 60) (a := 0) (b := 60) (by decide) (by decide) d1 d2 (by decide)), ↓bd_of (M_inn (σ := s) (L := 1) (H := 999999) (a := 1) (b := 999999) (by decide) (by decide) s1 s2 (by decide)), ↓bd_of (M_inn (σ := s) (L := 0) (H := 1) (a := 0) (b := 1) (by decide) (by decide) w1 w2 (by decide)), ↓bind_of e1, ↓bind_of e2, ↓bd_of e3, ↓bd_of (M_bits hl64 u)]
      exact Ok.ret ⟨rfl, kk⟩
