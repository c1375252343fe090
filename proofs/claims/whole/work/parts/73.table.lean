/-! the class's tables, lines by themselves -/
theorem lineW_twice (σ : St) (a l x y z w : Nat) : lineW (lineW σ a l x y) a l z w = lineW σ a l z w := by
  funext b k
  unfold lineW
  simp only [wr_eq]
  by_cases c1 : b = a + 4 ∧ k = l
  · simp only [if_pos c1]
  · simp only [if_neg c1]
    by_cases c2 : b = a + 3 ∧ k = l
    · simp only [if_pos c2]
    · simp only [if_neg c2]
theorem lineW_same {σ : St} {a l x y : Nat} (h1 : σ (a + 3) l = nI x) (h2 : σ (a + 4) l = nI y) : lineW σ a l x y = σ := by
  unfold lineW
  rw [wr_id h1, wr_id h2]
theorem simL_le {h : Hs} (hw : WF h) {l x : Nat} (hl : l < hL h) : ∀ i, (simL h l x i).1 ≤ 99 ∧ (simL h l x i).2 ≤ 3 ∧ WF (lineAt h l x i)
  | 0 => by
    have q := hw.2.2.2.2.2.2.1 l hl
    have e : lineAt h l x 0 = h := by
      have e1 : (fun m => if m = l then hHt h l else hHt h m) = hHt h := funext fun m => by
        by_cases z : m = l
        · rw [if_pos z, z]
        · rw [if_neg z]
      have e2 : (fun m => if m = l then hDd h l else hDd h m) = hDd h := funext fun m => by
        by_cases z : m = l
        · rw [if_pos z, z]
        · rw [if_neg z]
      exact (htdd_congr (h := h) e1 e2).trans rfl
    exact ⟨q.2.2.2.1, q.2.2.2.2, by rw [e]; exact hw⟩
  | i + 1 => by
    obtain ⟨a, b, c⟩ := simL_le hw (x := x) hl i
    have a1 : (simL h l x (i + 1)).1 ≤ 99 := passHt_le c hl
    have b1 : (simL h l x (i + 1)).2 ≤ 3 := passDd_le c hl
    refine ⟨a1, b1, ?_⟩
    obtain ⟨h1, h2, h3, h4, h5, h6, h7, h8⟩ := hw
    refine ⟨h1, h2, h3, h4, h5, h6, fun m hm => ?_, h8⟩
    obtain ⟨q1, q2, q3, q4, q5⟩ := h7 m hm
    refine ⟨q1, q2, q3, ?_, ?_⟩
    · show (if m = l then (simL h l x (i + 1)).1 else hHt h m) ≤ 99
      split <;> omega
    · show (if m = l then (simL h l x (i + 1)).2 else hDd h m) ≤ 3
      split <;> omega
theorem setLine_twice (h : Hs) (l x y z w : Nat) : setLine (setLine h l x y) l z w = setLine h l z w := by
  have e1 : (fun m => if m = l then z else (if m = l then x else hHt h m)) = fun m => if m = l then z else hHt h m := funext fun m => by
    by_cases q : m = l
    · rw [if_pos q, if_pos q]
    · rw [if_neg q, if_neg q, if_neg q]
  have e2 : (fun m => if m = l then w else (if m = l then y else hDd h m)) = fun m => if m = l then w else hDd h m := funext fun m => by
    by_cases q : m = l
    · rw [if_pos q, if_pos q]
    · rw [if_neg q, if_neg q, if_neg q]
  exact htdd_congr (h := h) e1 e2
theorem X_liveMinutes {σ : St} {h : Hs} (hx : HX 27 σ h) (hw : WF h) {l x n : Nat} (hl : l < hL h) (hx1 : x ≤ 120) (hn : n ≤ 12) : f_X3_liveMinutes 27 (nI l) (nI x) (nI n) σ = some (nI (maskT (liveB h l x) n), σ) := by
  have hl4 : l < 4 := Nat.lt_of_lt_of_le hl hw.1
  obtain ⟨g1, g2, g3, g4⟩ := hx.2.2.2.2.2.2.2.1 l hl
  have hz : Ok (f_X3_liveMinutes 27 (nI l) (nI x) (nI n) σ) (fun v => v = (nI (maskT (liveB h l x) n), σ)) := by
    unfold f_X3_liveMinutes
    simp (disch := omega) only [↓lt_eq, ↓reduceIte, ↓un1, ↓un2, ↓un3, ↓un4, ↓bd_some, ↓bind_some', ↓sel_l, ↓sel_r, C1T, C1F, C2T, C2F, C3T, C3F, D1T, D1F, D2T, D2F, D3T, D3F, E1T, E1F, E2T, E2F, E3T, E3F, G1T, G1F, G2T, G2F, G3F, inb_T, inb_L, isB_0, isB_1, isB_b, nI_add, L_add1, L_add2, nI_cl, L_cl, bI_T, bI_F, eq_self, not_true_eq_false, not_false_eq_true, g3, g4]
    refine Ok.bind (loop_n (fun i (y : Int32 × Int32 × St) => y.1 = orT (liveB h l x) i ∧ y.2.1 = nI i ∧ y.2.2 = lineW σ 27 l (simL h l x i).1 (simL h l x i).2) _ n 5000 _ (by omega) ⟨rfl, rfl, (lineW_same g3 g4).symm⟩ ?_ ?_)
    · rintro i ⟨a, v, s⟩ hi ⟨q0, q1, q2⟩
      simp only at q0 q1 q2
      subst q0 q1
      have k1 : HX 27 s (lineAt h l x i) := by rw [q2]; exact hx.line l _ _
      have hwi := (simL_le hw (x := x) hl i).2.2
      have e1 := X_isLive k1 hwi (l := l) hl
      have e0 : live (lineAt h l x i) l = liveB h l x i := rfl
      rw [e0] at e1
      have e2 := X_passLine k1 hwi (l := l) (fl := if liveB h l x i then x else 0) hl (by split <;> omega)
      have e3 : lineW s 27 l (passHt (lineAt h l x i) l (if liveB h l x i then x else 0)) (passDd (lineAt h l x i) l (if liveB h l x i then x else 0)) = lineW σ 27 l (simL h l x (i + 1)).1 (simL h l x (i + 1)).2 := by
        rw [q2, lineW_twice]; rfl
      rw [e3] at e2
      refine ⟨(orT (liveB h l x) (i + 1), nI (i + 1), lineW σ 27 l (simL h l x (i + 1)).1 (simL h l x (i + 1)).2), ?_, rfl, rfl, rfl⟩
      unfold f_X3_liveMinutes_L22
      cases hv : liveB h l x i with
      | false =>
        rw [hv] at e1 e2
        have e2 : f_X3_passLine 27 (nI l) 0 s = _ := e2
        simp (disch := omega) only [↓lt_eq, ↓reduceIte, ↓un1, ↓un2, ↓un3, ↓un4, ↓bd_some, ↓bind_some', ↓sel_l, ↓sel_r, C1T, C1F, C2T, C2F, C3T, C3F, D1T, D1F, D2T, D2F, D3T, D3F, E1T, E1F, E2T, E2F, E3T, E3F, G1T, G1F, G2T, G2F, G3F, inb_T, inb_L, isB_0, isB_1, isB_b, nI_add, L_add1, L_add2, nI_cl, L_cl, bI_T, bI_F, eq_self, not_true_eq_false, not_false_eq_true, ↓bd_of e1, ↓bind_of e2, orT, hv, if_false, Bool.false_eq_true]
      | true =>
        rw [hv] at e1 e2
        have e2 : f_X3_passLine 27 (nI l) (nI x) s = _ := e2
        simp (disch := omega) only [↓lt_eq, ↓reduceIte, ↓un1, ↓un2, ↓un3, ↓un4, ↓bd_some, ↓bind_some', ↓sel_l, ↓sel_r, C1T, C1F, C2T, C2F, C3T, C3F, D1T, D1F, D2T, D2F, D3T, D3F, E1T, E1F, E2T, E2F, E3T, E3F, G1T, G1F, G2T, G2F, G3F, inb_T, inb_L, isB_0, isB_1, isB_b, nI_add, L_add1, L_add2, nI_cl, L_cl, bI_T, bI_F, eq_self, not_true_eq_false, not_false_eq_true, ↓bd_of e1, ↓bind_of e2, orT, hv, if_true]
    · rintro ⟨a, v, s⟩ ⟨q0, q1, q2⟩
      simp only at q0 q1 q2
      subst q0 q1
      refine ⟨(orT (liveB h l x) n, s), ?_, ?_⟩
      · unfold f_X3_liveMinutes_L22
        simp (disch := omega) only [↓lt_eq, ↓reduceIte, ↓un1, ↓un2, ↓un3, ↓un4, ↓bd_some, ↓bind_some', ↓sel_l, ↓sel_r, C1T, C1F, C2T, C2F, C3T, C3F, D1T, D1F, D2T, D2F, D3T, D3F, E1T, E1F, E2T, E2F, E3T, E3F, G1T, G1F, G2T, G2F, G3F, inb_T, inb_L, isB_0, isB_1, isB_b, nI_add, L_add1, L_add2, nI_cl, L_cl, bI_T, bI_F, eq_self, not_true_eq_false, not_false_eq_true]
      · simp (disch := omega) only [↓lt_eq, ↓reduceIte, ↓un1, ↓un2, ↓un3, ↓un4, ↓bd_some, ↓bind_some', ↓sel_l, ↓sel_r, C1T, C1F, C2T, C2F, C3T, C3F, D1T, D1F, D2T, D2F, D3T, D3F, E1T, E1F, E2T, E2F, E3T, E3F, G1T, G1F, G2T, G2F, G3F, inb_T, inb_L, isB_0, isB_1, isB_b, nI_add, L_add1, L_add2, nI_cl, L_cl, bI_T, bI_F, eq_self, not_true_eq_false, not_false_eq_true]
        refine Ok.ret ?_
        have e : wr (wr s (27 + 3) l (nI (hHt h l))) (27 + 4) l (nI (hDd h l)) = σ := by
          show lineW s 27 l (hHt h l) (hDd h l) = σ
          rw [q2, lineW_twice, lineW_same g3 g4]
        rw [e, orT_mask12 _ _ hn]
  obtain ⟨v, e, rfl⟩ := hz
  exact e
def loadA (h : Hs) (n : Nat) : Nat := sumT (fun t => if isOnH h t then hLd h t else 0) n
theorem loadA_le {h : Hs} (hw : WF h) : ∀ n, n ≤ hN h → loadA h n ≤ n * 20 := by
  intro n hn
  refine sumT_le (fun i hi => ?_)
  have := hw.2.2.2.2.2.2.2 i (by omega)
  split <;> omega
theorem X_loadThatIsOn {σ : St} {h : Hs} (hx : HX 27 σ h) (hw : WF h) : f_X3_loadThatIsOn 27 σ = some (nI (loadA h (hN h)), σ) := by
  have hN6 := hw.2.1
  unfold f_X3_loadThatIsOn
  simp only [lt_eq]
  have hloop := loop_up (body := f_X3_loadThatIsOn_L4 27) (r := (nI (loadA h (hN h)), σ)) (hN h) 5000 (fun i => (nI (loadA h i), nI i, σ)) (by omega) (fun i hi => by
    have e1 := X_isOn hx hw (t := i) (by omega)
    have e2 := (hx.2.2.2.2.2.2.2.2 i hi).2
    have e3 : loadA h (i + 1) = loadA h i + if isOnH h i then hLd h i else 0 := rfl
    unfold f_X3_loadThatIsOn_L4
    cases hv : isOnH h i <;> rw [hv] at e1 e3 <;> simp (disch := omega) only [↓lt_eq, ↓reduceIte, ↓un1, ↓un2, ↓un3, ↓un4, ↓bd_some, ↓bind_some', ↓sel_l, ↓sel_r, C1T, C1F, C2T, C2F, C3T, C3F, D1T, D1F, D2T, D2F, D3T, D3F, E1T, E1F, E2T, E2F, E3T, E3F, G1T, G1F, G2T, G2F, G3F, inb_T, inb_L, isB_0, isB_1, isB_b, nI_add, L_add1, L_add2, nI_cl, L_cl, bI_T, bI_F, eq_self, not_true_eq_false, not_false_eq_true, hx.2.1, ↓bd_of e1, e2, e3, if_true, if_false, Bool.false_eq_true, Int32.add_zero, Nat.add_zero]) (by
    unfold f_X3_loadThatIsOn_L4
    simp (disch := omega) only [↓lt_eq, ↓reduceIte, ↓un1, ↓un2, ↓un3, ↓un4, ↓bd_some, ↓bind_some', ↓sel_l, ↓sel_r, C1T, C1F, C2T, C2F, C3T, C3F, D1T, D1F, D2T, D2F, D3T, D3F, E1T, E1F, E2T, E2F, E3T, E3F, G1T, G1F, G2T, G2F, G3F, inb_T, inb_L, isB_0, isB_1, isB_b, nI_add, L_add1, L_add2, nI_cl, L_cl, bI_T, bI_F, eq_self, not_true_eq_false, not_false_eq_true, hx.2.1])
  have e : ((0 : Int32), (0 : Int32), σ) = (nI (loadA h 0), nI 0, σ) := by rw [nI_0]; rfl
  rw [e, hloop]
  rfl
/-- the table of a line is filled; nothing else changes -/
theorem X_foretellLine {σ : St} {h : Hs} (hx : HX 27 σ h) (hw : WF h) {l n : Nat} (hl : l < hL h) (hn : n ≤ 12) (f5 : σ 6 5 = 1) (f6 : σ 6 6 = nI n) : Ok (f_X4_foretellLine (nI l) σ) (fun s => (∀ x, x ≤ loadA h (hN h) → s 7 (l * 121 + x) = nI (maskT (liveB h l x) n)) ∧ (∀ k, k < l * 121 ∨ l * 121 + 121 ≤ k → s 7 k = σ 7 k) ∧ ∀ b, b ≠ 7 → s b = σ b) := by
  have hl4 : l < 4 := Nat.lt_of_lt_of_le hl hw.1
  have hA := loadA_le hw (hN h) (Nat.le_refl _)
  have hN6 := hw.2.1
  have e0 := X_loadThatIsOn hx hw
  unfold f_X4_foretellLine
  simp (disch := omega) only [↓lt_eq, ↓reduceIte, ↓un1, ↓un2, ↓un3, ↓un4, ↓bd_some, ↓bind_some', ↓sel_l, ↓sel_r, C1T, C1F, C2T, C2F, C3T, C3F, D1T, D1F, D2T, D2F, D3T, D3F, E1T, E1F, E2T, E2F, E3T, E3F, G1T, G1F, G2T, G2F, G3F, inb_T, inb_L, isB_0, isB_1, isB_b, nI_add, L_add1, L_add2, nI_cl, L_cl, bI_T, bI_F, eq_self, not_true_eq_false, not_false_eq_true, f5, ↓bd_of e0]
  refine Ok.bind (loop_n (fun i (y : Int32 × St) => y.1 = nI i ∧ (∀ x, x < i → y.2 7 (l * 121 + x) = nI (maskT (liveB h l x) n)) ∧ (∀ k, k < l * 121 ∨ l * 121 + i ≤ k → y.2 7 k = σ 7 k) ∧ ∀ b, b ≠ 7 → y.2 b = σ b) _ (loadA h (hN h) + 1) 5000 _ (by omega) ⟨rfl, fun x q => absurd q (by omega), fun _ _ => rfl, fun _ _ => rfl⟩ ?_ ?_)
  · rintro i ⟨v, s⟩ hi ⟨q0, q1, q2, q3⟩
    simp only at q0 q1 q2 q3
    subst q0
    have hxs : HX 27 s h := hx.frame (fun b q => q3 b (by omega))
    have e1 := X_liveMinutes hxs hw (x := i) (n := n) hl (by omega) hn
    have g5 : s 6 5 = 1 := by rw [q3 6 (by omega)]; exact f5
    have g6 : s 6 6 = nI n := by rw [q3 6 (by omega)]; exact f6
    refine ⟨(nI (i + 1), wr s 7 (l * 121 + i) (nI (maskT (liveB h l i) n))), ?_, rfl, ?_, ?_, ?_⟩
    · unfold f_X4_foretellLine_L10
      simp (disch := omega) only [↓lt_eq, ↓reduceIte, ↓un1, ↓un2, ↓un3, ↓un4, ↓bd_some, ↓bind_some', ↓sel_l, ↓sel_r, C1T, C1F, C2T, C2F, C3T, C3F, D1T, D1F, D2T, D2F, D3T, D3F, E1T, E1F, E2T, E2F, E3T, E3F, G1T, G1F, G2T, G2F, G3F, inb_T, inb_L, isB_0, isB_1, isB_b, nI_add, L_add1, L_add2, nI_cl, L_cl, bI_T, bI_F, eq_self, not_true_eq_false, not_false_eq_true, g5, g6, ↓bd_of e1, L_mul2]
    · intro x hx
      simp only [wr_eq]
      by_cases z : x = i
      · rw [if_pos ⟨trivial, by omega⟩, z]
      · rw [if_neg (by omega)]; exact q1 x (by omega)
    · intro k hk
      simp only [wr_eq]
      rw [if_neg (by omega)]; exact q2 k (by omega)
    · intro b hb
      simp only [wr_a hb]
      exact q3 b hb
  · rintro ⟨v, s⟩ ⟨q0, q1, q2, q3⟩
    simp only at q0 q1 q2 q3
    subst q0
    refine ⟨s, ?_, ?_⟩
    · unfold f_X4_foretellLine_L10
      simp (disch := omega) only [↓lt_eq, ↓reduceIte, ↓un1, ↓un2, ↓un3, ↓un4, ↓bd_some, ↓bind_some', ↓sel_l, ↓sel_r, C1T, C1F, C2T, C2F, C3T, C3F, D1T, D1F, D2T, D2F, D3T, D3F, E1T, E1F, E2T, E2F, E3T, E3F, G1T, G1F, G2T, G2F, G3F, inb_T, inb_L, isB_0, isB_1, isB_b, nI_add, L_add1, L_add2, nI_cl, L_cl, bI_T, bI_F, eq_self, not_true_eq_false, not_false_eq_true]
    · simp (disch := omega) only [↓lt_eq, ↓reduceIte, ↓un1, ↓un2, ↓un3, ↓un4, ↓bd_some, ↓bind_some', ↓sel_l, ↓sel_r, C1T, C1F, C2T, C2F, C3T, C3F, D1T, D1F, D2T, D2F, D3T, D3F, E1T, E1F, E2T, E2F, E3T, E3F, G1T, G1F, G2T, G2F, G3F, inb_T, inb_L, isB_0, isB_1, isB_b, nI_add, L_add1, L_add2, nI_cl, L_cl, bI_T, bI_F, eq_self, not_true_eq_false, not_false_eq_true]
      exact Ok.ret ⟨fun x hx => q1 x (by omega), fun k hk => q2 k (by omega), q3⟩
/-- the search has begun: tables, no loads, nothing found yet -/
def PlugT (h : Hs) (n : Nat) (s : St) : Prop := HX 27 s h ∧ s 6 5 = 1 ∧ s 6 6 = nI n ∧ ∀ l, l < hL h → ∀ x, x ≤ loadA h (hN h) → s 7 (l * 121 + x) = nI (maskT (liveB h l x) n)
theorem PlugT.fr {h : Hs} {n : Nat} {s t : St} (hp : PlugT h n s) (h1 : ∀ b, b = 7 ∨ (27 ≤ b ∧ b < 35) → t b = s b) (h2 : ∀ k, k = 5 ∨ k = 6 → t 6 k = s 6 k) : PlugT h n t := by
  obtain ⟨a, b, c, d⟩ := hp
  refine ⟨a.frame (fun q z => h1 q (by omega)), (h2 5 (by omega)).trans b, (h2 6 (by omega)).trans c, fun l hl x hx => ?_⟩
  rw [h1 7 (by omega)]; exact d l hl x hx
