/-! a plugging is weighed -/
theorem X4_liveMinutes {h : Hs} {n : Nat} {s : St} {ld : Nat → Nat} (hp : PlugT h n s) (hw : WF h) {l : Nat} (hl : l < hL h) (e8 : s 8 l = nI (ld l)) (hld : ld l ≤ loadA h (hN h)) : f_X4_liveMinutes (nI l) s = some (nI (maskT (liveB h l (ld l)) n), s) := by
  have hl4 : l < 4 := Nat.lt_of_lt_of_le hl hw.1
  have hA := loadA_le hw (hN h) (Nat.le_refl _)
  have hN6 := hw.2.1
  have e := hp.2.2.2 l hl (ld l) hld
  unfold f_X4_liveMinutes
  simp (disch := omega) only [↓lt_eq, ↓reduceIte, ↓un1, ↓un2, ↓un3, ↓un4, ↓bd_some, ↓bind_some', ↓sel_l, ↓sel_r, C1T, C1F, C2T, C2F, C3T, C3F, D1T, D1F, D2T, D2F, D3T, D3F, E1T, E1F, E2T, E2F, E3T, E3F, G1T, G1F, G2T, G2F, G3F, inb_T, inb_L, isB_0, isB_1, isB_b, nI_add, L_add1, L_add2, nI_cl, L_cl, bI_T, bI_F, eq_self, not_true_eq_false, not_false_eq_true, e8, L_mul2, e]
theorem bI_mul (b : Bool) (x : Nat) : bI b * nI x = nI (if b then x else 0) := by
  cases b
  · show (0 : Int32) * nI x = nI 0
    rw [Int32.zero_mul]; rfl
  · show (1 : Int32) * nI x = nI x
    rw [Int32.one_mul]
theorem uc_stay {h : Hs} {ld : Nat → Nat} {i : Nat} (c : hMain h < (uc h ld i).2) : ∀ j, uc h ld (i + j) = uc h ld i
  | 0 => rfl
  | j + 1 => by
    have ih := uc_stay c j
    show (if (uc h ld (i + j)).2 ≤ hMain h then ((uc h ld (i + j)).1 + FlN h ld (i + j), FlN h ld (i + j)) else uc h ld (i + j)) = _
    rw [ih, if_neg (by omega)]
theorem X_usedUntil {h : Hs} {n : Nat} {s : St} {ld : Nat → Nat} (hp : PlugT h n s) (hw : WF h) (hn : n ≤ 12) (e8 : ∀ l, l < hL h → s 8 l = nI (ld l)) (hld : ∀ l, l < hL h → ld l ≤ loadA h (hN h)) (hsum : sumT ld (hL h) ≤ 120) : f_X4_usedUntilMainIsOut s = some (nI (uc h ld n).1, s) := by
  have hL4 := hw.1
  have hmain := hw.2.2.1
  have f5 := hp.2.1
  have f6 := hp.2.2.1
  have f1 : s 27 1 = nI (hL h) := hp.1.1
  have f3 : s 27 3 = nI (hMain h) := hp.1.2.2.1
  have hz : Ok (f_X4_usedUntilMainIsOut s) (fun v => v = (nI (uc h ld n).1, s)) := by
    unfold f_X4_usedUntilMainIsOut
    simp only [lt_eq]
    refine Ok.bind (loop_find (fun i (x : Int32 × Int32 × Int32 × St) => x.1 = nI (uc h ld i).1 ∧ x.2.1 = nI (uc h ld i).2 ∧ x.2.2.1 = nI i ∧ x.2.2.2 = s) (fun i => decide (hMain h < (uc h ld i).2)) 0 n _ 5000 _ (by omega) ⟨rfl, rfl, rfl, rfl⟩ ?_ ?_)
    · rintro i ⟨a, b, v, t⟩ _ hi ⟨q0, q1, q2, q3⟩
      simp only at q0 q1 q2 q3
      subst q0 q1 q2 q3
      have hb := uc_le hsum i
      refine ⟨fun c => ?_, fun c _ => ?_⟩
      · have c : ¬ hMain h < (uc h ld i).2 := by simpa using c
        have eu : uc h ld (i + 1) = ((uc h ld i).1 + FlN h ld i, FlN h ld i) := if_pos (by omega)
        have ein : loopF (f_X4_usedUntilMainIsOut_L30 (nI i)) 5000 ((0 : Int32), (0 : Int32), t) = some (nI (FlN h ld i), t) := by
          have hloop := loop_up (body := f_X4_usedUntilMainIsOut_L30 (nI i)) (r := (nI (FlN h ld i), t)) (hL h) 5000 (fun j => (nI (sumT (fun l => if liveB h l (ld l) i then ld l else 0) j), nI j, t)) (by omega) (fun j hj => by
            have e1 := X4_liveMinutes hp hw hj (e8 j hj) (hld j hj)
            have e2 := bit_at12 (maskT (liveB h j (ld j)) n) (mask4096 _ hn) i (by omega)
            rw [maskT_bit12 _ n hn i (by omega)] at e2
            have e3 : sumT (fun l => if liveB h l (ld l) i then ld l else 0) (j + 1) = sumT (fun l => if liveB h l (ld l) i then ld l else 0) j + if liveB h j (ld j) i then ld j else 0 := rfl
            unfold f_X4_usedUntilMainIsOut_L30
            simp (disch := omega) only [↓lt_eq, ↓reduceIte, ↓un1, ↓un2, ↓un3, ↓un4, ↓bd_some, ↓bind_some', ↓sel_l, ↓sel_r, C1T, C1F, C2T, C2F, C3T, C3F, D1T, D1F, D2T, D2F, D3T, D3F, E1T, E1F, E2T, E2F, E3T, E3F, G1T, G1F, G2T, G2F, G3F, inb_T, inb_L, isB_0, isB_1, isB_b, nI_add, L_add1, L_add2, nI_cl, L_cl, bI_T, bI_F, eq_self, not_true_eq_false, not_false_eq_true, f5, f1, ↓bd_of e1, e2, e8 j hj, bI_mul, e3]) (by
            unfold f_X4_usedUntilMainIsOut_L30
            simp (disch := omega) only [↓lt_eq, ↓reduceIte, ↓un1, ↓un2, ↓un3, ↓un4, ↓bd_some, ↓bind_some', ↓sel_l, ↓sel_r, C1T, C1F, C2T, C2F, C3T, C3F, D1T, D1F, D2T, D2F, D3T, D3F, E1T, E1F, E2T, E2F, E3T, E3F, G1T, G1F, G2T, G2F, G3F, inb_T, inb_L, isB_0, isB_1, isB_b, nI_add, L_add1, L_add2, nI_cl, L_cl, bI_T, bI_F, eq_self, not_true_eq_false, not_false_eq_true, f5, f1]
            rfl)
          exact hloop
        refine ⟨(nI (uc h ld (i + 1)).1, nI (uc h ld (i + 1)).2, nI (i + 1), t), ?_, rfl, rfl, rfl, rfl⟩
        rw [eu]
        unfold f_X4_usedUntilMainIsOut_L6
        simp (disch := omega) only [↓lt_eq, ↓reduceIte, ↓un1, ↓un2, ↓un3, ↓un4, ↓bd_some, ↓bind_some', ↓sel_l, ↓sel_r, C1T, C1F, C2T, C2F, C3T, C3F, D1T, D1F, D2T, D2F, D3T, D3F, E1T, E1F, E2T, E2F, E3T, E3F, G1T, G1F, G2T, G2F, G3F, inb_T, inb_L, isB_0, isB_1, isB_b, nI_add, L_add1, L_add2, nI_cl, L_cl, bI_T, bI_F, eq_self, not_true_eq_false, not_false_eq_true, f5, f6, f3, ↓bind_of ein]
      · have c : hMain h < (uc h ld i).2 := by simpa using c
        refine ⟨(nI (uc h ld i).1, t), ?_, ?_⟩
        · unfold f_X4_usedUntilMainIsOut_L6
          simp (disch := omega) only [↓lt_eq, ↓reduceIte, ↓un1, ↓un2, ↓un3, ↓un4, ↓bd_some, ↓bind_some', ↓sel_l, ↓sel_r, C1T, C1F, C2T, C2F, C3T, C3F, D1T, D1F, D2T, D2F, D3T, D3F, E1T, E1F, E2T, E2F, E3T, E3F, G1T, G1F, G2T, G2F, G3F, inb_T, inb_L, isB_0, isB_1, isB_b, nI_add, L_add1, L_add2, nI_cl, L_cl, bI_T, bI_F, eq_self, not_true_eq_false, not_false_eq_true, f5, f6, f3]
        · simp (disch := omega) only [↓lt_eq, ↓reduceIte, ↓un1, ↓un2, ↓un3, ↓un4, ↓bd_some, ↓bind_some', ↓sel_l, ↓sel_r, C1T, C1F, C2T, C2F, C3T, C3F, D1T, D1F, D2T, D2F, D3T, D3F, E1T, E1F, E2T, E2F, E3T, E3F, G1T, G1F, G2T, G2F, G3F, inb_T, inb_L, isB_0, isB_1, isB_b, nI_add, L_add1, L_add2, nI_cl, L_cl, bI_T, bI_F, eq_self, not_true_eq_false, not_false_eq_true]
          refine Ok.ret ?_
          have := uc_stay c (n - i)
          rw [show i + (n - i) = n by omega] at this
          rw [this]
    · rintro ⟨a, b, v, t⟩ ⟨q0, q1, q2, q3⟩ _
      simp only [Nat.zero_add] at q0 q1 q2 q3
      subst q0 q1 q2 q3
      refine ⟨(nI (uc h ld n).1, t), ?_, ?_⟩
      · unfold f_X4_usedUntilMainIsOut_L6
        simp (disch := omega) only [↓lt_eq, ↓reduceIte, ↓un1, ↓un2, ↓un3, ↓un4, ↓bd_some, ↓bind_some', ↓sel_l, ↓sel_r, C1T, C1F, C2T, C2F, C3T, C3F, D1T, D1F, D2T, D2F, D3T, D3F, E1T, E1F, E2T, E2F, E3T, E3F, G1T, G1F, G2T, G2F, G3F, inb_T, inb_L, isB_0, isB_1, isB_b, nI_add, L_add1, L_add2, nI_cl, L_cl, bI_T, bI_F, eq_self, not_true_eq_false, not_false_eq_true, f6]
      · simp (disch := omega) only [↓lt_eq, ↓reduceIte, ↓un1, ↓un2, ↓un3, ↓un4, ↓bd_some, ↓bind_some', ↓sel_l, ↓sel_r, C1T, C1F, C2T, C2F, C3T, C3F, D1T, D1F, D2T, D2F, D3T, D3F, E1T, E1F, E2T, E2F, E3T, E3F, G1T, G1F, G2T, G2F, G3F, inb_T, inb_L, isB_0, isB_1, isB_b, nI_add, L_add1, L_add2, nI_cl, L_cl, bI_T, bI_F, eq_self, not_true_eq_false, not_false_eq_true]
        exact Ok.ret rfl
  obtain ⟨v, e, rfl⟩ := hz
  exact e
theorem X_usedThen {h : Hs} {n : Nat} {s : St} {ld : Nat → Nat} (hp : PlugT h n s) (hw : WF h) (hn : n ≤ 12) (e8 : ∀ l, l < hL h → s 8 l = nI (ld l)) (hld : ∀ l, l < hL h → ld l ≤ loadA h (hN h)) (hsum : sumT ld (hL h) ≤ 120) : f_X4_usedThen s = some (nI (uc h ld n).1, s) := by
  have hL4 := hw.1
  have hmain := hw.2.2.1
  have f5 := hp.2.1
  have f1 : s 27 1 = nI (hL h) := hp.1.1
  have f3 : s 27 3 = nI (hMain h) := hp.1.2.2.1
  have hloop := loop_up (body := f_X4_usedThen_L6) (r := (nI (sumT ld (hL h)), nI (sumT (fun l => ld l * sumT (fun i => if liveB h l (ld l) i then 1 else 0) n) (hL h)), s)) (hL h) 5000 (fun j => (nI (sumT ld j), nI (sumT (fun l => ld l * sumT (fun i => if liveB h l (ld l) i then 1 else 0) n) j), nI j, s)) (by omega) (fun j hj => by
    have e1 := X4_liveMinutes hp hw hj (e8 j hj) (hld j hj)
    have e2 : f_J6_bitCount_0f7a4 (nI (maskT (liveB h j (ld j)) n)) s = some (nI (sumT (fun i => if liveB h j (ld j) i then 1 else 0) n), s) := by
      rw [J_bc0, bcI_4096 _ (mask4096 _ hn), bcU_mask _ hn]
    have e3 : sumT ld (j + 1) = sumT ld j + ld j := rfl
    have e4 : sumT (fun l => ld l * sumT (fun i => if liveB h l (ld l) i then 1 else 0) n) (j + 1) = sumT (fun l => ld l * sumT (fun i => if liveB h l (ld l) i then 1 else 0) n) j + ld j * sumT (fun i => if liveB h j (ld j) i then 1 else 0) n := rfl
    rw [e3, e4]
    unfold f_X4_usedThen_L6
    simp (disch := omega) only [↓lt_eq, ↓reduceIte, ↓un1, ↓un2, ↓un3, ↓un4, ↓bd_some, ↓bind_some', ↓sel_l, ↓sel_r, C1T, C1F, C2T, C2F, C3T, C3F, D1T, D1F, D2T, D2F, D3T, D3F, E1T, E1F, E2T, E2F, E3T, E3F, G1T, G1F, G2T, G2F, G3F, inb_T, inb_L, isB_0, isB_1, isB_b, nI_add, L_add1, L_add2, nI_cl, L_cl, bI_T, bI_F, eq_self, not_true_eq_false, not_false_eq_true, f5, f1, ↓bd_of e1, ↓bd_of e2, e8 j hj, nI_mul]) (by
    unfold f_X4_usedThen_L6
    simp (disch := omega) only [↓lt_eq, ↓reduceIte, ↓un1, ↓un2, ↓un3, ↓un4, ↓bd_some, ↓bind_some', ↓sel_l, ↓sel_r, C1T, C1F, C2T, C2F, C3T, C3F, D1T, D1F, D2T, D2F, D3T, D3F, E1T, E1F, E2T, E2F, E3T, E3F, G1T, G1F, G2T, G2F, G3F, inb_T, inb_L, isB_0, isB_1, isB_b, nI_add, L_add1, L_add2, nI_cl, L_cl, bI_T, bI_F, eq_self, not_true_eq_false, not_false_eq_true, f5, f1])
  have hloop : loopF f_X4_usedThen_L6 5000 ((0 : Int32), (0 : Int32), (0 : Int32), s) = _ := hloop
  unfold f_X4_usedThen
  by_cases c : sumT ld (hL h) ≤ hMain h
  · rw [uc_lines c]
    simp (disch := omega) only [↓lt_eq, ↓reduceIte, ↓un1, ↓un2, ↓un3, ↓un4, ↓bd_some, ↓bind_some', ↓sel_l, ↓sel_r, C1T, C1F, C2T, C2F, C3T, C3F, D1T, D1F, D2T, D2F, D3T, D3F, E1T, E1F, E2T, E2F, E3T, E3F, G1T, G1F, G2T, G2F, G3F, inb_T, inb_L, isB_0, isB_1, isB_b, nI_add, L_add1, L_add2, nI_cl, L_cl, bI_T, bI_F, eq_self, not_true_eq_false, not_false_eq_true, ↓bind_of hloop, f5, f3]
  · have e := X_usedUntil hp hw hn e8 hld hsum
    simp (disch := omega) only [↓lt_eq, ↓reduceIte, ↓un1, ↓un2, ↓un3, ↓un4, ↓bd_some, ↓bind_some', ↓sel_l, ↓sel_r, C1T, C1F, C2T, C2F, C3T, C3F, D1T, D1F, D2T, D2F, D3T, D3F, E1T, E1F, E2T, E2F, E3T, E3F, G1T, G1F, G2T, G2F, G3F, inb_T, inb_L, isB_0, isB_1, isB_b, nI_add, L_add1, L_add2, nI_cl, L_cl, bI_T, bI_F, eq_self, not_true_eq_false, not_false_eq_true, ↓bind_of hloop, f5, f3, ↓bd_of e]
/-- ways of plugging, by number -/
def ra (h : Hs) (q : Nat) : Nat := if isOnH h q then hL h else 1
def Wt (h : Hs) : Nat → Nat
  | 0 => 1
  | k + 1 => ra h (hN h - (k + 1)) * Wt h k
def dg (h : Hs) (b q : Nat) : Nat := if isOnH h q then b / Wt h (hN h - (q + 1)) % hL h else hPg h q
theorem ra_pos {h : Hs} (h0 : 0 < hL h) (q : Nat) : 0 < ra h q := by unfold ra; split <;> omega
theorem Wt_pos {h : Hs} (h0 : 0 < hL h) : ∀ k, 0 < Wt h k
  | 0 => Nat.one_pos
  | k + 1 => Nat.mul_pos (ra_pos h0 _) (Wt_pos h0 k)
theorem Wt_mul (h : Hs) (k : Nat) : ∀ j, ∃ c, Wt h (k + j) = Wt h k * c
  | 0 => ⟨1, (Nat.mul_one _).symm⟩
  | j + 1 => by
    obtain ⟨c, e⟩ := Wt_mul h k j
    refine ⟨c * ra h (hN h - (k + j + 1)), ?_⟩
    show ra h (hN h - (k + j + 1)) * Wt h (k + j) = _
    rw [e, Nat.mul_comm, Nat.mul_assoc]
theorem dg_pre {h : Hs} (h0 : 0 < hL h) {t k b r q : Nat} (ht : t + k = hN h) (hr : r < Wt h k) (hq : q < t) : dg h (b * Wt h k + r) q = dg h (b * Wt h k) q := by
  unfold dg
  split
  · obtain ⟨c, e⟩ := Wt_mul h k (t - (q + 1))
    have e2 : hN h - (q + 1) = k + (t - (q + 1)) := by omega
    have hp := Wt_pos h0 k
    rw [e2, e, ← Nat.div_div_eq_div_mul, ← Nat.div_div_eq_div_mul]
    have e3 : (b * Wt h k + r) / Wt h k = b := by
      rw [Nat.mul_comm, Nat.mul_add_div hp, Nat.div_eq_of_lt hr, Nat.add_zero]
    have e4 : b * Wt h k / Wt h k = b := Nat.mul_div_cancel b hp
    rw [e3, e4]
  · rfl
theorem dg_lt {h : Hs} (hw : WF h) (h0 : 0 < hL h) (b : Nat) {q : Nat} (hq : q < hN h) : dg h b q < hL h := by
  unfold dg
  split
  · exact Nat.mod_lt _ h0
  · exact (hw.2.2.2.2.2.2.2 q hq).1
theorem plug_WF {h : Hs} (hw : WF h) {g : Nat → Nat} (hg : ∀ t, t < hN h → g t < hL h) : WF (plugH h g) := by
  obtain ⟨h1, h2, h3, h4, h5, h6, h7, h8⟩ := hw
  exact ⟨h1, h2, h3, h4, h5, h6, h7, fun t ht => ⟨hg t ht, (h8 t ht).2⟩⟩
theorem loads_sum {h : Hs} {g : Nat → Nat} (hg : ∀ t, t < hN h → g t < hL h) : sumT (fun l => loadG h g l (hN h)) (hL h) = loadA h (hN h) := by
  unfold loadG loadA
  rw [sumT_swap (fun l t => if isOnH h t && decide (g t = l) then hLd h t else 0)]
  refine sumT_congr (fun t ht => ?_)
  rw [sumT_one (isOnH h t) (g t) (hLd h t) (hL h), decide_eq_true (hg t ht), Bool.and_true]
theorem loadG_congr {h : Hs} {g g' : Nat → Nat} {l n : Nat} (e : ∀ t, t < n → g t = g' t) : loadG h g l n = loadG h g' l n := by
  unfold loadG
  exact sumT_congr (fun t ht => by rw [e t ht])
def UW (h : Hs) (n w : Nat) : Nat := (uc h (fun l => loadG h (dg h w) l (hN h)) n).1
def FB (h : Hs) (n : Nat) : Nat → Nat × Nat
  | 0 => (0, 0)
  | i + 1 => if i = 0 ∨ (FB h n i).1 < UW h n i then (UW h n i, i) else FB h n i
def mI (h : Hs) (n i : Nat) : Int32 := if i = 0 then -1 else nI (FB h n i).1
theorem UW_le {h : Hs} (hw : WF h) (h0 : 0 < hL h) {n : Nat} (hn : n ≤ 12) (w : Nat) : UW h n w ≤ 1440 := by
  have e := loads_sum (h := h) (g := dg h w) (fun t ht => dg_lt hw h0 w ht)
  have hA := loadA_le hw (hN h) (Nat.le_refl _)
  have hN6 := hw.2.1
  have := (uc_le (h := h) (ld := fun l => loadG h (dg h w) l (hN h)) (by omega) n).1
  unfold UW
  omega
theorem FB_le {h : Hs} (hw : WF h) (h0 : 0 < hL h) {n : Nat} (hn : n ≤ 12) : ∀ i, (FB h n i).1 ≤ 1440
  | 0 => Nat.zero_le _
  | i + 1 => by
    have := FB_le hw h0 hn i
    have := UW_le hw h0 hn i
    unfold FB
    split
    · assumption
    · assumption
theorem m1_lt {u : Nat} (h : u < 2147483648) : (nI u ≤ -1) = False := eq_false (fun q => by
  rw [Int32.le_iff_toInt_le, nI_toInt h] at q
  have e : (-1 : Int32).toInt = -1 := by decide
  omega)
/-- the best of the ways behind those ahead of i -/
def Best (h : Hs) (n i : Nat) (s : St) : Prop := s 6 4 = mI h n i ∧ (0 < i → ∀ q, q < hN h → s 10 q = nI (dg h (FB h n i).2 q))
def RS (h : Hs) (t k b : Nat) (s : St) : Prop := (∀ q, q < t → s 9 q = nI (dg h (b * Wt h k) q)) ∧ ∀ l, l < hL h → s 8 l = nI (loadG h (dg h (b * Wt h k)) l t)
def FrP (s t : St) : Prop := (∀ b, b ≠ 6 → b ≠ 8 → b ≠ 9 → b ≠ 10 → t b = s b) ∧ ∀ k, k ≠ 4 → t 6 k = s 6 k
theorem FrP.rf {s : St} : FrP s s := ⟨fun _ _ _ _ _ => rfl, fun _ _ => rfl⟩
theorem FrP.tr {s t u : St} (h1 : FrP s t) (h2 : FrP t u) : FrP s u := ⟨fun b q1 q2 q3 q4 => (h2.1 b q1 q2 q3 q4).trans (h1.1 b q1 q2 q3 q4), fun k q => (h2.2 k q).trans (h1.2 k q)⟩
theorem FrP.plug {h : Hs} {n : Nat} {s t : St} (hf : FrP s t) (hp : PlugT h n s) : PlugT h n t := hp.fr (fun b q => hf.1 b (by omega) (by omega) (by omega) (by omega)) (fun k q => hf.2 k (by omega))
theorem X_weigh {h : Hs} {n b : Nat} {s : St} (hp : PlugT h n s) (hw : WF h) (h0 : 0 < hL h) (hn : n ≤ 12) (hr : RS h (hN h) 0 b s) (hb : Best h n b s) : Ok (f_X4_weigh s) (fun t => RS h (hN h) 0 b t ∧ Best h n (b + 1) t ∧ FrP s t) := by
  have hN6 := hw.2.1
  obtain ⟨r1, r2⟩ := hr
  have e1 : b * Wt h 0 = b := Nat.mul_one b
  have hA := loadA_le hw (hN h) (Nat.le_refl _)
  have hs := loads_sum (h := h) (g := dg h b) (fun t ht => dg_lt hw h0 b ht)
  rw [e1] at r1 r2
  have eu := X_usedThen (ld := fun l => loadG h (dg h b) l (hN h)) hp hw hn r2 (fun l hl => by
    rw [← hs]; exact sumT_ge (f := fun l => loadG h (dg h b) l (hN h)) (hL h) hl) (by omega)
  have hu := UW_le hw h0 hn b
  have hf := FB_le hw h0 hn b
  have eu : f_X4_usedThen s = some (nI (UW h n b), s) := eu
  have hfb : FB h n (b + 1) = if b = 0 ∨ (FB h n b).1 < UW h n b then (UW h n b, b) else FB h n b := rfl
  by_cases c : b = 0 ∨ (FB h n b).1 < UW h n b
  · rw [if_pos c] at hfb
    have hle : (nI (UW h n b) ≤ s 6 4) = False := by
      rw [hb.1]
      unfold mI
      by_cases z : b = 0
      · rw [if_pos z]; exact m1_lt (by omega)
      · rw [if_neg z]; exact C1F (by omega) (by omega)
    generalize hs2 : va_up (wr s 6 4 (nI (UW h n b))) 10 (va_cpy ((wr s 6 4 (nI (UW h n b))) 9) ((wr s 6 4 (nI (UW h n b))) 10) 0 0 6) = s2
    have y1 : ∀ q, q < 6 → s2 10 q = s 9 q := fun q hq => by
      rw [← hs2, up_s, pk_cpy_in (by omega) (by omega), wr_a (by omega), Nat.zero_add, Nat.sub_zero]
    have y2 : ∀ q, q ≠ 10 → s2 q = wr s 6 4 (nI (UW h n b)) q := fun q hq => by rw [← hs2, up_a hq]
    refine ⟨s2, ?_, ⟨fun q hq => ?_, fun l hl => ?_⟩, ⟨?_, fun _ q hq => ?_⟩, fun q q1 q2 q3 q4 => ?_, fun k hk => ?_⟩
    · unfold f_X4_weigh
      simp (disch := omega) only [↓lt_eq, ↓reduceIte, ↓un1, ↓un2, ↓un3, ↓un4, ↓bd_some, ↓bind_some', ↓sel_l, ↓sel_r, C1T, C1F, C2T, C2F, C3T, C3F, D1T, D1F, D2T, D2F, D3T, D3F, E1T, E1F, E2T, E2F, E3T, E3F, G1T, G1F, G2T, G2F, G3F, inb_T, inb_L, isB_0, isB_1, isB_b, nI_add, L_add1, L_add2, nI_cl, L_cl, bI_T, bI_F, eq_self, not_true_eq_false, not_false_eq_true, ↓bd_of eu, hle, hs2]
    · rw [e1, y2 9 (by omega), wr_a (by omega)]; exact r1 q hq
    · rw [e1, y2 8 (by omega), wr_a (by omega)]; exact r2 l hl
    · rw [y2 6 (by omega), wr_same]
      unfold mI
      rw [if_neg (by omega), hfb]
    · rw [hfb, y1 q (by omega)]; exact r1 q hq
    · rw [y2 q q4, wr_a q1]
    · rw [y2 6 (by omega), wr_k hk]
  · rw [if_neg c] at hfb
    have hle : (nI (UW h n b) ≤ s 6 4) = True := by
      rw [hb.1]
      unfold mI
      rw [if_neg (by omega)]
      exact C1T (by omega) (by omega)
    refine ⟨s, ?_, ⟨fun q hq => ?_, fun l hl => ?_⟩, ⟨?_, fun _ q hq => ?_⟩, FrP.rf⟩
    · unfold f_X4_weigh
      simp (disch := omega) only [↓lt_eq, ↓reduceIte, ↓un1, ↓un2, ↓un3, ↓un4, ↓bd_some, ↓bind_some', ↓sel_l, ↓sel_r, C1T, C1F, C2T, C2F, C3T, C3F, D1T, D1F, D2T, D2F, D3T, D3F, E1T, E1F, E2T, E2F, E3T, E3F, G1T, G1F, G2T, G2F, G3F, inb_T, inb_L, isB_0, isB_1, isB_b, nI_add, L_add1, L_add2, nI_cl, L_cl, bI_T, bI_F, eq_self, not_true_eq_false, not_false_eq_true, ↓bd_of eu, hle]
    · rw [e1]; exact r1 q hq
    · rw [e1]; exact r2 l hl
    · rw [hb.1]
      unfold mI
      rw [if_neg (by omega), if_neg (by omega), hfb]
    · rw [hfb]; exact hb.2 (by omega) q hq
