/-! what holds between the class's cells and the reference's, between two calls -/
def RowOk (σ : St) (r : Nat) : Prop := σ (35 + 2 * r) 1 = σ 263 r ∧ σ (35 + 2 * r) 2 = σ 264 r ∧ (σ 264 r = -1 ∨ ∃ n, n ≤ 40 ∧ σ 264 r = nI n ∧ ∀ i, i < n → σ (36 + 2 * r) i = σ 265 (40 * r + i))
def IRows (σ : St) : Prop := ∀ r, r < 8 → RowOk σ r
def ITape (σ : St) : Prop := ∃ n, n ≤ 90 ∧ σ 2 1 = nI n ∧ σ 259 9 = nI n ∧ ∀ i, i < n → ∃ c, c < 256 ∧ σ 3 i = nI c ∧ σ 267 i = (nI c).toInt8.toInt32
def IFlt (σ : St) : Prop := σ 0 10 = σ 259 15 ∧ σ 0 11 = σ 259 8
def ITrace (σ : St) : Prop := ∃ n, n ≤ 16 ∧ σ 11 1 = nI n ∧ σ 259 20 = nI n ∧ ∀ i, i < n → σ 12 i = σ 272 i
/-- the house that is, in both -/
def INow (σ : St) (h : Hs) : Prop := WF h ∧ HX 19 σ h ∧ hMin h ≤ 9999 ∧ (0 < hL h → 0 < hN h ∧ HM 0 0 σ h) ∧ (hL h = 0 → hN h = 0 ∧ hMain h = 0 ∧ hMin h = 0 ∧ hUsed h = 0 ∧ hOn h = 0 ∧ hIn h = false ∧ σ 261 0 = 0 ∧ σ 261 1 = 0 ∧ σ 261 2 = 0 ∧ σ 260 25 = 0 ∧ σ 260 26 = 0)
/-- the acts: the class's ring from o on, the reference's slots from the second on -/
def IActs (σ : St) (h : Hs) (o n : Nat) (ac : Nat → Hs) : Prop := o < 24 ∧ n ≤ 24 ∧ σ 0 6 = nI o ∧ σ 0 7 = nI n ∧ σ 259 3 = nI n ∧ (hL h = 0 → n = 0) ∧ ∀ i, i < n → WF (ac i) ∧ hMin (ac i) ≤ 9999 ∧ 0 < hN (ac i) ∧ HX (67 + 8 * ((o + i) % 24)) σ (ac i) ∧ HM (27 * (i + 1)) 0 σ (ac i)
def IImg (σ : St) (k : Nat) (im : Hs) : Prop := (σ 262 k = 0 ∧ σ (51 + 8 * k) 1 = 0) ∨ (σ 262 k = 1 ∧ 0 < hL im ∧ 0 < hN im ∧ WF im ∧ hMin im ≤ 9999 ∧ HX (51 + 8 * k) σ im ∧ HM (675 + 27 * k) (13 * (k + 1)) σ im)
def IHous (σ : St) : Prop := ∃ (h : Hs) (o n : Nat) (ac im : Nat → Hs), INow σ h ∧ IActs σ h o n ac ∧ ∀ k, k < 2 → IImg σ k (im k)
def Inv (σ : St) : Prop := IRows σ ∧ ITape σ ∧ IFlt σ ∧ ITrace σ ∧ IHous σ
theorem wide_le (a b : Int32) : a.toInt64 ≤ b.toInt64 ↔ a ≤ b := by
  rw [Int64.le_iff_toInt_le, Int32.le_iff_toInt_le, Int32.toInt_toInt64, Int32.toInt_toInt64]
theorem wide_lt (a b : Int32) : a.toInt64 < b.toInt64 ↔ a < b := by
  rw [Int64.lt_iff_toInt_lt, Int32.lt_iff_toInt_lt, Int32.toInt_toInt64, Int32.toInt_toInt64]
theorem M_in {x lo hi : Int32} {L H : Int64} {σ : St} (hL : L = lo.toInt64) (hH : H = hi.toInt64) : f_X12_in x.toInt64 L H σ = some (bI (decide (lo ≤ x ∧ x ≤ hi)), σ) := by
  subst hL hH
  unfold f_X12_in
  simp only [lt_eq, lg_cmp_lt, lg_cmp_gt, wide_lt]
  by_cases a1 : x < lo
  · have : ¬ lo ≤ x := Int32.not_le.mpr a1
    simp [a1, this, bI, isB]
  · have h1 : lo ≤ x := Int32.not_lt.mp a1
    by_cases a2 : hi < x
    · have : ¬ x ≤ hi := Int32.not_le.mpr a2
      simp [a1, a2, this, bI, isB]
    · have h2 : x ≤ hi := Int32.not_lt.mp a2
      simp [a1, a2, h1, h2, bI, isB]
theorem step_fault : Step Inv f_X11_fault f_X12_fault := by
  intro σ hI
  refine ⟨σ 0 10, σ, σ, rfl, ?_, hI⟩
  unfold f_X12_fault
  rw [hI.2.2.1.1]
theorem step_status : Step Inv f_X11_status f_X12_status := by
  intro σ hI
  refine ⟨σ 0 11, σ, σ, rfl, ?_, hI⟩
  unfold f_X12_status
  rw [hI.2.2.1.2]
theorem IRows.fr {σ s : St} (h : IRows σ) (hf : ∀ b, (35 ≤ b ∧ b < 51) ∨ b = 263 ∨ b = 264 ∨ b = 265 → s b = σ b) : IRows s := by
  intro r hr
  have q := h r hr
  unfold RowOk at q ⊢
  rw [hf (35 + 2 * r) (by omega), hf (36 + 2 * r) (by omega), hf 263 (by omega), hf 264 (by omega), hf 265 (by omega)]
  exact q
theorem ITape.fr {σ s : St} (h : ITape σ) (h1 : s 2 1 = σ 2 1) (h2 : s 259 9 = σ 259 9) (h3 : s 3 = σ 3) (h4 : s 267 = σ 267) : ITape s := by
  unfold ITape
  rw [h1, h2, h3, h4]
  exact h
theorem ITrace.fr {σ s : St} (h : ITrace σ) (h1 : s 11 1 = σ 11 1) (h2 : s 259 20 = σ 259 20) (h3 : s 12 = σ 12) (h4 : s 272 = σ 272) : ITrace s := by
  unfold ITrace
  rw [h1, h2, h3, h4]
  exact h
theorem IHous.fr {σ s : St} (h : IHous σ) (hf : ∀ b, (19 ≤ b ∧ b < 27) ∨ (51 ≤ b ∧ b < 259) ∨ b = 260 ∨ b = 261 ∨ b = 262 → s b = σ b) (h6 : s 0 6 = σ 0 6) (h7 : s 0 7 = σ 0 7) (h3 : s 259 3 = σ 259 3) : IHous s := by
  obtain ⟨h, o, n, ac, im, ⟨w, x, mi, p1, p2⟩, ⟨a1, a2, a3, a4, a5, a6, a7⟩, hi⟩ := h
  have e0 := hf 260 (by omega)
  have e1 := hf 261 (by omega)
  have e2 := hf 262 (by omega)
  refine ⟨h, o, n, ac, im, ⟨w, x.frame (fun b hb => hf b (by omega)), mi, fun q => ⟨(p1 q).1, (p1 q).2.frame e0 e1⟩, fun q => ?_⟩, ⟨a1, a2, h6.trans a3, h7.trans a4, h3.trans a5, a6, fun i hi => ?_⟩, fun k hk => ?_⟩
  · rw [e0, e1]; exact p2 q
  · obtain ⟨b1, b2, b3, b4, b5⟩ := a7 i hi
    have hm : (o + i) % 24 < 24 := Nat.mod_lt _ (by decide)
    exact ⟨b1, b2, b3, b4.frame (fun b hb => hf b (by omega)), b5.frame e0 e1⟩
  · rcases hi k hk with ⟨c1, c2⟩ | ⟨c1, c2, c3, c4, c5, c6, c7⟩
    · exact Or.inl ⟨by rw [e2]; exact c1, by rw [hf (51 + 8 * k) (by omega)]; exact c2⟩
    · exact Or.inr ⟨by rw [e2]; exact c1, c2, c3, c4, c5, c6.frame (fun b hb => hf b (by omega)), c7.frame e0 e1⟩
theorem step_feed (x : Int32) : Step Inv (f_X11_feed x) (f_X12_feed x) := by
  intro σ hI
  obtain ⟨hR, ⟨n, hn, t1, t2, t3⟩, hF, hT, hH⟩ := id hI
  have hin : f_X12_in x.toInt64 0 255 = fun s => some (bI (decide ((0 : Int32) ≤ x ∧ x ≤ 255)), s) := by
    funext s
    exact M_in (by decide) (by decide)
  unfold f_X11_feed f_X12_feed
  by_cases a1 : x < 0
  · have : ¬ (0 : Int32) ≤ x := Int32.not_le.mpr a1
    exact ⟨-1000001, σ, σ, by simp [lt_eq, a1], by simp [hin, bd_some, this, bI], hI⟩
  have b1 : (0 : Int32) ≤ x := Int32.not_lt.mp a1
  by_cases a2 : x ≤ 255
  · by_cases a3 : n = 90
    · subst a3
      have e : nI 90 = (90 : Int32) := by decide
      exact ⟨-1000003, σ, σ, by simp [lt_eq, a1, a2, t1, e], by simp [hin, bd_some, b1, a2, bI, t2, e], hI⟩
    · have hlt : nI n < (90 : Int32) := by rw [show (90 : Int32) = nI 90 by decide, nI_ltI (by omega) (by omega)]; omega
      have hne : ¬ nI n = (90 : Int32) := by rw [show (90 : Int32) = nI 90 by decide, nI_eq (by omega) (by omega)]; exact a3
      have ni : inb (nI n) 90 := inb_nI (by omega) (by decide)
      have cn : (nI n).toNatClampNeg = n := nI_cl (by omega)
      obtain ⟨c, hc, rfl⟩ : ∃ j : Nat, j ≤ 255 ∧ x = nI j := nI_of2 (M := 255) (by decide) a1 a2
      refine ⟨nI (n + 1), wr (wr σ 3 n (nI c)) 2 1 (nI (n + 1)), wr (wr (wr (wr σ 3 n (nI c)) 2 1 (nI (n + 1))) 267 n (vp_nar .byte (nI c).toInt8.toInt32)) 259 9 (nI (n + 1)), ?_, ?_, ?_⟩
      · have q : wr σ 3 n (nI c) 2 1 = nI n := by rw [wr_ne _ (by omega)]; exact t1
        simp only [lt_eq]
        rw [if_neg a1, if_pos a2, t1, if_pos hlt]
        unfold f_X6_append
        simp only [lt_eq, t1, if_pos ni, cn, q, nI_1, wr_same, bd_some]
      · have q : wr (wr σ 3 n (nI c)) 2 1 (nI (n + 1)) 259 9 = nI n := by rw [wr_ne _ (by omega), wr_ne _ (by omega)]; exact t2
        have q2 : ∀ v, wr (wr (wr σ 3 n (nI c)) 2 1 (nI (n + 1))) 267 n v 259 9 = nI n := fun v => by rw [wr_ne _ (by omega)]; exact q
        have hb : bI (decide ((0 : Int32) ≤ nI c ∧ nI c ≤ 255)) = 1 := by simp [b1, a2, bI]
        simp only [hin, bd_some, hb, lt_eq, q, if_neg hne, if_pos ni, cn, q2, nI_1, wr_same]
        simp [hne]
      · have o : ∀ b, b ≠ 3 → b ≠ 2 → b ≠ 267 → b ≠ 259 → wr (wr (wr (wr σ 3 n (nI c)) 2 1 (nI (n + 1))) 267 n (vp_nar .byte (nI c).toInt8.toInt32)) 259 9 (nI (n + 1)) b = σ b := by
          intro b z1 z2 z3 z4
          rw [wr_a z4, wr_a z3, wr_a z2, wr_a z1]
        have o2 : ∀ k, k ≠ 9 → wr (wr (wr (wr σ 3 n (nI c)) 2 1 (nI (n + 1))) 267 n (vp_nar .byte (nI c).toInt8.toInt32)) 259 9 (nI (n + 1)) 259 k = σ 259 k := by
          intro k z
          rw [wr_ne _ (by omega), wr_ne _ (by omega), wr_ne _ (by omega), wr_ne _ (by omega)]
        refine ⟨hR.fr (fun b hb => o b (by omega) (by omega) (by omega) (by omega)), ⟨n + 1, by omega, ?_, ?_, ?_⟩, ?_, hT.fr (congrFun (o 11 (by decide) (by decide) (by decide) (by decide)) 1) (o2 20 (by decide)) (o 12 (by decide) (by decide) (by decide) (by decide)) (o 272 (by decide) (by decide) (by decide) (by decide)), hH.fr (fun b hb => o b (by omega) (by omega) (by omega) (by omega)) (congrFun (o 0 (by decide) (by decide) (by decide) (by decide)) 6) (congrFun (o 0 (by decide) (by decide) (by decide) (by decide)) 7) (o2 3 (by decide))⟩
        · rw [wr_ne _ (by omega), wr_ne _ (by omega), wr_same]
        · rw [wr_same]
        · intro i hi
          by_cases q : i = n
          · subst q
            refine ⟨c, by omega, ?_, ?_⟩
            · rw [wr_ne _ (by omega), wr_ne _ (by omega), wr_ne _ (by omega), wr_same]
            · rw [wr_ne _ (by omega), wr_same]
              exact pk_vb (nI c)
          · obtain ⟨c', z1, z2, z3⟩ := t3 i (by omega)
            refine ⟨c', z1, ?_, ?_⟩
            · rw [wr_ne _ (by omega), wr_ne _ (by omega), wr_ne _ (by omega), wr_ne _ (by omega)]; exact z2
            · rw [wr_ne _ (by omega), wr_ne _ (by omega), wr_ne _ (by omega), wr_ne _ (by omega)]; exact z3
        · refine ⟨?_, ?_⟩
          · rw [o2 15 (by decide), o 0 (by decide) (by decide) (by decide) (by decide)]; exact hF.1
          · rw [o2 8 (by decide), o 0 (by decide) (by decide) (by decide) (by decide)]; exact hF.2
  · have b2 : ¬ (x ≤ 255) := a2
    exact ⟨-1000001, σ, σ, by simp [lt_eq, a1, a2], by simp [hin, bd_some, b1, a2, bI], hI⟩
