/-! the class's house: what its methods do, in the words of the spec -/
theorem nI_z {d : Nat} (h : d < 2147483648) : nI d = 0 ↔ d = 0 := by
  rw [show (0 : Int32) = nI 0 from nI_0.symm]
  exact nI_eq h (by decide)
theorem nI_le0 {d : Nat} (h : d < 2147483648) : nI d ≤ 0 ↔ d = 0 := by
  rw [show (0 : Int32) = nI 0 from nI_0.symm, nI_leI h (by decide)]
  omega
theorem X_isLive {a : Nat} {σ : St} {h : Hs} (hx : HX a σ h) (hw : WF h) {l : Nat} (hl : l < hL h) : f_X3_isLive a (nI l) σ = some (bI (live h l), σ) := by
  have hL4 := hw.1
  have hin : inb (nI l) 4 := inb_nI (by omega) (by decide)
  have hc : (nI l).toNatClampNeg = l := nI_cl (by omega)
  have hd := (hx.2.2.2.2.2.2.2.1 l hl).2.2.2
  have hdb := (hw.2.2.2.2.2.2.1 l hl).2.2.2.2
  have h6 := hx.2.2.2.2.2.1
  have hz : nI (hDd h l) = 0 ↔ hDd h l = 0 := nI_z (by omega)
  unfold f_X3_isLive live
  simp only [lt, h6, if_pos hin, hc, hd, hz]
  by_cases a1 : hIn h = true <;> by_cases a2 : hDd h l = 0 <;> simp [bI, a1, a2, isB]
theorem X_isDead {a : Nat} {σ : St} {h : Hs} (hx : HX a σ h) (hw : WF h) {l : Nat} (hl : l < hL h) : f_X3_isDead a (nI l) σ = some (bI (decide (0 < hDd h l)), σ) := by
  have hL4 := hw.1
  have hin : inb (nI l) 4 := inb_nI (by omega) (by decide)
  have hc : (nI l).toNatClampNeg = l := nI_cl (by omega)
  have hd := (hx.2.2.2.2.2.2.2.1 l hl).2.2.2
  have hdb := (hw.2.2.2.2.2.2.1 l hl).2.2.2.2
  have hz : nI (hDd h l) ≤ 0 ↔ hDd h l = 0 := nI_le0 (by omega)
  unfold f_X3_isDead
  simp only [lt, if_pos hin, hc, hd, hz]
  by_cases a2 : hDd h l = 0
  · simp [bI, a2, isB]
  · have : 0 < hDd h l := by omega
    simp [bI, a2, isB, this]
/-- a bit of a small number -/
theorem bit_at : ∀ m, m < 64 → ∀ t, t < 6 → ((nI m >>> (nI t &&& 31)) &&& (1 : Int32)) = bI (m.testBit t) := by decide +kernel
theorem X_isOn {a : Nat} {σ : St} {h : Hs} (hx : HX a σ h) (hw : WF h) {t : Nat} (ht : t < 6) : f_X3_isOn a (nI t) σ = some (bI (isOnH h t), σ) := by
  have hon : hOn h < 64 := by
    have h1 := hw.2.2.2.2.2.1
    have h2 : 2 ^ hN h ≤ 2 ^ 6 := Nat.pow_le_pow_right (by decide) hw.2.1
    omega
  have h14 := hx.2.2.2.2.2.2.1
  unfold f_X3_isOn isOnH
  simp only [lt, h14, bit_at _ hon _ ht]
  cases (hOn h).testBit t <;> simp [bI, isB]
theorem X_runs {a : Nat} {σ : St} {h : Hs} (hx : HX a σ h) (hw : WF h) {t : Nat} (ht : t < hN h) : f_X3_runs a (nI t) σ = some (bI (runsH h t), σ) := by
  have hN6 := hw.2.1
  have hin : inb (nI t) 6 := inb_nI (by omega) (by decide)
  have hc : (nI t).toNatClampNeg = t := nI_cl (by omega)
  have hp := (hx.2.2.2.2.2.2.2.2 t ht).1
  have hpl := (hw.2.2.2.2.2.2.2 t ht).1
  unfold f_X3_runs runsH
  rw [X_isOn hx hw (by omega)]
  simp only [lt, bd_some, if_pos hin, hc, hp, X_isLive hx hw hpl]
  cases isOnH h t <;> cases live h (hPg h t) <;> simp [bI, isB]
/-- a loop over the lines, or things, that gathers bits -/
theorem nI_leN {a b : Nat} (ha : a < 2147483648) (hb : b < 2147483648) : nI a ≤ nI b ↔ a ≤ b := nI_leI ha hb
theorem X_liveLines {a : Nat} {σ : St} {h : Hs} (hx : HX a σ h) (hw : WF h) : f_X3_liveLines a σ = some (orT (live h) (hL h), σ) := by
  have hL4 := hw.1
  unfold f_X3_liveLines
  simp only [lt]
  have hloop := loop_up (body := f_X3_liveLines_L4 a) (r := (orT (live h) (hL h), σ)) (hL h) 5000 (fun i => (orT (live h) i, nI i, σ)) (by omega) (fun i hi => by
    unfold f_X3_liveLines_L4
    have hc : ¬ nI (hL h) ≤ nI i := by rw [nI_leN (by omega) (by omega)]; omega
    simp only [un3, hx.1, if_neg hc, X_isLive hx hw hi, bd_some, lt, nI_1]
    cases hv : live h i <;> simp [bI, orT, hv]) (by
    unfold f_X3_liveLines_L4
    have hc : nI (hL h) ≤ nI (hL h) := by rw [nI_leN (by omega) (by omega)]; omega
    simp only [un3, hx.1, if_pos hc])
  have e : ((0 : Int32), (0 : Int32), σ) = (orT (live h) 0, nI 0, σ) := by rw [nI_0]; rfl
  rw [e, hloop]
  rfl
theorem X_deadLines {a : Nat} {σ : St} {h : Hs} (hx : HX a σ h) (hw : WF h) : f_X3_deadLines a σ = some (orT (fun l => decide (0 < hDd h l)) (hL h), σ) := by
  have hL4 := hw.1
  unfold f_X3_deadLines
  simp only [lt]
  have hloop := loop_up (body := f_X3_deadLines_L4 a) (r := (orT (fun l => decide (0 < hDd h l)) (hL h), σ)) (hL h) 5000 (fun i => (orT (fun l => decide (0 < hDd h l)) i, nI i, σ)) (by omega) (fun i hi => by
    unfold f_X3_deadLines_L4
    have hc : ¬ nI (hL h) ≤ nI i := by rw [nI_leN (by omega) (by omega)]; omega
    simp only [un3, hx.1, if_neg hc, X_isDead hx hw hi, bd_some, lt, nI_1]
    cases hv : decide (0 < hDd h i) <;> simp [bI, orT, hv]) (by
    unfold f_X3_deadLines_L4
    have hc : nI (hL h) ≤ nI (hL h) := by rw [nI_leN (by omega) (by omega)]; omega
    simp only [un3, hx.1, if_pos hc])
  have e : ((0 : Int32), (0 : Int32), σ) = (orT (fun l => decide (0 < hDd h l)) 0, nI 0, σ) := by rw [nI_0]; rfl
  rw [e, hloop]
  rfl
theorem X_runningThings {a : Nat} {σ : St} {h : Hs} (hx : HX a σ h) (hw : WF h) : f_X3_runningThings a σ = some (orT (runsH h) (hN h), σ) := by
  have hN6 := hw.2.1
  unfold f_X3_runningThings
  simp only [lt]
  have hloop := loop_up (body := f_X3_runningThings_L4 a) (r := (orT (runsH h) (hN h), σ)) (hN h) 5000 (fun i => (orT (runsH h) i, nI i, σ)) (by omega) (fun i hi => by
    unfold f_X3_runningThings_L4
    have hc : ¬ nI (hN h) ≤ nI i := by rw [nI_leN (by omega) (by omega)]; omega
    simp only [un3, hx.2.1, if_neg hc, X_runs hx hw hi, bd_some, lt, nI_1]
    cases hv : runsH h i <;> simp [bI, orT, hv]) (by
    unfold f_X3_runningThings_L4
    have hc : nI (hN h) ≤ nI (hN h) := by rw [nI_leN (by omega) (by omega)]; omega
    simp only [un3, hx.2.1, if_pos hc])
  have e : ((0 : Int32), (0 : Int32), σ) = (orT (runsH h) 0, nI 0, σ) := by rw [nI_0]; rfl
  rw [e, hloop]
  rfl
