/-! the reference's house: what its methods do, in the words of the spec -/
theorem i0 : (0 : Int32) = nI 0 := by decide
theorem i1 : (1 : Int32) = nI 1 := by decide
theorem i2 : (2 : Int32) = nI 2 := by decide
theorem i3 : (3 : Int32) = nI 3 := by decide
theorem i4 : (4 : Int32) = nI 4 := by decide
theorem i5 : (5 : Int32) = nI 5 := by decide
theorem i7 : (7 : Int32) = nI 7 := by decide
theorem i8 : (8 : Int32) = nI 8 := by decide
theorem i10 : (10 : Int32) = nI 10 := by decide
theorem i12 : (12 : Int32) = nI 12 := by decide
theorem i18 : (18 : Int32) = nI 18 := by decide
theorem i24 : (24 : Int32) = nI 24 := by decide
theorem i25 : (25 : Int32) = nI 25 := by decide
theorem i26 : (26 : Int32) = nI 26 := by decide
theorem i27 : (27 : Int32) = nI 27 := by decide
theorem c0 : (0 : Int32).toNatClampNeg = 0 := by decide
theorem c1 : (1 : Int32).toNatClampNeg = 1 := by decide
theorem c2 : (2 : Int32).toNatClampNeg = 2 := by decide
theorem inb0 : inb (0 : Int32) 39 := by decide
theorem inb1 : inb (1 : Int32) 39 := by decide
theorem inb2 : inb (2 : Int32) 39 := by decide
theorem M_isLive {b : Nat} {σ : St} {h : Hs} (hm : HM b 0 σ h) (hw : WF h) (hb : b ≤ 729) {l : Nat} (hl : l < hL h) : f_X12_isLive (nI b) (nI l) σ = some (bI (live h l), σ) := by
  have hL4 := hw.1
  have hd := (hm.2.2.2.2.2.2.1 l hl).2.2.2
  have hdb := (hw.2.2.2.2.2.2.1 l hl).2.2.2.2
  have ho := hm.2.2.2.2.2.1
  have hz : nI (hDd h l) = 0 ↔ hDd h l = 0 := nI_z (by omega)
  have hin : inb (nI (b + 4 + l)) 756 := inb_nI (by omega) (by decide)
  have hin2 : inb (nI (b + 24)) 756 := inb_nI (by omega) (by decide)
  unfold f_X12_isLive live
  rw [i4, i24, nI_add, nI_add, nI_add]
  simp only [lt, if_pos hin, if_pos hin2, nI_cl (show b + 4 + l < 2147483648 by omega), nI_cl (show b + 24 < 2147483648 by omega), hd, ho, hz]
  by_cases a1 : hIn h = true <;> by_cases a2 : hDd h l = 0 <;> simp [bI, a1, a2, isB]
theorem M_runs {b : Nat} {σ : St} {h : Hs} (hm : HM b 0 σ h) (hw : WF h) (hb : b ≤ 729) {t : Nat} (ht : t < hN h) : f_X12_runs (nI b) (nI t) σ = some (bI (runsH h t), σ) := by
  have hN6 := hw.2.1
  obtain ⟨hp, hld, hon⟩ := hm.2.2.2.2.2.2.2 t ht
  have hpl := (hw.2.2.2.2.2.2.2 t ht).1
  have hin : inb (nI (b + 18 + t)) 756 := inb_nI (by omega) (by decide)
  have hin2 : inb (nI (b + 12 + t)) 756 := inb_nI (by omega) (by decide)
  unfold f_X12_runs runsH
  rw [i18, i12, nI_add, nI_add, nI_add, nI_add]
  simp only [lt, if_pos hin, if_pos hin2, nI_cl (show b + 18 + t < 2147483648 by omega), nI_cl (show b + 12 + t < 2147483648 by omega), hp, hon, M_isLive hm hw hb hpl, bd_some]
  cases isOnH h t <;> cases live h (hPg h t) <;> simp [bI, isB]
theorem M_flowOf {b : Nat} {σ : St} {h : Hs} (hm : HM b 0 σ h) (hw : WF h) (hb : b ≤ 729) {l : Nat} (hl : l < hL h) : f_X12_flowOf (nI b) (nI l) σ = some (nI (flowH h l), σ) := by
  have hN6 := hw.2.1
  have hL4 := hw.1
  have hN1 : σ 261 1 = nI (hN h) := hm.2.1
  unfold f_X12_flowOf
  simp only [lt]
  have hloop := loop_up (body := f_X12_flowOf_L5 (nI b) (nI l)) (r := (nI (flowN h l (hN h)), σ)) (hN h) 5000 (fun i => (nI (flowN h l i), nI i, σ)) (by omega) (fun i hi => by
    have hc : ¬ nI (hN h) ≤ nI i := by rw [nI_leN (by omega) (by omega)]; omega
    obtain ⟨hp, hld, hon⟩ := hm.2.2.2.2.2.2.2 i hi
    have hld : σ 261 (7 + i) = nI (hLd h i) := by rw [← hld, Nat.zero_add]
    have hpl := (hw.2.2.2.2.2.2.2 i hi).1
    have hin : inb (nI (b + 12 + i)) 756 := inb_nI (by omega) (by decide)
    have hin2 : inb (nI (7 + i)) 39 := inb_nI (by omega) (by decide)
    have hpe : nI (hPg h i) = nI l ↔ hPg h i = l := nI_eq (by omega) (by omega)
    have hf : flowN h l (i + 1) = flowN h l i + (if runsH h i && decide (hPg h i = l) then hLd h i else 0) := rfl
    unfold f_X12_flowOf_L5
    simp only [un3, if_pos inb1, c1, hN1, if_neg hc]
    rw [i12, i7, nI_add, nI_add, nI_add]
    simp only [lt, if_pos hin, if_pos hin2, nI_cl (show b + 12 + i < 2147483648 by omega), nI_cl (show 7 + i < 2147483648 by omega), hp, hld, hpe, M_runs hm hw hb hi, bd_some, nI_1, hf]
    by_cases q : hPg h i = l
    · cases hv : runsH h i
      · simp [q, bI]
      · simp [q, bI, nI_add]
    · simp [q]) (by
    have hc : nI (hN h) ≤ nI (hN h) := by rw [nI_leN (by omega) (by omega)]; omega
    unfold f_X12_flowOf_L5
    simp only [un3, if_pos inb1, c1, hN1, if_pos hc])
  have e : ((0 : Int32), (0 : Int32), σ) = (nI (flowN h l 0), nI 0, σ) := by rw [nI_0]; rfl
  rw [e, hloop]
  rfl
theorem M_liveOnes {b : Nat} {σ : St} {h : Hs} (hm : HM b 0 σ h) (hw : WF h) (hb : b ≤ 729) : f_X12_liveOnes (nI b) σ = some (orT (live h) (hL h), σ) := by
  have hL4 := hw.1
  have hL1 : σ 261 0 = nI (hL h) := hm.1
  unfold f_X12_liveOnes
  simp only [lt]
  have hloop := loop_up (body := f_X12_liveOnes_L4 (nI b)) (r := (orT (live h) (hL h), σ)) (hL h) 5000 (fun i => (orT (live h) i, nI i, σ)) (by omega) (fun i hi => by
    have hc : ¬ nI (hL h) ≤ nI i := by rw [nI_leN (by omega) (by omega)]; omega
    unfold f_X12_liveOnes_L4
    simp only [un3, if_pos inb0, c0, hL1, if_neg hc, M_isLive hm hw hb hi, bd_some, lt, nI_1]
    cases hv : live h i <;> simp [bI, orT, hv]) (by
    have hc : nI (hL h) ≤ nI (hL h) := by rw [nI_leN (by omega) (by omega)]; omega
    unfold f_X12_liveOnes_L4
    simp only [un3, if_pos inb0, c0, hL1, if_pos hc])
  have e : ((0 : Int32), (0 : Int32), σ) = (orT (live h) 0, nI 0, σ) := by rw [nI_0]; rfl
  rw [e, hloop]
  rfl
theorem M_running {b : Nat} {σ : St} {h : Hs} (hm : HM b 0 σ h) (hw : WF h) (hb : b ≤ 729) : f_X12_running (nI b) σ = some (orT (runsH h) (hN h), σ) := by
  have hN6 := hw.2.1
  have hN1 : σ 261 1 = nI (hN h) := hm.2.1
  unfold f_X12_running
  simp only [lt]
  have hloop := loop_up (body := f_X12_running_L4 (nI b)) (r := (orT (runsH h) (hN h), σ)) (hN h) 5000 (fun i => (orT (runsH h) i, nI i, σ)) (by omega) (fun i hi => by
    have hc : ¬ nI (hN h) ≤ nI i := by rw [nI_leN (by omega) (by omega)]; omega
    unfold f_X12_running_L4
    simp only [un3, if_pos inb1, c1, hN1, if_neg hc, M_runs hm hw hb hi, bd_some, lt, nI_1]
    cases hv : runsH h i <;> simp [bI, orT, hv]) (by
    have hc : nI (hN h) ≤ nI (hN h) := by rw [nI_leN (by omega) (by omega)]; omega
    unfold f_X12_running_L4
    simp only [un3, if_pos inb1, c1, hN1, if_pos hc])
  have e : ((0 : Int32), (0 : Int32), σ) = (orT (runsH h) 0, nI 0, σ) := by rw [nI_0]; rfl
  rw [e, hloop]
  rfl
