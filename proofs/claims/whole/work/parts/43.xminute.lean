/-! the class's house: a minute -/
theorem nI_sub_le {a b : Nat} (ha : a < 1000000) (hb : b < 1000000) : nI a - nI b ≤ 0 ↔ a ≤ b := by
  rw [Int32.le_iff_toInt_le, pk_sub_toInt (by omega) (by omega), Int32.toInt_zero]
  omega
theorem nI_max {a : Nat} (ha : a < 1000000) : (if (0 : Int32) < nI a - 1 then nI a - 1 else 0) = nI (a - 1) := by
  rcases Nat.eq_zero_or_pos a with h | h
  · subst h; decide
  · rw [show (1 : Int32) = nI 1 by decide, pk_sub h]
    by_cases h1 : (0 : Int32) < nI (a - 1)
    · rw [if_pos h1]
    · rw [if_neg h1]
      rw [show (0 : Int32) = nI 0 from nI_0.symm, nI_ltI (by omega) (by omega)] at h1
      rw [show a - 1 = 0 by omega, nI_0]
theorem nI_min {a : Nat} (k : Nat) {K : Int32} (hK : K = nI k) (ha : a < 1000000) (hk : k < 1000000) : (if nI a < K then nI a else K) = nI (min k a) := by
  subst hK
  by_cases h : a < k
  · rw [if_pos ((nI_ltI (by omega) (by omega)).mpr h), Nat.min_eq_right (by omega)]
  · rw [if_neg (fun q => h ((nI_ltI (by omega) (by omega)).mp q)), Nat.min_eq_left (by omega)]
theorem D_heat {k ht fl rt : Nat} {σ : St} (hk1 : 1 ≤ k) (hk5 : k ≤ 5) (hh : ht ≤ 99) (hf : fl ≤ 200) (hr : rt ≤ 20) : d_heatBehind (13 + k) (nI ht) (nI fl - nI rt) σ = some (nI (heatN k ht fl rt), σ) := by
  have hle : nI fl - nI rt ≤ 0 ↔ fl ≤ rt := nI_sub_le (by omega) (by omega)
  have hmx : (if (0 : Int32) < nI ht - 1 then nI ht - 1 else 0) = nI (ht - 1) := nI_max (by omega)
  have e99 : (99 : Int32) = nI 99 := by decide
  have h2 : ∀ x, x ≤ 200 → nI x / (2 : Int32) = nI (x / 2) := fun x hx => pk_div (by omega) (by decide) (by decide)
  have hk : k = 1 ∨ k = 2 ∨ k = 3 ∨ k = 4 ∨ k = 5 := by omega
  rcases hk with h | h | h | h | h <;> subst h
  · unfold d_heatBehind f_X10_heatBehind_14 f_X10_heatBy_14 heatN
    simp only [lt, bd_some, hle, hmx]
    by_cases q : fl ≤ rt
    · simp [q]
    · have e : nI fl - nI rt = nI (fl - rt) := pk_sub (by omega)
      have m := nI_min (a := ht + (fl - rt)) 99 e99 (by omega) (by omega)
      simp [q, e, nI_add, m]
  · unfold d_heatBehind f_X10_heatBehind_15 f_X8_heatBy_15 heatN
    simp only [lt, bd_some, hle, hmx]
    by_cases q : fl ≤ rt
    · simp [q]
    · have e : nI fl - nI rt = nI (fl - rt) := pk_sub (by omega)
      have e2 := h2 (fl - rt) (by omega)
      have m := nI_min (a := ht + (fl - rt) / 2) 99 e99 (by omega) (by omega)
      simp [q, e, e2, nI_add, m]
  · unfold d_heatBehind f_X10_heatBehind_16 f_X10_heatBy_16 heatN
    simp only [lt, bd_some, hle, hmx]
    by_cases q : fl ≤ rt
    · simp [q]
    · have e : nI fl - nI rt = nI (fl - rt) := pk_sub (by omega)
      have m := nI_min (a := ht + (fl - rt)) 99 e99 (by omega) (by omega)
      simp [q, e, nI_add, m]
  · unfold d_heatBehind f_X0_heatBehind_17 heatN
    simp
  · unfold d_heatBehind f_X0_heatBehind_18 heatN
    simp
theorem D_dead {k ht fl rt : Nat} {σ : St} (hk1 : 1 ≤ k) (hk5 : k ≤ 5) (hh : ht ≤ 99) (hf : fl ≤ 200) (hr : rt ≤ 20) : d_deadBehind (13 + k) (nI ht) (nI fl) (nI rt) σ = some (nI (deadN k ht fl rt), σ) := by
  have hle : nI fl ≤ nI rt ↔ fl ≤ rt := nI_leN (by omega) (by omega)
  have h10 : nI ht < (10 : Int32) ↔ ht < 10 := by rw [show (10 : Int32) = nI 10 by decide, nI_ltI (by omega) (by omega)]
  have h2r : nI fl < (2 : Int32) * nI rt ↔ fl < 2 * rt := by rw [show (2 : Int32) = nI 2 by decide, pk_mul, nI_ltI (by omega) (by omega)]
  have e0 : (0 : Int32) = nI 0 := by decide
  have e1 : (1 : Int32) = nI 1 := by decide
  have e3 : (3 : Int32) = nI 3 := by decide
  have hk : k = 1 ∨ k = 2 ∨ k = 3 ∨ k = 4 ∨ k = 5 := by omega
  rcases hk with h | h | h | h | h <;> subst h
  · unfold d_deadBehind f_X10_deadBehind_14 deadN
    simp only [lt, h10]
    by_cases q : ht < 10
    · simp [q, e0, show ¬ 10 ≤ ht by omega]
    · simp [q, e1, show 10 ≤ ht by omega]
  · unfold d_deadBehind f_X10_deadBehind_15 deadN
    simp only [lt, h10]
    by_cases q : ht < 10
    · simp [q, e0, show ¬ 10 ≤ ht by omega]
    · simp [q, e1, show 10 ≤ ht by omega]
  · unfold d_deadBehind f_X5_deadBehind_16 f_X10_deadBehind_16 deadN
    simp only [lt, h10, h2r]
    by_cases q2 : fl < 2 * rt
    · by_cases q : ht < 10
      · simp [q, q2, bd_some, e0, show ¬ 10 ≤ ht by omega, show ¬ 2 * rt ≤ fl by omega]
      · simp [q, q2, bd_some, e1, show 10 ≤ ht by omega]
    · simp [q2, e1, show 2 * rt ≤ fl by omega]
  · unfold d_deadBehind f_X0_deadBehind_17 f_X0_deadIfOver_17 deadN
    simp only [lt, bd_some, hle]
    by_cases q : fl ≤ rt
    · simp [q, e0]
    · simp [q, e1]
  · unfold d_deadBehind f_X0_deadBehind_18 f_X1_deadIfOver_18 deadN
    simp only [lt, bd_some, hle]
    by_cases q : fl ≤ rt
    · simp [q, e0]
    · simp [q, e3]
theorem X_fuseOf {a : Nat} {σ : St} {h : Hs} (hx : HX a σ h) (hw : WF h) {l : Nat} (hl : l < hL h) : f_X3_fuseOf a (nI l) σ = some (13 + hKd h l, σ) := by
  have hL4 := hw.1
  have hin : inb (nI l) 4 := inb_nI (by omega) (by decide)
  have hc : (nI l).toNatClampNeg = l := nI_cl (by omega)
  have hk := (hx.2.2.2.2.2.2.2.1 l hl).1
  have hkb := hw.2.2.2.2.2.2.1 l hl
  have e : nI (hKd h l) - 1 = nI (hKd h l - 1) := by rw [show (1 : Int32) = nI 1 by decide]; exact pk_sub (by omega)
  have hin2 : inb (nI (hKd h l - 1)) 5 := inb_nI (by omega) (by decide)
  unfold f_X3_fuseOf fuseA
  simp only [lt, if_pos hin, hc, hk, e, if_pos hin2, nI_cl (show hKd h l - 1 < 2147483648 by omega)]
  have : 14 + (hKd h l - 1) = 13 + hKd h l := by omega
  rw [this]
def lineW (σ : St) (a l ht dd : Nat) : St := wr (wr σ (a + 3) l (nI ht)) (a + 4) l (nI dd)
theorem wr_id {σ : St} {a k : Nat} {v : Int32} (h : σ a k = v) : wr σ a k v = σ := by
  funext b j
  rw [wr_eq]
  by_cases q : b = a ∧ j = k
  · rw [if_pos q, q.1, q.2, h]
  · rw [if_neg q]
theorem X_passLine {a : Nat} {σ : St} {h : Hs} (hx : HX a σ h) (hw : WF h) {l fl : Nat} (hl : l < hL h) (hfl : fl ≤ 200) : f_X3_passLine a (nI l) (nI fl) σ = some (lineW σ a l (passHt h l fl) (passDd h l fl)) := by
  have hL4 := hw.1
  have hin : inb (nI l) 4 := inb_nI (by omega) (by decide)
  have hc : (nI l).toNatClampNeg = l := nI_cl (by omega)
  obtain ⟨hk, hr, hh, hd⟩ := hx.2.2.2.2.2.2.2.1 l hl
  obtain ⟨hk1, hk5, hr20, hh99, hd3⟩ := hw.2.2.2.2.2.2.1 l hl
  unfold f_X3_passLine passDd lineW
  rw [X_isLive hx hw hl]
  simp only [bd_some]
  by_cases hv : live h l = true
  · have hp : passHt h l fl = heatN (hKd h l) (hHt h l) fl (hRt h l) := by unfold passHt; rw [if_pos hv]
    have hp99 : heatN (hKd h l) (hHt h l) fl (hRt h l) ≤ 99 := by rw [← hp]; exact passHt_le hw hl
    rw [if_neg (by rw [hv]; decide : ¬ bI (live h l) = 0), if_pos hv]
    simp only [X_fuseOf hx hw hl, bd_some, if_pos hin, hc, hh, hr, D_heat hk1 hk5 hh99 hfl hr20, lt]
    rw [wr_same, wr_ne _ (by omega), hr]
    simp only [D_dead hk1 hk5 hp99 hfl hr20, bd_some, lt, hp]
  · have hv' : live h l = false := by cases q : live h l <;> simp_all
    have hp : passHt h l fl = hHt h l - 1 := by unfold passHt; rw [if_neg hv]
    rw [if_pos (by rw [hv']; decide : bI (live h l) = 0), if_neg hv]
    simp only [if_pos hin, hc, hh, nI_max (show hHt h l < 1000000 by omega), lt]
    rw [wr_ne _ (by omega), hk]
    have h5 : (nI (hKd h l) = (5 : Int32)) ↔ hKd h l = 5 := by rw [show (5 : Int32) = nI 5 by decide, nI_eq (by omega) (by decide)]
    by_cases q5 : hKd h l = 5
    · rw [if_neg (fun q => q (h5.mpr q5)), if_pos q5]
      have hdead : f_X3_isDead a (nI l) (wr σ (a + 3) l (nI (hHt h l - 1))) = some (bI (decide (0 < hDd h l)), wr σ (a + 3) l (nI (hHt h l - 1))) := by
        have hz : nI (hDd h l) ≤ 0 ↔ hDd h l = 0 := nI_le0 (by omega)
        unfold f_X3_isDead
        simp only [lt, if_pos hin, hc]
        rw [wr_ne _ (by omega), hd]
        simp only [hz]
        by_cases a2 : hDd h l = 0
        · simp [bI, a2, isB]
        · have : 0 < hDd h l := by omega
          simp [bI, a2, isB, this]
      rw [hdead]
      simp only [bd_some]
      by_cases a2 : hDd h l = 0
      · rw [if_pos (by simp [bI, a2] : bI (decide (0 < hDd h l)) = 0), hp, a2]
        rw [wr_id (show wr σ (a + 3) l (nI (hHt h l - 1)) (a + 4) l = nI (0 - 1) by rw [wr_ne _ (by omega), hd, a2])]
      · have hpos : 0 < hDd h l := by omega
        rw [if_neg (by simp [bI, hpos] : ¬ bI (decide (0 < hDd h l)) = 0), wr_ne _ (by omega), hd, show (1 : Int32) = nI 1 by decide, pk_sub hpos, hp]
    · rw [if_pos (fun q => q5 (h5.mp q)), if_neg q5, hp]
      rw [wr_id (show wr σ (a + 3) l (nI (hHt h l - 1)) (a + 4) l = nI (hDd h l) by rw [wr_ne _ (by omega), hd])]
theorem HX.frame {a : Nat} {σ s : St} {h : Hs} (hx : HX a σ h) (hf : ∀ b, b = a ∨ b = a + 1 ∨ b = a + 2 ∨ b = a + 3 ∨ b = a + 4 ∨ b = a + 6 ∨ b = a + 7 → s b = σ b) : HX a s h := by
  obtain ⟨h1, h2, h3, h4, h5, h6, h7, hl, ht⟩ := hx
  have e0 := hf a (by omega)
  have e1 := hf (a + 1) (by omega)
  have e2 := hf (a + 2) (by omega)
  have e3 := hf (a + 3) (by omega)
  have e4 := hf (a + 4) (by omega)
  have e6 := hf (a + 6) (by omega)
  have e7 := hf (a + 7) (by omega)
  refine ⟨by rw [e0]; exact h1, by rw [e0]; exact h2, by rw [e0]; exact h3, by rw [e0]; exact h4, by rw [e0]; exact h5, by rw [e0]; exact h6, by rw [e0]; exact h7, fun l q => ?_, fun t q => ?_⟩
  · rw [e1, e2, e3, e4]; exact hl l q
  · rw [e6, e7]; exact ht t q
/-- the cells of the house at a -/
def blk (a : Nat) : Nat → Prop := fun b => a ≤ b ∧ b < a + 8
def setLine (h : Hs) (l x y : Nat) : Hs := mkH (hL h) (hN h) (hMain h) (hMin h) (hUsed h) (hOn h) (hIn h) (hKd h) (hRt h) (fun m => if m = l then x else hHt h m) (fun m => if m = l then y else hDd h m) (hPg h) (hLd h)
theorem HX.line {a : Nat} {σ : St} {h : Hs} (hx : HX a σ h) (l x y : Nat) : HX a (lineW σ a l x y) (setLine h l x y) := by
  obtain ⟨h1, h2, h3, h4, h5, h6, h7, hl, ht⟩ := hx
  have o : ∀ b k, b ≠ a + 3 → b ≠ a + 4 → lineW σ a l x y b k = σ b k := by
    intro b k q1 q2
    unfold lineW
    rw [wr_ne _ (fun q => absurd q q2), wr_ne _ (fun q => absurd q q1)]
  refine ⟨?_, ?_, ?_, ?_, ?_, ?_, ?_, fun m hm => ⟨?_, ?_, ?_, ?_⟩, fun t q => ⟨?_, ?_⟩⟩
  · rw [o _ _ (by omega) (by omega)]; exact h1
  · rw [o _ _ (by omega) (by omega)]; exact h2
  · rw [o _ _ (by omega) (by omega)]; exact h3
  · rw [o _ _ (by omega) (by omega)]; exact h4
  · rw [o _ _ (by omega) (by omega)]; exact h5
  · rw [o _ _ (by omega) (by omega)]; exact h6
  · rw [o _ _ (by omega) (by omega)]; exact h7
  · rw [o _ _ (by omega) (by omega)]; exact (hl m hm).1
  · rw [o _ _ (by omega) (by omega)]; exact (hl m hm).2.1
  · show lineW σ a l x y (a + 3) m = nI (if m = l then x else hHt h m)
    unfold lineW
    rw [wr_ne _ (by omega), wr_eq]
    by_cases q : m = l
    · simp [q]
    · simp [q]; exact (hl m hm).2.2.1
  · show lineW σ a l x y (a + 4) m = nI (if m = l then y else hDd h m)
    unfold lineW
    rw [wr_eq]
    by_cases q : m = l
    · simp [q]
    · rw [if_neg (by simp [q]), wr_ne _ (by omega), if_neg q]; exact (hl m hm).2.2.2
  · rw [o _ _ (by omega) (by omega)]; exact (ht t q).1
  · rw [o _ _ (by omega) (by omega)]; exact (ht t q).2
theorem X_reckon {a : Nat} {σ : St} {h : Hs} (hx : HX a σ h) (hw : WF h) : ∃ s, f_X3_reckonFlows a σ = some (nI (allH h), s) ∧ (∀ l, l < hL h → s (a + 5) l = nI (flowH h l)) ∧ ∀ b, b ≠ a + 5 → s b = σ b := by
  have hL4 := hw.1
  have hN6 := hw.2.1
  unfold f_X3_reckonFlows
  simp only [lt]
  obtain ⟨s1, e1, hz, hf1⟩ := loop_n (body := f_X3_reckonFlows_L4 a) (fun i (x : Int32 × St) => x.1 = nI i ∧ (∀ l, l < i → x.2 (a + 5) l = 0) ∧ ∀ b, b ≠ a + 5 → x.2 b = σ b) (fun s => (∀ l, l < hL h → s (a + 5) l = 0) ∧ ∀ b, b ≠ a + 5 → s b = σ b) (hL h) 5000 ((0 : Int32), σ) (by omega) ⟨nI_0.symm, fun l q => absurd q (by omega), fun _ _ => rfl⟩ (by
      rintro i ⟨v, s⟩ hi ⟨q1, q2, q3⟩
      simp only at q1 q2 q3
      subst q1
      have hx1 := (hx.frame (fun b hb => q3 b (by omega))).1
      have hc : ¬ nI (hL h) ≤ nI i := by rw [nI_leN (by omega) (by omega)]; omega
      have hin : inb (nI i) 4 := inb_nI (by omega) (by decide)
      refine ⟨(nI (i + 1), wr s (a + 5) i 0), ?_, rfl, ?_, ?_⟩
      · unfold f_X3_reckonFlows_L4
        simp only [un2, hx1, if_neg hc, if_pos hin, nI_cl (show i < 2147483648 by omega), lt, nI_1]
      · intro l hl
        simp only [wr_eq]
        by_cases q : l = i
        · simp [q]
        · simp [q]; exact q2 l (by omega)
      · intro b hb
        simp only [wr_a hb]
        exact q3 b hb) (by
      rintro ⟨v, s⟩ ⟨q1, q2, q3⟩
      simp only at q1 q2 q3
      subst q1
      have hx1 := (hx.frame (fun b hb => q3 b (by omega))).1
      have hc : nI (hL h) ≤ nI (hL h) := by rw [nI_leN (by omega) (by omega)]; omega
      refine ⟨s, ?_, q2, q3⟩
      unfold f_X3_reckonFlows_L4
      simp only [un2, hx1, if_pos hc])
  rw [e1]
  simp only [bind_some', un1]
  obtain ⟨⟨r, s2⟩, e2, hr, hfl, hf2⟩ := loop_n (body := f_X3_reckonFlows_L27 a) (fun i (x : Int32 × Int32 × St) => x.2.1 = nI i ∧ x.1 = nI (allN h i) ∧ (∀ l, l < hL h → x.2.2 (a + 5) l = nI (flowN h l i)) ∧ ∀ b, b ≠ a + 5 → x.2.2 b = σ b) (fun x => x.1 = nI (allH h) ∧ (∀ l, l < hL h → x.2 (a + 5) l = nI (flowH h l)) ∧ ∀ b, b ≠ a + 5 → x.2 b = σ b) (hN h) 5000 ((0 : Int32), (0 : Int32), s1) (by omega) ⟨nI_0.symm, nI_0.symm, fun l q => (hz l q).trans nI_0.symm, hf1⟩ (by
      rintro i ⟨v1, v2, s⟩ hi ⟨q1, q2, q3, q4⟩
      simp only at q1 q2 q3 q4
      subst q1 q2
      have hxs := hx.frame (s := s) (fun b hb => q4 b (by omega))
      have hc : ¬ nI (hN h) ≤ nI i := by rw [nI_leN (by omega) (by omega)]; omega
      have hin : inb (nI i) 6 := inb_nI (by omega) (by decide)
      have hci : (nI i).toNatClampNeg = i := nI_cl (by omega)
      obtain ⟨hp, hld⟩ := hxs.2.2.2.2.2.2.2.2 i hi
      obtain ⟨hpl, hl20⟩ := hw.2.2.2.2.2.2.2 i hi
      have hinp : inb (nI (hPg h i)) 4 := inb_nI (by omega) (by decide)
      have hcp : (nI (hPg h i)).toNatClampNeg = hPg h i := nI_cl (by omega)
      have hall : allN h (i + 1) = allN h i + (if runsH h i then hLd h i else 0) := rfl
      have hflw : ∀ l, flowN h l (i + 1) = flowN h l i + (if runsH h i && decide (hPg h i = l) then hLd h i else 0) := fun l => rfl
      unfold f_X3_reckonFlows_L27
      simp only [un3, hxs.2.1, if_neg hc, X_runs hxs hw hi, bd_some, lt, nI_1]
      cases hv : runsH h i with
      | false =>
        refine ⟨(nI (allN h i), nI (i + 1), s), by simp [bI], rfl, ?_, ?_, q4⟩
        · simp [hall, hv]
        · intro l hl
          simp only [hflw, hv]
          simpa using q3 l hl
      | true =>
        refine ⟨(nI (allN h i + hLd h i), nI (i + 1), wr s (a + 5) (hPg h i) (nI (flowN h (hPg h i) i + hLd h i))), ?_, rfl, ?_, ?_, ?_⟩
        · rw [if_neg (by decide : ¬ bI true = 0)]
          simp only [if_pos hin, hci, hp, if_pos hinp, hcp, q3 _ hpl, hld, nI_add]
          rw [wr_a (by omega : a + 7 ≠ a + 5), hld, nI_add]
        · simp [hall, hv]
        · intro l hl
          simp only [hflw, hv, wr_eq]
          by_cases q : l = hPg h i
          · simp [q]
          · have q' : ¬ hPg h i = l := fun e => q e.symm
            simp [q, q']; exact q3 l hl
        · intro b hb
          simp only [wr_a hb]
          exact q4 b hb) (by
      rintro ⟨v1, v2, s⟩ ⟨q1, q2, q3, q4⟩
      simp only at q1 q2 q3 q4
      subst q1 q2
      have hxs := hx.frame (s := s) (fun b hb => q4 b (by omega))
      have hc : nI (hN h) ≤ nI (hN h) := by rw [nI_leN (by omega) (by omega)]; omega
      refine ⟨(nI (allN h (hN h)), s), ?_, rfl, q3, q4⟩
      unfold f_X3_reckonFlows_L27
      simp only [un3, hxs.2.1, if_pos hc])
  rw [e2]
  simp only at hr hfl hf2
  subst hr
  exact ⟨s2, rfl, hfl, hf2⟩
def mixH (h : Hs) (i : Nat) : Hs := mkH (hL h) (hN h) (hMain h) (hMin h) (hUsed h) (hOn h) (hIn h) (hKd h) (hRt h) (fun l => if l < i then passHt h l (flowH h l) else hHt h l) (fun l => if l < i then passDd h l (flowH h l) else hDd h l) (hPg h) (hLd h)
theorem mix_WF {h : Hs} (hw : WF h) (i : Nat) : WF (mixH h i) := by
  obtain ⟨h1, h2, h3, h4, h5, h6, h7, h8⟩ := id hw
  refine ⟨h1, h2, h3, h4, h5, h6, fun l hl => ?_, h8⟩
  have q := h7 l hl
  refine ⟨q.1, q.2.1, q.2.2.1, ?_, ?_⟩
  · show (if l < i then passHt h l (flowH h l) else hHt h l) ≤ 99
    have := passHt_le (fl := flowH h l) hw hl
    split <;> omega
  · show (if l < i then passDd h l (flowH h l) else hDd h l) ≤ 3
    have := passDd_le (fl := flowH h l) hw hl
    split <;> omega
theorem mix_live (h : Hs) (i : Nat) : live (mixH h i) i = live h i := by
  show (hIn h && decide ((if i < i then passDd h i (flowH h i) else hDd h i) = 0)) = live h i
  rw [if_neg (Nat.lt_irrefl i)]
  rfl
theorem mix_ht (h : Hs) (i fl : Nat) : passHt (mixH h i) i fl = passHt h i fl := by
  unfold passHt
  rw [mix_live]
  show (if live h i = true then heatN (hKd h i) (if i < i then passHt h i (flowH h i) else hHt h i) fl (hRt h i) else (if i < i then passHt h i (flowH h i) else hHt h i) - 1) = _
  rw [if_neg (Nat.lt_irrefl i)]
theorem mix_dd (h : Hs) (i fl : Nat) : passDd (mixH h i) i fl = passDd h i fl := by
  unfold passDd
  rw [mix_live, mix_ht]
  show (if live h i = true then deadN (hKd h i) (passHt h i fl) fl (hRt h i) else if hKd h i = 5 then (if i < i then passDd h i (flowH h i) else hDd h i) - 1 else (if i < i then passDd h i (flowH h i) else hDd h i)) = _
  rw [if_neg (Nat.lt_irrefl i)]
theorem mix_step (h : Hs) (i : Nat) : setLine (mixH h i) i (passHt h i (flowH h i)) (passDd h i (flowH h i)) = mixH h (i + 1) := by
  have e1 : (fun m => if m = i then passHt h i (flowH h i) else (if m < i then passHt h m (flowH h m) else hHt h m)) = fun l => if l < i + 1 then passHt h l (flowH h l) else hHt h l := by
    funext m
    by_cases q : m = i
    · subst q; simp
    · by_cases q2 : m < i
      · rw [if_neg q, if_pos q2, if_pos (by omega)]
      · rw [if_neg q, if_neg q2, if_neg (by omega)]
  have e2 : (fun m => if m = i then passDd h i (flowH h i) else (if m < i then passDd h m (flowH h m) else hDd h m)) = fun l => if l < i + 1 then passDd h l (flowH h l) else hDd h l := by
    funext m
    by_cases q : m = i
    · subst q; simp
    · by_cases q2 : m < i
      · rw [if_neg q, if_pos q2, if_pos (by omega)]
      · rw [if_neg q, if_neg q2, if_neg (by omega)]
  show mkH _ _ _ _ _ _ _ _ _ (fun m => if m = i then passHt h i (flowH h i) else (if m < i then passHt h m (flowH h m) else hHt h m)) (fun m => if m = i then passDd h i (flowH h i) else (if m < i then passDd h m (flowH h m) else hDd h m)) _ _ = _
  rw [e1, e2]
  rfl
theorem lineW_o {σ : St} {a l x y b : Nat} (h3 : b ≠ a + 3) (h4 : b ≠ a + 4) : lineW σ a l x y b = σ b := by
  unfold lineW
  rw [wr_a h4, wr_a h3]
theorem X_passMinute {a : Nat} {σ : St} {h : Hs} (hx : HX a σ h) (hw : WF h) : ∃ s, f_X3_passMinute a σ = some s ∧ HX a s (minuteH h) ∧ Fr (blk a) σ s := by
  have hL4 := hw.1
  obtain ⟨s1, e1, hfl, hf1⟩ := X_reckon hx hw
  have hx1 := hx.frame (s := s1) (fun b hb => hf1 b (by omega))
  have hall := allH_le hw
  unfold f_X3_passMinute
  rw [e1]
  simp only [bd_some, lt]
  obtain ⟨s6, e6, hx6, hf6⟩ := loop_n (body := f_X3_passMinute_L7 a) (fun i (x : Int32 × St) => x.1 = nI i ∧ HX a x.2 (mixH h i) ∧ (∀ l, l < hL h → x.2 (a + 5) l = nI (flowH h l)) ∧ Fr (blk a) σ x.2) (fun s => HX a s (mixH h (hL h)) ∧ Fr (blk a) σ s) (hL h) 5000 ((0 : Int32), s1) (by omega) ⟨nI_0.symm, by
      have e : mixH h 0 = mkH (hL h) (hN h) (hMain h) (hMin h) (hUsed h) (hOn h) (hIn h) (hKd h) (hRt h) (hHt h) (hDd h) (hPg h) (hLd h) := by
        unfold mixH
        simp only [Nat.not_lt_zero, if_false]
      rw [e]
      exact hx1, hfl, fun b hb => hf1 b (fun q => hb (by unfold blk; omega))⟩ (by
      rintro i ⟨v, s⟩ hi ⟨q1, q2, q3, q4⟩
      simp only at q1 q2 q3 q4
      subst q1
      have hc : ¬ nI (hL h) ≤ nI i := by rw [nI_leN (by omega) (by omega)]; omega
      have hin : inb (nI i) 4 := inb_nI (by omega) (by decide)
      have hL1 : s a 1 = nI (hL h) := q2.1
      have hp := X_passLine q2 (mix_WF hw i) (l := i) (fl := flowH h i) hi (by have := flowH_le hw i; omega)
      rw [mix_ht, mix_dd] at hp
      refine ⟨(nI (i + 1), lineW s a i (passHt h i (flowH h i)) (passDd h i (flowH h i))), ?_, rfl, ?_, ?_, ?_⟩
      · unfold f_X3_passMinute_L7
        simp only [un2, hL1, if_neg hc, if_pos hin, nI_cl (show i < 2147483648 by omega), q3 i hi, hp, bind_some', lt, nI_1]
      · rw [← mix_step]
        exact q2.line i _ _
      · intro l hl
        simp only
        rw [lineW_o (by omega) (by omega)]
        exact q3 l hl
      · intro b hb
        simp only
        rw [lineW_o (fun q => hb (by unfold blk; omega)) (fun q => hb (by unfold blk; omega))]
        exact q4 b hb) (by
      rintro ⟨v, s⟩ ⟨q1, q2, q3, q4⟩
      simp only at q1 q2 q3 q4
      subst q1
      have hL1 : s a 1 = nI (hL h) := q2.1
      have hc : nI (hL h) ≤ nI (hL h) := by rw [nI_leN (by omega) (by omega)]; omega
      refine ⟨s, ?_, q2, q4⟩
      unfold f_X3_passMinute_L7
      simp only [un2, hL1, if_pos hc])
  rw [e6]
  simp only [bind_some', un1]
  obtain ⟨g1, g2, g3, g4, g5, g6, g7, gl, gt⟩ := hx6
  have g3 : s6 a 3 = nI (hMain h) := g3
  have g4 : s6 a 4 = nI (hMin h) := g4
  have g5 : s6 a 5 = nI (hUsed h) := g5
  have g6 : s6 a 6 = bI (hIn h) := g6
  have hle : nI (allH h) ≤ nI (hMain h) ↔ allH h ≤ hMain h := nI_leN (by omega) (by have := hw.2.2.1; omega)
  have hU := hw.2.2.2.2.1
  have hM := hw.2.2.2.1
  have hmin := nI_min (a := hUsed h + allH h) (K := (99999 : Int32)) 99999 (by decide) (by omega) (by omega)
  obtain ⟨s7, e7, k6, ko⟩ : ∃ s7 : St, (if allH h ≤ hMain h then s6 else wr s6 a 6 0) = s7 ∧ s7 a 6 = bI (hIn h && decide (allH h ≤ hMain h)) ∧ ∀ b j, ¬ (b = a ∧ j = 6) → s7 b j = s6 b j := by
    by_cases q : allH h ≤ hMain h
    · refine ⟨s6, by rw [if_pos q], by rw [g6]; simp [q], fun _ _ _ => rfl⟩
    · refine ⟨wr s6 a 6 0, by rw [if_neg q], by rw [wr_same]; simp [q, bI], fun b j hb => by rw [wr_eq, if_neg hb]⟩
  have fin : (if nI (allH h) ≤ s6 a 3 then (some (wr (wr s6 a 5 (if s6 a 5 + nI (allH h) < 99999 then s6 a 5 + nI (allH h) else 99999)) a 4 (wr s6 a 5 (if s6 a 5 + nI (allH h) < 99999 then s6 a 5 + nI (allH h) else 99999) a 4 + 1)) : Option St) else some (wr (wr (wr s6 a 6 0) a 5 (if wr s6 a 6 0 a 5 + nI (allH h) < 99999 then wr s6 a 6 0 a 5 + nI (allH h) else 99999)) a 4 (wr (wr s6 a 6 0) a 5 (if wr s6 a 6 0 a 5 + nI (allH h) < 99999 then wr s6 a 6 0 a 5 + nI (allH h) else 99999) a 4 + 1))) = some (wr (wr s7 a 5 (nI (min 99999 (hUsed h + allH h)))) a 4 (nI (hMin h + 1))) := by
    rw [g3]
    by_cases q : allH h ≤ hMain h
    · rw [if_pos (hle.mpr q)]
      rw [if_pos q] at e7
      subst e7
      rw [g5, nI_add, hmin, wr_ne _ (by omega), g4, show (1 : Int32) = nI 1 by decide, nI_add]
    · rw [if_neg (fun z => q (hle.mp z))]
      rw [if_neg q] at e7
      subst e7
      rw [wr_ne s6 (by omega), g5, nI_add, hmin, wr_ne _ (by omega), wr_ne s6 (by omega), g4, show (1 : Int32) = nI 1 by decide, nI_add]
  refine ⟨_, fin, ?_, ?_⟩
  · have o : ∀ b j, ¬ (b = a ∧ (j = 4 ∨ j = 5 ∨ j = 6)) → wr (wr s7 a 5 (nI (min 99999 (hUsed h + allH h)))) a 4 (nI (hMin h + 1)) b j = s6 b j := by
      intro b j hb
      rw [wr_ne _ (by omega), wr_ne _ (by omega), ko b j (by omega)]
    refine ⟨?_, ?_, ?_, ?_, ?_, ?_, ?_, fun l hl => ⟨?_, ?_, ?_, ?_⟩, fun t ht => ⟨?_, ?_⟩⟩
    · rw [o _ _ (by omega)]; exact g1
    · rw [o _ _ (by omega)]; exact g2
    · rw [o _ _ (by omega)]; exact g3
    · rw [wr_same]; rfl
    · rw [wr_ne _ (by omega), wr_same]; rfl
    · rw [wr_ne _ (by omega), wr_ne _ (by omega), k6]; rfl
    · rw [o _ _ (by omega)]; exact g7
    · rw [o _ _ (by omega)]; exact (gl l hl).1
    · rw [o _ _ (by omega)]; exact (gl l hl).2.1
    · rw [o _ _ (by omega), (gl l hl).2.2.1]
      show nI (if l < hL h then passHt h l (flowH h l) else hHt h l) = nI (passHt h l (flowH h l))
      rw [if_pos (show l < hL h from hl)]
    · rw [o _ _ (by omega), (gl l hl).2.2.2]
      show nI (if l < hL h then passDd h l (flowH h l) else hDd h l) = nI (passDd h l (flowH h l))
      rw [if_pos (show l < hL h from hl)]
    · rw [o _ _ (by omega)]; exact (gt t ht).1
    · rw [o _ _ (by omega)]; exact (gt t ht).2
  · intro b hb
    have hba : b ≠ a := fun q => hb (by unfold blk; omega)
    rw [wr_a hba, wr_a hba]
    have : s7 b = s6 b := by funext j; exact ko b j (by omega)
    rw [this]
    exact hf6 b hb
