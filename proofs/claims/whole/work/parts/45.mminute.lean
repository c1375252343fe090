/-! the reference's house: a minute -/
def maskT (p : Nat → Bool) : Nat → Nat
  | 0 => 0
  | n + 1 => maskT p n + (if p n then 2 ^ n else 0)
theorem maskT_lt (p : Nat → Bool) : ∀ n, maskT p n < 2 ^ n
  | 0 => by simp [maskT]
  | n + 1 => by
    have h := maskT_lt p n
    show maskT p n + (if p n then 2 ^ n else 0) < 2 ^ (n + 1)
    rw [Nat.pow_succ]
    split <;> omega
theorem or_step : ∀ n, n < 6 → ∀ m, m < 2 ^ n → nI m ||| ((1 : Int32) <<< (nI n &&& 31)) = nI (m + 2 ^ n) := by decide +kernel
theorem or_zero (x : Int32) : x ||| 0 = x := by
  apply Int32.toBitVec_inj.mp
  simp
theorem orT_mask (p : Nat → Bool) : ∀ n, n ≤ 6 → orT p n = nI (maskT p n)
  | 0, _ => nI_0.symm
  | n + 1, h => by
    show orT p n ||| (if p n then (1 : Int32) <<< (nI n &&& 31) else 0) = nI (maskT p n + (if p n then 2 ^ n else 0))
    rw [orT_mask p n (by omega)]
    cases p n
    · simp [or_zero]
    · simp only [if_true]
      exact or_step n (by omega) _ (maskT_lt p n)
theorem mask_bit_step : ∀ n, n < 6 → ∀ m, m < 2 ^ n → ∀ l, l ≤ n → (m + 2 ^ n).testBit l = (if l = n then true else m.testBit l) ∧ m.testBit n = false := by decide +kernel
theorem maskT_bit (p : Nat → Bool) : ∀ n, n ≤ 6 → ∀ l, l < n → (maskT p n).testBit l = p l
  | 0, _, l, hl => absurd hl (Nat.not_lt_zero l)
  | n + 1, h, l, hl => by
    have ih := maskT_bit p n (by omega)
    have st := mask_bit_step n (by omega) _ (maskT_lt p n) l (by omega)
    show (maskT p n + (if p n then 2 ^ n else 0)).testBit l = p l
    by_cases q : l = n
    · subst q
      cases hp : p l
      · simp [st.2]
      · simp [st.1]
    · cases hp : p n
      · simp; exact ih l (by omega)
      · simp [st.1, q]; exact ih l (by omega)
theorem M_has {p : Nat → Bool} {n l : Nat} {σ : St} (hn : n ≤ 6) (hl : l < n) : f_X12_has (orT p n) (nI l) σ = some (bI (p l), σ) := by
  have hm : maskT p n < 64 := by
    have h1 := maskT_lt p n
    have h2 : 2 ^ n ≤ 2 ^ 6 := Nat.pow_le_pow_right (by decide) hn
    omega
  unfold f_X12_has
  simp only [lt, orT_mask p n hn, bit_at _ hm _ (show l < 6 by omega), maskT_bit p n hn l hl]
  cases p l <;> simp [bI, isB]
def lineM (σ : St) (b l ht dd : Nat) : St := wr (wr σ 260 (b + l) (nI ht)) 260 (b + 4 + l) (nI dd)
theorem one_ne0 : ((1 : Int32) = 0) = False := by decide
theorem lt_eq {α β : Type} (e : α) (f : α → β) : lt e f = f e := (show ∀ b : Bool, lt e f = f e from fun b => by cases b <;> rfl) true
def HI (p q : Prop) : Prop := p ↔ q
theorem HI.mp {p q : Prop} (h : HI p q) : p → q := Iff.mp h
theorem HI.mpr {p q : Prop} (h : HI p q) : q → p := Iff.mpr h
theorem M_heats {b : Nat} {σ : St} {h : Hs} (hm : HM b 0 σ h) (hw : WF h) (hb : b ≤ 729) {l fl : Nat} (hl : l < hL h) (hfl : fl ≤ 200) (hv : live h l = true) : f_X12_heats (nI b) (nI l) (nI fl) σ = some (lineM σ b l (passHt h l fl) (passDd h l fl)) := by
  have hL4 := hw.1
  obtain ⟨hk, hr, hh, hd⟩ := hm.2.2.2.2.2.2.1 l hl
  have hk : σ 261 (3 + l) = nI (hKd h l) := by rw [← hk, Nat.zero_add]
  obtain ⟨hk1, hk5, hr20, hh99, hd3⟩ := hw.2.2.2.2.2.2.1 l hl
  have n3 : inb (nI (3 + l)) 39 := inb_nI (by omega) (by decide)
  have n8 : inb (nI (b + 8 + l)) 756 := inb_nI (by omega) (by decide)
  have n0 : inb (nI (b + l)) 756 := inb_nI (by omega) (by decide)
  have n4 : inb (nI (b + 4 + l)) 756 := inb_nI (by omega) (by decide)
  have hover : HI ((0 : Int32) < nI fl - nI (hRt h l)) (¬ fl ≤ hRt h l) := (by
    rw [← nI_sub_le (show fl < 1000000 by omega) (show hRt h l < 1000000 by omega)]
    exact Int32.not_le.symm : (0 : Int32) < nI fl - nI (hRt h l) ↔ ¬ fl ≤ hRt h l)
  have k3 : HI (nI (hKd h l) ≤ (3 : Int32)) (hKd h l ≤ 3) := (by rw [i3, nI_leN (by omega) (by omega)] : nI (hKd h l) ≤ (3 : Int32) ↔ hKd h l ≤ 3)
  have k5 : HI (nI (hKd h l) = (5 : Int32)) (hKd h l = 5) := (by rw [i5, nI_eq (by omega) (by omega)] : nI (hKd h l) = (5 : Int32) ↔ hKd h l = 5)
  have k2 : HI (nI (hKd h l) = (2 : Int32)) (hKd h l = 2) := (by rw [i2, nI_eq (by omega) (by omega)] : nI (hKd h l) = (2 : Int32) ↔ hKd h l = 2)
  have k33 : HI (nI (hKd h l) = (3 : Int32)) (hKd h l = 3) := (by rw [i3, nI_eq (by omega) (by omega)] : nI (hKd h l) = (3 : Int32) ↔ hKd h l = 3)
  have h2r : HI (nI fl < (2 : Int32) * nI (hRt h l)) (fl < 2 * hRt h l) := (by rw [i2, pk_mul, nI_ltI (by omega) (by omega)] : nI fl < (2 : Int32) * nI (hRt h l) ↔ fl < 2 * hRt h l)
  have e34 : ((3 : Int32) + nI l) = nI (3 + l) := by rw [i3, nI_add]
  have e8 : (nI b + (8 : Int32)) + nI l = nI (b + 8 + l) := by rw [i8, nI_add, nI_add]
  have e4 : (nI b + (4 : Int32)) + nI l = nI (b + 4 + l) := by rw [i4, nI_add, nI_add]
  have e0 : nI b + nI l = nI (b + l) := nI_add b l
  have pD : passDd h l fl = deadN (hKd h l) (passHt h l fl) fl (hRt h l) := by unfold passDd; rw [if_pos hv]
  have pH : passHt h l fl = heatN (hKd h l) (hHt h l) fl (hRt h l) := by unfold passHt; rw [if_pos hv]
  have q8 : ∀ x, (wr σ 260 (b + l) x) 260 (b + 8 + l) = nI (hRt h l) := fun x => by rw [wr_ne _ (by omega)]; exact hr
  have c3 : (nI (3 + l)).toNatClampNeg = 3 + l := nI_cl (by omega)
  have c8 : (nI (b + 8 + l)).toNatClampNeg = b + 8 + l := nI_cl (by omega)
  have c00 : (nI (b + l)).toNatClampNeg = b + l := nI_cl (by omega)
  have c44 : (nI (b + 4 + l)).toNatClampNeg = b + 4 + l := nI_cl (by omega)
  by_cases hk3 : hKd h l ≤ 3
  · have hx99 : passHt h l fl ≤ 99 := passHt_le hw hl
    have t3 : (nI (hKd h l) ≤ (3 : Int32)) = True := eq_true (k3.mpr hk3)
    have tail : ∀ X : Nat, X ≤ 99 → passHt h l fl = X → (if (10 : Int32) ≤ nI X then some (wr (wr σ 260 (b + l) (nI X)) 260 (b + 4 + l) 1) else if ¬ nI (hKd h l) = 3 then some (wr (wr σ 260 (b + l) (nI X)) 260 (b + 4 + l) 0) else if nI fl < (2 : Int32) * nI (hRt h l) then some (wr (wr σ 260 (b + l) (nI X)) 260 (b + 4 + l) 0) else some (wr (wr σ 260 (b + l) (nI X)) 260 (b + 4 + l) 1)) = some (lineM σ b l (passHt h l fl) (passDd h l fl)) := by
      intro X hX hx
      have h10 : HI ((10 : Int32) ≤ nI X) (10 ≤ X) := (by rw [i10, nI_leN (by omega) (by omega)] : (10 : Int32) ≤ nI X ↔ 10 ≤ X)
      rw [pD, hx]
      unfold lineM deadN
      rw [if_neg (show ¬ 4 ≤ hKd h l by omega)]
      by_cases q : 10 ≤ X
      · rw [if_pos (h10.mpr q), if_pos (Or.inl q), i1]
      · rw [if_neg (fun z => q (h10.mp z))]
        by_cases q3 : hKd h l = 3
        · rw [if_neg (fun z => z (k33.mpr q3))]
          by_cases q2 : fl < 2 * hRt h l
          · rw [if_pos (h2r.mpr q2), if_neg (by omega), i0]
          · rw [if_neg (fun z => q2 (h2r.mp z)), if_pos (by omega), i1]
        · rw [if_pos (fun z => q3 (k33.mp z)), if_neg (by omega), i0]
    have p0 : ∀ y : Nat, y ≤ 400 → ((0 : Int32) ≤ nI y) = True := fun y hy => eq_true (by rw [i0, nI_leN (by omega) (by omega)]; omega)
    have p99 : ∀ y : Nat, y ≤ 99 → (nI y ≤ (99 : Int32)) = True := fun y hy => eq_true (by rw [show (99 : Int32) = nI 99 by decide, nI_leN (by omega) (by omega)]; exact hy)
    have p100 : ∀ y : Nat, y ≤ 400 → ¬ y ≤ 99 → (nI y ≤ (99 : Int32)) = False := fun y hy h9 => eq_false (by rw [show (99 : Int32) = nI 99 by decide, nI_leN (by omega) (by omega)]; exact h9)
    by_cases qf : fl ≤ hRt h l
    · have tov : ((0 : Int32) < nI fl - nI (hRt h l)) = False := eq_false (fun z => hover.mp z qf)
      have hp : passHt h l fl = hHt h l - 1 := by
        rw [pH]; unfold heatN; rw [if_neg (show ¬ 4 ≤ hKd h l by omega), if_pos qf]
      rcases Nat.eq_zero_or_pos (hHt h l) with z | z
      · have tz : ((0 : Int32) ≤ nI (hHt h l) + (-1)) = False := by rw [z]; exact eq_false (by decide)
        have t0 := tail 0 (by omega) (by rw [hp, z])
        unfold f_X12_heats
        simp only [↓lt_eq, ↓reduceIte, e34, e8, e4, e0, if_pos n3, if_pos n8, if_pos n0, if_pos n4, c3, c8, c00, c44, hk, hr, hh, q8, not_true_eq_false, not_false_eq_true, t3, tov, tz, one_ne0]
        exact t0
      · have e : nI (hHt h l) + (-1) = nI (hHt h l - 1) := by
          obtain ⟨j, hj⟩ : ∃ j, hHt h l = j + 1 := ⟨hHt h l - 1, by omega⟩
          rw [hj, pk_m1]; rfl
        unfold f_X12_heats
        simp only [↓lt_eq, ↓reduceIte, e34, e8, e4, e0, if_pos n3, if_pos n8, if_pos n0, if_pos n4, c3, c8, c00, c44, hk, hr, hh, q8, not_true_eq_false, not_false_eq_true, t3, tov, e, p0 _ (show hHt h l - 1 ≤ 400 by omega), p99 _ (show hHt h l - 1 ≤ 99 by omega), one_ne0]
        exact tail _ (by omega) hp
    · have tov : ((0 : Int32) < nI fl - nI (hRt h l)) = True := eq_true (hover.mpr qf)
      have eo : nI fl - nI (hRt h l) = nI (fl - hRt h l) := pk_sub (by omega)
      rw [eo] at tov
      by_cases q2 : hKd h l = 2
      · have t2 : (nI (hKd h l) = (2 : Int32)) = True := eq_true (k2.mpr q2)
        have hp : passHt h l fl = min 99 (hHt h l + (fl - hRt h l) / 2) := by
          rw [pH]; unfold heatN; rw [if_neg (show ¬ 4 ≤ hKd h l by omega), if_neg qf, if_pos q2]
        have ed : nI (fl - hRt h l) / (2 : Int32) = nI ((fl - hRt h l) / 2) := pk_div (by omega) (by decide) (by decide)
        have ea : nI (hHt h l) + nI ((fl - hRt h l) / 2) = nI (hHt h l + (fl - hRt h l) / 2) := nI_add _ _
        by_cases q9 : hHt h l + (fl - hRt h l) / 2 ≤ 99
        · unfold f_X12_heats
          simp only [↓lt_eq, ↓reduceIte, e34, e8, e4, e0, if_pos n3, if_pos n8, if_pos n0, if_pos n4, c3, c8, c00, c44, hk, hr, hh, q8, not_true_eq_false, not_false_eq_true, t3, eo, tov, t2, ed, ea, p0 _ (show hHt h l + (fl - hRt h l) / 2 ≤ 400 by omega), p99 _ q9, one_ne0]
          exact tail _ q9 (by rw [hp]; omega)
        · unfold f_X12_heats
          simp only [↓lt_eq, ↓reduceIte, e34, e8, e4, e0, if_pos n3, if_pos n8, if_pos n0, if_pos n4, c3, c8, c00, c44, hk, hr, hh, q8, not_true_eq_false, not_false_eq_true, t3, eo, tov, t2, ed, ea, p0 _ (show hHt h l + (fl - hRt h l) / 2 ≤ 400 by omega), p100 _ (show hHt h l + (fl - hRt h l) / 2 ≤ 400 by omega) q9, one_ne0]
          exact tail 99 (by omega) (by rw [hp]; omega)
      · have t2 : (nI (hKd h l) = (2 : Int32)) = False := eq_false (fun z => q2 (k2.mp z))
        have hp : passHt h l fl = min 99 (hHt h l + (fl - hRt h l)) := by
          rw [pH]; unfold heatN; rw [if_neg (show ¬ 4 ≤ hKd h l by omega), if_neg qf, if_neg q2]
        have ea : nI (hHt h l) + nI (fl - hRt h l) = nI (hHt h l + (fl - hRt h l)) := nI_add _ _
        by_cases q9 : hHt h l + (fl - hRt h l) ≤ 99
        · unfold f_X12_heats
          simp only [↓lt_eq, ↓reduceIte, e34, e8, e4, e0, if_pos n3, if_pos n8, if_pos n0, if_pos n4, c3, c8, c00, c44, hk, hr, hh, q8, not_true_eq_false, not_false_eq_true, t3, eo, tov, t2, ea, p0 _ (show hHt h l + (fl - hRt h l) ≤ 400 by omega), p99 _ q9, one_ne0]
          exact tail _ q9 (by rw [hp]; omega)
        · unfold f_X12_heats
          simp only [↓lt_eq, ↓reduceIte, e34, e8, e4, e0, if_pos n3, if_pos n8, if_pos n0, if_pos n4, c3, c8, c00, c44, hk, hr, hh, q8, not_true_eq_false, not_false_eq_true, t3, eo, tov, t2, ea, p0 _ (show hHt h l + (fl - hRt h l) ≤ 400 by omega), p100 _ (show hHt h l + (fl - hRt h l) ≤ 400 by omega) q9, one_ne0]
          exact tail 99 (by omega) (by rw [hp]; omega)
  · have t3 : (nI (hKd h l) ≤ (3 : Int32)) = False := eq_false (fun z => hk3 (k3.mp z))
    rw [pD, pH]
    unfold lineM heatN deadN
    rw [if_pos (show 4 ≤ hKd h l by omega), if_pos (show 4 ≤ hKd h l by omega), wr_id hh]
    by_cases qf : fl ≤ hRt h l
    · have tov : ((0 : Int32) < nI fl - nI (hRt h l)) = False := eq_false (fun z => hover.mp z qf)
      unfold f_X12_heats
      simp only [↓lt_eq, ↓reduceIte, e34, e8, e4, e0, if_pos n3, if_pos n8, if_pos n0, if_pos n4, c3, c8, c00, c44, hk, hr, hh, q8, not_true_eq_false, not_false_eq_true, t3, tov]
      rw [if_pos qf, i0]
    · have tov : ((0 : Int32) < nI fl - nI (hRt h l)) = True := eq_true (hover.mpr qf)
      by_cases q5 : hKd h l = 5
      · have t5 : (nI (hKd h l) = (5 : Int32)) = True := eq_true (k5.mpr q5)
        unfold f_X12_heats
        simp only [↓lt_eq, ↓reduceIte, e34, e8, e4, e0, if_pos n3, if_pos n8, if_pos n0, if_pos n4, c3, c8, c00, c44, hk, hr, hh, q8, not_true_eq_false, not_false_eq_true, t3, tov, t5]
        rw [if_neg qf, if_pos q5, i3]
      · have t5 : (nI (hKd h l) = (5 : Int32)) = False := eq_false (fun z => q5 (k5.mp z))
        unfold f_X12_heats
        simp only [↓lt_eq, ↓reduceIte, e34, e8, e4, e0, if_pos n3, if_pos n8, if_pos n0, if_pos n4, c3, c8, c00, c44, hk, hr, hh, q8, not_true_eq_false, not_false_eq_true, t3, tov, t5]
        rw [if_neg qf, if_neg q5, i1]
theorem M_larger0 {a : Nat} {σ : St} (ha : a < 1000000) : f_X12_larger 0 (nI a - 1) σ = some (nI (a - 1), σ) := by
  have hle : nI a - 1 ≤ 0 ↔ a ≤ 1 := by rw [i1]; exact nI_sub_le ha (by omega)
  unfold f_X12_larger
  simp only [lt, hle]
  by_cases q : a ≤ 1
  · rw [if_pos q, show a - 1 = 0 by omega, nI_0]
  · rw [if_neg q, i1, pk_sub (by omega)]
theorem M_cools {b : Nat} {σ : St} {h : Hs} (hm : HM b 0 σ h) (hw : WF h) (hb : b ≤ 729) {l fl : Nat} (hl : l < hL h) (hv : live h l = false) : f_X12_cools (nI b) (nI l) σ = some (lineM σ b l (passHt h l fl) (passDd h l fl)) := by
  have hL4 := hw.1
  obtain ⟨hk, hr, hh, hd⟩ := hm.2.2.2.2.2.2.1 l hl
  have hk : σ 261 (3 + l) = nI (hKd h l) := by rw [← hk, Nat.zero_add]
  obtain ⟨hk1, hk5, hr20, hh99, hd3⟩ := hw.2.2.2.2.2.2.1 l hl
  have n3 : inb (nI (3 + l)) 39 := inb_nI (by omega) (by decide)
  have n0 : inb (nI (b + l)) 756 := inb_nI (by omega) (by decide)
  have n4 : inb (nI (b + 4 + l)) 756 := inb_nI (by omega) (by decide)
  have e34 : ((3 : Int32) + nI l) = nI (3 + l) := by rw [i3, nI_add]
  have e4 : (nI b + (4 : Int32)) + nI l = nI (b + 4 + l) := by rw [i4, nI_add, nI_add]
  have e0 : nI b + nI l = nI (b + l) := nI_add b l
  have k5 : nI (hKd h l) = (5 : Int32) ↔ hKd h l = 5 := by rw [i5, nI_eq (by omega) (by omega)]
  have hz : nI (hDd h l) ≤ 0 ↔ hDd h l = 0 := nI_le0 (by omega)
  have q3 : ∀ x, (wr σ 260 (b + l) x) 261 (3 + l) = nI (hKd h l) := fun x => by rw [wr_ne _ (by omega)]; exact hk
  have q4 : ∀ x, (wr σ 260 (b + l) x) 260 (b + 4 + l) = nI (hDd h l) := fun x => by rw [wr_ne _ (by omega)]; exact hd
  have pH : passHt h l fl = hHt h l - 1 := by unfold passHt; rw [if_neg (by rw [hv]; decide)]
  have pD : passDd h l fl = if hKd h l = 5 then hDd h l - 1 else hDd h l := by unfold passDd; rw [if_neg (by rw [hv]; decide)]
  unfold f_X12_cools lineM
  rw [pH, pD]
  simp only [e34, e4, e0, lt, if_pos n3, if_pos n0, if_pos n4, nI_cl (show 3 + l < 2147483648 by omega), nI_cl (show b + l < 2147483648 by omega), nI_cl (show b + 4 + l < 2147483648 by omega), hh, M_larger0 (show hHt h l < 1000000 by omega), bd_some, q3, q4, k5, hz]
  by_cases q5 : hKd h l = 5
  · rw [if_neg (fun z => z q5), if_pos q5]
    by_cases qd : hDd h l = 0
    · rw [if_pos qd, qd]
      rw [wr_id (show wr σ 260 (b + l) (nI (hHt h l - 1)) 260 (b + 4 + l) = nI (0 - 1) by rw [q4, qd])]
    · rw [if_neg qd, i1, pk_sub (by omega)]
  · rw [if_pos q5, if_neg q5]
    rw [wr_id (q4 _)]
theorem HM.line {b d : Nat} {σ : St} {h : Hs} (hm : HM b d σ h) (l x y : Nat) (hL4 : hL h ≤ 4) (hl : l < 4) : HM b d (lineM σ b l x y) (setLine h l x y) := by
  obtain ⟨h1, h2, h3, h4, h5, h6, hll, ht⟩ := hm
  have o1 : ∀ k, lineM σ b l x y 261 k = σ 261 k := by
    intro k
    unfold lineM
    rw [wr_ne _ (by omega), wr_ne _ (by omega)]
  have o : ∀ k, k ≠ b + l → k ≠ b + 4 + l → lineM σ b l x y 260 k = σ 260 k := by
    intro k q1 q2
    unfold lineM
    rw [wr_ne _ (by omega), wr_ne _ (by omega)]
  refine ⟨?_, ?_, ?_, ?_, ?_, ?_, fun m hm => ⟨?_, ?_, ?_, ?_⟩, fun t q => ⟨?_, ?_, ?_⟩⟩
  · rw [o1]; exact h1
  · rw [o1]; exact h2
  · rw [o1]; exact h3
  · rw [o _ (by omega) (by omega)]; exact h4
  · rw [o _ (by omega) (by omega)]; exact h5
  · rw [o _ (by omega) (by omega)]; exact h6
  · rw [o1]; exact (hll m hm).1
  · have hm4 : m < 4 := Nat.lt_of_lt_of_le hm hL4
    rw [o _ (by omega) (by omega)]; exact (hll m hm).2.1
  · have hm4 : m < 4 := Nat.lt_of_lt_of_le hm hL4
    show lineM σ b l x y 260 (b + m) = nI (if m = l then x else hHt h m)
    unfold lineM
    rw [wr_ne _ (by omega), wr_eq]
    by_cases q : m = l
    · simp [q]
    · have : ¬ b + m = b + l := by omega
      simp [q]; exact (hll m hm).2.2.1
  · have hm4 : m < 4 := Nat.lt_of_lt_of_le hm hL4
    show lineM σ b l x y 260 (b + 4 + m) = nI (if m = l then y else hDd h m)
    unfold lineM
    rw [wr_eq]
    by_cases q : m = l
    · simp [q]
    · rw [if_neg (by omega), wr_ne _ (by omega), if_neg q]; exact (hll m hm).2.2.2
  · rw [o _ (by omega) (by omega)]; exact (ht t q).1
  · rw [o1]; exact (ht t q).2.1
  · rw [o _ (by omega) (by omega)]; exact (ht t q).2.2
