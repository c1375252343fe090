/-! how likely a line holds -/
def prodT (f : Nat → Nat) : Nat → Nat
  | 0 => 1
  | n + 1 => prodT f n * f n
theorem prodT_ext {f : Nat → Nat} {n : Nat} : ∀ m, n ≤ m → (∀ t, n ≤ t → t < m → f t = 1) → prodT f m = prodT f n
  | 0, h, _ => by have : n = 0 := by omega
                  rw [this]
  | m + 1, h, q => by
    by_cases e : n = m + 1
    · rw [e]
    · show prodT f m * f m = _
      rw [q m (by omega) (by omega), Nat.mul_one]
      exact prodT_ext m (by omega) (fun t t1 t2 => q t t1 (by omega))
theorem prodT_le {f : Nat → Nat} : ∀ n, (∀ t, t < n → f t ≤ 10) → prodT f n ≤ 10 ^ n
  | 0, _ => Nat.le_refl 1
  | n + 1, h => by
    show prodT f n * f n ≤ 10 ^ n * 10
    exact Nat.mul_le_mul (prodT_le n (fun t q => h t (by omega))) (h n (by omega))
def wF (on m c t : Nat) : Nat := if on.testBit t then (if m.testBit t then c else 10 - c) else 1
def wN (on m c n : Nat) : Nat := prodT (wF on m c) n
theorem wF_le {on m c t : Nat} (hc : c ≤ 10) : wF on m c t ≤ 10 := by
  unfold wF
  split
  · split <;> omega
  · omega
theorem wN_6 {on m c n : Nat} (hn : n ≤ 6) (ho : on < 2 ^ n) : wN on m c 6 = wN on m c n := by
  refine prodT_ext 6 hn (fun t h1 _ => ?_)
  unfold wF
  rw [Nat.testBit_lt_two_pow (Nat.lt_of_lt_of_le ho (Nat.pow_le_pow_right (by decide) h1))]
  rfl
theorem wN_le {on m c n : Nat} (hc : c ≤ 10) (hn : n ≤ 6) : wN on m c n ≤ 1000000 := Nat.le_trans (prodT_le n (fun t _ => wF_le hc)) (Nat.le_trans (Nat.pow_le_pow_right (by decide) hn) (by decide))
def sumW (on c i : Nat) : Nat := sumT (fun m => if m &&& (m ^^^ on) = 0 then wN on m c 6 else 0) i
theorem sumW_all : ∀ on, on < 64 → ∀ c, c < 11 → sumW on c 64 = 10 ^ bcU on 6 := by decide +kernel
def upN (h : Hs) (l n c i : Nat) : Nat := sumT (fun m => if m &&& (m ^^^ hOn h) = 0 then (if live (minN (offH h m) n) l then wN (hOn h) m c 6 else 0) else 0) i
theorem upN_le (h : Hs) (l n c : Nat) : ∀ i, upN h l n c i ≤ sumW (hOn h) c i
  | 0 => Nat.le_refl 0
  | i + 1 => by
    have := upN_le h l n c i
    show upN h l n c i + _ ≤ sumW (hOn h) c i + _
    refine Nat.add_le_add this ?_
    dsimp only
    split
    · split <;> omega
    · omega
theorem sumW_mono (on c : Nat) {i : Nat} (h : i ≤ 64) : sumW on c i ≤ sumW on c 64 := sumT_mono _ i 64 h
theorem p10 : ∀ n, n < 7 → 10 ^ n ≤ 1000000 ∧ 0 < 10 ^ n := by decide
/-- the greatest common divisor, by Euclid -/
theorem euclid {a b : Nat} (h0 : 0 < b) (hab : b < a) : 2 * (b * (a % b)) ≤ a * b := by
  have h1 : a % b < b := Nat.mod_lt _ h0
  have h2 : b + a % b ≤ a := by
    have e := Nat.div_add_mod a b
    have : 1 ≤ a / b := (Nat.one_le_div_iff h0).mpr (by omega)
    have h3 : b * 1 ≤ b * (a / b) := Nat.mul_le_mul_left b this
    omega
  have h3 : (b + a % b) * b ≤ a * b := Nat.mul_le_mul_right b h2
  have h4 : a % b * b ≤ b * b := Nat.mul_le_mul_right b (by omega)
  rw [Nat.add_mul] at h3
  have h5 : b * (a % b) = a % b * b := Nat.mul_comm _ _
  omega
def EuI (G i a b : Nat) : Prop := Nat.gcd a b = G ∧ a ≤ 1000000 ∧ b ≤ 1000000 ∧ (i = 0 ∨ (b < a ∧ a * b * 2 ^ i < 2 ^ 41))
theorem EuI.step {G i a b : Nat} (h : EuI G i a b) (hb : 0 < b) : i ≤ 40 ∧ EuI G (i + 1) b (a % b) := by
  obtain ⟨g, ha, hb1, hi⟩ := h
  have hm : a % b < b := Nat.mod_lt _ hb
  have hg : Nat.gcd b (a % b) = G := by rw [Nat.gcd_comm, ← Nat.gcd_rec, Nat.gcd_comm]; exact g
  rcases hi with rfl | ⟨h1, h2⟩
  · refine ⟨by omega, hg, hb1, by omega, Or.inr ⟨hm, ?_⟩⟩
    have : b * (a % b) ≤ 1000000 * 1000000 := Nat.mul_le_mul hb1 (by omega)
    show b * (a % b) * 2 ^ 1 < 2 ^ 41
    omega
  · have hle : i ≤ 40 := by
      rcases Nat.lt_or_ge 40 i with z | z
      · exfalso
        have h3 : 2 ^ 41 ≤ 2 ^ i := Nat.pow_le_pow_right (by decide) z
        have h4 : 1 ≤ a * b := Nat.mul_pos (by omega) hb
        have h5 : 1 * 2 ^ i ≤ a * b * 2 ^ i := Nat.mul_le_mul_right _ h4
        omega
      · exact z
    refine ⟨hle, hg, hb1, by omega, Or.inr ⟨hm, ?_⟩⟩
    have h3 := euclid hb h1
    have h4 : b * (a % b) * 2 ^ (i + 1) = 2 * (b * (a % b)) * 2 ^ i := by
      rw [Nat.pow_succ, Nat.mul_comm (2 ^ i) 2, ← Nat.mul_assoc, Nat.mul_comm (b * (a % b)) 2]
    rw [h4]
    exact Nat.lt_of_le_of_lt (Nat.mul_le_mul_right _ h3) h2
theorem X_gcd {a b : Nat} {σ : St} (ha : a ≤ 1000000) (hb : b ≤ 1000000) : f_X11_commonDivisor (nI a) (nI b) σ = some (nI (Nat.gcd a b), σ) := by
  have hz : Ok (f_X11_commonDivisor (nI a) (nI b) σ) (fun v => v = (nI (Nat.gcd a b), σ)) := by
    unfold f_X11_commonDivisor
    rw [lt_eq]
    refine Ok.bind (loop_inv (fun i (x : Int32 × Int32 × Int32 × St) => ∃ p q, x.1 = nI p ∧ x.2.1 = nI q ∧ x.2.2.1 = nI i ∧ x.2.2.2 = σ ∧ EuI (Nat.gcd a b) i p q) _ 50 5000 _ 0 (by omega) ⟨a, b, rfl, rfl, rfl, rfl, rfl, ha, hb, Or.inl rfl⟩ ?_)
    rintro j ⟨x, y, v, s⟩ _ ⟨p, q, q0, q1, q2, q3, q4⟩
    simp only at q0 q1 q2 q3
    subst q0 q1 q2 q3
    have hp := q4.2.1
    have hq := q4.2.2.1
    rcases Nat.eq_zero_or_pos q with z | z
    · subst z
      right
      refine ⟨(nI p, s), ?_, ?_⟩
      · unfold f_X11_commonDivisor_L2
        unfold un4
        dsimp only
        split
        · rfl
        · rw [if_pos (by decide)]
      · simp (disch := omega) only [↓lt_eq, ↓reduceIte, ↓un1, ↓un2, ↓un3, ↓un4, ↓bd_some, ↓bind_some', ↓sel_l, ↓sel_r, C1T, C1F, C2T, C2F, C3T, C3F, D1T, D1F, D2T, D2F, D3T, D3F, E1T, E1F, E2T, E2F, E3T, E3F, G1T, G1F, G2T, G2F, G3F, inb_T, inb_L, isB_0, isB_1, isB_b, nI_add, L_add1, L_add2, nI_cl, L_cl, bI_T, bI_F, eq_self, not_true_eq_false, not_false_eq_true]
        refine Ok.ret ?_
        rw [← q4.1, Nat.gcd_zero_right]
    · left
      obtain ⟨h1, h2⟩ := q4.step z
      refine ⟨(nI q, nI (p % q), nI (j + 1), s), ?_, by omega, q, p % q, rfl, rfl, rfl, rfl, h2⟩
      have er : nI p - nI p / nI q * nI q = nI (p % q) := pk_rem (by omega) z (by omega)
      unfold f_X11_commonDivisor_L2
      simp (disch := omega) only [↓lt_eq, ↓reduceIte, ↓un1, ↓un2, ↓un3, ↓un4, ↓bd_some, ↓bind_some', ↓sel_l, ↓sel_r, C1T, C1F, C2T, C2F, C3T, C3F, D1T, D1F, D2T, D2F, D3T, D3F, E1T, E1F, E2T, E2F, E3T, E3F, G1T, G1F, G2T, G2F, G3F, inb_T, inb_L, isB_0, isB_1, isB_b, nI_add, L_add1, L_add2, nI_cl, L_cl, bI_T, bI_F, eq_self, not_true_eq_false, not_false_eq_true, er]
  obtain ⟨v, e, rfl⟩ := hz
  exact e
theorem M_gcd {a b : Nat} {σ : St} (ha : a ≤ 1000000) (hb : b ≤ 1000000) : loopF f_X12_chance_L202 5000 (lN a, lN b, σ) = some (lN (Nat.gcd a b), σ) := by
  have hz : Ok (loopF f_X12_chance_L202 5000 (lN a, lN b, σ)) (fun v => v = (lN (Nat.gcd a b), σ)) := by
    refine loop_inv (fun i (x : Int64 × Int64 × St) => ∃ p q, x.1 = lN p ∧ x.2.1 = lN q ∧ x.2.2 = σ ∧ EuI (Nat.gcd a b) i p q) _ 50 5000 _ 0 (by omega) ⟨a, b, rfl, rfl, rfl, rfl, ha, hb, Or.inl rfl⟩ ?_
    rintro j ⟨x, y, s⟩ _ ⟨p, q, q0, q1, q3, q4⟩
    simp only at q0 q1 q3
    subst q0 q1 q3
    have hp := q4.2.1
    have hq := q4.2.2.1
    have ec : (lg_cmp (lN q) (0 : Int64) = 0) = (q = 0) := propext ((lg_cmp_eq _ _).trans (pk_lEQ (a := q) (b := 0) (by omega) (by omega)))
    have ez : (lN q = 0) = (q = 0) := propext (pk_lEQ (a := q) (b := 0) (by omega) (by omega))
    rcases Nat.eq_zero_or_pos q with z | z
    · subst z
      right
      refine ⟨(lN p, s), ?_, ?_⟩
      · unfold f_X12_chance_L202
        simp (disch := omega) only [↓lt_eq, ↓reduceIte, ↓un1, ↓un2, ↓un3, ↓un4, ↓bd_some, ↓bind_some', ↓sel_l, ↓sel_r, C1T, C1F, C2T, C2F, C3T, C3F, D1T, D1F, D2T, D2F, D3T, D3F, E1T, E1F, E2T, E2F, E3T, E3F, G1T, G1F, G2T, G2F, G3F, inb_T, inb_L, isB_0, isB_1, isB_b, nI_add, L_add1, L_add2, nI_cl, L_cl, bI_T, bI_F, eq_self, not_true_eq_false, not_false_eq_true, ec]
      · rw [← q4.1, Nat.gcd_zero_right]
    · left
      obtain ⟨h1, h2⟩ := q4.step z
      have z' : ¬ q = 0 := by omega
      refine ⟨(lN q, lN (p % q), s), ?_, by omega, q, p % q, rfl, rfl, rfl, h2⟩
      have er : lN p - lN p / lN q * lN q = lN (p % q) := pk_lRem (by omega) z (by omega)
      unfold f_X12_chance_L202
      simp (disch := omega) only [↓lt_eq, ↓reduceIte, ↓un1, ↓un2, ↓un3, ↓un4, ↓bd_some, ↓bind_some', ↓sel_l, ↓sel_r, C1T, C1F, C2T, C2F, C3T, C3F, D1T, D1F, D2T, D2F, D3T, D3F, E1T, E1F, E2T, E2F, E3T, E3F, G1T, G1F, G2T, G2F, G3F, inb_T, inb_L, isB_0, isB_1, isB_b, nI_add, L_add1, L_add2, nI_cl, L_cl, bI_T, bI_F, eq_self, not_true_eq_false, not_false_eq_true, ec, ez, z', er]
  obtain ⟨v, e, rfl⟩ := hz
  exact e
theorem X_weightOf {σ : St} {h : Hs} (hx : HX 19 σ h) (hw : WF h) {m c : Nat} (hm : m < 64) (hc : c ≤ 10) : f_X11_weightOf (nI m) (nI c) σ = some (nI (wN (hOn h) m c (hN h)), σ) := by
  have hN6 := hw.2.1
  unfold f_X11_weightOf
  simp only [lt_eq]
  have hloop := loop_up (body := f_X11_weightOf_L5 (nI m) (nI c)) (r := (nI (wN (hOn h) m c (hN h)), σ)) (hN h) 5000 (fun i => (nI (wN (hOn h) m c i), nI i, σ)) (by omega) (fun i hi => by
    have e1 := X_isOn hx hw (t := i) (by omega)
    have e2 := bit_at m hm i (by omega)
    have e3 : wN (hOn h) m c (i + 1) = wN (hOn h) m c i * wF (hOn h) m c i := rfl
    have e4 : (10 : Int32) - nI c = nI (10 - c) := nI_sub (a := 10) hc
    have e5 : isOnH h i = (hOn h).testBit i := rfl
    unfold f_X11_weightOf_L5
    cases hv : isOnH h i with
    | false =>
      rw [hv] at e1
      have e6 : wF (hOn h) m c i = 1 := by unfold wF; rw [← e5, hv]; rfl
      simp (disch := omega) only [↓lt_eq, ↓reduceIte, ↓un1, ↓un2, ↓un3, ↓un4, ↓bd_some, ↓bind_some', ↓sel_l, ↓sel_r, C1T, C1F, C2T, C2F, C3T, C3F, D1T, D1F, D2T, D2F, D3T, D3F, E1T, E1F, E2T, E2F, E3T, E3F, G1T, G1F, G2T, G2F, G3F, inb_T, inb_L, isB_0, isB_1, isB_b, nI_add, L_add1, L_add2, nI_cl, L_cl, bI_T, bI_F, eq_self, not_true_eq_false, not_false_eq_true, hx.2.1, ↓bd_of e1, e3, e6, Nat.mul_one]
    | true =>
      rw [hv] at e1
      cases hb : m.testBit i with
      | false =>
        rw [hb] at e2
        have e6 : wF (hOn h) m c i = 10 - c := by unfold wF; rw [← e5, hv, hb]; rfl
        simp (disch := omega) only [↓lt_eq, ↓reduceIte, ↓un1, ↓un2, ↓un3, ↓un4, ↓bd_some, ↓bind_some', ↓sel_l, ↓sel_r, C1T, C1F, C2T, C2F, C3T, C3F, D1T, D1F, D2T, D2F, D3T, D3F, E1T, E1F, E2T, E2F, E3T, E3F, G1T, G1F, G2T, G2F, G3F, inb_T, inb_L, isB_0, isB_1, isB_b, nI_add, L_add1, L_add2, nI_cl, L_cl, bI_T, bI_F, eq_self, not_true_eq_false, not_false_eq_true, hx.2.1, ↓bd_of e1, e2, e3, e4, e6, nI_mul]
      | true =>
        rw [hb] at e2
        have e6 : wF (hOn h) m c i = c := by unfold wF; rw [← e5, hv, hb]; rfl
        simp (disch := omega) only [↓lt_eq, ↓reduceIte, ↓un1, ↓un2, ↓un3, ↓un4, ↓bd_some, ↓bind_some', ↓sel_l, ↓sel_r, C1T, C1F, C2T, C2F, C3T, C3F, D1T, D1F, D2T, D2F, D3T, D3F, E1T, E1F, E2T, E2F, E3T, E3F, G1T, G1F, G2T, G2F, G3F, inb_T, inb_L, isB_0, isB_1, isB_b, nI_add, L_add1, L_add2, nI_cl, L_cl, bI_T, bI_F, eq_self, not_true_eq_false, not_false_eq_true, hx.2.1, ↓bd_of e1, e2, e3, e6, nI_mul]) (by
    unfold f_X11_weightOf_L5
    simp (disch := omega) only [↓lt_eq, ↓reduceIte, ↓un1, ↓un2, ↓un3, ↓un4, ↓bd_some, ↓bind_some', ↓sel_l, ↓sel_r, C1T, C1F, C2T, C2F, C3T, C3F, D1T, D1F, D2T, D2F, D3T, D3F, E1T, E1F, E2T, E2F, E3T, E3F, G1T, G1F, G2T, G2F, G3F, inb_T, inb_L, isB_0, isB_1, isB_b, nI_add, L_add1, L_add2, nI_cl, L_cl, bI_T, bI_F, eq_self, not_true_eq_false, not_false_eq_true, hx.2.1])
  have e : ((1 : Int32), (0 : Int32), σ) = (nI (wN (hOn h) m c 0), nI 0, σ) := rfl
  rw [e, hloop]
  rfl
theorem M_weighs {σ : St} {n on m c : Nat} (e0 : σ 261 1 = nI n) (hn : n ≤ 6) (hon : on < 64) (hm : m < 64) (hc : c ≤ 10) : loopF (f_X12_chance_L98 (nI c) (nI on) (nI m)) 5000 ((1 : Int64), (0 : Int32), σ) = some (lN (wN on m c n), σ) := by
  have hloop := loop_up (body := f_X12_chance_L98 (nI c) (nI on) (nI m)) (r := (lN (wN on m c n), σ)) n 5000 (fun i => (lN (wN on m c i), nI i, σ)) (by omega) (fun i hi => by
    have e1 := M_hasN (σ := σ) hon (t := i) (by omega)
    have e2 := M_hasN (σ := σ) hm (t := i) (by omega)
    have e3 : wN on m c (i + 1) = wN on m c i * wF on m c i := rfl
    have e4 : (10 : Int32) - nI c = nI (10 - c) := nI_sub (a := 10) hc
    have e7 : (nI c).toInt64 = lN c := nI_l (by omega)
    have e8 : (nI (10 - c)).toInt64 = lN (10 - c) := nI_l (by omega)
    unfold f_X12_chance_L98
    cases hv : on.testBit i with
    | false =>
      rw [hv] at e1
      have e6 : wF on m c i = 1 := by unfold wF; rw [hv]; rfl
      have e9 : lN (wN on m c i) * 1 = lN (wN on m c i) := Int64.mul_one _
      simp (disch := omega) only [↓lt_eq, ↓reduceIte, ↓un1, ↓un2, ↓un3, ↓un4, ↓bd_some, ↓bind_some', ↓sel_l, ↓sel_r, C1T, C1F, C2T, C2F, C3T, C3F, D1T, D1F, D2T, D2F, D3T, D3F, E1T, E1F, E2T, E2F, E3T, E3F, G1T, G1F, G2T, G2F, G3F, inb_T, inb_L, isB_0, isB_1, isB_b, nI_add, L_add1, L_add2, nI_cl, L_cl, bI_T, bI_F, eq_self, not_true_eq_false, not_false_eq_true, e0, ↓bd_of e1, e3, e6, Nat.mul_one, e9]
    | true =>
      rw [hv] at e1
      cases hb : m.testBit i with
      | false =>
        rw [hb] at e2
        have e6 : wF on m c i = 10 - c := by unfold wF; rw [hv, hb]; rfl
        simp (disch := omega) only [↓lt_eq, ↓reduceIte, ↓un1, ↓un2, ↓un3, ↓un4, ↓bd_some, ↓bind_some', ↓sel_l, ↓sel_r, C1T, C1F, C2T, C2F, C3T, C3F, D1T, D1F, D2T, D2F, D3T, D3F, E1T, E1F, E2T, E2F, E3T, E3F, G1T, G1F, G2T, G2F, G3F, inb_T, inb_L, isB_0, isB_1, isB_b, nI_add, L_add1, L_add2, nI_cl, L_cl, bI_T, bI_F, eq_self, not_true_eq_false, not_false_eq_true, e0, ↓bd_of e1, ↓bd_of e2, e3, e4, e6, e8, lN_mul]
      | true =>
        rw [hb] at e2
        have e6 : wF on m c i = c := by unfold wF; rw [hv, hb]; rfl
        simp (disch := omega) only [↓lt_eq, ↓reduceIte, ↓un1, ↓un2, ↓un3, ↓un4, ↓bd_some, ↓bind_some', ↓sel_l, ↓sel_r, C1T, C1F, C2T, C2F, C3T, C3F, D1T, D1F, D2T, D2F, D3T, D3F, E1T, E1F, E2T, E2F, E3T, E3F, G1T, G1F, G2T, G2F, G3F, inb_T, inb_L, isB_0, isB_1, isB_b, nI_add, L_add1, L_add2, nI_cl, L_cl, bI_T, bI_F, eq_self, not_true_eq_false, not_false_eq_true, e0, ↓bd_of e1, ↓bd_of e2, e3, e6, e7, lN_mul]) (by
    unfold f_X12_chance_L98
    simp (disch := omega) only [↓lt_eq, ↓reduceIte, ↓un1, ↓un2, ↓un3, ↓un4, ↓bd_some, ↓bind_some', ↓sel_l, ↓sel_r, C1T, C1F, C2T, C2F, C3T, C3F, D1T, D1F, D2T, D2F, D3T, D3F, E1T, E1F, E2T, E2F, E3T, E3F, G1T, G1F, G2T, G2F, G3F, inb_T, inb_L, isB_0, isB_1, isB_b, nI_add, L_add1, L_add2, nI_cl, L_cl, bI_T, bI_F, eq_self, not_true_eq_false, not_false_eq_true, e0])
  exact hloop
theorem X_isLiveWithout {σ : St} {h : Hs} (hx : HX 19 σ h) (hw : WF h) {l n m : Nat} (hl : l < hL h) (hm : m < 64) (hn : n ≤ 60) (hmm : hMin h ≤ 9999) : Ok (f_X11_isLiveWithout (nI m) (nI l) (nI n) σ) (fun v => v.1 = bI (live (minN (offH h m) n) l) ∧ Fr (blk 27) σ v.2) := by
  unfold f_X11_isLiveWithout
  refine Ok.bind (Ok.mono (X_try hx hw) (fun u q => ?_))
  have k3 : HX 27 (wr u 27 14 (u 27 14 &&& (nI m ^^^ -1))) (offH h m) := by
    rw [q.1.2.2.2.2.2.2.1, and_not _ hw.on64 m hm]
    exact q.1.setOn _
  have k4 : Fr (blk 27) σ (wr u 27 14 (u 27 14 &&& (nI m ^^^ -1))) := q.2.tr (Fr.w1 (by unfold blk; omega))
  simp only [lt_eq]
  refine Ok.bind (Ok.mono (X_goOn k3 (hw.off m) n hn (by show hMin h + n ≤ 20000; omega)) (fun t z => ?_))
  have e1 := X_isLive z.1 (minN_WF (hw.off m) n (by show hMin h + n ≤ 20000; omega)) (l := l) (by rw [minN_L]; exact hl)
  simp (disch := omega) only [↓lt_eq, ↓reduceIte, ↓un1, ↓un2, ↓un3, ↓un4, ↓bd_some, ↓bind_some', ↓sel_l, ↓sel_r, C1T, C1F, C2T, C2F, C3T, C3F, D1T, D1F, D2T, D2F, D3T, D3F, E1T, E1F, E2T, E2F, E3T, E3F, G1T, G1F, G2T, G2F, G3F, inb_T, inb_L, isB_0, isB_1, isB_b, nI_add, L_add1, L_add2, nI_cl, L_cl, bI_T, bI_F, eq_self, not_true_eq_false, not_false_eq_true, ↓bd_of e1]
  exact Ok.ret ⟨rfl, k4.tr z.2⟩
theorem X_below {σ : St} {h : Hs} (hx : HX 19 σ h) (hw : WF h) : loopF f_X11_chance_L51 5000 ((1 : Int32), (0 : Int32), σ) = some (nI (10 ^ bcU (hOn h) 6), σ) := by
  have h6 := bcU_6 _ hw.on64
  have hloop := loop_up (body := f_X11_chance_L51) (r := (nI (10 ^ bcU (hOn h) 6), σ)) (bcU (hOn h) 6) 5000 (fun i => (nI (10 ^ i), nI i, σ)) (by omega) (fun i hi => by
    have e1 := J_bc hw.on64 σ
    unfold f_X11_chance_L51
    simp (disch := omega) only [↓lt_eq, ↓reduceIte, ↓un1, ↓un2, ↓un3, ↓un4, ↓bd_some, ↓bind_some', ↓sel_l, ↓sel_r, C1T, C1F, C2T, C2F, C3T, C3F, D1T, D1F, D2T, D2F, D3T, D3F, E1T, E1F, E2T, E2F, E3T, E3F, G1T, G1F, G2T, G2F, G3F, inb_T, inb_L, isB_0, isB_1, isB_b, nI_add, L_add1, L_add2, nI_cl, L_cl, bI_T, bI_F, eq_self, not_true_eq_false, not_false_eq_true, hx.2.2.2.2.2.2.1, ↓bd_of e1, L_mul2, Nat.pow_succ]) (by
    have e1 := J_bc hw.on64 σ
    unfold f_X11_chance_L51
    simp (disch := omega) only [↓lt_eq, ↓reduceIte, ↓un1, ↓un2, ↓un3, ↓un4, ↓bd_some, ↓bind_some', ↓sel_l, ↓sel_r, C1T, C1F, C2T, C2F, C3T, C3F, D1T, D1F, D2T, D2F, D3T, D3F, E1T, E1F, E2T, E2F, E3T, E3F, G1T, G1F, G2T, G2F, G3F, inb_T, inb_L, isB_0, isB_1, isB_b, nI_add, L_add1, L_add2, nI_cl, L_cl, bI_T, bI_F, eq_self, not_true_eq_false, not_false_eq_true, hx.2.2.2.2.2.2.1, ↓bd_of e1])
  exact hloop
theorem X_above {σ : St} {h : Hs} (hn : INow σ h) {l n c : Nat} (hl : l < hL h) (hn1 : n ≤ 60) (hc : c ≤ 10) : Ok (loopF (f_X11_chance_L82 (nI l) (nI n) (nI c)) 5000 ((0 : Int32), (0 : Int32), σ)) (fun v => v.1 = nI (upN h l n c 64) ∧ Fr (blk 27) σ v.2) := by
  have hw := hn.1
  have h64 := hw.on64
  have hN6 := hw.2.1
  have hmm := hn.2.2.1
  refine loop_n (fun i (x : Int32 × Int32 × St) => x.1 = nI (upN h l n c i) ∧ x.2.1 = nI i ∧ Fr (blk 27) σ x.2.2) _ 64 5000 _ (by omega) ⟨rfl, rfl, Fr.rf⟩ ?_ ?_
  · rintro i ⟨a, v, s⟩ hi ⟨q0, q1, q3⟩
    simp only at q0 q1 q3
    subst q0 q1
    have hns := hn.keep (Keep.fr27 q3)
    have hz := and_not i hi _ h64
    have hz6 := and64 i hi _ h64
    have e14 := hns.2.1.2.2.2.2.2.2.1
    have ew := X_weightOf hns.2.1 hw hi hc
    have hwl := wN_le (on := hOn h) (m := i) hc hN6
    have es : upN h l n c (i + 1) = upN h l n c i + if i &&& (i ^^^ hOn h) = 0 then (if live (minN (offH h i) n) l then wN (hOn h) i c 6 else 0) else 0 := rfl
    rw [wN_6 hN6 hw.2.2.2.2.2.1] at es
    by_cases c1 : i &&& (i ^^^ hOn h) = 0
    · rw [if_pos c1] at es
      rcases Nat.eq_zero_or_pos (wN (hOn h) i c (hN h)) with z | z
      · have es : upN h l n c (i + 1) = upN h l n c i := by
          rw [es, z]; split <;> rfl
        refine ⟨(nI (upN h l n c (i + 1)), nI (i + 1), s), ?_, rfl, rfl, q3⟩
        unfold f_X11_chance_L82
        simp (disch := omega) only [↓lt_eq, ↓reduceIte, ↓un1, ↓un2, ↓un3, ↓un4, ↓bd_some, ↓bind_some', ↓sel_l, ↓sel_r, C1T, C1F, C2T, C2F, C3T, C3F, D1T, D1F, D2T, D2F, D3T, D3F, E1T, E1F, E2T, E2F, E3T, E3F, G1T, G1F, G2T, G2F, G3F, inb_T, inb_L, isB_0, isB_1, isB_b, nI_add, L_add1, L_add2, nI_cl, L_cl, bI_T, bI_F, eq_self, not_true_eq_false, not_false_eq_true, e14, hz, c1, ↓bd_of ew, es]
      · obtain ⟨⟨b, u⟩, e2, rfl, k5⟩ := X_isLiveWithout hns.2.1 hw hl hi hn1 hmm
        refine ⟨(nI (upN h l n c (i + 1)), nI (i + 1), u), ?_, rfl, rfl, q3.tr k5⟩
        unfold f_X11_chance_L82
        cases hv : live (minN (offH h i) n) l <;> rw [hv] at e2 es <;> simp (disch := omega) only [↓lt_eq, ↓reduceIte, ↓un1, ↓un2, ↓un3, ↓un4, ↓bd_some, ↓bind_some', ↓sel_l, ↓sel_r, C1T, C1F, C2T, C2F, C3T, C3F, D1T, D1F, D2T, D2F, D3T, D3F, E1T, E1F, E2T, E2F, E3T, E3F, G1T, G1F, G2T, G2F, G3F, inb_T, inb_L, isB_0, isB_1, isB_b, nI_add, L_add1, L_add2, nI_cl, L_cl, bI_T, bI_F, eq_self, not_true_eq_false, not_false_eq_true, e14, hz, c1, ↓bd_of ew, ↓bd_of e2, es, if_true, if_false, Bool.false_eq_true, Nat.add_zero]
    · rw [if_neg c1] at es
      have c1' : ¬ nI (i &&& (i ^^^ hOn h)) = 0 := fun q => c1 ((nI_z (by omega)).mp q)
      refine ⟨(nI (upN h l n c (i + 1)), nI (i + 1), s), ?_, rfl, rfl, q3⟩
      unfold f_X11_chance_L82
      simp (disch := omega) only [↓lt_eq, ↓reduceIte, ↓un1, ↓un2, ↓un3, ↓un4, ↓bd_some, ↓bind_some', ↓sel_l, ↓sel_r, C1T, C1F, C2T, C2F, C3T, C3F, D1T, D1F, D2T, D2F, D3T, D3F, E1T, E1F, E2T, E2F, E3T, E3F, G1T, G1F, G2T, G2F, G3F, inb_T, inb_L, isB_0, isB_1, isB_b, nI_add, L_add1, L_add2, nI_cl, L_cl, bI_T, bI_F, eq_self, not_true_eq_false, not_false_eq_true, e14, hz, c1', es, Nat.add_zero]
  · rintro ⟨a, v, s⟩ ⟨q0, q1, q3⟩
    simp only at q0 q1 q3
    subst q0 q1
    refine ⟨(nI (upN h l n c 64), s), ?_, rfl, q3⟩
    unfold f_X11_chance_L82
    simp (disch := omega) only [↓lt_eq, ↓reduceIte, ↓un1, ↓un2, ↓un3, ↓un4, ↓bd_some, ↓bind_some', ↓sel_l, ↓sel_r, C1T, C1F, C2T, C2F, C3T, C3F, D1T, D1F, D2T, D2F, D3T, D3F, E1T, E1F, E2T, E2F, E3T, E3F, G1T, G1F, G2T, G2F, G3F, inb_T, inb_L, isB_0, isB_1, isB_b, nI_add, L_add1, L_add2, nI_cl, L_cl, bI_T, bI_F, eq_self, not_true_eq_false, not_false_eq_true]
theorem M_above {σ : St} {h : Hs} (hn : INow σ h) {l n c : Nat} (hl : l < hL h) (hn1 : n ≤ 60) (hc : c ≤ 10) : Ok (loopF (f_X12_chance_L61 (nI l) (nI n) (nI c) (nI (hOn h))) 5000 ((0 : Int64), (0 : Int64), (0 : Int32), σ)) (fun v => v.1 = lN (upN h l n c 64) ∧ v.2.1 = lN (sumW (hOn h) c 64) ∧ FrM 729 σ v.2.2) := by
  have hw := hn.1
  have h64 := hw.on64
  have hN6 := hw.2.1
  have hmm := hn.2.2.1
  have hp : 0 < hL h := by omega
  refine loop_n (fun i (x : Int64 × Int64 × Int32 × St) => x.1 = lN (upN h l n c i) ∧ x.2.1 = lN (sumW (hOn h) c i) ∧ x.2.2.1 = nI i ∧ FrM 729 σ x.2.2.2) _ 64 5000 _ (by omega) ⟨rfl, rfl, rfl, FrM.rf⟩ ?_ ?_
  · rintro i ⟨a, b, v, s⟩ hi ⟨q0, q1, q2, q3⟩
    simp only at q0 q1 q2 q3
    subst q0 q1 q2
    have hz := and_not i hi _ h64
    have hz6 := and64 i hi _ h64
    have es : upN h l n c (i + 1) = upN h l n c i + if i &&& (i ^^^ hOn h) = 0 then (if live (minN (offH h i) n) l then wN (hOn h) i c 6 else 0) else 0 := rfl
    have ea : sumW (hOn h) c (i + 1) = sumW (hOn h) c i + if i &&& (i ^^^ hOn h) = 0 then wN (hOn h) i c 6 else 0 := rfl
    rw [wN_6 hN6 hw.2.2.2.2.2.1] at es ea
    by_cases c1 : i &&& (i ^^^ hOn h) = 0
    · rw [if_pos c1] at es ea
      have hm := ((hn.keep (Keep.frM q3)).2.2.2.1 hp).2
      obtain ⟨s1, e1, k1, k2⟩ := M_try hm hw
      obtain ⟨s2, e2, k3, k4⟩ := M_offs k1 hw hi
      have e3 := M_weighs (σ := s2) (n := hN h) (on := hOn h) (m := i) (c := c) k3.2.1 hN6 h64 hi hc
      obtain ⟨s3, e4, k5, k6⟩ := M_goesOn k3 (hw.off i) n hn1 (by show hMin h + n ≤ 20000; omega)
      have e5 : f_X12_isLive (729 : Int32) (nI l) s3 = _ := M_isLive (b := 729) k5 (minN_WF (hw.off i) n (by show hMin h + n ≤ 20000; omega)) (by omega) (l := l) (by rw [minN_L]; exact hl)
      refine ⟨(lN (upN h l n c (i + 1)), lN (sumW (hOn h) c (i + 1)), nI (i + 1), s3), ?_, rfl, rfl, rfl, q3.tr (k2.tr (k4.tr k6))⟩
      have e9 : lN (upN h l n c i) + 0 = lN (upN h l n c i) := Int64.add_zero _
      unfold f_X12_chance_L61
      cases hv : live (minN (offH h i) n) l <;> rw [hv] at e5 es <;> simp (disch := omega) only [↓lt_eq, ↓reduceIte, ↓un1, ↓un2, ↓un3, ↓un4, ↓bd_some, ↓bind_some', ↓sel_l, ↓sel_r, C1T, C1F, C2T, C2F, C3T, C3F, D1T, D1F, D2T, D2F, D3T, D3F, E1T, E1F, E2T, E2F, E3T, E3F, G1T, G1F, G2T, G2F, G3F, inb_T, inb_L, isB_0, isB_1, isB_b, nI_add, L_add1, L_add2, nI_cl, L_cl, bI_T, bI_F, eq_self, not_true_eq_false, not_false_eq_true, hz, c1, ↓bind_of e1, ↓bind_of e2, ↓bind_of e3, ↓bind_of e4, ↓bd_of e5, es, ea, lN_add, if_true, if_false, Bool.false_eq_true, Nat.add_zero, e9]
    · rw [if_neg c1] at es ea
      have c1' : ¬ nI (i &&& (i ^^^ hOn h)) = 0 := fun q => c1 ((nI_z (by omega)).mp q)
      refine ⟨(lN (upN h l n c (i + 1)), lN (sumW (hOn h) c (i + 1)), nI (i + 1), s), ?_, rfl, rfl, rfl, q3⟩
      unfold f_X12_chance_L61
      simp (disch := omega) only [↓lt_eq, ↓reduceIte, ↓un1, ↓un2, ↓un3, ↓un4, ↓bd_some, ↓bind_some', ↓sel_l, ↓sel_r, C1T, C1F, C2T, C2F, C3T, C3F, D1T, D1F, D2T, D2F, D3T, D3F, E1T, E1F, E2T, E2F, E3T, E3F, G1T, G1F, G2T, G2F, G3F, inb_T, inb_L, isB_0, isB_1, isB_b, nI_add, L_add1, L_add2, nI_cl, L_cl, bI_T, bI_F, eq_self, not_true_eq_false, not_false_eq_true, hz, c1', es, ea, Nat.add_zero]
  · rintro ⟨a, b, v, s⟩ ⟨q0, q1, q2, q3⟩
    simp only at q0 q1 q2 q3
    subst q0 q1 q2
    refine ⟨(lN (upN h l n c 64), lN (sumW (hOn h) c 64), s), ?_, rfl, rfl, q3⟩
    unfold f_X12_chance_L61
    simp (disch := omega) only [↓lt_eq, ↓reduceIte, ↓un1, ↓un2, ↓un3, ↓un4, ↓bd_some, ↓bind_some', ↓sel_l, ↓sel_r, C1T, C1F, C2T, C2F, C3T, C3F, D1T, D1F, D2T, D2F, D3T, D3F, E1T, E1F, E2T, E2F, E3T, E3F, G1T, G1F, G2T, G2F, G3F, inb_T, inb_L, isB_0, isB_1, isB_b, nI_add, L_add1, L_add2, nI_cl, L_cl, bI_T, bI_F, eq_self, not_true_eq_false, not_false_eq_true]
theorem step_chance (x1 x2 x3 x4 : Int32) : Step Inv (f_X11_chance x1 x2 x3 x4) (f_X12_chance x1 x2 x3 x4) := by
  intro σ hI
  obtain ⟨hR, hP, hF, hT, h, o, n, ac, im, hn, ha, hi⟩ := id hI
  have hL4 := hn.L4
  rcases idx x1 (hL h) hL4 with q | ⟨l, hl, rfl⟩
  · refine step_same (-1000001) hI ?_ ?_
    · unfold f_X11_chance
      simp (disch := omega) only [↓lt_eq, ↓reduceIte, ↓un1, ↓un2, ↓un3, ↓un4, ↓bd_some, ↓bind_some', ↓sel_l, ↓sel_r, C1T, C1F, C2T, C2F, C3T, C3F, D1T, D1F, D2T, D2F, D3T, D3F, E1T, E1F, E2T, E2F, E3T, E3F, G1T, G1F, G2T, G2F, G3F, inb_T, inb_L, isB_0, isB_1, isB_b, nI_add, L_add1, L_add2, nI_cl, L_cl, bI_T, bI_F, eq_self, not_true_eq_false, not_false_eq_true, ↓bd_of (X_noLine_out hn.x1 q)]
    · unfold f_X12_chance
      simp (disch := omega) only [↓lt_eq, ↓reduceIte, ↓un1, ↓un2, ↓un3, ↓un4, ↓bd_some, ↓bind_some', ↓sel_l, ↓sel_r, C1T, C1F, C2T, C2F, C3T, C3F, D1T, D1F, D2T, D2F, D3T, D3F, E1T, E1F, E2T, E2F, E3T, E3F, G1T, G1F, G2T, G2F, G3F, inb_T, inb_L, isB_0, isB_1, isB_b, nI_add, L_add1, L_add2, nI_cl, L_cl, bI_T, bI_F, eq_self, not_true_eq_false, not_false_eq_true, ↓bd_of (M_isLine_out hn.m0 q hL4)]
  rcases rng x2 (lo := 0) (hi := 60) 0 60 (by decide) (by decide) (by omega) (by omega) with q | ⟨d, d1, d2, rfl⟩
  · refine step_same (-1000001) hI ?_ ?_
    · unfold f_X11_chance
      simp (disch := omega) only [↓lt_eq, ↓reduceIte, ↓un1, ↓un2, ↓un3, ↓un4, ↓bd_some, ↓bind_some', ↓sel_l, ↓sel_r, C1T, C1F, C2T, C2F, C3T, C3F, D1T, D1F, D2T, D2F, D3T, D3F, E1T, E1F, E2T, E2F, E3T, E3F, G1T, G1F, G2T, G2F, G3F, inb_T, inb_L, isB_0, isB_1, isB_b, nI_add, L_add1, L_add2, nI_cl, L_cl, bI_T, bI_F, eq_self, not_true_eq_false, not_false_eq_true, ↓bd_of (X_noLine_in hn.x1 hl hL4), ↓ite_out2 q]
    · unfold f_X12_chance
      simp (disch := omega) only [↓lt_eq, ↓reduceIte, ↓un1, ↓un2, ↓un3, ↓un4, ↓bd_some, ↓bind_some', ↓sel_l, ↓sel_r, C1T, C1F, C2T, C2F, C3T, C3F, D1T, D1F, D2T, D2F, D3T, D3F, E1T, E1F, E2T, E2F, E3T, E3F, G1T, G1F, G2T, G2F, G3F, inb_T, inb_L, isB_0, isB_1, isB_b, nI_add, L_add1, L_add2, nI_cl, L_cl, bI_T, bI_F, eq_self, not_true_eq_false, not_false_eq_true, ↓bd_of (M_isLine_in hn.m0 hl hL4), ↓bd_of (M_out (lo := 0) (hi := 60) (L := 0) (H := 60) (by decide) (by decide) q)]
  rcases rng x3 (lo := 0) (hi := 10) 0 10 (by decide) (by decide) (by omega) (by omega) with q | ⟨c, c1, c2, rfl⟩
  · refine step_same (-1000001) hI ?_ ?_
    · unfold f_X11_chance
      simp (disch := omega) only [↓lt_eq, ↓reduceIte, ↓un1, ↓un2, ↓un3, ↓un4, ↓bd_some, ↓bind_some', ↓sel_l, ↓sel_r, C1T, C1F, C2T, C2F, C3T, C3F, D1T, D1F, D2T, D2F, D3T, D3F, E1T, E1F, E2T, E2F, E3T, E3F, G1T, G1F, G2T, G2F, G3F, inb_T, inb_L, isB_0, isB_1, isB_b, nI_add, L_add1, L_add2, nI_cl, L_cl, bI_T, bI_F, eq_self, not_true_eq_false, not_false_eq_true, ↓bd_of (X_noLine_in hn.x1 hl hL4), ↓ite_out2 q]
    · unfold f_X12_chance
      simp (disch := omega) only [↓lt_eq, ↓reduceIte, ↓un1, ↓un2, ↓un3, ↓un4, ↓bd_some, ↓bind_some', ↓sel_l, ↓sel_r, C1T, C1F, C2T, C2F, C3T, C3F, D1T, D1F, D2T, D2F, D3T, D3F, E1T, E1F, E2T, E2F, E3T, E3F, G1T, G1F, G2T, G2F, G3F, inb_T, inb_L, isB_0, isB_1, isB_b, nI_add, L_add1, L_add2, nI_cl, L_cl, bI_T, bI_F, eq_self, not_true_eq_false, not_false_eq_true, ↓bd_of (M_isLine_in hn.m0 hl hL4), ↓bd_of (M_inn (σ := σ) (L := 0) (H := 60) (a := 0) (b := 60) (by decide) (by decide) d1 d2 (by decide)), ↓bd_of (M_out (lo := 0) (hi := 10) (L := 0) (H := 10) (by decide) (by decide) q)]
  rcases rng x4 (lo := 0) (hi := 1) 0 1 (by decide) (by decide) (by omega) (by omega) with q | ⟨w, w1, w2, rfl⟩
  · refine step_same (-1000001) hI ?_ ?_
    · unfold f_X11_chance
      simp (disch := omega) only [↓lt_eq, ↓reduceIte, ↓un1, ↓un2, ↓un3, ↓un4, ↓bd_some, ↓bind_some', ↓sel_l, ↓sel_r, C1T, C1F, C2T, C2F, C3T, C3F, D1T, D1F, D2T, D2F, D3T, D3F, E1T, E1F, E2T, E2F, E3T, E3F, G1T, G1F, G2T, G2F, G3F, inb_T, inb_L, isB_0, isB_1, isB_b, nI_add, L_add1, L_add2, nI_cl, L_cl, bI_T, bI_F, eq_self, not_true_eq_false, not_false_eq_true, ↓bd_of (X_noLine_in hn.x1 hl hL4), ↓ite_out1 q]
    · unfold f_X12_chance
      simp (disch := omega) only [↓lt_eq, ↓reduceIte, ↓un1, ↓un2, ↓un3, ↓un4, ↓bd_some, ↓bind_some', ↓sel_l, ↓sel_r, C1T, C1F, C2T, C2F, C3T, C3F, D1T, D1F, D2T, D2F, D3T, D3F, E1T, E1F, E2T, E2F, E3T, E3F, G1T, G1F, G2T, G2F, G3F, inb_T, inb_L, isB_0, isB_1, isB_b, nI_add, L_add1, L_add2, nI_cl, L_cl, bI_T, bI_F, eq_self, not_true_eq_false, not_false_eq_true, ↓bd_of (M_isLine_in hn.m0 hl hL4), ↓bd_of (M_inn (σ := σ) (L := 0) (H := 60) (a := 0) (b := 60) (by decide) (by decide) d1 d2 (by decide)), ↓bd_of (M_inn (σ := σ) (L := 0) (H := 10) (a := 0) (b := 10) (by decide) (by decide) c1 c2 (by decide)), ↓bd_of (M_out (lo := 0) (hi := 1) (L := 0) (H := 1) (by decide) (by decide) q)]
  have hw := hn.1
  have h64 := hw.on64
  have hp : 0 < hL h := by omega
  have hbc := p10 (bcU (hOn h) 6) (by have := bcU_6 _ h64; omega)
  have hall := sumW_all (hOn h) h64 c (by omega)
  have hup := upN_le h l d c 64
  rw [hall] at hup
  have hG : 0 < Nat.gcd (upN h l d c 64) (10 ^ bcU (hOn h) 6) := Nat.gcd_pos_of_pos_right _ hbc.2
  have hG2 : Nat.gcd (upN h l d c 64) (10 ^ bcU (hOn h) 6) ≤ 10 ^ bcU (hOn h) 6 := Nat.gcd_le_right _ hbc.2
  generalize hu : upN h l d c 64 = up at *
  generalize hal : 10 ^ bcU (hOn h) 6 = al at *
  generalize hGe : Nat.gcd up al = G at *
  refine step_keep (if w = 0 then nI (up / G) else nI (al / G)) hI ?_ (fun s hk => ?_)
  · have e1 := X_below hn.2.1 hw
    rw [hal] at e1
    obtain ⟨⟨a, u⟩, e2, q, k⟩ := X_above hn hl d2 c2
    simp only at q k
    subst q
    rw [hu] at e2
    have e3 := X_gcd (a := up) (b := al) (σ := u) (by omega) hbc.1
    rw [hGe] at e3
    have e4 : nI up / nI G = nI (up / G) := pk_div (by omega) hG (by omega)
    have e5 : nI al / nI G = nI (al / G) := pk_div (by omega) hG (by omega)
    unfold f_X11_chance
    rcases (show w = 0 ∨ w = 1 by omega) with rfl | rfl
    · simp (disch := omega) only [↓lt_eq, ↓reduceIte, ↓un1, ↓un2, ↓un3, ↓un4, ↓bd_some, ↓bind_some', ↓sel_l, ↓sel_r, C1T, C1F, C2T, C2F, C3T, C3F, D1T, D1F, D2T, D2F, D3T, D3F, E1T, E1F, E2T, E2F, E3T, E3F, G1T, G1F, G2T, G2F, G3F, inb_T, inb_L, isB_0, isB_1, isB_b, nI_add, L_add1, L_add2, nI_cl, L_cl, bI_T, bI_F, eq_self, not_true_eq_false, not_false_eq_true, ↓bd_of (X_noLine_in hn.x1 hl hL4), ↓bind_of e1, ↓bind_of e2, ↓bd_of e3, e4]
      exact Ok.ret ⟨rfl, Keep.fr27 k⟩
    · simp (disch := omega) only [↓lt_eq, ↓reduceIte, ↓un1, ↓un2, ↓un3, ↓un4, ↓bd_some, ↓bind_some', ↓sel_l, ↓sel_r, C1T, C1F, C2T, C2F, C3T, C3F, D1T, D1F, D2T, D2F, D3T, D3F, E1T, E1F, E2T, E2F, E3T, E3F, G1T, G1F, G2T, G2F, G3F, inb_T, inb_L, isB_0, isB_1, isB_b, nI_add, L_add1, L_add2, nI_cl, L_cl, bI_T, bI_F, eq_self, not_true_eq_false, not_false_eq_true, ↓bd_of (X_noLine_in hn.x1 hl hL4), ↓bind_of e1, ↓bind_of e2, ↓bd_of e3, e5]
      exact Ok.ret ⟨rfl, Keep.fr27 k⟩
  · have hn := hn.keep hk
    have e0 := M_onOnes (hn.2.2.2.1 hp).2 hw
    obtain ⟨⟨a, b, u⟩, e2, q1, q2, k⟩ := M_above hn hl d2 c2
    simp only at q1 q2 k
    subst q1 q2
    rw [hu, hall] at e2
    have e3 := M_gcd (a := up) (b := al) (σ := u) (by omega) hbc.1
    rw [hGe] at e3
    have ez : (lN G = 0) = False := eq_false (fun q => absurd ((pk_lEQ (a := G) (b := 0) (by omega) (by omega)).mp q) (by omega))
    have e4 : lN up / lN G = lN (up / G) := pk_lDiv (by omega) hG (by omega)
    have e5 : lN al / lN G = lN (al / G) := pk_lDiv (by omega) hG (by omega)
    unfold f_X12_chance
    rcases (show w = 0 ∨ w = 1 by omega) with rfl | rfl
    · simp (disch := omega) only [↓lt_eq, ↓reduceIte, ↓un1, ↓un2, ↓un3, ↓un4, ↓bd_some, ↓bind_some', ↓sel_l, ↓sel_r, C1T, C1F, C2T, C2F, C3T, C3F, D1T, D1F, D2T, D2F, D3T, D3F, E1T, E1F, E2T, E2F, E3T, E3F, G1T, G1F, G2T, G2F, G3F, inb_T, inb_L, isB_0, isB_1, isB_b, nI_add, L_add1, L_add2, nI_cl, L_cl, bI_T, bI_F, eq_self, not_true_eq_false, not_false_eq_true, ↓bd_of (M_isLine_in hn.m0 hl hL4), ↓bd_of (M_inn (σ := s) (L := 0) (H := 60) (a := 0) (b := 60) (by decide) (by decide) d1 d2 (by decide)), ↓bd_of (M_inn (σ := s) (L := 0) (H := 10) (a := 0) (b := 10) (by decide) (by decide) c1 c2 (by decide)), ↓bd_of (M_inn (σ := s) (L := 0) (H := 1) (a := 0) (b := 1) (by decide) (by decide) w1 w2 (by decide)), ↓bd_of e0, ↓bind_of e2, ↓bind_of e3, ez, e4, lN_i]
      exact Ok.ret ⟨rfl, Keep.frM k⟩
    · simp (disch := omega) only [↓lt_eq, ↓reduceIte, ↓un1, ↓un2, ↓un3, ↓un4, ↓bd_some, ↓bind_some', ↓sel_l, ↓sel_r, C1T, C1F, C2T, C2F, C3T, C3F, D1T, D1F, D2T, D2F, D3T, D3F, E1T, E1F, E2T, E2F, E3T, E3F, G1T, G1F, G2T, G2F, G3F, inb_T, inb_L, isB_0, isB_1, isB_b, nI_add, L_add1, L_add2, nI_cl, L_cl, bI_T, bI_F, eq_self, not_true_eq_false, not_false_eq_true, ↓bd_of (M_isLine_in hn.m0 hl hL4), ↓bd_of (M_inn (σ := s) (L := 0) (H := 60) (a := 0) (b := 60) (by decide) (by decide) d1 d2 (by decide)), ↓bd_of (M_inn (σ := s) (L := 0) (H := 10) (a := 0) (b := 10) (by decide) (by decide) c1 c2 (by decide)), ↓bd_of (M_inn (σ := s) (L := 0) (H := 1) (a := 0) (b := 1) (by decide) (by decide) w1 w2 (by decide)), ↓bd_of e0, ↓bind_of e2, ↓bind_of e3, ez, e5, lN_i]
      exact Ok.ret ⟨rfl, Keep.frM k⟩
