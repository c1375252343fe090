/-! acts: kept, undone -/
def ActsX (σ : St) (o n : Nat) (ac : Nat → Hs) : Prop := o < 24 ∧ n ≤ 24 ∧ σ 0 6 = nI o ∧ σ 0 7 = nI n ∧ ∀ i, i < n → HX (67 + 8 * ((o + i) % 24)) σ (ac i)
def ActsM (σ : St) (n : Nat) (ac : Nat → Hs) : Prop := σ 259 3 = nI n ∧ ∀ i, i < n → HM (27 * (i + 1)) 0 σ (ac i)
def ActsW (n : Nat) (ac : Nat → Hs) : Prop := ∀ i, i < n → WF (ac i) ∧ hMin (ac i) ≤ 9999 ∧ 0 < hN (ac i)
def pushN (n : Nat) : Nat := if n = 24 then 24 else n + 1
def pushA (n : Nat) (ac : Nat → Hs) (h : Hs) (i : Nat) : Hs := if n = 24 then (if i < 23 then ac (i + 1) else h) else if i < n then ac i else h
theorem pushN_le {n : Nat} (h : n ≤ 24) : pushN n ≤ 24 := by unfold pushN; split <;> omega
theorem ActsW.push {n : Nat} {ac : Nat → Hs} {h : Hs} (ha : ActsW n ac) (hw : WF h) (hm : hMin h ≤ 9999) (h0 : 0 < hN h) : ActsW (pushN n) (pushA n ac h) := by
  intro i hi
  unfold pushN at hi
  unfold pushA
  split
  · rename_i q
    rw [if_pos q] at hi
    split
    · exact ha (i + 1) (by omega)
    · exact ⟨hw, hm, h0⟩
  · rename_i q
    rw [if_neg q] at hi
    split
    · exact ha i (by omega)
    · exact ⟨hw, hm, h0⟩
theorem rem24 {a : Nat} (h : a < 2147483648) : nI a - nI a / (24 : Int32) * (24 : Int32) = nI (a % 24) := pk_rem (d := 24) h (by omega) (by omega)
theorem actA_n {k : Nat} (h : k < 24) : actA (nI k) = 67 + 8 * k := by unfold actA; rw [nI_cl (by omega)]
/-- the class puts the house into the ring at its end -/
theorem X_keep1 {σ : St} {h : Hs} {o n : Nat} (hx : HX 19 σ h) (hw : WF h) (ho : o < 24) (hn : n < 24) (e6 : σ 0 6 = nI o) (e7 : σ 0 7 = nI n) : ∃ s, (if inb (((σ 0 6) + (σ 0 7)) - ((σ 0 6) + (σ 0 7)) / (24 : Int32) * (24 : Int32)) 24 then lt (actA (((σ 0 6) + (σ 0 7)) - ((σ 0 6) + (σ 0 7)) / (24 : Int32) * (24 : Int32))) fun (a_2 : Nat) => (f_X3_become a_2 19 σ).bind fun (s_3 : St) => lt (wr s_3 0 7 ((s_3 0 7) + (1 : Int32))) fun (s_4 : St) => some s_4 else none) = some s ∧ HX (67 + 8 * ((o + n) % 24)) s h ∧ s 0 7 = nI (n + 1) ∧ (∀ k, k ≠ 7 → s 0 k = σ 0 k) ∧ ∀ b, b ≠ 0 → ¬ blk (67 + 8 * ((o + n) % 24)) b → s b = σ b := by
  have hlt : (o + n) % 24 < 24 := Nat.mod_lt _ (by decide)
  obtain ⟨t, e, k1, k2⟩ := X_become (a := 67 + 8 * ((o + n) % 24)) hx hw (by omega)
  have e7' : t 0 7 = nI n := by rw [k2 0 (by unfold blk; omega)]; exact e7
  refine ⟨wr t 0 7 (nI (n + 1)), ?_, k1.frame (fun b q => wr_a (by omega)), wr_same _ _ _ _, ?_, ?_⟩
  · simp (disch := omega) only [↓lt_eq, ↓reduceIte, ↓un1, ↓un2, ↓un3, ↓un4, ↓bd_some, ↓bind_some', ↓sel_l, ↓sel_r, C1T, C1F, C2T, C2F, C3T, C3F, D1T, D1F, D2T, D2F, D3T, D3F, E1T, E1F, E2T, E2F, E3T, E3F, G1T, G1F, G2T, G2F, G3F, inb_T, inb_L, isB_0, isB_1, isB_b, nI_add, L_add1, L_add2, nI_cl, L_cl, bI_T, bI_F, eq_self, not_true_eq_false, not_false_eq_true, e6, e7, rem24, actA_n hlt, ↓bind_of e, e7']
  · intro k hk
    rw [wr_k hk, k2 0 (by unfold blk; omega)]
  · intro b b0 hb
    rw [wr_a b0, k2 b hb]
theorem X_keepAct {σ : St} {h : Hs} {o n : Nat} {ac : Nat → Hs} (hx : HX 19 σ h) (hw : WF h) (ha : ActsX σ o n ac) : Ok (f_X11_keepAct σ) (fun s => (∃ o', ActsX s o' (pushN n) (pushA n ac h)) ∧ (∀ b, b ≠ 0 → ¬ (67 ≤ b ∧ b < 259) → s b = σ b) ∧ ∀ k, k ≠ 6 → k ≠ 7 → s 0 k = σ 0 k) := by
  obtain ⟨ho, hn, e6, e7, hr⟩ := ha
  unfold f_X11_keepAct
  rw [lt_eq]
  by_cases c : n = 24
  · subst c
    have hlt : (o + 1) % 24 < 24 := Nat.mod_lt _ (by decide)
    generalize hs1 : wr (wr σ 0 6 (nI ((o + 1) % 24))) 0 7 (nI 23) = s1
    have q6 : s1 0 6 = nI ((o + 1) % 24) := by rw [← hs1, wr_k (by omega), wr_same]
    have q7 : s1 0 7 = nI 23 := by rw [← hs1, wr_same]
    have q0 : ∀ b, b ≠ 0 → s1 b = σ b := fun b z => by rw [← hs1, wr_a z, wr_a z]
    have qk : ∀ k, k ≠ 6 → k ≠ 7 → s1 0 k = σ 0 k := fun k z1 z2 => by rw [← hs1, wr_k z2, wr_k z1]
    obtain ⟨s, e, k1, k2, k3, k4⟩ := X_keep1 (σ := s1) (o := (o + 1) % 24) (n := 23) (hx.frame (fun b q => q0 b (by omega))) hw hlt (by omega) q6 q7
    have hlt2 : ((o + 1) % 24 + 23) % 24 < 24 := Nat.mod_lt _ (by decide)
    refine ⟨s, ?_, ⟨(o + 1) % 24, hlt, by decide, ?_, ?_, ?_⟩, ?_, ?_⟩
    · have e24 : (24 : Int32) = nI 24 := rfl
      have z : (if ¬ σ 0 7 = (24 : Int32) then (fun (s_1 : St) => if inb (((s_1 0 6) + (s_1 0 7)) - ((s_1 0 6) + (s_1 0 7)) / (24 : Int32) * (24 : Int32)) 24 then lt (actA (((s_1 0 6) + (s_1 0 7)) - ((s_1 0 6) + (s_1 0 7)) / (24 : Int32) * (24 : Int32))) fun (a_2 : Nat) => (f_X3_become a_2 19 s_1).bind fun (s_3 : St) => lt (wr s_3 0 7 ((s_3 0 7) + (1 : Int32))) fun (s_4 : St) => some s_4 else none) σ else (lt (wr σ 0 6 (((σ 0 6) + (1 : Int32)) - ((σ 0 6) + (1 : Int32)) / (24 : Int32) * (24 : Int32))) fun (s_5 : St) => lt (wr s_5 0 7 ((s_5 0 7) - (1 : Int32))) fun (s_6 : St) => (fun (s_1 : St) => if inb (((s_1 0 6) + (s_1 0 7)) - ((s_1 0 6) + (s_1 0 7)) / (24 : Int32) * (24 : Int32)) 24 then lt (actA (((s_1 0 6) + (s_1 0 7)) - ((s_1 0 6) + (s_1 0 7)) / (24 : Int32) * (24 : Int32))) fun (a_2 : Nat) => (f_X3_become a_2 19 s_1).bind fun (s_3 : St) => lt (wr s_3 0 7 ((s_3 0 7) + (1 : Int32))) fun (s_4 : St) => some s_4 else none) s_6)) = some s := by
        rw [e7, if_neg (by rw [e24]; exact fun q => q rfl), lt_eq, lt_eq, e6, nI_1, rem24 (by omega), wr_k (by omega), e7]
        have : nI 24 - 1 = nI 23 := by decide
        rw [this, hs1]
        exact e
      exact z
    · rw [k3 6 (by omega)]; exact q6
    · exact k2
    · intro i hi
      have hi : i < 24 := hi
      unfold pushA
      rw [if_pos rfl]
      by_cases z : i < 23
      · rw [if_pos z]
        have := hr (i + 1) (by omega)
        have em : ((o + 1) % 24 + i) % 24 = (o + (i + 1)) % 24 := by omega
        rw [em]
        refine this.frame (fun b q => ?_)
        rw [k4 b (by omega) (by unfold blk; omega), q0 b (by omega)]
      · rw [if_neg z]
        have : i = 23 := by omega
        subst this
        exact k1
    · intro b b1 b2
      rw [k4 b b1 (by unfold blk; omega), q0 b b1]
    · intro k z1 z2
      rw [k3 k z2, qk k z1 z2]
  · have hn : n < 24 := by omega
    obtain ⟨s, e, k1, k2, k3, k4⟩ := X_keep1 hx hw ho hn e6 e7
    have hlt2 : (o + n) % 24 < 24 := Nat.mod_lt _ (by decide)
    have hpn : pushN n = n + 1 := if_neg c
    refine ⟨s, ?_, ⟨o, ho, by rw [hpn]; omega, ?_, ?_, ?_⟩, ?_, ?_⟩
    · have c' : ¬ σ 0 7 = (24 : Int32) := by
        rw [e7]; exact fun q => c ((nI_eq (a := n) (b := 24) (by omega) (by omega)).mp q)
      rw [if_pos c']
      exact e
    · rw [k3 6 (by omega)]; exact e6
    · rw [hpn]; exact k2
    · intro i hi
      rw [hpn] at hi
      unfold pushA
      rw [if_neg c]
      by_cases z : i < n
      · rw [if_pos z]
        refine (hr i z).frame (fun b q => ?_)
        exact k4 b (by omega) (by unfold blk; omega)
      · rw [if_neg z]
        have : i = n := by omega
        subst this
        exact k1
    · intro b b1 b2
      exact k4 b b1 (by unfold blk; omega)
    · intro k z1 z2
      exact k3 k z2
/-- the reference copies the house to the end of what it keeps -/
theorem M_known1 {σ : St} {n : Nat} (hn : n < 24) (e3 : σ 259 3 = nI n) : ∃ s, (lt (wr σ 259 3 ((σ 259 3) + (1 : Int32))) fun (s_2 : St) => (f_X12_copies (0 : Int32) ((s_2 259 3) * (27 : Int32)) s_2).bind fun (s_3 : St) => some s_3) = some s ∧ s 259 3 = nI (n + 1) ∧ (∀ k, k ≠ 3 → s 259 k = σ 259 k) ∧ (∀ k, k < 27 → s 260 (27 * (n + 1) + k) = σ 260 k) ∧ (∀ k, k < 27 * (n + 1) ∨ 27 * (n + 1) + 27 ≤ k → s 260 k = σ 260 k) ∧ ∀ b, b ≠ 259 → b ≠ 260 → s b = σ b := by
  obtain ⟨s, e, k1, k2, k3⟩ := M_copies (b := 0) (c := (n + 1) * 27) (σ := wr σ 259 3 (nI (n + 1))) (by omega) (by omega) (by omega)
  have e : f_X12_copies (0 : Int32) (nI ((n + 1) * 27)) (wr σ 259 3 (nI (n + 1))) = some s := e
  rw [Nat.mul_comm] at k1 k3
  refine ⟨s, ?_, ?_, ?_, ?_, ?_, ?_⟩
  · simp (disch := omega) only [↓lt_eq, ↓reduceIte, ↓un1, ↓un2, ↓un3, ↓un4, ↓bd_some, ↓bind_some', ↓sel_l, ↓sel_r, C1T, C1F, C2T, C2F, C3T, C3F, D1T, D1F, D2T, D2F, D3T, D3F, E1T, E1F, E2T, E2F, E3T, E3F, G1T, G1F, G2T, G2F, G3F, inb_T, inb_L, isB_0, isB_1, isB_b, nI_add, L_add1, L_add2, nI_cl, L_cl, bI_T, bI_F, eq_self, not_true_eq_false, not_false_eq_true, e3, wr_same, L_mul2, ↓bind_of e]
  · rw [k2 259 (by omega), wr_same]
  · intro k hk
    rw [k2 259 (by omega), wr_k hk]
  · intro k hk
    rw [k1 k hk, Nat.zero_add, wr_a (by omega)]
  · intro k hk
    rw [k3 k hk, wr_a (by omega)]
  · intro b b1 b2
    rw [k2 b b2, wr_a b1]
theorem M_shift {σ : St} : Ok (loopF f_X12_known_L12 5000 ((27 : Int32), σ)) (fun s => (∀ k, 27 ≤ k → k < 648 → s 260 k = σ 260 (k + 27)) ∧ (∀ k, k < 27 ∨ 648 ≤ k → s 260 k = σ 260 k) ∧ ∀ b, b ≠ 260 → s b = σ b) := by
  refine loop_n (fun i (x : Int32 × St) => x.1 = nI (27 + i) ∧ (∀ k, 27 ≤ k → k < 27 + i → x.2 260 k = σ 260 (k + 27)) ∧ (∀ k, k < 27 ∨ 27 + i ≤ k → x.2 260 k = σ 260 k) ∧ ∀ b, b ≠ 260 → x.2 b = σ b) _ 621 5000 _ (by omega) ⟨rfl, fun k q1 q2 => absurd q1 (by omega), fun _ _ => rfl, fun _ _ => rfl⟩ ?_ ?_
  · rintro i ⟨v, s⟩ hi ⟨q0, q1, q2, q3⟩
    simp only at q0 q1 q2 q3
    subst q0
    refine ⟨(nI (27 + i + 1), wr s 260 (27 + i) (s 260 (27 + i + 27))), ?_, rfl, ?_, ?_, ?_⟩
    · unfold f_X12_known_L12
      simp (disch := omega) only [↓lt_eq, ↓reduceIte, ↓un1, ↓un2, ↓un3, ↓un4, ↓bd_some, ↓bind_some', ↓sel_l, ↓sel_r, C1T, C1F, C2T, C2F, C3T, C3F, D1T, D1F, D2T, D2F, D3T, D3F, E1T, E1F, E2T, E2F, E3T, E3F, G1T, G1F, G2T, G2F, G3F, inb_T, inb_L, isB_0, isB_1, isB_b, nI_add, L_add1, L_add2, nI_cl, L_cl, bI_T, bI_F, eq_self, not_true_eq_false, not_false_eq_true]
    · intro k k1 k2
      simp only [wr_eq]
      by_cases z : k = 27 + i
      · rw [if_pos ⟨trivial, z⟩, q2 (27 + i + 27) (by omega), z]
      · rw [if_neg (by omega)]; exact q1 k k1 (by omega)
    · intro k hk
      simp only [wr_eq]
      rw [if_neg (by omega)]; exact q2 k (by omega)
    · intro b hb
      simp only [wr_a hb]
      exact q3 b hb
  · rintro ⟨v, s⟩ ⟨q0, q1, q2, q3⟩
    simp only at q0 q1 q2 q3
    subst q0
    refine ⟨s, ?_, q1, q2, q3⟩
    unfold f_X12_known_L12
    simp (disch := omega) only [↓lt_eq, ↓reduceIte, ↓un1, ↓un2, ↓un3, ↓un4, ↓bd_some, ↓bind_some', ↓sel_l, ↓sel_r, C1T, C1F, C2T, C2F, C3T, C3F, D1T, D1F, D2T, D2F, D3T, D3F, E1T, E1F, E2T, E2F, E3T, E3F, G1T, G1F, G2T, G2F, G3F, inb_T, inb_L, isB_0, isB_1, isB_b, nI_add, L_add1, L_add2, nI_cl, L_cl, bI_T, bI_F, eq_self, not_true_eq_false, not_false_eq_true]
theorem M_known {σ : St} {h : Hs} {n : Nat} {ac : Nat → Hs} (hm : HM 0 0 σ h) (hw : WF h) (hn : n ≤ 24) (ha : ActsM σ n ac) (hW : ActsW n ac) : Ok (f_X12_known σ) (fun s => ActsM s (pushN n) (pushA n ac h) ∧ (∀ b, b ≠ 259 → b ≠ 260 → s b = σ b) ∧ (∀ k, k ≠ 3 → s 259 k = σ 259 k) ∧ ∀ k, k < 27 ∨ 675 ≤ k → s 260 k = σ 260 k) := by
  obtain ⟨e3, hr⟩ := ha
  by_cases c : n = 24
  · subst c
    obtain ⟨s1, e1, m1, m2, m3⟩ := M_shift (σ := σ)
    obtain ⟨s, e, k1, k2, k3, k4, k5⟩ := M_known1 (σ := wr s1 259 3 (nI 23)) (n := 23) (by omega) (wr_same _ _ _ _)
    have h0 : ∀ k, wr s1 259 3 (nI 23) 260 k = s1 260 k := fun k => by rw [wr_a (by omega)]
    refine ⟨s, ?_, ⟨k1, fun i hi => ?_⟩, ?_, ?_, ?_⟩
    · have e23 : wr s1 259 3 (23 : Int32) = wr s1 259 3 (nI 23) := rfl
      have e24 : (24 : Int32) = nI 24 := rfl
      unfold f_X12_known
      simp only [lt_eq] at e ⊢
      rw [e3, if_neg (by rw [e24]; exact fun q => q rfl), e1]
      simp only [bind_some', un1]
      rw [e23]
      exact e
    · have hi : i < 24 := hi
      unfold pushA
      rw [if_pos rfl]
      by_cases z : i < 23
      · rw [if_pos z]
        refine (hr (i + 1) (by omega)).copied (hW (i + 1) (by omega)).1 (fun k hk => ?_) (by rw [k5 261 (by omega) (by omega), wr_a (by omega), m3 261 (by omega)])
        rw [k4 _ (by omega), h0, m1 _ (by omega) (by omega)]
        exact congrArg (σ 260) (by omega)
      · rw [if_neg z]
        have : i = 23 := by omega
        subst this
        refine hm.copied hw (fun k hk => ?_) (by rw [k5 261 (by omega) (by omega), wr_a (by omega), m3 261 (by omega)])
        rw [k3 k hk, h0, m2 k (by omega), Nat.zero_add]
    · intro b b1 b2
      rw [k5 b b1 b2, wr_a b1, m3 b b2]
    · intro k hk
      rw [k2 k hk, wr_k hk, m3 259 (by omega)]
    · intro k hk
      rw [k4 k (by omega), h0, m2 k (by omega)]
  · obtain ⟨s, e, k1, k2, k3, k4, k5⟩ := M_known1 (σ := σ) (n := n) (by omega) e3
    have hpn : pushN n = n + 1 := if_neg c
    refine ⟨s, ?_, ⟨by rw [hpn]; exact k1, fun i hi => ?_⟩, k5, k2, fun k hk => k4 k (by omega)⟩
    · have c' : ¬ σ 259 3 = (24 : Int32) := by
        rw [e3]; exact fun q => c ((nI_eq (a := n) (b := 24) (by omega) (by omega)).mp q)
      unfold f_X12_known
      simp only [lt_eq] at e ⊢
      rw [if_pos c']
      exact e
    · rw [hpn] at hi
      unfold pushA
      rw [if_neg c]
      by_cases z : i < n
      · rw [if_pos z]
        exact (hr i z).copied (hW i z).1 (fun k hk => k4 _ (by omega)) (k5 261 (by omega) (by omega))
      · rw [if_neg z]
        have : i = n := by omega
        subst this
        refine hm.copied hw (fun k hk => ?_) (k5 261 (by omega) (by omega))
        rw [k3 k hk, Nat.zero_add]
