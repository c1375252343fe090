/-! what is foretold: heat, later, lost, dark, holds -/
/-- the first one that fits -/
def ansF (p : Nat → Bool) (g : Nat → Int32) (z : Int32) : Nat → Nat → Int32
  | _, 0 => z
  | i, m + 1 => if p i then g i else ansF p g z (i + 1) m
theorem ansF_hit {p : Nat → Bool} {g : Nat → Int32} {z : Int32} {d : Nat} (hd : p d = true) : ∀ (m i : Nat), i ≤ d → d < i + m → (∀ j, i ≤ j → j < d → p j = false) → ansF p g z i m = g d
  | 0, i, h1, h2, _ => by omega
  | m + 1, i, h1, h2, h3 => by
    show (if p i then g i else ansF p g z (i + 1) m) = g d
    by_cases e : i = d
    · subst e; rw [if_pos hd]
    · rw [h3 i (by omega) (by omega)]
      exact ansF_hit hd m (i + 1) (by omega) (by omega) (fun j q1 q2 => h3 j (by omega) q2)
theorem ansF_none {p : Nat → Bool} {g : Nat → Int32} {z : Int32} : ∀ (m i : Nat), (∀ j, i ≤ j → j < i + m → p j = false) → ansF p g z i m = z
  | 0, i, _ => rfl
  | m + 1, i, h => by
    show (if p i then g i else ansF p g z (i + 1) m) = z
    rw [h i (by omega) (by omega)]
    exact ansF_none m (i + 1) (fun j q1 q2 => h j (by omega) (by omega))
/-- a loop that looks for the first -/
theorem loop_find {τ ρ : Type} {body : τ → Option (τ ⊕ ρ)} (I : Nat → τ → Prop) (p : Nat → Bool) (i n : Nat) (P : ρ → Prop) (fuel : Nat) (s : τ) (hf : n < fuel) (h0 : I i s) (hs : ∀ j s, i ≤ j → j < i + n → I j s → (p j = false → ∃ s', body s = some (.inl s') ∧ I (j + 1) s') ∧ (p j = true → (∀ k, i ≤ k → k < j → p k = false) → ∃ r, body s = some (.inr r) ∧ P r)) (he : ∀ s, I (i + n) s → (∀ k, i ≤ k → k < i + n → p k = false) → ∃ r, body s = some (.inr r) ∧ P r) : ∃ r, loopF body fuel s = some r ∧ P r := by
  refine loop_inv (fun j s => j ≤ i + n ∧ I j s ∧ ∀ k, i ≤ k → k < j → p k = false) P n fuel s i hf ⟨by omega, h0, fun k a b => by omega⟩ ?_
  intro j t hj ⟨h1, h2, h3⟩
  rcases Nat.lt_or_ge j (i + n) with q | q
  · obtain ⟨a1, a2⟩ := hs j t hj q h2
    cases hp : p j with
    | false =>
      obtain ⟨s', e, k⟩ := a1 hp
      refine Or.inl ⟨s', e, q, by omega, k, fun k q1 q2 => ?_⟩
      by_cases z : k = j
      · rw [z]; exact hp
      · exact h3 k q1 (by omega)
    | true => exact Or.inr (a2 hp h3)
  · have : j = i + n := by omega
    subst this
    exact Or.inr (he t h2 h3)
theorem X_foretell {σ : St} {h : Hs} (hx : HX 19 σ h) (hw : WF h) {d : Nat} (hd : d ≤ 60) (hm : hMin h ≤ 9999) : Ok (f_X11_foretell (nI d) σ) (fun s => HX 27 s (minN h d) ∧ Fr (blk 27) σ s) := by
  unfold f_X11_foretell
  refine Ok.bind (Ok.mono (X_try hx hw) (fun s q => ?_))
  rw [lt_eq]
  exact Ok.bind (Ok.mono (X_goOn q.1 hw d hd (by omega)) (fun t k => Ok.ret ⟨k.1, q.2.tr k.2⟩))
theorem M_foretell {σ : St} {h : Hs} (hx : HM 0 0 σ h) (hw : WF h) {d : Nat} (hd : d ≤ 60) (hm : hMin h ≤ 9999) {P : St → Prop} (k : ∀ s, HM 729 0 s (minN h d) → FrM 729 σ s → P s) : Ok (f_X12_copies (0 : Int32) (729 : Int32) σ) (fun s => Ok (f_X12_goesOn (nI d) s) P) :=
  Ok.mono (M_try hx hw) (fun s q => Ok.mono (M_goesOn q.1 hw d hd (by omega)) (fun t z => k t z.1 (q.2.tr z.2)))
theorem step_heat (x1 x2 : Int32) : Step Inv (f_X11_heat x1 x2) (f_X12_heat x1 x2) := by
  intro σ hI
  obtain ⟨hR, hP, hF, hT, h, o, n, ac, im, hn, ha, hi⟩ := id hI
  have hL4 := hn.L4
  rcases idx x1 (hL h) hL4 with q | ⟨l, hl, rfl⟩
  · refine step_same (-1000001) hI ?_ ?_
    · unfold f_X11_heat
      simp (disch := omega) only [↓lt_eq, ↓reduceIte, ↓un1, ↓un2, ↓un3, ↓un4, ↓bd_some, ↓bind_some', ↓sel_l, ↓sel_r, C1T, C1F, C2T, C2F, C3T, C3F, D1T, D1F, D2T, D2F, D3T, D3F, E1T, E1F, E2T, E2F, E3T, E3F, G1T, G1F, G2T, G2F, G3F, inb_T, inb_L, isB_0, isB_1, isB_b, nI_add, L_add1, L_add2, nI_cl, L_cl, bI_T, bI_F, eq_self, not_true_eq_false, not_false_eq_true, ↓bd_of (X_noLine_out hn.x1 q)]
    · unfold f_X12_heat
      simp (disch := omega) only [↓lt_eq, ↓reduceIte, ↓un1, ↓un2, ↓un3, ↓un4, ↓bd_some, ↓bind_some', ↓sel_l, ↓sel_r, C1T, C1F, C2T, C2F, C3T, C3F, D1T, D1F, D2T, D2F, D3T, D3F, E1T, E1F, E2T, E2F, E3T, E3F, G1T, G1F, G2T, G2F, G3F, inb_T, inb_L, isB_0, isB_1, isB_b, nI_add, L_add1, L_add2, nI_cl, L_cl, bI_T, bI_F, eq_self, not_true_eq_false, not_false_eq_true, ↓bd_of (M_isLine_out hn.m0 q hL4)]
  rcases rng x2 (lo := 0) (hi := 60) 0 60 (by decide) (by decide) (by omega) (by omega) with q | ⟨d, d1, d2, rfl⟩
  · refine step_same (-1000001) hI ?_ ?_
    · unfold f_X11_heat
      simp (disch := omega) only [↓lt_eq, ↓reduceIte, ↓un1, ↓un2, ↓un3, ↓un4, ↓bd_some, ↓bind_some', ↓sel_l, ↓sel_r, C1T, C1F, C2T, C2F, C3T, C3F, D1T, D1F, D2T, D2F, D3T, D3F, E1T, E1F, E2T, E2F, E3T, E3F, G1T, G1F, G2T, G2F, G3F, inb_T, inb_L, isB_0, isB_1, isB_b, nI_add, L_add1, L_add2, nI_cl, L_cl, bI_T, bI_F, eq_self, not_true_eq_false, not_false_eq_true, ↓bd_of (X_noLine_in hn.x1 hl hL4), ↓ite_out1 q]
    · unfold f_X12_heat
      simp (disch := omega) only [↓lt_eq, ↓reduceIte, ↓un1, ↓un2, ↓un3, ↓un4, ↓bd_some, ↓bind_some', ↓sel_l, ↓sel_r, C1T, C1F, C2T, C2F, C3T, C3F, D1T, D1F, D2T, D2F, D3T, D3F, E1T, E1F, E2T, E2F, E3T, E3F, G1T, G1F, G2T, G2F, G3F, inb_T, inb_L, isB_0, isB_1, isB_b, nI_add, L_add1, L_add2, nI_cl, L_cl, bI_T, bI_F, eq_self, not_true_eq_false, not_false_eq_true, ↓bd_of (M_isLine_in hn.m0 hl hL4), ↓bd_of (M_out (lo := 0) (hi := 60) (L := 0) (H := 60) (by decide) (by decide) q)]
  have hl4 : l < 4 := Nat.lt_of_lt_of_le hl hn.1.1
  refine step_keep (nI (hHt (minN h d) l)) hI ?_ (fun s hk => ?_)
  · obtain ⟨t, e, k1, k2⟩ := X_foretell hn.2.1 hn.1 d2 hn.2.2.1
    refine ⟨(nI (hHt (minN h d) l), t), ?_, rfl, Keep.fr27 k2⟩
    have f1 := (k1.2.2.2.2.2.2.2.1 l (by rw [minN_L]; exact hl)).2.2.1
    unfold f_X11_heat
    simp (disch := omega) only [↓lt_eq, ↓reduceIte, ↓un1, ↓un2, ↓un3, ↓un4, ↓bd_some, ↓bind_some', ↓sel_l, ↓sel_r, C1T, C1F, C2T, C2F, C3T, C3F, D1T, D1F, D2T, D2F, D3T, D3F, E1T, E1F, E2T, E2F, E3T, E3F, G1T, G1F, G2T, G2F, G3F, inb_T, inb_L, isB_0, isB_1, isB_b, nI_add, L_add1, L_add2, nI_cl, L_cl, bI_T, bI_F, eq_self, not_true_eq_false, not_false_eq_true, ↓bd_of (X_noLine_in hn.x1 hl hL4), ↓bind_of e, f1]
  · have hn := hn.keep hk
    unfold f_X12_heat
    simp (disch := omega) only [↓lt_eq, ↓reduceIte, ↓un1, ↓un2, ↓un3, ↓un4, ↓bd_some, ↓bind_some', ↓sel_l, ↓sel_r, C1T, C1F, C2T, C2F, C3T, C3F, D1T, D1F, D2T, D2F, D3T, D3F, E1T, E1F, E2T, E2F, E3T, E3F, G1T, G1F, G2T, G2F, G3F, inb_T, inb_L, isB_0, isB_1, isB_b, nI_add, L_add1, L_add2, nI_cl, L_cl, bI_T, bI_F, eq_self, not_true_eq_false, not_false_eq_true, ↓bd_of (M_isLine_in hn.m0 hl hL4), ↓bd_of (M_inn (σ := s) (L := 0) (H := 60) (a := 0) (b := 60) (by decide) (by decide) d1 d2 (by decide))]
    refine Ok.bind (Ok.mono (M_foretell (hn.2.2.2.1 (by omega)).2 hn.1 d2 hn.2.2.1 (P := fun t => HM 729 0 t (minN h d) ∧ FrM 729 s t) (fun t a b => ⟨a, b⟩)) (fun t q => Ok.bind (Ok.mono q (fun t q => ?_))))
    have f1 := q.1.g_ht (k := 729 + l) (by rw [minN_L]; exact hl) rfl
    simp (disch := omega) only [↓lt_eq, ↓reduceIte, ↓un1, ↓un2, ↓un3, ↓un4, ↓bd_some, ↓bind_some', ↓sel_l, ↓sel_r, C1T, C1F, C2T, C2F, C3T, C3F, D1T, D1F, D2T, D2F, D3T, D3F, E1T, E1F, E2T, E2F, E3T, E3F, G1T, G1F, G2T, G2F, G3F, inb_T, inb_L, isB_0, isB_1, isB_b, nI_add, L_add1, L_add2, nI_cl, L_cl, bI_T, bI_F, eq_self, not_true_eq_false, not_false_eq_true, f1]
    exact Ok.ret ⟨rfl, Keep.frM q.2⟩
theorem step_later (x1 x2 : Int32) : Step Inv (f_X11_later x1 x2) (f_X12_later x1 x2) := by
  intro σ hI
  obtain ⟨hR, hP, hF, hT, h, o, n, ac, im, hn, ha, hi⟩ := id hI
  have hL4 := hn.L4
  rcases Nat.eq_zero_or_pos (hL h) with hz | hp
  · have e1 := hn.x1
    have e2 := hn.m0
    rw [hz] at e1 e2
    refine step_same (-1000002) hI ?_ ?_
    · unfold f_X11_later
      simp (disch := omega) only [↓lt_eq, ↓reduceIte, ↓un1, ↓un2, ↓un3, ↓un4, ↓bd_some, ↓bind_some', ↓sel_l, ↓sel_r, C1T, C1F, C2T, C2F, C3T, C3F, D1T, D1F, D2T, D2F, D3T, D3F, E1T, E1F, E2T, E2F, E3T, E3F, G1T, G1F, G2T, G2F, G3F, inb_T, inb_L, isB_0, isB_1, isB_b, nI_add, L_add1, L_add2, nI_cl, L_cl, bI_T, bI_F, eq_self, not_true_eq_false, not_false_eq_true, ↓bd_of (X_noHouse_1 e1)]
    · unfold f_X12_later
      simp (disch := omega) only [↓lt_eq, ↓reduceIte, ↓un1, ↓un2, ↓un3, ↓un4, ↓bd_some, ↓bind_some', ↓sel_l, ↓sel_r, C1T, C1F, C2T, C2F, C3T, C3F, D1T, D1F, D2T, D2F, D3T, D3F, E1T, E1F, E2T, E2F, E3T, E3F, G1T, G1F, G2T, G2F, G3F, inb_T, inb_L, isB_0, isB_1, isB_b, nI_add, L_add1, L_add2, nI_cl, L_cl, bI_T, bI_F, eq_self, not_true_eq_false, not_false_eq_true, ↓bd_of (M_isHouse_0 e2)]
  rcases rng x1 (lo := 0) (hi := 60) 0 60 (by decide) (by decide) (by omega) (by omega) with q | ⟨d, d1, d2, rfl⟩
  · refine step_same (-1000001) hI ?_ ?_
    · unfold f_X11_later
      simp (disch := omega) only [↓lt_eq, ↓reduceIte, ↓un1, ↓un2, ↓un3, ↓un4, ↓bd_some, ↓bind_some', ↓sel_l, ↓sel_r, C1T, C1F, C2T, C2F, C3T, C3F, D1T, D1F, D2T, D2F, D3T, D3F, E1T, E1F, E2T, E2F, E3T, E3F, G1T, G1F, G2T, G2F, G3F, inb_T, inb_L, isB_0, isB_1, isB_b, nI_add, L_add1, L_add2, nI_cl, L_cl, bI_T, bI_F, eq_self, not_true_eq_false, not_false_eq_true, ↓bd_of (X_noHouse_0 hn.x1 hp hL4), ↓ite_out2 q]
    · unfold f_X12_later
      simp (disch := omega) only [↓lt_eq, ↓reduceIte, ↓un1, ↓un2, ↓un3, ↓un4, ↓bd_some, ↓bind_some', ↓sel_l, ↓sel_r, C1T, C1F, C2T, C2F, C3T, C3F, D1T, D1F, D2T, D2F, D3T, D3F, E1T, E1F, E2T, E2F, E3T, E3F, G1T, G1F, G2T, G2F, G3F, inb_T, inb_L, isB_0, isB_1, isB_b, nI_add, L_add1, L_add2, nI_cl, L_cl, bI_T, bI_F, eq_self, not_true_eq_false, not_false_eq_true, ↓bd_of (M_isHouse_1 hn.m0 hp hL4), ↓bd_of (M_out (lo := 0) (hi := 60) (L := 0) (H := 60) (by decide) (by decide) q)]
  rcases rng x2 (lo := 0) (hi := 2) 0 2 (by decide) (by decide) (by omega) (by omega) with q | ⟨w, w1, w2, rfl⟩
  · refine step_same (-1000001) hI ?_ ?_
    · unfold f_X11_later
      simp (disch := omega) only [↓lt_eq, ↓reduceIte, ↓un1, ↓un2, ↓un3, ↓un4, ↓bd_some, ↓bind_some', ↓sel_l, ↓sel_r, C1T, C1F, C2T, C2F, C3T, C3F, D1T, D1F, D2T, D2F, D3T, D3F, E1T, E1F, E2T, E2F, E3T, E3F, G1T, G1F, G2T, G2F, G3F, inb_T, inb_L, isB_0, isB_1, isB_b, nI_add, L_add1, L_add2, nI_cl, L_cl, bI_T, bI_F, eq_self, not_true_eq_false, not_false_eq_true, ↓bd_of (X_noHouse_0 hn.x1 hp hL4), ↓ite_out1 q]
    · unfold f_X12_later
      simp (disch := omega) only [↓lt_eq, ↓reduceIte, ↓un1, ↓un2, ↓un3, ↓un4, ↓bd_some, ↓bind_some', ↓sel_l, ↓sel_r, C1T, C1F, C2T, C2F, C3T, C3F, D1T, D1F, D2T, D2F, D3T, D3F, E1T, E1F, E2T, E2F, E3T, E3F, G1T, G1F, G2T, G2F, G3F, inb_T, inb_L, isB_0, isB_1, isB_b, nI_add, L_add1, L_add2, nI_cl, L_cl, bI_T, bI_F, eq_self, not_true_eq_false, not_false_eq_true, ↓bd_of (M_isHouse_1 hn.m0 hp hL4), ↓bd_of (M_inn (σ := σ) (L := 0) (H := 60) (a := 0) (b := 60) (by decide) (by decide) d1 d2 (by decide)), ↓bd_of (M_out (lo := 0) (hi := 2) (L := 0) (H := 2) (by decide) (by decide) q)]
  refine step_keep (if w = 0 then orT (live (minN h d)) (hL h) else if w = 1 then orT (runsH (minN h d)) (hN h) else nI (hUsed (minN h d))) hI ?_ (fun s hk => ?_)
  · unfold f_X11_later
    simp (disch := omega) only [↓lt_eq, ↓reduceIte, ↓un1, ↓un2, ↓un3, ↓un4, ↓bd_some, ↓bind_some', ↓sel_l, ↓sel_r, C1T, C1F, C2T, C2F, C3T, C3F, D1T, D1F, D2T, D2F, D3T, D3F, E1T, E1F, E2T, E2F, E3T, E3F, G1T, G1F, G2T, G2F, G3F, inb_T, inb_L, isB_0, isB_1, isB_b, nI_add, L_add1, L_add2, nI_cl, L_cl, bI_T, bI_F, eq_self, not_true_eq_false, not_false_eq_true, ↓bd_of (X_noHouse_0 hn.x1 hp hL4)]
    refine Ok.bind (Ok.mono (X_foretell hn.2.1 hn.1 d2 hn.2.2.1) (fun t q => ?_))
    have hw' : WF (minN h d) := minN_WF hn.1 d (by have := hn.2.2.1; omega)
    have g1 := X_liveLines q.1 hw'
    have g2 := X_runningThings q.1 hw'
    have g3 := q.1.2.2.2.2.1
    rw [minN_L] at g1
    rw [minN_N] at g2
    have hk := Keep.fr27 q.2
    rcases (show w = 0 ∨ w = 1 ∨ w = 2 by omega) with rfl | rfl | rfl
    · simp (disch := omega) only [↓lt_eq, ↓reduceIte, ↓un1, ↓un2, ↓un3, ↓un4, ↓bd_some, ↓bind_some', ↓sel_l, ↓sel_r, C1T, C1F, C2T, C2F, C3T, C3F, D1T, D1F, D2T, D2F, D3T, D3F, E1T, E1F, E2T, E2F, E3T, E3F, G1T, G1F, G2T, G2F, G3F, inb_T, inb_L, isB_0, isB_1, isB_b, nI_add, L_add1, L_add2, nI_cl, L_cl, bI_T, bI_F, eq_self, not_true_eq_false, not_false_eq_true, ↓bd_of g1]
      exact Ok.ret ⟨rfl, hk⟩
    · simp (disch := omega) only [↓lt_eq, ↓reduceIte, ↓un1, ↓un2, ↓un3, ↓un4, ↓bd_some, ↓bind_some', ↓sel_l, ↓sel_r, C1T, C1F, C2T, C2F, C3T, C3F, D1T, D1F, D2T, D2F, D3T, D3F, E1T, E1F, E2T, E2F, E3T, E3F, G1T, G1F, G2T, G2F, G3F, inb_T, inb_L, isB_0, isB_1, isB_b, nI_add, L_add1, L_add2, nI_cl, L_cl, bI_T, bI_F, eq_self, not_true_eq_false, not_false_eq_true, ↓bd_of g2]
      exact Ok.ret ⟨rfl, hk⟩
    · simp (disch := omega) only [↓lt_eq, ↓reduceIte, ↓un1, ↓un2, ↓un3, ↓un4, ↓bd_some, ↓bind_some', ↓sel_l, ↓sel_r, C1T, C1F, C2T, C2F, C3T, C3F, D1T, D1F, D2T, D2F, D3T, D3F, E1T, E1F, E2T, E2F, E3T, E3F, G1T, G1F, G2T, G2F, G3F, inb_T, inb_L, isB_0, isB_1, isB_b, nI_add, L_add1, L_add2, nI_cl, L_cl, bI_T, bI_F, eq_self, not_true_eq_false, not_false_eq_true, g3]
      exact Ok.ret ⟨rfl, hk⟩
  · have hn := hn.keep hk
    unfold f_X12_later
    simp (disch := omega) only [↓lt_eq, ↓reduceIte, ↓un1, ↓un2, ↓un3, ↓un4, ↓bd_some, ↓bind_some', ↓sel_l, ↓sel_r, C1T, C1F, C2T, C2F, C3T, C3F, D1T, D1F, D2T, D2F, D3T, D3F, E1T, E1F, E2T, E2F, E3T, E3F, G1T, G1F, G2T, G2F, G3F, inb_T, inb_L, isB_0, isB_1, isB_b, nI_add, L_add1, L_add2, nI_cl, L_cl, bI_T, bI_F, eq_self, not_true_eq_false, not_false_eq_true, ↓bd_of (M_isHouse_1 hn.m0 hp hL4), ↓bd_of (M_inn (σ := s) (L := 0) (H := 60) (a := 0) (b := 60) (by decide) (by decide) d1 d2 (by decide)), ↓bd_of (M_inn (σ := s) (L := 0) (H := 2) (a := 0) (b := 2) (by decide) (by decide) w1 w2 (by decide))]
    refine Ok.bind (Ok.mono (M_foretell (hn.2.2.2.1 (by omega)).2 hn.1 d2 hn.2.2.1 (P := fun t => HM 729 0 t (minN h d) ∧ FrM 729 s t) (fun t a b => ⟨a, b⟩)) (fun t q => Ok.bind (Ok.mono q (fun t q => ?_))))
    have hw' : WF (minN h d) := minN_WF hn.1 d (by have := hn.2.2.1; omega)
    have g1 : f_X12_liveOnes (729 : Int32) t = _ := M_liveOnes (b := 729) q.1 hw' (by omega)
    have g2 : f_X12_running (729 : Int32) t = _ := M_running (b := 729) q.1 hw' (by omega)
    have g3 : t 260 754 = _ := q.1.2.2.2.2.1
    rw [minN_L] at g1
    rw [minN_N] at g2
    have hk := Keep.frM q.2
    rcases (show w = 0 ∨ w = 1 ∨ w = 2 by omega) with rfl | rfl | rfl
    · simp (disch := omega) only [↓lt_eq, ↓reduceIte, ↓un1, ↓un2, ↓un3, ↓un4, ↓bd_some, ↓bind_some', ↓sel_l, ↓sel_r, C1T, C1F, C2T, C2F, C3T, C3F, D1T, D1F, D2T, D2F, D3T, D3F, E1T, E1F, E2T, E2F, E3T, E3F, G1T, G1F, G2T, G2F, G3F, inb_T, inb_L, isB_0, isB_1, isB_b, nI_add, L_add1, L_add2, nI_cl, L_cl, bI_T, bI_F, eq_self, not_true_eq_false, not_false_eq_true, ↓bd_of g1]
      exact Ok.ret ⟨rfl, hk⟩
    · simp (disch := omega) only [↓lt_eq, ↓reduceIte, ↓un1, ↓un2, ↓un3, ↓un4, ↓bd_some, ↓bind_some', ↓sel_l, ↓sel_r, C1T, C1F, C2T, C2F, C3T, C3F, D1T, D1F, D2T, D2F, D3T, D3F, E1T, E1F, E2T, E2F, E3T, E3F, G1T, G1F, G2T, G2F, G3F, inb_T, inb_L, isB_0, isB_1, isB_b, nI_add, L_add1, L_add2, nI_cl, L_cl, bI_T, bI_F, eq_self, not_true_eq_false, not_false_eq_true, ↓bd_of g2]
      exact Ok.ret ⟨rfl, hk⟩
    · simp (disch := omega) only [↓lt_eq, ↓reduceIte, ↓un1, ↓un2, ↓un3, ↓un4, ↓bd_some, ↓bind_some', ↓sel_l, ↓sel_r, C1T, C1F, C2T, C2F, C3T, C3F, D1T, D1F, D2T, D2F, D3T, D3F, E1T, E1F, E2T, E2F, E3T, E3F, G1T, G1F, G2T, G2F, G3F, inb_T, inb_L, isB_0, isB_1, isB_b, nI_add, L_add1, L_add2, nI_cl, L_cl, bI_T, bI_F, eq_self, not_true_eq_false, not_false_eq_true, g3]
      exact Ok.ret ⟨rfl, hk⟩
theorem step_lost (x1 : Int32) : Step Inv (f_X11_lost x1) (f_X12_lost x1) := by
  intro σ hI
  obtain ⟨hR, hP, hF, hT, h, o, n, ac, im, hn, ha, hi⟩ := id hI
  have hL4 := hn.L4
  rcases idx x1 (hL h) hL4 with q | ⟨l, hl, rfl⟩
  · refine step_same (-1000001) hI ?_ ?_
    · unfold f_X11_lost
      simp (disch := omega) only [↓lt_eq, ↓reduceIte, ↓un1, ↓un2, ↓un3, ↓un4, ↓bd_some, ↓bind_some', ↓sel_l, ↓sel_r, C1T, C1F, C2T, C2F, C3T, C3F, D1T, D1F, D2T, D2F, D3T, D3F, E1T, E1F, E2T, E2F, E3T, E3F, G1T, G1F, G2T, G2F, G3F, inb_T, inb_L, isB_0, isB_1, isB_b, nI_add, L_add1, L_add2, nI_cl, L_cl, bI_T, bI_F, eq_self, not_true_eq_false, not_false_eq_true, ↓bd_of (X_noLine_out hn.x1 q)]
    · unfold f_X12_lost
      simp (disch := omega) only [↓lt_eq, ↓reduceIte, ↓un1, ↓un2, ↓un3, ↓un4, ↓bd_some, ↓bind_some', ↓sel_l, ↓sel_r, C1T, C1F, C2T, C2F, C3T, C3F, D1T, D1F, D2T, D2F, D3T, D3F, E1T, E1F, E2T, E2F, E3T, E3F, G1T, G1F, G2T, G2F, G3F, inb_T, inb_L, isB_0, isB_1, isB_b, nI_add, L_add1, L_add2, nI_cl, L_cl, bI_T, bI_F, eq_self, not_true_eq_false, not_false_eq_true, ↓bd_of (M_isLine_out hn.m0 q hL4)]
  have hmm := hn.2.2.1
  have hw' : ∀ d, d ≤ 61 → WF (minN h d) := fun d q => minN_WF hn.1 d (by omega)
  refine step_keep (ansF (fun d => !live (minN h d) l) nI (-1000000) 0 61) hI ?_ (fun s hk => ?_)
  · unfold f_X11_lost
    simp (disch := omega) only [↓lt_eq, ↓reduceIte, ↓un1, ↓un2, ↓un3, ↓un4, ↓bd_some, ↓bind_some', ↓sel_l, ↓sel_r, C1T, C1F, C2T, C2F, C3T, C3F, D1T, D1F, D2T, D2F, D3T, D3F, E1T, E1F, E2T, E2F, E3T, E3F, G1T, G1F, G2T, G2F, G3F, inb_T, inb_L, isB_0, isB_1, isB_b, nI_add, L_add1, L_add2, nI_cl, L_cl, bI_T, bI_F, eq_self, not_true_eq_false, not_false_eq_true, ↓bd_of (X_noLine_in hn.x1 hl hL4)]
    refine Ok.bind (Ok.mono (X_try hn.2.1 hn.1) (fun t q => ?_))
    try simp (disch := omega) only [↓lt_eq, ↓reduceIte, ↓un1, ↓un2, ↓un3, ↓un4, ↓bd_some, ↓bind_some', ↓sel_l, ↓sel_r, C1T, C1F, C2T, C2F, C3T, C3F, D1T, D1F, D2T, D2F, D3T, D3F, E1T, E1F, E2T, E2F, E3T, E3F, G1T, G1F, G2T, G2F, G3F, inb_T, inb_L, isB_0, isB_1, isB_b, nI_add, L_add1, L_add2, nI_cl, L_cl, bI_T, bI_F, eq_self, not_true_eq_false, not_false_eq_true]
    refine Ok.bind (loop_find (fun i (x : Int32 × St) => x.1 = nI i ∧ HX 27 x.2 (minN h i) ∧ Fr (blk 27) σ x.2) (fun d => !live (minN h d) l) 0 61 _ 5000 _ (by omega) ⟨nI_0.symm, q.1, q.2⟩ ?_ ?_)
    · rintro i ⟨v, s⟩ _ hi ⟨q1, q2, q3⟩
      simp only at q1 q2 q3
      subst q1
      have e1 := X_isLive q2 (hw' i (by omega)) (l := l) (by rw [minN_L]; exact hl)
      refine ⟨fun hp => ?_, fun hp hb => ?_⟩
      · obtain ⟨t, e, k1, k2⟩ := X_passMinute q2 (hw' i (by omega))
        have hv : live (minN h i) l = true := by simpa using hp
        rw [hv] at e1
        refine ⟨(nI (i + 1), t), ?_, rfl, k1, q3.tr k2⟩
        unfold f_X11_lost_L24
        simp (disch := omega) only [↓lt_eq, ↓reduceIte, ↓un1, ↓un2, ↓un3, ↓un4, ↓bd_some, ↓bind_some', ↓sel_l, ↓sel_r, C1T, C1F, C2T, C2F, C3T, C3F, D1T, D1F, D2T, D2F, D3T, D3F, E1T, E1F, E2T, E2F, E3T, E3F, G1T, G1F, G2T, G2F, G3F, inb_T, inb_L, isB_0, isB_1, isB_b, nI_add, L_add1, L_add2, nI_cl, L_cl, bI_T, bI_F, eq_self, not_true_eq_false, not_false_eq_true, ↓bd_of e1, ↓bind_of e]
      · have hv : live (minN h i) l = false := by simpa using hp
        rw [hv] at e1
        refine ⟨.inr (nI i, s), ?_, ?_⟩
        · unfold f_X11_lost_L24
          simp (disch := omega) only [↓lt_eq, ↓reduceIte, ↓un1, ↓un2, ↓un3, ↓un4, ↓bd_some, ↓bind_some', ↓sel_l, ↓sel_r, C1T, C1F, C2T, C2F, C3T, C3F, D1T, D1F, D2T, D2F, D3T, D3F, E1T, E1F, E2T, E2F, E3T, E3F, G1T, G1F, G2T, G2F, G3F, inb_T, inb_L, isB_0, isB_1, isB_b, nI_add, L_add1, L_add2, nI_cl, L_cl, bI_T, bI_F, eq_self, not_true_eq_false, not_false_eq_true, ↓bd_of e1]
        · simp (disch := omega) only [↓lt_eq, ↓reduceIte, ↓un1, ↓un2, ↓un3, ↓un4, ↓bd_some, ↓bind_some', ↓sel_l, ↓sel_r, C1T, C1F, C2T, C2F, C3T, C3F, D1T, D1F, D2T, D2F, D3T, D3F, E1T, E1F, E2T, E2F, E3T, E3F, G1T, G1F, G2T, G2F, G3F, inb_T, inb_L, isB_0, isB_1, isB_b, nI_add, L_add1, L_add2, nI_cl, L_cl, bI_T, bI_F, eq_self, not_true_eq_false, not_false_eq_true]
          exact Ok.ret ⟨(ansF_hit (p := fun d => !live (minN h d) l) (g := nI) (d := i) hp 61 0 (by omega) (by omega) hb).symm, Keep.fr27 q3⟩
    · rintro ⟨v, s⟩ ⟨q1, q2, q3⟩ hb
      simp only at q1 q2 q3
      subst q1
      refine ⟨.inl s, ?_, ?_⟩
      · unfold f_X11_lost_L24
        simp (disch := omega) only [↓lt_eq, ↓reduceIte, ↓un1, ↓un2, ↓un3, ↓un4, ↓bd_some, ↓bind_some', ↓sel_l, ↓sel_r, C1T, C1F, C2T, C2F, C3T, C3F, D1T, D1F, D2T, D2F, D3T, D3F, E1T, E1F, E2T, E2F, E3T, E3F, G1T, G1F, G2T, G2F, G3F, inb_T, inb_L, isB_0, isB_1, isB_b, nI_add, L_add1, L_add2, nI_cl, L_cl, bI_T, bI_F, eq_self, not_true_eq_false, not_false_eq_true]
      · simp (disch := omega) only [↓lt_eq, ↓reduceIte, ↓un1, ↓un2, ↓un3, ↓un4, ↓bd_some, ↓bind_some', ↓sel_l, ↓sel_r, C1T, C1F, C2T, C2F, C3T, C3F, D1T, D1F, D2T, D2F, D3T, D3F, E1T, E1F, E2T, E2F, E3T, E3F, G1T, G1F, G2T, G2F, G3F, inb_T, inb_L, isB_0, isB_1, isB_b, nI_add, L_add1, L_add2, nI_cl, L_cl, bI_T, bI_F, eq_self, not_true_eq_false, not_false_eq_true]
        exact Ok.ret ⟨(ansF_none 61 0 hb).symm, Keep.fr27 q3⟩
  · have hn := hn.keep hk
    unfold f_X12_lost
    simp (disch := omega) only [↓lt_eq, ↓reduceIte, ↓un1, ↓un2, ↓un3, ↓un4, ↓bd_some, ↓bind_some', ↓sel_l, ↓sel_r, C1T, C1F, C2T, C2F, C3T, C3F, D1T, D1F, D2T, D2F, D3T, D3F, E1T, E1F, E2T, E2F, E3T, E3F, G1T, G1F, G2T, G2F, G3F, inb_T, inb_L, isB_0, isB_1, isB_b, nI_add, L_add1, L_add2, nI_cl, L_cl, bI_T, bI_F, eq_self, not_true_eq_false, not_false_eq_true, ↓bd_of (M_isLine_in hn.m0 hl hL4)]
    refine Ok.bind (Ok.mono (M_try (hn.2.2.2.1 (by omega)).2 hn.1) (fun t q => ?_))
    try simp (disch := omega) only [↓lt_eq, ↓reduceIte, ↓un1, ↓un2, ↓un3, ↓un4, ↓bd_some, ↓bind_some', ↓sel_l, ↓sel_r, C1T, C1F, C2T, C2F, C3T, C3F, D1T, D1F, D2T, D2F, D3T, D3F, E1T, E1F, E2T, E2F, E3T, E3F, G1T, G1F, G2T, G2F, G3F, inb_T, inb_L, isB_0, isB_1, isB_b, nI_add, L_add1, L_add2, nI_cl, L_cl, bI_T, bI_F, eq_self, not_true_eq_false, not_false_eq_true]
    refine Ok.bind (loop_find (fun i (x : Int32 × St) => x.1 = nI i ∧ HM 729 0 x.2 (minN h i) ∧ FrM 729 s x.2) (fun d => !live (minN h d) l) 0 61 _ 5000 _ (by omega) ⟨nI_0.symm, q.1, q.2⟩ ?_ ?_)
    · rintro i ⟨v, s⟩ _ hi ⟨q1, q2, q3⟩
      simp only at q1 q2 q3
      subst q1
      have e1 : f_X12_isLive (729 : Int32) (nI l) s = _ := M_isLive (b := 729) q2 (hw' i (by omega)) (by omega) (l := l) (by rw [minN_L]; exact hl)
      refine ⟨fun hp => ?_, fun hp hb => ?_⟩
      · obtain ⟨t, e, k1, k2⟩ := M_goesOn1 q2 (hw' i (by omega)) (by rw [minN_m]; omega)
        have hv : live (minN h i) l = true := by simpa using hp
        rw [hv] at e1
        refine ⟨(nI (i + 1), t), ?_, rfl, k1, q3.tr k2⟩
        unfold f_X12_lost_L21
        simp (disch := omega) only [↓lt_eq, ↓reduceIte, ↓un1, ↓un2, ↓un3, ↓un4, ↓bd_some, ↓bind_some', ↓sel_l, ↓sel_r, C1T, C1F, C2T, C2F, C3T, C3F, D1T, D1F, D2T, D2F, D3T, D3F, E1T, E1F, E2T, E2F, E3T, E3F, G1T, G1F, G2T, G2F, G3F, inb_T, inb_L, isB_0, isB_1, isB_b, nI_add, L_add1, L_add2, nI_cl, L_cl, bI_T, bI_F, eq_self, not_true_eq_false, not_false_eq_true, ↓bd_of e1, ↓bind_of e]
      · have hv : live (minN h i) l = false := by simpa using hp
        rw [hv] at e1
        refine ⟨.inr (nI i, s), ?_, ?_⟩
        · unfold f_X12_lost_L21
          simp (disch := omega) only [↓lt_eq, ↓reduceIte, ↓un1, ↓un2, ↓un3, ↓un4, ↓bd_some, ↓bind_some', ↓sel_l, ↓sel_r, C1T, C1F, C2T, C2F, C3T, C3F, D1T, D1F, D2T, D2F, D3T, D3F, E1T, E1F, E2T, E2F, E3T, E3F, G1T, G1F, G2T, G2F, G3F, inb_T, inb_L, isB_0, isB_1, isB_b, nI_add, L_add1, L_add2, nI_cl, L_cl, bI_T, bI_F, eq_self, not_true_eq_false, not_false_eq_true, ↓bd_of e1]
        · simp (disch := omega) only [↓lt_eq, ↓reduceIte, ↓un1, ↓un2, ↓un3, ↓un4, ↓bd_some, ↓bind_some', ↓sel_l, ↓sel_r, C1T, C1F, C2T, C2F, C3T, C3F, D1T, D1F, D2T, D2F, D3T, D3F, E1T, E1F, E2T, E2F, E3T, E3F, G1T, G1F, G2T, G2F, G3F, inb_T, inb_L, isB_0, isB_1, isB_b, nI_add, L_add1, L_add2, nI_cl, L_cl, bI_T, bI_F, eq_self, not_true_eq_false, not_false_eq_true]
          exact Ok.ret ⟨(ansF_hit (p := fun d => !live (minN h d) l) (g := nI) (d := i) hp 61 0 (by omega) (by omega) hb).symm, Keep.frM q3⟩
    · rintro ⟨v, s⟩ ⟨q1, q2, q3⟩ hb
      simp only at q1 q2 q3
      subst q1
      refine ⟨.inl s, ?_, ?_⟩
      · unfold f_X12_lost_L21
        simp (disch := omega) only [↓lt_eq, ↓reduceIte, ↓un1, ↓un2, ↓un3, ↓un4, ↓bd_some, ↓bind_some', ↓sel_l, ↓sel_r, C1T, C1F, C2T, C2F, C3T, C3F, D1T, D1F, D2T, D2F, D3T, D3F, E1T, E1F, E2T, E2F, E3T, E3F, G1T, G1F, G2T, G2F, G3F, inb_T, inb_L, isB_0, isB_1, isB_b, nI_add, L_add1, L_add2, nI_cl, L_cl, bI_T, bI_F, eq_self, not_true_eq_false, not_false_eq_true]
      · simp (disch := omega) only [↓lt_eq, ↓reduceIte, ↓un1, ↓un2, ↓un3, ↓un4, ↓bd_some, ↓bind_some', ↓sel_l, ↓sel_r, C1T, C1F, C2T, C2F, C3T, C3F, D1T, D1F, D2T, D2F, D3T, D3F, E1T, E1F, E2T, E2F, E3T, E3F, G1T, G1F, G2T, G2F, G3F, inb_T, inb_L, isB_0, isB_1, isB_b, nI_add, L_add1, L_add2, nI_cl, L_cl, bI_T, bI_F, eq_self, not_true_eq_false, not_false_eq_true]
        exact Ok.ret ⟨(ansF_none 61 0 hb).symm, Keep.frM q3⟩
theorem or0 {p : Nat → Bool} {n : Nat} (hn : n ≤ 6) : (orT p n = 0) = (maskT p n = 0) := by
  rw [orT_mask p n hn]
  have h1 := maskT_lt p n
  have h2 : 2 ^ n ≤ 2 ^ 6 := Nat.pow_le_pow_right (by decide) hn
  exact propext (nI_z (by omega))
theorem step_dark : Step Inv f_X11_dark f_X12_dark := by
  intro σ hI
  obtain ⟨hR, hP, hF, hT, h, o, n, ac, im, hn, ha, hi⟩ := id hI
  have hL4 := hn.L4
  rcases Nat.eq_zero_or_pos (hL h) with hz | hp
  · have e1 := hn.x1
    have e2 := hn.m0
    rw [hz] at e1 e2
    refine step_same (-1000002) hI ?_ ?_
    · unfold f_X11_dark
      simp (disch := omega) only [↓lt_eq, ↓reduceIte, ↓un1, ↓un2, ↓un3, ↓un4, ↓bd_some, ↓bind_some', ↓sel_l, ↓sel_r, C1T, C1F, C2T, C2F, C3T, C3F, D1T, D1F, D2T, D2F, D3T, D3F, E1T, E1F, E2T, E2F, E3T, E3F, G1T, G1F, G2T, G2F, G3F, inb_T, inb_L, isB_0, isB_1, isB_b, nI_add, L_add1, L_add2, nI_cl, L_cl, bI_T, bI_F, eq_self, not_true_eq_false, not_false_eq_true, ↓bd_of (X_noHouse_1 e1)]
    · unfold f_X12_dark
      simp (disch := omega) only [↓lt_eq, ↓reduceIte, ↓un1, ↓un2, ↓un3, ↓un4, ↓bd_some, ↓bind_some', ↓sel_l, ↓sel_r, C1T, C1F, C2T, C2F, C3T, C3F, D1T, D1F, D2T, D2F, D3T, D3F, E1T, E1F, E2T, E2F, E3T, E3F, G1T, G1F, G2T, G2F, G3F, inb_T, inb_L, isB_0, isB_1, isB_b, nI_add, L_add1, L_add2, nI_cl, L_cl, bI_T, bI_F, eq_self, not_true_eq_false, not_false_eq_true, ↓bd_of (M_isHouse_0 e2)]
  have hmm := hn.2.2.1
  have hN6 := hn.1.2.1
  have hw' : ∀ d, d ≤ 61 → WF (minN h d) := fun d q => minN_WF hn.1 d (by omega)
  refine step_keep (ansF (fun d => decide (orT (runsH (minN h d)) (hN h) = 0)) nI (-1000000) 0 61) hI ?_ (fun s hk => ?_)
  · unfold f_X11_dark
    simp (disch := omega) only [↓lt_eq, ↓reduceIte, ↓un1, ↓un2, ↓un3, ↓un4, ↓bd_some, ↓bind_some', ↓sel_l, ↓sel_r, C1T, C1F, C2T, C2F, C3T, C3F, D1T, D1F, D2T, D2F, D3T, D3F, E1T, E1F, E2T, E2F, E3T, E3F, G1T, G1F, G2T, G2F, G3F, inb_T, inb_L, isB_0, isB_1, isB_b, nI_add, L_add1, L_add2, nI_cl, L_cl, bI_T, bI_F, eq_self, not_true_eq_false, not_false_eq_true, ↓bd_of (X_noHouse_0 hn.x1 hp hL4)]
    refine Ok.bind (Ok.mono (X_try hn.2.1 hn.1) (fun t q => ?_))
    try simp (disch := omega) only [↓lt_eq, ↓reduceIte, ↓un1, ↓un2, ↓un3, ↓un4, ↓bd_some, ↓bind_some', ↓sel_l, ↓sel_r, C1T, C1F, C2T, C2F, C3T, C3F, D1T, D1F, D2T, D2F, D3T, D3F, E1T, E1F, E2T, E2F, E3T, E3F, G1T, G1F, G2T, G2F, G3F, inb_T, inb_L, isB_0, isB_1, isB_b, nI_add, L_add1, L_add2, nI_cl, L_cl, bI_T, bI_F, eq_self, not_true_eq_false, not_false_eq_true]
    refine Ok.bind (loop_find (fun i (x : Int32 × St) => x.1 = nI i ∧ HX 27 x.2 (minN h i) ∧ Fr (blk 27) σ x.2) (fun d => decide (orT (runsH (minN h d)) (hN h) = 0)) 0 61 _ 5000 _ (by omega) ⟨nI_0.symm, q.1, q.2⟩ ?_ ?_)
    · rintro i ⟨v, s⟩ _ hi ⟨q1, q2, q3⟩
      simp only at q1 q2 q3
      subst q1
      have e1 := X_runningThings q2 (hw' i (by omega))
      rw [minN_N] at e1
      refine ⟨fun hp => ?_, fun hp hb => ?_⟩
      · obtain ⟨t, e, k1, k2⟩ := X_passMinute q2 (hw' i (by omega))
        have hv : (orT (runsH (minN h i)) (hN h) = 0) = False := by simpa using hp
        refine ⟨(nI (i + 1), t), ?_, rfl, k1, q3.tr k2⟩
        unfold f_X11_dark_L23
        simp (disch := omega) only [↓lt_eq, ↓reduceIte, ↓un1, ↓un2, ↓un3, ↓un4, ↓bd_some, ↓bind_some', ↓sel_l, ↓sel_r, C1T, C1F, C2T, C2F, C3T, C3F, D1T, D1F, D2T, D2F, D3T, D3F, E1T, E1F, E2T, E2F, E3T, E3F, G1T, G1F, G2T, G2F, G3F, inb_T, inb_L, isB_0, isB_1, isB_b, nI_add, L_add1, L_add2, nI_cl, L_cl, bI_T, bI_F, eq_self, not_true_eq_false, not_false_eq_true, ↓bd_of e1, ↓bind_of e, hv]
      · have hv : (orT (runsH (minN h i)) (hN h) = 0) = True := by simpa using hp
        refine ⟨.inr (nI i, s), ?_, ?_⟩
        · unfold f_X11_dark_L23
          simp (disch := omega) only [↓lt_eq, ↓reduceIte, ↓un1, ↓un2, ↓un3, ↓un4, ↓bd_some, ↓bind_some', ↓sel_l, ↓sel_r, C1T, C1F, C2T, C2F, C3T, C3F, D1T, D1F, D2T, D2F, D3T, D3F, E1T, E1F, E2T, E2F, E3T, E3F, G1T, G1F, G2T, G2F, G3F, inb_T, inb_L, isB_0, isB_1, isB_b, nI_add, L_add1, L_add2, nI_cl, L_cl, bI_T, bI_F, eq_self, not_true_eq_false, not_false_eq_true, ↓bd_of e1, hv]
        · simp (disch := omega) only [↓lt_eq, ↓reduceIte, ↓un1, ↓un2, ↓un3, ↓un4, ↓bd_some, ↓bind_some', ↓sel_l, ↓sel_r, C1T, C1F, C2T, C2F, C3T, C3F, D1T, D1F, D2T, D2F, D3T, D3F, E1T, E1F, E2T, E2F, E3T, E3F, G1T, G1F, G2T, G2F, G3F, inb_T, inb_L, isB_0, isB_1, isB_b, nI_add, L_add1, L_add2, nI_cl, L_cl, bI_T, bI_F, eq_self, not_true_eq_false, not_false_eq_true]
          exact Ok.ret ⟨(ansF_hit (p := fun d => decide (orT (runsH (minN h d)) (hN h) = 0)) (g := nI) (d := i) hp 61 0 (by omega) (by omega) hb).symm, Keep.fr27 q3⟩
    · rintro ⟨v, s⟩ ⟨q1, q2, q3⟩ hb
      simp only at q1 q2 q3
      subst q1
      refine ⟨.inl s, ?_, ?_⟩
      · unfold f_X11_dark_L23
        simp (disch := omega) only [↓lt_eq, ↓reduceIte, ↓un1, ↓un2, ↓un3, ↓un4, ↓bd_some, ↓bind_some', ↓sel_l, ↓sel_r, C1T, C1F, C2T, C2F, C3T, C3F, D1T, D1F, D2T, D2F, D3T, D3F, E1T, E1F, E2T, E2F, E3T, E3F, G1T, G1F, G2T, G2F, G3F, inb_T, inb_L, isB_0, isB_1, isB_b, nI_add, L_add1, L_add2, nI_cl, L_cl, bI_T, bI_F, eq_self, not_true_eq_false, not_false_eq_true]
      · simp (disch := omega) only [↓lt_eq, ↓reduceIte, ↓un1, ↓un2, ↓un3, ↓un4, ↓bd_some, ↓bind_some', ↓sel_l, ↓sel_r, C1T, C1F, C2T, C2F, C3T, C3F, D1T, D1F, D2T, D2F, D3T, D3F, E1T, E1F, E2T, E2F, E3T, E3F, G1T, G1F, G2T, G2F, G3F, inb_T, inb_L, isB_0, isB_1, isB_b, nI_add, L_add1, L_add2, nI_cl, L_cl, bI_T, bI_F, eq_self, not_true_eq_false, not_false_eq_true]
        exact Ok.ret ⟨(ansF_none 61 0 hb).symm, Keep.fr27 q3⟩
  · have hn := hn.keep hk
    unfold f_X12_dark
    simp (disch := omega) only [↓lt_eq, ↓reduceIte, ↓un1, ↓un2, ↓un3, ↓un4, ↓bd_some, ↓bind_some', ↓sel_l, ↓sel_r, C1T, C1F, C2T, C2F, C3T, C3F, D1T, D1F, D2T, D2F, D3T, D3F, E1T, E1F, E2T, E2F, E3T, E3F, G1T, G1F, G2T, G2F, G3F, inb_T, inb_L, isB_0, isB_1, isB_b, nI_add, L_add1, L_add2, nI_cl, L_cl, bI_T, bI_F, eq_self, not_true_eq_false, not_false_eq_true, ↓bd_of (M_isHouse_1 hn.m0 hp hL4)]
    refine Ok.bind (Ok.mono (M_try (hn.2.2.2.1 (by omega)).2 hn.1) (fun t q => ?_))
    try simp (disch := omega) only [↓lt_eq, ↓reduceIte, ↓un1, ↓un2, ↓un3, ↓un4, ↓bd_some, ↓bind_some', ↓sel_l, ↓sel_r, C1T, C1F, C2T, C2F, C3T, C3F, D1T, D1F, D2T, D2F, D3T, D3F, E1T, E1F, E2T, E2F, E3T, E3F, G1T, G1F, G2T, G2F, G3F, inb_T, inb_L, isB_0, isB_1, isB_b, nI_add, L_add1, L_add2, nI_cl, L_cl, bI_T, bI_F, eq_self, not_true_eq_false, not_false_eq_true]
    refine Ok.bind (loop_find (fun i (x : Int32 × St) => x.1 = nI i ∧ HM 729 0 x.2 (minN h i) ∧ FrM 729 s x.2) (fun d => decide (orT (runsH (minN h d)) (hN h) = 0)) 0 61 _ 5000 _ (by omega) ⟨nI_0.symm, q.1, q.2⟩ ?_ ?_)
    · rintro i ⟨v, s⟩ _ hi ⟨q1, q2, q3⟩
      simp only at q1 q2 q3
      subst q1
      have e1 : f_X12_running (729 : Int32) s = _ := M_running (b := 729) q2 (hw' i (by omega)) (by omega)
      rw [minN_N] at e1
      refine ⟨fun hp => ?_, fun hp hb => ?_⟩
      · obtain ⟨t, e, k1, k2⟩ := M_goesOn1 q2 (hw' i (by omega)) (by rw [minN_m]; omega)
        have hv : (orT (runsH (minN h i)) (hN h) = 0) = False := by simpa using hp
        refine ⟨(nI (i + 1), t), ?_, rfl, k1, q3.tr k2⟩
        unfold f_X12_dark_L20
        simp (disch := omega) only [↓lt_eq, ↓reduceIte, ↓un1, ↓un2, ↓un3, ↓un4, ↓bd_some, ↓bind_some', ↓sel_l, ↓sel_r, C1T, C1F, C2T, C2F, C3T, C3F, D1T, D1F, D2T, D2F, D3T, D3F, E1T, E1F, E2T, E2F, E3T, E3F, G1T, G1F, G2T, G2F, G3F, inb_T, inb_L, isB_0, isB_1, isB_b, nI_add, L_add1, L_add2, nI_cl, L_cl, bI_T, bI_F, eq_self, not_true_eq_false, not_false_eq_true, ↓bd_of e1, ↓bind_of e, hv]
      · have hv : (orT (runsH (minN h i)) (hN h) = 0) = True := by simpa using hp
        refine ⟨.inr (nI i, s), ?_, ?_⟩
        · unfold f_X12_dark_L20
          simp (disch := omega) only [↓lt_eq, ↓reduceIte, ↓un1, ↓un2, ↓un3, ↓un4, ↓bd_some, ↓bind_some', ↓sel_l, ↓sel_r, C1T, C1F, C2T, C2F, C3T, C3F, D1T, D1F, D2T, D2F, D3T, D3F, E1T, E1F, E2T, E2F, E3T, E3F, G1T, G1F, G2T, G2F, G3F, inb_T, inb_L, isB_0, isB_1, isB_b, nI_add, L_add1, L_add2, nI_cl, L_cl, bI_T, bI_F, eq_self, not_true_eq_false, not_false_eq_true, ↓bd_of e1, hv]
        · simp (disch := omega) only [↓lt_eq, ↓reduceIte, ↓un1, ↓un2, ↓un3, ↓un4, ↓bd_some, ↓bind_some', ↓sel_l, ↓sel_r, C1T, C1F, C2T, C2F, C3T, C3F, D1T, D1F, D2T, D2F, D3T, D3F, E1T, E1F, E2T, E2F, E3T, E3F, G1T, G1F, G2T, G2F, G3F, inb_T, inb_L, isB_0, isB_1, isB_b, nI_add, L_add1, L_add2, nI_cl, L_cl, bI_T, bI_F, eq_self, not_true_eq_false, not_false_eq_true]
          exact Ok.ret ⟨(ansF_hit (p := fun d => decide (orT (runsH (minN h d)) (hN h) = 0)) (g := nI) (d := i) hp 61 0 (by omega) (by omega) hb).symm, Keep.frM q3⟩
    · rintro ⟨v, s⟩ ⟨q1, q2, q3⟩ hb
      simp only at q1 q2 q3
      subst q1
      refine ⟨.inl s, ?_, ?_⟩
      · unfold f_X12_dark_L20
        simp (disch := omega) only [↓lt_eq, ↓reduceIte, ↓un1, ↓un2, ↓un3, ↓un4, ↓bd_some, ↓bind_some', ↓sel_l, ↓sel_r, C1T, C1F, C2T, C2F, C3T, C3F, D1T, D1F, D2T, D2F, D3T, D3F, E1T, E1F, E2T, E2F, E3T, E3F, G1T, G1F, G2T, G2F, G3F, inb_T, inb_L, isB_0, isB_1, isB_b, nI_add, L_add1, L_add2, nI_cl, L_cl, bI_T, bI_F, eq_self, not_true_eq_false, not_false_eq_true]
      · simp (disch := omega) only [↓lt_eq, ↓reduceIte, ↓un1, ↓un2, ↓un3, ↓un4, ↓bd_some, ↓bind_some', ↓sel_l, ↓sel_r, C1T, C1F, C2T, C2F, C3T, C3F, D1T, D1F, D2T, D2F, D3T, D3F, E1T, E1F, E2T, E2F, E3T, E3F, G1T, G1F, G2T, G2F, G3F, inb_T, inb_L, isB_0, isB_1, isB_b, nI_add, L_add1, L_add2, nI_cl, L_cl, bI_T, bI_F, eq_self, not_true_eq_false, not_false_eq_true]
        exact Ok.ret ⟨(ansF_none 61 0 hb).symm, Keep.frM q3⟩
