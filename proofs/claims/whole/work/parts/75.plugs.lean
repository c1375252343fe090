/-! all ways of plugging; plugs -/
theorem Wt_on {h : Hs} {t k : Nat} (ht : t + (k + 1) = hN h) (hv : isOnH h t = true) : Wt h (k + 1) = hL h * Wt h k := by
  show ra h (hN h - (k + 1)) * Wt h k = _
  unfold ra
  rw [show hN h - (k + 1) = t by omega, hv]; rfl
theorem Wt_off {h : Hs} {t k : Nat} (ht : t + (k + 1) = hN h) (hv : isOnH h t = false) : Wt h (k + 1) = Wt h k := by
  show ra h (hN h - (k + 1)) * Wt h k = _
  unfold ra
  rw [show hN h - (k + 1) = t by omega, hv]
  exact Nat.one_mul _
theorem X_plugFrom {h : Hs} {n : Nat} (hw : WF h) (h0 : 0 < hL h) (hn : n ≤ 12) : ∀ (k f t b : Nat) (s : St), t + k = hN h → k < f → PlugT h n s → RS h t k b s → Best h n (b * Wt h k) s → Ok (f_X4_plugFrom f (nI t) s) (fun s' => RS h t k b s' ∧ Best h n ((b + 1) * Wt h k) s' ∧ FrP s s') := by
  have hN6 := hw.2.1
  have hL4 := hw.1
  intro k
  induction k with
  | zero =>
    intro f t b s ht hf hp hr hb
    obtain ⟨f, rfl⟩ : ∃ g, f = g + 1 := ⟨f - 1, by omega⟩
    have e1 : t = hN h := by omega
    subst e1
    have f5 := hp.2.1
    have f2 : s 27 2 = nI (hN h) := hp.1.2.1
    have eb : b * Wt h 0 = b := Nat.mul_one b
    have eb1 : (b + 1) * Wt h 0 = b + 1 := Nat.mul_one _
    rw [eb] at hb
    rw [eb1]
    show Ok (f_X4_plugFrom_B (f_X4_plugFrom f) (nI (hN h)) s) _
    unfold f_X4_plugFrom_B
    simp (disch := omega) only [↓lt_eq, ↓reduceIte, ↓un1, ↓un2, ↓un3, ↓un4, ↓bd_some, ↓bind_some', ↓sel_l, ↓sel_r, C1T, C1F, C2T, C2F, C3T, C3F, D1T, D1F, D2T, D2F, D3T, D3F, E1T, E1F, E2T, E2F, E3T, E3F, G1T, G1F, G2T, G2F, G3F, inb_T, inb_L, isB_0, isB_1, isB_b, nI_add, L_add1, L_add2, nI_cl, L_cl, bI_T, bI_F, eq_self, not_true_eq_false, not_false_eq_true, f5, f2]
    exact Ok.bind (Ok.mono (X_weigh hp hw h0 hn hr hb) (fun t q => Ok.ret q))
  | succ k ih =>
    intro f t b s ht hf hp hr hb
    obtain ⟨f, rfl⟩ : ∃ g, f = g + 1 := ⟨f - 1, by omega⟩
    have ht6 : t < 6 := by omega
    have htN : t < hN h := by omega
    have f5 := hp.2.1
    have f1 : s 27 1 = nI (hL h) := hp.1.1
    have f2 : s 27 2 = nI (hN h) := hp.1.2.1
    have e1 := X_isOn hp.1 hw ht6
    have e6 := (hp.1.2.2.2.2.2.2.2.2 t htN).1
    have e7 := (hp.1.2.2.2.2.2.2.2.2 t htN).2
    have hWp := Wt_pos h0 k
    show Ok (f_X4_plugFrom_B (f_X4_plugFrom f) (nI t) s) _
    unfold f_X4_plugFrom_B
    cases hv : isOnH h t with
    | false =>
      rw [hv] at e1
      have eW := Wt_off (k := k) ht hv
      rw [eW] at hb ⊢
      have hr1 : RS h (t + 1) k b (wr s 9 t (nI (hPg h t))) := by
        obtain ⟨r1, r2⟩ := hr
        rw [eW] at r1 r2
        refine ⟨fun q hq => ?_, fun l hl => ?_⟩
        · by_cases z : q = t
          · rw [z, wr_same]
            unfold dg
            rw [hv]; rfl
          · rw [wr_k z]; exact r1 q (by omega)
        · rw [wr_a (by omega), r2 l hl]
          have : loadG h (dg h (b * Wt h k)) l (t + 1) = loadG h (dg h (b * Wt h k)) l t + if isOnH h t && decide (dg h (b * Wt h k) t = l) then hLd h t else 0 := rfl
          rw [this, hv]; rfl
      have fp : FrP s (wr s 9 t (nI (hPg h t))) := ⟨fun b q1 q2 q3 q4 => wr_a q3, fun k _ => by rw [wr_a (by omega)]⟩
      obtain ⟨s2, e2, k1, k2, k3⟩ := ih f (t + 1) b (wr s 9 t (nI (hPg h t))) (by omega) (by omega) (fp.plug hp) hr1 ⟨by rw [wr_a (by omega)]; exact hb.1, fun z q hq => by rw [wr_a (by omega)]; exact hb.2 z q hq⟩
      refine ⟨s2, ?_, ⟨fun q hq => ?_, fun l hl => ?_⟩, k2, fp.tr k3⟩
      · simp (disch := omega) only [↓lt_eq, ↓reduceIte, ↓un1, ↓un2, ↓un3, ↓un4, ↓bd_some, ↓bind_some', ↓sel_l, ↓sel_r, C1T, C1F, C2T, C2F, C3T, C3F, D1T, D1F, D2T, D2F, D3T, D3F, E1T, E1F, E2T, E2F, E3T, E3F, G1T, G1F, G2T, G2F, G3F, inb_T, inb_L, isB_0, isB_1, isB_b, nI_add, L_add1, L_add2, nI_cl, L_cl, bI_T, bI_F, eq_self, not_true_eq_false, not_false_eq_true, f5, f2, ↓bd_of e1, e6, ↓bind_of e2]
      · rw [eW]; exact k1.1 q (by omega)
      · rw [eW, k1.2 l hl]
        have : loadG h (dg h (b * Wt h k)) l (t + 1) = loadG h (dg h (b * Wt h k)) l t + if isOnH h t && decide (dg h (b * Wt h k) t = l) then hLd h t else 0 := rfl
        rw [this, hv]; rfl
    | true =>
      rw [hv] at e1
      have eW := Wt_on (k := k) ht hv
      have em : ∀ l, (b * hL h + l) * Wt h k = b * Wt h (k + 1) + l * Wt h k := fun l => by
        rw [eW, Nat.add_mul, Nat.mul_assoc]
      have hlt : ∀ l, l < hL h → l * Wt h k < Wt h (k + 1) := fun l hl => by
        rw [eW]; exact Nat.mul_lt_mul_of_pos_right hl hWp
      have hdt : ∀ l, l < hL h → dg h ((b * hL h + l) * Wt h k) t = l := fun l hl => by
        unfold dg
        rw [hv, if_pos rfl, show hN h - (t + 1) = k by omega, Nat.mul_div_cancel _ hWp, Nat.mul_comm b, Nat.mul_add_mod, Nat.mod_eq_of_lt hl]
      have hdq : ∀ l, l < hL h → ∀ q, q < t → dg h ((b * hL h + l) * Wt h k) q = dg h (b * Wt h (k + 1)) q := fun l hl q hq => by
        rw [em]; exact dg_pre h0 ht (hlt l hl) hq
      have hlo : ∀ l, l < hL h → ∀ m, loadG h (dg h ((b * hL h + l) * Wt h k)) m (t + 1) = loadG h (dg h (b * Wt h (k + 1))) m t + if l = m then hLd h t else 0 := fun l hl m => by
        have : loadG h (dg h ((b * hL h + l) * Wt h k)) m (t + 1) = loadG h (dg h ((b * hL h + l) * Wt h k)) m t + if isOnH h t && decide (dg h ((b * hL h + l) * Wt h k) t = m) then hLd h t else 0 := rfl
        rw [this, hv, hdt l hl, loadG_congr (hdq l hl)]
        simp
      simp (disch := omega) only [↓lt_eq, ↓reduceIte, ↓un1, ↓un2, ↓un3, ↓un4, ↓bd_some, ↓bind_some', ↓sel_l, ↓sel_r, C1T, C1F, C2T, C2F, C3T, C3F, D1T, D1F, D2T, D2F, D3T, D3F, E1T, E1F, E2T, E2F, E3T, E3F, G1T, G1F, G2T, G2F, G3F, inb_T, inb_L, isB_0, isB_1, isB_b, nI_add, L_add1, L_add2, nI_cl, L_cl, bI_T, bI_F, eq_self, not_true_eq_false, not_false_eq_true, f5, f2, ↓bd_of e1]
      refine Ok.bind (loop_n (fun l (x : Int32 × St) => x.1 = nI l ∧ RS h t (k + 1) b x.2 ∧ Best h n (b * Wt h (k + 1) + l * Wt h k) x.2 ∧ FrP s x.2) _ (hL h) 5000 _ (by omega) ⟨rfl, hr, by rw [Nat.zero_mul, Nat.add_zero]; exact hb, FrP.rf⟩ ?_ ?_)
      · rintro l ⟨v, u⟩ hl ⟨q0, q1, q2, q3⟩
        simp only at q0 q1 q2 q3
        subst q0
        have hpu := q3.plug hp
        have g5 := hpu.2.1
        have g1 : u 27 1 = nI (hL h) := hpu.1.1
        have g7 : u (27 + 7) t = nI (hLd h t) := (hpu.1.2.2.2.2.2.2.2.2 t htN).2
        have g8 := q1.2 l hl
        generalize hu1 : wr (wr u 9 t (nI l)) 8 l (nI (loadG h (dg h (b * Wt h (k + 1))) l t + hLd h t)) = u1
        have fp : FrP u u1 := ⟨fun b q1 q2 q3 q4 => by rw [← hu1, wr_a q2, wr_a q3], fun k _ => by rw [← hu1, wr_a (by omega), wr_a (by omega)]⟩
        have hr1 : RS h (t + 1) k (b * hL h + l) u1 := by
          refine ⟨fun q hq => ?_, fun m hm => ?_⟩
          · rw [← hu1, wr_a (by omega)]
            by_cases z : q = t
            · rw [z, wr_same, hdt l hl]
            · rw [wr_k z, hdq l hl q (by omega)]; exact q1.1 q (by omega)
          · rw [← hu1, hlo l hl m]
            by_cases z : m = l
            · rw [z, wr_same, if_pos rfl]
            · rw [wr_k z, wr_a (by omega), q1.2 m hm, if_neg (fun y => z y.symm)]; rfl
        have hb1 : Best h n ((b * hL h + l) * Wt h k) u1 := by
          rw [em]
          refine ⟨?_, fun z q hq => ?_⟩
          · rw [← hu1, wr_a (by omega), wr_a (by omega)]; exact q2.1
          · rw [← hu1, wr_a (by omega), wr_a (by omega)]; exact q2.2 z q hq
        obtain ⟨u2, e2, k1, k2, k3⟩ := ih f (t + 1) (b * hL h + l) u1 (by omega) (by omega) (fp.plug hpu) hr1 hb1
        have hpu2 := k3.plug (fp.plug hpu)
        have g52 := hpu2.2.1
        have g72 : u2 (27 + 7) t = nI (hLd h t) := (hpu2.1.2.2.2.2.2.2.2.2 t htN).2
        have g82 : u2 8 l = nI (loadG h (dg h (b * Wt h (k + 1))) l t + hLd h t) := by
          rw [k1.2 l hl, hlo l hl l, if_pos rfl]
        refine ⟨(nI (l + 1), wr u2 8 l (nI (loadG h (dg h (b * Wt h (k + 1))) l t))), ?_, rfl, ⟨fun q hq => ?_, fun m hm => ?_⟩, ⟨?_, fun z q hq => ?_⟩, ?_⟩
        · have g51 : wr u 9 t (nI l) 6 5 = 1 := by rw [wr_a (by omega)]; exact g5
          have g81 : wr u 9 t (nI l) 8 l = nI (loadG h (dg h (b * Wt h (k + 1))) l t) := by rw [wr_a (by omega)]; exact g8
          have g71 : wr u 9 t (nI l) (27 + 7) t = nI (hLd h t) := by rw [wr_a (by omega)]; exact g7
          have esub : nI (loadG h (dg h (b * Wt h (k + 1))) l t + hLd h t) - nI (hLd h t) = nI (loadG h (dg h (b * Wt h (k + 1))) l t) := by
            rw [nI_sub (by omega), Nat.add_sub_cancel]
          unfold f_X4_plugFrom_L58
          simp (disch := omega) only [↓lt_eq, ↓reduceIte, ↓un1, ↓un2, ↓un3, ↓un4, ↓bd_some, ↓bind_some', ↓sel_l, ↓sel_r, C1T, C1F, C2T, C2F, C3T, C3F, D1T, D1F, D2T, D2F, D3T, D3F, E1T, E1F, E2T, E2F, E3T, E3F, G1T, G1F, G2T, G2F, G3F, inb_T, inb_L, isB_0, isB_1, isB_b, nI_add, L_add1, L_add2, nI_cl, L_cl, bI_T, bI_F, eq_self, not_true_eq_false, not_false_eq_true, g5, g1, g51, g81, g71, hu1, ↓bind_of e2, g52, g82, g72, esub]
        · dsimp only
          rw [wr_a (by omega), k1.1 q (by omega)]; rw [hdq l hl q hq]
        · dsimp only
          by_cases z : m = l
          · rw [z, wr_same]
          · rw [wr_k z, k1.2 m hm, hlo l hl m, if_neg (fun y => z y.symm)]; rfl
        · dsimp only
          rw [wr_a (by omega), k2.1]
          have : (b * hL h + l + 1) * Wt h k = b * Wt h (k + 1) + (l + 1) * Wt h k := em (l + 1)
          rw [this]
        · dsimp only
          have e : (b * hL h + l + 1) * Wt h k = b * Wt h (k + 1) + (l + 1) * Wt h k := em (l + 1)
          rw [wr_a (by omega), ← e]
          exact k2.2 (by rw [e]; exact z) q hq
        · exact q3.tr (fp.tr (k3.tr ⟨fun b q1 q2 q3 q4 => wr_a q2, fun k _ => by dsimp only; rw [wr_a (by omega)]⟩))
      · rintro ⟨v, u⟩ ⟨q0, q1, q2, q3⟩
        simp only at q0 q1 q2 q3
        subst q0
        have hpu := q3.plug hp
        have g5 := hpu.2.1
        have g1 : u 27 1 = nI (hL h) := hpu.1.1
        refine ⟨u, ?_, ?_⟩
        · unfold f_X4_plugFrom_L58
          simp (disch := omega) only [↓lt_eq, ↓reduceIte, ↓un1, ↓un2, ↓un3, ↓un4, ↓bd_some, ↓bind_some', ↓sel_l, ↓sel_r, C1T, C1F, C2T, C2F, C3T, C3F, D1T, D1F, D2T, D2F, D3T, D3F, E1T, E1F, E2T, E2F, E3T, E3F, G1T, G1F, G2T, G2F, G3F, inb_T, inb_L, isB_0, isB_1, isB_b, nI_add, L_add1, L_add2, nI_cl, L_cl, bI_T, bI_F, eq_self, not_true_eq_false, not_false_eq_true, g5, g1]
        · simp (disch := omega) only [↓lt_eq, ↓reduceIte, ↓un1, ↓un2, ↓un3, ↓un4, ↓bd_some, ↓bind_some', ↓sel_l, ↓sel_r, C1T, C1F, C2T, C2F, C3T, C3F, D1T, D1F, D2T, D2F, D3T, D3F, E1T, E1F, E2T, E2F, E3T, E3F, G1T, G1F, G2T, G2F, G3F, inb_T, inb_L, isB_0, isB_1, isB_b, nI_add, L_add1, L_add2, nI_cl, L_cl, bI_T, bI_F, eq_self, not_true_eq_false, not_false_eq_true]
          refine Ok.ret ⟨q1, ?_, q3⟩
          have : (b + 1) * Wt h (k + 1) = b * Wt h (k + 1) + hL h * Wt h k := by rw [Nat.succ_mul, ← eW]
          rw [this]; exact q2
theorem X_search {h : Hs} {n : Nat} {σ : St} (hx : HX 27 σ h) (hw : WF h) (h0 : 0 < hL h) (hn : n ≤ 12) : Ok (f_X4_search (nI n) σ) (fun s => Best h n (Wt h (hN h)) s ∧ ∀ b, ¬ (6 ≤ b ∧ b ≤ 10) → s b = σ b) := by
  have hL4 := hw.1
  have hN6 := hw.2.1
  unfold f_X4_search
  simp only [lt_eq]
  generalize hs0 : wr (wr (wr σ 6 5 1) 6 6 (nI n)) 6 4 (-1) = s0
  have y5 : s0 6 5 = 1 := by rw [← hs0, wr_k (by omega), wr_k (by omega), wr_same]
  have y6 : s0 6 6 = nI n := by rw [← hs0, wr_k (by omega), wr_same]
  have y4 : s0 6 4 = -1 := by rw [← hs0, wr_same]
  have yo : ∀ b, b ≠ 6 → s0 b = σ b := fun b z => by rw [← hs0, wr_a z, wr_a z, wr_a z]
  refine Ok.bind (loop_n (fun l (x : Int32 × St) => x.1 = nI l ∧ (∀ m, m < l → x.2 8 m = nI 0) ∧ (∀ m, m < l → ∀ y, y ≤ loadA h (hN h) → x.2 7 (m * 121 + y) = nI (maskT (liveB h m y) n)) ∧ ∀ b, b ≠ 7 → b ≠ 8 → x.2 b = s0 b) _ (hL h) 5000 _ (by omega) ⟨rfl, fun m q => absurd q (by omega), fun m q => absurd q (by omega), fun _ _ _ => rfl⟩ ?_ ?_)
  · rintro l ⟨v, s⟩ hl ⟨q0, q1, q2, q3⟩
    simp only at q0 q1 q2 q3
    subst q0
    have hxs : HX 27 (wr s 8 l 0) h := hx.frame (fun b q => by rw [wr_a (by omega), q3 b (by omega) (by omega), yo b (by omega)])
    have g5 : s 6 5 = 1 := by rw [q3 6 (by omega) (by omega)]; exact y5
    have g1 : s 27 1 = nI (hL h) := by rw [q3 27 (by omega) (by omega), yo 27 (by omega)]; exact hx.1
    obtain ⟨t, e, k1, k2, k3⟩ := X_foretellLine hxs hw hl hn (by rw [wr_a (by omega)]; exact g5) (by rw [wr_a (by omega), q3 6 (by omega) (by omega)]; exact y6)
    have hA := loadA_le hw (hN h) (Nat.le_refl _)
    refine ⟨(nI (l + 1), t), ?_, rfl, fun m hm => ?_, fun m hm y hy => ?_, fun b b1 b2 => ?_⟩
    · unfold f_X4_search_L17
      simp (disch := omega) only [↓lt_eq, ↓reduceIte, ↓un1, ↓un2, ↓un3, ↓un4, ↓bd_some, ↓bind_some', ↓sel_l, ↓sel_r, C1T, C1F, C2T, C2F, C3T, C3F, D1T, D1F, D2T, D2F, D3T, D3F, E1T, E1F, E2T, E2F, E3T, E3F, G1T, G1F, G2T, G2F, G3F, inb_T, inb_L, isB_0, isB_1, isB_b, nI_add, L_add1, L_add2, nI_cl, L_cl, bI_T, bI_F, eq_self, not_true_eq_false, not_false_eq_true, g5, g1, ↓bind_of e]
    · dsimp only
      rw [k3 8 (by omega)]
      by_cases z : m = l
      · rw [z, wr_same]; rfl
      · rw [wr_k z]; exact q1 m (by omega)
    · dsimp only
      by_cases z : m = l
      · rw [z]; exact k1 y hy
      · rw [k2 _ (by omega), wr_a (by omega)]; exact q2 m (by omega) y hy
    · dsimp only
      rw [k3 b b1, wr_a b2]; exact q3 b b1 b2
  · rintro ⟨v, s⟩ ⟨q0, q1, q2, q3⟩
    simp only at q0 q1 q2 q3
    subst q0
    have g5 : s 6 5 = 1 := by rw [q3 6 (by omega) (by omega)]; exact y5
    have g1 : s 27 1 = nI (hL h) := by rw [q3 27 (by omega) (by omega), yo 27 (by omega)]; exact hx.1
    have hp : PlugT h n s := ⟨hx.frame (fun b q => by rw [q3 b (by omega) (by omega), yo b (by omega)]), g5, by rw [q3 6 (by omega) (by omega)]; exact y6, q2⟩
    obtain ⟨t, e, k1, k2, k3⟩ := X_plugFrom hw h0 hn (hN h) 7 0 0 s (by omega) (by omega) hp ⟨fun q hq => absurd hq (by omega), fun l hl => q1 l hl⟩ ⟨by rw [q3 6 (by omega) (by omega), y4, Nat.zero_mul]; rfl, fun z => absurd z (by omega)⟩
    have e : f_X4_plugFrom 7 (0 : Int32) s = some t := e
    rw [Nat.zero_add, Nat.one_mul] at k2
    refine ⟨s, ?_, ?_⟩
    · unfold f_X4_search_L17
      simp (disch := omega) only [↓lt_eq, ↓reduceIte, ↓un1, ↓un2, ↓un3, ↓un4, ↓bd_some, ↓bind_some', ↓sel_l, ↓sel_r, C1T, C1F, C2T, C2F, C3T, C3F, D1T, D1F, D2T, D2F, D3T, D3F, E1T, E1F, E2T, E2F, E3T, E3F, G1T, G1F, G2T, G2F, G3F, inb_T, inb_L, isB_0, isB_1, isB_b, nI_add, L_add1, L_add2, nI_cl, L_cl, bI_T, bI_F, eq_self, not_true_eq_false, not_false_eq_true, g5, g1]
    · simp (disch := omega) only [↓lt_eq, ↓reduceIte, ↓un1, ↓un2, ↓un3, ↓un4, ↓bd_some, ↓bind_some', ↓sel_l, ↓sel_r, C1T, C1F, C2T, C2F, C3T, C3F, D1T, D1F, D2T, D2F, D3T, D3F, E1T, E1F, E2T, E2F, E3T, E3F, G1T, G1F, G2T, G2F, G3F, inb_T, inb_L, isB_0, isB_1, isB_b, nI_add, L_add1, L_add2, nI_cl, L_cl, bI_T, bI_F, eq_self, not_true_eq_false, not_false_eq_true, ↓bind_of e]
      refine Ok.ret ⟨k2, fun b hb => ?_⟩
      rw [k3.1 b (by omega) (by omega) (by omega) (by omega), q3 b (by omega) (by omega), yo b (by omega)]
/-! the reference -/
theorem M_plugged {σ : St} {h : Hs} (hm : HM 0 0 σ h) (hw : WF h) (h0 : 0 < hL h) {w t : Nat} (ht : t < hN h) (hwt : w < 2147483648) : f_X12_plugged (nI w) (nI t) σ = some (nI (dg h w t), σ) := by
  have hN6 := hw.2.1
  have hL4 := hw.1
  have hN1 : σ 261 1 = nI (hN h) := hm.2.1
  have hL1 : σ 261 0 = nI (hL h) := hm.1
  have hloop := loop_up (body := f_X12_plugged_L12 (nI t)) (r := (nI (w / Wt h (hN h - (t + 1))), σ)) (hN h - (t + 1)) 5000 (fun k => (nI (w / Wt h k), nI (hN h - 1 - k), σ)) (by omega) (fun k hk => by
    have e1 : σ 260 (18 + (hN h - 1 - k)) = bI (isOnH h (hN h - 1 - k)) := hm.g_on (by omega) (by omega)
    have e2 : nI (hN h - 1 - k) + (-1) = nI (hN h - 1 - (k + 1)) := by
      rw [show hN h - 1 - k = (hN h - 1 - (k + 1)) + 1 by omega, pk_m1]
    have e3 : Wt h (k + 1) = ra h (hN h - 1 - k) * Wt h k := by
      show ra h (hN h - (k + 1)) * Wt h k = _
      rw [show hN h - (k + 1) = hN h - 1 - k by omega]
    have hdl : w / Wt h k ≤ w := Nat.div_le_self _ _
    have e4 : w / Wt h (k + 1) = w / Wt h k / ra h (hN h - 1 - k) := by
      rw [e3, Nat.mul_comm, Nat.div_div_eq_div_mul]
    rw [e4]
    unfold f_X12_plugged_L12
    cases hv : isOnH h (hN h - 1 - k) with
    | false =>
      rw [hv] at e1
      have er : ra h (hN h - 1 - k) = 1 := by unfold ra; rw [hv]; rfl
      have ed : nI (w / Wt h k) / (1 : Int32) = nI (w / Wt h k) := by
        have := pk_div (a := w / Wt h k) (d := 1) (by omega) (by omega) (by omega)
        rw [Nat.div_one] at this; exact this
      simp (disch := omega) only [↓lt_eq, ↓reduceIte, ↓un1, ↓un2, ↓un3, ↓un4, ↓bd_some, ↓bind_some', ↓sel_l, ↓sel_r, C1T, C1F, C2T, C2F, C3T, C3F, D1T, D1F, D2T, D2F, D3T, D3F, E1T, E1F, E2T, E2F, E3T, E3F, G1T, G1F, G2T, G2F, G3F, inb_T, inb_L, isB_0, isB_1, isB_b, nI_add, L_add1, L_add2, nI_cl, L_cl, bI_T, bI_F, eq_self, not_true_eq_false, not_false_eq_true, e1, e2, er, ed, Nat.div_one]
    | true =>
      rw [hv] at e1
      have er : ra h (hN h - 1 - k) = hL h := by unfold ra; rw [hv]; rfl
      have ed : nI (w / Wt h k) / nI (hL h) = nI (w / Wt h k / hL h) := pk_div (by omega) h0 (by omega)
      simp (disch := omega) only [↓lt_eq, ↓reduceIte, ↓un1, ↓un2, ↓un3, ↓un4, ↓bd_some, ↓bind_some', ↓sel_l, ↓sel_r, C1T, C1F, C2T, C2F, C3T, C3F, D1T, D1F, D2T, D2F, D3T, D3F, E1T, E1F, E2T, E2F, E3T, E3F, G1T, G1F, G2T, G2F, G3F, inb_T, inb_L, isB_0, isB_1, isB_b, nI_add, L_add1, L_add2, nI_cl, L_cl, bI_T, bI_F, eq_self, not_true_eq_false, not_false_eq_true, e1, e2, er, hL1, ed]) (by
    unfold f_X12_plugged_L12
    simp (disch := omega) only [↓lt_eq, ↓reduceIte, ↓un1, ↓un2, ↓un3, ↓un4, ↓bd_some, ↓bind_some', ↓sel_l, ↓sel_r, C1T, C1F, C2T, C2F, C3T, C3F, D1T, D1F, D2T, D2F, D3T, D3F, E1T, E1F, E2T, E2F, E3T, E3F, G1T, G1F, G2T, G2F, G3F, inb_T, inb_L, isB_0, isB_1, isB_b, nI_add, L_add1, L_add2, nI_cl, L_cl, bI_T, bI_F, eq_self, not_true_eq_false, not_false_eq_true])
  have hdl : w / Wt h (hN h - (t + 1)) ≤ w := Nat.div_le_self _ _
  have e0 : ((nI w, nI (hN h - 1), σ) : Int32 × Int32 × St) = (nI (w / Wt h 0), nI (hN h - 1 - 0), σ) := by
    rw [show Wt h 0 = 1 from rfl, Nat.div_one]; rfl
  have hloop : loopF (f_X12_plugged_L12 (nI t)) 5000 (nI w, nI (hN h - 1), σ) = some (nI (w / Wt h (hN h - (t + 1))), σ) := by rw [e0]; exact hloop
  have e1 : σ 260 (18 + t) = bI (isOnH h t) := hm.g_on ht (by omega)
  have e2 : σ 260 (12 + t) = nI (hPg h t) := hm.g_pg ht (by omega)
  unfold f_X12_plugged dg
  cases hv : isOnH h t with
  | false =>
    rw [hv] at e1
    simp (disch := omega) only [↓lt_eq, ↓reduceIte, ↓un1, ↓un2, ↓un3, ↓un4, ↓bd_some, ↓bind_some', ↓sel_l, ↓sel_r, C1T, C1F, C2T, C2F, C3T, C3F, D1T, D1F, D2T, D2F, D3T, D3F, E1T, E1F, E2T, E2F, E3T, E3F, G1T, G1F, G2T, G2F, G3F, inb_T, inb_L, isB_0, isB_1, isB_b, nI_add, L_add1, L_add2, nI_cl, L_cl, bI_T, bI_F, eq_self, not_true_eq_false, not_false_eq_true, hN1, L_sub2, ↓bind_of hloop, e1, e2, if_false, Bool.false_eq_true]
  | true =>
    rw [hv] at e1
    have er : nI (w / Wt h (hN h - (t + 1))) - nI (w / Wt h (hN h - (t + 1))) / nI (hL h) * nI (hL h) = nI (w / Wt h (hN h - (t + 1)) % hL h) := pk_rem (by omega) h0 (by omega)
    simp (disch := omega) only [↓lt_eq, ↓reduceIte, ↓un1, ↓un2, ↓un3, ↓un4, ↓bd_some, ↓bind_some', ↓sel_l, ↓sel_r, C1T, C1F, C2T, C2F, C3T, C3F, D1T, D1F, D2T, D2F, D3T, D3F, E1T, E1F, E2T, E2F, E3T, E3F, G1T, G1F, G2T, G2F, G3F, inb_T, inb_L, isB_0, isB_1, isB_b, nI_add, L_add1, L_add2, nI_cl, L_cl, bI_T, bI_F, eq_self, not_true_eq_false, not_false_eq_true, hN1, L_sub2, ↓bind_of hloop, e1, hL1, er, if_true]
theorem M_waysP (h : Hs) : ∀ k, k ≤ hN h → prodT (ra h) (hN h - k) * Wt h k = prodT (ra h) (hN h)
  | 0, _ => Nat.mul_one _
  | k + 1, hk => by
    have ih := M_waysP h k (by omega)
    have e : hN h - k = (hN h - (k + 1)) + 1 := by omega
    have e2 : prodT (ra h) (hN h - k) = prodT (ra h) (hN h - (k + 1)) * ra h (hN h - (k + 1)) := by rw [e]; rfl
    show prodT (ra h) (hN h - (k + 1)) * (ra h (hN h - (k + 1)) * Wt h k) = _
    rw [← Nat.mul_assoc, ← e2]; exact ih
theorem M_ways (h : Hs) : Wt h (hN h) = prodT (ra h) (hN h) := by
  have := M_waysP h (hN h) (Nat.le_refl _)
  rw [Nat.sub_self] at this
  rw [← this]; exact (Nat.one_mul _).symm
theorem prodT_le4 {f : Nat → Nat} : ∀ n, (∀ t, f t ≤ 4) → prodT f n ≤ 4 ^ n
  | 0, _ => Nat.le_refl 1
  | n + 1, h => by
    show prodT f n * f n ≤ 4 ^ n * 4
    exact Nat.mul_le_mul (prodT_le4 n h) (h n)
theorem ways_le {h : Hs} (hw : WF h) : Wt h (hN h) ≤ 4096 := by
  rw [M_ways]
  refine Nat.le_trans (prodT_le4 (hN h) (fun t => ?_)) (Nat.le_trans (Nat.pow_le_pow_right (by decide) hw.2.1) (by decide))
  have := hw.1
  unfold ra
  split <;> omega
theorem M_waysLoop {σ : St} {h : Hs} (hm : HM 0 0 σ h) (hw : WF h) : loopF f_X12_plugs_L50 5000 ((1 : Int32), (0 : Int32), σ) = some (nI (Wt h (hN h)), σ) := by
  have hN6 := hw.2.1
  have hN1 : σ 261 1 = nI (hN h) := hm.2.1
  have hL1 : σ 261 0 = nI (hL h) := hm.1
  rw [M_ways]
  have hloop := loop_up (body := f_X12_plugs_L50) (r := (nI (prodT (ra h) (hN h)), σ)) (hN h) 5000 (fun i => (nI (prodT (ra h) i), nI i, σ)) (by omega) (fun i hi => by
    have e1 : σ 260 (18 + i) = bI (isOnH h i) := hm.g_on hi (by omega)
    have e3 : prodT (ra h) (i + 1) = prodT (ra h) i * ra h i := rfl
    rw [e3]
    unfold f_X12_plugs_L50
    cases hv : isOnH h i with
    | false =>
      rw [hv] at e1
      have er : ra h i = 1 := by unfold ra; rw [hv]; rfl
      have em : nI (prodT (ra h) i) * 1 = nI (prodT (ra h) i) := Int32.mul_one _
      simp (disch := omega) only [↓lt_eq, ↓reduceIte, ↓un1, ↓un2, ↓un3, ↓un4, ↓bd_some, ↓bind_some', ↓sel_l, ↓sel_r, C1T, C1F, C2T, C2F, C3T, C3F, D1T, D1F, D2T, D2F, D3T, D3F, E1T, E1F, E2T, E2F, E3T, E3F, G1T, G1F, G2T, G2F, G3F, inb_T, inb_L, isB_0, isB_1, isB_b, nI_add, L_add1, L_add2, nI_cl, L_cl, bI_T, bI_F, eq_self, not_true_eq_false, not_false_eq_true, hN1, e1, er, em, Nat.mul_one]
    | true =>
      rw [hv] at e1
      have er : ra h i = hL h := by unfold ra; rw [hv]; rfl
      simp (disch := omega) only [↓lt_eq, ↓reduceIte, ↓un1, ↓un2, ↓un3, ↓un4, ↓bd_some, ↓bind_some', ↓sel_l, ↓sel_r, C1T, C1F, C2T, C2F, C3T, C3F, D1T, D1F, D2T, D2F, D3T, D3F, E1T, E1F, E2T, E2F, E3T, E3F, G1T, G1F, G2T, G2F, G3F, inb_T, inb_L, isB_0, isB_1, isB_b, nI_add, L_add1, L_add2, nI_cl, L_cl, bI_T, bI_F, eq_self, not_true_eq_false, not_false_eq_true, hN1, e1, er, hL1, nI_mul]) (by
    unfold f_X12_plugs_L50
    simp (disch := omega) only [↓lt_eq, ↓reduceIte, ↓un1, ↓un2, ↓un3, ↓un4, ↓bd_some, ↓bind_some', ↓sel_l, ↓sel_r, C1T, C1F, C2T, C2F, C3T, C3F, D1T, D1F, D2T, D2F, D3T, D3F, E1T, E1F, E2T, E2F, E3T, E3F, G1T, G1F, G2T, G2F, G3F, inb_T, inb_L, isB_0, isB_1, isB_b, nI_add, L_add1, L_add2, nI_cl, L_cl, bI_T, bI_F, eq_self, not_true_eq_false, not_false_eq_true, hN1])
  exact hloop
theorem M_plugAll {σ : St} {h : Hs} (hm : HM 0 0 σ h) (hx : HM 729 0 σ h) (hw : WF h) (h0 : 0 < hL h) {w : Nat} (hwt : w < 2147483648) : Ok (loopF (f_X12_plugs_L120 (nI w)) 5000 ((0 : Int32), σ)) (fun s => HM 729 0 s (plugH h (dg h w)) ∧ FrM 729 σ s) := by
  have hN6 := hw.2.1
  have hL4 := hw.1
  have hN1 : σ 261 1 = nI (hN h) := hm.2.1
  refine loop_n (fun i (x : Int32 × St) => x.1 = nI i ∧ (∀ b, b ≠ 260 → x.2 b = σ b) ∧ (∀ k, k < 741 ∨ 741 + i ≤ k → x.2 260 k = σ 260 k) ∧ ∀ t, t < i → x.2 260 (741 + t) = nI (dg h w t)) _ (hN h) 5000 _ (by omega) ⟨nI_0.symm, fun _ _ => rfl, fun _ _ => rfl, fun t q => absurd q (by omega)⟩ ?_ ?_
  · rintro i ⟨v, s⟩ hi ⟨q1, q2, q3, q4⟩
    simp only at q1 q2 q3 q4
    subst q1
    have hms : HM 0 0 s h := hm.copied hw (fun k hk => q3 _ (by omega)) (q2 261 (by omega))
    have hN1 : s 261 1 = nI (hN h) := hms.2.1
    have e1 := M_plugged hms hw h0 hi hwt
    refine ⟨(nI (i + 1), wr s 260 (741 + i) (nI (dg h w i))), ?_, rfl, ?_, ?_, ?_⟩
    · unfold f_X12_plugs_L120
      simp (disch := omega) only [↓lt_eq, ↓reduceIte, ↓un1, ↓un2, ↓un3, ↓un4, ↓bd_some, ↓bind_some', ↓sel_l, ↓sel_r, C1T, C1F, C2T, C2F, C3T, C3F, D1T, D1F, D2T, D2F, D3T, D3F, E1T, E1F, E2T, E2F, E3T, E3F, G1T, G1F, G2T, G2F, G3F, inb_T, inb_L, isB_0, isB_1, isB_b, nI_add, L_add1, L_add2, nI_cl, L_cl, bI_T, bI_F, eq_self, not_true_eq_false, not_false_eq_true, hN1, ↓bd_of e1]
    · intro b hb
      simp only [wr_a hb]
      exact q2 b hb
    · intro k hk
      simp only [wr_eq]
      rw [if_neg (by omega)]
      exact q3 k (by omega)
    · intro t ht
      simp only [wr_eq]
      by_cases z : t = i
      · rw [if_pos ⟨trivial, by omega⟩, z]
      · rw [if_neg (by omega)]
        exact q4 t (by omega)
  · rintro ⟨v, s⟩ ⟨q1, q2, q3, q4⟩
    simp only at q1 q2 q3 q4
    subst q1
    have hN1 : s 261 1 = nI (hN h) := by rw [q2 261 (by omega)]; exact hN1
    refine ⟨s, ?_, ?_, fun a q _ => q2 a q, fun k q => q3 k (by omega)⟩
    · unfold f_X12_plugs_L120
      simp (disch := omega) only [↓lt_eq, ↓reduceIte, ↓un1, ↓un2, ↓un3, ↓un4, ↓bd_some, ↓bind_some', ↓sel_l, ↓sel_r, C1T, C1F, C2T, C2F, C3T, C3F, D1T, D1F, D2T, D2F, D3T, D3F, E1T, E1F, E2T, E2F, E3T, E3F, G1T, G1F, G2T, G2F, G3F, inb_T, inb_L, isB_0, isB_1, isB_b, nI_add, L_add1, L_add2, nI_cl, L_cl, bI_T, bI_F, eq_self, not_true_eq_false, not_false_eq_true, hN1]
    · obtain ⟨g1, g2, g3, g4, g5, g6, gl, gt⟩ := hx
      have e1 : s 261 = σ 261 := q2 261 (by omega)
      refine ⟨by rw [e1]; exact g1, by rw [e1]; exact g2, by rw [e1]; exact g3, by rw [q3 _ (by omega)]; exact g4, by rw [q3 _ (by omega)]; exact g5, by rw [q3 _ (by omega)]; exact g6, fun l hl => ?_, fun t ht => ?_⟩
      · have hl4 : l < 4 := Nat.lt_of_lt_of_le hl hL4
        obtain ⟨p1, p2, p3, p4⟩ := gl l hl
        exact ⟨by rw [e1]; exact p1, by rw [q3 _ (by omega)]; exact p2, by rw [q3 _ (by omega)]; exact p3, by rw [q3 _ (by omega)]; exact p4⟩
      · have ht6 : t < 6 := Nat.lt_of_lt_of_le ht hN6
        obtain ⟨p1, p2, p3⟩ := gt t ht
        have ht' : t < hN h := ht
        exact ⟨q4 t ht', by rw [e1]; exact p2, by rw [q3 _ (by omega)]; exact p3⟩
theorem M_larger {a b : Int32} {σ : St} : f_X12_larger a b σ = some (if b ≤ a then a else b, σ) := by
  unfold f_X12_larger
  by_cases c : b ≤ a
  · simp (disch := omega) only [↓lt_eq, ↓reduceIte, ↓un1, ↓un2, ↓un3, ↓un4, ↓bd_some, ↓bind_some', ↓sel_l, ↓sel_r, C1T, C1F, C2T, C2F, C3T, C3F, D1T, D1F, D2T, D2F, D3T, D3F, E1T, E1F, E2T, E2F, E3T, E3F, G1T, G1F, G2T, G2F, G3F, inb_T, inb_L, isB_0, isB_1, isB_b, nI_add, L_add1, L_add2, nI_cl, L_cl, bI_T, bI_F, eq_self, not_true_eq_false, not_false_eq_true, c]
  · simp (disch := omega) only [↓lt_eq, ↓reduceIte, ↓un1, ↓un2, ↓un3, ↓un4, ↓bd_some, ↓bind_some', ↓sel_l, ↓sel_r, C1T, C1F, C2T, C2F, C3T, C3F, D1T, D1F, D2T, D2F, D3T, D3F, E1T, E1F, E2T, E2F, E3T, E3F, G1T, G1F, G2T, G2F, G3F, inb_T, inb_L, isB_0, isB_1, isB_b, nI_add, L_add1, L_add2, nI_cl, L_cl, bI_T, bI_F, eq_self, not_true_eq_false, not_false_eq_true, c]
theorem M_waysAll {σ : St} {h : Hs} (hn : INow σ h) (h0 : 0 < hL h) {n : Nat} (hn1 : n ≤ 12) : Ok (loopF (f_X12_plugs_L103 (nI n) (nI (Wt h (hN h)))) 5000 ((0 : Int32), (-1 : Int32), (0 : Int32), σ)) (fun v => v.1 = nI (FB h n (Wt h (hN h))).2 ∧ v.2.1 = mI h n (Wt h (hN h)) ∧ FrM 729 σ v.2.2) := by
  have hw := hn.1
  have hmm := hn.2.2.1
  have hN6 := hw.2.1
  have hW := ways_le hw
  refine loop_n (fun i (x : Int32 × Int32 × Int32 × St) => x.1 = nI (FB h n i).2 ∧ x.2.1 = mI h n i ∧ x.2.2.1 = nI i ∧ FrM 729 σ x.2.2.2) _ (Wt h (hN h)) 5000 _ (by omega) ⟨rfl, rfl, rfl, FrM.rf⟩ ?_ ?_
  · rintro i ⟨a, b, v, s⟩ hi ⟨q0, q1, q2, q3⟩
    simp only at q0 q1 q2 q3
    subst q0 q1 q2
    have hms := ((hn.keep (Keep.frM q3)).2.2.2.1 h0).2
    obtain ⟨s1, e1, k1, k2⟩ := M_try hms hw
    have hms1 : HM 0 0 s1 h := hms.copied hw (fun k hk => k2.2 _ (by omega)) (k2.1 261 (by omega) (by omega))
    obtain ⟨s2, e2, k3, k4⟩ := M_plugAll hms1 k1 hw h0 (w := i) (by omega)
    have hg : ∀ t, t < hN h → dg h i t < hL h := fun t ht => dg_lt hw h0 i ht
    have hwp := plug_WF hw hg
    have k5 := k3.setUsed (k := 754) hwp 0 rfl
    obtain ⟨s3, e3, k6, k7⟩ := M_goesOn k5 (hwp.setUsed 0 (by omega)) n (by omega) (by show hMin h + n ≤ 20000; omega)
    have e3 : f_X12_goesOn (nI n) (wr s2 260 754 0) = some s3 := e3
    have hA := loadA_le hw (hN h) (Nat.le_refl _)
    have hsum := loads_sum (h := h) (g := dg h i) hg
    have eU : hUsed (minN (setUsed (plugH h (dg h i)) 0) n) = UW h n i := (uses hwp hmm (by omega) n hn1).1
    have e4 : s3 260 754 = nI (UW h n i) := by rw [← eU]; exact k6.2.2.2.2.1
    have e5 : f_X12_usedBehind (nI n) s2 = some (nI (UW h n i), s3) := by
      unfold f_X12_usedBehind
      simp (disch := omega) only [↓lt_eq, ↓reduceIte, ↓un1, ↓un2, ↓un3, ↓un4, ↓bd_some, ↓bind_some', ↓sel_l, ↓sel_r, C1T, C1F, C2T, C2F, C3T, C3F, D1T, D1F, D2T, D2F, D3T, D3F, E1T, E1F, E2T, E2F, E3T, E3F, G1T, G1F, G2T, G2F, G3F, inb_T, inb_L, isB_0, isB_1, isB_b, nI_add, L_add1, L_add2, nI_cl, L_cl, bI_T, bI_F, eq_self, not_true_eq_false, not_false_eq_true, ↓bind_of e3, e4]
    have hu := UW_le hw h0 hn1 i
    have hf := FB_le hw h0 hn1 i
    have hfb : FB h n (i + 1) = if i = 0 ∨ (FB h n i).1 < UW h n i then (UW h n i, i) else FB h n i := rfl
    have hmi : mI h n (i + 1) = nI (FB h n (i + 1)).1 := if_neg (by omega)
    refine ⟨(nI (FB h n (i + 1)).2, mI h n (i + 1), nI (i + 1), s3), ?_, rfl, rfl, rfl, q3.tr (k2.tr (k4.tr ((FrM.w1 (by omega) (by omega)).tr k7)))⟩
    rw [hmi]
    unfold f_X12_plugs_L103
    by_cases c : i = 0 ∨ (FB h n i).1 < UW h n i
    · rw [if_pos c] at hfb
      have hle : (nI (UW h n i) ≤ mI h n i) = False := by
        unfold mI
        by_cases z : i = 0
        · rw [if_pos z]; exact m1_lt (by omega)
        · rw [if_neg z]; exact C1F (by omega) (by omega)
      simp (disch := omega) only [↓lt_eq, ↓reduceIte, ↓un1, ↓un2, ↓un3, ↓un4, ↓bd_some, ↓bind_some', ↓sel_l, ↓sel_r, C1T, C1F, C2T, C2F, C3T, C3F, D1T, D1F, D2T, D2F, D3T, D3F, E1T, E1F, E2T, E2F, E3T, E3F, G1T, G1F, G2T, G2F, G3F, inb_T, inb_L, isB_0, isB_1, isB_b, nI_add, L_add1, L_add2, nI_cl, L_cl, bI_T, bI_F, eq_self, not_true_eq_false, not_false_eq_true, ↓bind_of e1, ↓bind_of e2, ↓bd_of e5, hle, M_larger, bd_some, hfb]
    · rw [if_neg c] at hfb
      have hm2 : mI h n i = nI (FB h n i).1 := if_neg (by omega)
      rw [hm2, hfb]
      simp (disch := omega) only [↓lt_eq, ↓reduceIte, ↓un1, ↓un2, ↓un3, ↓un4, ↓bd_some, ↓bind_some', ↓sel_l, ↓sel_r, C1T, C1F, C2T, C2F, C3T, C3F, D1T, D1F, D2T, D2F, D3T, D3F, E1T, E1F, E2T, E2F, E3T, E3F, G1T, G1F, G2T, G2F, G3F, inb_T, inb_L, isB_0, isB_1, isB_b, nI_add, L_add1, L_add2, nI_cl, L_cl, bI_T, bI_F, eq_self, not_true_eq_false, not_false_eq_true, ↓bind_of e1, ↓bind_of e2, ↓bd_of e5, M_larger, bd_some]
  · rintro ⟨a, b, v, s⟩ ⟨q0, q1, q2, q3⟩
    simp only at q0 q1 q2 q3
    subst q0 q1 q2
    refine ⟨(nI (FB h n (Wt h (hN h))).2, mI h n (Wt h (hN h)), s), ?_, rfl, rfl, q3⟩
    unfold f_X12_plugs_L103
    simp (disch := omega) only [↓lt_eq, ↓reduceIte, ↓un1, ↓un2, ↓un3, ↓un4, ↓bd_some, ↓bind_some', ↓sel_l, ↓sel_r, C1T, C1F, C2T, C2F, C3T, C3F, D1T, D1F, D2T, D2F, D3T, D3F, E1T, E1F, E2T, E2F, E3T, E3F, G1T, G1F, G2T, G2F, G3F, inb_T, inb_L, isB_0, isB_1, isB_b, nI_add, L_add1, L_add2, nI_cl, L_cl, bI_T, bI_F, eq_self, not_true_eq_false, not_false_eq_true]
theorem plug_case (x : Int32) (N : Nat) (hN : N < 2147483648) : (x < -1 ∨ (¬ x < -1 ∧ ¬ x < nI N)) ∨ x = -1 ∨ ∃ t, t < N ∧ x = nI t := by
  by_cases a1 : x < -1
  · exact Or.inl (Or.inl a1)
  by_cases a2 : x < nI N
  · right
    by_cases a3 : x < 0
    · left
      rw [Int32.lt_iff_toInt_lt] at a1 a3
      have e1 : (-1 : Int32).toInt = -1 := by decide
      have e2 : (0 : Int32).toInt = 0 := by decide
      apply Int32.toInt_inj.mp
      omega
    · right
      obtain ⟨j, hj, rfl⟩ := nI_of a3
      exact ⟨j, (nI_ltI hj hN).mp a2, rfl⟩
  · exact Or.inl (Or.inr ⟨a1, a2⟩)
theorem M_plug_out {x : Int32} {σ : St} {N : Nat} (q : x < -1 ∨ (¬ x < -1 ∧ ¬ x < nI N)) (hN : N < 2147483648) : f_X12_in x.toInt64 (-1) (nI N - 1).toInt64 σ = some (0, σ) := by
  rw [M_in (lo := -1) (hi := nI N - 1) (by decide) rfl]
  have : ¬ ((-1 : Int32) ≤ x ∧ x ≤ nI N - 1) := by
    rintro ⟨h1, h2⟩
    rcases q with q | ⟨q1, q2⟩
    · exact Int32.not_le.mpr q h1
    · refine q2 ?_
      rw [Int32.lt_iff_toInt_lt]
      rw [Int32.le_iff_toInt_le, nI_m1 hN] at h2
      rw [nI_toInt hN]
      omega
  simp [this, bI]
theorem M_plug_in {x : Int32} {σ : St} {N : Nat} (hN0 : 0 < N) (hN : N < 2147483648) (q : x = -1 ∨ ∃ t, t < N ∧ x = nI t) : f_X12_in x.toInt64 (-1) (nI N - 1).toInt64 σ = some (1, σ) := by
  rw [M_in (lo := -1) (hi := nI N - 1) (by decide) rfl]
  have : (-1 : Int32) ≤ x ∧ x ≤ nI N - 1 := by
    rw [Int32.le_iff_toInt_le, Int32.le_iff_toInt_le, nI_m1 hN]
    have e1 : (-1 : Int32).toInt = -1 := by decide
    rcases q with rfl | ⟨t, ht, rfl⟩
    · rw [e1]; omega
    · rw [e1, nI_toInt (by omega)]; omega
  simp [this, bI]
theorem Keep.plug {σ s : St} (h : ∀ b, ¬ (6 ≤ b ∧ b ≤ 10) → s b = σ b) : Keep σ s := Keep.cells (fun b q => h b (by omega))
theorem step_plugs (x1 x2 : Int32) : Step Inv (f_X11_plugs x1 x2) (f_X12_plugs x1 x2) := by
  intro σ hI
  obtain ⟨hR, hP, hF, hT, h, o, n, ac, im, hn, ha, hi⟩ := id hI
  have hL4 := hn.L4
  have hN4 := hn.N6
  rcases Nat.eq_zero_or_pos (hL h) with hz | hp
  · have e1 := hn.x1
    have e2 := hn.m0
    rw [hz] at e1 e2
    refine step_same (-1000002) hI ?_ ?_
    · unfold f_X11_plugs
      simp (disch := omega) only [↓lt_eq, ↓reduceIte, ↓un1, ↓un2, ↓un3, ↓un4, ↓bd_some, ↓bind_some', ↓sel_l, ↓sel_r, C1T, C1F, C2T, C2F, C3T, C3F, D1T, D1F, D2T, D2F, D3T, D3F, E1T, E1F, E2T, E2F, E3T, E3F, G1T, G1F, G2T, G2F, G3F, inb_T, inb_L, isB_0, isB_1, isB_b, nI_add, L_add1, L_add2, nI_cl, L_cl, bI_T, bI_F, eq_self, not_true_eq_false, not_false_eq_true, ↓bd_of (X_noHouse_1 e1)]
    · unfold f_X12_plugs
      simp (disch := omega) only [↓lt_eq, ↓reduceIte, ↓un1, ↓un2, ↓un3, ↓un4, ↓bd_some, ↓bind_some', ↓sel_l, ↓sel_r, C1T, C1F, C2T, C2F, C3T, C3F, D1T, D1F, D2T, D2F, D3T, D3F, E1T, E1F, E2T, E2F, E3T, E3F, G1T, G1F, G2T, G2F, G3F, inb_T, inb_L, isB_0, isB_1, isB_b, nI_add, L_add1, L_add2, nI_cl, L_cl, bI_T, bI_F, eq_self, not_true_eq_false, not_false_eq_true, ↓bd_of (M_isHouse_0 e2)]
  rcases rng x1 (lo := 1) (hi := 12) 1 12 (by decide) (by decide) (by omega) (by omega) with q | ⟨d, d1, d2, rfl⟩
  · refine step_same (-1000001) hI ?_ ?_
    · unfold f_X11_plugs
      simp (disch := omega) only [↓lt_eq, ↓reduceIte, ↓un1, ↓un2, ↓un3, ↓un4, ↓bd_some, ↓bind_some', ↓sel_l, ↓sel_r, C1T, C1F, C2T, C2F, C3T, C3F, D1T, D1F, D2T, D2F, D3T, D3F, E1T, E1F, E2T, E2F, E3T, E3F, G1T, G1F, G2T, G2F, G3F, inb_T, inb_L, isB_0, isB_1, isB_b, nI_add, L_add1, L_add2, nI_cl, L_cl, bI_T, bI_F, eq_self, not_true_eq_false, not_false_eq_true, ↓bd_of (X_noHouse_0 hn.x1 hp hL4), ↓ite_out2 q]
    · unfold f_X12_plugs
      simp (disch := omega) only [↓lt_eq, ↓reduceIte, ↓un1, ↓un2, ↓un3, ↓un4, ↓bd_some, ↓bind_some', ↓sel_l, ↓sel_r, C1T, C1F, C2T, C2F, C3T, C3F, D1T, D1F, D2T, D2F, D3T, D3F, E1T, E1F, E2T, E2F, E3T, E3F, G1T, G1F, G2T, G2F, G3F, inb_T, inb_L, isB_0, isB_1, isB_b, nI_add, L_add1, L_add2, nI_cl, L_cl, bI_T, bI_F, eq_self, not_true_eq_false, not_false_eq_true, ↓bd_of (M_isHouse_1 hn.m0 hp hL4), ↓bd_of (M_out (lo := 1) (hi := 12) (L := 1) (H := 12) (by decide) (by decide) q)]
  have hN0 := (hn.2.2.2.1 hp).1
  rcases plug_case x2 (hN h) hN4 with q | q
  · have qo := q
    refine step_same (-1000001) hI ?_ ?_
    · unfold f_X11_plugs
      rcases q with q | ⟨q1, q2⟩
      · simp (disch := omega) only [↓lt_eq, ↓reduceIte, ↓un1, ↓un2, ↓un3, ↓un4, ↓bd_some, ↓bind_some', ↓sel_l, ↓sel_r, C1T, C1F, C2T, C2F, C3T, C3F, D1T, D1F, D2T, D2F, D3T, D3F, E1T, E1F, E2T, E2F, E3T, E3F, G1T, G1F, G2T, G2F, G3F, inb_T, inb_L, isB_0, isB_1, isB_b, nI_add, L_add1, L_add2, nI_cl, L_cl, bI_T, bI_F, eq_self, not_true_eq_false, not_false_eq_true, ↓bd_of (X_noHouse_0 hn.x1 hp hL4), q]
      · simp (disch := omega) only [↓lt_eq, ↓reduceIte, ↓un1, ↓un2, ↓un3, ↓un4, ↓bd_some, ↓bind_some', ↓sel_l, ↓sel_r, C1T, C1F, C2T, C2F, C3T, C3F, D1T, D1F, D2T, D2F, D3T, D3F, E1T, E1F, E2T, E2F, E3T, E3F, G1T, G1F, G2T, G2F, G3F, inb_T, inb_L, isB_0, isB_1, isB_b, nI_add, L_add1, L_add2, nI_cl, L_cl, bI_T, bI_F, eq_self, not_true_eq_false, not_false_eq_true, ↓bd_of (X_noHouse_0 hn.x1 hp hL4), q1, hn.x2, q2]
    · unfold f_X12_plugs
      simp (disch := omega) only [↓lt_eq, ↓reduceIte, ↓un1, ↓un2, ↓un3, ↓un4, ↓bd_some, ↓bind_some', ↓sel_l, ↓sel_r, C1T, C1F, C2T, C2F, C3T, C3F, D1T, D1F, D2T, D2F, D3T, D3F, E1T, E1F, E2T, E2F, E3T, E3F, G1T, G1F, G2T, G2F, G3F, inb_T, inb_L, isB_0, isB_1, isB_b, nI_add, L_add1, L_add2, nI_cl, L_cl, bI_T, bI_F, eq_self, not_true_eq_false, not_false_eq_true, ↓bd_of (M_isHouse_1 hn.m0 hp hL4), ↓bd_of (M_inn (σ := σ) (L := 1) (H := 12) (a := 1) (b := 12) (by decide) (by decide) d1 d2 (by decide)), hn.m1, ↓bd_of (M_plug_out (σ := σ) qo hN4)]
  have hw := hn.1
  have hN6 := hw.2.1
  have hW := ways_le hw
  have hWp := Wt_pos hp (hN h)
  have hmi : mI h d (Wt h (hN h)) = nI (FB h d (Wt h (hN h))).1 := if_neg (by omega)
  have hFB2 : ∀ i, 0 < i → (FB h d i).2 < i := by
    intro i
    induction i with
    | zero => intro z; omega
    | succ i ih =>
      intro _
      unfold FB
      split
      · dsimp only; omega
      · rename_i c
        have := ih (by omega)
        omega
  have hB := hFB2 _ hWp
  refine step_keep (if x2 = -1 then nI (FB h d (Wt h (hN h))).1 else nI (dg h (FB h d (Wt h (hN h))).2 x2.toNatClampNeg)) hI ?_ (fun s hk => ?_)
  · obtain ⟨t, e1, k1, k2⟩ := X_try hn.2.1 hw
    obtain ⟨u, e2, k3, k4⟩ := X_search k1 hw hp d2
    have kk : Keep σ u := (Keep.fr27 k2).tr (Keep.plug k4)
    have f1 : u 6 4 = _ := k3.1
    rw [hmi] at f1
    unfold f_X11_plugs
    rcases q with rfl | ⟨t, ht, rfl⟩
    · have z1 : ((-1 : Int32) < -1) = False := by decide
      have z2 : ((-1 : Int32) < nI (hN h)) = True := eq_true (by
        rw [Int32.lt_iff_toInt_lt, nI_toInt hN4]
        have e1 : (-1 : Int32).toInt = -1 := by decide
        omega)
      simp (disch := omega) only [↓lt_eq, ↓reduceIte, ↓un1, ↓un2, ↓un3, ↓un4, ↓bd_some, ↓bind_some', ↓sel_l, ↓sel_r, C1T, C1F, C2T, C2F, C3T, C3F, D1T, D1F, D2T, D2F, D3T, D3F, E1T, E1F, E2T, E2F, E3T, E3F, G1T, G1F, G2T, G2F, G3F, inb_T, inb_L, isB_0, isB_1, isB_b, nI_add, L_add1, L_add2, nI_cl, L_cl, bI_T, bI_F, eq_self, not_true_eq_false, not_false_eq_true, ↓bd_of (X_noHouse_0 hn.x1 hp hL4), z1, hn.x2, z2, ↓bind_of e1, ↓bind_of e2, f1]
      exact Ok.ret ⟨rfl, kk⟩
    · have z1 : (nI t < -1) = False := eq_false (fun z => by
        rw [Int32.lt_iff_toInt_lt, nI_toInt (by omega)] at z
        have e1 : (-1 : Int32).toInt = -1 := by decide
        omega)
      have z3 : (nI t = -1) = False := eq_false (fun z => by
        have z := congrArg Int32.toInt z
        rw [nI_toInt (by omega)] at z
        have e1 : (-1 : Int32).toInt = -1 := by decide
        omega)
      have f2 := k3.2 hWp t ht
      simp (disch := omega) only [↓lt_eq, ↓reduceIte, ↓un1, ↓un2, ↓un3, ↓un4, ↓bd_some, ↓bind_some', ↓sel_l, ↓sel_r, C1T, C1F, C2T, C2F, C3T, C3F, D1T, D1F, D2T, D2F, D3T, D3F, E1T, E1F, E2T, E2F, E3T, E3F, G1T, G1F, G2T, G2F, G3F, inb_T, inb_L, isB_0, isB_1, isB_b, nI_add, L_add1, L_add2, nI_cl, L_cl, bI_T, bI_F, eq_self, not_true_eq_false, not_false_eq_true, ↓bd_of (X_noHouse_0 hn.x1 hp hL4), z1, hn.x2, z3, ↓bind_of e1, ↓bind_of e2, f2]
      exact Ok.ret ⟨rfl, kk⟩
  · have hn := hn.keep hk
    have hm := (hn.2.2.2.1 hp).2
    have e1 := M_waysLoop hm hw
    obtain ⟨⟨a, b, u⟩, e2, r1, r2, k⟩ := M_waysAll hn hp d2
    simp only at r1 r2 k
    subst r1 r2
    rw [hmi] at e2
    have ep := M_plug_in (σ := s) hN0 hN4 q
    unfold f_X12_plugs
    rcases q with rfl | ⟨t, ht, rfl⟩
    · simp (disch := omega) only [↓lt_eq, ↓reduceIte, ↓un1, ↓un2, ↓un3, ↓un4, ↓bd_some, ↓bind_some', ↓sel_l, ↓sel_r, C1T, C1F, C2T, C2F, C3T, C3F, D1T, D1F, D2T, D2F, D3T, D3F, E1T, E1F, E2T, E2F, E3T, E3F, G1T, G1F, G2T, G2F, G3F, inb_T, inb_L, isB_0, isB_1, isB_b, nI_add, L_add1, L_add2, nI_cl, L_cl, bI_T, bI_F, eq_self, not_true_eq_false, not_false_eq_true, ↓bd_of (M_isHouse_1 hn.m0 hp hL4), ↓bd_of (M_inn (σ := s) (L := 1) (H := 12) (a := 1) (b := 12) (by decide) (by decide) d1 d2 (by decide)), hn.m1, ↓bd_of ep, ↓bind_of e1, ↓bind_of e2, m1_neg]
      exact Ok.ret ⟨rfl, Keep.frM k⟩
    · have z3 : (nI t = -1) = False := eq_false (fun z => by
        have z := congrArg Int32.toInt z
        rw [nI_toInt (by omega)] at z
        have e1 : (-1 : Int32).toInt = -1 := by decide
        omega)
      have e3 := M_plugged (σ := u) ((hn.keep (Keep.frM k)).2.2.2.1 hp).2 hw hp (w := (FB h d (Wt h (hN h))).2) ht (by omega)
      simp (disch := omega) only [↓lt_eq, ↓reduceIte, ↓un1, ↓un2, ↓un3, ↓un4, ↓bd_some, ↓bind_some', ↓sel_l, ↓sel_r, C1T, C1F, C2T, C2F, C3T, C3F, D1T, D1F, D2T, D2F, D3T, D3F, E1T, E1F, E2T, E2F, E3T, E3F, G1T, G1F, G2T, G2F, G3F, inb_T, inb_L, isB_0, isB_1, isB_b, nI_add, L_add1, L_add2, nI_cl, L_cl, bI_T, bI_F, eq_self, not_true_eq_false, not_false_eq_true, ↓bd_of (M_isHouse_1 hn.m0 hp hL4), ↓bd_of (M_inn (σ := s) (L := 1) (H := 12) (a := 1) (b := 12) (by decide) (by decide) d1 d2 (by decide)), hn.m1, ↓bd_of ep, ↓bind_of e1, ↓bind_of e2, ↓bd_of e3, z3]
      exact Ok.ret ⟨rfl, Keep.frM k⟩
