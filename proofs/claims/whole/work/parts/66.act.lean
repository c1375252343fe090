/-! the acts, one by one -/
/-- what the class's acts change, and the reference's -/
def CX (σ s : St) : Prop := (∀ b, b ≠ 0 → ¬ (19 ≤ b ∧ b < 27) → ¬ (67 ≤ b ∧ b < 259) → s b = σ b) ∧ ∀ k, k ≠ 6 → k ≠ 7 → s 0 k = σ 0 k
def CM (σ s : St) : Prop := (∀ b, b ≠ 259 → b ≠ 260 → b ≠ 273 → s b = σ b) ∧ (∀ k, k ≠ 3 → s 259 k = σ 259 k) ∧ ∀ k, 675 ≤ k → s 260 k = σ 260 k
theorem CX.rf {σ : St} : CX σ σ := ⟨fun _ _ _ _ => rfl, fun _ _ _ => rfl⟩
theorem CX.tr {σ s t : St} (h1 : CX σ s) (h2 : CX s t) : CX σ t := ⟨fun b q1 q2 q3 => (h2.1 b q1 q2 q3).trans (h1.1 b q1 q2 q3), fun k q1 q2 => (h2.2 k q1 q2).trans (h1.2 k q1 q2)⟩
theorem CM.rf {σ : St} : CM σ σ := ⟨fun _ _ _ _ => rfl, fun _ _ => rfl, fun _ _ => rfl⟩
theorem CM.tr {σ s t : St} (h1 : CM σ s) (h2 : CM s t) : CM σ t := ⟨fun b q1 q2 q3 => (h2.1 b q1 q2 q3).trans (h1.1 b q1 q2 q3), fun k q => (h2.2.1 k q).trans (h1.2.1 k q), fun k q => (h2.2.2 k q).trans (h1.2.2 k q)⟩
theorem CX.fr {σ s : St} (h : Fr (blk 19) σ s) : CX σ s := ⟨fun b _ q2 _ => h b (by unfold blk; omega), fun k _ _ => by rw [h 0 (by unfold blk; omega)]⟩
theorem CM.fr {σ s : St} (h : FrM 0 σ s) : CM σ s := ⟨fun b _ q2 q3 => h.1 b q2 q3, fun k _ => by rw [h.1 259 (by omega) (by omega)], fun k q => h.2 k (by omega)⟩
theorem ActsX.fr {σ s : St} {o n : Nat} {ac : Nat → Hs} (ha : ActsX σ o n ac) (h0 : ∀ k, k = 6 ∨ k = 7 → s 0 k = σ 0 k) (h1 : ∀ b, 67 ≤ b → b < 259 → s b = σ b) : ActsX s o n ac := by
  obtain ⟨a1, a2, a3, a4, a5⟩ := ha
  refine ⟨a1, a2, (h0 6 (by omega)).trans a3, (h0 7 (by omega)).trans a4, fun i hi => ?_⟩
  have : (o + i) % 24 < 24 := Nat.mod_lt _ (by decide)
  exact (a5 i hi).frame (fun b q => h1 b (by omega) (by omega))
theorem ActsX.fr19 {σ s : St} {o n : Nat} {ac : Nat → Hs} (ha : ActsX σ o n ac) (h : Fr (blk 19) σ s) : ActsX s o n ac := ha.fr (fun k _ => by rw [h 0 (by unfold blk; omega)]) (fun b q1 q2 => h b (by unfold blk; omega))
theorem ActsM.fr {σ s : St} {n : Nat} {ac : Nat → Hs} (ha : ActsM σ n ac) (hn : n ≤ 24) (hW : ActsW n ac) (h3 : s 259 3 = σ 259 3) (h0 : ∀ k, 27 ≤ k → k < 675 → s 260 k = σ 260 k) (h1 : s 261 = σ 261) : ActsM s n ac := by
  obtain ⟨a1, a2⟩ := ha
  exact ⟨h3.trans a1, fun i hi => (a2 i hi).copied (hW i hi).1 (fun k hk => h0 _ (by omega) (by omega)) h1⟩
theorem ActsM.fr0 {σ s : St} {n : Nat} {ac : Nat → Hs} (ha : ActsM σ n ac) (hn : n ≤ 24) (hW : ActsW n ac) (h : FrM 0 σ s) : ActsM s n ac := ha.fr hn hW (by rw [h.1 259 (by omega) (by omega)]) (fun k q1 q2 => h.2 k (by omega)) (h.1 261 (by omega) (by omega))
theorem HM.cx {b d : Nat} {σ s : St} {h : Hs} (hm : HM b d σ h) (hc : CX σ s) : HM b d s h := hm.frame (hc.1 260 (by omega) (by omega) (by omega)) (hc.1 261 (by omega) (by omega) (by omega))
theorem HX.cm {a : Nat} {σ s : St} {h : Hs} (hx : HX a σ h) (hc : CM σ s) (ha : a ≤ 251) : HX a s h := hx.frame (fun b q => hc.1 b (by omega) (by omega) (by omega))
theorem step_act {f g : St → Option (Int32 × St)} {σ : St} {h h' : Hs} {n' : Nat} {im ac' : Nat → Hs} (a : Int32) (hI : Inv σ) (hn : INow σ h) (hi : ∀ k, k < 2 → IImg σ k (im k)) (hw : WF h') (hm : hMin h' ≤ 9999) (hL : 0 < hL h') (hN : 0 < hN h') (hn' : n' ≤ 24) (hW : ActsW n' ac')
    (h1 : Ok (f σ) (fun v => v.1 = a ∧ HX 19 v.2 h' ∧ (∃ o', ActsX v.2 o' n' ac') ∧ CX σ v.2))
    (h2 : ∀ s, CX σ s → Ok (g s) (fun w => w.1 = a ∧ HM 0 0 w.2 h' ∧ ActsM w.2 n' ac' ∧ CM s w.2)) : ∃ r σ1 σ2, f σ = some (r, σ1) ∧ g σ1 = some (r, σ2) ∧ Inv σ2 := by
  obtain ⟨⟨v, s⟩, e1, rfl, x1, ⟨o', x2⟩, x3⟩ := h1
  obtain ⟨⟨w, t⟩, e2, q, y1, y2, y3⟩ := h2 s x3
  simp only at q e1 e2 x1 x2 x3 y1 y2 y3
  subst q
  refine ⟨w, s, t, e1, e2, ?_⟩
  obtain ⟨hR, hP, hF, hT, -⟩ := hI
  have z : ∀ b, b ≠ 0 → ¬ (19 ≤ b ∧ b < 27) → ¬ (67 ≤ b ∧ b < 259) → b ≠ 259 → b ≠ 260 → b ≠ 273 → t b = σ b := fun b q1 q2 q3 q4 q5 q6 => (y3.1 b q4 q5 q6).trans (x3.1 b q1 q2 q3)
  have z9 : ∀ k, k ≠ 3 → t 259 k = σ 259 k := fun k q => (y3.2.1 k q).trans (by rw [x3.1 259 (by omega) (by omega) (by omega)])
  have z0 : ∀ k, k ≠ 6 → k ≠ 7 → t 0 k = σ 0 k := fun k q1 q2 => (by rw [y3.1 0 (by omega) (by omega) (by omega)]; exact x3.2 k q1 q2)
  refine ⟨hR.fr (fun b q => z b (by omega) (by omega) (by omega) (by omega) (by omega) (by omega)), hP.fr ?_ (z9 9 (by omega)) (z 3 (by omega) (by omega) (by omega) (by omega) (by omega) (by omega)) (z 267 (by omega) (by omega) (by omega) (by omega) (by omega) (by omega)), ⟨?_, ?_⟩, hT.fr ?_ (z9 20 (by omega)) (z 12 (by omega) (by omega) (by omega) (by omega) (by omega) (by omega)) (z 272 (by omega) (by omega) (by omega) (by omega) (by omega) (by omega)), h', o', n', ac', im, ⟨hw, x1.cm y3 (by omega), hm, fun _ => ⟨hN, y1⟩, fun q => absurd q (by omega)⟩, ?_, fun k hk => ?_⟩
  · rw [z 2 (by omega) (by omega) (by omega) (by omega) (by omega) (by omega)]
  · rw [z0 10 (by omega) (by omega), z9 15 (by omega)]; exact hF.1
  · rw [z0 11 (by omega) (by omega), z9 8 (by omega)]; exact hF.2
  · rw [z 11 (by omega) (by omega) (by omega) (by omega) (by omega) (by omega)]
  · have x2' : ActsX t o' n' ac' := x2.fr (fun k _ => by rw [y3.1 0 (by omega) (by omega) (by omega)]) (fun b q1 q2 => y3.1 b (by omega) (by omega) (by omega))
    exact ⟨x2'.1, hn', x2'.2.2.1, x2'.2.2.2.1, y2.1, fun q => absurd q (by omega), fun i hi => ⟨(hW i hi).1, (hW i hi).2.1, (hW i hi).2.2, x2'.2.2.2.2 i hi, y2.2 i hi⟩⟩
  · rcases hi k hk with ⟨c1, c2⟩ | ⟨c1, c2, c3, c4, c5, c6, c7⟩
    · exact Or.inl ⟨by rw [z 262 (by omega) (by omega) (by omega) (by omega) (by omega) (by omega)]; exact c1, by rw [z (51 + 8 * k) (by omega) (by omega) (by omega) (by omega) (by omega) (by omega)]; exact c2⟩
    · refine Or.inr ⟨by rw [z 262 (by omega) (by omega) (by omega) (by omega) (by omega) (by omega)]; exact c1, c2, c3, c4, c5, c6.frame (fun b q => z b (by omega) (by omega) (by omega) (by omega) (by omega) (by omega)), c7.copied c4 (fun j hj => ?_) (z 261 (by omega) (by omega) (by omega) (by omega) (by omega) (by omega))⟩
      rw [y3.2.2 _ (by omega), x3.1 260 (by omega) (by omega) (by omega)]
theorem IActs.x {σ : St} {h : Hs} {o n : Nat} {ac : Nat → Hs} (ha : IActs σ h o n ac) : ActsX σ o n ac := ⟨ha.1, ha.2.1, ha.2.2.1, ha.2.2.2.1, fun i hi => (ha.2.2.2.2.2.2 i hi).2.2.2.1⟩
theorem IActs.m {σ : St} {h : Hs} {o n : Nat} {ac : Nat → Hs} (ha : IActs σ h o n ac) : ActsM σ n ac := ⟨ha.2.2.2.2.1, fun i hi => (ha.2.2.2.2.2.2 i hi).2.2.2.2⟩
theorem IActs.w {σ : St} {h : Hs} {o n : Nat} {ac : Nat → Hs} (ha : IActs σ h o n ac) : ActsW n ac := fun i hi => ⟨(ha.2.2.2.2.2.2 i hi).1, (ha.2.2.2.2.2.2 i hi).2.1, (ha.2.2.2.2.2.2 i hi).2.2.1⟩
theorem ActsM.cx {σ s : St} {n : Nat} {ac : Nat → Hs} (ha : ActsM σ n ac) (hn : n ≤ 24) (hW : ActsW n ac) (hc : CX σ s) : ActsM s n ac := ha.fr hn hW (by rw [hc.1 259 (by omega) (by omega) (by omega)]) (fun k _ _ => by rw [hc.1 260 (by omega) (by omega) (by omega)]) (hc.1 261 (by omega) (by omega) (by omega))
/-- the class keeps the act, then changes the house -/
theorem X_act {σ : St} {h h' : Hs} {o n : Nat} {ac : Nat → Hs} {k : St → Option (Int32 × St)} {a : Int32} (hx : HX 19 σ h) (hw : WF h) (ha : ActsX σ o n ac) (hk : ∀ s, HX 19 s h → Ok (k s) (fun v => v.1 = a ∧ HX 19 v.2 h' ∧ Fr (blk 19) s v.2)) : Ok ((f_X11_keepAct σ).bind k) (fun v => v.1 = a ∧ HX 19 v.2 h' ∧ (∃ o', ActsX v.2 o' (pushN n) (pushA n ac h)) ∧ CX σ v.2) := by
  refine Ok.bind (Ok.mono (X_keepAct hx hw ha) (fun s q => ?_))
  obtain ⟨⟨o', q1⟩, q2, q3⟩ := q
  refine Ok.mono (hk s (hx.frame (fun b z => q2 b (by omega) (by omega)))) (fun v z => ⟨z.1, z.2.1, ⟨o', q1.fr19 z.2.2⟩, CX.tr ⟨fun b b1 b2 b3 => q2 b b1 b3, q3⟩ (CX.fr z.2.2)⟩)
theorem M_act {σ : St} {h h' : Hs} {n : Nat} {ac : Nat → Hs} {k : St → Option (Int32 × St)} {a : Int32} (hm : HM 0 0 σ h) (hw : WF h) (hn : n ≤ 24) (ha : ActsM σ n ac) (hW : ActsW n ac) (hW' : ActsW (pushN n) (pushA n ac h)) (hk : ∀ s, HM 0 0 s h → Ok (k s) (fun v => v.1 = a ∧ HM 0 0 v.2 h' ∧ FrM 0 s v.2)) : Ok ((f_X12_known σ).bind k) (fun v => v.1 = a ∧ HM 0 0 v.2 h' ∧ ActsM v.2 (pushN n) (pushA n ac h) ∧ CM σ v.2) := by
  refine Ok.bind (Ok.mono (M_known hm hw hn ha hW) (fun s q => ?_))
  obtain ⟨q1, q2, q3, q4⟩ := q
  refine Ok.mono (hk s (hm.copied hw (fun k z => q4 _ (by omega)) (q2 261 (by omega) (by omega)))) (fun v z => ⟨z.1, z.2.1, q1.fr0 (pushN_le hn) hW' z.2.2, CM.tr ⟨fun b b1 b2 _ => q2 b b1 b2, q3, fun k z => q4 k (by omega)⟩ (CM.fr z.2.2)⟩)
