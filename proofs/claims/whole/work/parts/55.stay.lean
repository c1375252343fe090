/-! a line that stays live; things turned off; holds, faulty -/
def allB (p : Nat → Bool) : Nat → Bool
  | 0 => true
  | n + 1 => allB p n && p n
theorem allB_f {p : Nat → Bool} {k : Nat} (hk : p k = false) : ∀ n, k < n → allB p n = false
  | 0, h => by omega
  | n + 1, h => by
    show (allB p n && p n) = false
    by_cases e : k = n
    · rw [← e, hk, Bool.and_false]
    · rw [allB_f hk n (by omega), Bool.false_and]
theorem allB_t {p : Nat → Bool} : ∀ n, (∀ k, k < n → p k = true) → allB p n = true
  | 0, _ => rfl
  | n + 1, h => by
    show (allB p n && p n) = true
    rw [allB_t n (fun k q => h k (by omega)), h n (by omega)]; rfl
def stayH (h : Hs) (l n : Nat) : Bool := allB (fun k => live (minN h (k + 1)) l) n
theorem X_staysLive {σ : St} {h : Hs} (hx : HX 27 σ h) (hw : WF h) {l n : Nat} (hl : l < hL h) (hn : n ≤ 60) (hm : hMin h + n ≤ 20000) : Ok (f_X3_staysLive 27 (nI l) (nI n) σ) (fun v => v.1 = bI (stayH h l n) ∧ Fr (blk 27) σ v.2) := by
  unfold f_X3_staysLive
  rw [lt_eq]
  refine Ok.bind (loop_find (fun i (x : Int32 × St) => x.1 = nI i ∧ HX 27 x.2 (minN h i) ∧ Fr (blk 27) σ x.2) (fun k => !live (minN h (k + 1)) l) 0 n _ 5000 _ (by omega) ⟨nI_0.symm, hx, Fr.rf⟩ ?_ ?_)
  · rintro i ⟨v, s⟩ _ hi ⟨q1, q2, q3⟩
    simp only at q1 q2 q3
    subst q1
    obtain ⟨t, e, k1, k2⟩ := X_passMinute q2 (minN_WF hw i (by omega))
    have e1 := X_isLive k1 (minN_WF hw (i + 1) (by omega)) (l := l) (by show l < hL (minN h (i + 1)); rw [minN_L]; exact hl)
    refine ⟨fun hp => ?_, fun hp hb => ?_⟩
    · have hv : live (minuteH (minN h i)) l = true := by simpa [minN] using hp
      rw [hv] at e1
      refine ⟨(nI (i + 1), t), ?_, rfl, k1, q3.tr k2⟩
      unfold f_X3_staysLive_L2
      simp (disch := omega) only [↓lt_eq, ↓reduceIte, ↓un1, ↓un2, ↓un3, ↓un4, ↓bd_some, ↓bind_some', ↓sel_l, ↓sel_r, C1T, C1F, C2T, C2F, C3T, C3F, D1T, D1F, D2T, D2F, D3T, D3F, E1T, E1F, E2T, E2F, E3T, E3F, G1T, G1F, G2T, G2F, G3F, inb_T, inb_L, isB_0, isB_1, isB_b, nI_add, L_add1, L_add2, nI_cl, L_cl, bI_T, bI_F, eq_self, not_true_eq_false, not_false_eq_true, ↓bind_of e, ↓bd_of e1]
    · have hv : live (minuteH (minN h i)) l = false := by simpa [minN] using hp
      rw [hv] at e1
      refine ⟨.inr t, ?_, ?_⟩
      · unfold f_X3_staysLive_L2
        simp (disch := omega) only [↓lt_eq, ↓reduceIte, ↓un1, ↓un2, ↓un3, ↓un4, ↓bd_some, ↓bind_some', ↓sel_l, ↓sel_r, C1T, C1F, C2T, C2F, C3T, C3F, D1T, D1F, D2T, D2F, D3T, D3F, E1T, E1F, E2T, E2F, E3T, E3F, G1T, G1F, G2T, G2F, G3F, inb_T, inb_L, isB_0, isB_1, isB_b, nI_add, L_add1, L_add2, nI_cl, L_cl, bI_T, bI_F, eq_self, not_true_eq_false, not_false_eq_true, ↓bind_of e, ↓bd_of e1]
      · simp (disch := omega) only [↓lt_eq, ↓reduceIte, ↓un1, ↓un2, ↓un3, ↓un4, ↓bd_some, ↓bind_some', ↓sel_l, ↓sel_r, C1T, C1F, C2T, C2F, C3T, C3F, D1T, D1F, D2T, D2F, D3T, D3F, E1T, E1F, E2T, E2F, E3T, E3F, G1T, G1F, G2T, G2F, G3F, inb_T, inb_L, isB_0, isB_1, isB_b, nI_add, L_add1, L_add2, nI_cl, L_cl, bI_T, bI_F, eq_self, not_true_eq_false, not_false_eq_true]
        refine Ok.ret ⟨?_, q3.tr k2⟩
        unfold stayH
        rw [allB_f (k := i) hv n (by omega)]; rfl
  · rintro ⟨v, s⟩ ⟨q1, q2, q3⟩ hb
    simp only [Nat.zero_add] at q1 q2 q3
    subst q1
    refine ⟨.inl s, ?_, ?_⟩
    · unfold f_X3_staysLive_L2
      simp (disch := omega) only [↓lt_eq, ↓reduceIte, ↓un1, ↓un2, ↓un3, ↓un4, ↓bd_some, ↓bind_some', ↓sel_l, ↓sel_r, C1T, C1F, C2T, C2F, C3T, C3F, D1T, D1F, D2T, D2F, D3T, D3F, E1T, E1F, E2T, E2F, E3T, E3F, G1T, G1F, G2T, G2F, G3F, inb_T, inb_L, isB_0, isB_1, isB_b, nI_add, L_add1, L_add2, nI_cl, L_cl, bI_T, bI_F, eq_self, not_true_eq_false, not_false_eq_true]
    · simp (disch := omega) only [↓lt_eq, ↓reduceIte, ↓un1, ↓un2, ↓un3, ↓un4, ↓bd_some, ↓bind_some', ↓sel_l, ↓sel_r, C1T, C1F, C2T, C2F, C3T, C3F, D1T, D1F, D2T, D2F, D3T, D3F, E1T, E1F, E2T, E2F, E3T, E3F, G1T, G1F, G2T, G2F, G3F, inb_T, inb_L, isB_0, isB_1, isB_b, nI_add, L_add1, L_add2, nI_cl, L_cl, bI_T, bI_F, eq_self, not_true_eq_false, not_false_eq_true]
      refine Ok.ret ⟨?_, q3⟩
      unfold stayH
      rw [allB_t n (fun k q => by simpa using hb k (by omega) (by omega))]; rfl
theorem M_isLiveFor {σ : St} {h : Hs} (hx : HM 729 0 σ h) (hw : WF h) {l n : Nat} (hl : l < hL h) (hn : n ≤ 60) (hm : hMin h + n ≤ 20000) : Ok (f_X12_isLiveFor (nI l) (nI n) σ) (fun v => v.1 = bI (stayH h l n) ∧ FrM 729 σ v.2) := by
  unfold f_X12_isLiveFor
  rw [lt_eq, lt_eq]
  refine Ok.bind (loop_n (fun i (x : Int32 × Int32 × St) => x.1 = bI (stayH h l i) ∧ x.2.1 = nI i ∧ HM 729 0 x.2.2 (minN h i) ∧ FrM 729 σ x.2.2) _ n 5000 _ (by omega) ⟨rfl, nI_0.symm, hx, FrM.rf⟩ ?_ ?_)
  · rintro i ⟨b, v, s⟩ hi ⟨q0, q1, q2, q3⟩
    simp only at q0 q1 q2 q3
    subst q0 q1
    obtain ⟨t, e, k1, k2⟩ := M_goesOn1 q2 (minN_WF hw i (by omega)) (by rw [minN_m]; omega)
    have e1 : f_X12_isLive (729 : Int32) (nI l) t = _ := M_isLive (b := 729) k1 (minN_WF hw (i + 1) (by omega)) (by omega) (l := l) (by show l < hL (minN h (i + 1)); rw [minN_L]; exact hl)
    have e2 : stayH h l (i + 1) = (stayH h l i && live (minuteH (minN h i)) l) := rfl
    refine ⟨(bI (stayH h l (i + 1)), nI (i + 1), t), ?_, rfl, rfl, k1, q3.tr k2⟩
    unfold f_X12_isLiveFor_L5
    rw [e2]
    cases hs : stayH h l i <;> cases hv : live (minuteH (minN h i)) l <;> rw [hv] at e1 <;> simp (disch := omega) only [↓lt_eq, ↓reduceIte, ↓un1, ↓un2, ↓un3, ↓un4, ↓bd_some, ↓bind_some', ↓sel_l, ↓sel_r, C1T, C1F, C2T, C2F, C3T, C3F, D1T, D1F, D2T, D2F, D3T, D3F, E1T, E1F, E2T, E2F, E3T, E3F, G1T, G1F, G2T, G2F, G3F, inb_T, inb_L, isB_0, isB_1, isB_b, nI_add, L_add1, L_add2, nI_cl, L_cl, bI_T, bI_F, eq_self, not_true_eq_false, not_false_eq_true, ↓bind_of e, ↓bd_of e1, Bool.and_false, Bool.and_true, Bool.false_and, Bool.true_and]
  · rintro ⟨b, v, s⟩ ⟨q0, q1, q2, q3⟩
    simp only at q0 q1 q2 q3
    subst q0 q1
    refine ⟨(bI (stayH h l n), s), ?_, ?_⟩
    · unfold f_X12_isLiveFor_L5
      simp (disch := omega) only [↓lt_eq, ↓reduceIte, ↓un1, ↓un2, ↓un3, ↓un4, ↓bd_some, ↓bind_some', ↓sel_l, ↓sel_r, C1T, C1F, C2T, C2F, C3T, C3F, D1T, D1F, D2T, D2F, D3T, D3F, E1T, E1F, E2T, E2F, E3T, E3F, G1T, G1F, G2T, G2F, G3F, inb_T, inb_L, isB_0, isB_1, isB_b, nI_add, L_add1, L_add2, nI_cl, L_cl, bI_T, bI_F, eq_self, not_true_eq_false, not_false_eq_true]
    · simp (disch := omega) only [↓lt_eq, ↓reduceIte, ↓un1, ↓un2, ↓un3, ↓un4, ↓bd_some, ↓bind_some', ↓sel_l, ↓sel_r, C1T, C1F, C2T, C2F, C3T, C3F, D1T, D1F, D2T, D2F, D3T, D3F, E1T, E1F, E2T, E2F, E3T, E3F, G1T, G1F, G2T, G2F, G3F, inb_T, inb_L, isB_0, isB_1, isB_b, nI_add, L_add1, L_add2, nI_cl, L_cl, bI_T, bI_F, eq_self, not_true_eq_false, not_false_eq_true]
      exact Ok.ret ⟨rfl, q3⟩
theorem step_holds (x1 x2 : Int32) : Step Inv (f_X11_holds x1 x2) (f_X12_holds x1 x2) := by
  intro σ hI
  obtain ⟨hR, hP, hF, hT, h, o, n, ac, im, hn, ha, hi⟩ := id hI
  have hL4 := hn.L4
  rcases idx x1 (hL h) hL4 with q | ⟨l, hl, rfl⟩
  · refine step_same (-1000001) hI ?_ ?_
    · unfold f_X11_holds
      simp (disch := omega) only [↓lt_eq, ↓reduceIte, ↓un1, ↓un2, ↓un3, ↓un4, ↓bd_some, ↓bind_some', ↓sel_l, ↓sel_r, C1T, C1F, C2T, C2F, C3T, C3F, D1T, D1F, D2T, D2F, D3T, D3F, E1T, E1F, E2T, E2F, E3T, E3F, G1T, G1F, G2T, G2F, G3F, inb_T, inb_L, isB_0, isB_1, isB_b, nI_add, L_add1, L_add2, nI_cl, L_cl, bI_T, bI_F, eq_self, not_true_eq_false, not_false_eq_true, ↓bd_of (X_noLine_out hn.x1 q)]
    · unfold f_X12_holds
      simp (disch := omega) only [↓lt_eq, ↓reduceIte, ↓un1, ↓un2, ↓un3, ↓un4, ↓bd_some, ↓bind_some', ↓sel_l, ↓sel_r, C1T, C1F, C2T, C2F, C3T, C3F, D1T, D1F, D2T, D2F, D3T, D3F, E1T, E1F, E2T, E2F, E3T, E3F, G1T, G1F, G2T, G2F, G3F, inb_T, inb_L, isB_0, isB_1, isB_b, nI_add, L_add1, L_add2, nI_cl, L_cl, bI_T, bI_F, eq_self, not_true_eq_false, not_false_eq_true, ↓bd_of (M_isLine_out hn.m0 q hL4)]
  rcases rng x2 (lo := 1) (hi := 30) 1 30 (by decide) (by decide) (by omega) (by omega) with q | ⟨d, d1, d2, rfl⟩
  · refine step_same (-1000001) hI ?_ ?_
    · unfold f_X11_holds
      simp (disch := omega) only [↓lt_eq, ↓reduceIte, ↓un1, ↓un2, ↓un3, ↓un4, ↓bd_some, ↓bind_some', ↓sel_l, ↓sel_r, C1T, C1F, C2T, C2F, C3T, C3F, D1T, D1F, D2T, D2F, D3T, D3F, E1T, E1F, E2T, E2F, E3T, E3F, G1T, G1F, G2T, G2F, G3F, inb_T, inb_L, isB_0, isB_1, isB_b, nI_add, L_add1, L_add2, nI_cl, L_cl, bI_T, bI_F, eq_self, not_true_eq_false, not_false_eq_true, ↓bd_of (X_noLine_in hn.x1 hl hL4), ↓ite_out1 q]
    · unfold f_X12_holds
      simp (disch := omega) only [↓lt_eq, ↓reduceIte, ↓un1, ↓un2, ↓un3, ↓un4, ↓bd_some, ↓bind_some', ↓sel_l, ↓sel_r, C1T, C1F, C2T, C2F, C3T, C3F, D1T, D1F, D2T, D2F, D3T, D3F, E1T, E1F, E2T, E2F, E3T, E3F, G1T, G1F, G2T, G2F, G3F, inb_T, inb_L, isB_0, isB_1, isB_b, nI_add, L_add1, L_add2, nI_cl, L_cl, bI_T, bI_F, eq_self, not_true_eq_false, not_false_eq_true, ↓bd_of (M_isLine_in hn.m0 hl hL4), ↓bd_of (M_out (lo := 1) (hi := 30) (L := 1) (H := 30) (by decide) (by decide) q)]
  have hl4 : l < 4 := Nat.lt_of_lt_of_le hl hn.1.1
  have hmm := hn.2.2.1
  refine step_keep (ansF (fun v => stayH (setRt h l v) l d) nI (-1000000) 1 20) hI ?_ (fun s hk => ?_)
  · unfold f_X11_holds
    simp (disch := omega) only [↓lt_eq, ↓reduceIte, ↓un1, ↓un2, ↓un3, ↓un4, ↓bd_some, ↓bind_some', ↓sel_l, ↓sel_r, C1T, C1F, C2T, C2F, C3T, C3F, D1T, D1F, D2T, D2F, D3T, D3F, E1T, E1F, E2T, E2F, E3T, E3F, G1T, G1F, G2T, G2F, G3F, inb_T, inb_L, isB_0, isB_1, isB_b, nI_add, L_add1, L_add2, nI_cl, L_cl, bI_T, bI_F, eq_self, not_true_eq_false, not_false_eq_true, ↓bd_of (X_noLine_in hn.x1 hl hL4)]
    refine Ok.bind (loop_find (fun i (x : Int32 × St) => x.1 = nI i ∧ Fr (blk 27) σ x.2) (fun v => stayH (setRt h l v) l d) 1 20 _ 5000 _ (by omega) ⟨i1, Fr.rf⟩ ?_ ?_)
    · rintro i ⟨v, s⟩ _ hi ⟨q1, q3⟩
      simp only at q1 q3
      subst q1
      obtain ⟨t, e, k1, k2⟩ := X_try (hn.keep (Keep.fr27 q3)).2.1 hn.1
      have k3 := k1.setRt l i
      obtain ⟨⟨b, u⟩, e2, rfl, k5⟩ := X_staysLive k3 (hn.1.setRt l i (by omega)) (l := l) (n := d) hl (by omega) (by show hMin h + d ≤ 20000; omega)
      have k6 : Fr (blk 27) σ u := q3.tr (k2.tr ((Fr.w1 (by unfold blk; omega)).tr k5))
      refine ⟨fun hp => ?_, fun hp hb => ?_⟩
      · rw [hp] at e2
        refine ⟨(nI (i + 1), u), ?_, rfl, k6⟩
        unfold f_X11_holds_L24
        simp (disch := omega) only [↓lt_eq, ↓reduceIte, ↓un1, ↓un2, ↓un3, ↓un4, ↓bd_some, ↓bind_some', ↓sel_l, ↓sel_r, C1T, C1F, C2T, C2F, C3T, C3F, D1T, D1F, D2T, D2F, D3T, D3F, E1T, E1F, E2T, E2F, E3T, E3F, G1T, G1F, G2T, G2F, G3F, inb_T, inb_L, isB_0, isB_1, isB_b, nI_add, L_add1, L_add2, nI_cl, L_cl, bI_T, bI_F, eq_self, not_true_eq_false, not_false_eq_true, ↓bind_of e, ↓bd_of e2]
      · rw [hp] at e2
        refine ⟨.inr (nI i, u), ?_, ?_⟩
        · unfold f_X11_holds_L24
          simp (disch := omega) only [↓lt_eq, ↓reduceIte, ↓un1, ↓un2, ↓un3, ↓un4, ↓bd_some, ↓bind_some', ↓sel_l, ↓sel_r, C1T, C1F, C2T, C2F, C3T, C3F, D1T, D1F, D2T, D2F, D3T, D3F, E1T, E1F, E2T, E2F, E3T, E3F, G1T, G1F, G2T, G2F, G3F, inb_T, inb_L, isB_0, isB_1, isB_b, nI_add, L_add1, L_add2, nI_cl, L_cl, bI_T, bI_F, eq_self, not_true_eq_false, not_false_eq_true, ↓bind_of e, ↓bd_of e2]
        · simp (disch := omega) only [↓lt_eq, ↓reduceIte, ↓un1, ↓un2, ↓un3, ↓un4, ↓bd_some, ↓bind_some', ↓sel_l, ↓sel_r, C1T, C1F, C2T, C2F, C3T, C3F, D1T, D1F, D2T, D2F, D3T, D3F, E1T, E1F, E2T, E2F, E3T, E3F, G1T, G1F, G2T, G2F, G3F, inb_T, inb_L, isB_0, isB_1, isB_b, nI_add, L_add1, L_add2, nI_cl, L_cl, bI_T, bI_F, eq_self, not_true_eq_false, not_false_eq_true]
          exact Ok.ret ⟨(ansF_hit (p := fun v => stayH (setRt h l v) l d) (g := nI) (d := i) hp 20 1 (by omega) (by omega) hb).symm, Keep.fr27 k6⟩
    · rintro ⟨v, s⟩ ⟨q1, q3⟩ hb
      simp only at q1 q3
      subst q1
      refine ⟨.inl s, ?_, ?_⟩
      · unfold f_X11_holds_L24
        simp (disch := omega) only [↓lt_eq, ↓reduceIte, ↓un1, ↓un2, ↓un3, ↓un4, ↓bd_some, ↓bind_some', ↓sel_l, ↓sel_r, C1T, C1F, C2T, C2F, C3T, C3F, D1T, D1F, D2T, D2F, D3T, D3F, E1T, E1F, E2T, E2F, E3T, E3F, G1T, G1F, G2T, G2F, G3F, inb_T, inb_L, isB_0, isB_1, isB_b, nI_add, L_add1, L_add2, nI_cl, L_cl, bI_T, bI_F, eq_self, not_true_eq_false, not_false_eq_true]
      · simp (disch := omega) only [↓lt_eq, ↓reduceIte, ↓un1, ↓un2, ↓un3, ↓un4, ↓bd_some, ↓bind_some', ↓sel_l, ↓sel_r, C1T, C1F, C2T, C2F, C3T, C3F, D1T, D1F, D2T, D2F, D3T, D3F, E1T, E1F, E2T, E2F, E3T, E3F, G1T, G1F, G2T, G2F, G3F, inb_T, inb_L, isB_0, isB_1, isB_b, nI_add, L_add1, L_add2, nI_cl, L_cl, bI_T, bI_F, eq_self, not_true_eq_false, not_false_eq_true]
        exact Ok.ret ⟨(ansF_none 20 1 hb).symm, Keep.fr27 q3⟩
  · have hn := hn.keep hk
    unfold f_X12_holds
    simp (disch := omega) only [↓lt_eq, ↓reduceIte, ↓un1, ↓un2, ↓un3, ↓un4, ↓bd_some, ↓bind_some', ↓sel_l, ↓sel_r, C1T, C1F, C2T, C2F, C3T, C3F, D1T, D1F, D2T, D2F, D3T, D3F, E1T, E1F, E2T, E2F, E3T, E3F, G1T, G1F, G2T, G2F, G3F, inb_T, inb_L, isB_0, isB_1, isB_b, nI_add, L_add1, L_add2, nI_cl, L_cl, bI_T, bI_F, eq_self, not_true_eq_false, not_false_eq_true, ↓bd_of (M_isLine_in hn.m0 hl hL4), ↓bd_of (M_inn (σ := s) (L := 1) (H := 30) (a := 1) (b := 30) (by decide) (by decide) d1 d2 (by decide))]
    refine Ok.bind (loop_find (fun i (x : Int32 × St) => x.1 = nI i ∧ FrM 729 s x.2) (fun v => stayH (setRt h l v) l d) 1 20 _ 5000 _ (by omega) ⟨i1, FrM.rf⟩ ?_ ?_)
    · rintro i ⟨v, s⟩ _ hi ⟨q1, q3⟩
      simp only at q1 q3
      subst q1
      obtain ⟨t, e, k1, k2⟩ := M_try ((hn.keep (Keep.frM q3)).2.2.2.1 (by omega)).2 hn.1
      have k3 := k1.setRt (k := 737 + l) hn.1 l i hl4 (by omega)
      obtain ⟨⟨b, u⟩, e2, rfl, k5⟩ := M_isLiveFor k3 (hn.1.setRt l i (by omega)) (l := l) (n := d) hl (by omega) (by show hMin h + d ≤ 20000; omega)
      have k6 := q3.tr (k2.tr ((FrM.w1 (by omega) (by omega)).tr k5))
      refine ⟨fun hp => ?_, fun hp hb => ?_⟩
      · rw [hp] at e2
        refine ⟨(nI (i + 1), u), ?_, rfl, k6⟩
        unfold f_X12_holds_L25
        simp (disch := omega) only [↓lt_eq, ↓reduceIte, ↓un1, ↓un2, ↓un3, ↓un4, ↓bd_some, ↓bind_some', ↓sel_l, ↓sel_r, C1T, C1F, C2T, C2F, C3T, C3F, D1T, D1F, D2T, D2F, D3T, D3F, E1T, E1F, E2T, E2F, E3T, E3F, G1T, G1F, G2T, G2F, G3F, inb_T, inb_L, isB_0, isB_1, isB_b, nI_add, L_add1, L_add2, nI_cl, L_cl, bI_T, bI_F, eq_self, not_true_eq_false, not_false_eq_true, ↓bind_of e, ↓bd_of e2]
      · rw [hp] at e2
        refine ⟨.inr (nI i, u), ?_, ?_⟩
        · unfold f_X12_holds_L25
          simp (disch := omega) only [↓lt_eq, ↓reduceIte, ↓un1, ↓un2, ↓un3, ↓un4, ↓bd_some, ↓bind_some', ↓sel_l, ↓sel_r, C1T, C1F, C2T, C2F, C3T, C3F, D1T, D1F, D2T, D2F, D3T, D3F, E1T, E1F, E2T, E2F, E3T, E3F, G1T, G1F, G2T, G2F, G3F, inb_T, inb_L, isB_0, isB_1, isB_b, nI_add, L_add1, L_add2, nI_cl, L_cl, bI_T, bI_F, eq_self, not_true_eq_false, not_false_eq_true, ↓bind_of e, ↓bd_of e2]
        · simp (disch := omega) only [↓lt_eq, ↓reduceIte, ↓un1, ↓un2, ↓un3, ↓un4, ↓bd_some, ↓bind_some', ↓sel_l, ↓sel_r, C1T, C1F, C2T, C2F, C3T, C3F, D1T, D1F, D2T, D2F, D3T, D3F, E1T, E1F, E2T, E2F, E3T, E3F, G1T, G1F, G2T, G2F, G3F, inb_T, inb_L, isB_0, isB_1, isB_b, nI_add, L_add1, L_add2, nI_cl, L_cl, bI_T, bI_F, eq_self, not_true_eq_false, not_false_eq_true]
          exact Ok.ret ⟨(ansF_hit (p := fun v => stayH (setRt h l v) l d) (g := nI) (d := i) hp 20 1 (by omega) (by omega) hb).symm, Keep.frM k6⟩
    · rintro ⟨v, s⟩ ⟨q1, q3⟩ hb
      simp only at q1 q3
      subst q1
      refine ⟨.inl s, ?_, ?_⟩
      · unfold f_X12_holds_L25
        simp (disch := omega) only [↓lt_eq, ↓reduceIte, ↓un1, ↓un2, ↓un3, ↓un4, ↓bd_some, ↓bind_some', ↓sel_l, ↓sel_r, C1T, C1F, C2T, C2F, C3T, C3F, D1T, D1F, D2T, D2F, D3T, D3F, E1T, E1F, E2T, E2F, E3T, E3F, G1T, G1F, G2T, G2F, G3F, inb_T, inb_L, isB_0, isB_1, isB_b, nI_add, L_add1, L_add2, nI_cl, L_cl, bI_T, bI_F, eq_self, not_true_eq_false, not_false_eq_true]
      · simp (disch := omega) only [↓lt_eq, ↓reduceIte, ↓un1, ↓un2, ↓un3, ↓un4, ↓bd_some, ↓bind_some', ↓sel_l, ↓sel_r, C1T, C1F, C2T, C2F, C3T, C3F, D1T, D1F, D2T, D2F, D3T, D3F, E1T, E1F, E2T, E2F, E3T, E3F, G1T, G1F, G2T, G2F, G3F, inb_T, inb_L, isB_0, isB_1, isB_b, nI_add, L_add1, L_add2, nI_cl, L_cl, bI_T, bI_F, eq_self, not_true_eq_false, not_false_eq_true]
        exact Ok.ret ⟨(ansF_none 20 1 hb).symm, Keep.frM q3⟩
