/-! bits counted; shed -/
def bcU (m n : Nat) : Nat := sumT (fun k => if m.testBit k then 1 else 0) n
def bcI (x0 : Int32) : Int32 :=
  let v1 := x0 - ((((x0).toUInt32 >>> (((1 : Int32)).toUInt32 &&& Int32.toUInt32 31)).toInt32) &&& (1431655765 : Int32))
  let v2 := (v1 &&& (858993459 : Int32)) + ((((v1).toUInt32 >>> (((2 : Int32)).toUInt32 &&& Int32.toUInt32 31)).toInt32) &&& (858993459 : Int32))
  let v3 := (v2 + (((v2).toUInt32 >>> (((4 : Int32)).toUInt32 &&& Int32.toUInt32 31)).toInt32)) &&& (252645135 : Int32)
  let v4 := v3 + (((v3).toUInt32 >>> (((8 : Int32)).toUInt32 &&& Int32.toUInt32 31)).toInt32)
  let v5 := v4 + (((v4).toUInt32 >>> (((16 : Int32)).toUInt32 &&& Int32.toUInt32 31)).toInt32)
  v5 &&& (63 : Int32)
theorem J_bc0 (x : Int32) (σ : St) : f_J6_bitCount_0f7a4 x σ = some (bcI x, σ) := rfl
theorem bcI_64 : ∀ m, m < 64 → bcI (nI m) = nI (bcU m 6) := by decide +kernel
theorem bcU_6 : ∀ m, m < 64 → bcU m 6 ≤ 6 := by decide +kernel
theorem J_bc {m : Nat} (hm : m < 64) (σ : St) : f_J6_bitCount_0f7a4 (nI m) σ = some (nI (bcU m 6), σ) := by rw [J_bc0, bcI_64 m hm]
theorem M_bits {m : Nat} (hm : m < 64) (σ : St) : f_X12_bits (nI m) σ = some (nI (bcU m 6), σ) := by
  unfold f_X12_bits
  simp only [lt_eq]
  have hloop := loop_up (body := f_X12_bits_L4 (nI m)) (r := (nI (bcU m 6), σ)) 6 5000 (fun i => (nI (bcU m i), nI i, σ)) (by omega) (fun i hi => by
    have e := bit_at m hm i hi
    have e2 : bcU m (i + 1) = bcU m i + if m.testBit i then 1 else 0 := rfl
    unfold f_X12_bits_L4
    cases hv : m.testBit i <;> rw [hv] at e e2 <;> simp (disch := omega) only [↓lt_eq, ↓reduceIte, ↓un1, ↓un2, ↓un3, ↓un4, ↓bd_some, ↓bind_some', ↓sel_l, ↓sel_r, C1T, C1F, C2T, C2F, C3T, C3F, D1T, D1F, D2T, D2F, D3T, D3F, E1T, E1F, E2T, E2F, E3T, E3F, G1T, G1F, G2T, G2F, G3F, inb_T, inb_L, isB_0, isB_1, isB_b, nI_add, L_add1, L_add2, nI_cl, L_cl, bI_T, bI_F, eq_self, not_true_eq_false, not_false_eq_true, e, e2, if_false, if_true, Bool.false_eq_true, Int32.add_zero, Nat.add_zero]) (by
    unfold f_X12_bits_L4
    simp (disch := omega) only [↓lt_eq, ↓reduceIte, ↓un1, ↓un2, ↓un3, ↓un4, ↓bd_some, ↓bind_some', ↓sel_l, ↓sel_r, C1T, C1F, C2T, C2F, C3T, C3F, D1T, D1F, D2T, D2F, D3T, D3F, E1T, E1F, E2T, E2F, E3T, E3F, G1T, G1F, G2T, G2F, G3F, inb_T, inb_L, isB_0, isB_1, isB_b, nI_add, L_add1, L_add2, nI_cl, L_cl, bI_T, bI_F, eq_self, not_true_eq_false, not_false_eq_true])
  have e : ((0 : Int32), (0 : Int32), σ) = (nI (bcU m 0), nI 0, σ) := by rw [nI_0]; rfl
  rw [e, hloop]
  rfl
/-- runs through n minutes, without some things -/
theorem minN_on (h : Hs) : ∀ n, hOn (minN h n) = hOn h
  | 0 => rfl
  | n + 1 => minN_on h n
theorem minN_pg (h : Hs) : ∀ n, hPg (minN h n) = hPg h
  | 0 => rfl
  | n + 1 => minN_pg h n
theorem runs_min (h : Hs) (n t : Nat) : runsH (minN h n) t = (isOnH h t && live (minN h n) (hPg h t)) := by
  unfold runsH isOnH
  rw [minN_on, minN_pg]
theorem off_sub : ∀ t, t < 6 → ∀ m, m < 64 → ∀ a, a < 64 → m &&& (m ^^^ (a &&& (a ^^^ 2 ^ t))) = 0 → m.testBit t = false := by decide +kernel
theorem X_runsWithout {σ : St} {h : Hs} (hx : HX 19 σ h) (hw : WF h) {t n m : Nat} (ht : t < hN h) (hm : m < 64) (hn : n ≤ 60) (hmm : hMin h ≤ 9999) (hs : m.testBit t = false) : Ok (f_X11_runsWithout (nI m) (nI t) (nI n) σ) (fun v => v.1 = bI (runsH h t && stayH (offH h m) (hPg h t) n) ∧ Fr (blk 27) σ v.2) := by
  have hN6 := hw.2.1
  have hw' : ∀ i, i ≤ 60 → WF (minN (offH h m) i) := fun i q => minN_WF (hw.off m) i (by show hMin h + i ≤ 20000; omega)
  have hr : ∀ i, runsH (minN (offH h m) i) t = (isOnH h t && live (minN (offH h m) i) (hPg h t)) := fun i => by
    rw [runs_min]
    congr 1
    show (hOn h &&& (hOn h ^^^ m)).testBit t = (hOn h).testBit t
    rw [off_bit, hs]; simp
  have hr0 : runsH (minN (offH h m) 0) t = runsH h t := hr 0
  unfold f_X11_runsWithout
  refine Ok.bind (Ok.mono (X_try hx hw) (fun u q => ?_))
  have k3 : HX 27 (wr u 27 14 (u 27 14 &&& (nI m ^^^ -1))) (offH h m) := by
    rw [q.1.2.2.2.2.2.2.1, and_not _ hw.on64 m hm]
    exact q.1.setOn _
  have k4 : Fr (blk 27) σ (wr u 27 14 (u 27 14 &&& (nI m ^^^ -1))) := q.2.tr (Fr.w1 (by unfold blk; omega))
  simp only [lt_eq]
  refine Ok.bind (loop_find (fun i (x : Int32 × St) => x.1 = nI i ∧ HX 27 x.2 (minN (offH h m) i) ∧ Fr (blk 27) σ x.2) (fun k => !runsH (minN (offH h m) k) t) 0 n _ 5000 _ (by omega) ⟨nI_0.symm, k3, k4⟩ ?_ ?_)
  · rintro i ⟨v, s⟩ _ hi ⟨q1, q2, q3⟩
    simp only at q1 q2 q3
    subst q1
    have e1 := X_runs q2 (hw' i (by omega)) (t := t) (by rw [minN_N]; exact ht)
    refine ⟨fun hp => ?_, fun hp hb => ?_⟩
    · obtain ⟨t', e, k1, k2⟩ := X_passMinute q2 (hw' i (by omega))
      have hv : runsH (minN (offH h m) i) t = true := by simpa using hp
      rw [hv] at e1
      refine ⟨(nI (i + 1), t'), ?_, rfl, k1, q3.tr k2⟩
      unfold f_X11_runsWithout_L29
      simp (disch := omega) only [↓lt_eq, ↓reduceIte, ↓un1, ↓un2, ↓un3, ↓un4, ↓bd_some, ↓bind_some', ↓sel_l, ↓sel_r, C1T, C1F, C2T, C2F, C3T, C3F, D1T, D1F, D2T, D2F, D3T, D3F, E1T, E1F, E2T, E2F, E3T, E3F, G1T, G1F, G2T, G2F, G3F, inb_T, inb_L, isB_0, isB_1, isB_b, nI_add, L_add1, L_add2, nI_cl, L_cl, bI_T, bI_F, eq_self, not_true_eq_false, not_false_eq_true, ↓bd_of e1, ↓bind_of e]
    · have hv : runsH (minN (offH h m) i) t = false := by simpa using hp
      rw [hv] at e1
      refine ⟨.inr s, ?_, ?_⟩
      · unfold f_X11_runsWithout_L29
        simp (disch := omega) only [↓lt_eq, ↓reduceIte, ↓un1, ↓un2, ↓un3, ↓un4, ↓bd_some, ↓bind_some', ↓sel_l, ↓sel_r, C1T, C1F, C2T, C2F, C3T, C3F, D1T, D1F, D2T, D2F, D3T, D3F, E1T, E1F, E2T, E2F, E3T, E3F, G1T, G1F, G2T, G2F, G3F, inb_T, inb_L, isB_0, isB_1, isB_b, nI_add, L_add1, L_add2, nI_cl, L_cl, bI_T, bI_F, eq_self, not_true_eq_false, not_false_eq_true, ↓bd_of e1]
      · simp (disch := omega) only [↓lt_eq, ↓reduceIte, ↓un1, ↓un2, ↓un3, ↓un4, ↓bd_some, ↓bind_some', ↓sel_l, ↓sel_r, C1T, C1F, C2T, C2F, C3T, C3F, D1T, D1F, D2T, D2F, D3T, D3F, E1T, E1F, E2T, E2F, E3T, E3F, G1T, G1F, G2T, G2F, G3F, inb_T, inb_L, isB_0, isB_1, isB_b, nI_add, L_add1, L_add2, nI_cl, L_cl, bI_T, bI_F, eq_self, not_true_eq_false, not_false_eq_true]
        refine Ok.ret ⟨?_, q3⟩
        show (0 : Int32) = _
        have : (runsH h t && stayH (offH h m) (hPg h t) n) = false := by
          cases i with
          | zero => rw [← hr0, hv]; rfl
          | succ i =>
            rw [hr (i + 1)] at hv
            cases ho : isOnH h t with
            | false => unfold runsH; rw [ho]; rfl
            | true =>
              rw [ho, Bool.true_and] at hv
              unfold stayH
              rw [allB_f (k := i) hv n (by omega), Bool.and_false]
        rw [this]; rfl
  · rintro ⟨v, s⟩ ⟨q1, q2, q3⟩ hb
    simp only [Nat.zero_add] at q1 q2 q3 hb
    subst q1
    have e1 := X_runs q2 (hw' n (by omega)) (t := t) (by rw [minN_N]; exact ht)
    refine ⟨.inl s, ?_, ?_⟩
    · unfold f_X11_runsWithout_L29
      simp (disch := omega) only [↓lt_eq, ↓reduceIte, ↓un1, ↓un2, ↓un3, ↓un4, ↓bd_some, ↓bind_some', ↓sel_l, ↓sel_r, C1T, C1F, C2T, C2F, C3T, C3F, D1T, D1F, D2T, D2F, D3T, D3F, E1T, E1F, E2T, E2F, E3T, E3F, G1T, G1F, G2T, G2F, G3F, inb_T, inb_L, isB_0, isB_1, isB_b, nI_add, L_add1, L_add2, nI_cl, L_cl, bI_T, bI_F, eq_self, not_true_eq_false, not_false_eq_true]
    · simp (disch := omega) only [↓lt_eq, ↓reduceIte, ↓un1, ↓un2, ↓un3, ↓un4, ↓bd_some, ↓bind_some', ↓sel_l, ↓sel_r, C1T, C1F, C2T, C2F, C3T, C3F, D1T, D1F, D2T, D2F, D3T, D3F, E1T, E1F, E2T, E2F, E3T, E3F, G1T, G1F, G2T, G2F, G3F, inb_T, inb_L, isB_0, isB_1, isB_b, nI_add, L_add1, L_add2, nI_cl, L_cl, bI_T, bI_F, eq_self, not_true_eq_false, not_false_eq_true, ↓bd_of e1]
      refine Ok.ret ⟨?_, q3⟩
      show bI _ = bI _
      congr 1
      have hb : ∀ k, k < n → runsH (minN (offH h m) k) t = true := fun k q => by simpa using hb k (by omega) q
      cases hv : runsH (minN (offH h m) n) t with
      | false =>
        cases n with
        | zero => rw [← hr0, hv]; rfl
        | succ n =>
          rw [hr (n + 1)] at hv
          have h0 := hb 0 (by omega)
          rw [hr 0] at h0
          have ho : isOnH h t = true := by
            cases z : isOnH h t
            · rw [z] at h0; exact absurd h0 (by simp)
            · rfl
          rw [ho, Bool.true_and] at hv
          unfold stayH
          rw [allB_f (k := n) hv (n + 1) (by omega), Bool.and_false]
      | true =>
        have hall : ∀ k, k ≤ n → runsH (minN (offH h m) k) t = true := fun k q => by
          by_cases z : k = n
          · rw [z]; exact hv
          · exact hb k (by omega)
        rw [← hr0, hall 0 (by omega)]
        unfold stayH
        rw [allB_t n (fun k q => ?_)]
        · rfl
        · have := hall (k + 1) (by omega)
          rw [hr (k + 1)] at this
          cases z : isOnH h t
          · rw [z] at this; exact absurd this (by simp)
          · rw [z, Bool.true_and] at this; exact this
