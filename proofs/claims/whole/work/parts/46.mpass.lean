/-! the reference's minute, whole -/
theorem sumT_add (f g : Nat → Nat) : ∀ n, sumT (fun i => f i + g i) n = sumT f n + sumT g n
  | 0 => rfl
  | n + 1 => by
    show sumT (fun i => f i + g i) n + (f n + g n) = (sumT f n + f n) + (sumT g n + g n)
    rw [sumT_add f g n]
    omega
theorem sumT_zero : ∀ n, sumT (fun _ => 0) n = 0
  | 0 => rfl
  | n + 1 => by show sumT (fun _ => 0) n + 0 = 0; rw [sumT_zero n]
theorem sumT_one (c : Bool) (p x : Nat) : ∀ n, sumT (fun l => if c && decide (p = l) then x else 0) n = if c && decide (p < n) then x else 0
  | 0 => by simp [sumT]
  | n + 1 => by
    show sumT (fun l => if c && decide (p = l) then x else 0) n + (if c && decide (p = n) then x else 0) = _
    rw [sumT_one c p x n]
    cases c
    · simp
    · by_cases q : p < n
      · simp [q, show ¬ p = n by omega, show p < n + 1 by omega]
      · by_cases q2 : p = n
        · simp [q2]
        · simp [q, q2, show ¬ p < n + 1 by omega]
theorem sum_lines {h : Hs} (hw : WF h) : sumT (flowH h) (hL h) = allH h := by
  have key : ∀ n, n ≤ hN h → sumT (fun l => flowN h l n) (hL h) = allN h n := by
    intro n
    induction n with
    | zero => intro _; exact sumT_zero _
    | succ n ih =>
      intro hn
      have e : sumT (fun l => flowN h l (n + 1)) (hL h) = sumT (fun l => flowN h l n + (if runsH h n && decide (hPg h n = l) then hLd h n else 0)) (hL h) := rfl
      rw [e, sumT_add, ih (by omega), sumT_one]
      have hp := (hw.2.2.2.2.2.2.2 n (by omega)).1
      show allN h n + (if (runsH h n && decide (hPg h n < hL h)) = true then hLd h n else 0) = allN h n + (if runsH h n = true then hLd h n else 0)
      rw [decide_eq_true hp, Bool.and_true]
  exact key (hN h) (Nat.le_refl _)
theorem sumT_mono (f : Nat → Nat) : ∀ n m, n ≤ m → sumT f n ≤ sumT f m := by
  intro n m h
  induction m with
  | zero => rw [show n = 0 by omega]; exact Nat.le_refl _
  | succ m ih =>
    rcases Nat.lt_or_ge n (m + 1) with q | q
    · have := ih (by omega)
      show sumT f n ≤ sumT f m + f m
      omega
    · rw [show n = m + 1 by omega]; exact Nat.le_refl _
theorem HM.frame {b d : Nat} {σ s : St} {h : Hs} (hm : HM b d σ h) (h0 : s 260 = σ 260) (h1 : s 261 = σ 261) : HM b d s h := by
  unfold HM
  rw [h0, h1]
  exact hm
/-- only the slots from b on, 27 of them, and the flows may change -/
def FrM (b : Nat) (σ s : St) : Prop := (∀ a, a ≠ 260 → a ≠ 273 → s a = σ a) ∧ ∀ k, k < b ∨ b + 27 ≤ k → s 260 k = σ 260 k
theorem FrM.rf {b : Nat} {σ : St} : FrM b σ σ := ⟨fun _ _ _ => rfl, fun _ _ => rfl⟩
theorem FrM.tr {b : Nat} {σ s t : St} (h1 : FrM b σ s) (h2 : FrM b s t) : FrM b σ t := ⟨fun a q1 q2 => (h2.1 a q1 q2).trans (h1.1 a q1 q2), fun k q => (h2.2 k q).trans (h1.2 k q)⟩
theorem FrM.w1 {b k : Nat} {σ : St} {v : Int32} (h1 : b ≤ k) (h2 : k < b + 27) : FrM b σ (wr σ 260 k v) := ⟨fun a q1 q2 => wr_a q1, fun j q => wr_ne _ (by omega)⟩
theorem M_passes {b : Nat} {σ : St} {h : Hs} (hm : HM b 0 σ h) (hw : WF h) (hb : b ≤ 729) : ∃ s, f_X12_passes (nI b) σ = some s ∧ HM b 0 s (minuteH h) ∧ FrM b σ s := by
  have hL4 := hw.1
  have hall := allH_le hw
  have hsum := sum_lines hw
  unfold f_X12_passes
  rw [M_liveOnes hm hw hb]
  simp only [bd_some, lt_eq]
  obtain ⟨⟨r, s1⟩, e1, hr, hfl, hf1⟩ := loop_n (body := f_X12_passes_L11 (nI b)) (fun i (x : Int32 × Int32 × St) => x.2.1 = nI i ∧ x.1 = nI (sumT (flowH h) i) ∧ (∀ l, l < i → x.2.2 273 l = nI (flowH h l)) ∧ ∀ a, a ≠ 273 → x.2.2 a = σ a) (fun x => x.1 = nI (allH h) ∧ (∀ l, l < hL h → x.2 273 l = nI (flowH h l)) ∧ ∀ a, a ≠ 273 → x.2 a = σ a) (hL h) 5000 ((0 : Int32), (0 : Int32), σ) (by omega) ⟨nI_0.symm, nI_0.symm, fun l q => absurd q (by omega), fun _ _ => rfl⟩ (by
      rintro i ⟨v3, v4, s⟩ hi ⟨q1, q2, q3, q4⟩
      simp only at q1 q2 q3 q4
      subst q1 q2
      have hms := hm.frame (s := s) (q4 260 (by decide)) (q4 261 (by decide))
      have hL1 : s 261 0 = nI (hL h) := hms.1
      have hc : ¬ nI (hL h) ≤ nI i := by rw [nI_leN (by omega) (by omega)]; omega
      have hin : inb (nI i) 4 := inb_nI (by omega) (by decide)
      refine ⟨(nI (sumT (flowH h) (i + 1)), nI (i + 1), wr s 273 i (nI (flowH h i))), ?_, rfl, rfl, ?_, ?_⟩
      · unfold f_X12_passes_L11
        simp only [un3, if_pos inb0, c0, hL1, if_neg hc, M_flowOf hms hw hb hi, bd_some, if_pos hin, nI_cl (show i < 2147483648 by omega), lt_eq, wr_same, nI_add, nI_1]
        rfl
      · intro l hl
        simp only [wr_eq]
        by_cases q : l = i
        · simp [q]
        · simp [q]; exact q3 l (by omega)
      · intro a ha
        simp only [wr_a ha]
        exact q4 a ha) (by
      rintro ⟨v3, v4, s⟩ ⟨q1, q2, q3, q4⟩
      simp only at q1 q2 q3 q4
      subst q1 q2
      have hms := hm.frame (s := s) (q4 260 (by decide)) (q4 261 (by decide))
      have hL1 : s 261 0 = nI (hL h) := hms.1
      have hc : nI (hL h) ≤ nI (hL h) := by rw [nI_leN (by omega) (by omega)]; omega
      refine ⟨(nI (sumT (flowH h) (hL h)), s), ?_, by rw [hsum], q3, q4⟩
      unfold f_X12_passes_L11
      simp only [un3, if_pos inb0, c0, hL1, if_pos hc])
  rw [e1]
  simp only at hr hfl hf1
  subst hr
  simp only [bind_some', un2]
  obtain ⟨s6, e6, hm6, hf6⟩ := loop_n (body := f_X12_passes_L55 (nI b) (orT (live h) (hL h))) (fun i (x : Int32 × St) => x.1 = nI i ∧ HM b 0 x.2 (mixH h i) ∧ (∀ l, l < hL h → x.2 273 l = nI (flowH h l)) ∧ FrM b σ x.2) (fun s => HM b 0 s (mixH h (hL h)) ∧ FrM b σ s) (hL h) 5000 ((0 : Int32), s1) (by omega) ⟨nI_0.symm, by
      have e : mixH h 0 = mkH (hL h) (hN h) (hMain h) (hMin h) (hUsed h) (hOn h) (hIn h) (hKd h) (hRt h) (hHt h) (hDd h) (hPg h) (hLd h) := by
        unfold mixH
        simp only [Nat.not_lt_zero, if_false]
      rw [e]
      exact hm.frame (hf1 260 (by decide)) (hf1 261 (by decide)), hfl, fun a q1 q2 => hf1 a q2, fun k _ => congrFun (hf1 260 (by decide)) k⟩ (by
      rintro i ⟨v, s⟩ hi ⟨q1, q2, q3, q4⟩
      simp only at q1 q2 q3 q4
      subst q1
      have hL1 : s 261 0 = nI (hL h) := q2.1
      have hc : ¬ nI (hL h) ≤ nI i := by rw [nI_leN (by omega) (by omega)]; omega
      have hin : inb (nI i) 4 := inb_nI (by omega) (by decide)
      have hfi := flowH_le hw i
      refine ⟨(nI (i + 1), lineM s b i (passHt h i (flowH h i)) (passDd h i (flowH h i))), ?_, rfl, ?_, ?_, ?_⟩
      · unfold f_X12_passes_L55
        simp only [un2, if_pos inb0, c0, hL1, if_neg hc, M_has (show hL h ≤ 6 by omega) hi, bd_some, if_pos hin, nI_cl (show i < 2147483648 by omega), q3 i hi, lt_eq, nI_1]
        cases hv : live h i with
        | false =>
          have hp := M_cools (fl := flowH h i) q2 (mix_WF hw i) hb (l := i) hi (by rw [mix_live]; exact hv)
          rw [mix_ht, mix_dd] at hp
          rw [if_pos (by decide : bI false = 0), hp]
          rfl
        | true =>
          have hp := M_heats (fl := flowH h i) q2 (mix_WF hw i) hb (l := i) hi (by omega) (by rw [mix_live]; exact hv)
          rw [mix_ht, mix_dd] at hp
          rw [if_neg (by decide : ¬ bI true = 0), hp]
          rfl
      · rw [← mix_step]
        exact q2.line i _ _ hL4 (by omega)
      · intro l hl
        simp only
        unfold lineM
        rw [wr_a (by decide), wr_a (by decide)]
        exact q3 l hl
      · refine q4.tr ?_
        unfold lineM
        exact (FrM.w1 (by omega) (by omega)).tr (FrM.w1 (by omega) (by omega))) (by
      rintro ⟨v, s⟩ ⟨q1, q2, q3, q4⟩
      simp only at q1 q2 q3 q4
      subst q1
      have hL1 : s 261 0 = nI (hL h) := q2.1
      have hc : nI (hL h) ≤ nI (hL h) := by rw [nI_leN (by omega) (by omega)]; omega
      refine ⟨s, ?_, q2, q4⟩
      unfold f_X12_passes_L55
      simp only [un2, if_pos inb0, c0, hL1, if_pos hc])
  rw [e6]
  simp only [bind_some', un1]
  obtain ⟨g1, g2, g3, g4, g5, g6, gl, gt⟩ := hm6
  have g3 : s6 261 2 = nI (hMain h) := g3
  have g4 : s6 260 (b + 26) = nI (hMin h) := g4
  have g5 : s6 260 (b + 25) = nI (hUsed h) := g5
  have g6 : s6 260 (b + 24) = bI (!hIn h) := g6
  have hle : nI (allH h) ≤ nI (hMain h) ↔ allH h ≤ hMain h := nI_leN (by omega) (by have := hw.2.2.1; omega)
  have hU := hw.2.2.2.2.1
  have hM := hw.2.2.2.1
  have n24 : inb (nI (b + 24)) 756 := inb_nI (by omega) (by decide)
  have n25 : inb (nI (b + 25)) 756 := inb_nI (by omega) (by decide)
  have n26 : inb (nI (b + 26)) 756 := inb_nI (by omega) (by decide)
  have e24 : nI b + (24 : Int32) = nI (b + 24) := by rw [i24, nI_add]
  have e25 : nI b + (25 : Int32) = nI (b + 25) := by rw [i25, nI_add]
  have e26 : nI b + (26 : Int32) = nI (b + 26) := by rw [i26, nI_add]
  have w25 : ∀ x, wr s6 260 (b + 24) x 260 (b + 25) = nI (hUsed h) := fun x => by rw [wr_ne _ (by omega)]; exact g5
  have w26 : ∀ x y, wr (wr s6 260 (b + 24) x) 260 (b + 25) y 260 (b + 26) = nI (hMin h) := fun x y => by rw [wr_ne _ (by omega), wr_ne _ (by omega)]; exact g4
  have hub : nI (hUsed h + allH h) ≤ (99999 : Int32) ↔ hUsed h + allH h ≤ 99999 := by rw [show (99999 : Int32) = nI 99999 by decide, nI_leN (by omega) (by omega)]
  have fin : ∀ x : Int32, (if nI (hUsed h + allH h) ≤ (99999 : Int32) then some (wr (wr (wr s6 260 (b + 24) x) 260 (b + 25) (nI (hUsed h + allH h))) 260 (b + 26) (nI (hMin h + 1))) else some (wr (wr (wr s6 260 (b + 24) x) 260 (b + 25) 99999) 260 (b + 26) (nI (hMin h + 1)))) = some (wr (wr (wr s6 260 (b + 24) x) 260 (b + 25) (nI (min 99999 (hUsed h + allH h)))) 260 (b + 26) (nI (hMin h + 1))) := by
    intro x
    by_cases q : hUsed h + allH h ≤ 99999
    · rw [if_pos (hub.mpr q), Nat.min_eq_right q]
    · rw [if_neg (fun z => q (hub.mp z)), Nat.min_eq_left (by omega), show nI 99999 = (99999 : Int32) by decide]
  have out : ∃ x : Int32, x = bI (!(hIn h && decide (allH h ≤ hMain h))) := ⟨_, rfl⟩
  refine ⟨wr (wr (wr s6 260 (b + 24) (bI (!(hIn h && decide (allH h ≤ hMain h))))) 260 (b + 25) (nI (min 99999 (hUsed h + allH h)))) 260 (b + 26) (nI (hMin h + 1)), ?_, ?_, ?_⟩
  · simp only [lt_eq, e24, e25, e26, if_pos inb2, c2, if_pos n24, if_pos n25, if_pos n26, nI_cl (show b + 24 < 2147483648 by omega), nI_cl (show b + 25 < 2147483648 by omega), nI_cl (show b + 26 < 2147483648 by omega), g3, g6, hle, w25, w26, nI_add, nI_1]
    by_cases q : allH h ≤ hMain h
    · rw [if_pos q]
      refine (fin _).trans ?_
      simp [q]
    · rw [if_neg q]
      refine (fin _).trans ?_
      simp [q, bI]
  · have o1 : ∀ k, wr (wr (wr s6 260 (b + 24) (bI (!(hIn h && decide (allH h ≤ hMain h))))) 260 (b + 25) (nI (min 99999 (hUsed h + allH h)))) 260 (b + 26) (nI (hMin h + 1)) 261 k = s6 261 k := fun k => by
      rw [wr_ne _ (by omega), wr_ne _ (by omega), wr_ne _ (by omega)]
    have o : ∀ k, k ≠ b + 24 → k ≠ b + 25 → k ≠ b + 26 → wr (wr (wr s6 260 (b + 24) (bI (!(hIn h && decide (allH h ≤ hMain h))))) 260 (b + 25) (nI (min 99999 (hUsed h + allH h)))) 260 (b + 26) (nI (hMin h + 1)) 260 k = s6 260 k := fun k z1 z2 z3 => by
      rw [wr_ne _ (by omega), wr_ne _ (by omega), wr_ne _ (by omega)]
    have hN6 := hw.2.1
    refine ⟨?_, ?_, ?_, ?_, ?_, ?_, fun l hl => ⟨?_, ?_, ?_, ?_⟩, fun t ht => ⟨?_, ?_, ?_⟩⟩
    · rw [o1]; exact g1
    · rw [o1]; exact g2
    · rw [o1]; exact g3
    · rw [wr_same]; rfl
    · rw [wr_ne _ (by omega), wr_same]; rfl
    · rw [wr_ne _ (by omega), wr_ne _ (by omega), wr_same]; rfl
    · rw [o1]; exact (gl l hl).1
    · have hl' : l < hL h := hl
      rw [o _ (by omega) (by omega) (by omega)]; exact (gl l hl).2.1
    · have hl' : l < hL h := hl
      rw [o _ (by omega) (by omega) (by omega), (gl l hl).2.2.1]
      show nI (if l < hL h then passHt h l (flowH h l) else hHt h l) = nI (passHt h l (flowH h l))
      rw [if_pos hl']
    · have hl' : l < hL h := hl
      rw [o _ (by omega) (by omega) (by omega), (gl l hl).2.2.2]
      show nI (if l < hL h then passDd h l (flowH h l) else hDd h l) = nI (passDd h l (flowH h l))
      rw [if_pos hl']
    · have ht' : t < hN h := ht
      rw [o _ (by omega) (by omega) (by omega)]; exact (gt t ht).1
    · rw [o1]; exact (gt t ht).2.1
    · have ht' : t < hN h := ht
      rw [o _ (by omega) (by omega) (by omega)]; exact (gt t ht).2.2
  · exact hf6.tr ((FrM.w1 (by omega) (by omega)).tr ((FrM.w1 (by omega) (by omega)).tr (FrM.w1 (by omega) (by omega))))
