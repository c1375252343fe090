/-! houses copied: the reference's slots, the class's become -/
/-- 27 slots from b on are copied to those from c on -/
theorem M_copies {b c : Nat} {σ : St} (hb : b ≤ 729) (hc : c ≤ 729) (hd : b + 27 ≤ c ∨ c + 27 ≤ b) : ∃ s, f_X12_copies (nI b) (nI c) σ = some s ∧ (∀ k, k < 27 → s 260 (c + k) = σ 260 (b + k)) ∧ (∀ a, a ≠ 260 → s a = σ a) ∧ ∀ k, k < c ∨ c + 27 ≤ k → s 260 k = σ 260 k := by
  unfold f_X12_copies
  simp only [lt_eq]
  obtain ⟨s, e, h1, h2, h3⟩ := loop_n (body := f_X12_copies_L2 (nI b) (nI c)) (fun i (x : Int32 × St) => x.1 = nI i ∧ (∀ k, k < i → x.2 260 (c + k) = σ 260 (b + k)) ∧ (∀ a, a ≠ 260 → x.2 a = σ a) ∧ ∀ k, k < c ∨ c + 27 ≤ k → x.2 260 k = σ 260 k) (fun s => (∀ k, k < 27 → s 260 (c + k) = σ 260 (b + k)) ∧ (∀ a, a ≠ 260 → s a = σ a) ∧ ∀ k, k < c ∨ c + 27 ≤ k → s 260 k = σ 260 k) 27 5000 ((0 : Int32), σ) (by omega) ⟨nI_0.symm, fun k q => absurd q (by omega), fun _ _ => rfl, fun _ _ => rfl⟩ (by
      rintro i ⟨v, s⟩ hi ⟨q1, q2, q3, q4⟩
      simp only at q1 q2 q3 q4
      subst q1
      have hcn : ¬ (27 : Int32) ≤ nI i := by rw [i27, nI_leN (by omega) (by omega)]; omega
      have n1 : inb (nI (b + i)) 756 := inb_nI (by omega) (by decide)
      have n2 : inb (nI (c + i)) 756 := inb_nI (by omega) (by decide)
      refine ⟨(nI (i + 1), wr s 260 (c + i) (σ 260 (b + i))), ?_, rfl, ?_, ?_, ?_⟩
      · unfold f_X12_copies_L2
        simp only [un2, if_neg hcn, nI_add, if_pos n1, if_pos n2, nI_cl (show b + i < 2147483648 by omega), nI_cl (show c + i < 2147483648 by omega), lt_eq, nI_1, q4 (b + i) (by omega)]
      · intro k hk
        simp only [wr_eq]
        by_cases q : k = i
        · simp [q]
        · rw [if_neg (by omega)]
          exact q2 k (by omega)
      · intro a ha
        simp only [wr_a ha]
        exact q3 a ha
      · intro k hk
        simp only [wr_eq]
        rw [if_neg (by omega)]
        exact q4 k hk) (by
      rintro ⟨v, s⟩ ⟨q1, q2, q3, q4⟩
      simp only at q1 q2 q3 q4
      subst q1
      have hcn : (27 : Int32) ≤ nI 27 := by rw [i27, nI_leN (by omega) (by omega)]; omega
      refine ⟨s, ?_, q2, q3, q4⟩
      unfold f_X12_copies_L2
      simp only [un2, if_pos hcn])
  rw [e]
  exact ⟨s, rfl, h1, h2, h3⟩
theorem HM.copied {b c d : Nat} {σ s : St} {h : Hs} (hm : HM b d σ h) (hw : WF h) (h1 : ∀ k, k < 27 → s 260 (c + k) = σ 260 (b + k)) (h2 : s 261 = σ 261) : HM c d s h := by
  obtain ⟨g1, g2, g3, g4, g5, g6, gl, gt⟩ := hm
  have hL4 := hw.1
  have hN6 := hw.2.1
  refine ⟨by rw [h2]; exact g1, by rw [h2]; exact g2, by rw [h2]; exact g3, by rw [h1 26 (by omega)]; exact g4, by rw [h1 25 (by omega)]; exact g5, by rw [h1 24 (by omega)]; exact g6, fun l hl => ⟨?_, ?_, ?_, ?_⟩, fun t ht => ⟨?_, ?_, ?_⟩⟩
  · rw [h2]; exact (gl l hl).1
  · rw [Nat.add_assoc, h1 (8 + l) (by omega), ← Nat.add_assoc]; exact (gl l hl).2.1
  · rw [h1 l (by omega)]; exact (gl l hl).2.2.1
  · rw [Nat.add_assoc, h1 (4 + l) (by omega), ← Nat.add_assoc]; exact (gl l hl).2.2.2
  · rw [Nat.add_assoc, h1 (12 + t) (by omega), ← Nat.add_assoc]; exact (gt t ht).1
  · rw [h2]; exact (gt t ht).2.1
  · rw [Nat.add_assoc, h1 (18 + t) (by omega), ← Nat.add_assoc]; exact (gt t ht).2.2
theorem up_a {σ : St} {a b : Nat} {f : Nat → Int32} (h : b ≠ a) : va_up σ a f b = σ b := by unfold va_up; rw [if_neg h]
theorem up_s {σ : St} {a : Nat} {f : Nat → Int32} : va_up σ a f a = f := by unfold va_up; rw [if_pos rfl]
theorem cpy4 {f g : Nat → Int32} {k : Nat} (h : k < 4) : va_cpy f g (0 : Int32).toNatClampNeg (0 : Int32).toNatClampNeg (4 : Int32).toNatClampNeg k = f k := by
  have e0 : (0 : Int32).toNatClampNeg = 0 := by decide
  have e4 : (4 : Int32).toNatClampNeg = 4 := by decide
  unfold va_cpy
  rw [e0, e4, if_pos (by omega), Nat.zero_add, Nat.sub_zero]
theorem cpy6 {f g : Nat → Int32} {k : Nat} (h : k < 6) : va_cpy f g (0 : Int32).toNatClampNeg (0 : Int32).toNatClampNeg (6 : Int32).toNatClampNeg k = f k := by
  have e0 : (0 : Int32).toNatClampNeg = 0 := by decide
  have e6 : (6 : Int32).toNatClampNeg = 6 := by decide
  unfold va_cpy
  rw [e0, e6, if_pos (by omega), Nat.zero_add, Nat.sub_zero]
theorem X_become {a c : Nat} {σ : St} {h : Hs} (hx : HX c σ h) (hw : WF h) (hd : c + 8 ≤ a ∨ a + 8 ≤ c) : ∃ s, f_X3_become a c σ = some s ∧ HX a s h ∧ Fr (blk a) σ s := by
  have hL4 := hw.1
  have hN6 := hw.2.1
  obtain ⟨s1, e1⟩ : ∃ s : St, s = wr σ a 1 (σ c 1) := ⟨_, rfl⟩
  obtain ⟨s2, e2⟩ : ∃ s : St, s = wr s1 a 2 (s1 c 2) := ⟨_, rfl⟩
  obtain ⟨s3, e3⟩ : ∃ s : St, s = wr s2 a 3 (s2 c 3) := ⟨_, rfl⟩
  obtain ⟨s4, e4⟩ : ∃ s : St, s = wr s3 a 4 (s3 c 4) := ⟨_, rfl⟩
  obtain ⟨s5, e5⟩ : ∃ s : St, s = wr s4 a 5 (s4 c 5) := ⟨_, rfl⟩
  obtain ⟨s6, e6⟩ : ∃ s : St, s = wr s5 a 6 (s5 c 6) := ⟨_, rfl⟩
  obtain ⟨s7, e7⟩ : ∃ s : St, s = wr s6 a 14 (s6 c 14) := ⟨_, rfl⟩
  obtain ⟨s8, e8⟩ : ∃ s : St, s = va_up s7 (a + 1) (va_cpy (s7 (c + 1)) (s7 (a + 1)) (0 : Int32).toNatClampNeg (0 : Int32).toNatClampNeg (4 : Int32).toNatClampNeg) := ⟨_, rfl⟩
  obtain ⟨s9, e9⟩ : ∃ s : St, s = va_up s8 (a + 2) (va_cpy (s8 (c + 2)) (s8 (a + 2)) (0 : Int32).toNatClampNeg (0 : Int32).toNatClampNeg (4 : Int32).toNatClampNeg) := ⟨_, rfl⟩
  obtain ⟨s10, e10⟩ : ∃ s : St, s = va_up s9 (a + 3) (va_cpy (s9 (c + 3)) (s9 (a + 3)) (0 : Int32).toNatClampNeg (0 : Int32).toNatClampNeg (4 : Int32).toNatClampNeg) := ⟨_, rfl⟩
  obtain ⟨s11, e11⟩ : ∃ s : St, s = va_up s10 (a + 4) (va_cpy (s10 (c + 4)) (s10 (a + 4)) (0 : Int32).toNatClampNeg (0 : Int32).toNatClampNeg (4 : Int32).toNatClampNeg) := ⟨_, rfl⟩
  obtain ⟨s12, e12⟩ : ∃ s : St, s = va_up s11 (a + 6) (va_cpy (s11 (c + 6)) (s11 (a + 6)) (0 : Int32).toNatClampNeg (0 : Int32).toNatClampNeg (6 : Int32).toNatClampNeg) := ⟨_, rfl⟩
  obtain ⟨s13, e13⟩ : ∃ s : St, s = va_up s12 (a + 7) (va_cpy (s12 (c + 7)) (s12 (a + 7)) (0 : Int32).toNatClampNeg (0 : Int32).toNatClampNeg (6 : Int32).toNatClampNeg) := ⟨_, rfl⟩
  have r0 : ∀ i, i < 8 → σ (c + i) = σ (c + i) := fun _ _ => rfl
  have r1 : ∀ i, i < 8 → s1 (c + i) = σ (c + i) := fun i hi => by rw [e1, wr_a (by omega)]
  have r2 : ∀ i, i < 8 → s2 (c + i) = σ (c + i) := fun i hi => by rw [e2, wr_a (by omega)]; exact r1 i hi
  have r3 : ∀ i, i < 8 → s3 (c + i) = σ (c + i) := fun i hi => by rw [e3, wr_a (by omega)]; exact r2 i hi
  have r4 : ∀ i, i < 8 → s4 (c + i) = σ (c + i) := fun i hi => by rw [e4, wr_a (by omega)]; exact r3 i hi
  have r5 : ∀ i, i < 8 → s5 (c + i) = σ (c + i) := fun i hi => by rw [e5, wr_a (by omega)]; exact r4 i hi
  have r6 : ∀ i, i < 8 → s6 (c + i) = σ (c + i) := fun i hi => by rw [e6, wr_a (by omega)]; exact r5 i hi
  have r7 : ∀ i, i < 8 → s7 (c + i) = σ (c + i) := fun i hi => by rw [e7, wr_a (by omega)]; exact r6 i hi
  have r8 : ∀ i, i < 8 → s8 (c + i) = σ (c + i) := fun i hi => by rw [e8, up_a (by omega)]; exact r7 i hi
  have r9 : ∀ i, i < 8 → s9 (c + i) = σ (c + i) := fun i hi => by rw [e9, up_a (by omega)]; exact r8 i hi
  have r10 : ∀ i, i < 8 → s10 (c + i) = σ (c + i) := fun i hi => by rw [e10, up_a (by omega)]; exact r9 i hi
  have r11 : ∀ i, i < 8 → s11 (c + i) = σ (c + i) := fun i hi => by rw [e11, up_a (by omega)]; exact r10 i hi
  have r12 : ∀ i, i < 8 → s12 (c + i) = σ (c + i) := fun i hi => by rw [e12, up_a (by omega)]; exact r11 i hi
  have r13 : ∀ i, i < 8 → s13 (c + i) = σ (c + i) := fun i hi => by rw [e13, up_a (by omega)]; exact r12 i hi
  have hB : isB (s5 c 6) := by
    have q : s5 c = σ c := r5 0 (by omega)
    rw [q, hx.2.2.2.2.2.1]
    exact isB_bI _
  have run : f_X3_become a c σ = some s13 := by
    unfold f_X3_become
    simp only [lt_eq]
    rw [← e1]
    rw [← e2]
    rw [← e3]
    rw [← e4]
    rw [← e5]
    rw [if_pos hB]
    rw [← e6]
    rw [← e7]
    rw [← e8]
    rw [← e9]
    rw [← e10]
    rw [← e11]
    rw [← e12]
    rw [← e13]
  have o8 : s13 a = s7 a := by rw [e13, up_a (by omega), e12, up_a (by omega), e11, up_a (by omega), e10, up_a (by omega), e9, up_a (by omega), e8, up_a (by omega)]
  have v1 : s13 a 1 = σ c 1 := by
    rw [o8, e7, wr_ne _ (by omega), e6, wr_ne _ (by omega), e5, wr_ne _ (by omega), e4, wr_ne _ (by omega), e3, wr_ne _ (by omega), e2, wr_ne _ (by omega), e1, wr_same]
  have v2 : s13 a 2 = σ c 2 := by
    rw [o8, e7, wr_ne _ (by omega), e6, wr_ne _ (by omega), e5, wr_ne _ (by omega), e4, wr_ne _ (by omega), e3, wr_ne _ (by omega), e2, wr_same]
    exact congrFun (r1 0 (by omega)) 2
  have v3 : s13 a 3 = σ c 3 := by
    rw [o8, e7, wr_ne _ (by omega), e6, wr_ne _ (by omega), e5, wr_ne _ (by omega), e4, wr_ne _ (by omega), e3, wr_same]
    exact congrFun (r2 0 (by omega)) 3
  have v4 : s13 a 4 = σ c 4 := by
    rw [o8, e7, wr_ne _ (by omega), e6, wr_ne _ (by omega), e5, wr_ne _ (by omega), e4, wr_same]
    exact congrFun (r3 0 (by omega)) 4
  have v5 : s13 a 5 = σ c 5 := by
    rw [o8, e7, wr_ne _ (by omega), e6, wr_ne _ (by omega), e5, wr_same]
    exact congrFun (r4 0 (by omega)) 5
  have v6 : s13 a 6 = σ c 6 := by
    rw [o8, e7, wr_ne _ (by omega), e6, wr_same]
    exact congrFun (r5 0 (by omega)) 6
  have v14 : s13 a 14 = σ c 14 := by
    rw [o8, e7, wr_same]
    exact congrFun (r6 0 (by omega)) 14
  have u1 : ∀ k, k < 4 → s13 (a + 1) k = σ (c + 1) k := fun k hk => by
    rw [e13, up_a (by omega), e12, up_a (by omega), e11, up_a (by omega), e10, up_a (by omega), e9, up_a (by omega), e8, up_s, cpy4 hk]
    exact congrFun (r7 1 (by omega)) k
  have u2 : ∀ k, k < 4 → s13 (a + 2) k = σ (c + 2) k := fun k hk => by
    rw [e13, up_a (by omega), e12, up_a (by omega), e11, up_a (by omega), e10, up_a (by omega), e9, up_s, cpy4 hk]
    exact congrFun (r8 2 (by omega)) k
  have u3 : ∀ k, k < 4 → s13 (a + 3) k = σ (c + 3) k := fun k hk => by
    rw [e13, up_a (by omega), e12, up_a (by omega), e11, up_a (by omega), e10, up_s, cpy4 hk]
    exact congrFun (r9 3 (by omega)) k
  have u4 : ∀ k, k < 4 → s13 (a + 4) k = σ (c + 4) k := fun k hk => by
    rw [e13, up_a (by omega), e12, up_a (by omega), e11, up_s, cpy4 hk]
    exact congrFun (r10 4 (by omega)) k
  have u6 : ∀ k, k < 6 → s13 (a + 6) k = σ (c + 6) k := fun k hk => by
    rw [e13, up_a (by omega), e12, up_s, cpy6 hk]
    exact congrFun (r11 6 (by omega)) k
  have u7 : ∀ k, k < 6 → s13 (a + 7) k = σ (c + 7) k := fun k hk => by
    rw [e13, up_s, cpy6 hk]
    exact congrFun (r12 7 (by omega)) k
  obtain ⟨g1, g2, g3, g4, g5, g6, g7, gl, gt⟩ := hx
  refine ⟨s13, run, ⟨v1.trans g1, v2.trans g2, v3.trans g3, v4.trans g4, v5.trans g5, v6.trans g6, v14.trans g7, fun l hl => ⟨?_, ?_, ?_, ?_⟩, fun t ht => ⟨?_, ?_⟩⟩, ?_⟩
  · rw [u1 l (by omega)]; exact (gl l hl).1
  · rw [u2 l (by omega)]; exact (gl l hl).2.1
  · rw [u3 l (by omega)]; exact (gl l hl).2.2.1
  · rw [u4 l (by omega)]; exact (gl l hl).2.2.2
  · rw [u6 t (by omega)]; exact (gt t ht).1
  · rw [u7 t (by omega)]; exact (gt t ht).2
  · intro b hb
    have hb' : b < a ∨ a + 8 ≤ b := by unfold blk at hb; omega
    rw [e13, up_a (by omega), e12, up_a (by omega), e11, up_a (by omega), e10, up_a (by omega), e9, up_a (by omega), e8, up_a (by omega), e7, wr_a (by omega), e6, wr_a (by omega), e5, wr_a (by omega), e4, wr_a (by omega), e3, wr_a (by omega), e2, wr_a (by omega), e1, wr_a (by omega)]
