/-! the class's tables: as which minutes a line is live, by its load -/
theorem or_step12 : ∀ n, n < 12 → ∀ m, m < 2 ^ n → nI m ||| ((1 : Int32) <<< (nI n &&& 31)) = nI (m + 2 ^ n) := by decide +kernel
theorem orT_mask12 (p : Nat → Bool) : ∀ n, n ≤ 12 → orT p n = nI (maskT p n)
  | 0, _ => rfl
  | n + 1, h => by
    have ih := orT_mask12 p n (by omega)
    have hl := maskT_lt p n
    have e := or_step12 n (by omega) _ hl
    show orT p n ||| _ = nI (maskT p (n + 1))
    rw [ih]
    cases hv : p n with
    | false =>
      have : maskT p (n + 1) = maskT p n := by show maskT p n + (if p n then 2 ^ n else 0) = _; rw [hv]; rfl
      rw [this, if_neg (by simp)]; exact or_zero _
    | true =>
      have : maskT p (n + 1) = maskT p n + 2 ^ n := by show maskT p n + (if p n then 2 ^ n else 0) = _; rw [hv]; rfl
      rw [this, if_pos rfl]; exact e
theorem mask_bit_step12 : ∀ n, n < 12 → ∀ m, m < 2 ^ n → ∀ l, l ≤ n → (m + 2 ^ n).testBit l = (if l = n then true else m.testBit l) ∧ m.testBit n = false := by decide +kernel
theorem maskT_bit12 (p : Nat → Bool) : ∀ n, n ≤ 12 → ∀ l, l < n → (maskT p n).testBit l = p l
  | 0, _, l, h => by omega
  | n + 1, h, l, hl => by
    have h1 := maskT_lt p n
    have e := mask_bit_step12 n (by omega) _ h1 l (by omega)
    cases hv : p n with
    | false =>
      have em : maskT p (n + 1) = maskT p n := by show maskT p n + (if p n then 2 ^ n else 0) = _; rw [hv]; rfl
      rw [em]
      by_cases z : l = n
      · rw [z, hv]; exact e.2
      · exact maskT_bit12 p n (by omega) l (by omega)
    | true =>
      have em : maskT p (n + 1) = maskT p n + 2 ^ n := by show maskT p n + (if p n then 2 ^ n else 0) = _; rw [hv]; rfl
      rw [em, e.1]
      by_cases z : l = n
      · rw [if_pos z, z, hv]
      · rw [if_neg z]; exact maskT_bit12 p n (by omega) l (by omega)
theorem bit_at12a : ∀ a, a < 64 → ∀ b, b < 64 → ∀ t, t < 12 → ((nI (64 * a + b) >>> (nI t &&& 31)) &&& (1 : Int32)) = bI ((64 * a + b).testBit t) := by decide +kernel
theorem bcI_4096a : ∀ a, a < 64 → ∀ b, b < 64 → bcI (nI (64 * a + b)) = nI (bcU (64 * a + b) 12) := by decide +kernel
theorem bit_at12 (m : Nat) (hm : m < 4096) (t : Nat) (ht : t < 12) : ((nI m >>> (nI t &&& 31)) &&& (1 : Int32)) = bI (m.testBit t) := by
  have := bit_at12a (m / 64) (by omega) (m % 64) (by omega) t ht
  rw [Nat.div_add_mod] at this; exact this
theorem bcI_4096 (m : Nat) (hm : m < 4096) : bcI (nI m) = nI (bcU m 12) := by
  have := bcI_4096a (m / 64) (by omega) (m % 64) (by omega)
  rw [Nat.div_add_mod] at this; exact this
theorem bcU_mask (p : Nat → Bool) {n : Nat} (h : n ≤ 12) : bcU (maskT p n) 12 = sumT (fun i => if p i then 1 else 0) n := by
  have hz : ∀ k, n ≤ k → k ≤ 12 → bcU (maskT p n) k = bcU (maskT p n) n := by
    intro k
    induction k with
    | zero => intro a b; have : n = 0 := by omega
              rw [this]
    | succ k ih =>
      intro a b
      by_cases z : n = k + 1
      · rw [z]
      · have e : bcU (maskT p n) (k + 1) = bcU (maskT p n) k + if (maskT p n).testBit k then 1 else 0 := rfl
        have f : (maskT p n).testBit k = false := Nat.testBit_lt_two_pow (Nat.lt_of_lt_of_le (maskT_lt p n) (Nat.pow_le_pow_right (by decide) (by omega)))
        rw [e, f, ih (by omega) (by omega)]; rfl
  rw [hz 12 h (Nat.le_refl _)]
  unfold bcU
  refine sumT_congr (fun i hi => ?_)
  rw [maskT_bit12 p n h i hi]
theorem mask4096 (p : Nat → Bool) {n : Nat} (h : n ≤ 12) : maskT p n < 4096 := Nat.lt_of_lt_of_le (maskT_lt p n) (Nat.pow_le_pow_right (by decide) h)
