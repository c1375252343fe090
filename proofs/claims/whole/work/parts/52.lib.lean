/-! tools: conditions decided, programs run, what a call may change -/
theorem C1T {a b : Nat} (h : a ≤ b) (hb : b < 2147483648) : (nI a ≤ nI b) = True := eq_true (nI_le h hb)
theorem C1F {a b : Nat} (h : b < a) (hb : a < 2147483648) : (nI a ≤ nI b) = False := eq_false (nI_ge h hb)
theorem C2T {a b : Nat} (h : a < b) (hb : b < 2147483648) : (nI a < nI b) = True := eq_true (nI_lt h hb)
theorem C2F {a b : Nat} (h : b ≤ a) (hb : a < 2147483648) : (nI a < nI b) = False := eq_false (nI_nlt h hb)
theorem C3T {a b : Nat} (h : a = b) : (nI a = nI b) = True := eq_true (by rw [h])
theorem C3F {a b : Nat} (h : a ≠ b) (ha : a < 2147483648) (hb : b < 2147483648) : (nI a = nI b) = False := eq_false (fun q => h ((nI_eq ha hb).mp q))
theorem D1T {a b : Nat} (h : (OfNat.ofNat a : Nat) ≤ b) (hb : b < 2147483648) : ((no_index (OfNat.ofNat a) : Int32) ≤ nI b) = True := C1T h hb
theorem D1F {a b : Nat} (h : b < (OfNat.ofNat a : Nat)) (hb : (OfNat.ofNat a : Nat) < 2147483648) : ((no_index (OfNat.ofNat a) : Int32) ≤ nI b) = False := C1F h hb
theorem D2T {a b : Nat} (h : (OfNat.ofNat a : Nat) < b) (hb : b < 2147483648) : ((no_index (OfNat.ofNat a) : Int32) < nI b) = True := C2T h hb
theorem D2F {a b : Nat} (h : b ≤ (OfNat.ofNat a : Nat)) (hb : (OfNat.ofNat a : Nat) < 2147483648) : ((no_index (OfNat.ofNat a) : Int32) < nI b) = False := C2F h hb
theorem D3T {a b : Nat} (h : (OfNat.ofNat a : Nat) = b) : ((no_index (OfNat.ofNat a) : Int32) = nI b) = True := C3T h
theorem D3F {a b : Nat} (h : (OfNat.ofNat a : Nat) ≠ b) (ha : (OfNat.ofNat a : Nat) < 2147483648) (hb : b < 2147483648) : ((no_index (OfNat.ofNat a) : Int32) = nI b) = False := C3F h ha hb
theorem E1T {a b : Nat} (h : a ≤ (OfNat.ofNat b : Nat)) (hb : (OfNat.ofNat b : Nat) < 2147483648) : (nI a ≤ (no_index (OfNat.ofNat b) : Int32)) = True := C1T h hb
theorem E1F {a b : Nat} (h : (OfNat.ofNat b : Nat) < a) (hb : a < 2147483648) : (nI a ≤ (no_index (OfNat.ofNat b) : Int32)) = False := C1F h hb
theorem E2T {a b : Nat} (h : a < (OfNat.ofNat b : Nat)) (hb : (OfNat.ofNat b : Nat) < 2147483648) : (nI a < (no_index (OfNat.ofNat b) : Int32)) = True := C2T h hb
theorem E2F {a b : Nat} (h : (OfNat.ofNat b : Nat) ≤ a) (hb : a < 2147483648) : (nI a < (no_index (OfNat.ofNat b) : Int32)) = False := C2F h hb
theorem E3T {a b : Nat} (h : a = (OfNat.ofNat b : Nat)) : (nI a = (no_index (OfNat.ofNat b) : Int32)) = True := C3T h
theorem E3F {a b : Nat} (h : a ≠ (OfNat.ofNat b : Nat)) (ha : a < 2147483648) (hb : (OfNat.ofNat b : Nat) < 2147483648) : (nI a = (no_index (OfNat.ofNat b) : Int32)) = False := C3F h ha hb
theorem G1T {a b : Nat} (h : (OfNat.ofNat a : Nat) ≤ (OfNat.ofNat b : Nat)) (hb : (OfNat.ofNat b : Nat) < 2147483648) : ((no_index (OfNat.ofNat a) : Int32) ≤ (no_index (OfNat.ofNat b) : Int32)) = True := C1T h hb
theorem G1F {a b : Nat} (h : (OfNat.ofNat b : Nat) < (OfNat.ofNat a : Nat)) (hb : (OfNat.ofNat a : Nat) < 2147483648) : ((no_index (OfNat.ofNat a) : Int32) ≤ (no_index (OfNat.ofNat b) : Int32)) = False := C1F h hb
theorem G2T {a b : Nat} (h : (OfNat.ofNat a : Nat) < (OfNat.ofNat b : Nat)) (hb : (OfNat.ofNat b : Nat) < 2147483648) : ((no_index (OfNat.ofNat a) : Int32) < (no_index (OfNat.ofNat b) : Int32)) = True := C2T h hb
theorem G2F {a b : Nat} (h : (OfNat.ofNat b : Nat) ≤ (OfNat.ofNat a : Nat)) (hb : (OfNat.ofNat a : Nat) < 2147483648) : ((no_index (OfNat.ofNat a) : Int32) < (no_index (OfNat.ofNat b) : Int32)) = False := C2F h hb
theorem G3F {a b : Nat} (h : (OfNat.ofNat a : Nat) ≠ (OfNat.ofNat b : Nat)) (ha : (OfNat.ofNat a : Nat) < 2147483648) (hb : (OfNat.ofNat b : Nat) < 2147483648) : ((no_index (OfNat.ofNat a) : Int32) = (no_index (OfNat.ofNat b) : Int32)) = False := C3F h ha hb
theorem inb_T {k n : Nat} (h : k < n) (hn : n < 2147483648) : inb (nI k) n = True := eq_true (inb_nI h hn)
theorem inb_L {k n : Nat} (h : (OfNat.ofNat k : Nat) < n) (hn : n < 2147483648) : inb (no_index (OfNat.ofNat k) : Int32) n = True := inb_T h hn
theorem isB_0 : isB (0 : Int32) = True := eq_true (Or.inl rfl)
theorem isB_1 : isB (1 : Int32) = True := eq_true (Or.inr rfl)
theorem isB_b (b : Bool) : isB (bI b) = True := eq_true (isB_bI b)
theorem bI_T : bI true = 1 := rfl
theorem bI_F : bI false = 0 := rfl
theorem L_add1 (a b : Nat) : (no_index (OfNat.ofNat a) : Int32) + nI b = nI ((OfNat.ofNat a : Nat) + b) := nI_add a b
theorem L_add2 (a b : Nat) : nI a + (no_index (OfNat.ofNat b) : Int32) = nI (a + (OfNat.ofNat b : Nat)) := nI_add a b
theorem nI_mul (a b : Nat) : nI a * nI b = nI (a * b) := (Int32.ofNat_mul a b).symm
theorem L_mul1 (a b : Nat) : (no_index (OfNat.ofNat a) : Int32) * nI b = nI ((OfNat.ofNat a : Nat) * b) := nI_mul a b
theorem L_mul2 (a b : Nat) : nI a * (no_index (OfNat.ofNat b) : Int32) = nI (a * (OfNat.ofNat b : Nat)) := nI_mul a b
theorem nI_sub {a b : Nat} (h : b ≤ a) : nI a - nI b = nI (a - b) := (Int32.ofNat_sub a b h).symm
theorem L_sub2 {a b : Nat} (h : (OfNat.ofNat b : Nat) ≤ a) : nI a - (no_index (OfNat.ofNat b) : Int32) = nI (a - (OfNat.ofNat b : Nat)) := nI_sub h
theorem L_cl {a : Nat} (h : (OfNat.ofNat a : Nat) < 2147483648) : (no_index (OfNat.ofNat a) : Int32).toNatClampNeg = (OfNat.ofNat a : Nat) := nI_cl h
theorem sel_l {α β γ : Type} (f : α → γ) (g : β → γ) (x : α) : sel f g (.inl x) = f x := rfl
theorem sel_r {α β γ : Type} (f : α → γ) (g : β → γ) (x : β) : sel f g (.inr x) = g x := rfl
theorem bd_of {α β γ : Type} {x : Option (α × β)} {a : α} {b : β} (h : x = some (a, b)) (k : α → β → Option γ) : bd x k = k a b := by rw [h]; rfl
theorem bind_of {α β : Type} {x : Option α} {a : α} (h : x = some a) (k : α → Option β) : x.bind k = k a := by rw [h]; rfl
theorem wr_k {σ : St} {a k j : Nat} {v : Int32} (h : j ≠ k) : wr σ a k v a j = σ a j := wr_ne σ (fun _ q => h q)
/-- a program ends, with the post -/
def Ok {α : Type} (x : Option α) (P : α → Prop) : Prop := ∃ v, x = some v ∧ P v
theorem Ok.ret {α : Type} {v : α} {P : α → Prop} (h : P v) : Ok (some v) P := ⟨v, rfl, h⟩
theorem Ok.of {α : Type} {x : Option α} {v : α} {P : α → Prop} (e : x = some v) (h : P v) : Ok x P := ⟨v, e, h⟩
theorem Ok.bd {α β γ : Type} {x : Option (α × β)} {k : α → β → Option γ} {P : γ → Prop} (h : Ok x (fun v => Ok (k v.1 v.2) P)) : Ok (bd x k) P := by
  obtain ⟨v, e, w, f, p⟩ := h
  exact ⟨w, by rw [e]; exact f, p⟩
theorem Ok.bind {α β : Type} {x : Option α} {k : α → Option β} {P : β → Prop} (h : Ok x (fun v => Ok (k v) P)) : Ok (x.bind k) P := by
  obtain ⟨v, e, w, f, p⟩ := h
  exact ⟨w, by rw [e]; exact f, p⟩
theorem Ok.mono {α : Type} {x : Option α} {P Q : α → Prop} (h : Ok x Q) (hq : ∀ v, Q v → P v) : Ok x P := by
  obtain ⟨v, e, p⟩ := h
  exact ⟨v, e, hq v p⟩
theorem Ok.eqv {α : Type} {x y : Option α} {P : α → Prop} (e : x = y) (h : Ok y P) : Ok x P := by rw [e]; exact h
/-- a number that is not in a range -/
def Out (x lo hi : Int32) : Prop := x < lo ∨ (¬ x < lo ∧ hi < x)
theorem rng (x : Int32) {lo hi : Int32} (a b : Nat) (e1 : lo = nI a) (e2 : hi = nI b) (hab : a ≤ b) (hb : b < 2147483648) : Out x lo hi ∨ ∃ n, a ≤ n ∧ n ≤ b ∧ x = nI n := by
  by_cases a1 : x < lo
  · exact Or.inl (Or.inl a1)
  by_cases a2 : hi < x
  · exact Or.inl (Or.inr ⟨a1, a2⟩)
  have b1 := Int32.not_lt.mp a1
  have b2 := Int32.not_lt.mp a2
  subst e1 e2
  have h0 : ¬ x < 0 := fun q => Int32.lt_irrefl (Int32.lt_of_lt_of_le q (Int32.le_trans (nI_pos' (n := a) (by omega)) b1))
  obtain ⟨j, hj, rfl⟩ := nI_of h0
  exact Or.inr ⟨j, (nI_leI (by omega) hj).mp b1, (nI_leI hj (by omega)).mp b2, rfl⟩
theorem ite_out1 {x lo hi : Int32} (q : Out x lo hi) {α : Type} (A B : α) : (if x < lo then A else if x ≤ hi then B else A) = A := by
  rcases q with q | ⟨q1, q2⟩
  · rw [if_pos q]
  · rw [if_neg q1, if_neg (Int32.not_le.mpr q2)]
theorem ite_out2 {x lo hi : Int32} (q : Out x lo hi) {α : Type} (A B : α) : (if x < lo then A else if hi < x then A else B) = A := by
  rcases q with q | ⟨q1, q2⟩
  · rw [if_pos q]
  · rw [if_neg q1, if_pos q2]
theorem M_out {x lo hi : Int32} {L H : Int64} {σ : St} (hL : L = lo.toInt64) (hH : H = hi.toInt64) (q : Out x lo hi) : f_X12_in x.toInt64 L H σ = some (0, σ) := by
  rw [M_in hL hH]
  have : ¬ (lo ≤ x ∧ x ≤ hi) := by
    rintro ⟨h1, h2⟩
    rcases q with q | ⟨q1, q2⟩
    · exact Int32.not_le.mpr q h1
    · exact Int32.not_le.mpr q2 h2
  simp [this, bI]
theorem M_inn {a b n : Nat} {L H : Int64} {σ : St} (hL : L = (nI a).toInt64) (hH : H = (nI b).toInt64) (h1 : a ≤ n) (h2 : n ≤ b) (hb : b < 2147483648) : f_X12_in (nI n).toInt64 L H σ = some (1, σ) := by
  rw [M_in hL hH]
  have : nI a ≤ nI n ∧ nI n ≤ nI b := ⟨nI_le h1 (by omega), nI_le h2 (by omega)⟩
  simp [this, bI]
/-- an index of something that has L of it -/
def OutN (x : Int32) (L : Nat) : Prop := x < 0 ∨ (¬ x < 0 ∧ ¬ x < nI L)
theorem idx (x : Int32) (L : Nat) (hL : L < 2147483648) : OutN x L ∨ ∃ l, l < L ∧ x = nI l := by
  by_cases a1 : x < 0
  · exact Or.inl (Or.inl a1)
  by_cases a2 : x < nI L
  · obtain ⟨j, hj, rfl⟩ := nI_of a1
    exact Or.inr ⟨j, (nI_ltI hj hL).mp a2, rfl⟩
  · exact Or.inl (Or.inr ⟨a1, a2⟩)
theorem X_noLine_out {x : Int32} {σ : St} {L : Nat} (e : σ 19 1 = nI L) (q : OutN x L) : f_X11_noLine x σ = some (1, σ) := by
  unfold f_X11_noLine
  rcases q with q | ⟨q1, q2⟩
  · simp [lt_eq, q, isB]
  · simp [lt_eq, q1, q2, e, isB]
theorem X_noLine_in {l : Nat} {σ : St} {L : Nat} (e : σ 19 1 = nI L) (h : l < L) (hL : L < 2147483648) : f_X11_noLine (nI l) σ = some (0, σ) := by
  unfold f_X11_noLine
  simp (disch := omega) only [↓lt_eq, ↓reduceIte, ↓un1, ↓un2, ↓un3, ↓un4, ↓bd_some, ↓bind_some', ↓sel_l, ↓sel_r, C1T, C1F, C2T, C2F, C3T, C3F, D1T, D1F, D2T, D2F, D3T, D3F, E1T, E1F, E2T, E2F, E3T, E3F, G1T, G1F, G2T, G2F, G3F, inb_T, inb_L, isB_0, isB_1, isB_b, nI_add, L_add1, L_add2, nI_cl, L_cl, bI_T, bI_F, eq_self, not_true_eq_false, not_false_eq_true, e]
theorem X_noThing_out {x : Int32} {σ : St} {L : Nat} (e : σ 19 2 = nI L) (q : OutN x L) : f_X11_noThing x σ = some (1, σ) := by
  unfold f_X11_noThing
  rcases q with q | ⟨q1, q2⟩
  · simp [lt_eq, q, isB]
  · simp [lt_eq, q1, q2, e, isB]
theorem X_noThing_in {l : Nat} {σ : St} {L : Nat} (e : σ 19 2 = nI L) (h : l < L) (hL : L < 2147483648) : f_X11_noThing (nI l) σ = some (0, σ) := by
  unfold f_X11_noThing
  simp (disch := omega) only [↓lt_eq, ↓reduceIte, ↓un1, ↓un2, ↓un3, ↓un4, ↓bd_some, ↓bind_some', ↓sel_l, ↓sel_r, C1T, C1F, C2T, C2F, C3T, C3F, D1T, D1F, D2T, D2F, D3T, D3F, E1T, E1F, E2T, E2F, E3T, E3F, G1T, G1F, G2T, G2F, G3F, inb_T, inb_L, isB_0, isB_1, isB_b, nI_add, L_add1, L_add2, nI_cl, L_cl, bI_T, bI_F, eq_self, not_true_eq_false, not_false_eq_true, e]
theorem nI_m1 {L : Nat} (h : L < 2147483648) : (nI L - 1).toInt = (L : Int) - 1 := by
  cases L with
  | zero => decide
  | succ n => rw [nI_pred, nI_toInt (by omega)]; omega
theorem M_idx_out {x : Int32} {σ : St} {L : Nat} (q : OutN x L) (hL : L < 2147483648) : f_X12_in x.toInt64 0 (nI L - 1).toInt64 σ = some (0, σ) := by
  rw [M_in (lo := 0) (hi := nI L - 1) (by decide) rfl]
  have : ¬ ((0 : Int32) ≤ x ∧ x ≤ nI L - 1) := by
    rintro ⟨h1, h2⟩
    rcases q with q | ⟨q1, q2⟩
    · exact Int32.not_le.mpr q h1
    · refine q2 ?_
      rw [Int32.lt_iff_toInt_lt]
      rw [Int32.le_iff_toInt_le, nI_m1 hL] at h2
      rw [nI_toInt hL]
      omega
  simp [this, bI]
theorem M_idx_in {l : Nat} {σ : St} {L : Nat} (h : l < L) (hL : L < 2147483648) : f_X12_in (nI l).toInt64 0 (nI L - 1).toInt64 σ = some (1, σ) := by
  rw [M_in (lo := 0) (hi := nI L - 1) (by decide) rfl]
  have : (0 : Int32) ≤ nI l ∧ nI l ≤ nI L - 1 := by
    refine ⟨nI_pos' (by omega), ?_⟩
    rw [Int32.le_iff_toInt_le, nI_m1 hL, nI_toInt (by omega)]
    omega
  simp [this, bI]
theorem M_isLine_out {x : Int32} {σ : St} {L : Nat} (e : σ 261 0 = nI L) (q : OutN x L) (hL : L < 2147483648) : f_X12_isLine x σ = some (0, σ) := by
  unfold f_X12_isLine
  simp (disch := omega) only [↓lt_eq, ↓reduceIte, ↓un1, ↓un2, ↓un3, ↓un4, ↓bd_some, ↓bind_some', ↓sel_l, ↓sel_r, C1T, C1F, C2T, C2F, C3T, C3F, D1T, D1F, D2T, D2F, D3T, D3F, E1T, E1F, E2T, E2F, E3T, E3F, G1T, G1F, G2T, G2F, G3F, inb_T, inb_L, isB_0, isB_1, isB_b, nI_add, L_add1, L_add2, nI_cl, L_cl, bI_T, bI_F, eq_self, not_true_eq_false, not_false_eq_true, e, ↓bd_of (M_idx_out q hL)]
theorem M_isLine_in {l : Nat} {σ : St} {L : Nat} (e : σ 261 0 = nI L) (h : l < L) (hL : L < 2147483648) : f_X12_isLine (nI l) σ = some (1, σ) := by
  unfold f_X12_isLine
  simp (disch := omega) only [↓lt_eq, ↓reduceIte, ↓un1, ↓un2, ↓un3, ↓un4, ↓bd_some, ↓bind_some', ↓sel_l, ↓sel_r, C1T, C1F, C2T, C2F, C3T, C3F, D1T, D1F, D2T, D2F, D3T, D3F, E1T, E1F, E2T, E2F, E3T, E3F, G1T, G1F, G2T, G2F, G3F, inb_T, inb_L, isB_0, isB_1, isB_b, nI_add, L_add1, L_add2, nI_cl, L_cl, bI_T, bI_F, eq_self, not_true_eq_false, not_false_eq_true, e, ↓bd_of (M_idx_in h hL)]
theorem M_isThing_out {x : Int32} {σ : St} {L : Nat} (e : σ 261 1 = nI L) (q : OutN x L) (hL : L < 2147483648) : f_X12_isThing x σ = some (0, σ) := by
  unfold f_X12_isThing
  simp (disch := omega) only [↓lt_eq, ↓reduceIte, ↓un1, ↓un2, ↓un3, ↓un4, ↓bd_some, ↓bind_some', ↓sel_l, ↓sel_r, C1T, C1F, C2T, C2F, C3T, C3F, D1T, D1F, D2T, D2F, D3T, D3F, E1T, E1F, E2T, E2F, E3T, E3F, G1T, G1F, G2T, G2F, G3F, inb_T, inb_L, isB_0, isB_1, isB_b, nI_add, L_add1, L_add2, nI_cl, L_cl, bI_T, bI_F, eq_self, not_true_eq_false, not_false_eq_true, e, ↓bd_of (M_idx_out q hL)]
theorem M_isThing_in {l : Nat} {σ : St} {L : Nat} (e : σ 261 1 = nI L) (h : l < L) (hL : L < 2147483648) : f_X12_isThing (nI l) σ = some (1, σ) := by
  unfold f_X12_isThing
  simp (disch := omega) only [↓lt_eq, ↓reduceIte, ↓un1, ↓un2, ↓un3, ↓un4, ↓bd_some, ↓bind_some', ↓sel_l, ↓sel_r, C1T, C1F, C2T, C2F, C3T, C3F, D1T, D1F, D2T, D2F, D3T, D3F, E1T, E1F, E2T, E2F, E3T, E3F, G1T, G1F, G2T, G2F, G3F, inb_T, inb_L, isB_0, isB_1, isB_b, nI_add, L_add1, L_add2, nI_cl, L_cl, bI_T, bI_F, eq_self, not_true_eq_false, not_false_eq_true, e, ↓bd_of (M_idx_in h hL)]
theorem X_noHouse_0 {σ : St} {L : Nat} (e : σ 19 1 = nI L) (h : 0 < L) (hL : L < 2147483648) : f_X11_noHouse σ = some (0, σ) := by
  unfold f_X11_noHouse
  simp (disch := omega) only [↓lt_eq, ↓reduceIte, ↓un1, ↓un2, ↓un3, ↓un4, ↓bd_some, ↓bind_some', ↓sel_l, ↓sel_r, C1T, C1F, C2T, C2F, C3T, C3F, D1T, D1F, D2T, D2F, D3T, D3F, E1T, E1F, E2T, E2F, E3T, E3F, G1T, G1F, G2T, G2F, G3F, inb_T, inb_L, isB_0, isB_1, isB_b, nI_add, L_add1, L_add2, nI_cl, L_cl, bI_T, bI_F, eq_self, not_true_eq_false, not_false_eq_true, e]
theorem X_noHouse_1 {σ : St} (e : σ 19 1 = nI 0) : f_X11_noHouse σ = some (1, σ) := by
  unfold f_X11_noHouse
  simp (disch := omega) only [↓lt_eq, ↓reduceIte, ↓un1, ↓un2, ↓un3, ↓un4, ↓bd_some, ↓bind_some', ↓sel_l, ↓sel_r, C1T, C1F, C2T, C2F, C3T, C3F, D1T, D1F, D2T, D2F, D3T, D3F, E1T, E1F, E2T, E2F, E3T, E3F, G1T, G1F, G2T, G2F, G3F, inb_T, inb_L, isB_0, isB_1, isB_b, nI_add, L_add1, L_add2, nI_cl, L_cl, bI_T, bI_F, eq_self, not_true_eq_false, not_false_eq_true, e]
theorem M_isHouse_1 {σ : St} {L : Nat} (e : σ 261 0 = nI L) (h : 0 < L) (hL : L < 2147483648) : f_X12_isHouse σ = some (1, σ) := by
  unfold f_X12_isHouse
  simp (disch := omega) only [↓lt_eq, ↓reduceIte, ↓un1, ↓un2, ↓un3, ↓un4, ↓bd_some, ↓bind_some', ↓sel_l, ↓sel_r, C1T, C1F, C2T, C2F, C3T, C3F, D1T, D1F, D2T, D2F, D3T, D3F, E1T, E1F, E2T, E2F, E3T, E3F, G1T, G1F, G2T, G2F, G3F, inb_T, inb_L, isB_0, isB_1, isB_b, nI_add, L_add1, L_add2, nI_cl, L_cl, bI_T, bI_F, eq_self, not_true_eq_false, not_false_eq_true, e]
theorem M_isHouse_0 {σ : St} (e : σ 261 0 = nI 0) : f_X12_isHouse σ = some (0, σ) := by
  unfold f_X12_isHouse
  simp (disch := omega) only [↓lt_eq, ↓reduceIte, ↓un1, ↓un2, ↓un3, ↓un4, ↓bd_some, ↓bind_some', ↓sel_l, ↓sel_r, C1T, C1F, C2T, C2F, C3T, C3F, D1T, D1F, D2T, D2F, D3T, D3F, E1T, E1F, E2T, E2F, E3T, E3F, G1T, G1F, G2T, G2F, G3F, inb_T, inb_L, isB_0, isB_1, isB_b, nI_add, L_add1, L_add2, nI_cl, L_cl, bI_T, bI_F, eq_self, not_true_eq_false, not_false_eq_true, e]
/-- what no foretelling changes -/
def Keep (σ s : St) : Prop := (∀ b, b ≤ 3 ∨ b = 11 ∨ b = 12 ∨ (19 ≤ b ∧ b < 27 ∧ b ≠ 24) ∨ (35 ≤ b ∧ b < 259) ∨ (261 ≤ b ∧ b ≤ 265) ∨ b = 267 ∨ b = 272 → s b = σ b) ∧ (∀ k, k < 729 → s 260 k = σ 260 k) ∧ ∀ k, k = 3 ∨ k = 8 ∨ k = 9 ∨ k = 15 ∨ k = 20 → s 259 k = σ 259 k
theorem Keep.rf {σ : St} : Keep σ σ := ⟨fun _ _ => rfl, fun _ _ => rfl, fun _ _ => rfl⟩
theorem Keep.tr {σ s t : St} (h1 : Keep σ s) (h2 : Keep s t) : Keep σ t := ⟨fun b q => (h2.1 b q).trans (h1.1 b q), fun k q => (h2.2.1 k q).trans (h1.2.1 k q), fun k q => (h2.2.2 k q).trans (h1.2.2 k q)⟩
/-- all cells but some that are free -/
theorem Keep.cells {σ s : St} (h : ∀ b, ¬ ((4 ≤ b ∧ b ≤ 10) ∨ b = 24 ∨ (27 ≤ b ∧ b < 35)) → s b = σ b) : Keep σ s := ⟨fun b q => h b (by omega), fun k q => by rw [h 260 (by omega)], fun k q => by rw [h 259 (by omega)]⟩
theorem Keep.fr27 {σ s : St} (h : Fr (blk 27) σ s) : Keep σ s := Keep.cells (fun b q => h b (by unfold blk; omega))
theorem Keep.frM {σ s : St} (h : FrM 729 σ s) : Keep σ s := ⟨fun b q => h.1 b (by omega) (by omega), fun k q => h.2 k (by omega), fun k q => by rw [h.1 259 (by omega) (by omega)]⟩
theorem HX.keep {a : Nat} {σ s : St} {h : Hs} (hx : HX a σ h) (hk : Keep σ s) (ha : a = 19 ∨ (51 ≤ a ∧ a + 8 ≤ 259)) : HX a s h := hx.frame (fun b q => hk.1 b (by omega))
theorem HM.keep {b d : Nat} {σ s : St} {h : Hs} (hm : HM b d σ h) (hw : WF h) (hk : Keep σ s) (hb : b + 27 ≤ 729) : HM b d s h := hm.copied hw (fun k q => hk.2.1 (b + k) (by omega)) (hk.1 261 (by omega))
theorem INow.keep {σ s : St} {h : Hs} (hn : INow σ h) (hk : Keep σ s) : INow s h := by
  obtain ⟨w, x, mi, p1, p2⟩ := hn
  refine ⟨w, x.keep hk (by omega), mi, fun q => ⟨(p1 q).1, (p1 q).2.keep w hk (by omega)⟩, fun q => ?_⟩
  rw [hk.1 261 (by omega), hk.2.1 25 (by omega), hk.2.1 26 (by omega)]
  exact p2 q
theorem Inv.keep {σ s : St} (hI : Inv σ) (hk : Keep σ s) : Inv s := by
  obtain ⟨hR, hP, hF, hT, h, o, n, ac, im, hn, ⟨a1, a2, a3, a4, a5, a6, a7⟩, hi⟩ := hI
  refine ⟨hR.fr (fun b q => hk.1 b (by omega)), hP.fr (by rw [hk.1 2 (by omega)]) (hk.2.2 9 (by omega)) (hk.1 3 (by omega)) (hk.1 267 (by omega)), ⟨?_, ?_⟩, hT.fr (by rw [hk.1 11 (by omega)]) (hk.2.2 20 (by omega)) (hk.1 12 (by omega)) (hk.1 272 (by omega)), h, o, n, ac, im, hn.keep hk, ⟨a1, a2, ?_, ?_, ?_, a6, fun i q => ?_⟩, fun k q => ?_⟩
  · rw [hk.1 0 (by omega), hk.2.2 15 (by omega)]; exact hF.1
  · rw [hk.1 0 (by omega), hk.2.2 8 (by omega)]; exact hF.2
  · rw [hk.1 0 (by omega)]; exact a3
  · rw [hk.1 0 (by omega)]; exact a4
  · rw [hk.2.2 3 (by omega)]; exact a5
  · obtain ⟨b1, b2, b3, b4, b5⟩ := a7 i q
    have hm : (o + i) % 24 < 24 := Nat.mod_lt _ (by decide)
    exact ⟨b1, b2, b3, b4.keep hk (by omega), b5.keep b1 hk (by omega)⟩
  · rcases hi k q with ⟨c1, c2⟩ | ⟨c1, c2, c3, c4, c5, c6, c7⟩
    · exact Or.inl ⟨by rw [hk.1 262 (by omega)]; exact c1, by rw [hk.1 (51 + 8 * k) (by omega)]; exact c2⟩
    · exact Or.inr ⟨by rw [hk.1 262 (by omega)]; exact c1, c2, c3, c4, c5, c6.keep hk (by omega), c7.keep c4 hk (by omega)⟩
/-- a call that changes nothing of note, in both -/
theorem step_keep {f g : St → Option (Int32 × St)} {σ : St} (a : Int32) (hI : Inv σ) (h1 : Ok (f σ) (fun v => v.1 = a ∧ Keep σ v.2)) (h2 : ∀ s, Keep σ s → Ok (g s) (fun w => w.1 = a ∧ Keep s w.2)) : ∃ r σ1 σ2, f σ = some (r, σ1) ∧ g σ1 = some (r, σ2) ∧ Inv σ2 := by
  obtain ⟨⟨v, s⟩, e, rfl, k1⟩ := h1
  obtain ⟨⟨w, t⟩, e2, q, k2⟩ := h2 s k1
  simp only at q
  subst q
  exact ⟨w, s, t, e, e2, (hI.keep k1).keep k2⟩
theorem step_same {f g : St → Option (Int32 × St)} {σ : St} (a : Int32) (hI : Inv σ) (h1 : f σ = some (a, σ)) (h2 : g σ = some (a, σ)) : ∃ r σ1 σ2, f σ = some (r, σ1) ∧ g σ1 = some (r, σ2) ∧ Inv σ2 := ⟨a, σ, σ, h1, h2, hI⟩
/-- what both say of the house -/
theorem INow.x1 {σ : St} {h : Hs} (hn : INow σ h) : σ 19 1 = nI (hL h) := hn.2.1.1
theorem INow.x2 {σ : St} {h : Hs} (hn : INow σ h) : σ 19 2 = nI (hN h) := hn.2.1.2.1
theorem INow.m0 {σ : St} {h : Hs} (hn : INow σ h) : σ 261 0 = nI (hL h) := by
  rcases Nat.eq_zero_or_pos (hL h) with q | q
  · rw [q, (hn.2.2.2.2 q).2.2.2.2.2.2.1, nI_0]
  · exact (hn.2.2.2.1 q).2.1
theorem INow.m1 {σ : St} {h : Hs} (hn : INow σ h) : σ 261 1 = nI (hN h) := by
  rcases Nat.eq_zero_or_pos (hL h) with q | q
  · rw [(hn.2.2.2.2 q).1, (hn.2.2.2.2 q).2.2.2.2.2.2.2.1, nI_0]
  · exact (hn.2.2.2.1 q).2.2.1
theorem INow.L4 {σ : St} {h : Hs} (hn : INow σ h) : hL h < 2147483648 := by have := hn.1.1; omega
theorem INow.N6 {σ : St} {h : Hs} (hn : INow σ h) : hN h < 2147483648 := by have := hn.1.2.1; omega
theorem INow.pos {σ : St} {h : Hs} (hn : INow σ h) {t : Nat} (ht : t < hN h) : 0 < hL h := by
  rcases Nat.eq_zero_or_pos (hL h) with q | q
  · have := (hn.2.2.2.2 q).1; omega
  · exact q
/-- the reference's numbers, by their places -/
theorem HM.g_kd {b d k l : Nat} {σ : St} {h : Hs} (hm : HM b d σ h) (hl : l < hL h) (e : k = d + 3 + l) : σ 261 k = nI (hKd h l) := by rw [e]; exact (hm.2.2.2.2.2.2.1 l hl).1
theorem HM.g_rt {b d k l : Nat} {σ : St} {h : Hs} (hm : HM b d σ h) (hl : l < hL h) (e : k = b + 8 + l) : σ 260 k = nI (hRt h l) := by rw [e]; exact (hm.2.2.2.2.2.2.1 l hl).2.1
theorem HM.g_ht {b d k l : Nat} {σ : St} {h : Hs} (hm : HM b d σ h) (hl : l < hL h) (e : k = b + l) : σ 260 k = nI (hHt h l) := by rw [e]; exact (hm.2.2.2.2.2.2.1 l hl).2.2.1
theorem HM.g_dd {b d k l : Nat} {σ : St} {h : Hs} (hm : HM b d σ h) (hl : l < hL h) (e : k = b + 4 + l) : σ 260 k = nI (hDd h l) := by rw [e]; exact (hm.2.2.2.2.2.2.1 l hl).2.2.2
theorem HM.g_pg {b d k t : Nat} {σ : St} {h : Hs} (hm : HM b d σ h) (ht : t < hN h) (e : k = b + 12 + t) : σ 260 k = nI (hPg h t) := by rw [e]; exact (hm.2.2.2.2.2.2.2 t ht).1
theorem HM.g_ld {b d k t : Nat} {σ : St} {h : Hs} (hm : HM b d σ h) (ht : t < hN h) (e : k = d + 7 + t) : σ 261 k = nI (hLd h t) := by rw [e]; exact (hm.2.2.2.2.2.2.2 t ht).2.1
theorem HM.g_on {b d k t : Nat} {σ : St} {h : Hs} (hm : HM b d σ h) (ht : t < hN h) (e : k = b + 18 + t) : σ 260 k = bI (isOnH h t) := by rw [e]; exact (hm.2.2.2.2.2.2.2 t ht).2.2
/-- minutes on -/
def minN (h : Hs) : Nat → Hs
  | 0 => h
  | n + 1 => minuteH (minN h n)
theorem minN_L (h : Hs) : ∀ n, hL (minN h n) = hL h
  | 0 => rfl
  | n + 1 => minN_L h n
theorem minN_N (h : Hs) : ∀ n, hN (minN h n) = hN h
  | 0 => rfl
  | n + 1 => minN_N h n
theorem minN_m (h : Hs) : ∀ n, hMin (minN h n) = hMin h + n
  | 0 => rfl
  | n + 1 => by show hMin (minN h n) + 1 = _; rw [minN_m h n]; omega
theorem minN_WF {h : Hs} (hw : WF h) : ∀ n, hMin h + n ≤ 20000 → WF (minN h n)
  | 0, _ => hw
  | n + 1, q => minute_WF (minN_WF hw n (by omega)) (by rw [minN_m]; omega)
/-- the class's trial house goes on -/
theorem X_goOn {σ : St} {h : Hs} (hx : HX 27 σ h) (hw : WF h) (n : Nat) (hn : n ≤ 60) (hm : hMin h + n ≤ 20000) : Ok (loopF (f_X11_foretell_L13 (nI n)) 5000 ((0 : Int32), σ)) (fun s => HX 27 s (minN h n) ∧ Fr (blk 27) σ s) := by
  refine loop_n (fun i (x : Int32 × St) => x.1 = nI i ∧ HX 27 x.2 (minN h i) ∧ Fr (blk 27) σ x.2) _ n 5000 _ (by omega) ⟨nI_0.symm, hx, Fr.rf⟩ ?_ ?_
  · rintro i ⟨v, s⟩ hi ⟨q1, q2, q3⟩
    simp only at q1 q2 q3
    subst q1
    obtain ⟨t, e, k1, k2⟩ := X_passMinute q2 (minN_WF hw i (by omega))
    refine ⟨(nI (i + 1), t), ?_, rfl, k1, q3.tr k2⟩
    unfold f_X11_foretell_L13
    simp (disch := omega) only [↓lt_eq, ↓reduceIte, ↓un1, ↓un2, ↓un3, ↓un4, ↓bd_some, ↓bind_some', ↓sel_l, ↓sel_r, C1T, C1F, C2T, C2F, C3T, C3F, D1T, D1F, D2T, D2F, D3T, D3F, E1T, E1F, E2T, E2F, E3T, E3F, G1T, G1F, G2T, G2F, G3F, inb_T, inb_L, isB_0, isB_1, isB_b, nI_add, L_add1, L_add2, nI_cl, L_cl, bI_T, bI_F, eq_self, not_true_eq_false, not_false_eq_true, ↓bind_of e]
  · rintro ⟨v, s⟩ ⟨q1, q2, q3⟩
    simp only at q1 q2 q3
    subst q1
    refine ⟨s, ?_, q2, q3⟩
    unfold f_X11_foretell_L13
    simp (disch := omega) only [↓lt_eq, ↓reduceIte, ↓un1, ↓un2, ↓un3, ↓un4, ↓bd_some, ↓bind_some', ↓sel_l, ↓sel_r, C1T, C1F, C2T, C2F, C3T, C3F, D1T, D1F, D2T, D2F, D3T, D3F, E1T, E1F, E2T, E2F, E3T, E3F, G1T, G1F, G2T, G2F, G3F, inb_T, inb_L, isB_0, isB_1, isB_b, nI_add, L_add1, L_add2, nI_cl, L_cl, bI_T, bI_F, eq_self, not_true_eq_false, not_false_eq_true]
theorem M_goesOn {σ : St} {h : Hs} (hx : HM 729 0 σ h) (hw : WF h) (n : Nat) (hn : n ≤ 60) (hm : hMin h + n ≤ 20000) : Ok (f_X12_goesOn (nI n) σ) (fun s => HM 729 0 s (minN h n) ∧ FrM 729 σ s) := by
  unfold f_X12_goesOn
  rw [lt_eq]
  refine Ok.bind (Ok.mono (Q := fun s => HM 729 0 s (minN h n) ∧ FrM 729 σ s) ?_ (fun s q => Ok.ret q))
  refine loop_n (fun i (x : Int32 × St) => x.1 = nI i ∧ HM 729 0 x.2 (minN h i) ∧ FrM 729 σ x.2) _ n 5000 _ (by omega) ⟨nI_0.symm, hx, FrM.rf⟩ ?_ ?_
  · rintro i ⟨v, s⟩ hi ⟨q1, q2, q3⟩
    simp only at q1 q2 q3
    subst q1
    obtain ⟨t, e, k1, k2⟩ := M_passes q2 (minN_WF hw i (by omega)) (by omega)
    have e : f_X12_passes (729 : Int32) s = some t := e
    refine ⟨(nI (i + 1), t), ?_, rfl, k1, q3.tr k2⟩
    unfold f_X12_goesOn_L2
    simp (disch := omega) only [↓lt_eq, ↓reduceIte, ↓un1, ↓un2, ↓un3, ↓un4, ↓bd_some, ↓bind_some', ↓sel_l, ↓sel_r, C1T, C1F, C2T, C2F, C3T, C3F, D1T, D1F, D2T, D2F, D3T, D3F, E1T, E1F, E2T, E2F, E3T, E3F, G1T, G1F, G2T, G2F, G3F, inb_T, inb_L, isB_0, isB_1, isB_b, nI_add, L_add1, L_add2, nI_cl, L_cl, bI_T, bI_F, eq_self, not_true_eq_false, not_false_eq_true, ↓bind_of e]
  · rintro ⟨v, s⟩ ⟨q1, q2, q3⟩
    simp only at q1 q2 q3
    subst q1
    refine ⟨s, ?_, q2, q3⟩
    unfold f_X12_goesOn_L2
    simp (disch := omega) only [↓lt_eq, ↓reduceIte, ↓un1, ↓un2, ↓un3, ↓un4, ↓bd_some, ↓bind_some', ↓sel_l, ↓sel_r, C1T, C1F, C2T, C2F, C3T, C3F, D1T, D1F, D2T, D2F, D3T, D3F, E1T, E1F, E2T, E2F, E3T, E3F, G1T, G1F, G2T, G2F, G3F, inb_T, inb_L, isB_0, isB_1, isB_b, nI_add, L_add1, L_add2, nI_cl, L_cl, bI_T, bI_F, eq_self, not_true_eq_false, not_false_eq_true]
theorem M_goesOn1 {σ : St} {h : Hs} (hx : HM 729 0 σ h) (hw : WF h) (hm : hMin h + 1 ≤ 20000) : Ok (f_X12_goesOn (1 : Int32) σ) (fun s => HM 729 0 s (minuteH h) ∧ FrM 729 σ s) := M_goesOn hx hw 1 (by omega) hm
theorem X_try {σ : St} {h : Hs} (hx : HX 19 σ h) (hw : WF h) : Ok (f_X3_become 27 19 σ) (fun s => HX 27 s h ∧ Fr (blk 27) σ s) := X_become hx hw (by omega)
theorem M_try {σ : St} {h : Hs} (hx : HM 0 0 σ h) (hw : WF h) : Ok (f_X12_copies (0 : Int32) (729 : Int32) σ) (fun s => HM 729 0 s h ∧ FrM 729 σ s) := by
  obtain ⟨s, e, k1, k2, k3⟩ := M_copies (b := 0) (c := 729) (σ := σ) (by omega) (by omega) (by omega)
  exact ⟨s, e, hx.copied hw (fun k q => k1 k q) (k2 261 (by omega)), fun a q _ => k2 a q, fun k q => k3 k (by omega)⟩
