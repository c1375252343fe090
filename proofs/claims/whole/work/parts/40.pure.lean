/-! pure: loops, numbers, frames -/
theorem loop_up {τ ρ : Type} {body : τ → Option (τ ⊕ ρ)} {r : ρ} : ∀ (n fuel : Nat) (st : Nat → τ), n < fuel → (∀ i, i < n → body (st i) = some (.inl (st (i + 1)))) → body (st n) = some (.inr r) → loopF body fuel (st 0) = some r := by
  intro n
  induction n with
  | zero =>
    intro fuel st hf _ he
    cases fuel with
    | zero => omega
    | succ f => unfold loopF; rw [he]
  | succ n ih =>
    intro fuel st hf hs he
    cases fuel with
    | zero => omega
    | succ f =>
      unfold loopF
      rw [hs 0 (by omega)]
      exact ih f (fun i => st (i + 1)) (by omega) (fun i hi => hs (i + 1) (by omega)) he
/-- each turn goes on with the invariant, or ends with the post -/
theorem loop_inv {τ ρ : Type} {body : τ → Option (τ ⊕ ρ)} (I : Nat → τ → Prop) (P : ρ → Prop) : ∀ (n fuel : Nat) (s : τ) (i : Nat), n < fuel → I i s → (∀ j s, i ≤ j → I j s → (∃ s', body s = some (.inl s') ∧ j < i + n ∧ I (j + 1) s') ∨ ∃ r, body s = some (.inr r) ∧ P r) → ∃ r, loopF body fuel s = some r ∧ P r := by
  intro n
  induction n with
  | zero =>
    intro fuel s i hf h0 hs
    cases fuel with
    | zero => omega
    | succ f =>
      rcases hs i s (Nat.le_refl i) h0 with ⟨s', -, h, -⟩ | ⟨r, hb, hp⟩
      · omega
      · exact ⟨r, by unfold loopF; rw [hb], hp⟩
  | succ n ih =>
    intro fuel s i hf h0 hs
    cases fuel with
    | zero => omega
    | succ f =>
      rcases hs i s (Nat.le_refl i) h0 with ⟨s', hb, h, h1⟩ | ⟨r, hb, hp⟩
      · obtain ⟨r, hr, hp⟩ := ih f s' (i + 1) (by omega) h1 (fun j t hj ht => by
          rcases hs j t (by omega) ht with ⟨s2, a1, a2, a3⟩ | h
          · exact Or.inl ⟨s2, a1, by omega, a3⟩
          · exact Or.inr h)
        exact ⟨r, by unfold loopF; rw [hb]; exact hr, hp⟩
      · exact ⟨r, by unfold loopF; rw [hb], hp⟩
/-- a counted loop: n turns, then the end -/
theorem loop_n {τ ρ : Type} {body : τ → Option (τ ⊕ ρ)} (I : Nat → τ → Prop) (P : ρ → Prop) (n fuel : Nat) (s : τ) (hf : n < fuel) (h0 : I 0 s) (hs : ∀ i s, i < n → I i s → ∃ s', body s = some (.inl s') ∧ I (i + 1) s') (he : ∀ s, I n s → ∃ r, body s = some (.inr r) ∧ P r) : ∃ r, loopF body fuel s = some r ∧ P r := by
  refine loop_inv (fun i s => i ≤ n ∧ I i s) P n fuel s 0 hf ⟨Nat.zero_le n, h0⟩ ?_
  intro j t _ ht
  rcases Nat.lt_or_ge j n with h | h
  · obtain ⟨s', a, b⟩ := hs j t h ht.2
    exact Or.inl ⟨s', a, by omega, by omega, b⟩
  · have : j = n := by omega
    subst this
    exact Or.inr (he t ht.2)
/-- the cells outside S are as they were -/
def Fr (S : Nat → Prop) (σ σ' : St) : Prop := ∀ b, ¬ S b → σ' b = σ b
theorem Fr.rf {S : Nat → Prop} {σ : St} : Fr S σ σ := fun _ _ => rfl
theorem Fr.tr {S : Nat → Prop} {σ σ1 σ2 : St} (h1 : Fr S σ σ1) (h2 : Fr S σ1 σ2) : Fr S σ σ2 := fun b hb => (h2 b hb).trans (h1 b hb)
theorem Fr.mono {S T : Nat → Prop} {σ σ1 : St} (h : Fr S σ σ1) (hs : ∀ b, S b → T b) : Fr T σ σ1 := fun b hb => h b (fun q => hb (hs b q))
theorem Fr.w1 {S : Nat → Prop} {σ : St} {a k : Nat} {v : Int32} (h : S a) : Fr S σ (wr σ a k v) := fun b hb => by
  have : ¬ b = a := fun q => hb (q ▸ h)
  simp [wr, va_up, this]
theorem Fr.u1 {S : Nat → Prop} {σ : St} {a : Nat} {f : Nat → Int32} (h : S a) : Fr S σ (va_up σ a f) := fun b hb => by
  have : ¬ b = a := fun q => hb (q ▸ h)
  simp [va_up, this]
theorem wr_eq (σ : St) (a k : Nat) (v : Int32) (b j : Nat) : wr σ a k v b j = if b = a ∧ j = k then v else σ b j := by
  unfold wr va_up upd
  by_cases h : b = a
  · subst h
    by_cases h2 : j = k
    · simp [h2]
    · simp [h2]
  · simp [h]
theorem wr_same (σ : St) (a k : Nat) (v : Int32) : wr σ a k v a k = v := by rw [wr_eq]; simp
theorem wr_ne (σ : St) {a k b j : Nat} {v : Int32} (h : b = a → j = k → False) : wr σ a k v b j = σ b j := by
  rw [wr_eq, if_neg]; rintro ⟨h1, h2⟩; exact h h1 h2
theorem wr_a {σ : St} {a k b : Nat} {v : Int32} (h : b ≠ a) : wr σ a k v b = σ b := by unfold wr va_up; rw [if_neg h]
theorem inb_nI {i n : Nat} (h : i < n) (hn : n < 2 ^ 31) : inb (nI i) n := vp_in_nI h hn
theorem nI_cl {i : Nat} (h : i < 2147483648) : (nI i).toNatClampNeg = i := nI_clamp h
theorem bd_some {α β γ : Type} (a : α) (b : β) (k : α → β → Option γ) : bd (some (a, b)) k = k a b := rfl
theorem bind_some' {α β : Type} (a : α) (k : α → Option β) : (some a).bind k = k a := rfl
/-- a number of the class that is a Nat -/
theorem inb_ex {x : Int32} {n : Nat} (h : inb x n) (hn : n < 2 ^ 31) : ∃ j : Nat, j < n ∧ x = nI j := vp_in_of h hn
def bI (b : Bool) : Int32 := if b then 1 else 0
theorem isB_bI (b : Bool) : isB (bI b) := by cases b <;> simp [bI, isB]
theorem bI_0 {b : Bool} : bI b = 0 ↔ b = false := by cases b <;> simp [bI]
theorem bI_1 {b : Bool} : bI b = 1 ↔ b = true := by cases b <;> simp [bI]
def sumT (f : Nat → Nat) : Nat → Nat
  | 0 => 0
  | n + 1 => sumT f n + f n
def orT (p : Nat → Bool) : Nat → Int32
  | 0 => 0
  | n + 1 => orT p n ||| (if p n then (1 : Int32) <<< (nI n &&& 31) else 0)
theorem sumT_le {f : Nat → Nat} {c : Nat} : ∀ {n : Nat}, (∀ i, i < n → f i ≤ c) → sumT f n ≤ n * c
  | 0, _ => by simp [sumT]
  | n + 1, h => by
    have h1 := sumT_le (n := n) (fun i hi => h i (by omega))
    have h2 := h n (by omega)
    show sumT f n + f n ≤ (n + 1) * c
    rw [Nat.succ_mul]
    omega
theorem sumT_congr {f g : Nat → Nat} : ∀ {n : Nat}, (∀ i, i < n → f i = g i) → sumT f n = sumT g n
  | 0, _ => rfl
  | n + 1, h => by
    show sumT f n + f n = sumT g n + g n
    rw [sumT_congr (n := n) (fun i hi => h i (by omega)), h n (by omega)]
theorem orT_congr {p q : Nat → Bool} : ∀ {n : Nat}, (∀ i, i < n → p i = q i) → orT p n = orT q n
  | 0, _ => rfl
  | n + 1, h => by
    show orT p n ||| _ = orT q n ||| _
    rw [orT_congr (n := n) (fun i hi => h i (by omega)), h n (by omega)]
