/-! what a text means; the class reads it so -/
def sortN (t : Nat) : Nat := if t = 119 then 1 else if t = 115 then 2 else if t = 113 then 3 else if t = 98 then 4 else if t = 99 then 5 else 0
theorem sortN_le (t : Nat) : sortN t ≤ 5 := by
  unfold sortN
  repeat' split
  all_goals omega
def lineA (c : Nat → Nat) (n p : Nat) : (Nat × Nat) ⊕ (Nat × Nat) := sb (numA c n 1 20 (tkE c n p)) fun y => sb (takeA c n 59 y.2) fun q => .inr (y.1, q)
def thingA (c : Nat → Nat) (n L p : Nat) : (Nat × Nat) ⊕ (Nat × Nat × Nat × Nat) := sb (numA c n 0 (L - 1) (tkE c n p)) fun y1 => sb (takeA c n 44 y1.2) fun p2 => sb (numA c n 1 20 p2) fun y2 => sb (takeA c n 44 y2.2) fun p3 => sb (numA c n 0 1 p3) fun y3 => sb (takeA c n 59 y3.2) fun p4 => .inr (y1.1, y2.1, y3.1, p4)
def addL (h : Hs) (k r : Nat) : Hs := mkH (hL h + 1) (hN h) (hMain h) (hMin h) (hUsed h) (hOn h) (hIn h) (fun l => if l = hL h then k else hKd h l) (fun l => if l = hL h then r else hRt h l) (fun l => if l = hL h then 0 else hHt h l) (fun l => if l = hL h then 0 else hDd h l) (hPg h) (hLd h)
def addT (h : Hs) (l x o : Nat) : Hs := mkH (hL h) (hN h + 1) (hMain h) (hMin h) (hUsed h) (hOn h + o * 2 ^ hN h) (hIn h) (hKd h) (hRt h) (hHt h) (hDd h) (fun t => if t = hN h then l else hPg h t) (fun t => if t = hN h then x else hLd h t)
def PH (h : Hs) : Prop := WF h ∧ hMin h = 0 ∧ hUsed h = 0 ∧ hIn h = true ∧ ∀ l, hHt h l = 0 ∧ hDd h l = 0
def h00 (m : Nat) : Hs := mkH 0 0 m 0 0 0 true (fun _ => 0) (fun _ => 0) (fun _ => 0) (fun _ => 0) (fun _ => 0) (fun _ => 0)
theorem PH.h00 {m : Nat} (hm : m ≤ 60) : PH (h00 m) := by
  refine ⟨⟨Nat.zero_le _, Nat.zero_le _, hm, Nat.zero_le _, Nat.zero_le _, Nat.one_pos, fun l hl => absurd hl (Nat.not_lt_zero l), fun t ht => absurd ht (Nat.not_lt_zero t)⟩, rfl, rfl, rfl, fun l => ⟨rfl, rfl⟩⟩
theorem PH.addL {h : Hs} (hp : PH h) {k r : Nat} (h4 : hL h < 4) (hN0 : hN h = 0) (k1 : 1 ≤ k) (k5 : k ≤ 5) (hr : r ≤ 20) : PH (addL h k r) := by
  obtain ⟨⟨h1, h2, h3, h5, h6, h7, h8, h9⟩, a, b, d, e⟩ := hp
  refine ⟨⟨by show hL h + 1 ≤ 4; omega, h2, h3, h5, h6, h7, fun l hl => ?_, fun t ht => ?_⟩, a, b, d, fun l => ⟨?_, ?_⟩⟩
  · have hl : l < hL h + 1 := hl
    show 1 ≤ (if l = hL h then k else hKd h l) ∧ (if l = hL h then k else hKd h l) ≤ 5 ∧ (if l = hL h then r else hRt h l) ≤ 20 ∧ (if l = hL h then 0 else hHt h l) ≤ 99 ∧ (if l = hL h then 0 else hDd h l) ≤ 3
    by_cases z : l = hL h
    · rw [if_pos z, if_pos z, if_pos z, if_pos z]; omega
    · rw [if_neg z, if_neg z, if_neg z, if_neg z]
      exact h8 l (by omega)
  · have ht : t < hN h := ht
    omega
  · show (if l = hL h then 0 else hHt h l) = 0
    split
    · rfl
    · exact (e l).1
  · show (if l = hL h then 0 else hDd h l) = 0
    split
    · rfl
    · exact (e l).2
theorem PH.addT {h : Hs} (hp : PH h) {l x o : Nat} (h6' : hN h < 6) (hl : l < hL h) (x1 : 1 ≤ x) (x20 : x ≤ 20) (ho : o ≤ 1) : PH (addT h l x o) := by
  obtain ⟨⟨h1, h2, h3, h5, h6, h7, h8, h9⟩, a, b, d, e⟩ := hp
  refine ⟨⟨h1, by show hN h + 1 ≤ 6; omega, h3, h5, h6, ?_, h8, fun t ht => ?_⟩, a, b, d, e⟩
  · show hOn h + o * 2 ^ hN h < 2 ^ (hN h + 1)
    have : o * 2 ^ hN h ≤ 1 * 2 ^ hN h := Nat.mul_le_mul_right _ ho
    rw [Nat.pow_succ]
    omega
  · have ht : t < hN h + 1 := ht
    show (if t = hN h then l else hPg h t) < hL h ∧ (if t = hN h then x else hLd h t) ≤ 20 ∧ 1 ≤ (if t = hN h then x else hLd h t)
    by_cases z : t = hN h
    · rw [if_pos z, if_pos z]; omega
    · rw [if_neg z, if_neg z]
      exact h9 t (by omega)
def lineStep (c : Nat → Nat) (n : Nat) (h : Hs) (p : Nat) : (Nat × Nat) ⊕ (Hs × Nat) := if sortN (tkC c n p) = 0 then .inl (1, p) else if hL h = 4 then .inl (3, p) else sb (lineA c n p) fun y => .inr (addL h (sortN (tkC c n p)) y.1, y.2)
def thingStep (c : Nat → Nat) (n : Nat) (h : Hs) (p : Nat) : (Nat × Nat) ⊕ (Hs × Nat) := if tkC c n p = 116 then (if hN h = 6 then .inl (3, p) else sb (thingA c n (hL h) p) fun y => .inr (addT h y.1 y.2.1 y.2.2.1, y.2.2.2)) else .inl (1, p)
def stepA (c : Nat → Nat) (n : Nat) (h : Hs) (p : Nat) : (Nat × Nat) ⊕ Option (Hs × Nat) :=
  if tkC c n p = 257 ∧ 0 < hN h then .inr none
  else if 0 < sortN (tkC c n p) ∧ hN h = 0 then sb (lineStep c n h p) fun y => .inr (some y)
  else if tkC c n p = 116 ∧ 0 < hL h then sb (thingStep c n h p) fun y => .inr (some y)
  else .inl (1, p)
def runA (c : Nat → Nat) (n : Nat) : Nat → Hs → Nat → (Nat × Nat) ⊕ Hs
  | 0, _, p => .inl (1, p)
  | f + 1, h, p => sb (stepA c n h p) fun o => match o with
    | none => .inr h
    | some y => runA c n f y.1 y.2
def runS (c : Nat → Nat) (n : Nat) (h : Hs) (p : Nat) : (Nat × Nat) ⊕ Hs := runA c n (12 - (hL h + hN h)) h p
def lawA (c : Nat → Nat) (n : Nat) : (Nat × Nat) ⊕ (Nat × Nat) := sb (takeA c n 109 0) fun p => sb (numA c n 1 60 p) fun y => sb (takeA c n 59 y.2) fun q => .inr (y.1, q)
def parseA (c : Nat → Nat) (n : Nat) : (Nat × Nat) ⊕ Hs := sb (lawA c n) fun y => runS c n (h00 y.1) y.2
theorem runS_eq {c : Nat → Nat} {n : Nat} {h : Hs} {p : Nat} (hb : hL h + hN h ≤ 11) : runS c n h p = sb (stepA c n h p) fun o => match o with
    | none => .inr h
    | some y => runA c n (11 - (hL h + hN h)) y.1 y.2 := by
  unfold runS
  rw [show 12 - (hL h + hN h) = (11 - (hL h + hN h)) + 1 by omega]
  rfl
theorem takeA_ok {c : Nat → Nat} {n w p q : Nat} (h : takeA c n w p = .inr q) : tkC c n p = w ∧ q = tkE c n p := by
  unfold takeA at h
  split at h
  · cases h; exact ⟨by assumption, rfl⟩
  · cases h
theorem takeA_err {c : Nat → Nat} {n w p : Nat} {e : Nat × Nat} (h : takeA c n w p = .inl e) : e = (1, p) := by
  unfold takeA at h
  split at h
  · cases h
  · cases h; rfl
theorem numA_ok {c : Nat → Nat} {n lo hi p : Nat} {y : Nat × Nat} (h : numA c n lo hi p = .inr y) : lo ≤ y.1 ∧ y.1 ≤ hi ∧ y.2 = tkE c n p := by
  unfold numA at h
  split at h
  · split at h
    · rename_i q; cases h; exact ⟨q.1, q.2, rfl⟩
    · cases h
  · cases h
theorem sb_ok {α β : Type} {r : (Nat × Nat) ⊕ α} {k : α → (Nat × Nat) ⊕ β} {z : β} (h : sb r k = .inr z) : ∃ a, r = .inr a ∧ k a = .inr z := by
  cases r with
  | inl e => cases h
  | inr a => exact ⟨a, rfl, h⟩
theorem lineStep_ok {c : Nat → Nat} {n : Nat} {h : Hs} {p : Nat} {y : Hs × Nat} (hp : PH h) (hN0 : hN h = 0) (q : lineStep c n h p = .inr y) : PH y.1 ∧ hL y.1 = hL h + 1 ∧ hN y.1 = hN h := by
  unfold lineStep at q
  split at q
  · cases q
  · rename_i z1
    split at q
    · cases q
    · rename_i z2
      obtain ⟨a, q1, q2⟩ := sb_ok q
      cases q2
      unfold lineA at q1
      obtain ⟨b, q3, q4⟩ := sb_ok q1
      obtain ⟨d, q5, q6⟩ := sb_ok q4
      cases q6
      obtain ⟨n1, n2, n3⟩ := numA_ok q3
      have := hp.1.1
      have h5 := sortN_le (tkC c n p)
      exact ⟨hp.addL (by omega) hN0 (by omega) h5 n2, rfl, rfl⟩
theorem thingStep_ok {c : Nat → Nat} {n : Nat} {h : Hs} {p : Nat} {y : Hs × Nat} (hp : PH h) (hL0 : 0 < hL h) (q : thingStep c n h p = .inr y) : PH y.1 ∧ hL y.1 = hL h ∧ hN y.1 = hN h + 1 := by
  unfold thingStep at q
  split at q
  · split at q
    · cases q
    · rename_i z2
      obtain ⟨a, q1, q2⟩ := sb_ok q
      cases q2
      unfold thingA at q1
      obtain ⟨b1, q3, q1⟩ := sb_ok q1
      obtain ⟨b2, q4, q1⟩ := sb_ok q1
      obtain ⟨b3, q5, q1⟩ := sb_ok q1
      obtain ⟨b4, q6, q1⟩ := sb_ok q1
      obtain ⟨b5, q7, q1⟩ := sb_ok q1
      obtain ⟨b6, q8, q1⟩ := sb_ok q1
      cases q1
      have n1 := numA_ok q3
      have n2 := numA_ok q5
      have n3 := numA_ok q7
      have := hp.1.2.1
      exact ⟨hp.addT (by omega) (by omega) n2.1 n2.2.1 n3.2.1, rfl, rfl⟩
  · cases q
theorem PH.b {h : Hs} (hp : PH h) : hL h + hN h ≤ 11 := by have := hp.1.1; have := hp.1.2.1; omega
theorem runS_line {c : Nat → Nat} {n : Nat} {h : Hs} {p : Nat} (hp : PH h) (hN0 : hN h = 0) (hz : 0 < sortN (tkC c n p) ∨ hL h = 0) : runS c n h p = sb (lineStep c n h p) fun y => runS c n y.1 y.2 := by
  rw [runS_eq hp.b]
  have es : stepA c n h p = sb (lineStep c n h p) fun y => .inr (some y) := by
    unfold stepA
    rw [if_neg (by omega)]
    by_cases z : 0 < sortN (tkC c n p)
    · rw [if_pos ⟨z, hN0⟩]
    · rw [if_neg (fun q => z q.1), if_neg (by omega)]
      unfold lineStep
      rw [if_pos (by omega)]; rfl
  rw [es]
  cases hq : lineStep c n h p with
  | inl e => rfl
  | inr y =>
    have k := lineStep_ok hp hN0 hq
    show runA c n (11 - (hL h + hN h)) y.1 y.2 = runS c n y.1 y.2
    unfold runS
    rw [k.2.1, k.2.2, show 12 - (hL h + 1 + hN h) = 11 - (hL h + hN h) by omega]
theorem runS_thing {c : Nat → Nat} {n : Nat} {h : Hs} {p : Nat} (hp : PH h) (hL0 : 0 < hL h) (hz : tkC c n p = 116 ∨ (hN h = 0 ∧ sortN (tkC c n p) = 0)) : runS c n h p = sb (thingStep c n h p) fun y => runS c n y.1 y.2 := by
  rw [runS_eq hp.b]
  have es : stepA c n h p = sb (thingStep c n h p) fun y => .inr (some y) := by
    unfold stepA
    by_cases z : tkC c n p = 116
    · have e : sortN (tkC c n p) = 0 := by rw [z]; rfl
      rw [if_neg (by omega), if_neg (by omega), if_pos ⟨z, hL0⟩]
    · have z2 := hz.resolve_left z
      rw [if_neg (by omega), if_neg (by omega), if_neg (fun q => z q.1)]
      unfold thingStep
      rw [if_neg z]; rfl
  rw [es]
  cases hq : thingStep c n h p with
  | inl e => rfl
  | inr y =>
    have k := thingStep_ok hp hL0 hq
    show runA c n (11 - (hL h + hN h)) y.1 y.2 = runS c n y.1 y.2
    unfold runS
    rw [k.2.1, k.2.2, show 12 - (hL h + (hN h + 1)) = 11 - (hL h + hN h) by omega]
theorem runS_end {c : Nat → Nat} {n : Nat} {h : Hs} {p : Nat} (hp : PH h) (hN0 : 0 < hN h) (hz : tkC c n p ≠ 116) : runS c n h p = sb (takeA c n 257 p) fun _ => .inr h := by
  rw [runS_eq hp.b]
  unfold stepA takeA
  by_cases z : tkC c n p = 257
  · rw [if_pos ⟨z, hN0⟩, if_pos z]; rfl
  · rw [if_neg (fun q => z q.1), if_neg (by omega), if_neg (fun q => hz q.1), if_neg z]; rfl
/-! the class -/
theorem X_addLine {s : St} {h : Hs} (hx : HX 27 s h) (h4 : hL h < 4) (k r : Nat) : Ok (f_X3_addLine 27 (nI k) (nI r) s) (fun t => HX 27 t (addL h k r) ∧ Fr (blk 27) s t) := by
  obtain ⟨g1, g2, g3, g4, g5, g6, g7, gl, gt⟩ := id hx
  generalize hs4 : wr (wr (wr (wr s (27 + 1) (hL h) (nI k)) (27 + 2) (hL h) (nI r)) (27 + 3) (hL h) 0) (27 + 4) (hL h) 0 = s4
  have y : ∀ b, b ≠ 28 → b ≠ 29 → b ≠ 30 → b ≠ 31 → s4 b = s b := fun b z1 z2 z3 z4 => by rw [← hs4, wr_a (by omega), wr_a (by omega), wr_a (by omega), wr_a (by omega)]
  have e1 : wr s (27 + 1) (hL h) (nI k) 27 1 = nI (hL h) := by rw [wr_a (by omega)]; exact g1
  have e2 : wr (wr s (27 + 1) (hL h) (nI k)) (27 + 2) (hL h) (nI r) 27 1 = nI (hL h) := by rw [wr_a (by omega)]; exact e1
  have e3 : wr (wr (wr s (27 + 1) (hL h) (nI k)) (27 + 2) (hL h) (nI r)) (27 + 3) (hL h) 0 27 1 = nI (hL h) := by rw [wr_a (by omega)]; exact e2
  have e4 : s4 27 1 = nI (hL h) := by rw [y 27 (by omega) (by omega) (by omega) (by omega)]; exact g1
  have o : ∀ k, k ≠ 1 → wr s4 27 1 (nI (hL h + 1)) 27 k = s 27 k := fun k z => by rw [wr_k z, y 27 (by omega) (by omega) (by omega) (by omega)]
  refine ⟨wr s4 27 1 (nI (hL h + 1)), ?_, ⟨wr_same _ _ _ _, (o 2 (by omega)).trans g2, (o 3 (by omega)).trans g3, (o 4 (by omega)).trans g4, (o 5 (by omega)).trans g5, (o 6 (by omega)).trans g6, (o 14 (by omega)).trans g7, fun l hl => ?_, fun t ht => ?_⟩, ?_⟩
  · unfold f_X3_addLine
    simp (disch := omega) only [↓lt_eq, ↓reduceIte, ↓un1, ↓un2, ↓un3, ↓un4, ↓bd_some, ↓bind_some', ↓sel_l, ↓sel_r, C1T, C1F, C2T, C2F, C3T, C3F, D1T, D1F, D2T, D2F, D3T, D3F, E1T, E1F, E2T, E2F, E3T, E3F, G1T, G1F, G2T, G2F, G3F, inb_T, inb_L, isB_0, isB_1, isB_b, nI_add, L_add1, L_add2, nI_cl, L_cl, bI_T, bI_F, eq_self, not_true_eq_false, not_false_eq_true, g1, e1, e2, e3, hs4, e4]
  · have hl : l < hL h + 1 := hl
    show wr s4 27 1 (nI (hL h + 1)) (27 + 1) l = nI (if l = hL h then k else hKd h l) ∧ wr s4 27 1 (nI (hL h + 1)) (27 + 2) l = nI (if l = hL h then r else hRt h l) ∧ wr s4 27 1 (nI (hL h + 1)) (27 + 3) l = nI (if l = hL h then 0 else hHt h l) ∧ wr s4 27 1 (nI (hL h + 1)) (27 + 4) l = nI (if l = hL h then 0 else hDd h l)
    rw [wr_a (show 27 + 1 ≠ 27 by omega), wr_a (show 27 + 2 ≠ 27 by omega), wr_a (show 27 + 3 ≠ 27 by omega), wr_a (show 27 + 4 ≠ 27 by omega), ← hs4]
    by_cases z : l = hL h
    · subst z
      rw [if_pos rfl, if_pos rfl, if_pos rfl, if_pos rfl]
      refine ⟨?_, ?_, ?_, ?_⟩
      · rw [wr_a (by omega), wr_a (by omega), wr_a (by omega), wr_same]
      · rw [wr_a (by omega), wr_a (by omega), wr_same]
      · rw [wr_a (by omega), wr_same]; rfl
      · rw [wr_same]; rfl
    · rw [if_neg z, if_neg z, if_neg z, if_neg z]
      obtain ⟨q1, q2, q3, q4⟩ := gl l (by omega)
      refine ⟨?_, ?_, ?_, ?_⟩
      · rw [wr_a (by omega), wr_a (by omega), wr_a (by omega), wr_k z]; exact q1
      · rw [wr_a (by omega), wr_a (by omega), wr_k z, wr_a (by omega)]; exact q2
      · rw [wr_a (by omega), wr_k z, wr_a (by omega), wr_a (by omega)]; exact q3
      · rw [wr_k z, wr_a (by omega), wr_a (by omega), wr_a (by omega)]; exact q4
  · obtain ⟨q1, q2⟩ := gt t ht
    refine ⟨?_, ?_⟩
    · rw [wr_a (by omega), y _ (by omega) (by omega) (by omega) (by omega)]; exact q1
    · rw [wr_a (by omega), y _ (by omega) (by omega) (by omega) (by omega)]; exact q2
  · intro b hb
    have hb : b < 27 ∨ 35 ≤ b := by unfold blk at hb; omega
    rw [wr_a (by omega), y b (by omega) (by omega) (by omega) (by omega)]
theorem or_shl : ∀ N, N < 6 → ∀ m, m < 2 ^ N → ∀ o, o < 2 → nI m ||| (nI o <<< (nI N &&& 31)) = nI (m + o * 2 ^ N) := by decide +kernel
theorem X_addThing {s : St} {h : Hs} (hx : HX 27 s h) (h6 : hN h < 6) (hon : hOn h < 2 ^ hN h) (l x o : Nat) (ho : o ≤ 1) : Ok (f_X3_addThing 27 (nI l) (nI x) (nI o) s) (fun t => HX 27 t (addT h l x o) ∧ Fr (blk 27) s t) := by
  obtain ⟨g1, g2, g3, g4, g5, g6, g7, gl, gt⟩ := id hx
  have eo := or_shl (hN h) h6 (hOn h) hon o (by omega)
  generalize hs2 : wr (wr s (27 + 6) (hN h) (nI l)) (27 + 7) (hN h) (nI x) = s2
  have y : ∀ b, b ≠ 33 → b ≠ 34 → s2 b = s b := fun b z1 z2 => by rw [← hs2, wr_a (by omega), wr_a (by omega)]
  have e1 : wr s (27 + 6) (hN h) (nI l) 27 2 = nI (hN h) := by rw [wr_a (by omega)]; exact g2
  have e2 : s2 27 2 = nI (hN h) := by rw [y 27 (by omega) (by omega)]; exact g2
  have e3 : s2 27 14 = nI (hOn h) := by rw [y 27 (by omega) (by omega)]; exact g7
  generalize hs3 : wr s2 27 14 (nI (hOn h + o * 2 ^ hN h)) = s3
  have x2 : s3 27 2 = nI (hN h) := by rw [← hs3, wr_k (by omega)]; exact e2
  have x14 : s3 27 14 = nI (hOn h + o * 2 ^ hN h) := by rw [← hs3, wr_same]
  have xk : ∀ k, k ≠ 14 → s3 27 k = s 27 k := fun k z => by rw [← hs3, wr_k z, y 27 (by omega) (by omega)]
  have xo : ∀ b, b ≠ 27 → s3 b = s2 b := fun b z => by rw [← hs3, wr_a z]
  have oo : ∀ k, k ≠ 2 → k ≠ 14 → wr s3 27 2 (nI (hN h + 1)) 27 k = s 27 k := fun k z1 z2 => by rw [wr_k z1, xk k z2]
  refine ⟨wr s3 27 2 (nI (hN h + 1)), ?_, ⟨(oo 1 (by omega) (by omega)).trans g1, wr_same _ _ _ _, (oo 3 (by omega) (by omega)).trans g3, (oo 4 (by omega) (by omega)).trans g4, (oo 5 (by omega) (by omega)).trans g5, (oo 6 (by omega) (by omega)).trans g6, by rw [wr_k (by omega)]; exact x14, fun m hm => ?_, fun t ht => ?_⟩, ?_⟩
  · unfold f_X3_addThing
    simp (disch := omega) only [↓lt_eq, ↓reduceIte, ↓un1, ↓un2, ↓un3, ↓un4, ↓bd_some, ↓bind_some', ↓sel_l, ↓sel_r, C1T, C1F, C2T, C2F, C3T, C3F, D1T, D1F, D2T, D2F, D3T, D3F, E1T, E1F, E2T, E2F, E3T, E3F, G1T, G1F, G2T, G2F, G3F, inb_T, inb_L, isB_0, isB_1, isB_b, nI_add, L_add1, L_add2, nI_cl, L_cl, bI_T, bI_F, eq_self, not_true_eq_false, not_false_eq_true, g2, e1, hs2, e2, e3, eo, hs3, x2]
  · obtain ⟨q1, q2, q3, q4⟩ := gl m hm
    refine ⟨?_, ?_, ?_, ?_⟩
    · rw [wr_a (by omega), xo _ (by omega), y _ (by omega) (by omega)]; exact q1
    · rw [wr_a (by omega), xo _ (by omega), y _ (by omega) (by omega)]; exact q2
    · rw [wr_a (by omega), xo _ (by omega), y _ (by omega) (by omega)]; exact q3
    · rw [wr_a (by omega), xo _ (by omega), y _ (by omega) (by omega)]; exact q4
  · have ht : t < hN h + 1 := ht
    show wr s3 27 2 (nI (hN h + 1)) (27 + 6) t = nI (if t = hN h then l else hPg h t) ∧ wr s3 27 2 (nI (hN h + 1)) (27 + 7) t = nI (if t = hN h then x else hLd h t)
    rw [wr_a (show 27 + 6 ≠ 27 by omega), wr_a (show 27 + 7 ≠ 27 by omega), xo _ (by omega), xo _ (by omega), ← hs2]
    by_cases z : t = hN h
    · subst z
      rw [if_pos rfl, if_pos rfl]
      exact ⟨by rw [wr_a (by omega), wr_same], wr_same _ _ _ _⟩
    · rw [if_neg z, if_neg z]
      obtain ⟨q1, q2⟩ := gt t (by omega)
      exact ⟨by rw [wr_a (by omega), wr_k z]; exact q1, by rw [wr_k z, wr_a (by omega)]; exact q2⟩
  · intro b hb
    have hb : b < 27 ∨ 35 ≤ b := by unfold blk at hb; omega
    rw [wr_a (by omega), xo b (by omega), y b (by omega) (by omega)]
