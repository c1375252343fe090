/-! what a house is, and what a minute does to it: plain numbers -/
/-- lines, things, main, minute, used, what is on (bits), main in; kinds, rates, heats, dead, plugs, loads -/
abbrev Hs : Type := (Nat × Nat × Nat × Nat × Nat × Nat × Bool) × (Nat → Nat) × (Nat → Nat) × (Nat → Nat) × (Nat → Nat) × (Nat → Nat) × (Nat → Nat)
def hL (h : Hs) : Nat := h.1.1
def hN (h : Hs) : Nat := h.1.2.1
def hMain (h : Hs) : Nat := h.1.2.2.1
def hMin (h : Hs) : Nat := h.1.2.2.2.1
def hUsed (h : Hs) : Nat := h.1.2.2.2.2.1
def hOn (h : Hs) : Nat := h.1.2.2.2.2.2.1
def hIn (h : Hs) : Bool := h.1.2.2.2.2.2.2
def hKd (h : Hs) : Nat → Nat := h.2.1
def hRt (h : Hs) : Nat → Nat := h.2.2.1
def hHt (h : Hs) : Nat → Nat := h.2.2.2.1
def hDd (h : Hs) : Nat → Nat := h.2.2.2.2.1
def hPg (h : Hs) : Nat → Nat := h.2.2.2.2.2.1
def hLd (h : Hs) : Nat → Nat := h.2.2.2.2.2.2
def mkH (L N main mi us on : Nat) (inn : Bool) (kd rt ht dd pg ld : Nat → Nat) : Hs := ((L, N, main, mi, us, on, inn), kd, rt, ht, dd, pg, ld)
def live (h : Hs) (l : Nat) : Bool := hIn h && decide (hDd h l = 0)
def isOnH (h : Hs) (t : Nat) : Bool := (hOn h).testBit t
def runsH (h : Hs) (t : Nat) : Bool := isOnH h t && live h (hPg h t)
def flowN (h : Hs) (l n : Nat) : Nat := sumT (fun t => if runsH h t && decide (hPg h t = l) then hLd h t else 0) n
def flowH (h : Hs) (l : Nat) : Nat := flowN h l (hN h)
def allN (h : Hs) (n : Nat) : Nat := sumT (fun t => if runsH h t then hLd h t else 0) n
def allH (h : Hs) : Nat := allN h (hN h)
def heatN (k ht fl rt : Nat) : Nat := if 4 ≤ k then ht else if fl ≤ rt then ht - 1 else min 99 (ht + if k = 2 then (fl - rt) / 2 else fl - rt)
def deadN (k ht fl rt : Nat) : Nat := if 4 ≤ k then (if fl ≤ rt then 0 else if k = 5 then 3 else 1) else if 10 ≤ ht ∨ (k = 3 ∧ 2 * rt ≤ fl) then 1 else 0
/-- a line behind a minute with this flow -/
def passHt (h : Hs) (l fl : Nat) : Nat := if live h l then heatN (hKd h l) (hHt h l) fl (hRt h l) else hHt h l - 1
def passDd (h : Hs) (l fl : Nat) : Nat := if live h l then deadN (hKd h l) (passHt h l fl) fl (hRt h l) else if hKd h l = 5 then hDd h l - 1 else hDd h l
def minuteH (h : Hs) : Hs := mkH (hL h) (hN h) (hMain h) (hMin h + 1) (min 99999 (hUsed h + allH h)) (hOn h) (hIn h && decide (allH h ≤ hMain h)) (hKd h) (hRt h) (fun l => passHt h l (flowH h l)) (fun l => passDd h l (flowH h l)) (hPg h) (hLd h)
/-- the bounds -/
def WF (h : Hs) : Prop := hL h ≤ 4 ∧ hN h ≤ 6 ∧ hMain h ≤ 60 ∧ hMin h ≤ 20000 ∧ hUsed h ≤ 99999 ∧ hOn h < 2 ^ hN h ∧
  (∀ l, l < hL h → 1 ≤ hKd h l ∧ hKd h l ≤ 5 ∧ hRt h l ≤ 20 ∧ hHt h l ≤ 99 ∧ hDd h l ≤ 3) ∧ ∀ t, t < hN h → hPg h t < hL h ∧ hLd h t ≤ 20 ∧ 1 ≤ hLd h t
/-- the class's house at the place a is h -/
def HX (a : Nat) (σ : St) (h : Hs) : Prop := σ a 1 = nI (hL h) ∧ σ a 2 = nI (hN h) ∧ σ a 3 = nI (hMain h) ∧ σ a 4 = nI (hMin h) ∧ σ a 5 = nI (hUsed h) ∧ σ a 6 = bI (hIn h) ∧ σ a 14 = nI (hOn h) ∧
  (∀ l, l < hL h → σ (a + 1) l = nI (hKd h l) ∧ σ (a + 2) l = nI (hRt h l) ∧ σ (a + 3) l = nI (hHt h l) ∧ σ (a + 4) l = nI (hDd h l)) ∧ ∀ t, t < hN h → σ (a + 6) t = nI (hPg h t) ∧ σ (a + 7) t = nI (hLd h t)
/-- the reference's house at the place b of the slots, its told part at the place d, is h -/
def HM (b d : Nat) (σ : St) (h : Hs) : Prop := σ 261 d = nI (hL h) ∧ σ 261 (d + 1) = nI (hN h) ∧ σ 261 (d + 2) = nI (hMain h) ∧ σ 260 (b + 26) = nI (hMin h) ∧ σ 260 (b + 25) = nI (hUsed h) ∧ σ 260 (b + 24) = bI (!hIn h) ∧
  (∀ l, l < hL h → σ 261 (d + 3 + l) = nI (hKd h l) ∧ σ 260 (b + 8 + l) = nI (hRt h l) ∧ σ 260 (b + l) = nI (hHt h l) ∧ σ 260 (b + 4 + l) = nI (hDd h l)) ∧ ∀ t, t < hN h → σ 260 (b + 12 + t) = nI (hPg h t) ∧ σ 261 (d + 7 + t) = nI (hLd h t) ∧ σ 260 (b + 18 + t) = bI (isOnH h t)
theorem allN_le {h : Hs} (hw : WF h) : ∀ n, n ≤ hN h → allN h n ≤ n * 20 := by
  intro n hn
  refine sumT_le (fun i hi => ?_)
  have := hw.2.2.2.2.2.2.2 i (by omega)
  split <;> omega
theorem flowN_le {h : Hs} (hw : WF h) (l : Nat) : ∀ n, n ≤ hN h → flowN h l n ≤ n * 20 := by
  intro n hn
  refine sumT_le (fun i hi => ?_)
  have := hw.2.2.2.2.2.2.2 i (by omega)
  split <;> omega
theorem allH_le {h : Hs} (hw : WF h) : allH h ≤ 120 := by
  have h1 := allN_le hw (hN h) (Nat.le_refl _)
  have h2 := hw.2.1
  unfold allH
  omega
theorem flowH_le {h : Hs} (hw : WF h) (l : Nat) : flowH h l ≤ 120 := by
  have h1 := flowN_le hw l (hN h) (Nat.le_refl _)
  have h2 := hw.2.1
  unfold flowH
  omega
theorem passHt_le {h : Hs} (hw : WF h) {l fl : Nat} (hl : l < hL h) : passHt h l fl ≤ 99 := by
  have h1 := hw.2.2.2.2.2.2.1 l hl
  unfold passHt heatN
  split
  · split
    · omega
    · split <;> omega
  · omega
theorem passDd_le {h : Hs} (hw : WF h) {l fl : Nat} (hl : l < hL h) : passDd h l fl ≤ 3 := by
  have h1 := hw.2.2.2.2.2.2.1 l hl
  unfold passDd deadN
  split
  · split
    · split
      · omega
      · split <;> omega
    · split <;> omega
  · split <;> omega
theorem minute_WF {h : Hs} (hw : WF h) (hm : hMin h < 20000) : WF (minuteH h) := by
  obtain ⟨h1, h2, h3, h4, h5, h6, h7, h8⟩ := id hw
  refine ⟨h1, h2, h3, ?_, ?_, h6, ?_, h8⟩
  · show hMin h + 1 ≤ 20000
    omega
  · show min 99999 (hUsed h + allH h) ≤ 99999
    omega
  · intro l hl
    have q := h7 l hl
    exact ⟨q.1, q.2.1, q.2.2.1, passHt_le hw hl, passDd_le hw hl⟩
