/-! what is used by a plugging: the lines bear on one another through main alone -/
def plugH (h : Hs) (g : Nat → Nat) : Hs := mkH (hL h) (hN h) (hMain h) (hMin h) (hUsed h) (hOn h) (hIn h) (hKd h) (hRt h) (hHt h) (hDd h) g (hLd h)
def loadG (h : Hs) (g : Nat → Nat) (l n : Nat) : Nat := sumT (fun t => if isOnH h t && decide (g t = l) then hLd h t else 0) n
theorem flow_load (h : Hs) (l : Nat) : flowH h l = if live h l then loadG h (hPg h) l (hN h) else 0 := by
  unfold flowH flowN loadG
  cases hv : live h l with
  | true =>
    rw [if_pos rfl]
    refine sumT_congr (fun t _ => ?_)
    unfold runsH
    by_cases e : hPg h t = l
    · rw [e, hv]; simp
    · rw [decide_eq_false e]; simp
  | false =>
    rw [if_neg (by simp)]
    refine (sumT_congr (g := fun _ => 0) (fun t _ => ?_)).trans (sumT_zero _)
    unfold runsH
    by_cases e : hPg h t = l
    · rw [e, hv]; simp
    · rw [decide_eq_false e]; simp
theorem minN_kd (h : Hs) : ∀ n, hKd (minN h n) = hKd h
  | 0 => rfl
  | n + 1 => minN_kd h n
theorem minN_rt (h : Hs) : ∀ n, hRt (minN h n) = hRt h
  | 0 => rfl
  | n + 1 => minN_rt h n
theorem minN_ld (h : Hs) : ∀ n, hLd (minN h n) = hLd h
  | 0 => rfl
  | n + 1 => minN_ld h n
theorem minN_main (h : Hs) : ∀ n, hMain (minN h n) = hMain h
  | 0 => rfl
  | n + 1 => minN_main h n
/-- a line by itself, with a load, while main is as it is -/
def stepL (h : Hs) (l x : Nat) (s : Nat × Nat) : Nat × Nat := (passHt (setLine h l s.1 s.2) l (if live (setLine h l s.1 s.2) l then x else 0), passDd (setLine h l s.1 s.2) l (if live (setLine h l s.1 s.2) l then x else 0))
def simL (h : Hs) (l x : Nat) : Nat → Nat × Nat
  | 0 => (hHt h l, hDd h l)
  | i + 1 => stepL h l x (simL h l x i)
def lineAt (h : Hs) (l x i : Nat) : Hs := setLine h l (simL h l x i).1 (simL h l x i).2
def liveB (h : Hs) (l x i : Nat) : Bool := live (lineAt h l x i) l
theorem liveB_eq (h : Hs) (l x i : Nat) : liveB h l x i = (hIn h && decide ((simL h l x i).2 = 0)) := by
  show (hIn h && decide ((if l = l then (simL h l x i).2 else hDd h l) = 0)) = _
  rw [if_pos rfl]
def FlN (h : Hs) (ld : Nat → Nat) (i : Nat) : Nat := sumT (fun l => if liveB h l (ld l) i then ld l else 0) (hL h)
def uc (h : Hs) (ld : Nat → Nat) : Nat → Nat × Nat
  | 0 => (0, 0)
  | i + 1 => if (uc h ld i).2 ≤ hMain h then ((uc h ld i).1 + FlN h ld i, FlN h ld i) else uc h ld i
theorem FlN_le {h : Hs} {ld : Nat → Nat} (i : Nat) : FlN h ld i ≤ sumT ld (hL h) := by
  unfold FlN
  have : ∀ n, sumT (fun l => if liveB h l (ld l) i then ld l else 0) n ≤ sumT ld n := by
    intro n
    induction n with
    | zero => exact Nat.le_refl 0
    | succ n ih =>
      show _ + _ ≤ sumT ld n + ld n
      refine Nat.add_le_add ih ?_
      dsimp only
      split <;> omega
  exact this _
theorem uc_le {h : Hs} {ld : Nat → Nat} (hb : sumT ld (hL h) ≤ 120) : ∀ i, (uc h ld i).1 ≤ i * 120 ∧ (uc h ld i).2 ≤ 120
  | 0 => ⟨Nat.zero_le _, Nat.zero_le _⟩
  | i + 1 => by
    have ih := uc_le hb i
    have hf := Nat.le_trans (FlN_le (h := h) (ld := ld) i) hb
    unfold uc
    split
    · exact ⟨by dsimp only; omega, hf⟩
    · exact ⟨by omega, ih.2⟩
theorem pass_at {h g : Hs} {l x y z : Nat} (hi : hIn g = hIn h) (hk : hKd g = hKd h) (hr : hRt g = hRt h) (h1 : hHt g l = x) (h2 : hDd g l = y) : passHt g l z = passHt (setLine h l x y) l z ∧ passDd g l z = passDd (setLine h l x y) l z := by
  have e1 : live g l = live (setLine h l x y) l := by
    show (hIn g && decide (hDd g l = 0)) = (hIn h && decide ((if l = l then y else hDd h l) = 0))
    rw [if_pos rfl, hi, h2]
  have e2 : hHt (setLine h l x y) l = x := if_pos rfl
  have e3 : hDd (setLine h l x y) l = y := if_pos rfl
  have e4 : hKd (setLine h l x y) l = hKd h l := rfl
  have e5 : hRt (setLine h l x y) l = hRt h l := rfl
  have a : passHt g l z = passHt (setLine h l x y) l z := by
    unfold passHt
    rw [e1, e2, e4, e5, hk, hr, h1]
  refine ⟨a, ?_⟩
  unfold passDd
  rw [a, e1, e3, e4, e5, hk, hr, h2]
theorem uses {h : Hs} {g : Nat → Nat} (hw : WF (plugH h g)) (hmm : hMin h ≤ 9999) (hld : sumT (fun l => loadG h g l (hN h)) (hL h) ≤ 120) : ∀ i, i ≤ 12 →
    hUsed (minN (setUsed (plugH h g) 0) i) = (uc h (fun l => loadG h g l (hN h)) i).1 ∧
    ((uc h (fun l => loadG h g l (hN h)) i).2 ≤ hMain h → hIn (minN (setUsed (plugH h g) 0) i) = hIn h ∧ ∀ l, l < hL h → hHt (minN (setUsed (plugH h g) 0) i) l = (simL h l (loadG h g l (hN h)) i).1 ∧ hDd (minN (setUsed (plugH h g) 0) i) l = (simL h l (loadG h g l (hN h)) i).2) ∧
    (hMain h < (uc h (fun l => loadG h g l (hN h)) i).2 → hIn (minN (setUsed (plugH h g) 0) i) = false) := by
  intro i
  induction i with
  | zero =>
    intro _
    exact ⟨rfl, fun _ => ⟨rfl, fun l _ => ⟨rfl, rfl⟩⟩, fun q => absurd q (Nat.not_lt_zero _)⟩
  | succ i ih =>
    intro hi
    obtain ⟨a1, a2, a3⟩ := ih (by omega)
    have hwi : WF (minN (setUsed (plugH h g) 0) i) := minN_WF (hw.setUsed 0 (by omega)) i (by show hMin h + i ≤ 20000; omega)
    have b1 := uc_le hld i
    have eu : uc h (fun l => loadG h g l (hN h)) (i + 1) = if (uc h (fun l => loadG h g l (hN h)) i).2 ≤ hMain h then ((uc h (fun l => loadG h g l (hN h)) i).1 + FlN h (fun l => loadG h g l (hN h)) i, FlN h (fun l => loadG h g l (hN h)) i) else uc h (fun l => loadG h g l (hN h)) i := rfl
    have hf := Nat.le_trans (FlN_le (h := h) (ld := fun l => loadG h g l (hN h)) i) hld
    have eL : hL (minN (setUsed (plugH h g) 0) i) = hL h := minN_L _ i
    have eN : hN (minN (setUsed (plugH h g) 0) i) = hN h := minN_N _ i
    have ek : hKd (minN (setUsed (plugH h g) 0) i) = hKd h := minN_kd _ i
    have er : hRt (minN (setUsed (plugH h g) 0) i) = hRt h := minN_rt _ i
    have ep : hPg (minN (setUsed (plugH h g) 0) i) = g := minN_pg _ i
    have el : hLd (minN (setUsed (plugH h g) 0) i) = hLd h := minN_ld _ i
    have eo : hOn (minN (setUsed (plugH h g) 0) i) = hOn h := minN_on _ i
    have em : hMain (minN (setUsed (plugH h g) 0) i) = hMain h := minN_main _ i
    have es : minN (setUsed (plugH h g) 0) (i + 1) = minuteH (minN (setUsed (plugH h g) 0) i) := rfl
    have elg : ∀ l, loadG (minN (setUsed (plugH h g) 0) i) (hPg (minN (setUsed (plugH h g) 0) i)) l (hN (minN (setUsed (plugH h g) 0) i)) = loadG h g l (hN h) := fun l => by
      unfold loadG isOnH
      rw [eN, ep, el, eo]
    have esum := sum_lines hwi
    rw [eL] at esum
    rw [es]
    generalize minN (setUsed (plugH h g) 0) i = hh at *
    by_cases c : (uc h (fun l => loadG h g l (hN h)) i).2 ≤ hMain h
    · obtain ⟨c1, c2⟩ := a2 c
      rw [if_pos c] at eu
      have hlive : ∀ l, l < hL h → live hh l = liveB h l (loadG h g l (hN h)) i := fun l hl => by
        rw [liveB_eq]
        unfold live
        rw [c1, (c2 l hl).2]
      have hfl : ∀ l, l < hL h → flowH hh l = if liveB h l (loadG h g l (hN h)) i then loadG h g l (hN h) else 0 := fun l hl => by
        rw [flow_load, hlive l hl, elg]
      have hall : allH hh = FlN h (fun l => loadG h g l (hN h)) i := by
        rw [← esum]
        exact sumT_congr hfl
      refine ⟨?_, fun q => ⟨?_, fun l hl => ?_⟩, fun q => ?_⟩
      · show min 99999 (hUsed hh + allH hh) = _
        rw [eu, a1, hall]
        dsimp only
        omega
      · rw [eu] at q
        show (hIn hh && decide (allH hh ≤ hMain hh)) = hIn h
        rw [c1, hall, em, decide_eq_true q, Bool.and_true]
      · have p := pass_at (g := hh) (h := h) (l := l) (z := flowH hh l) c1 ek er (c2 l hl).1 (c2 l hl).2
        rw [hfl l hl] at p
        refine ⟨?_, ?_⟩
        · show passHt hh l (flowH hh l) = _
          rw [hfl l hl]; exact p.1
        · show passDd hh l (flowH hh l) = _
          rw [hfl l hl]; exact p.2
      · rw [eu] at q
        show (hIn hh && decide (allH hh ≤ hMain hh)) = false
        have q : hMain h < FlN h (fun l => loadG h g l (hN h)) i := q
        rw [hall, em, decide_eq_false (by omega), Bool.and_false]
    · have c3 := a3 (by omega)
      rw [if_neg c] at eu
      have hall : allH hh = 0 := by
        rw [← esum]
        refine (sumT_congr (g := fun _ => 0) (fun l _ => ?_)).trans (sumT_zero _)
        rw [flow_load]
        unfold live
        rw [c3]; rfl
      refine ⟨?_, fun q => ?_, fun q => ?_⟩
      · show min 99999 (hUsed hh + allH hh) = _
        rw [eu, a1, hall]
        omega
      · rw [eu] at q; exact absurd q c
      · show (hIn hh && decide (allH hh ≤ hMain hh)) = false
        rw [c3]; rfl
theorem sumT_mul (p : Nat → Bool) (c : Nat) : ∀ n, sumT (fun i => if p i then c else 0) n = c * sumT (fun i => if p i then 1 else 0) n
  | 0 => rfl
  | n + 1 => by
    show sumT _ n + (if p n then c else 0) = c * (sumT _ n + if p n then 1 else 0)
    rw [sumT_mul p c n, Nat.mul_add]
    cases p n <;> simp
theorem sumT_swap (f : Nat → Nat → Nat) (m : Nat) : ∀ n, sumT (fun i => sumT (fun l => f i l) m) n = sumT (fun l => sumT (fun i => f i l) n) m
  | 0 => (sumT_zero m).symm
  | n + 1 => by
    show sumT (fun i => sumT (fun l => f i l) m) n + sumT (fun l => f n l) m = sumT (fun l => sumT (fun i => f i l) n + f n l) m
    rw [sumT_swap f m n, sumT_add]
theorem uc_sum {h : Hs} {ld : Nat → Nat} (hb : sumT ld (hL h) ≤ hMain h) : ∀ n, (uc h ld n).1 = sumT (FlN h ld) n ∧ (uc h ld n).2 ≤ hMain h
  | 0 => ⟨rfl, Nat.zero_le _⟩
  | n + 1 => by
    obtain ⟨a, b⟩ := uc_sum hb n
    unfold uc
    rw [if_pos b]
    refine ⟨?_, Nat.le_trans (FlN_le n) hb⟩
    show _ + _ = sumT (FlN h ld) n + FlN h ld n
    rw [a]
theorem uc_lines {h : Hs} {ld : Nat → Nat} (hb : sumT ld (hL h) ≤ hMain h) (n : Nat) : (uc h ld n).1 = sumT (fun l => ld l * sumT (fun i => if liveB h l (ld l) i then 1 else 0) n) (hL h) := by
  rw [(uc_sum hb n).1]
  unfold FlN
  rw [sumT_swap (fun i l => if liveB h l (ld l) i then ld l else 0)]
  refine sumT_congr (fun l _ => ?_)
  exact sumT_mul _ _ n
