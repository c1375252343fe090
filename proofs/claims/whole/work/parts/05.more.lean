/-! tuples taken apart, arrays of references, instanceof -/
def un1 {A1 γ : Type} (f : A1 → γ) (x : A1) : γ := f x
theorem ok_un1 {A1 γ : Type} {f : A1 → Option γ} {z : γ} {a1 : A1} (h : un1 f a1 = some z) : f a1 = some z := h
def un2 {A1 A2 γ : Type} (f : A1 → A2 → γ) (x : A1 × A2) : γ := f x.1 x.2
theorem ok_un2 {A1 A2 γ : Type} {f : A1 → A2 → Option γ} {z : γ} {a1 : A1} {a2 : A2} (h : un2 f (a1, a2) = some z) : f a1 a2 = some z := h
def un3 {A1 A2 A3 γ : Type} (f : A1 → A2 → A3 → γ) (x : A1 × A2 × A3) : γ := f x.1 x.2.1 x.2.2
theorem ok_un3 {A1 A2 A3 γ : Type} {f : A1 → A2 → A3 → Option γ} {z : γ} {a1 : A1} {a2 : A2} {a3 : A3} (h : un3 f (a1, a2, a3) = some z) : f a1 a2 a3 = some z := h
def un4 {A1 A2 A3 A4 γ : Type} (f : A1 → A2 → A3 → A4 → γ) (x : A1 × A2 × A3 × A4) : γ := f x.1 x.2.1 x.2.2.1 x.2.2.2
theorem ok_un4 {A1 A2 A3 A4 γ : Type} {f : A1 → A2 → A3 → A4 → Option γ} {z : γ} {a1 : A1} {a2 : A2} {a3 : A3} {a4 : A4} (h : un4 f (a1, a2, a3, a4) = some z) : f a1 a2 a3 a4 = some z := h
def un5 {A1 A2 A3 A4 A5 γ : Type} (f : A1 → A2 → A3 → A4 → A5 → γ) (x : A1 × A2 × A3 × A4 × A5) : γ := f x.1 x.2.1 x.2.2.1 x.2.2.2.1 x.2.2.2.2
theorem ok_un5 {A1 A2 A3 A4 A5 γ : Type} {f : A1 → A2 → A3 → A4 → A5 → Option γ} {z : γ} {a1 : A1} {a2 : A2} {a3 : A3} {a4 : A4} {a5 : A5} (h : un5 f (a1, a2, a3, a4, a5) = some z) : f a1 a2 a3 a4 a5 = some z := h
def un6 {A1 A2 A3 A4 A5 A6 γ : Type} (f : A1 → A2 → A3 → A4 → A5 → A6 → γ) (x : A1 × A2 × A3 × A4 × A5 × A6) : γ := f x.1 x.2.1 x.2.2.1 x.2.2.2.1 x.2.2.2.2.1 x.2.2.2.2.2
theorem ok_un6 {A1 A2 A3 A4 A5 A6 γ : Type} {f : A1 → A2 → A3 → A4 → A5 → A6 → Option γ} {z : γ} {a1 : A1} {a2 : A2} {a3 : A3} {a4 : A4} {a5 : A5} {a6 : A6} (h : un6 f (a1, a2, a3, a4, a5, a6) = some z) : f a1 a2 a3 a4 a5 a6 = some z := h
def un7 {A1 A2 A3 A4 A5 A6 A7 γ : Type} (f : A1 → A2 → A3 → A4 → A5 → A6 → A7 → γ) (x : A1 × A2 × A3 × A4 × A5 × A6 × A7) : γ := f x.1 x.2.1 x.2.2.1 x.2.2.2.1 x.2.2.2.2.1 x.2.2.2.2.2.1 x.2.2.2.2.2.2
theorem ok_un7 {A1 A2 A3 A4 A5 A6 A7 γ : Type} {f : A1 → A2 → A3 → A4 → A5 → A6 → A7 → Option γ} {z : γ} {a1 : A1} {a2 : A2} {a3 : A3} {a4 : A4} {a5 : A5} {a6 : A6} {a7 : A7} (h : un7 f (a1, a2, a3, a4, a5, a6, a7) = some z) : f a1 a2 a3 a4 a5 a6 a7 = some z := h
def un8 {A1 A2 A3 A4 A5 A6 A7 A8 γ : Type} (f : A1 → A2 → A3 → A4 → A5 → A6 → A7 → A8 → γ) (x : A1 × A2 × A3 × A4 × A5 × A6 × A7 × A8) : γ := f x.1 x.2.1 x.2.2.1 x.2.2.2.1 x.2.2.2.2.1 x.2.2.2.2.2.1 x.2.2.2.2.2.2.1 x.2.2.2.2.2.2.2
theorem ok_un8 {A1 A2 A3 A4 A5 A6 A7 A8 γ : Type} {f : A1 → A2 → A3 → A4 → A5 → A6 → A7 → A8 → Option γ} {z : γ} {a1 : A1} {a2 : A2} {a3 : A3} {a4 : A4} {a5 : A5} {a6 : A6} {a7 : A7} {a8 : A8} (h : un8 f (a1, a2, a3, a4, a5, a6, a7, a8) = some z) : f a1 a2 a3 a4 a5 a6 a7 a8 = some z := h
def un9 {A1 A2 A3 A4 A5 A6 A7 A8 A9 γ : Type} (f : A1 → A2 → A3 → A4 → A5 → A6 → A7 → A8 → A9 → γ) (x : A1 × A2 × A3 × A4 × A5 × A6 × A7 × A8 × A9) : γ := f x.1 x.2.1 x.2.2.1 x.2.2.2.1 x.2.2.2.2.1 x.2.2.2.2.2.1 x.2.2.2.2.2.2.1 x.2.2.2.2.2.2.2.1 x.2.2.2.2.2.2.2.2
theorem ok_un9 {A1 A2 A3 A4 A5 A6 A7 A8 A9 γ : Type} {f : A1 → A2 → A3 → A4 → A5 → A6 → A7 → A8 → A9 → Option γ} {z : γ} {a1 : A1} {a2 : A2} {a3 : A3} {a4 : A4} {a5 : A5} {a6 : A6} {a7 : A7} {a8 : A8} {a9 : A9} (h : un9 f (a1, a2, a3, a4, a5, a6, a7, a8, a9) = some z) : f a1 a2 a3 a4 a5 a6 a7 a8 a9 = some z := h
theorem ok_sell {α β γ : Type} {f : α → Option γ} {g : β → Option γ} {a : α} {z : γ} (h : sel f g (.inl a) = some z) : f a = some z := h
theorem ok_selr {α β γ : Type} {f : α → Option γ} {g : β → Option γ} {b : β} {z : γ} (h : sel f g (.inr b) = some z) : g b = some z := h
theorem rmd_f {d n k : Nat} (h : d ≤ k) : (d + n) + 1 ≤ (rmd (k + (n + 1))).frames := by show d + n + 1 ≤ k + (n + 1); omega
theorem rmd_l {d n k m : Nat} (h : m ≤ 20 ∧ d ≤ k) : 8 + (m + 11) + 40 * (d + n) ≤ (rmd (k + (n + 1))).locals := by show 8 + (m + 11) + 40 * (d + n) ≤ 40 * (k + (n + 1)); omega
theorem rmd_f0 {d n k : Nat} (h : d ≤ k) : d + 1 ≤ (rmd (k + (n + 1))).frames := by show d + 1 ≤ k + (n + 1); omega
theorem rmd_l0 {d n k m : Nat} (h : m ≤ 20 ∧ d ≤ k) : 8 + (m + 11) + 40 * d ≤ (rmd (k + (n + 1))).locals := by show 8 + (m + 11) + 40 * d ≤ 40 * (k + (n + 1)); omega
def insA (k r : Nat) : Option Int32 := if r = 14 then some (if k = 14 then 1 else 0) else if r = 15 then some (if k = 14 ∨ k = 15 then 1 else 0) else if r = 16 then some (if k = 14 ∨ k = 16 then 1 else 0) else if r = 17 then some (if k = 17 then 1 else 0) else if r = 18 then some (if k = 17 ∨ k = 18 then 1 else 0) else none
section ZMore2
variable {p : Program} {l : Launch} {e : Env} {R : Room} {s : State} {m : MethodId} {args : Array Value} {below : List Frame} {meth : Method} {c : Code} {H : Heap} {locs : List Loc} {cells slots : Nat} {Q : State → Prop} {E : Ev} {σ : St} {pc : Nat} {ls : Array Slot} {rest : List Value} {cc : ByteArray} {nL : Nat} {own : String}
theorem z_nma {x y : Nat} (h : y = x) (k : W p l e R s m args below meth c H locs cells slots Q (F0 m pc ls (.ref (E.2.2.1 y) :: rest))) : W p l e R s m args below meth c H locs cells slots Q (F0 m pc ls (.ref (E.2.2.1 x) :: rest)) := h ▸ k
theorem z_arow (hC : Cx p s m args c cc nL own E) (hw : World E sh2 σ H) {i : Int32} (hin : inb i 8) (hdg : decode cc pc = .ok (.aaload, 1)) (kk : W p l e R s m args below meth c H locs cells slots Q (F0 m (pc + 1) ls (.ref (E.2.2.1 (rowA i)) :: rest))) : W p l e R s m args below meth c H locs cells slots Q (F0 m pc ls (.int i :: .ref (E.2.2.1 1) :: rest)) :=
  z_aald hC hw (k := 2) (n := 8) (r0 := 35) (rs := rowL.drop 1) rfl (Cn := "FuseBox$Row") rfl hin (rowA_ok hin).1 hdg kk
theorem z_aimg (hC : Cx p s m args c cc nL own E) (hw : World E sh2 σ H) {i : Int32} (hin : inb i 2) (hdg : decode cc pc = .ok (.aaload, 1)) (kk : W p l e R s m args below meth c H locs cells slots Q (F0 m (pc + 1) ls (.ref (E.2.2.1 (imgA i)) :: rest))) : W p l e R s m args below meth c H locs cells slots Q (F0 m pc ls (.int i :: .ref (E.2.2.1 4) :: rest)) :=
  z_aald hC hw (k := 3) (n := 2) (r0 := 51) (rs := [59]) rfl (Cn := "FuseBox$House") rfl hin (imgA_ok hin).1 hdg kk
theorem z_aact (hC : Cx p s m args c cc nL own E) (hw : World E sh2 σ H) {i : Int32} (hin : inb i 24) (hdg : decode cc pc = .ok (.aaload, 1)) (kk : W p l e R s m args below meth c H locs cells slots Q (F0 m (pc + 1) ls (.ref (E.2.2.1 (actA i)) :: rest))) : W p l e R s m args below meth c H locs cells slots Q (F0 m pc ls (.int i :: .ref (E.2.2.1 5) :: rest)) :=
  z_aald hC hw (k := 3) (n := 24) (r0 := 67) (rs := houseL.drop 5) rfl (Cn := "FuseBox$House") rfl hin (actA_ok hin).1 hdg kk
theorem z_afuse (hC : Cx p s m args c cc nL own E) (hw : World E sh2 σ H) {i : Int32} (hin : inb i 5) (hdg : decode cc pc = .ok (.aaload, 1)) (kk : W p l e R s m args below meth c H locs cells slots Q (F0 m (pc + 1) ls (.ref (E.2.2.1 (fuseA i)) :: rest))) : W p l e R s m args below meth c H locs cells slots Q (F0 m pc ls (.int i :: .ref (E.2.2.1 13) :: rest)) :=
  z_aald hC hw (k := 4) (n := 5) (r0 := 14) (rs := [15, 16, 17, 18]) rfl (Cn := "FuseBox$Fuse") rfl hin (fuseA_ok hin) hdg kk
theorem z_ins14 (hC : Cx p s m args c cc nL own E) (hw : World E sh2 σ H) {r : Nat} {v : Int32} (h : insA 14 r = some v) {index : Nat} (hl : Cond.classLink own index "FuseBox$Wire" ∈ WL) (hdg : decode cc pc = .ok (.instanceof index, 3)) (kk : W p l e R s m args below meth c H locs cells slots Q (F0 m (pc + 3) ls (.int v :: rest))) : W p l e R s m args below meth c H locs cells slots Q (F0 m pc ls (.ref (E.2.2.1 r) :: rest)) := by
  obtain ⟨hx, hb, hml, hown, hts, hT, hX⟩ := id hC
  unfold insA at h
  by_cases h14 : r = 14
  · rw [if_pos h14] at h
    subst h14
    cases h
    exact va_instS hx hb hown (hts _ hl) (hT.1 9 _ rfl).2 (z_recv hC hw (a := 14) (ci := 9) (ks := []) rfl rfl) hdg kk
  rw [if_neg h14] at h
  by_cases h15 : r = 15
  · rw [if_pos h15] at h
    subst h15
    cases h
    exact va_instY (C := "FuseBox$Slow") hx hb hown (hts _ hl) hX.2.2.1 (z_recv hC hw (a := 15) (ci := 7) (ks := []) rfl rfl) hdg kk
  rw [if_neg h15] at h
  by_cases h16 : r = 16
  · rw [if_pos h16] at h
    subst h16
    cases h
    exact va_instY (C := "FuseBox$Quick") hx hb hown (hts _ hl) hX.2.2.2.1 (z_recv hC hw (a := 16) (ci := 4) (ks := []) rfl rfl) hdg kk
  rw [if_neg h16] at h
  by_cases h17 : r = 17
  · rw [if_pos h17] at h
    subst h17
    cases h
    exact va_instNo (C := "FuseBox$Breaker") hx hb hown (hts _ hl) hX.2.2.2.2.2.1 (z_recv hC hw (a := 17) (ci := 0) (ks := []) rfl rfl) hdg kk
  rw [if_neg h17] at h
  by_cases h18 : r = 18
  · rw [if_pos h18] at h
    subst h18
    cases h
    exact va_instNo (C := "FuseBox$Coil") hx hb hown (hts _ hl) hX.2.2.2.2.2.2.1 (z_recv hC hw (a := 18) (ci := 1) (ks := []) rfl rfl) hdg kk
  rw [if_neg h18] at h
  exact nz h
theorem z_ins15 (hC : Cx p s m args c cc nL own E) (hw : World E sh2 σ H) {r : Nat} {v : Int32} (h : insA 15 r = some v) {index : Nat} (hl : Cond.classLink own index "FuseBox$Slow" ∈ WL) (hdg : decode cc pc = .ok (.instanceof index, 3)) (kk : W p l e R s m args below meth c H locs cells slots Q (F0 m (pc + 3) ls (.int v :: rest))) : W p l e R s m args below meth c H locs cells slots Q (F0 m pc ls (.ref (E.2.2.1 r) :: rest)) := by
  obtain ⟨hx, hb, hml, hown, hts, hT, hX⟩ := id hC
  unfold insA at h
  by_cases h14 : r = 14
  · rw [if_pos h14] at h
    subst h14
    cases h
    exact va_instNo (C := "FuseBox$Wire") hx hb hown (hts _ hl) hX.2.2.2.2.2.2.2.1 (z_recv hC hw (a := 14) (ci := 9) (ks := []) rfl rfl) hdg kk
  rw [if_neg h14] at h
  by_cases h15 : r = 15
  · rw [if_pos h15] at h
    subst h15
    cases h
    exact va_instS hx hb hown (hts _ hl) (hT.1 7 _ rfl).2 (z_recv hC hw (a := 15) (ci := 7) (ks := []) rfl rfl) hdg kk
  rw [if_neg h15] at h
  by_cases h16 : r = 16
  · rw [if_pos h16] at h
    subst h16
    cases h
    exact va_instNo (C := "FuseBox$Quick") hx hb hown (hts _ hl) hX.2.2.2.2.2.2.2.2.1 (z_recv hC hw (a := 16) (ci := 4) (ks := []) rfl rfl) hdg kk
  rw [if_neg h16] at h
  by_cases h17 : r = 17
  · rw [if_pos h17] at h
    subst h17
    cases h
    exact va_instNo (C := "FuseBox$Breaker") hx hb hown (hts _ hl) hX.2.2.2.2.2.2.2.2.2.1 (z_recv hC hw (a := 17) (ci := 0) (ks := []) rfl rfl) hdg kk
  rw [if_neg h17] at h
  by_cases h18 : r = 18
  · rw [if_pos h18] at h
    subst h18
    cases h
    exact va_instNo (C := "FuseBox$Coil") hx hb hown (hts _ hl) hX.2.2.2.2.2.2.2.2.2.2.1 (z_recv hC hw (a := 18) (ci := 1) (ks := []) rfl rfl) hdg kk
  rw [if_neg h18] at h
  exact nz h
theorem z_ins16 (hC : Cx p s m args c cc nL own E) (hw : World E sh2 σ H) {r : Nat} {v : Int32} (h : insA 16 r = some v) {index : Nat} (hl : Cond.classLink own index "FuseBox$Quick" ∈ WL) (hdg : decode cc pc = .ok (.instanceof index, 3)) (kk : W p l e R s m args below meth c H locs cells slots Q (F0 m (pc + 3) ls (.int v :: rest))) : W p l e R s m args below meth c H locs cells slots Q (F0 m pc ls (.ref (E.2.2.1 r) :: rest)) := by
  obtain ⟨hx, hb, hml, hown, hts, hT, hX⟩ := id hC
  unfold insA at h
  by_cases h14 : r = 14
  · rw [if_pos h14] at h
    subst h14
    cases h
    exact va_instNo (C := "FuseBox$Wire") hx hb hown (hts _ hl) hX.2.2.2.2.2.2.2.2.2.2.2.1 (z_recv hC hw (a := 14) (ci := 9) (ks := []) rfl rfl) hdg kk
  rw [if_neg h14] at h
  by_cases h15 : r = 15
  · rw [if_pos h15] at h
    subst h15
    cases h
    exact va_instNo (C := "FuseBox$Slow") hx hb hown (hts _ hl) hX.2.2.2.2.2.2.2.2.2.2.2.2.1 (z_recv hC hw (a := 15) (ci := 7) (ks := []) rfl rfl) hdg kk
  rw [if_neg h15] at h
  by_cases h16 : r = 16
  · rw [if_pos h16] at h
    subst h16
    cases h
    exact va_instS hx hb hown (hts _ hl) (hT.1 4 _ rfl).2 (z_recv hC hw (a := 16) (ci := 4) (ks := []) rfl rfl) hdg kk
  rw [if_neg h16] at h
  by_cases h17 : r = 17
  · rw [if_pos h17] at h
    subst h17
    cases h
    exact va_instNo (C := "FuseBox$Breaker") hx hb hown (hts _ hl) hX.2.2.2.2.2.2.2.2.2.2.2.2.2.1 (z_recv hC hw (a := 17) (ci := 0) (ks := []) rfl rfl) hdg kk
  rw [if_neg h17] at h
  by_cases h18 : r = 18
  · rw [if_pos h18] at h
    subst h18
    cases h
    exact va_instNo (C := "FuseBox$Coil") hx hb hown (hts _ hl) hX.2.2.2.2.2.2.2.2.2.2.2.2.2.2.1 (z_recv hC hw (a := 18) (ci := 1) (ks := []) rfl rfl) hdg kk
  rw [if_neg h18] at h
  exact nz h
theorem z_ins17 (hC : Cx p s m args c cc nL own E) (hw : World E sh2 σ H) {r : Nat} {v : Int32} (h : insA 17 r = some v) {index : Nat} (hl : Cond.classLink own index "FuseBox$Breaker" ∈ WL) (hdg : decode cc pc = .ok (.instanceof index, 3)) (kk : W p l e R s m args below meth c H locs cells slots Q (F0 m (pc + 3) ls (.int v :: rest))) : W p l e R s m args below meth c H locs cells slots Q (F0 m pc ls (.ref (E.2.2.1 r) :: rest)) := by
  obtain ⟨hx, hb, hml, hown, hts, hT, hX⟩ := id hC
  unfold insA at h
  by_cases h14 : r = 14
  · rw [if_pos h14] at h
    subst h14
    cases h
    exact va_instNo (C := "FuseBox$Wire") hx hb hown (hts _ hl) hX.2.2.2.2.2.2.2.2.2.2.2.2.2.2.2.1 (z_recv hC hw (a := 14) (ci := 9) (ks := []) rfl rfl) hdg kk
  rw [if_neg h14] at h
  by_cases h15 : r = 15
  · rw [if_pos h15] at h
    subst h15
    cases h
    exact va_instNo (C := "FuseBox$Slow") hx hb hown (hts _ hl) hX.2.2.2.2.2.2.2.2.2.2.2.2.2.2.2.2.1 (z_recv hC hw (a := 15) (ci := 7) (ks := []) rfl rfl) hdg kk
  rw [if_neg h15] at h
  by_cases h16 : r = 16
  · rw [if_pos h16] at h
    subst h16
    cases h
    exact va_instNo (C := "FuseBox$Quick") hx hb hown (hts _ hl) hX.2.2.2.2.2.2.2.2.2.2.2.2.2.2.2.2.2.1 (z_recv hC hw (a := 16) (ci := 4) (ks := []) rfl rfl) hdg kk
  rw [if_neg h16] at h
  by_cases h17 : r = 17
  · rw [if_pos h17] at h
    subst h17
    cases h
    exact va_instS hx hb hown (hts _ hl) (hT.1 0 _ rfl).2 (z_recv hC hw (a := 17) (ci := 0) (ks := []) rfl rfl) hdg kk
  rw [if_neg h17] at h
  by_cases h18 : r = 18
  · rw [if_pos h18] at h
    subst h18
    cases h
    exact va_instY (C := "FuseBox$Coil") hx hb hown (hts _ hl) hX.2.2.2.2.1 (z_recv hC hw (a := 18) (ci := 1) (ks := []) rfl rfl) hdg kk
  rw [if_neg h18] at h
  exact nz h
theorem z_ins18 (hC : Cx p s m args c cc nL own E) (hw : World E sh2 σ H) {r : Nat} {v : Int32} (h : insA 18 r = some v) {index : Nat} (hl : Cond.classLink own index "FuseBox$Coil" ∈ WL) (hdg : decode cc pc = .ok (.instanceof index, 3)) (kk : W p l e R s m args below meth c H locs cells slots Q (F0 m (pc + 3) ls (.int v :: rest))) : W p l e R s m args below meth c H locs cells slots Q (F0 m pc ls (.ref (E.2.2.1 r) :: rest)) := by
  obtain ⟨hx, hb, hml, hown, hts, hT, hX⟩ := id hC
  unfold insA at h
  by_cases h14 : r = 14
  · rw [if_pos h14] at h
    subst h14
    cases h
    exact va_instNo (C := "FuseBox$Wire") hx hb hown (hts _ hl) hX.2.2.2.2.2.2.2.2.2.2.2.2.2.2.2.2.2.2.1 (z_recv hC hw (a := 14) (ci := 9) (ks := []) rfl rfl) hdg kk
  rw [if_neg h14] at h
  by_cases h15 : r = 15
  · rw [if_pos h15] at h
    subst h15
    cases h
    exact va_instNo (C := "FuseBox$Slow") hx hb hown (hts _ hl) hX.2.2.2.2.2.2.2.2.2.2.2.2.2.2.2.2.2.2.2.1 (z_recv hC hw (a := 15) (ci := 7) (ks := []) rfl rfl) hdg kk
  rw [if_neg h15] at h
  by_cases h16 : r = 16
  · rw [if_pos h16] at h
    subst h16
    cases h
    exact va_instNo (C := "FuseBox$Quick") hx hb hown (hts _ hl) hX.2.2.2.2.2.2.2.2.2.2.2.2.2.2.2.2.2.2.2.2.1 (z_recv hC hw (a := 16) (ci := 4) (ks := []) rfl rfl) hdg kk
  rw [if_neg h16] at h
  by_cases h17 : r = 17
  · rw [if_pos h17] at h
    subst h17
    cases h
    exact va_instNo (C := "FuseBox$Breaker") hx hb hown (hts _ hl) hX.2.2.2.2.2.2.2.2.2.2.2.2.2.2.2.2.2.2.2.2.2 (z_recv hC hw (a := 17) (ci := 0) (ks := []) rfl rfl) hdg kk
  rw [if_neg h17] at h
  by_cases h18 : r = 18
  · rw [if_pos h18] at h
    subst h18
    cases h
    exact va_instS hx hb hown (hts _ hl) (hT.1 1 _ rfl).2 (z_recv hC hw (a := 18) (ci := 1) (ks := []) rfl rfl) hdg kk
  rw [if_neg h18] at h
  exact nz h
end ZMore2
