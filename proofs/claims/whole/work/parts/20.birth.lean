/-! making the cells: the world while it grows, place by place; references may be null yet (a flag) -/
def nul (x : Shp) : Shp := match x with
  | .inl (k, n, _, rs) => .inl (k, n, true, rs)
  | .inr (ci, ks) => .inr (ci, ks.map (fun o => o.map (fun q => (true, q.2))))
def shN (n a : Nat) : Option Shp := if a < n then (sh2 a).map nul else none
theorem sh2_all : ∀ a, a < 274 → (sh2 a).isSome = true := by decide +kernel
theorem shN_at {n a : Nat} {x : Shp} (h : a < n) (hs : sh2 a = some x) : shN n a = some (nul x) := by
  unfold shN
  rw [if_pos h, hs]
  rfl
theorem shN_lt {n a : Nat} {x : Shp} (h : shN n a = some x) : a < n := by
  unfold shN at h
  by_cases q : a < n
  · exact q
  · rw [if_neg q] at h; cases h
def EvOk (E : Ev) : Prop := (∀ a, E.2.2.1 a = E.2.2.1 0 + a) ∧ ∀ q, E.2.2.2 q ↔ E.2.2.1 0 ≤ q
theorem zb_grow {E : Ev} (hE : EvOk E) {n q : Nat} {e : va_E} {σ : St} {H1 : Heap} {ws : va_W} (hn : n < 274) (hc : Cov E (shN n) σ ws) (hP1 : va_P E.1 vwCl (ws ++ [(q, e)]) H1) (hD1 : va_D E.2.2.2 (ws ++ [(q, e)])) (hsz : H1.size ≤ E.2.2.1 0 + (n + 1)) {x : Shp} (hs : sh2 n = some x) (he : e = cellE E.2.2.1 E.2.1 (fun _ => 0) (nul x)) : q = E.2.2.1 n ∧ World E (shN (n + 1)) (va_up σ n (fun _ => 0)) H1 := by
  have hlast : (ws ++ [(q, e)])[ws.length]? = some (q, e) := by simp
  have hq0 : E.2.2.1 0 ≤ q := (hE.2 q).mp (hD1.2 _ _ hlast)
  have hq1 : q < H1.size := (hP1 _ _ hlast).lt
  have hne : ∀ a, a < n → q ≠ E.2.2.1 a := by
    intro a ha hqa
    obtain ⟨x', hx'⟩ := Option.isSome_iff_exists.mp (sh2_all a (by omega))
    obtain ⟨k, hk⟩ := hc a (nul x') (shN_at ha hx')
    have hkl : k < ws.length := (List.getElem?_eq_some_iff.mp hk).1
    have hk2 : (ws ++ [(q, e)])[k]? = some (E.2.2.1 a, cellE E.2.2.1 E.2.1 (σ a) (nul x')) := by rw [List.getElem?_append_left hkl]; exact hk
    have := hD1.1 k ws.length _ _ hk2 hlast hqa.symm
    omega
  have hq : q = E.2.2.1 n := by
    rw [hE.1 n]
    rcases Nat.lt_or_ge (q - E.2.2.1 0) n with h | h
    · exact absurd (show q = E.2.2.1 (q - E.2.2.1 0) by rw [hE.1 (q - E.2.2.1 0)]; omega) (hne _ h)
    · omega
  refine ⟨hq, ⟨_, hP1, hD1, ?_⟩, ?_⟩
  · intro a x' hx'
    have ha := shN_lt hx'
    rcases Nat.lt_or_ge a n with h | h
    · obtain ⟨k, hk⟩ := hc a x' (by unfold shN at hx' ⊢; rw [if_pos ha] at hx'; rw [if_pos h]; exact hx')
      have hkl : k < ws.length := (List.getElem?_eq_some_iff.mp hk).1
      refine ⟨k, ?_⟩
      rw [List.getElem?_append_left hkl, hk]
      have : ¬ a = n := by omega
      simp [va_up, this]
    · have : a = n := by omega
      subst this
      rw [shN_at ha hs] at hx'
      cases hx'
      refine ⟨ws.length, ?_⟩
      rw [hlast, hq, he]
      simp [va_up]
  · intro a a' x x' _ _ h
    rw [hE.1 a, hE.1 a'] at h
    omega
/-- what the tables say for the constructors -/
def NT (U : State) : Prop := va_Nw (.methodLinkNest "FuseBox" 17 yX6_init "FuseBox") U ∧ va_Nw (.methodLinkNest "FuseBox" 33 yX4_init "FuseBox") U ∧ va_Nw (.methodLinkNest "FuseBox" 40 yX9_init "FuseBox") U ∧ va_Nw (.methodLinkNest "FuseBox" 49 yX10_init "FuseBox") U ∧ va_Nw (.methodLinkNest "FuseBox" 52 yX8_init "FuseBox") U ∧ va_Nw (.methodLinkNest "FuseBox" 55 yX5_init "FuseBox") U ∧ va_Nw (.methodLinkNest "FuseBox" 58 yX0_init "FuseBox") U ∧ va_Nw (.methodLinkNest "FuseBox" 61 yX1_init "FuseBox") U ∧ va_Nw (.methodLinkNest "FuseBox" 72 yX7_init "FuseBox") U ∧
  va_Nw (.methodLinkNest "FuseBox$Breaker" 3 yX2_init "FuseBox") U ∧ va_Nw (.methodLinkNest "FuseBox$Coil" 3 yX0_init "FuseBox") U ∧ va_Nw (.methodLinkNest "FuseBox$Quick" 3 yX10_init "FuseBox") U ∧ va_Nw (.methodLinkNest "FuseBox$Slow" 1 yX10_init "FuseBox") U ∧ va_Nw (.methodLinkNest "FuseBox$Wire" 3 yX2_init "FuseBox") U ∧
  va_AO "FuseBox$Row" U ∧ va_AO "FuseBox$House" U ∧ va_AO "FuseBox$Fuse" U ∧
  va_Nw (.castable "FuseBox$Wire" "FuseBox$Fuse") U ∧ va_Nw (.castable "FuseBox$Slow" "FuseBox$Fuse") U ∧ va_Nw (.castable "FuseBox$Quick" "FuseBox$Fuse") U ∧ va_Nw (.castable "FuseBox$Breaker" "FuseBox$Fuse") U ∧ va_Nw (.castable "FuseBox$Coil" "FuseBox$Fuse") U
theorem NT.warm {s U : State} (hW : s.WarmedH U.vm) (h : NT s) : NT U := by
  obtain ⟨h1, h2, h3, h4, h5, h6, h7, h8, h9, h10, h11, h12, h13, h14, h15, h16, h17, h18, h19, h20, h21, h22⟩ := h
  exact ⟨h1.warmM hW, h2.warmM hW, h3.warmM hW, h4.warmM hW, h5.warmM hW, h6.warmM hW, h7.warmM hW, h8.warmM hW, h9.warmM hW, h10.warmM hW, h11.warmM hW, h12.warmM hW, h13.warmM hW, h14.warmM hW, h15.moved hW.alike, h16.moved hW.alike, h17.moved hW.alike, h18.warmC hW, h19.warmC hW, h20.warmC hW, h21.warmC hW, h22.warmC hW⟩
theorem NT.same {u U : State} (h0 : u.vm = U.vm) (h : NT u) : NT U := by
  obtain ⟨h1, h2, h3, h4, h5, h6, h7, h8, h9, h10, h11, h12, h13, h14, h15, h16, h17, h18, h19, h20, h21, h22⟩ := h
  have ha : u.vm.Alike U.vm := by rw [← h0]; exact Vm.Alike.refl u.vm
  exact ⟨h1.same rfl h0, h2.same rfl h0, h3.same rfl h0, h4.same rfl h0, h5.same rfl h0, h6.same rfl h0, h7.same rfl h0, h8.same rfl h0, h9.same rfl h0, h10.same rfl h0, h11.same rfl h0, h12.same rfl h0, h13.same rfl h0, h14.same rfl h0, h15.moved ha, h16.moved ha, h17.moved ha, h18.same rfl h0, h19.same rfl h0, h20.same rfl h0, h21.same rfl h0, h22.same rfl h0⟩
/-- a constructor's contract: from n places to n' -/
def PWc (E : Ev) (n : Nat) (av : List Value) (σ : St) : Array Value → State → Prop := va_Pc av (fun U => World E (shN n) σ U.heap ∧ U.heap.size ≤ E.2.2.1 0 + n ∧ E.2.2.1 0 ≤ U.heap.size ∧ TB E U ∧ NT U)
def MC (l : Launch) (E : Ev) (y : MethodName) (cc : ByteArray) (nL : Nat) (rm : Room) (n n' : Nat) (mc ms : Nat) (av : List Value) (σ σ' : St) : Prop :=
  Met l y (.code y cc nL none :: WL) rm (PWc E n av σ) (QW E (shN n') none σ') mc ms E.2.2.2
theorem PWc.blind {E : Ev} {n : Nat} {av : List Value} {σ : St} : FrameBlind (PWc E n av σ) := by
  intro a U g mk h
  obtain ⟨h1, h2, h3, h4, h5, h6⟩ := h
  exact ⟨h1, h2, h3, h4, h5.same rfl, h6.same rfl⟩
def rmc (d mc ms : Nat) : Room := { frames := d, cells := mc, slots := ms, locals := 40 * d }
theorem ok_ltp {α β : Type} {e : α} {f : α → β} {z : β} (h : lt e f = z) : ∃ x, x = e ∧ f x = z := ⟨e, rfl, h⟩
section ZBirth
variable {p : Program} {l : Launch} {e : Env} {R : Room} {s : State} {m : MethodId} {args : Array Value} {below : List Frame} {meth : Method} {c : Code} {H : Heap} {locs : List Loc} {cells slots : Nat} {Q : State → Prop} {E : Ev} {σ : St} {pc : Nat} {ls : Array Slot} {rest : List Value} {cc : ByteArray} {nL : Nat} {own : String} {n : Nat}
theorem zb_size {g : JFrame} (kk : H.size ≤ s.heap.size + cells → W p l e R s m args below meth c H locs cells slots Q g) : W p l e R s m args below meth c H locs cells slots Q g := by
  intro T hT X
  refine kk ?_ T hT X
  have h : T.heap.size ≤ s.heap.size + cells := X.same.2.2.1
  rw [← hT]
  exact h
theorem zb_new (hE : EvOk E) (hC : Cx p s m args c cc nL own E) (hw : World E (shN n) σ H) (hS : va_S E.2.2.2 s.heap H locs) (hn : n < 274) (hb0 : E.2.2.1 0 ≤ s.heap.size) (hsz : s.heap.size + cells ≤ E.2.2.1 0 + n) {ci : Nat} {ks : List (Option (Bool × Nat))} (hs : sh2 n = some (.inr (ci, ks))) {C : String} {T : u_T} {N : Nat} (hc : vwCl[ci]? = some (C, T, N)) (hin : ∀ w ∈ u_ws C T N, w ∈ WL) (ty : Nat → FieldType) (hty : ∀ k, k < N → parseFieldDescriptor (T k).2.2.1 = some (ty k)) (hfs : ∀ j, j < N → defaultValue (ty j) = vp_V ((ks.map (fun o => o.map (fun q => (true, q.2)))).mapIdx (fun _ o => fv E.2.2.1 0 o)) j) {index : Nat} (hcl : Cond.classLink own index C ∈ WL) (hinst : Cond.instantiable C N ∈ WL) (hini : Cond.initialized C ∈ WL) (hcells : cells + 1 ≤ R.cells) (hslots : slots + N ≤ R.slots) {σ' : St} (hσ : σ' = va_up σ n (fun _ => 0)) (hdg : decode cc pc = .ok (.new index, 3))
    (kk : ∀ (H1 : Heap), World E (shN (n + 1)) σ' H1 → va_S E.2.2.2 s.heap H1 locs → W p l e R s m args below meth c H1 locs (cells + 1) (slots + N) Q (F0 m (pc + 3) ls (.ref (E.2.2.1 n) :: rest))) : W p l e R s m args below meth c H locs cells slots Q (F0 m pc ls rest) := by
  obtain ⟨hx, hb, hml, hown, hts, hT⟩ := hC
  obtain ⟨⟨ws, hP, hD, hcv⟩, hi⟩ := hw
  subst hσ
  refine va_new (c0 := c) hx hb hts hin ty hty hown (hts _ hcl) (hts _ hinst) (hts _ hini) hT.1 hP hD hS (fun q h => (hE.2 q).mpr (by omega)) hc hfs hcells hslots hdg (fun q H1 hP1 hD1 hS1 => zb_size (fun hz => ?_))
  obtain ⟨e1, w1⟩ := zb_grow hE hn hcv hP1 hD1 (by omega) hs rfl
  rw [e1]
  exact kk H1 w1 hS1
theorem zb_cI {a : Nat} (hE : EvOk E) (hC : Cx p s m args c cc nL own E) (hNT : NT s) (hls : ls.size = nL) (hw : World E (shN n) σ H) (hS : va_S E.2.2.2 s.heap H locs) (hb0 : E.2.2.1 0 ≤ s.heap.size) (hsz : s.heap.size + cells ≤ E.2.2.1 0 + n) {n' : Nat} {y : MethodName} {bytes : ByteArray} {maxL d mc ms : Nat} {As : List Value} {σ' : St} (hM : MC l E y bytes maxL (rmc d mc ms) n n' mc ms (.ref (E.2.2.1 a) :: As) σ σ') {index k : Nat} (hcw : (CallB R s args own index y bytes maxL none (Cond.code y bytes maxL none :: WL) (rmc d mc ms) mc ms k ∧ y.name = "<init>" ∧ (Cond.instanceMethod y).before args s = true) ∨ ∃ host, va_CN R s args own index y host bytes maxL none (Cond.code y bytes maxL none :: WL) (rmc d mc ms) mc ms k ∧ y.name = "<init>" ∧ (Cond.instanceMethod y).before args s = true) (hf : cells + mc ≤ R.cells ∧ slots + ms ≤ R.slots)
    (hn : As.length = k) {st0 : List Value} (hst : st0 = As.reverse ++ .ref (E.2.2.1 a) :: rest) (hW : (rest.map fun v => v.category).sum ≤ 8) (hdg : decode cc pc = .ok (.invokespecial index, 3))
    (kk : ∀ (H1 : Heap) (locs1 : List Loc), World E (shN n') σ' H1 → va_S E.2.2.2 s.heap H1 locs1 → W p l e R s m args below meth c H1 locs1 (cells + mc) (slots + ms) Q (F0 m (pc + 3) ls rest)) : W p l e R s m args below meth c H locs cells slots Q (F0 m pc ls st0) := by
  obtain ⟨hx, hb, hml, hown, hts, hT⟩ := id hC
  refine zb_size (fun hz => ?_)
  have hpre : PreS s H (PWc E n (.ref (E.2.2.1 a) :: As) σ) (.ref (E.2.2.1 a) :: As) := ⟨PWc.blind, fun U hU hWm => ⟨rfl, by rw [hU]; exact hw, by rw [hU]; omega, by rw [hU]; exact Nat.le_trans hb0 hS.1, hT.warm hWm, hNT.warm hWm⟩⟩
  have hr : va_Run p l e R s m args below meth c H locs cells slots mc ms (F0 m pc ls st0) rest (QW E (shN n') none σ' (Value.ref (E.2.2.1 a) :: As).toArray) E.2.2.2 := by
    rcases hcw with h | ⟨host, h⟩
    · exact va_runI (As := As) (rest := rest) ⟨hx, hb, hml, hown, hts⟩ hM h hpre rfl hn hls hst (lv_room hW) hdg hf
    · exact va_runIN (As := As) (rest := rest) ⟨hx, hb, hml, hown, hts⟩ hM h hpre rfl hn hls hst (lv_room hW) hdg hf
  intro T hT2 X
  obtain ⟨v, st₀, t, T', L, h0, X', hL, e1, e2, ⟨hv, hw1, hz1, hk⟩, st⟩ := hr T hT2 X
  cases hv
  rw [h0] at hz1 hk
  obtain ⟨t2, a1, b1⟩ := kk T'.heap (locs ++ L) (by rw [e1]; exact hw1)
    ⟨Nat.le_trans hS.1 (by rw [e1]; exact hz1), fun q h1 h2 => by rw [e1, hk q (Nat.lt_of_lt_of_le h1 hS.1) h2]; exact hS.2.1 q h1 h2, fun q hq => by
      rcases List.mem_append.mp hq with h | h
      · exact hS.2.2 q h
      · exact hL q h⟩ T' rfl X'
  exact ⟨t2, st t2 a1, b1⟩
theorem tysAt {E : Ev} {k : Nat} {ty : FieldType} {cA : ClassId} {U : State} {tys : List (ClassId × FieldType)} (hK : va_K E.1 vwCl tys U) (hk : tys[k]? = some (E.2.1 k, ty)) (hK2 : va_K E.1 vwCl (tys ++ [(cA, ty)]) U) : cA = E.2.1 k := by
  have h1 := (hK.2 k _ hk).2
  have h2 := (hK2.2 tys.length (cA, ty) (by simp)).2
  cases ty with
  | object C =>
    obtain ⟨_, _, _, _, _, a1⟩ := h1
    obtain ⟨_, _, _, _, _, a2⟩ := h2
    exact Option.some.inj (a2.symm.trans a1)
  | _ => exact Option.some.inj (Eq.trans (Eq.symm h2) h1)
theorem zb_newi (hE : EvOk E) (hC : Cx p s m args c cc nL own E) (hw : World E (shN n) σ H) (hS : va_S E.2.2.2 s.heap H locs) (hn : n < 274) (hb0 : E.2.2.1 0 ≤ s.heap.size) (hsz : s.heap.size + cells ≤ E.2.2.1 0 + n) {N : Nat} {b : Bool} (hs : sh2 n = some (.inl (0, N, b, []))) (harr : Cond.arrayClass .int ∈ WL) {k : Int32} (hk0 : ¬ k < 0) (hkN : k.toNatClampNeg = N) (hN : N ≤ 1000) (hcells : cells + 1 ≤ R.cells) (hslots : slots + N ≤ R.slots) {σ' : St} (hσ : σ' = va_up σ n (fun _ => 0)) (hdg : decode cc pc = .ok (.newarray .int, 2))
    (kk : ∀ (H1 : Heap), World E (shN (n + 1)) σ' H1 → va_S E.2.2.2 s.heap H1 locs → W p l e R s m args below meth c H1 locs (cells + 1) (slots + N) Q (F0 m (pc + 2) ls (.ref (E.2.2.1 n) :: rest))) : W p l e R s m args below meth c H locs cells slots Q (F0 m pc ls (.int k :: rest)) := by
  obtain ⟨hx, hb, hml, hown, hts, hT⟩ := hC
  obtain ⟨⟨ws, hP, hD, hcv⟩, hi⟩ := hw
  subst hσ
  refine va_newa (atype := .int) (ty := .int) hx hb (hts _ harr) rfl hT.1 hP hD hS (fun q h => (hE.2 q).mpr (by omega)) (a0 := (N, .inl (fun _ => 0))) (fun cA => rfl) hk0 hkN (by show N * 4 ≤ 536870912; omega) hcells hslots hdg (fun q cA H1 hK1 hP1 hD1 hS1 => zb_size (fun hz => ?_))
  have hcA : cA = E.2.1 0 := tysAt (k := 0) hT.1 rfl hK1
  subst hcA
  obtain ⟨e1, w1⟩ := zb_grow hE hn hcv hP1 hD1 (by omega) hs rfl
  rw [e1]
  exact kk H1 w1 hS1
theorem zb_newb (hE : EvOk E) (hC : Cx p s m args c cc nL own E) (hw : World E (shN n) σ H) (hS : va_S E.2.2.2 s.heap H locs) (hn : n < 274) (hb0 : E.2.2.1 0 ≤ s.heap.size) (hsz : s.heap.size + cells ≤ E.2.2.1 0 + n) {N : Nat} {b : Bool} (hs : sh2 n = some (.inl (1, N, b, []))) (harr : Cond.arrayClass .byte ∈ WL) {k : Int32} (hk0 : ¬ k < 0) (hkN : k.toNatClampNeg = N) (hN : N ≤ 1000) (hcells : cells + 1 ≤ R.cells) (hslots : slots + N ≤ R.slots) {σ' : St} (hσ : σ' = va_up σ n (fun _ => 0)) (hdg : decode cc pc = .ok (.newarray .byte, 2))
    (kk : ∀ (H1 : Heap), World E (shN (n + 1)) σ' H1 → va_S E.2.2.2 s.heap H1 locs → W p l e R s m args below meth c H1 locs (cells + 1) (slots + N) Q (F0 m (pc + 2) ls (.ref (E.2.2.1 n) :: rest))) : W p l e R s m args below meth c H locs cells slots Q (F0 m pc ls (.int k :: rest)) := by
  obtain ⟨hx, hb, hml, hown, hts, hT⟩ := hC
  obtain ⟨⟨ws, hP, hD, hcv⟩, hi⟩ := hw
  subst hσ
  refine va_newa (atype := .byte) (ty := .byte) hx hb (hts _ harr) rfl hT.1 hP hD hS (fun q h => (hE.2 q).mpr (by omega)) (a0 := (N, .inl (fun _ => 0))) (fun cA => rfl) hk0 hkN (by show N * 1 ≤ 536870912; omega) hcells hslots hdg (fun q cA H1 hK1 hP1 hD1 hS1 => zb_size (fun hz => ?_))
  have hcA : cA = E.2.1 1 := tysAt (k := 1) hT.1 rfl hK1
  subst hcA
  obtain ⟨e1, w1⟩ := zb_grow hE hn hcv hP1 hD1 (by omega) hs rfl
  rw [e1]
  exact kk H1 w1 hS1
theorem zb_newq (hE : EvOk E) (hC : Cx p s m args c cc nL own E) (hw : World E (shN n) σ H) (hS : va_S E.2.2.2 s.heap H locs) (hn : n < 274) (hb0 : E.2.2.1 0 ≤ s.heap.size) (hsz : s.heap.size + cells ≤ E.2.2.1 0 + n) {N kk0 r0 : Nat} {rs : List Nat} {b : Bool} (hs : sh2 n = some (.inl (kk0, N, b, r0 :: rs))) {Cn : String} (ht : (tysOf E.2.1)[kk0]? = some (E.2.1 kk0, .object Cn)) {index : Nat} (hcl : Cond.classLink own index Cn ∈ WL) (hao : va_AO Cn s) {k : Int32} (hk0 : ¬ k < 0) (hkN : k.toNatClampNeg = N) (hN : N ≤ 1000) (hcells : cells + 1 ≤ R.cells) (hslots : slots + N ≤ R.slots) {σ' : St} (hσ : σ' = va_up σ n (fun _ => 0)) (hdg : decode cc pc = .ok (.anewarray index, 3))
    (kk : ∀ (H1 : Heap), World E (shN (n + 1)) σ' H1 → va_S E.2.2.2 s.heap H1 locs → W p l e R s m args below meth c H1 locs (cells + 1) (slots + N) Q (F0 m (pc + 3) ls (.ref (E.2.2.1 n) :: rest))) : W p l e R s m args below meth c H locs cells slots Q (F0 m pc ls (.int k :: rest)) := by
  obtain ⟨hx, hb, hml, hown, hts, hT⟩ := hC
  obtain ⟨⟨ws, hP, hD, hcv⟩, hi⟩ := hw
  subst hσ
  refine va_newq hx hb hown (hts _ hcl) hao hT.1 hP hD hS (fun q h => (hE.2 q).mpr (by omega)) hk0 hkN (by omega) hcells hslots hdg (fun q cA H1 hK1 hP1 hD1 hS1 => zb_size (fun hz => ?_))
  have hcA : cA = E.2.1 kk0 := tysAt (k := kk0) hT.1 ht hK1
  subst hcA
  obtain ⟨e1, w1⟩ := zb_grow hE hn hcv hP1 hD1 (by omega) hs (by simp [nul, cellE])
  rw [e1]
  exact kk H1 w1 hS1
/-- a final field takes its reference, in a constructor -/
theorem zb_putF {sh : Nat → Option Shp} (hC : Cx p s m args c cc nL own E) (hin2 : meth.name = "<init>") (hw : World E sh σ H) (hS : va_S E.2.2.2 s.heap H locs) {a ci : Nat} {ks : List (Option (Bool × Nat))} (hs : sh a = some (.inr (ci, ks))) {C : String} {T : u_T} {N : Nat} (hc : vwCl[ci]? = some (C, T, N)) (hin : ∀ w ∈ u_ws C T N, w ∈ WL) (ty0 : Nat → FieldType) (hty : ∀ k, k < N → parseFieldDescriptor (T k).2.2.1 = some (ty0 k)) (hnm : ∀ a, a < N → ∀ b, b < N → a ≠ b → (T a).2.1 ≠ (T b).2.1) (k : Nat) (hk : k < N) {r : Nat} (ho : ks[k]? = some (some (true, r))) (hfin : (T k).2.2.2 = true) (hdecl : (T k).1 = own) (hn : narrow (ty0 k) (.ref (E.2.2.1 r)) = .ref (E.2.2.1 r)) (hfit : fits (ty0 k) (.ref (E.2.2.1 r)) = true) {index : Nat} (hl : Cond.fieldLink own index (T k).1 (T k).2.1 (T k).2.2.1 ∈ WL) {σ' : St} (hσ : σ' = wr σ a k 1) (hdg : decode cc pc = .ok (.putfield index, 3))
    (kk : ∀ (H1 : Heap) (locs1 : List Loc), World E sh σ' H1 → va_S E.2.2.2 s.heap H1 locs1 → W p l e R s m args below meth c H1 locs1 cells slots Q (F0 m (pc + 3) ls rest)) : W p l e R s m args below meth c H locs cells slots Q (F0 m pc ls (.ref (E.2.2.1 r) :: .ref (E.2.2.1 a) :: rest)) := by
  obtain ⟨hx, hb, hml, hown, hts, hT⟩ := hC
  obtain ⟨⟨ws, hP, hD, hcv⟩, hi⟩ := hw
  obtain ⟨q, hq⟩ := hcv a _ hs
  subst hσ
  have hlen : k < (ks.mapIdx (fun k o => fv E.2.2.1 (σ a k) o)).length := by
    have h := (List.getElem?_eq_some_iff.mp ho).1
    simpa using h
  have hv : fv E.2.2.1 1 (some (true, r)) = .ref (E.2.2.1 r) := by show (if (1 : Int32) = 0 then Value.null else Value.ref (E.2.2.1 r)) = _; exact if_neg (by decide)
  refine va_putF (ref := (T k).1) hx hb hts hin ty0 hty hnm hown hT.1 hP hD hS q hq hc k hk (hts _ hl) (fun _ h => h) hfin hin2 hdecl (hty k hk) hn hfit hlen hdg (fun H1 locs1 hP1 hD1 hS1 => ?_)
  rw [← hv, mapIdx_set ho] at hP1 hD1
  exact kk H1 locs1 ⟨⟨_, hP1, hD1, cov_set (upd (σ a) k 1) hi hcv hs hq⟩, hi⟩ hS1
/-- a place of an array of references takes its reference -/
theorem zb_aast {sh : Nat → Option Shp} (hC : Cx p s m args c cc nL own E) (hw : World E sh σ H) (hS : va_S E.2.2.2 s.heap H locs) {a kk0 N r0 : Nat} {rs : List Nat} (hs : sh a = some (.inl (kk0, N, true, r0 :: rs))) {Cn : String} (ht : (tysOf E.2.1)[kk0]? = some (E.2.1 kk0, .object Cn)) {r ci : Nat} {ks : List (Option (Bool × Nat))} (hsr : sh r = some (.inr (ci, ks))) {q0 : vw_C} (hc : vwCl[ci]? = some q0) (hcast : q0.1 = Cn ∨ va_Nw (.castable q0.1 Cn) s) {i : Int32} (hin : vp_in i N) (hr : (r0 :: rs).getD i.toNatClampNeg 0 = r) {σ' : St} (hσ : σ' = wr σ a i.toNatClampNeg 1) (hdg : decode cc pc = .ok (.aastore, 1))
    (kk : ∀ (H1 : Heap) (locs1 : List Loc), World E sh σ' H1 → va_S E.2.2.2 s.heap H1 locs1 → W p l e R s m args below meth c H1 locs1 cells slots Q (F0 m (pc + 1) ls rest)) : W p l e R s m args below meth c H locs cells slots Q (F0 m pc ls (.ref (E.2.2.1 r) :: .int i :: .ref (E.2.2.1 a) :: rest)) := by
  obtain ⟨hx, hb, hml, hown, hts, hT⟩ := hC
  obtain ⟨⟨ws, hP, hD, hcv⟩, hi⟩ := hw
  obtain ⟨q, hq⟩ := hcv a _ hs
  obtain ⟨q', hq'⟩ := hcv r _ hsr
  subst hσ
  have hfun : va_up (fun j => if true = true ∧ σ a j = 0 then none else some (E.2.2.1 ((r0 :: rs).getD j 0))) i.toNatClampNeg (some (E.2.2.1 r)) = fun j => if true = true ∧ upd (σ a) i.toNatClampNeg 1 j = 0 then none else some (E.2.2.1 ((r0 :: rs).getD j 0)) := by
    funext j
    unfold va_up upd
    by_cases hj : j = i.toNatClampNeg
    · rw [if_pos hj, if_pos hj, if_neg (by decide), hj, hr]
    · rw [if_neg hj, if_neg hj]
  have fin : ∀ (H1 : Heap) (locs1 : List Loc), va_P E.1 vwCl (ws.set q (E.2.2.1 a, .inl (E.2.1 kk0, N, .inr (.inr (.inr (.inr (va_up (fun j => if true = true ∧ σ a j = 0 then none else some (E.2.2.1 ((r0 :: rs).getD j 0))) i.toNatClampNeg (some (E.2.2.1 r))))))))) H1 → va_D E.2.2.2 (ws.set q (E.2.2.1 a, .inl (E.2.1 kk0, N, .inr (.inr (.inr (.inr (va_up (fun j => if true = true ∧ σ a j = 0 then none else some (E.2.2.1 ((r0 :: rs).getD j 0))) i.toNatClampNeg (some (E.2.2.1 r))))))))) → va_S E.2.2.2 s.heap H1 locs1 → W p l e R s m args below meth c H1 locs1 cells slots Q (F0 m (pc + 1) ls rest) := by
    intro H1 locs1 hP1 hD1 hS1
    rw [hfun] at hP1 hD1
    exact kk H1 locs1 ⟨⟨_, hP1, hD1, cov_set (upd (σ a) i.toNatClampNeg 1) hi hcv hs hq⟩, hi⟩ hS1
  rcases hcast with h | h
  · exact va_astq hx hb hT.1 hP hD hS q kk0 q' ci hq (by rw [h]; exact ht) hq' hc hin hdg fin
  · exact va_astqO hx hb hT.1 hP hD hS q kk0 q' ci hq ht h hq' hc hin hdg fin
end ZBirth
/-- a constructor's contract out of its walk -/
theorem zb_enter {l : Launch} {E : Ev} {y : MethodName} {cc : ByteArray} {nL : Nat} {rm : Room} {n n' mc ms : Nat} {av : List Value} {σ σ' : St} (hy : plainName y.cls = true) (hnm : y.name = "<init>") (hlen : (lg_sl av).length ≤ nL)
    (body : ∀ (p : Program) (e : Env) (s : State) (m : MethodId) (args : Array Value) (below : List Frame) (meth : Method) (c : Code) (ls : Array Slot), Cx p s m args c cc nL y.cls E → NT s → meth.name = "<init>" → meth.sig.returnType = none → meth.locks = false → World E (shN n) σ s.heap → E.2.2.1 0 ≤ s.heap.size → s.heap.size + 0 ≤ E.2.2.1 0 + n → va_S E.2.2.2 s.heap s.heap [] → lv_has ls nL (lv_args 0 av) → W p l e rm s m args below meth c s.heap [] 0 0 (MQ below (QW E (shN n') none σ') args s mc ms E.2.2.2) (F0 m 0 ls [])) : MC l E y cc nL rm n n' mc ms av σ σ' := by
  refine Met.ofW (cc := cc) (maxL := nL) (ret := none) hy rfl ?_
  intro p e s m args below meth c s₁ B hml hv
  obtain ⟨rfl, hw, hz, hz0, hT, hN⟩ := hv
  have hts := atoms_spec (ws := .code y cc nL none :: WL) B.pre
  rw [lg_entry_eq]
  have hl := lv_entry av (n := nL) hlen
  generalize (lg_sl av ++ List.replicate (nL - (lg_sl av).length) Slot.unset).toArray = ls at hl ⊢
  exact body p e s m _ below meth c ls ⟨B.exec, B.bytes, hml, findClass_of_methodNamed B.named, fun w h => hts w (List.mem_cons_of_mem _ h), hT⟩ hN ((name_of_methodNamed B.named B.method).1.trans hnm) B.returns B.notSynchronized hw hz0 (by omega) va_S.rf hl
