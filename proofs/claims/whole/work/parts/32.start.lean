/-! the start -/
def s00 : St := fun _ _ => 0
def sStart : St := f_X12_init (va_up (f_X11_init (va_up s00 0 (fun _ => 0))) 259 (fun _ => 0))
def FlagB (x : Shp) (f : Nat → Int32) : Bool := match x with
  | .inl (_, _, _, []) => true
  | .inl (_, n, _, _ :: _) => (List.range n).all (fun i => f i != 0)
  | .inr (_, ks) => (List.range ks.length).all (fun k => match ks[k]? with
    | some (some (false, _)) => f k != 0
    | _ => true)
theorem sh2_dom {a : Nat} {x : Shp} (h : sh2 a = some x) : a < 274 := by
  unfold sh2 at h
  by_cases h1 : a < 19
  · omega
  rw [if_neg h1] at h
  by_cases h2 : a < 259
  · omega
  rw [if_neg h2] at h
  have := (List.getElem?_eq_some_iff.mp h).1
  have hl : sh2m.length = 15 := by decide
  omega
theorem arrV_congr {cA : ClassId} {n : Nat} {f g : Nat → Value} (h : ∀ i, i < n → f i = g i) : arrV cA n f = arrV cA n g := by
  unfold arrV
  have : (fun j : Fin n => f j.val) = fun j => g j.val := by funext j; exact h j.val j.isLt
  rw [this]
theorem cell_fix {D : va_G} {ad : Nat → Nat} {dA : Nat → ClassId} {f : Nat → Int32} {q : Nat} {x : Shp} {H : Heap} (hf : FlagB x f = true) (h : va_at D vwCl (q, cellE ad dA f (nul x)) H) : va_at D vwCl (q, cellE ad dA f x) H := by
  match x, hf, h with
  | .inl (k, n, b, []), _, h => exact h
  | .inl (k, n, b, r :: rs), hf, h =>
    have h1 : H[q]? = some (vp_cell (dA k) (n, .inr (.inr (.inr (.inr (fun i => if true = true ∧ f i = 0 then none else some (ad ((r :: rs).getD i 0)))))))) := h
    show H[q]? = some (vp_cell (dA k) (n, .inr (.inr (.inr (.inr (fun i => if b = true ∧ f i = 0 then none else some (ad ((r :: rs).getD i 0))))))))
    rw [h1, vp_cell_q, vp_cell_q]
    refine congrArg some (arrV_congr (fun i hi => ?_))
    have hfi : ¬ f i = 0 := by
      have := List.all_eq_true.mp hf i (List.mem_range.mpr hi)
      simpa using this
    rw [if_neg (fun q => hfi q.2), if_neg (fun q => hfi q.2)]
  | .inr (ci, ks), hf, h =>
    have e : (ks.map (fun o => o.map (fun q => (true, q.2)))).mapIdx (fun k o => fv ad (f k) o) = ks.mapIdx (fun k o => fv ad (f k) o) := by
      apply List.ext_getElem?
      intro k
      rw [List.getElem?_mapIdx, List.getElem?_mapIdx, List.getElem?_map]
      cases hk : ks[k]? with
      | none => rfl
      | some o =>
        match o, hk with
        | none, _ => rfl
        | some (true, r), _ => rfl
        | some (false, r), hk =>
          have hlt : k < ks.length := (List.getElem?_eq_some_iff.mp hk).1
          have := List.all_eq_true.mp hf k (List.mem_range.mpr hlt)
          rw [hk] at this
          have hne : ¬ f k = 0 := by simpa using this
          show some (if f k = 0 then Value.null else Value.ref (ad r)) = some (Value.ref (ad r))
          rw [if_neg hne]
    have h2 : va_at D vwCl (q, .inr (ci, (ks.map (fun o => o.map (fun q => (true, q.2)))).mapIdx (fun k o => fv ad (f k) o))) H := h
    rw [e] at h2
    exact h2
theorem World.fix {E : Ev} (hE : EvOk E) {σ : St} {H : Heap} (hw : World E (shN 274) σ H) (hf : ∀ a, a < 274 → FlagB ((sh2 a).getD (ia 0)) (σ a) = true) : World E sh2 σ H := by
  obtain ⟨⟨ws, hP, hD, hc⟩, hi⟩ := hw
  have old : ∀ a x, sh2 a = some x → va_at E.1 vwCl (E.2.2.1 a, cellE E.2.2.1 E.2.1 (σ a) x) H ∧ E.2.2.2 (E.2.2.1 a) := by
    intro a x hx
    have ha := sh2_dom hx
    obtain ⟨k, hk⟩ := hc a _ (shN_at ha hx)
    have hfl := hf a ha
    rw [hx] at hfl
    exact ⟨cell_fix hfl (hP k _ hk), hD.2 k _ hk⟩
  have get : ∀ k q, ((List.range 274).map (fun a => (E.2.2.1 a, cellE E.2.2.1 E.2.1 (σ a) ((sh2 a).getD (ia 0)))))[k]? = some q → k < 274 ∧ q = (E.2.2.1 k, cellE E.2.2.1 E.2.1 (σ k) ((sh2 k).getD (ia 0))) := by
    intro k q hk
    have hlt : k < 274 := by simpa using (List.getElem?_eq_some_iff.mp hk).1
    rw [List.getElem?_map, List.getElem?_range hlt] at hk
    exact ⟨hlt, (Option.some.inj hk).symm⟩
  refine ⟨⟨(List.range 274).map (fun a => (E.2.2.1 a, cellE E.2.2.1 E.2.1 (σ a) ((sh2 a).getD (ia 0)))), ?_, ⟨?_, ?_⟩, ?_⟩, ?_⟩
  · intro k q hk
    obtain ⟨hlt, rfl⟩ := get k q hk
    obtain ⟨x, hx⟩ := Option.isSome_iff_exists.mp (sh2_all k hlt)
    rw [hx]
    exact (old k x hx).1
  · intro i j p q hp hq hpq
    obtain ⟨_, rfl⟩ := get i p hp
    obtain ⟨_, rfl⟩ := get j q hq
    have h : E.2.2.1 i = E.2.2.1 j := hpq
    rw [hE.1 i, hE.1 j] at h
    omega
  · intro k q hk
    obtain ⟨hlt, rfl⟩ := get k q hk
    obtain ⟨x, hx⟩ := Option.isSome_iff_exists.mp (sh2_all k hlt)
    exact (old k x hx).2
  · intro a x hx
    have ha := sh2_dom hx
    refine ⟨a, ?_⟩
    rw [List.getElem?_map, List.getElem?_range ha]
    show some (E.2.2.1 a, cellE E.2.2.1 E.2.1 (σ a) ((sh2 a).getD (ia 0))) = _
    rw [hx]
    rfl
  · intro a a' x x' _ _ h
    rw [hE.1 a, hE.1 a'] at h
    omega
set_option maxRecDepth 100000 in
theorem flags_start : ∀ a, a < 274 → FlagB ((sh2 a).getD (ia 0)) (sStart a) = true := by decide +kernel
theorem arr_p {ty : FieldType} {args : Array Value} {s : State} (h : (Cond.arrayClass ty).before args s = true) : ∃ cA, ArrOfT s cA ty ∧ s.vm.findClass ("[" ++ ty.toString) = some cA := by
  obtain ⟨cA, kA, comp, h1, h2, h3⟩ := Cond.arrayClass_spec h
  exact ⟨cA, fun n z => ⟨fun k h => (by cases h), kA, h2, comp, h3⟩, h1⟩
theorem arr_o {C : String} {args : Array Value} {s : State} (h : (Cond.arrayOver (.object C)).before args s = true) : ∃ cA, ArrOfT s cA (.object C) ∧ va_RA s cA (.object C) := by
  obtain ⟨comp, cA, kA, f1, f2, f3, f4, f5⟩ := Cond.arrayOver_spec h
  exact ⟨cA, fun n z => ⟨fun k h => (by cases h), kA, f3, comp, f4⟩, kA, comp, f3, f4, f1, f5⟩
set_option maxHeartbeats 8000000 in
set_option maxRecDepth 100000 in
theorem start_of {Inv : St → Prop} (hI : AllSteps Inv) (h0 : Inv sStart) {p : Program} {e : Env} {s : State} {m : MethodId} {below : List Frame} {meth : Method} {c : Code} (l : Launch) {b L : Nat} {xs : Nat → Int32} (hL : L ≤ 3072) (C0 : lw_At p s m meth c b L xs) : W p l e room_1 s m #[Value.ref b] below meth c s.heap [] 0 0 (lw_Z below #[Value.ref b] s) (entryFrame m ([Value.ref b] : List Value).toArray 4) := by
  obtain ⟨hx, hb, hr, hml, hown, hts0, hX, hbl, hlocks, hgv⟩ := id C0
  obtain ⟨c0, iS0, hKn0⟩ := u_known (C := RX0) (T := TX0) (N := 0) (n := 0) hts0 (fun w h => by cases h) (hts0 _ (t1_in (List.mem_of_getElem? (i := 132) rfl)))
  obtain ⟨c1, iS1, hKn1⟩ := u_known (C := RX1) (T := TX1) (N := 0) (n := 0) hts0 (fun w h => by cases h) (hts0 _ (t1_in (List.mem_of_getElem? (i := 139) rfl)))
  obtain ⟨c2, iS2, hKn2⟩ := u_known (C := RX3) (T := TX3) (N := 15) (n := 15) hts0 (fun w h => WL_in w (inw_House w h)) (hts0 _ (t1_in (List.mem_of_getElem? (i := 145) rfl)))
  obtain ⟨c3, iS3, hKn3⟩ := u_known (C := RX4) (T := TX4) (N := 7) (n := 7) hts0 (fun w h => WL_in w (inw_Plugging w h)) (hts0 _ (t1_in (List.mem_of_getElem? (i := 61) rfl)))
  obtain ⟨c4, iS4, hKn4⟩ := u_known (C := RX5) (T := TX5) (N := 0) (n := 0) hts0 (fun w h => by cases h) (hts0 _ (t1_in (List.mem_of_getElem? (i := 125) rfl)))
  obtain ⟨c5, iS5, hKn5⟩ := u_known (C := RX6) (T := TX6) (N := 7) (n := 7) hts0 (fun w h => WL_in w (inw_Reader w h)) (hts0 _ (t1_in (List.mem_of_getElem? (i := 28) rfl)))
  obtain ⟨c6, iS6, hKn6⟩ := u_known (C := RX7) (T := TX7) (N := 3) (n := 3) hts0 (fun w h => WL_in w (inw_Row w h)) (hts0 _ (t1_in (List.mem_of_getElem? (i := 219) rfl)))
  obtain ⟨c7, iS7, hKn7⟩ := u_known (C := RX8) (T := TX8) (N := 0) (n := 0) hts0 (fun w h => by cases h) (hts0 _ (t1_in (List.mem_of_getElem? (i := 118) rfl)))
  obtain ⟨c8, iS8, hKn8⟩ := u_known (C := RX9) (T := TX9) (N := 2) (n := 2) hts0 (fun w h => WL_in w (inw_Trace w h)) (hts0 _ (t1_in (List.mem_of_getElem? (i := 91) rfl)))
  obtain ⟨c9, iS9, hKn9⟩ := u_known (C := RX10) (T := TX10) (N := 0) (n := 0) hts0 (fun w h => by cases h) (hts0 _ (t1_in (List.mem_of_getElem? (i := 108) rfl)))
  obtain ⟨c10, iS10, hKn10⟩ := u_known (C := RX11) (T := TX11) (N := 12) (n := 12) hts0 (fun w h => WL_in w (inw_FuseBox w h)) (hts0 _ (t1_in (List.mem_of_getElem? (i := 18) rfl)))
  obtain ⟨c11, iS11, hKn11⟩ := u_known (C := RX12) (T := TX12) (N := 23) (n := 23) hts0 (fun w h => WL_in w (inw_Model w h)) (hts0 _ (t4_in (List.mem_of_getElem? (i := 115) rfl)))
  obtain ⟨dC, dI, hKc⟩ : ∃ (dC : Nat → ClassId) (dI : Nat → Nat → Nat), ∀ (k : Nat) (q : vw_C), vwCl[k]? = some q → u_Kn s q.1 q.2.1 q.2.2 (dC k) (dI k) := by
    refine ⟨fun k => match k with | 0 => c0 | 1 => c1 | 2 => c2 | 3 => c3 | 4 => c4 | 5 => c5 | 6 => c6 | 7 => c7 | 8 => c8 | 9 => c9 | 10 => c10 | _ => c11, fun k => match k with | 0 => iS0 | 1 => iS1 | 2 => iS2 | 3 => iS3 | 4 => iS4 | 5 => iS5 | 6 => iS6 | 7 => iS7 | 8 => iS8 | 9 => iS9 | 10 => iS10 | _ => iS11, ?_⟩
    intro k q hq
    match k, hq with
    | 0, hq => cases hq; exact hKn0
    | 1, hq => cases hq; exact hKn1
    | 2, hq => cases hq; exact hKn2
    | 3, hq => cases hq; exact hKn3
    | 4, hq => cases hq; exact hKn4
    | 5, hq => cases hq; exact hKn5
    | 6, hq => cases hq; exact hKn6
    | 7, hq => cases hq; exact hKn7
    | 8, hq => cases hq; exact hKn8
    | 9, hq => cases hq; exact hKn9
    | 10, hq => cases hq; exact hKn10
    | 11, hq => cases hq; exact hKn11
    | k + 12, hq => simp [vwCl] at hq
  obtain ⟨a0, ha0, hb0⟩ := arr_p (hts0 _ (t1_in (List.mem_of_getElem? (i := 57) rfl)))
  obtain ⟨a1, ha1, hb1⟩ := arr_p (hts0 _ (t4_in (List.mem_of_getElem? (i := 190) rfl)))
  obtain ⟨a2, ha2, hb2⟩ := arr_o (C := "FuseBox$Row") (hts0 _ (t1_in (List.mem_of_getElem? (i := 26) rfl)))
  obtain ⟨a3, ha3, hb3⟩ := arr_o (C := "FuseBox$House") (hts0 _ (t1_in (List.mem_of_getElem? (i := 59) rfl)))
  obtain ⟨a4, ha4, hb4⟩ := arr_o (C := "FuseBox$Fuse") (hts0 _ (t1_in (List.mem_of_getElem? (i := 106) rfl)))
  obtain ⟨dA, e0, e1, e2, e3, e4⟩ : ∃ dA : Nat → ClassId, dA 0 = a0 ∧ dA 1 = a1 ∧ dA 2 = a2 ∧ dA 3 = a3 ∧ dA 4 = a4 := ⟨fun k => match k with | 0 => a0 | 1 => a1 | 2 => a2 | 3 => a3 | _ => a4, rfl, rfl, rfl, rfl, rfl⟩
  have hK : va_K (dC, dI) vwCl (tysOf dA) s := by
    refine ⟨hKc, fun k q hq => ?_⟩
    match k, hq with
    | 0, hq => cases hq; rw [e0]; exact ⟨ha0, hb0⟩
    | 1, hq => cases hq; rw [e1]; exact ⟨ha1, hb1⟩
    | 2, hq => cases hq; rw [e2]; exact ⟨ha2, hb2⟩
    | 3, hq => cases hq; rw [e3]; exact ⟨ha3, hb3⟩
    | 4, hq => cases hq; rw [e4]; exact ⟨ha4, hb4⟩
    | k + 5, hq => simp [tysOf] at hq
  have hfl := flat_of_before _ hgv
  have hXT : XT s := ⟨va_Nw.of rfl (hts0 _ (t2_in (List.mem_of_getElem? (i := 210) rfl))), va_Nw.of rfl (hts0 _ (t2_in (List.mem_of_getElem? (i := 237) rfl))), va_Nw.of rfl (hts0 _ (t6_in (List.mem_of_getElem? (i := 67) rfl))), va_Nw.of rfl (hts0 _ (t6_in (List.mem_of_getElem? (i := 66) rfl))), va_Nw.of rfl (hts0 _ (t6_in (List.mem_of_getElem? (i := 68) rfl))), va_Nc.of (hfl (.not (.castable "FuseBox$Breaker" "FuseBox$Wire")) (by decide +kernel)), va_Nc.of (hfl (.not (.castable "FuseBox$Coil" "FuseBox$Wire")) (by decide +kernel)), va_Nc.of (hfl (.not (.castable "FuseBox$Wire" "FuseBox$Slow")) (by decide +kernel)), va_Nc.of (hfl (.not (.castable "FuseBox$Quick" "FuseBox$Slow")) (by decide +kernel)), va_Nc.of (hfl (.not (.castable "FuseBox$Breaker" "FuseBox$Slow")) (by decide +kernel)), va_Nc.of (hfl (.not (.castable "FuseBox$Coil" "FuseBox$Slow")) (by decide +kernel)), va_Nc.of (hfl (.not (.castable "FuseBox$Wire" "FuseBox$Quick")) (by decide +kernel)), va_Nc.of (hfl (.not (.castable "FuseBox$Slow" "FuseBox$Quick")) (by decide +kernel)), va_Nc.of (hfl (.not (.castable "FuseBox$Breaker" "FuseBox$Quick")) (by decide +kernel)), va_Nc.of (hfl (.not (.castable "FuseBox$Coil" "FuseBox$Quick")) (by decide +kernel)), va_Nc.of (hfl (.not (.castable "FuseBox$Wire" "FuseBox$Breaker")) (by decide +kernel)), va_Nc.of (hfl (.not (.castable "FuseBox$Slow" "FuseBox$Breaker")) (by decide +kernel)), va_Nc.of (hfl (.not (.castable "FuseBox$Quick" "FuseBox$Breaker")) (by decide +kernel)), va_Nc.of (hfl (.not (.castable "FuseBox$Wire" "FuseBox$Coil")) (by decide +kernel)), va_Nc.of (hfl (.not (.castable "FuseBox$Slow" "FuseBox$Coil")) (by decide +kernel)), va_Nc.of (hfl (.not (.castable "FuseBox$Quick" "FuseBox$Coil")) (by decide +kernel)), va_Nc.of (hfl (.not (.castable "FuseBox$Breaker" "FuseBox$Coil")) (by decide +kernel))⟩
  have hNT : NT s := ⟨va_Nw.of rfl (hts0 _ (t1_in (List.mem_of_getElem? (i := 29) rfl))), va_Nw.of rfl (hts0 _ (t1_in (List.mem_of_getElem? (i := 62) rfl))), va_Nw.of rfl (hts0 _ (t1_in (List.mem_of_getElem? (i := 92) rfl))), va_Nw.of rfl (hts0 _ (t1_in (List.mem_of_getElem? (i := 109) rfl))), va_Nw.of rfl (hts0 _ (t1_in (List.mem_of_getElem? (i := 119) rfl))), va_Nw.of rfl (hts0 _ (t1_in (List.mem_of_getElem? (i := 126) rfl))), va_Nw.of rfl (hts0 _ (t1_in (List.mem_of_getElem? (i := 133) rfl))), va_Nw.of rfl (hts0 _ (t1_in (List.mem_of_getElem? (i := 140) rfl))), va_Nw.of rfl (hts0 _ (t1_in (List.mem_of_getElem? (i := 220) rfl))), va_Nw.of rfl (hts0 _ (t1_in (List.mem_of_getElem? (i := 136) rfl))), va_Nw.of rfl (hts0 _ (t1_in (List.mem_of_getElem? (i := 143) rfl))), va_Nw.of rfl (hts0 _ (t1_in (List.mem_of_getElem? (i := 129) rfl))), va_Nw.of rfl (hts0 _ (t1_in (List.mem_of_getElem? (i := 122) rfl))), va_Nw.of rfl (hts0 _ (t1_in (List.mem_of_getElem? (i := 112) rfl))), va_AO.of (hts0 _ (t1_in (List.mem_of_getElem? (i := 26) rfl))), va_AO.of (hts0 _ (t1_in (List.mem_of_getElem? (i := 59) rfl))), va_AO.of (hts0 _ (t1_in (List.mem_of_getElem? (i := 106) rfl))), va_Nw.of rfl (hts0 _ (t6_in (List.mem_of_getElem? (i := 69) rfl))), va_Nw.of rfl (hts0 _ (t6_in (List.mem_of_getElem? (i := 70) rfl))), va_Nw.of rfl (hts0 _ (t6_in (List.mem_of_getElem? (i := 71) rfl))), va_Nw.of rfl (hts0 _ (t6_in (List.mem_of_getElem? (i := 72) rfl))), va_Nw.of rfl (hts0 _ (t6_in (List.mem_of_getElem? (i := 73) rfl)))⟩
  let E : Ev := ((dC, dI), dA, fun a => s.heap.size + a, fun q => s.heap.size ≤ q)
  have hE : EvOk E := ⟨fun a => by show s.heap.size + a = s.heap.size + 0 + a; omega, fun q => Iff.rfl⟩
  have hC : Cx p s m #[Value.ref b] c code 4 "FuseBoxLaw" E := ⟨hx, hb, hml, hown, fun w h => hts0 w (WL_in w h), hK, hXT⟩
  have hts : ∀ w ∈ WL, w.before #[Value.ref b] s = true := fun w h => hts0 w (WL_in w h)
  have hw : World E (shN 0) s00 s.heap := ⟨⟨[], fun k q h => (by simp at h), ⟨fun i j p q h => (by simp at h), fun k q h => (by simp at h)⟩, fun a x h => absurd (shN_lt h) (by omega)⟩, fun a a' x x' h => absurd (shN_lt h) (by omega)⟩
  have hS : va_S E.2.2.2 s.heap s.heap [] := va_S.rf
  have hz0 : E.2.2.1 0 ≤ s.heap.size := Nat.le_refl _
  have hz1 : s.heap.size ≤ E.2.2.1 0 := Nat.le_refl _
  have hl := lv_entry ([.ref b]) (n := 4) (Nat.le_of_ble_eq_true rfl)
  rw [lg_entry_eq]
  generalize (lg_sl ([.ref b]) ++ List.replicate (4 - (lg_sl ([.ref b])).length) Slot.unset).toArray = ls at hl ⊢
  have hl : lv_has ls 4 [(0, .ref b)] := hl
  clear_value E
  refine zb_new (n := 0) (rest := []) (cells := 0) (slots := 0) hE hC hw hS (by decide) hz0 (by omega) (ci := 10) (ks := ksX) rfl (C := RX11) (T := TX11) (N := 12) rfl inw_FuseBox tyX11 tyX11_ok hfs_X11 (mem_WL (w := Cond.classLink "FuseBoxLaw" 7 "FuseBox") (t1_in (List.mem_of_getElem? (i := 17) rfl)) rfl) (mem_WL (w := Cond.instantiable "FuseBox" 12) (t1_in (List.mem_of_getElem? (i := 18) rfl)) rfl) (mem_WL (w := Cond.initialized "FuseBox") (t1_in (List.mem_of_getElem? (i := 1) rfl)) rfl) (Nat.le_of_ble_eq_true rfl) (Nat.le_of_ble_eq_true rfl) rfl dL_law_0 (fun H hw hS => ?_)
  refine lv_dup hx hb dL_law_3 rfl ?_
  refine zb_cI (n := 1) (a := 0) (As := []) (rest := [.ref (E.2.2.1 0)]) hE hC hNT hl.1 hw hS hz0 (by omega) (c_X11_init l E hE) (Or.inl (cwI 0 hts (gin (gin_code (mem_WL (w := Cond.code yX11_init cX11_init 3 none) (t1_in (List.mem_of_getElem? (i := 21) rfl)) rfl))) rfl rfl rfl (hts _ (mem_WL (w := Cond.initialized "FuseBox") (t1_in (List.mem_of_getElem? (i := 1) rfl)) rfl)) (hts _ (mem_WL (w := Cond.methodLink "FuseBoxLaw" 9 yX11_init) (t1_in (List.mem_of_getElem? (i := 19) rfl)) rfl)) (hts _ (mem_WL (w := Cond.instanceMethod yX11_init) (t1_in (List.mem_of_getElem? (i := 20) rfl)) rfl)) rfl (by decide +kernel) ⟨(Nat.le_of_ble_eq_true rfl), (Nat.le_of_ble_eq_true rfl)⟩)) ⟨(Nat.le_of_ble_eq_true rfl), (Nat.le_of_ble_eq_true rfl)⟩ rfl rfl (Nat.le_of_ble_eq_true rfl) dL_law_4 (fun H locs hw hS => ?_)
  refine lv_astore_n (lv' := [(1, .ref (E.2.2.1 0)), (0, .ref b)]) hx hb dL_law_7 rfl hl (by decide) rfl (fun ls hl => ?_)
  refine W.widen (k := 259) (n := 2333) (Nat.le_of_ble_eq_true rfl) (Nat.le_of_ble_eq_true rfl) ?_
  refine zb_new (n := 259) (rest := []) (cells := 259) (slots := 2333) hE hC hw hS (by decide) hz0 (by omega) (ci := 11) (ks := ksM) rfl (C := RX12) (T := TX12) (N := 23) rfl inw_Model tyX12 tyX12_ok hfs_X12 (mem_WL (w := Cond.classLink "FuseBoxLaw" 10 "FuseBoxModel") (t4_in (List.mem_of_getElem? (i := 114) rfl)) rfl) (mem_WL (w := Cond.instantiable "FuseBoxModel" 23) (t4_in (List.mem_of_getElem? (i := 115) rfl)) rfl) (mem_WL (w := Cond.initialized "FuseBoxModel") (t1_in (List.mem_of_getElem? (i := 13) rfl)) rfl) (Nat.le_of_ble_eq_true rfl) (Nat.le_of_ble_eq_true rfl) rfl dL_law_8 (fun H hw hS => ?_)
  refine lv_dup hx hb dL_law_11 rfl ?_
  refine zb_cI (n := 260) (a := 259) (As := []) (rest := [.ref (E.2.2.1 259)]) hE hC hNT hl.1 hw hS hz0 (by omega) (c_X12_init l E hE) (Or.inl (cwI 0 hts (gin (gin_code (mem_WL (w := Cond.code yX12_init cX12_init 2 none) (t4_in (List.mem_of_getElem? (i := 118) rfl)) rfl))) rfl rfl rfl (hts _ (mem_WL (w := Cond.initialized "FuseBoxModel") (t1_in (List.mem_of_getElem? (i := 13) rfl)) rfl)) (hts _ (mem_WL (w := Cond.methodLink "FuseBoxLaw" 12 yX12_init) (t4_in (List.mem_of_getElem? (i := 116) rfl)) rfl)) (hts _ (mem_WL (w := Cond.instanceMethod yX12_init) (t4_in (List.mem_of_getElem? (i := 117) rfl)) rfl)) rfl (by decide +kernel) ⟨(Nat.le_of_ble_eq_true rfl), (Nat.le_of_ble_eq_true rfl)⟩)) ⟨(Nat.le_of_ble_eq_true rfl), (Nat.le_of_ble_eq_true rfl)⟩ rfl rfl (Nat.le_of_ble_eq_true rfl) dL_law_12 (fun H locs hw hS => ?_)
  refine lv_astore_n (lv' := [(2, .ref (E.2.2.1 259)), (1, .ref (E.2.2.1 0)), (0, .ref b)]) hx hb dL_law_15 rfl hl (by decide) rfl (fun ls hl => ?_)
  refine W.widen (k := 274) (n := 3668) (Nat.le_of_ble_eq_true rfl) (Nat.le_of_ble_eq_true rfl) ?_
  refine lv_iconst (v := 0) hx hb dL_law_16 (by decide) ?_
  refine lv_istore_n (lv' := [(3, .int 0), (2, .ref (E.2.2.1 259)), (1, .ref (E.2.2.1 0)), (0, .ref b)]) hx hb dL_law_17 rfl hl (by decide) rfl (fun ls hl => ?_)
  have hw2 : World E sh2 sStart H := World.fix hE hw flags_start
  exact law_loop hL C0 hC (fun h => by have h1 := (hE.2 b).mp h; omega) (fun q h => by have h1 := (hE.2 q).mp h; omega) hI (cells := 274) (slots := 3668) ⟨(Nat.le_of_ble_eq_true rfl), (Nat.le_of_ble_eq_true rfl)⟩ (L + 1) 0 (Nat.zero_le _) (by omega) sStart h0 H _ ls (lv_sub hl [3, 2, 1, 0] rfl) hw2 hS
