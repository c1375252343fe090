/-! my own layer: the world as ints by (relative address, place), one fixed shape; rows over it -/
section ZRows
/-- the tables' words that stay, all of them -/
def WL : List Cond := lw_tbl.filter goodWord
theorem mem_WL {w : Cond} (h : w ∈ lw_tbl) (hg : goodWord w = true) : w ∈ WL := List.mem_filter.mpr ⟨h, hg⟩
theorem WL_in : ∀ w ∈ WL, w ∈ lw_tbl := fun _ h => (List.mem_filter.mp h).1
theorem t0_in {w : Cond} (h : w ∈ k2_sels lw_privs) : w ∈ lw_tbl := List.mem_append_left _ h
theorem t1_in {w : Cond} (h : w ∈ tables_1_1) : w ∈ lw_tbl := List.mem_append_right _ (List.mem_append_left _ h)
theorem t2_in {w : Cond} (h : w ∈ tables_1_2) : w ∈ lw_tbl := List.mem_append_right _ (List.mem_append_right _ (List.mem_append_left _ h))
theorem t3_in {w : Cond} (h : w ∈ tables_1_3) : w ∈ lw_tbl := List.mem_append_right _ (List.mem_append_right _ (List.mem_append_right _ (List.mem_append_left _ h)))
theorem t4_in {w : Cond} (h : w ∈ tables_1_4) : w ∈ lw_tbl := List.mem_append_right _ (List.mem_append_right _ (List.mem_append_right _ (List.mem_append_right _ (List.mem_append_left _ h))))
theorem t5_in {w : Cond} (h : w ∈ tables_1_5) : w ∈ lw_tbl := List.mem_append_right _ (List.mem_append_right _ (List.mem_append_right _ (List.mem_append_right _ (List.mem_append_right _ (List.mem_append_left _ h)))))
theorem t6_in {w : Cond} (h : w ∈ tables_1_6) : w ∈ lw_tbl := List.mem_append_right _ (List.mem_append_right _ (List.mem_append_right _ (List.mem_append_right _ (List.mem_append_right _ (List.mem_append_right _ h)))))
abbrev St : Type := Nat → Nat → Int32
def wr (σ : St) (a k : Nat) (v : Int32) : St := va_up σ a (upd (σ a) k v)
/-- a cell's shape: an array (kind of its class, length, whether places may be null, the references if it holds some), or an object (class, its fields: an int, or a reference, that may be null or not) -/
abbrev Shp : Type := (Nat × Nat × Bool × List Nat) ⊕ (Nat × List (Option (Bool × Nat)))
/-- the tables' numbers, the array classes, the addresses of the shape's places, which cells may change -/
abbrev Ev : Type := va_G × (Nat → ClassId) × (Nat → Nat) × (Nat → Prop)
def fv (b0 : Nat → Nat) (x : Int32) (o : Option (Bool × Nat)) : Value := match o with
  | none => .int x
  | some (false, r) => .ref (b0 r)
  | some (true, r) => if x = 0 then .null else .ref (b0 r)
def cellE (b0 : Nat → Nat) (dA : Nat → ClassId) (f : Nat → Int32) (x : Shp) : va_E := match x with
  | .inl (k, n, _, []) => .inl (dA k, n, .inl f)
  | .inl (k, n, b, r :: rs) => .inl (dA k, n, .inr (.inr (.inr (.inr (fun i => if b = true ∧ f i = 0 then none else some (b0 ((r :: rs).getD i 0)))))))
  | .inr (ci, ks) => .inr (ci, ks.mapIdx (fun k o => fv b0 (f k) o))
def Cov (E : Ev) (sh : Nat → Option Shp) (σ : St) (ws : va_W) : Prop := ∀ (a : Nat) (x : Shp), sh a = some x → ∃ k : Nat, ws[k]? = some (E.2.2.1 a, cellE E.2.2.1 E.2.1 (σ a) x)
def World (E : Ev) (sh : Nat → Option Shp) (σ : St) (H : Heap) : Prop := (∃ ws : va_W, va_P E.1 vwCl ws H ∧ va_D E.2.2.2 ws ∧ Cov E sh σ ws) ∧ ∀ (a a' : Nat) (x x' : Shp), sh a = some x → sh a' = some x' → E.2.2.1 a = E.2.2.1 a' → a = a'
def tysOf (dA : Nat → ClassId) : List (ClassId × FieldType) := [(dA 0, .int), (dA 1, .byte), (dA 2, .object "FuseBox$Row"), (dA 3, .object "FuseBox$House"), (dA 4, .object "FuseBox$Fuse")]
theorem cov_set {E : Ev} {sh : Nat → Option Shp} {σ : St} {ws : va_W} {a q : Nat} {x : Shp} (f' : Nat → Int32) (hi : ∀ (a a' : Nat) (x x' : Shp), sh a = some x → sh a' = some x' → E.2.2.1 a = E.2.2.1 a' → a = a') (hc : Cov E sh σ ws) (hs : sh a = some x) (hq : ws[q]? = some (E.2.2.1 a, cellE E.2.2.1 E.2.1 (σ a) x)) : Cov E sh (va_up σ a f') (ws.set q (E.2.2.1 a, cellE E.2.2.1 E.2.1 f' x)) := by
  intro a' x' hs'
  have hlt : q < ws.length := (List.getElem?_eq_some_iff.mp hq).1
  by_cases h : a' = a
  · subst h
    rw [hs] at hs'
    cases hs'
    refine ⟨q, ?_⟩
    rw [List.getElem?_set_self hlt]
    simp [va_up]
  · obtain ⟨k, hk⟩ := hc a' x' hs'
    refine ⟨k, ?_⟩
    have hne : q ≠ k := by
      intro e
      subst e
      rw [hq] at hk
      have h1 := congrArg Prod.fst (Option.some.inj hk)
      exact h (hi a a' x x' hs hs' h1).symm
    rw [List.getElem?_set_ne hne, hk]
    simp [va_up, h]
theorem mapIdx_get {b0 : Nat → Nat} {f : Nat → Int32} {ks : List (Option (Bool × Nat))} {k : Nat} {o : Option (Bool × Nat)} (h : ks[k]? = some o) : (ks.mapIdx (fun k o => fv b0 (f k) o))[k]? = some (fv b0 (f k) o) := by
  rw [List.getElem?_mapIdx, h]; rfl
theorem mapIdx_set {b0 : Nat → Nat} {f : Nat → Int32} {ks : List (Option (Bool × Nat))} {k : Nat} {o : Option (Bool × Nat)} {x : Int32} (h : ks[k]? = some o) : (ks.mapIdx (fun k o => fv b0 (f k) o)).set k (fv b0 x o) = ks.mapIdx (fun j o => fv b0 (upd f k x j) o) := by
  apply List.ext_getElem?
  intro j
  by_cases hj : k = j
  · subst hj
    have hlt : k < ks.length := (List.getElem?_eq_some_iff.mp h).1
    rw [List.getElem?_set_self (by simpa using hlt), List.getElem?_mapIdx, h]
    simp [upd]
  · rw [List.getElem?_set_ne hj, List.getElem?_mapIdx, List.getElem?_mapIdx]
    have hj2 : ¬ j = k := fun e => hj e.symm
    have : upd f k x j = f j := by simp [upd, hj2]
    rw [this]
/-- what the tables say beside the words -/
def XT (U : State) : Prop := va_Nw (.declares ⟨"FuseBox$Fuse", "heatBehind", "(II)I"⟩) U ∧ va_Nw (.declares ⟨"FuseBox$Fuse", "deadBehind", "(III)I"⟩) U ∧
  va_Nw (.castable "FuseBox$Slow" "FuseBox$Wire") U ∧ va_Nw (.castable "FuseBox$Quick" "FuseBox$Wire") U ∧ va_Nw (.castable "FuseBox$Coil" "FuseBox$Breaker") U ∧
  va_Nc "FuseBox$Breaker" "FuseBox$Wire" U ∧ va_Nc "FuseBox$Coil" "FuseBox$Wire" U ∧
  va_Nc "FuseBox$Wire" "FuseBox$Slow" U ∧ va_Nc "FuseBox$Quick" "FuseBox$Slow" U ∧ va_Nc "FuseBox$Breaker" "FuseBox$Slow" U ∧ va_Nc "FuseBox$Coil" "FuseBox$Slow" U ∧
  va_Nc "FuseBox$Wire" "FuseBox$Quick" U ∧ va_Nc "FuseBox$Slow" "FuseBox$Quick" U ∧ va_Nc "FuseBox$Breaker" "FuseBox$Quick" U ∧ va_Nc "FuseBox$Coil" "FuseBox$Quick" U ∧
  va_Nc "FuseBox$Wire" "FuseBox$Breaker" U ∧ va_Nc "FuseBox$Slow" "FuseBox$Breaker" U ∧ va_Nc "FuseBox$Quick" "FuseBox$Breaker" U ∧
  va_Nc "FuseBox$Wire" "FuseBox$Coil" U ∧ va_Nc "FuseBox$Slow" "FuseBox$Coil" U ∧ va_Nc "FuseBox$Quick" "FuseBox$Coil" U ∧ va_Nc "FuseBox$Breaker" "FuseBox$Coil" U
theorem XT.warm {s U : State} (hW : s.WarmedH U.vm) (h : XT s) : XT U := by
  obtain ⟨h1, h2, h3, h4, h5, h6, h7, h8, h9, h10, h11, h12, h13, h14, h15, h16, h17, h18, h19, h20, h21, h22⟩ := h
  exact ⟨h1.warmD hW, h2.warmD hW, h3.warmC hW, h4.warmC hW, h5.warmC hW, h6.moved hW.alike, h7.moved hW.alike, h8.moved hW.alike, h9.moved hW.alike, h10.moved hW.alike, h11.moved hW.alike, h12.moved hW.alike, h13.moved hW.alike, h14.moved hW.alike, h15.moved hW.alike, h16.moved hW.alike, h17.moved hW.alike, h18.moved hW.alike, h19.moved hW.alike, h20.moved hW.alike, h21.moved hW.alike, h22.moved hW.alike⟩
theorem XT.same {u U : State} (h0 : u.vm = U.vm) (h : XT u) : XT U := by
  obtain ⟨h1, h2, h3, h4, h5, h6, h7, h8, h9, h10, h11, h12, h13, h14, h15, h16, h17, h18, h19, h20, h21, h22⟩ := h
  have ha : u.vm.Alike U.vm := by rw [← h0]; exact Vm.Alike.refl u.vm
  exact ⟨h1.same rfl h0, h2.same rfl h0, h3.same rfl h0, h4.same rfl h0, h5.same rfl h0, h6.moved ha, h7.moved ha, h8.moved ha, h9.moved ha, h10.moved ha, h11.moved ha, h12.moved ha, h13.moved ha, h14.moved ha, h15.moved ha, h16.moved ha, h17.moved ha, h18.moved ha, h19.moved ha, h20.moved ha, h21.moved ha, h22.moved ha⟩
def TB (E : Ev) (U : State) : Prop := va_K E.1 vwCl (tysOf E.2.1) U ∧ XT U
theorem TB.warm {E : Ev} {s U : State} (hW : s.WarmedH U.vm) (h : TB E s) : TB E U := ⟨va_K.moved hW.alike h.1, h.2.warm hW⟩
theorem TB.same {E : Ev} {u U : State} (h0 : u.vm = U.vm) (h : TB E u) : TB E U := ⟨va_K.moved (by rw [← h0]; exact Vm.Alike.refl u.vm) h.1, h.2.same h0⟩
/-- a method's start and end over the world -/
def PW (E : Ev) (sh : Nat → Option Shp) (av : List Value) (σ : St) : Array Value → State → Prop := va_Pc av (fun U => World E sh σ U.heap ∧ TB E U)
def QW (E : Ev) (sh : Nat → Option Shp) (ov : Option Value) (σ' : St) : Array Value → State → Outcome → State → Prop := fun _ st oc t => oc = .returned ov ∧ World E sh σ' t.heap ∧ va_F E.2.2.2 st t
def MM (l : Launch) (E : Ev) (sh : Nat → Option Shp) (y : MethodName) (cc : ByteArray) (nL : Nat) (ret : Option FieldType) (rm : Room) (av : List Value) (σ : St) (ov : Option Value) (σ' : St) : Prop :=
  Met l y (.code y cc nL ret :: WL) rm (PW E sh av σ) (QW E sh ov σ') 0 0 E.2.2.2
theorem PW.blind {E : Ev} {sh : Nat → Option Shp} {av : List Value} {σ : St} : FrameBlind (PW E sh av σ) := by
  intro a U g mk h
  obtain ⟨h1, h2, h3⟩ := h
  exact ⟨h1, h2, h3.same rfl⟩
def rmd (d : Nat) : Room := { frames := d, cells := 0, slots := 0, locals := 40 * d }
theorem wsgood : ∀ w ∈ WL, ((w.onTables && w.keeps) = true ∨ ∃ ty, w = .arrayClass ty) := fun w h => good_of_word (List.mem_filter.mp h).2
theorem gin {ws : List Cond} (h : ∀ w ∈ ws, w ∈ WL) : GoodIn WL ws := fun w hw => ⟨h w hw, wsgood w (h w hw)⟩
theorem gin_code {y : MethodName} {b : ByteArray} {n : Nat} {r : Option FieldType} (h : Cond.code y b n r ∈ WL) : ∀ w ∈ (Cond.code y b n r :: WL), w ∈ WL := by
  intro w hw
  rcases List.mem_cons.mp hw with e | e
  · rw [e]; exact h
  · exact e
theorem gin_V {own C : String} {index : Nat} {y : MethodName} {b : ByteArray} {n : Nat} {r : Option FieldType} (h1 : Cond.methodLink own index y ∈ WL) (h2 : Cond.instanceMethod y ∈ WL) (h3 : Cond.selects C y y ∈ WL) (h4 : Cond.initialized C ∈ WL) (h5 : Cond.code y b n r ∈ WL) : GoodIn WL (wsV own index C y (Cond.code y b n r :: WL)) := by
  refine gin (fun w hw => ?_)
  unfold wsV at hw
  rcases List.mem_append.mp hw with hw | hw
  · simp only [List.mem_cons, List.not_mem_nil, or_false] at hw
    rcases hw with e | e | e | e <;> rw [e] <;> assumption
  · exact gin_code h5 w hw
theorem gin_S {own : String} {index : Nat} {y : MethodName} {b : ByteArray} {n : Nat} {r : Option FieldType} (h1 : Cond.methodLink own index y ∈ WL) (h2 : Cond.static y ∈ WL) (h4 : Cond.initialized y.cls ∈ WL) (h5 : Cond.code y b n r ∈ WL) : GoodIn WL (va_wsS own index y (Cond.code y b n r :: WL)) := by
  refine gin (fun w hw => ?_)
  unfold va_wsS at hw
  rcases List.mem_append.mp hw with hw | hw
  · simp only [List.mem_cons, List.not_mem_nil, or_false] at hw
    rcases hw with e | e | e <;> rw [e] <;> assumption
  · exact gin_code h5 w hw
theorem gin_U {own C owner : String} {index : Nat} {x y : MethodName} {b : ByteArray} {n : Nat} {r : Option FieldType} (h1 : Cond.methodLink own index x ∈ WL) (h2 : Cond.sameMethod x.cls owner x.name x.desc ∈ WL) (h3 : Cond.selects C x y ∈ WL) (h4 : Cond.instanceMethod y ∈ WL) (h6 : Cond.initialized y.cls ∈ WL) (h5 : Cond.code y b n r ∈ WL) : GoodIn WL (va_wsU own index C owner x y (Cond.code y b n r :: WL)) := by
  refine gin (fun w hw => ?_)
  unfold va_wsU at hw
  rcases List.mem_append.mp hw with hw | hw
  · simp only [List.mem_cons, List.not_mem_nil, or_false] at hw
    rcases hw with e | e | e | e | e <;> rw [e] <;> assumption
  · exact gin_code h5 w hw
theorem gin_O {own C owner : String} {index : Nat} {x y : MethodName} {b : ByteArray} {n : Nat} {r : Option FieldType} (h1 : Cond.methodLink own index x ∈ WL) (h2 : Cond.sameMethod x.cls owner x.name x.desc ∈ WL) (h7 : Cond.instanceMethod ⟨owner, x.name, x.desc⟩ ∈ WL) (h3 : Cond.selects C x y ∈ WL) (h4 : Cond.instanceMethod y ∈ WL) (h6 : Cond.initialized y.cls ∈ WL) (h5 : Cond.code y b n r ∈ WL) : GoodIn WL (va_wsO own index C owner x y (Cond.code y b n r :: WL)) := by
  refine gin (fun w hw => ?_)
  unfold va_wsO at hw
  rcases List.mem_append.mp hw with hw | hw
  · simp only [List.mem_cons, List.not_mem_nil, or_false] at hw
    rcases hw with e | e | e | e | e | e <;> rw [e] <;> assumption
  · exact gin_code h5 w hw
theorem gin_SU {own : String} {index : Nat} {y : MethodName} {b : ByteArray} {n : Nat} {r : Option FieldType} (h1 : Cond.methodLink own index y ∈ WL) (h2 : Cond.sameMethod y.cls y.cls y.name y.desc ∈ WL) (h3 : Cond.superclass own y.cls ∈ WL) (h4 : Cond.instanceMethod y ∈ WL) (h6 : Cond.initialized y.cls ∈ WL) (h5 : Cond.code y b n r ∈ WL) : GoodIn WL (va_wsSU own index y (Cond.code y b n r :: WL)) := by
  refine gin (fun w hw => ?_)
  unfold va_wsSU at hw
  rcases List.mem_append.mp hw with hw | hw
  · simp only [List.mem_cons, List.not_mem_nil, or_false] at hw
    rcases hw with e | e | e | e | e <;> rw [e] <;> assumption
  · exact gin_code h5 w hw
/-- what stands at every point of a method's walk -/
def Cx (p : Program) (s : State) (m : MethodId) (args : Array Value) (c : Code) (cc : ByteArray) (nL : Nat) (own : String) (E : Ev) : Prop := p.tables.exec = Jvm.exec ∧ c.code = cc ∧ c.maxLocals = nL ∧ s.vm.findClass own = some m.cls ∧ (∀ w ∈ WL, w.before args s = true) ∧ TB E s
end ZRows
section ZWalk
variable {p : Program} {l : Launch} {e : Env} {R : Room} {s : State} {m : MethodId} {args : Array Value} {below : List Frame} {meth : Method} {c : Code} {H : Heap} {locs : List Loc} {cells slots : Nat} {Q : State → Prop} {E : Ev} {sh : Nat → Option Shp} {σ : St} {pc : Nat} {ls : Array Slot} {rest : List Value} {cc : ByteArray} {nL : Nat} {own : String}
theorem z_get (hC : Cx p s m args c cc nL own E) (hw : World E sh σ H) {a ci : Nat} {ks : List (Option (Bool × Nat))} (hs : sh a = some (.inr (ci, ks))) {C : String} {T : u_T} {N : Nat} (hc : vwCl[ci]? = some (C, T, N)) (hin : ∀ w ∈ u_ws C T N, w ∈ WL) (k : Nat) (hk : k < N) {o : Option (Bool × Nat)} (ho : ks[k]? = some o) {v : Value} (hv : fv E.2.2.1 (σ a k) o = v) {index : Nat} (hl : Cond.fieldLink own index (T k).1 (T k).2.1 (T k).2.2.1 ∈ WL) (hdg : decode cc pc = .ok (.getfield index, 3))
    (kk : W p l e R s m args below meth c H locs cells slots Q (F0 m (pc + 3) ls (v :: rest))) : W p l e R s m args below meth c H locs cells slots Q (F0 m pc ls (.ref (E.2.2.1 a) :: rest)) := by
  obtain ⟨hx, hb, hml, hown, hts, hT⟩ := hC
  obtain ⟨⟨ws, hP, hD, hcv⟩, hi⟩ := hw
  obtain ⟨q, hq⟩ := hcv a _ hs
  subst hv
  exact va_get (ref := (T k).1) hx hb hts hin hown hT.1 hP q hq hc k hk (hts _ hl) (fun _ h => h) (mapIdx_get ho) hdg kk
theorem z_put (hC : Cx p s m args c cc nL own E) (hw : World E sh σ H) (hS : va_S E.2.2.2 s.heap H locs) {a ci : Nat} {ks : List (Option (Bool × Nat))} (hs : sh a = some (.inr (ci, ks))) {C : String} {T : u_T} {N : Nat} (hc : vwCl[ci]? = some (C, T, N)) (hin : ∀ w ∈ u_ws C T N, w ∈ WL) (ty0 : Nat → FieldType) (hty : ∀ k, k < N → parseFieldDescriptor (T k).2.2.1 = some (ty0 k)) (hnm : ∀ a, a < N → ∀ b, b < N → a ≠ b → (T a).2.1 ≠ (T b).2.1) (k : Nat) (hk : k < N) {o : Option (Bool × Nat)} (ho : ks[k]? = some o) (hfin : (T k).2.2.2 = false) {x : Int32} {v : Value} (hv : fv E.2.2.1 x o = v) (hn : narrow (ty0 k) v = v) (hfit : fits (ty0 k) v = true) {index : Nat} (hl : Cond.fieldLink own index (T k).1 (T k).2.1 (T k).2.2.1 ∈ WL) {σ' : St} (hσ : σ' = wr σ a k x) (hdg : decode cc pc = .ok (.putfield index, 3))
    (kk : ∀ (H1 : Heap) (locs1 : List Loc), World E sh σ' H1 → va_S E.2.2.2 s.heap H1 locs1 → W p l e R s m args below meth c H1 locs1 cells slots Q (F0 m (pc + 3) ls rest)) : W p l e R s m args below meth c H locs cells slots Q (F0 m pc ls (v :: .ref (E.2.2.1 a) :: rest)) := by
  obtain ⟨hx, hb, hml, hown, hts, hT⟩ := hC
  obtain ⟨⟨ws, hP, hD, hcv⟩, hi⟩ := hw
  obtain ⟨q, hq⟩ := hcv a _ hs
  subst hv
  subst hσ
  have hlen : k < (ks.mapIdx (fun k o => fv E.2.2.1 (σ a k) o)).length := by
    have h := (List.getElem?_eq_some_iff.mp ho).1
    simpa using h
  refine va_put (ref := (T k).1) hx hb hts hin ty0 hty hnm hown hT.1 hP hD hS q hq hc k hk (hts _ hl) (fun _ h => h) hfin (hty k hk) hn hfit hlen hdg (fun H1 locs1 hP1 hD1 hS1 => ?_)
  rw [mapIdx_set ho] at hP1 hD1
  exact kk H1 locs1 ⟨⟨_, hP1, hD1, cov_set (upd (σ a) k x) hi hcv hs hq⟩, hi⟩ hS1
theorem z_iald (hC : Cx p s m args c cc nL own E) (hw : World E sh σ H) {a n : Nat} {bb : Bool} (hs : sh a = some (.inl (0, n, bb, []))) {i : Int32} (hin : vp_in i n) (hdg : decode cc pc = .ok (.iaload, 1))
    (kk : W p l e R s m args below meth c H locs cells slots Q (F0 m (pc + 1) ls (.int (σ a i.toNatClampNeg) :: rest))) : W p l e R s m args below meth c H locs cells slots Q (F0 m pc ls (.int i :: .ref (E.2.2.1 a) :: rest)) := by
  obtain ⟨hx, hb, hml, hown, hts, hT⟩ := hC
  obtain ⟨⟨ws, hP, hD, hcv⟩, hi⟩ := hw
  obtain ⟨q, hq⟩ := hcv a _ hs
  exact va_iald hx hb hT.1 hP q 0 hq rfl hin hdg kk
theorem z_bald (hC : Cx p s m args c cc nL own E) (hw : World E sh σ H) {a n : Nat} {bb : Bool} (hs : sh a = some (.inl (1, n, bb, []))) {i : Int32} (hin : vp_in i n) (hdg : decode cc pc = .ok (.baload, 1))
    (kk : W p l e R s m args below meth c H locs cells slots Q (F0 m (pc + 1) ls (.int (σ a i.toNatClampNeg) :: rest))) : W p l e R s m args below meth c H locs cells slots Q (F0 m pc ls (.int i :: .ref (E.2.2.1 a) :: rest)) := by
  obtain ⟨hx, hb, hml, hown, hts, hT⟩ := hC
  obtain ⟨⟨ws, hP, hD, hcv⟩, hi⟩ := hw
  obtain ⟨q, hq⟩ := hcv a _ hs
  exact va_bald hx hb hT.1 hP q 1 hq rfl hin hdg kk
theorem z_iast (hC : Cx p s m args c cc nL own E) (hw : World E sh σ H) (hS : va_S E.2.2.2 s.heap H locs) {a n : Nat} {bb : Bool} (hs : sh a = some (.inl (0, n, bb, []))) {i x : Int32} (hin : vp_in i n) {σ' : St} (hσ : σ' = wr σ a i.toNatClampNeg x) (hdg : decode cc pc = .ok (.iastore, 1))
    (kk : ∀ (H1 : Heap) (locs1 : List Loc), World E sh σ' H1 → va_S E.2.2.2 s.heap H1 locs1 → W p l e R s m args below meth c H1 locs1 cells slots Q (F0 m (pc + 1) ls rest)) : W p l e R s m args below meth c H locs cells slots Q (F0 m pc ls (.int x :: .int i :: .ref (E.2.2.1 a) :: rest)) := by
  obtain ⟨hx, hb, hml, hown, hts, hT⟩ := hC
  obtain ⟨⟨ws, hP, hD, hcv⟩, hi⟩ := hw
  obtain ⟨q, hq⟩ := hcv a _ hs
  subst hσ
  exact va_iast hx hb hT.1 hP hD hS q 0 hq rfl hin hdg (fun H1 locs1 hP1 hD1 hS1 => kk H1 locs1 ⟨⟨_, hP1, hD1, cov_set (upd (σ a) i.toNatClampNeg x) hi hcv hs hq⟩, hi⟩ hS1)
theorem z_bast (hC : Cx p s m args c cc nL own E) (hw : World E sh σ H) (hS : va_S E.2.2.2 s.heap H locs) {a n : Nat} {bb : Bool} (hs : sh a = some (.inl (1, n, bb, []))) {i x : Int32} (hin : vp_in i n) {σ' : St} (hσ : σ' = wr σ a i.toNatClampNeg (vp_nar .byte x)) (hdg : decode cc pc = .ok (.bastore, 1))
    (kk : ∀ (H1 : Heap) (locs1 : List Loc), World E sh σ' H1 → va_S E.2.2.2 s.heap H1 locs1 → W p l e R s m args below meth c H1 locs1 cells slots Q (F0 m (pc + 1) ls rest)) : W p l e R s m args below meth c H locs cells slots Q (F0 m pc ls (.int x :: .int i :: .ref (E.2.2.1 a) :: rest)) := by
  obtain ⟨hx, hb, hml, hown, hts, hT⟩ := hC
  obtain ⟨⟨ws, hP, hD, hcv⟩, hi⟩ := hw
  obtain ⟨q, hq⟩ := hcv a _ hs
  subst hσ
  exact va_bast hx hb hT.1 hP hD hS q 1 hq rfl hin hdg (fun H1 locs1 hP1 hD1 hS1 => kk H1 locs1 ⟨⟨_, hP1, hD1, cov_set (upd (σ a) i.toNatClampNeg (vp_nar .byte x)) hi hcv hs hq⟩, hi⟩ hS1)
theorem z_aald (hC : Cx p s m args c cc nL own E) (hw : World E sh σ H) {a k n r0 : Nat} {rs : List Nat} (hs : sh a = some (.inl (k, n, false, r0 :: rs))) {Cn : String} (ht : (tysOf E.2.1)[k]? = some (E.2.1 k, .object Cn)) {i : Int32} (hin : vp_in i n) {r : Nat} (hr : (r0 :: rs).getD i.toNatClampNeg 0 = r) (hdg : decode cc pc = .ok (.aaload, 1))
    (kk : W p l e R s m args below meth c H locs cells slots Q (F0 m (pc + 1) ls (.ref (E.2.2.1 r) :: rest))) : W p l e R s m args below meth c H locs cells slots Q (F0 m pc ls (.int i :: .ref (E.2.2.1 a) :: rest)) := by
  obtain ⟨hx, hb, hml, hown, hts, hT⟩ := hC
  obtain ⟨⟨ws, hP, hD, hcv⟩, hi⟩ := hw
  obtain ⟨q, hq⟩ := hcv a _ hs
  subst hr
  exact va_aldq hx hb hT.1 hP q k hq ht hin hdg kk
theorem z_alen (hC : Cx p s m args c cc nL own E) (hw : World E sh σ H) {a k n : Nat} {bb : Bool} (hs : sh a = some (.inl (k, n, bb, []))) {ty : FieldType} (ht : (tysOf E.2.1)[k]? = some (E.2.1 k, ty)) {v : Int32} (hv : Int32.ofNat n = v) (hdg : decode cc pc = .ok (.arraylength, 1))
    (kk : W p l e R s m args below meth c H locs cells slots Q (F0 m (pc + 1) ls (.int v :: rest))) : W p l e R s m args below meth c H locs cells slots Q (F0 m pc ls (.ref (E.2.2.1 a) :: rest)) := by
  obtain ⟨hx, hb, hml, hown, hts, hT⟩ := hC
  obtain ⟨⟨ws, hP, hD, hcv⟩, hi⟩ := hw
  obtain ⟨q, hq⟩ := hcv a _ hs
  exact va_alen hx hb hT.1 hP q k hq ht hv hdg kk
theorem z_copy (hC : Cx p s m args c cc nL own E) (hls : ls.size = nL) (hw : World E sh σ H) (hS : va_S E.2.2.2 s.heap H locs) {a a0 n0 n1 : Nat} {b0 b1 : Bool} (hs0 : sh a0 = some (.inl (0, n0, b0, []))) (hs1 : sh a = some (.inl (0, n1, b1, []))) {index : Nat} (hlink : Cond.methodLink own index arraycopyName ∈ WL) (hnat : Cond.native arraycopyName ∈ WL) (hstat : Cond.static arraycopyName ∈ WL) (hini : Cond.initialized "java/lang/System" ∈ WL)
    {sp dp n : Int32} (h1 : ¬ sp < 0) (h2 : ¬ dp < 0) (h3 : ¬ n < 0) (h4 : sp.toNatClampNeg + n.toNatClampNeg ≤ n0) (h5 : dp.toNatClampNeg + n.toNatClampNeg ≤ n1) (hframes : 1 ≤ R.frames) (hlocals : (rest.map fun v => v.category).sum + (nativeFrameWords "java/lang/System" "arraycopy" 5 + 11) ≤ R.locals) {σ' : St} (hσ : σ' = va_up σ a (va_cpy (σ a0) (σ a) sp.toNatClampNeg dp.toNatClampNeg n.toNatClampNeg)) (hdg : decode cc pc = .ok (.invokestatic index, 3))
    (kk : ∀ (H1 : Heap) (locs1 : List Loc), World E sh σ' H1 → va_S E.2.2.2 s.heap H1 locs1 → W p l e R s m args below meth c H1 locs1 cells slots Q (F0 m (pc + 3) ls rest)) : W p l e R s m args below meth c H locs cells slots Q (F0 m pc ls (.int n :: .int dp :: .ref (E.2.2.1 a) :: .int sp :: .ref (E.2.2.1 a0) :: rest)) := by
  obtain ⟨hx, hb, hml, hown, hts, hT⟩ := hC
  obtain ⟨⟨ws, hP, hD, hcv⟩, hi⟩ := hw
  obtain ⟨q, hq⟩ := hcv a _ hs1
  obtain ⟨q', hq'⟩ := hcv a0 _ hs0
  subst hσ
  exact va_copyi hx hb (hml.trans hls.symm) hown (hts _ hlink) (hts _ hnat) (hts _ hstat) (hts _ hini) hT.1 hP hD hS q' q 0 0 (ty := .int) hq' hq rfl rfl rfl h1 h2 h3 h4 h5 (fun _ _ => rfl) hframes hlocals hdg (fun H1 locs1 hP1 hD1 hS1 => kk H1 locs1 ⟨⟨_, hP1, hD1, cov_set _ hi hcv hs1 hq⟩, hi⟩ hS1)
theorem z_max (hC : Cx p s m args c cc nL own E) (hls : ls.size = nL) {index : Nat} (hlink : Cond.methodLink own index Lib.Math.max.name ∈ WL) (hstat : Cond.static Lib.Math.max.name ∈ WL) (hini : Cond.initialized "java/lang/Math" ∈ WL) (hcode : Cond.code Lib.Math.max.name Lib.Math.max.code 2 (some .int) ∈ WL) (hframes : 1 ≤ R.frames) (hlocals : (rest.map fun v => v.category).sum + 13 ≤ R.locals) (hc : cells ≤ R.cells) (hs : slots ≤ R.slots) {x y : Int32} (hdg : decode cc pc = .ok (.invokestatic index, 3))
    (kk : W p l e R s m args below meth c H locs cells slots Q (F0 m (pc + 3) ls (.int (if x < y then y else x) :: rest))) : W p l e R s m args below meth c H locs cells slots Q (F0 m pc ls (.int y :: .int x :: rest)) := by
  obtain ⟨hx, hb, hml, hown, hts, hT⟩ := hC
  exact va_mmax hx hb (hml.trans hls.symm) hown (hts _ hlink) (hts _ hstat) (hts _ hini) (hts _ hcode) hframes hlocals hc hs hdg kk
theorem z_min (hC : Cx p s m args c cc nL own E) (hls : ls.size = nL) {index : Nat} (hlink : Cond.methodLink own index Lib.Math.min.name ∈ WL) (hstat : Cond.static Lib.Math.min.name ∈ WL) (hini : Cond.initialized "java/lang/Math" ∈ WL) (hcode : Cond.code Lib.Math.min.name Lib.Math.min.code 2 (some .int) ∈ WL) (hframes : 1 ≤ R.frames) (hlocals : (rest.map fun v => v.category).sum + 13 ≤ R.locals) (hc : cells ≤ R.cells) (hs : slots ≤ R.slots) {x y : Int32} (hdg : decode cc pc = .ok (.invokestatic index, 3))
    (kk : W p l e R s m args below meth c H locs cells slots Q (F0 m (pc + 3) ls (.int (if y < x then y else x) :: rest))) : W p l e R s m args below meth c H locs cells slots Q (F0 m pc ls (.int y :: .int x :: rest)) := by
  obtain ⟨hx, hb, hml, hown, hts, hT⟩ := hC
  exact va_mmin hx hb (hml.trans hls.symm) hown (hts _ hlink) (hts _ hstat) (hts _ hini) (hts _ hcode) hframes hlocals hc hs hdg kk
/-- behind a call -/
theorem z_run {ov : Option Value} {σ' : St} {st0 : List Value} {a : Array Value} (hr : va_Run p l e R s m args below meth c H locs cells slots 0 0 (F0 m pc ls st0) rest (QW E sh ov σ' a) E.2.2.2) (hS : va_S E.2.2.2 s.heap H locs)
    (kk : ∀ (H1 : Heap) (locs1 : List Loc), World E sh σ' H1 → va_S E.2.2.2 s.heap H1 locs1 → W p l e R s m args below meth c H1 locs1 cells slots Q (F0 m (pc + 3) ls (ov.toList ++ rest))) : W p l e R s m args below meth c H locs cells slots Q (F0 m pc ls st0) := by
  intro T hT X
  obtain ⟨v, st₀, t, T', L, h0, X', hL, e1, e2, ⟨hv, hw, hz, hk⟩, st⟩ := hr T hT X
  cases hv
  rw [h0] at hz hk
  obtain ⟨t2, a1, b1⟩ := kk T'.heap (locs ++ L) (by rw [e1]; exact hw)
    ⟨Nat.le_trans hS.1 (by rw [e1]; exact hz), fun q h1 h2 => by rw [e1, hk q (Nat.lt_of_lt_of_le h1 hS.1) h2]; exact hS.2.1 q h1 h2, fun q hq => by
      rcases List.mem_append.mp hq with h | h
      · exact hS.2.2 q h
      · exact hL q h⟩ T' rfl X'
  exact ⟨t2, st t2 a1, b1⟩
theorem z_pre (hC : Cx p s m args c cc nL own E) (hw : World E sh σ H) {av : List Value} : ∀ U : State, U.heap = H → s.WarmedH U.vm → PW E sh av σ av.toArray U := by
  intro U hU hW
  exact ⟨rfl, by rw [hU]; exact hw, hC.2.2.2.2.2.warm hW⟩
theorem z_recv (hC : Cx p s m args c cc nL own E) (hw : World E sh σ H) {a ci : Nat} {ks : List (Option (Bool × Nat))} (hs : sh a = some (.inr (ci, ks))) {q : vw_C} (hc : vwCl[ci]? = some q) : ∃ cell : Cell, H[E.2.2.1 a]? = some cell ∧ cell.vm.isStatics = false ∧ s.vm.findClass q.1 = some cell.cls := by
  obtain ⟨⟨ws, hP, hD, hcv⟩, hi⟩ := hw
  obtain ⟨k, hk⟩ := hcv a _ hs
  exact va_recv hC.2.2.2.2.2.1 hP hc hk
theorem z_cV (hC : Cx p s m args c cc nL own E) (hls : ls.size = nL) (hw : World E sh σ H) (hS : va_S E.2.2.2 s.heap H locs) {y : MethodName} {bytes : ByteArray} {maxL : Nat} {ret : Option FieldType} {d a : Nat} {As : List Value} {ov : Option Value} {σ' : St} (hM : MM l E sh y bytes maxL ret (rmd d) (.ref (E.2.2.1 a) :: As) σ ov σ') {ci : Nat} {ks : List (Option (Bool × Nat))} (hs : sh a = some (.inr (ci, ks))) {C : String} {T : u_T} {N : Nat} (hc : vwCl[ci]? = some (C, T, N)) {index n : Nat} (hg : GoodIn WL (wsV own index C y (Cond.code y bytes maxL ret :: WL))) (hd : y.cls = C ∧ y.cls ≠ "java/lang/invoke/MethodHandle" ∧ y.cls ≠ "java/lang/invoke/VarHandle" ∧ (parseMethodDescriptor y.desc).map (fun d => d.parameters.length) = some n) (hR : d + 1 ≤ R.frames ∧ 8 + (maxL + 11) + 40 * d ≤ R.locals) (hf : cells + 0 ≤ R.cells ∧ slots + 0 ≤ R.slots)
    (hn : As.length = n) {st0 : List Value} (hst : st0 = As.reverse ++ .ref (E.2.2.1 a) :: rest) (hW : (rest.map fun v => v.category).sum ≤ 8) (hdg : decode cc pc = .ok (.invokevirtual index, 3))
    (kk : ∀ (H1 : Heap) (locs1 : List Loc), World E sh σ' H1 → va_S E.2.2.2 s.heap H1 locs1 → W p l e R s m args below meth c H1 locs1 cells slots Q (F0 m (pc + 3) ls (ov.toList ++ rest))) : W p l e R s m args below meth c H locs cells slots Q (F0 m pc ls st0) := by
  obtain ⟨hx, hb, hml, hown, hts, hT⟩ := id hC
  exact z_run (va_runV (As := As) (rest := rest) ⟨hx, hb, hml, hown, hts⟩ hM (cwV n hts hg rfl rfl rfl hd hR) ⟨PW.blind, z_recv hC hw hs hc, z_pre hC hw⟩ rfl hn hls hst (lv_room hW) hdg hf) hS kk
theorem z_cS (hC : Cx p s m args c cc nL own E) (hls : ls.size = nL) (hw : World E sh σ H) (hS : va_S E.2.2.2 s.heap H locs) {y : MethodName} {bytes : ByteArray} {maxL : Nat} {ret : Option FieldType} {d : Nat} {As : List Value} {ov : Option Value} {σ' : St} (hM : MM l E sh y bytes maxL ret (rmd d) As σ ov σ') {index n : Nat} (hg : GoodIn WL (va_wsS own index y (Cond.code y bytes maxL ret :: WL))) (hd : y.cls ≠ "java/lang/invoke/MethodHandle" ∧ y.cls ≠ "java/lang/invoke/VarHandle" ∧ (parseMethodDescriptor y.desc).map (fun d => d.parameters.length) = some n) (hR : d + 1 ≤ R.frames ∧ 8 + (maxL + 11) + 40 * d ≤ R.locals) (hf : cells + 0 ≤ R.cells ∧ slots + 0 ≤ R.slots)
    (hn : As.length = n) {st0 : List Value} (hst : st0 = As.reverse ++ rest) (hW : (rest.map fun v => v.category).sum ≤ 8) (hdg : decode cc pc = .ok (.invokestatic index, 3))
    (kk : ∀ (H1 : Heap) (locs1 : List Loc), World E sh σ' H1 → va_S E.2.2.2 s.heap H1 locs1 → W p l e R s m args below meth c H1 locs1 cells slots Q (F0 m (pc + 3) ls (ov.toList ++ rest))) : W p l e R s m args below meth c H locs cells slots Q (F0 m pc ls st0) := by
  obtain ⟨hx, hb, hml, hown, hts, hT⟩ := id hC
  exact z_run (va_runS (As := As) (rest := rest) ⟨hx, hb, hml, hown, hts⟩ hM (va_cwS n hts hg rfl rfl rfl hd hR) ⟨PW.blind, z_pre hC hw⟩ rfl hn hls hst (lv_room hW) hdg hf) hS kk
theorem z_cU (hC : Cx p s m args c cc nL own E) (hls : ls.size = nL) (hw : World E sh σ H) (hS : va_S E.2.2.2 s.heap H locs) {x y : MethodName} {bytes : ByteArray} {maxL : Nat} {ret : Option FieldType} {d a : Nat} {As : List Value} {ov : Option Value} {σ' : St} (hM : MM l E sh y bytes maxL ret (rmd d) (.ref (E.2.2.1 a) :: As) σ ov σ') {ci : Nat} {ks : List (Option (Bool × Nat))} (hs : sh a = some (.inr (ci, ks))) {C owner : String} {T : u_T} {N : Nat} (hc : vwCl[ci]? = some (C, T, N)) {index n : Nat} (cw : va_CU R s args own C owner index x y bytes maxL ret (Cond.code y bytes maxL ret :: WL) (rmd d) 0 0 n) (hf : cells + 0 ≤ R.cells ∧ slots + 0 ≤ R.slots)
    (hn : As.length = n) {st0 : List Value} (hst : st0 = As.reverse ++ .ref (E.2.2.1 a) :: rest) (hW : (rest.map fun v => v.category).sum ≤ 8) (hdg : decode cc pc = .ok (.invokevirtual index, 3))
    (kk : ∀ (H1 : Heap) (locs1 : List Loc), World E sh σ' H1 → va_S E.2.2.2 s.heap H1 locs1 → W p l e R s m args below meth c H1 locs1 cells slots Q (F0 m (pc + 3) ls (ov.toList ++ rest))) : W p l e R s m args below meth c H locs cells slots Q (F0 m pc ls st0) := by
  obtain ⟨hx, hb, hml, hown, hts, hT⟩ := id hC
  exact z_run (va_runU (As := As) (rest := rest) ⟨hx, hb, hml, hown, hts⟩ hM cw ⟨PW.blind, z_recv hC hw hs hc, z_pre hC hw⟩ rfl hn hls hst (lv_room hW) hdg hf) hS kk
theorem z_cSU (hC : Cx p s m args c cc nL own E) (hls : ls.size = nL) (hw : World E sh σ H) (hS : va_S E.2.2.2 s.heap H locs) {y : MethodName} {bytes : ByteArray} {maxL : Nat} {ret : Option FieldType} {d a : Nat} {As : List Value} {ov : Option Value} {σ' : St} (hM : MM l E sh y bytes maxL ret (rmd d) (.ref (E.2.2.1 a) :: As) σ ov σ') {ci : Nat} {ks : List (Option (Bool × Nat))} (hs : sh a = some (.inr (ci, ks))) {C : String} {T : u_T} {N : Nat} (hc : vwCl[ci]? = some (C, T, N)) {index n : Nat} (hg : GoodIn WL (va_wsSU own index y (Cond.code y bytes maxL ret :: WL))) (hd : y.name ≠ "<init>" ∧ (parseMethodDescriptor y.desc).map (fun d => d.parameters.length) = some n) (hR : d + 1 ≤ R.frames ∧ 8 + (maxL + 11) + 40 * d ≤ R.locals) (hf : cells + 0 ≤ R.cells ∧ slots + 0 ≤ R.slots)
    (hn : As.length = n) {st0 : List Value} (hst : st0 = As.reverse ++ .ref (E.2.2.1 a) :: rest) (hW : (rest.map fun v => v.category).sum ≤ 8) (hdg : decode cc pc = .ok (.invokespecial index, 3))
    (kk : ∀ (H1 : Heap) (locs1 : List Loc), World E sh σ' H1 → va_S E.2.2.2 s.heap H1 locs1 → W p l e R s m args below meth c H1 locs1 cells slots Q (F0 m (pc + 3) ls (ov.toList ++ rest))) : W p l e R s m args below meth c H locs cells slots Q (F0 m pc ls st0) := by
  obtain ⟨hx, hb, hml, hown, hts, hT⟩ := id hC
  exact z_run (va_runSU (As := As) (rest := rest) (hT.1.1 ci _ hc).2 ⟨hx, hb, hml, hown, hts⟩ hM (va_cwSU n hts hg rfl rfl rfl hd hR) ⟨PW.blind, z_recv hC hw hs hc, z_pre hC hw⟩ rfl hn hls hst (lv_room hW) hdg hf) hS kk
/-- the ends -/
theorem z_iret (hC : Cx p s m args c cc nL own E) (hlocks : meth.locks = false) (hw : World E sh σ H) (hS : va_S E.2.2.2 s.heap H locs) {v : Int32} {ty : FieldType} (hr : meth.sig.returnType = some ty) (hn : narrow ty (.int v) = .int v) (hdg : decode cc pc = .ok (.ireturn, 1)) : W p l e R s m args below meth c H locs 0 0 (MQ below (QW E sh (some (.int v)) σ) args s 0 0 E.2.2.2) (F0 m pc ls [.int v]) :=
  W.zret hC.1 hC.2.1 hr hn (fun t ht hW => ⟨rfl, by rw [ht]; exact hw, hS.F ht⟩) hS.2.2 hdg hlocks
theorem z_vret (hC : Cx p s m args c cc nL own E) (hlocks : meth.locks = false) (hw : World E sh σ H) (hS : va_S E.2.2.2 s.heap H locs) (hr : meth.sig.returnType = none) (hdg : decode cc pc = .ok (.return_, 1)) : W p l e R s m args below meth c H locs 0 0 (MQ below (QW E sh none σ) args s 0 0 E.2.2.2) (F0 m pc ls []) :=
  W.vret hC.1 hC.2.1 hr (fun t ht hW => ⟨rfl, by rw [ht]; exact hw, hS.F ht⟩) hS.2.2 hdg hlocks
theorem z_aret (hC : Cx p s m args c cc nL own E) (hlocks : meth.locks = false) (hw : World E sh σ H) (hS : va_S E.2.2.2 s.heap H locs) {a : Nat} {nm : String} (hr : meth.sig.returnType = some (.object nm)) (hdg : decode cc pc = .ok (.areturn, 1)) : W p l e R s m args below meth c H locs 0 0 (MQ below (QW E sh (some (.ref (E.2.2.1 a))) σ) args s 0 0 E.2.2.2) (F0 m pc ls [.ref (E.2.2.1 a)]) :=
  W.aret hC.1 hC.2.1 hr (Or.inl ⟨nm, rfl⟩) (Or.inr ⟨_, rfl⟩) (fun t ht hW => ⟨rfl, by rw [ht]; exact hw, hS.F ht⟩) hS.2.2 hdg hlocks
end ZWalk
/-- a method's contract out of its walk -/
theorem z_enter {l : Launch} {E : Ev} {sh : Nat → Option Shp} {y : MethodName} {cc : ByteArray} {nL : Nat} {ret : Option FieldType} {rm : Room} {av : List Value} {σ σ' : St} {ov : Option Value} (hy : plainName y.cls = true) (hlen : (lg_sl av).length ≤ nL)
    (body : ∀ (p : Program) (e : Env) (s : State) (m : MethodId) (args : Array Value) (below : List Frame) (meth : Method) (c : Code) (ls : Array Slot), Cx p s m args c cc nL y.cls E → meth.sig.returnType = ret → meth.locks = false → World E sh σ s.heap → va_S E.2.2.2 s.heap s.heap [] → lv_has ls nL (lv_args 0 av) → W p l e rm s m args below meth c s.heap [] 0 0 (MQ below (QW E sh ov σ') args s 0 0 E.2.2.2) (F0 m 0 ls [])) : MM l E sh y cc nL ret rm av σ ov σ' := by
  refine Met.ofW (cc := cc) (maxL := nL) (ret := ret) hy rfl ?_
  intro p e s m args below meth c s₁ B hml hv
  obtain ⟨rfl, hw, hT⟩ := hv
  have hts := atoms_spec (ws := .code y cc nL ret :: WL) B.pre
  rw [lg_entry_eq]
  have hl := lv_entry av (n := nL) hlen
  generalize (lg_sl av ++ List.replicate (nL - (lg_sl av).length) Slot.unset).toArray = ls at hl ⊢
  exact body p e s m _ below meth c ls ⟨B.exec, B.bytes, hml, findClass_of_methodNamed B.named, fun w h => hts w (List.mem_cons_of_mem _ h), hT⟩ B.returns B.notSynchronized hw va_S.rf hl
/-! the pure programs: a value named, a loop with fuel; how a value that came out is taken apart -/
def lt {α β : Type} (e : α) (f : α → β) : β := f e
def loopF {σ ρ : Type} (body : σ → Option (σ ⊕ ρ)) : Nat → σ → Option ρ
  | 0, _ => none
  | n + 1, s => match body s with
    | none => none
    | some (.inl s') => loopF body n s'
    | some (.inr r) => some r
abbrev isB (x : Int32) : Prop := x = 0 ∨ x = 1
abbrev inb (i : Int32) (n : Nat) : Prop := ¬ (i < 0 ∨ n ≤ i.toNatClampNeg)
theorem ok_if {α : Type} {c : Prop} [Decidable c] {A B : Option α} {z : α} (h : (if c then A else B) = some z) : (c → A = some z) ∧ (¬ c → B = some z) := by
  refine ⟨fun q => ?_, fun q => ?_⟩
  · rw [if_pos q] at h; exact h
  · rw [if_neg q] at h; exact h
theorem ok_chk {α : Type} {c : Prop} [Decidable c] {A : Option α} {z : α} (h : (if c then A else none) = some z) : c ∧ A = some z := by
  by_cases q : c
  · rw [if_pos q] at h; exact ⟨q, h⟩
  · rw [if_neg q] at h; cases h
theorem ok_bind {α β : Type} {x : Option α} {k : α → Option β} {z : β} (h : x.bind k = some z) : ∃ v, x = some v ∧ k v = some z := by
  cases x with
  | none => cases h
  | some v => exact ⟨v, rfl, h⟩
theorem ok_lt {α β : Type} {e : α} {f : α → Option β} {z : β} (h : lt e f = some z) : ∃ x, x = e ∧ f x = some z := ⟨e, rfl, h⟩
theorem ok_loop {σ ρ : Type} {body : σ → Option (σ ⊕ ρ)} {n : Nat} {s : σ} {r : ρ} (h : loopF body (n + 1) s = some r) : ∃ x, body s = some x ∧ (∀ s', x = .inl s' → loopF body n s' = some r) ∧ (∀ r', x = .inr r' → r' = r) := by
  unfold loopF at h
  cases hb : body s with
  | none => rw [hb] at h; cases h
  | some x =>
    rw [hb] at h
    refine ⟨x, rfl, ?_, ?_⟩
    · intro s' e; subst e; exact h
    · intro r' e; subst e; exact Option.some.inj h
theorem nz {α : Type} {a : α} {P : Prop} (h : (none : Option α) = some a) : P := by cases h
theorem narB {x : Int32} (h : isB x) : narrow .boolean (.int x) = .int x := by
  rcases h with rfl | rfl <;> decide
theorem fitB {x : Int32} (h : isB x) : fits .boolean (.int x) = true := by
  rcases h with rfl | rfl <;> decide
section ZMore
variable {p : Program} {l : Launch} {e : Env} {R : Room} {s : State} {m : MethodId} {args : Array Value} {below : List Frame} {meth : Method} {c : Code} {H : Heap} {locs : List Loc} {cells slots : Nat} {Q : State → Prop} {E : Ev} {sh : Nat → Option Shp} {σ : St} {pc : Nat} {ls : Array Slot} {rest : List Value} {cc : ByteArray} {nL : Nat} {own : String}
theorem z_nm {x y : Int32} (h : y = x) (k : W p l e R s m args below meth c H locs cells slots Q (F0 m pc ls (.int y :: rest))) : W p l e R s m args below meth c H locs cells slots Q (F0 m pc ls (.int x :: rest)) := h ▸ k
theorem z_nml {x y : Int64} (h : y = x) (k : W p l e R s m args below meth c H locs cells slots Q (F0 m pc ls (.long y :: rest))) : W p l e R s m args below meth c H locs cells slots Q (F0 m pc ls (.long x :: rest)) := h ▸ k
/-- the ends, with what the pure program came to -/
theorem z_iretE (hC : Cx p s m args c cc nL own E) (hlocks : meth.locks = false) (hw : World E sh σ H) (hS : va_S E.2.2.2 s.heap H locs) {v r : Int32} {σ' : St} (hf : some (v, σ) = some (r, σ')) {ty : FieldType} (hr : meth.sig.returnType = some ty) (hn : narrow ty (.int v) = .int v) (hdg : decode cc pc = .ok (.ireturn, 1)) : W p l e R s m args below meth c H locs 0 0 (MQ below (QW E sh (some (.int r)) σ') args s 0 0 E.2.2.2) (F0 m pc ls [.int v]) := by
  cases hf
  exact z_iret hC hlocks hw hS hr hn hdg
theorem z_vretE (hC : Cx p s m args c cc nL own E) (hlocks : meth.locks = false) (hw : World E sh σ H) (hS : va_S E.2.2.2 s.heap H locs) {σ' : St} (hf : some σ = some σ') (hr : meth.sig.returnType = none) (hdg : decode cc pc = .ok (.return_, 1)) : W p l e R s m args below meth c H locs 0 0 (MQ below (QW E sh none σ') args s 0 0 E.2.2.2) (F0 m pc ls []) := by
  cases hf
  exact z_vret hC hlocks hw hS hr hdg
theorem z_aretE (hC : Cx p s m args c cc nL own E) (hlocks : meth.locks = false) (hw : World E sh σ H) (hS : va_S E.2.2.2 s.heap H locs) {a r : Nat} {σ' : St} (hf : some (a, σ) = some (r, σ')) {nm : String} (hr : meth.sig.returnType = some (.object nm)) (hdg : decode cc pc = .ok (.areturn, 1)) : W p l e R s m args below meth c H locs 0 0 (MQ below (QW E sh (some (.ref (E.2.2.1 r))) σ') args s 0 0 E.2.2.2) (F0 m pc ls [.ref (E.2.2.1 a)]) := by
  cases hf
  exact z_aret hC hlocks hw hS hr hdg
end ZMore
def bd {α β γ : Type} (x : Option (α × β)) (k : α → β → Option γ) : Option γ := match x with
  | none => none
  | some (a, b) => k a b
theorem ok_bd {α β γ : Type} {x : Option (α × β)} {k : α → β → Option γ} {z : γ} (h : bd x k = some z) : ∃ a b, x = some (a, b) ∧ k a b = some z := by
  cases x with
  | none => cases h
  | some v => exact ⟨v.1, v.2, rfl, h⟩
def sel {α β γ : Type} (f : α → γ) (g : β → γ) (x : α ⊕ β) : γ := match x with
  | .inl a => f a
  | .inr b => g b
