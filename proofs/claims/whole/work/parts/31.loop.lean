/-! THE CLAIM OUT OF ONE WALK OF THE LAW'S BODY. Your part is whole_start (and what it stands on); all else here is the same for every law, but numbers. -/
def R_law : String := "FuseBoxLaw"
def lw_P (b : Addr) (xs : List Int32) (args : Array Value) (s : State) : Prop := args = #[.ref b] ∧ s.IntsAt b xs ∧ xs.length ≤ 3072 ∧ (Jvm.Cond.and given_1 narrow_1).before args s = true
def lw_Q (_ : Array Value) (s : State) (o : Outcome) (t : State) : Prop := o = .returned (some (.int 1)) ∧ Framed s o t [] 600000 7302250
def lw_Z (below : List Frame) (a : Array Value) (s : State) : State → Prop := fun t => ∃ o, t.status = .running ∧ Ended t below o ∧ lw_Q a s o t
/-- the law's own end, with 1 on the stack, nothing written that was there before, its room as the claim has it -/
theorem lw_ret {p : Program} {l : Launch} {e : Env} {s : State} {m : MethodId} {below : List Frame} {meth : Method} {c : Code} {b : Nat} (hx : p.tables.exec = Jvm.exec) (hb : c.code = code) (hr : meth.sig.returnType = ret) (hlocks : meth.locks = false) {pc : Nat} {H : Heap} {ls : Array Slot} (hdg : decode code pc = .ok (.ireturn, 1)) : W p l e room_1 s m #[Value.ref b] below meth c H [] 600000 7302250 (lw_Z below #[Value.ref b] s) (F0 m pc ls [.int 1]) := by
  intro T hT X
  obtain ⟨fs, hret, hrun, hended, hW, hframe⟩ := X.leave (v := some (.int 1)) (hlocks := hlocks) (fun h => by rw [hr] at h; cases h)
  have hmeth' : T.vm.method? m = some meth := X.method'
  refine ⟨T.setFrames fs, ?_, .returned (some (.int 1)), hrun, hended, rfl, ⟨_, rfl⟩, hW, hframe⟩
  jvm_step X.here [X.here.top, hx, hb, hdg, hmeth', hr, ret, narrow_b1]
  (try refine ⟨rfl, ?_⟩); (try refine ⟨rfl, ?_⟩)
  first | (intro acts; rw [hret _ acts rfl rfl rfl]) | rw [hret _ _ rfl rfl rfl]
  exact Steps.refl _
/-- what holds at the law's entry: the machine, the code, the tables' words (any of lw_tbl by 'hts w (by decide +kernel)'), the script of L ints xs at the cell b, what the Statement gives of the start (any of its parts by flat_of_before) -/
def lw_At (p : Program) (s : State) (m : MethodId) (meth : Method) (c : Code) (b L : Nat) (xs : Nat → Int32) : Prop :=
  p.tables.exec = Jvm.exec ∧ c.code = code ∧ meth.sig.returnType = ret ∧ c.maxLocals = 4 ∧ s.vm.findClass R_law = some m.cls ∧ (∀ w ∈ lw_tbl, w.before #[Value.ref b] s = true) ∧ va_X b L xs s s.heap ∧ b < s.heap.size ∧ meth.locks = false ∧ (Jvm.Cond.and given_1 narrow_1).before #[Value.ref b] s = true
/-! the law: its loop -/
def Step (Inv : St → Prop) (f g : St → Option (Int32 × St)) : Prop := ∀ σ, Inv σ → ∃ r σ1 σ2, f σ = some (r, σ1) ∧ g σ1 = some (r, σ2) ∧ Inv σ2
def AllSteps (Inv : St → Prop) : Prop := (∀ x1 x2 x3 : Int32, Step Inv (f_X11_row x1 x2 x3) (f_X12_row x1 x2 x3)) ∧ (∀ x1 x2 x3 : Int32, Step Inv (f_X11_set x1 x2 x3) (f_X12_set x1 x2 x3)) ∧ (∀ x1 x2 x3 x4 x5 : Int32, Step Inv (f_X11_copy x1 x2 x3 x4 x5) (f_X12_copy x1 x2 x3 x4 x5)) ∧ (∀ x1 : Int32, Step Inv (f_X11_drop x1) (f_X12_drop x1)) ∧ (∀ x1 : Int32, Step Inv (f_X11_feed x1) (f_X12_feed x1)) ∧ (Step Inv (f_X11_house) (f_X12_house)) ∧ (Step Inv (f_X11_fault) (f_X12_fault)) ∧ (∀ x1 : Int32, Step Inv (f_X11_minutes x1) (f_X12_minutes x1)) ∧ (∀ x1 x2 : Int32, Step Inv (f_X11_turn x1 x2) (f_X12_turn x1 x2)) ∧ (∀ x1 x2 : Int32, Step Inv (f_X11_plug x1 x2) (f_X12_plug x1 x2)) ∧ (∀ x1 : Int32, Step Inv (f_X11_mend x1) (f_X12_mend x1)) ∧ (Step Inv (f_X11_mains) (f_X12_mains)) ∧ (∀ x1 x2 : Int32, Step Inv (f_X11_rate x1 x2) (f_X12_rate x1 x2)) ∧ (Step Inv (f_X11_undo) (f_X12_undo)) ∧ (∀ x1 x2 : Int32, Step Inv (f_X11_line x1 x2) (f_X12_line x1 x2)) ∧ (∀ x1 x2 : Int32, Step Inv (f_X11_thing x1 x2) (f_X12_thing x1 x2)) ∧ (∀ x1 x2 : Int32, Step Inv (f_X11_heat x1 x2) (f_X12_heat x1 x2)) ∧ (∀ x1 x2 : Int32, Step Inv (f_X11_later x1 x2) (f_X12_later x1 x2)) ∧ (∀ x1 : Int32, Step Inv (f_X11_lost x1) (f_X12_lost x1)) ∧ (Step Inv (f_X11_dark) (f_X12_dark)) ∧ (∀ x1 x2 x3 : Int32, Step Inv (f_X11_shed x1 x2 x3) (f_X12_shed x1 x2 x3)) ∧ (∀ x1 x2 : Int32, Step Inv (f_X11_plugs x1 x2) (f_X12_plugs x1 x2)) ∧ (∀ x1 x2 : Int32, Step Inv (f_X11_holds x1 x2) (f_X12_holds x1 x2)) ∧ (∀ x1 x2 : Int32, Step Inv (f_X11_faulty x1 x2) (f_X12_faulty x1 x2)) ∧ (∀ x1 x2 : Int32, Step Inv (f_X11_bill x1 x2) (f_X12_bill x1 x2)) ∧ (∀ x1 x2 x3 x4 x5 : Int32, Step Inv (f_X11_fits x1 x2 x3 x4 x5) (f_X12_fits x1 x2 x3 x4 x5)) ∧ (∀ x1 x2 x3 x4 : Int32, Step Inv (f_X11_chance x1 x2 x3 x4) (f_X12_chance x1 x2 x3 x4)) ∧ (∀ x1 x2 x3 : Int32, Step Inv (f_X11_drawn x1 x2 x3) (f_X12_drawn x1 x2 x3)) ∧ (∀ x1 : Int32, Step Inv (f_X11_image x1) (f_X12_image x1)) ∧ (∀ x1 : Int32, Step Inv (f_X11_restore x1) (f_X12_restore x1)) ∧ (∀ x1 : Int32, Step Inv (f_X11_kind x1) (f_X12_kind x1)) ∧ (∀ x1 x2 : Int32, Step Inv (f_X11_as x1 x2) (f_X12_as x1 x2)) ∧ (∀ x1 x2 : Int32, Step Inv (f_X11_ask x1 x2) (f_X12_ask x1 x2)) ∧ (∀ x1 : Int32, Step Inv (f_X11_trace x1) (f_X12_trace x1)) ∧ (∀ x1 : Int32, Step Inv (f_X11_count x1) (f_X12_count x1)) ∧ (Step Inv (f_X11_status) (f_X12_status))
theorem law_in {i j L : Nat} {x : Int32} (hx : x = nI j) (h : i + j < L) (hL : L ≤ 3072) : vp_in (nI i + x) L := by rw [hx, nI_add]; exact vp_in_nI h (by omega)
theorem law_lt {i L : Nat} (hL : L ≤ 3072) (hi : i ≤ L) (h : ¬ nI L - 6 < nI i) : i + 6 ≤ L := by
  rw [Int32.lt_iff_toInt_lt, show (6 : Int32) = nI 6 by decide, pk_sub_toInt (by omega) (by omega), nI_toInt (by omega)] at h
  omega
set_option maxHeartbeats 8000000 in
set_option maxRecDepth 100000 in
theorem law_loop {p : Program} {l : Launch} {e : Env} {s : State} {m : MethodId} {below : List Frame} {meth : Method} {c : Code} {b L : Nat} {xs : Nat → Int32} {E : Ev} (hL : L ≤ 3072) (C0 : lw_At p s m meth c b L xs) (hC : Cx p s m #[Value.ref b] c code 4 "FuseBoxLaw" E) (hbA : ¬ E.2.2.2 b) (hA : ∀ q, E.2.2.2 q → s.heap.size ≤ q) {Inv : St → Prop} (hI : AllSteps Inv) {cells slots : Nat} (hcs : cells + 0 ≤ room_1.cells ∧ slots + 0 ≤ room_1.slots) :
    ∀ (n i : Nat), i ≤ L → L + 1 ≤ i + n → ∀ (σ : St), Inv σ → ∀ (H : Heap) (locs : List Loc) (ls : Array Slot), lv_has ls 4 [(0, .ref b), (1, .ref (E.2.2.1 0)), (2, .ref (E.2.2.1 259)), (3, .int (nI i))] → World E sh2 σ H → va_S E.2.2.2 s.heap H locs → W p l e room_1 s m #[Value.ref b] below meth c H locs cells slots (lw_Z below #[Value.ref b] s) (F0 m 18 ls []) := by
  obtain ⟨hx, hb, hr, hml, hown, hts0, hX, hbl, hlocks, hgv⟩ := id C0
  intro n
  induction n with
  | zero => intro i h1 h2; omega
  | succ n ih =>
    intro i hi hin σ hInv H locs ls hl hw hS
    refine lv_iload_n hx hb dL_law_18 rfl (lv_at hl 3 rfl) ?_
    refine lv_aload_n hx hb dL_law_19 rfl (lv_at hl 0 rfl) ?_
    refine va_slen hx hb hX hbl hbA hS dL_law_20 ?_
    refine lv_bipush (v := 6) hx hb dL_law_21 (by decide) ?_
    refine lv_isub hx hb dL_law_23 ?_
    refine lv_icmp_gt (tgt := 1286) hx hb dL_law_24 (by decide) (fun hcd => ?_) (fun hcd => ?_)
    · refine lv_iconst (v := 1) hx hb dL_law_1286 (by decide) ?_
      refine va_forget (fun q hq => hA _ (hS.2.2 q hq)) ?_
      refine W.widen (k := 600000) (n := 7302250) hcs.1 hcs.2 ?_
      exact lw_ret hx hb hr hlocks dL_law_1287
    have hlt := law_lt hL hi hcd
    have fin : ∀ (σ2 : St), Inv σ2 → ∀ (H : Heap) (locs : List Loc) (ls : Array Slot), lv_has ls 4 [(0, .ref b), (1, .ref (E.2.2.1 0)), (2, .ref (E.2.2.1 259)), (3, .int (nI i))] → World E sh2 σ2 H → va_S E.2.2.2 s.heap H locs → W p l e room_1 s m #[Value.ref b] below meth c H locs cells slots (lw_Z below #[Value.ref b] s) (F0 m 1280 ls []) := by
      intro σ2 hI2 H locs ls hl hw hS
      refine lv_iinc (v := nI (i + 6)) (lv' := [(3, .int (nI (i + 6))), (0, .ref b), (1, .ref (E.2.2.1 0)), (2, .ref (E.2.2.1 259))]) hx hb dL_law_1280 hl (k := 3) rfl (by rw [show Int32.ofInt 6 = nI 6 by decide, nI_add]) (by decide) rfl (fun ls hl => ?_)
      refine lv_goto (tgt := 18) hx hb dL_law_1283 (by decide) ?_
      exact ih (i + 6) (by omega) (by omega) σ2 hI2 _ _ ls (lv_sub hl [1, 2, 3, 0] rfl) hw hS
    refine lv_aload_n hx hb dL_law_27 rfl (lv_at hl 0 rfl) ?_
    refine lv_iload_n hx hb dL_law_28 rfl (lv_at hl 3 rfl) ?_
    refine va_sld hx hb hX hbl hbA hS (vp_in_nI (by omega) (by omega)) dL_law_29 ?_
    refine lv_bipush (v := 63) hx hb dL_law_30 (by decide) ?_
    refine lv_iand hx hb dL_law_32 ?_
    by_cases hk0 : (xs (nI i).toNatClampNeg &&& 63) = 0
    · refine lv_tableIn (off := 159) (tgt := 192) hx hb dL_law_33 (by rw [hk0]; decide) (by rw [hk0]; decide) (by rw [hk0]; rfl) (by decide) ?_
      obtain ⟨r, σ1, σ2, h1, h2, hI2⟩ := hI.1 (xs (nI i + 1).toNatClampNeg) (xs (nI i + 2).toNatClampNeg) (xs (nI i + 3).toNatClampNeg) σ hInv
      refine lv_aload_n hx hb dL_law_192 rfl (lv_at hl 1 rfl) ?_
      refine lv_aload_n hx hb dL_law_193 rfl (lv_at hl 0 rfl) ?_
      refine lv_iload_n hx hb dL_law_194 rfl (lv_at hl 3 rfl) ?_
      refine lv_iconst (v := 1) hx hb dL_law_195 (by decide) ?_
      refine lv_iadd hx hb dL_law_196 ?_
      refine va_sld hx hb hX hbl hbA hS (law_in (j := 1) (by decide) (by omega) hL) dL_law_197 ?_
      refine lv_aload_n hx hb dL_law_198 rfl (lv_at hl 0 rfl) ?_
      refine lv_iload_n hx hb dL_law_199 rfl (lv_at hl 3 rfl) ?_
      refine lv_iconst (v := 2) hx hb dL_law_200 (by decide) ?_
      refine lv_iadd hx hb dL_law_201 ?_
      refine va_sld hx hb hX hbl hbA hS (law_in (j := 2) (by decide) (by omega) hL) dL_law_202 ?_
      refine lv_aload_n hx hb dL_law_203 rfl (lv_at hl 0 rfl) ?_
      refine lv_iload_n hx hb dL_law_204 rfl (lv_at hl 3 rfl) ?_
      refine lv_iconst (v := 3) hx hb dL_law_205 (by decide) ?_
      refine lv_iadd hx hb dL_law_206 ?_
      refine va_sld hx hb hX hbl hbA hS (law_in (j := 3) (by decide) (by omega) hL) dL_law_207 ?_
      refine z_cV hC hl.1 hw hS (As := [.int (xs (nI i + 1).toNatClampNeg), .int (xs (nI i + 2).toNatClampNeg), .int (xs (nI i + 3).toNatClampNeg)]) (rest := []) (a := 0) (m_X11_row l E h1) (ci := 10) (ks := ksX) rfl rfl gc318 gc319 ⟨(Nat.le_of_ble_eq_true rfl), (Nat.le_of_ble_eq_true rfl)⟩ ⟨hcs.1, hcs.2⟩ rfl rfl (Nat.le_of_ble_eq_true rfl) dL_law_208 (fun H locs hw hS => ?_)
      refine lv_aload_n hx hb dL_law_211 rfl (lv_at hl 2 rfl) ?_
      refine lv_aload_n hx hb dL_law_212 rfl (lv_at hl 0 rfl) ?_
      refine lv_iload_n hx hb dL_law_213 rfl (lv_at hl 3 rfl) ?_
      refine lv_iconst (v := 1) hx hb dL_law_214 (by decide) ?_
      refine lv_iadd hx hb dL_law_215 ?_
      refine va_sld hx hb hX hbl hbA hS (law_in (j := 1) (by decide) (by omega) hL) dL_law_216 ?_
      refine lv_aload_n hx hb dL_law_217 rfl (lv_at hl 0 rfl) ?_
      refine lv_iload_n hx hb dL_law_218 rfl (lv_at hl 3 rfl) ?_
      refine lv_iconst (v := 2) hx hb dL_law_219 (by decide) ?_
      refine lv_iadd hx hb dL_law_220 ?_
      refine va_sld hx hb hX hbl hbA hS (law_in (j := 2) (by decide) (by omega) hL) dL_law_221 ?_
      refine lv_aload_n hx hb dL_law_222 rfl (lv_at hl 0 rfl) ?_
      refine lv_iload_n hx hb dL_law_223 rfl (lv_at hl 3 rfl) ?_
      refine lv_iconst (v := 3) hx hb dL_law_224 (by decide) ?_
      refine lv_iadd hx hb dL_law_225 ?_
      refine va_sld hx hb hX hbl hbA hS (law_in (j := 3) (by decide) (by omega) hL) dL_law_226 ?_
      refine z_cV hC hl.1 hw hS (As := [.int (xs (nI i + 1).toNatClampNeg), .int (xs (nI i + 2).toNatClampNeg), .int (xs (nI i + 3).toNatClampNeg)]) (rest := [.int r]) (a := 259) (m_X12_row l E h2) (ci := 11) (ks := ksM) rfl rfl gc320 gc321 ⟨(Nat.le_of_ble_eq_true rfl), (Nat.le_of_ble_eq_true rfl)⟩ ⟨hcs.1, hcs.2⟩ rfl rfl (Nat.le_of_ble_eq_true rfl) dL_law_227 (fun H locs hw hS => ?_)
      exact lv_icmp_eq (tgt := 1280) hx hb dL_law_230 (by decide) (fun _ => fin σ2 hI2 _ _ ls hl hw hS) (fun hq => absurd rfl hq)
    by_cases hk1 : (xs (nI i).toNatClampNeg &&& 63) = 1
    · refine lv_tableIn (off := 202) (tgt := 235) hx hb dL_law_33 (by rw [hk1]; decide) (by rw [hk1]; decide) (by rw [hk1]; rfl) (by decide) ?_
      obtain ⟨r, σ1, σ2, h1, h2, hI2⟩ := hI.2.1 (xs (nI i + 1).toNatClampNeg) (xs (nI i + 2).toNatClampNeg) (xs (nI i + 3).toNatClampNeg) σ hInv
      refine lv_aload_n hx hb dL_law_235 rfl (lv_at hl 1 rfl) ?_
      refine lv_aload_n hx hb dL_law_236 rfl (lv_at hl 0 rfl) ?_
      refine lv_iload_n hx hb dL_law_237 rfl (lv_at hl 3 rfl) ?_
      refine lv_iconst (v := 1) hx hb dL_law_238 (by decide) ?_
      refine lv_iadd hx hb dL_law_239 ?_
      refine va_sld hx hb hX hbl hbA hS (law_in (j := 1) (by decide) (by omega) hL) dL_law_240 ?_
      refine lv_aload_n hx hb dL_law_241 rfl (lv_at hl 0 rfl) ?_
      refine lv_iload_n hx hb dL_law_242 rfl (lv_at hl 3 rfl) ?_
      refine lv_iconst (v := 2) hx hb dL_law_243 (by decide) ?_
      refine lv_iadd hx hb dL_law_244 ?_
      refine va_sld hx hb hX hbl hbA hS (law_in (j := 2) (by decide) (by omega) hL) dL_law_245 ?_
      refine lv_aload_n hx hb dL_law_246 rfl (lv_at hl 0 rfl) ?_
      refine lv_iload_n hx hb dL_law_247 rfl (lv_at hl 3 rfl) ?_
      refine lv_iconst (v := 3) hx hb dL_law_248 (by decide) ?_
      refine lv_iadd hx hb dL_law_249 ?_
      refine va_sld hx hb hX hbl hbA hS (law_in (j := 3) (by decide) (by omega) hL) dL_law_250 ?_
      refine z_cV hC hl.1 hw hS (As := [.int (xs (nI i + 1).toNatClampNeg), .int (xs (nI i + 2).toNatClampNeg), .int (xs (nI i + 3).toNatClampNeg)]) (rest := []) (a := 0) (m_X11_set l E h1) (ci := 10) (ks := ksX) rfl rfl gc322 gc323 ⟨(Nat.le_of_ble_eq_true rfl), (Nat.le_of_ble_eq_true rfl)⟩ ⟨hcs.1, hcs.2⟩ rfl rfl (Nat.le_of_ble_eq_true rfl) dL_law_251 (fun H locs hw hS => ?_)
      refine lv_aload_n hx hb dL_law_254 rfl (lv_at hl 2 rfl) ?_
      refine lv_aload_n hx hb dL_law_255 rfl (lv_at hl 0 rfl) ?_
      refine lv_iload_n hx hb dL_law_256 rfl (lv_at hl 3 rfl) ?_
      refine lv_iconst (v := 1) hx hb dL_law_257 (by decide) ?_
      refine lv_iadd hx hb dL_law_258 ?_
      refine va_sld hx hb hX hbl hbA hS (law_in (j := 1) (by decide) (by omega) hL) dL_law_259 ?_
      refine lv_aload_n hx hb dL_law_260 rfl (lv_at hl 0 rfl) ?_
      refine lv_iload_n hx hb dL_law_261 rfl (lv_at hl 3 rfl) ?_
      refine lv_iconst (v := 2) hx hb dL_law_262 (by decide) ?_
      refine lv_iadd hx hb dL_law_263 ?_
      refine va_sld hx hb hX hbl hbA hS (law_in (j := 2) (by decide) (by omega) hL) dL_law_264 ?_
      refine lv_aload_n hx hb dL_law_265 rfl (lv_at hl 0 rfl) ?_
      refine lv_iload_n hx hb dL_law_266 rfl (lv_at hl 3 rfl) ?_
      refine lv_iconst (v := 3) hx hb dL_law_267 (by decide) ?_
      refine lv_iadd hx hb dL_law_268 ?_
      refine va_sld hx hb hX hbl hbA hS (law_in (j := 3) (by decide) (by omega) hL) dL_law_269 ?_
      refine z_cV hC hl.1 hw hS (As := [.int (xs (nI i + 1).toNatClampNeg), .int (xs (nI i + 2).toNatClampNeg), .int (xs (nI i + 3).toNatClampNeg)]) (rest := [.int r]) (a := 259) (m_X12_set l E h2) (ci := 11) (ks := ksM) rfl rfl gc324 gc325 ⟨(Nat.le_of_ble_eq_true rfl), (Nat.le_of_ble_eq_true rfl)⟩ ⟨hcs.1, hcs.2⟩ rfl rfl (Nat.le_of_ble_eq_true rfl) dL_law_270 (fun H locs hw hS => ?_)
      exact lv_icmp_eq (tgt := 1280) hx hb dL_law_273 (by decide) (fun _ => fin σ2 hI2 _ _ ls hl hw hS) (fun hq => absurd rfl hq)
    by_cases hk2 : (xs (nI i).toNatClampNeg &&& 63) = 2
    · refine lv_tableIn (off := 245) (tgt := 278) hx hb dL_law_33 (by rw [hk2]; decide) (by rw [hk2]; decide) (by rw [hk2]; rfl) (by decide) ?_
      obtain ⟨r, σ1, σ2, h1, h2, hI2⟩ := hI.2.2.1 (xs (nI i + 1).toNatClampNeg) (xs (nI i + 2).toNatClampNeg) (xs (nI i + 3).toNatClampNeg) (xs (nI i + 4).toNatClampNeg) (xs (nI i + 5).toNatClampNeg) σ hInv
      refine lv_aload_n hx hb dL_law_278 rfl (lv_at hl 1 rfl) ?_
      refine lv_aload_n hx hb dL_law_279 rfl (lv_at hl 0 rfl) ?_
      refine lv_iload_n hx hb dL_law_280 rfl (lv_at hl 3 rfl) ?_
      refine lv_iconst (v := 1) hx hb dL_law_281 (by decide) ?_
      refine lv_iadd hx hb dL_law_282 ?_
      refine va_sld hx hb hX hbl hbA hS (law_in (j := 1) (by decide) (by omega) hL) dL_law_283 ?_
      refine lv_aload_n hx hb dL_law_284 rfl (lv_at hl 0 rfl) ?_
      refine lv_iload_n hx hb dL_law_285 rfl (lv_at hl 3 rfl) ?_
      refine lv_iconst (v := 2) hx hb dL_law_286 (by decide) ?_
      refine lv_iadd hx hb dL_law_287 ?_
      refine va_sld hx hb hX hbl hbA hS (law_in (j := 2) (by decide) (by omega) hL) dL_law_288 ?_
      refine lv_aload_n hx hb dL_law_289 rfl (lv_at hl 0 rfl) ?_
      refine lv_iload_n hx hb dL_law_290 rfl (lv_at hl 3 rfl) ?_
      refine lv_iconst (v := 3) hx hb dL_law_291 (by decide) ?_
      refine lv_iadd hx hb dL_law_292 ?_
      refine va_sld hx hb hX hbl hbA hS (law_in (j := 3) (by decide) (by omega) hL) dL_law_293 ?_
      refine lv_aload_n hx hb dL_law_294 rfl (lv_at hl 0 rfl) ?_
      refine lv_iload_n hx hb dL_law_295 rfl (lv_at hl 3 rfl) ?_
      refine lv_iconst (v := 4) hx hb dL_law_296 (by decide) ?_
      refine lv_iadd hx hb dL_law_297 ?_
      refine va_sld hx hb hX hbl hbA hS (law_in (j := 4) (by decide) (by omega) hL) dL_law_298 ?_
      refine lv_aload_n hx hb dL_law_299 rfl (lv_at hl 0 rfl) ?_
      refine lv_iload_n hx hb dL_law_300 rfl (lv_at hl 3 rfl) ?_
      refine lv_iconst (v := 5) hx hb dL_law_301 (by decide) ?_
      refine lv_iadd hx hb dL_law_302 ?_
      refine va_sld hx hb hX hbl hbA hS (law_in (j := 5) (by decide) (by omega) hL) dL_law_303 ?_
      refine z_cV hC hl.1 hw hS (As := [.int (xs (nI i + 1).toNatClampNeg), .int (xs (nI i + 2).toNatClampNeg), .int (xs (nI i + 3).toNatClampNeg), .int (xs (nI i + 4).toNatClampNeg), .int (xs (nI i + 5).toNatClampNeg)]) (rest := []) (a := 0) (m_X11_copy l E h1) (ci := 10) (ks := ksX) rfl rfl gc326 gc327 ⟨(Nat.le_of_ble_eq_true rfl), (Nat.le_of_ble_eq_true rfl)⟩ ⟨hcs.1, hcs.2⟩ rfl rfl (Nat.le_of_ble_eq_true rfl) dL_law_304 (fun H locs hw hS => ?_)
      refine lv_aload_n hx hb dL_law_307 rfl (lv_at hl 2 rfl) ?_
      refine lv_aload_n hx hb dL_law_308 rfl (lv_at hl 0 rfl) ?_
      refine lv_iload_n hx hb dL_law_309 rfl (lv_at hl 3 rfl) ?_
      refine lv_iconst (v := 1) hx hb dL_law_310 (by decide) ?_
      refine lv_iadd hx hb dL_law_311 ?_
      refine va_sld hx hb hX hbl hbA hS (law_in (j := 1) (by decide) (by omega) hL) dL_law_312 ?_
      refine lv_aload_n hx hb dL_law_313 rfl (lv_at hl 0 rfl) ?_
      refine lv_iload_n hx hb dL_law_314 rfl (lv_at hl 3 rfl) ?_
      refine lv_iconst (v := 2) hx hb dL_law_315 (by decide) ?_
      refine lv_iadd hx hb dL_law_316 ?_
      refine va_sld hx hb hX hbl hbA hS (law_in (j := 2) (by decide) (by omega) hL) dL_law_317 ?_
      refine lv_aload_n hx hb dL_law_318 rfl (lv_at hl 0 rfl) ?_
      refine lv_iload_n hx hb dL_law_319 rfl (lv_at hl 3 rfl) ?_
      refine lv_iconst (v := 3) hx hb dL_law_320 (by decide) ?_
      refine lv_iadd hx hb dL_law_321 ?_
      refine va_sld hx hb hX hbl hbA hS (law_in (j := 3) (by decide) (by omega) hL) dL_law_322 ?_
      refine lv_aload_n hx hb dL_law_323 rfl (lv_at hl 0 rfl) ?_
      refine lv_iload_n hx hb dL_law_324 rfl (lv_at hl 3 rfl) ?_
      refine lv_iconst (v := 4) hx hb dL_law_325 (by decide) ?_
      refine lv_iadd hx hb dL_law_326 ?_
      refine va_sld hx hb hX hbl hbA hS (law_in (j := 4) (by decide) (by omega) hL) dL_law_327 ?_
      refine lv_aload_n hx hb dL_law_328 rfl (lv_at hl 0 rfl) ?_
      refine lv_iload_n hx hb dL_law_329 rfl (lv_at hl 3 rfl) ?_
      refine lv_iconst (v := 5) hx hb dL_law_330 (by decide) ?_
      refine lv_iadd hx hb dL_law_331 ?_
      refine va_sld hx hb hX hbl hbA hS (law_in (j := 5) (by decide) (by omega) hL) dL_law_332 ?_
      refine z_cV hC hl.1 hw hS (As := [.int (xs (nI i + 1).toNatClampNeg), .int (xs (nI i + 2).toNatClampNeg), .int (xs (nI i + 3).toNatClampNeg), .int (xs (nI i + 4).toNatClampNeg), .int (xs (nI i + 5).toNatClampNeg)]) (rest := [.int r]) (a := 259) (m_X12_copy l E h2) (ci := 11) (ks := ksM) rfl rfl gc328 gc329 ⟨(Nat.le_of_ble_eq_true rfl), (Nat.le_of_ble_eq_true rfl)⟩ ⟨hcs.1, hcs.2⟩ rfl rfl (Nat.le_of_ble_eq_true rfl) dL_law_333 (fun H locs hw hS => ?_)
      exact lv_icmp_eq (tgt := 1280) hx hb dL_law_336 (by decide) (fun _ => fin σ2 hI2 _ _ ls hl hw hS) (fun hq => absurd rfl hq)
    by_cases hk3 : (xs (nI i).toNatClampNeg &&& 63) = 3
    · refine lv_tableIn (off := 308) (tgt := 341) hx hb dL_law_33 (by rw [hk3]; decide) (by rw [hk3]; decide) (by rw [hk3]; rfl) (by decide) ?_
      obtain ⟨r, σ1, σ2, h1, h2, hI2⟩ := hI.2.2.2.1 (xs (nI i + 1).toNatClampNeg) σ hInv
      refine lv_aload_n hx hb dL_law_341 rfl (lv_at hl 1 rfl) ?_
      refine lv_aload_n hx hb dL_law_342 rfl (lv_at hl 0 rfl) ?_
      refine lv_iload_n hx hb dL_law_343 rfl (lv_at hl 3 rfl) ?_
      refine lv_iconst (v := 1) hx hb dL_law_344 (by decide) ?_
      refine lv_iadd hx hb dL_law_345 ?_
      refine va_sld hx hb hX hbl hbA hS (law_in (j := 1) (by decide) (by omega) hL) dL_law_346 ?_
      refine z_cV hC hl.1 hw hS (As := [.int (xs (nI i + 1).toNatClampNeg)]) (rest := []) (a := 0) (m_X11_drop l E h1) (ci := 10) (ks := ksX) rfl rfl gc330 gc331 ⟨(Nat.le_of_ble_eq_true rfl), (Nat.le_of_ble_eq_true rfl)⟩ ⟨hcs.1, hcs.2⟩ rfl rfl (Nat.le_of_ble_eq_true rfl) dL_law_347 (fun H locs hw hS => ?_)
      refine lv_aload_n hx hb dL_law_350 rfl (lv_at hl 2 rfl) ?_
      refine lv_aload_n hx hb dL_law_351 rfl (lv_at hl 0 rfl) ?_
      refine lv_iload_n hx hb dL_law_352 rfl (lv_at hl 3 rfl) ?_
      refine lv_iconst (v := 1) hx hb dL_law_353 (by decide) ?_
      refine lv_iadd hx hb dL_law_354 ?_
      refine va_sld hx hb hX hbl hbA hS (law_in (j := 1) (by decide) (by omega) hL) dL_law_355 ?_
      refine z_cV hC hl.1 hw hS (As := [.int (xs (nI i + 1).toNatClampNeg)]) (rest := [.int r]) (a := 259) (m_X12_drop l E h2) (ci := 11) (ks := ksM) rfl rfl gc332 gc333 ⟨(Nat.le_of_ble_eq_true rfl), (Nat.le_of_ble_eq_true rfl)⟩ ⟨hcs.1, hcs.2⟩ rfl rfl (Nat.le_of_ble_eq_true rfl) dL_law_356 (fun H locs hw hS => ?_)
      exact lv_icmp_eq (tgt := 1280) hx hb dL_law_359 (by decide) (fun _ => fin σ2 hI2 _ _ ls hl hw hS) (fun hq => absurd rfl hq)
    by_cases hk4 : (xs (nI i).toNatClampNeg &&& 63) = 4
    · refine lv_tableIn (off := 331) (tgt := 364) hx hb dL_law_33 (by rw [hk4]; decide) (by rw [hk4]; decide) (by rw [hk4]; rfl) (by decide) ?_
      obtain ⟨r, σ1, σ2, h1, h2, hI2⟩ := hI.2.2.2.2.1 (xs (nI i + 1).toNatClampNeg) σ hInv
      refine lv_aload_n hx hb dL_law_364 rfl (lv_at hl 1 rfl) ?_
      refine lv_aload_n hx hb dL_law_365 rfl (lv_at hl 0 rfl) ?_
      refine lv_iload_n hx hb dL_law_366 rfl (lv_at hl 3 rfl) ?_
      refine lv_iconst (v := 1) hx hb dL_law_367 (by decide) ?_
      refine lv_iadd hx hb dL_law_368 ?_
      refine va_sld hx hb hX hbl hbA hS (law_in (j := 1) (by decide) (by omega) hL) dL_law_369 ?_
      refine z_cV hC hl.1 hw hS (As := [.int (xs (nI i + 1).toNatClampNeg)]) (rest := []) (a := 0) (m_X11_feed l E h1) (ci := 10) (ks := ksX) rfl rfl gc334 gc335 ⟨(Nat.le_of_ble_eq_true rfl), (Nat.le_of_ble_eq_true rfl)⟩ ⟨hcs.1, hcs.2⟩ rfl rfl (Nat.le_of_ble_eq_true rfl) dL_law_370 (fun H locs hw hS => ?_)
      refine lv_aload_n hx hb dL_law_373 rfl (lv_at hl 2 rfl) ?_
      refine lv_aload_n hx hb dL_law_374 rfl (lv_at hl 0 rfl) ?_
      refine lv_iload_n hx hb dL_law_375 rfl (lv_at hl 3 rfl) ?_
      refine lv_iconst (v := 1) hx hb dL_law_376 (by decide) ?_
      refine lv_iadd hx hb dL_law_377 ?_
      refine va_sld hx hb hX hbl hbA hS (law_in (j := 1) (by decide) (by omega) hL) dL_law_378 ?_
      refine z_cV hC hl.1 hw hS (As := [.int (xs (nI i + 1).toNatClampNeg)]) (rest := [.int r]) (a := 259) (m_X12_feed l E h2) (ci := 11) (ks := ksM) rfl rfl gc336 gc337 ⟨(Nat.le_of_ble_eq_true rfl), (Nat.le_of_ble_eq_true rfl)⟩ ⟨hcs.1, hcs.2⟩ rfl rfl (Nat.le_of_ble_eq_true rfl) dL_law_379 (fun H locs hw hS => ?_)
      exact lv_icmp_eq (tgt := 1280) hx hb dL_law_382 (by decide) (fun _ => fin σ2 hI2 _ _ ls hl hw hS) (fun hq => absurd rfl hq)
    by_cases hk5 : (xs (nI i).toNatClampNeg &&& 63) = 5
    · refine lv_tableIn (off := 354) (tgt := 387) hx hb dL_law_33 (by rw [hk5]; decide) (by rw [hk5]; decide) (by rw [hk5]; rfl) (by decide) ?_
      obtain ⟨r, σ1, σ2, h1, h2, hI2⟩ := hI.2.2.2.2.2.1 σ hInv
      refine lv_aload_n hx hb dL_law_387 rfl (lv_at hl 1 rfl) ?_
      refine z_cV hC hl.1 hw hS (As := []) (rest := []) (a := 0) (m_X11_house l E h1) (ci := 10) (ks := ksX) rfl rfl gc338 gc339 ⟨(Nat.le_of_ble_eq_true rfl), (Nat.le_of_ble_eq_true rfl)⟩ ⟨hcs.1, hcs.2⟩ rfl rfl (Nat.le_of_ble_eq_true rfl) dL_law_388 (fun H locs hw hS => ?_)
      refine lv_aload_n hx hb dL_law_391 rfl (lv_at hl 2 rfl) ?_
      refine z_cV hC hl.1 hw hS (As := []) (rest := [.int r]) (a := 259) (m_X12_house l E h2) (ci := 11) (ks := ksM) rfl rfl gc340 gc341 ⟨(Nat.le_of_ble_eq_true rfl), (Nat.le_of_ble_eq_true rfl)⟩ ⟨hcs.1, hcs.2⟩ rfl rfl (Nat.le_of_ble_eq_true rfl) dL_law_392 (fun H locs hw hS => ?_)
      exact lv_icmp_eq (tgt := 1280) hx hb dL_law_395 (by decide) (fun _ => fin σ2 hI2 _ _ ls hl hw hS) (fun hq => absurd rfl hq)
    by_cases hk6 : (xs (nI i).toNatClampNeg &&& 63) = 6
    · refine lv_tableIn (off := 367) (tgt := 400) hx hb dL_law_33 (by rw [hk6]; decide) (by rw [hk6]; decide) (by rw [hk6]; rfl) (by decide) ?_
      obtain ⟨r, σ1, σ2, h1, h2, hI2⟩ := hI.2.2.2.2.2.2.1 σ hInv
      refine lv_aload_n hx hb dL_law_400 rfl (lv_at hl 1 rfl) ?_
      refine z_cV hC hl.1 hw hS (As := []) (rest := []) (a := 0) (m_X11_fault l E h1) (ci := 10) (ks := ksX) rfl rfl gc342 gc343 ⟨(Nat.le_of_ble_eq_true rfl), (Nat.le_of_ble_eq_true rfl)⟩ ⟨hcs.1, hcs.2⟩ rfl rfl (Nat.le_of_ble_eq_true rfl) dL_law_401 (fun H locs hw hS => ?_)
      refine lv_aload_n hx hb dL_law_404 rfl (lv_at hl 2 rfl) ?_
      refine z_cV hC hl.1 hw hS (As := []) (rest := [.int r]) (a := 259) (m_X12_fault l E h2) (ci := 11) (ks := ksM) rfl rfl gc344 gc345 ⟨(Nat.le_of_ble_eq_true rfl), (Nat.le_of_ble_eq_true rfl)⟩ ⟨hcs.1, hcs.2⟩ rfl rfl (Nat.le_of_ble_eq_true rfl) dL_law_405 (fun H locs hw hS => ?_)
      exact lv_icmp_eq (tgt := 1280) hx hb dL_law_408 (by decide) (fun _ => fin σ2 hI2 _ _ ls hl hw hS) (fun hq => absurd rfl hq)
    by_cases hk7 : (xs (nI i).toNatClampNeg &&& 63) = 7
    · refine lv_tableIn (off := 380) (tgt := 413) hx hb dL_law_33 (by rw [hk7]; decide) (by rw [hk7]; decide) (by rw [hk7]; rfl) (by decide) ?_
      obtain ⟨r, σ1, σ2, h1, h2, hI2⟩ := hI.2.2.2.2.2.2.2.1 (xs (nI i + 1).toNatClampNeg) σ hInv
      refine lv_aload_n hx hb dL_law_413 rfl (lv_at hl 1 rfl) ?_
      refine lv_aload_n hx hb dL_law_414 rfl (lv_at hl 0 rfl) ?_
      refine lv_iload_n hx hb dL_law_415 rfl (lv_at hl 3 rfl) ?_
      refine lv_iconst (v := 1) hx hb dL_law_416 (by decide) ?_
      refine lv_iadd hx hb dL_law_417 ?_
      refine va_sld hx hb hX hbl hbA hS (law_in (j := 1) (by decide) (by omega) hL) dL_law_418 ?_
      refine z_cV hC hl.1 hw hS (As := [.int (xs (nI i + 1).toNatClampNeg)]) (rest := []) (a := 0) (m_X11_minutes l E h1) (ci := 10) (ks := ksX) rfl rfl gc346 gc347 ⟨(Nat.le_of_ble_eq_true rfl), (Nat.le_of_ble_eq_true rfl)⟩ ⟨hcs.1, hcs.2⟩ rfl rfl (Nat.le_of_ble_eq_true rfl) dL_law_419 (fun H locs hw hS => ?_)
      refine lv_aload_n hx hb dL_law_422 rfl (lv_at hl 2 rfl) ?_
      refine lv_aload_n hx hb dL_law_423 rfl (lv_at hl 0 rfl) ?_
      refine lv_iload_n hx hb dL_law_424 rfl (lv_at hl 3 rfl) ?_
      refine lv_iconst (v := 1) hx hb dL_law_425 (by decide) ?_
      refine lv_iadd hx hb dL_law_426 ?_
      refine va_sld hx hb hX hbl hbA hS (law_in (j := 1) (by decide) (by omega) hL) dL_law_427 ?_
      refine z_cV hC hl.1 hw hS (As := [.int (xs (nI i + 1).toNatClampNeg)]) (rest := [.int r]) (a := 259) (m_X12_minutes l E h2) (ci := 11) (ks := ksM) rfl rfl gc348 gc349 ⟨(Nat.le_of_ble_eq_true rfl), (Nat.le_of_ble_eq_true rfl)⟩ ⟨hcs.1, hcs.2⟩ rfl rfl (Nat.le_of_ble_eq_true rfl) dL_law_428 (fun H locs hw hS => ?_)
      exact lv_icmp_eq (tgt := 1280) hx hb dL_law_431 (by decide) (fun _ => fin σ2 hI2 _ _ ls hl hw hS) (fun hq => absurd rfl hq)
    by_cases hk8 : (xs (nI i).toNatClampNeg &&& 63) = 8
    · refine lv_tableIn (off := 403) (tgt := 436) hx hb dL_law_33 (by rw [hk8]; decide) (by rw [hk8]; decide) (by rw [hk8]; rfl) (by decide) ?_
      obtain ⟨r, σ1, σ2, h1, h2, hI2⟩ := hI.2.2.2.2.2.2.2.2.1 (xs (nI i + 1).toNatClampNeg) (xs (nI i + 2).toNatClampNeg) σ hInv
      refine lv_aload_n hx hb dL_law_436 rfl (lv_at hl 1 rfl) ?_
      refine lv_aload_n hx hb dL_law_437 rfl (lv_at hl 0 rfl) ?_
      refine lv_iload_n hx hb dL_law_438 rfl (lv_at hl 3 rfl) ?_
      refine lv_iconst (v := 1) hx hb dL_law_439 (by decide) ?_
      refine lv_iadd hx hb dL_law_440 ?_
      refine va_sld hx hb hX hbl hbA hS (law_in (j := 1) (by decide) (by omega) hL) dL_law_441 ?_
      refine lv_aload_n hx hb dL_law_442 rfl (lv_at hl 0 rfl) ?_
      refine lv_iload_n hx hb dL_law_443 rfl (lv_at hl 3 rfl) ?_
      refine lv_iconst (v := 2) hx hb dL_law_444 (by decide) ?_
      refine lv_iadd hx hb dL_law_445 ?_
      refine va_sld hx hb hX hbl hbA hS (law_in (j := 2) (by decide) (by omega) hL) dL_law_446 ?_
      refine z_cV hC hl.1 hw hS (As := [.int (xs (nI i + 1).toNatClampNeg), .int (xs (nI i + 2).toNatClampNeg)]) (rest := []) (a := 0) (m_X11_turn l E h1) (ci := 10) (ks := ksX) rfl rfl gc350 gc351 ⟨(Nat.le_of_ble_eq_true rfl), (Nat.le_of_ble_eq_true rfl)⟩ ⟨hcs.1, hcs.2⟩ rfl rfl (Nat.le_of_ble_eq_true rfl) dL_law_447 (fun H locs hw hS => ?_)
      refine lv_aload_n hx hb dL_law_450 rfl (lv_at hl 2 rfl) ?_
      refine lv_aload_n hx hb dL_law_451 rfl (lv_at hl 0 rfl) ?_
      refine lv_iload_n hx hb dL_law_452 rfl (lv_at hl 3 rfl) ?_
      refine lv_iconst (v := 1) hx hb dL_law_453 (by decide) ?_
      refine lv_iadd hx hb dL_law_454 ?_
      refine va_sld hx hb hX hbl hbA hS (law_in (j := 1) (by decide) (by omega) hL) dL_law_455 ?_
      refine lv_aload_n hx hb dL_law_456 rfl (lv_at hl 0 rfl) ?_
      refine lv_iload_n hx hb dL_law_457 rfl (lv_at hl 3 rfl) ?_
      refine lv_iconst (v := 2) hx hb dL_law_458 (by decide) ?_
      refine lv_iadd hx hb dL_law_459 ?_
      refine va_sld hx hb hX hbl hbA hS (law_in (j := 2) (by decide) (by omega) hL) dL_law_460 ?_
      refine z_cV hC hl.1 hw hS (As := [.int (xs (nI i + 1).toNatClampNeg), .int (xs (nI i + 2).toNatClampNeg)]) (rest := [.int r]) (a := 259) (m_X12_turn l E h2) (ci := 11) (ks := ksM) rfl rfl gc352 gc353 ⟨(Nat.le_of_ble_eq_true rfl), (Nat.le_of_ble_eq_true rfl)⟩ ⟨hcs.1, hcs.2⟩ rfl rfl (Nat.le_of_ble_eq_true rfl) dL_law_461 (fun H locs hw hS => ?_)
      exact lv_icmp_eq (tgt := 1280) hx hb dL_law_464 (by decide) (fun _ => fin σ2 hI2 _ _ ls hl hw hS) (fun hq => absurd rfl hq)
    by_cases hk9 : (xs (nI i).toNatClampNeg &&& 63) = 9
    · refine lv_tableIn (off := 436) (tgt := 469) hx hb dL_law_33 (by rw [hk9]; decide) (by rw [hk9]; decide) (by rw [hk9]; rfl) (by decide) ?_
      obtain ⟨r, σ1, σ2, h1, h2, hI2⟩ := hI.2.2.2.2.2.2.2.2.2.1 (xs (nI i + 1).toNatClampNeg) (xs (nI i + 2).toNatClampNeg) σ hInv
      refine lv_aload_n hx hb dL_law_469 rfl (lv_at hl 1 rfl) ?_
      refine lv_aload_n hx hb dL_law_470 rfl (lv_at hl 0 rfl) ?_
      refine lv_iload_n hx hb dL_law_471 rfl (lv_at hl 3 rfl) ?_
      refine lv_iconst (v := 1) hx hb dL_law_472 (by decide) ?_
      refine lv_iadd hx hb dL_law_473 ?_
      refine va_sld hx hb hX hbl hbA hS (law_in (j := 1) (by decide) (by omega) hL) dL_law_474 ?_
      refine lv_aload_n hx hb dL_law_475 rfl (lv_at hl 0 rfl) ?_
      refine lv_iload_n hx hb dL_law_476 rfl (lv_at hl 3 rfl) ?_
      refine lv_iconst (v := 2) hx hb dL_law_477 (by decide) ?_
      refine lv_iadd hx hb dL_law_478 ?_
      refine va_sld hx hb hX hbl hbA hS (law_in (j := 2) (by decide) (by omega) hL) dL_law_479 ?_
      refine z_cV hC hl.1 hw hS (As := [.int (xs (nI i + 1).toNatClampNeg), .int (xs (nI i + 2).toNatClampNeg)]) (rest := []) (a := 0) (m_X11_plug l E h1) (ci := 10) (ks := ksX) rfl rfl gc354 gc355 ⟨(Nat.le_of_ble_eq_true rfl), (Nat.le_of_ble_eq_true rfl)⟩ ⟨hcs.1, hcs.2⟩ rfl rfl (Nat.le_of_ble_eq_true rfl) dL_law_480 (fun H locs hw hS => ?_)
      refine lv_aload_n hx hb dL_law_483 rfl (lv_at hl 2 rfl) ?_
      refine lv_aload_n hx hb dL_law_484 rfl (lv_at hl 0 rfl) ?_
      refine lv_iload_n hx hb dL_law_485 rfl (lv_at hl 3 rfl) ?_
      refine lv_iconst (v := 1) hx hb dL_law_486 (by decide) ?_
      refine lv_iadd hx hb dL_law_487 ?_
      refine va_sld hx hb hX hbl hbA hS (law_in (j := 1) (by decide) (by omega) hL) dL_law_488 ?_
      refine lv_aload_n hx hb dL_law_489 rfl (lv_at hl 0 rfl) ?_
      refine lv_iload_n hx hb dL_law_490 rfl (lv_at hl 3 rfl) ?_
      refine lv_iconst (v := 2) hx hb dL_law_491 (by decide) ?_
      refine lv_iadd hx hb dL_law_492 ?_
      refine va_sld hx hb hX hbl hbA hS (law_in (j := 2) (by decide) (by omega) hL) dL_law_493 ?_
      refine z_cV hC hl.1 hw hS (As := [.int (xs (nI i + 1).toNatClampNeg), .int (xs (nI i + 2).toNatClampNeg)]) (rest := [.int r]) (a := 259) (m_X12_plug l E h2) (ci := 11) (ks := ksM) rfl rfl gc356 gc357 ⟨(Nat.le_of_ble_eq_true rfl), (Nat.le_of_ble_eq_true rfl)⟩ ⟨hcs.1, hcs.2⟩ rfl rfl (Nat.le_of_ble_eq_true rfl) dL_law_494 (fun H locs hw hS => ?_)
      exact lv_icmp_eq (tgt := 1280) hx hb dL_law_497 (by decide) (fun _ => fin σ2 hI2 _ _ ls hl hw hS) (fun hq => absurd rfl hq)
    by_cases hk10 : (xs (nI i).toNatClampNeg &&& 63) = 10
    · refine lv_tableIn (off := 469) (tgt := 502) hx hb dL_law_33 (by rw [hk10]; decide) (by rw [hk10]; decide) (by rw [hk10]; rfl) (by decide) ?_
      obtain ⟨r, σ1, σ2, h1, h2, hI2⟩ := hI.2.2.2.2.2.2.2.2.2.2.1 (xs (nI i + 1).toNatClampNeg) σ hInv
      refine lv_aload_n hx hb dL_law_502 rfl (lv_at hl 1 rfl) ?_
      refine lv_aload_n hx hb dL_law_503 rfl (lv_at hl 0 rfl) ?_
      refine lv_iload_n hx hb dL_law_504 rfl (lv_at hl 3 rfl) ?_
      refine lv_iconst (v := 1) hx hb dL_law_505 (by decide) ?_
      refine lv_iadd hx hb dL_law_506 ?_
      refine va_sld hx hb hX hbl hbA hS (law_in (j := 1) (by decide) (by omega) hL) dL_law_507 ?_
      refine z_cV hC hl.1 hw hS (As := [.int (xs (nI i + 1).toNatClampNeg)]) (rest := []) (a := 0) (m_X11_mend l E h1) (ci := 10) (ks := ksX) rfl rfl gc358 gc359 ⟨(Nat.le_of_ble_eq_true rfl), (Nat.le_of_ble_eq_true rfl)⟩ ⟨hcs.1, hcs.2⟩ rfl rfl (Nat.le_of_ble_eq_true rfl) dL_law_508 (fun H locs hw hS => ?_)
      refine lv_aload_n hx hb dL_law_511 rfl (lv_at hl 2 rfl) ?_
      refine lv_aload_n hx hb dL_law_512 rfl (lv_at hl 0 rfl) ?_
      refine lv_iload_n hx hb dL_law_513 rfl (lv_at hl 3 rfl) ?_
      refine lv_iconst (v := 1) hx hb dL_law_514 (by decide) ?_
      refine lv_iadd hx hb dL_law_515 ?_
      refine va_sld hx hb hX hbl hbA hS (law_in (j := 1) (by decide) (by omega) hL) dL_law_516 ?_
      refine z_cV hC hl.1 hw hS (As := [.int (xs (nI i + 1).toNatClampNeg)]) (rest := [.int r]) (a := 259) (m_X12_mend l E h2) (ci := 11) (ks := ksM) rfl rfl gc360 gc361 ⟨(Nat.le_of_ble_eq_true rfl), (Nat.le_of_ble_eq_true rfl)⟩ ⟨hcs.1, hcs.2⟩ rfl rfl (Nat.le_of_ble_eq_true rfl) dL_law_517 (fun H locs hw hS => ?_)
      exact lv_icmp_eq (tgt := 1280) hx hb dL_law_520 (by decide) (fun _ => fin σ2 hI2 _ _ ls hl hw hS) (fun hq => absurd rfl hq)
    by_cases hk11 : (xs (nI i).toNatClampNeg &&& 63) = 11
    · refine lv_tableIn (off := 492) (tgt := 525) hx hb dL_law_33 (by rw [hk11]; decide) (by rw [hk11]; decide) (by rw [hk11]; rfl) (by decide) ?_
      obtain ⟨r, σ1, σ2, h1, h2, hI2⟩ := hI.2.2.2.2.2.2.2.2.2.2.2.1 σ hInv
      refine lv_aload_n hx hb dL_law_525 rfl (lv_at hl 1 rfl) ?_
      refine z_cV hC hl.1 hw hS (As := []) (rest := []) (a := 0) (m_X11_mains l E h1) (ci := 10) (ks := ksX) rfl rfl gc362 gc363 ⟨(Nat.le_of_ble_eq_true rfl), (Nat.le_of_ble_eq_true rfl)⟩ ⟨hcs.1, hcs.2⟩ rfl rfl (Nat.le_of_ble_eq_true rfl) dL_law_526 (fun H locs hw hS => ?_)
      refine lv_aload_n hx hb dL_law_529 rfl (lv_at hl 2 rfl) ?_
      refine z_cV hC hl.1 hw hS (As := []) (rest := [.int r]) (a := 259) (m_X12_mains l E h2) (ci := 11) (ks := ksM) rfl rfl gc364 gc365 ⟨(Nat.le_of_ble_eq_true rfl), (Nat.le_of_ble_eq_true rfl)⟩ ⟨hcs.1, hcs.2⟩ rfl rfl (Nat.le_of_ble_eq_true rfl) dL_law_530 (fun H locs hw hS => ?_)
      exact lv_icmp_eq (tgt := 1280) hx hb dL_law_533 (by decide) (fun _ => fin σ2 hI2 _ _ ls hl hw hS) (fun hq => absurd rfl hq)
    by_cases hk12 : (xs (nI i).toNatClampNeg &&& 63) = 12
    · refine lv_tableIn (off := 505) (tgt := 538) hx hb dL_law_33 (by rw [hk12]; decide) (by rw [hk12]; decide) (by rw [hk12]; rfl) (by decide) ?_
      obtain ⟨r, σ1, σ2, h1, h2, hI2⟩ := hI.2.2.2.2.2.2.2.2.2.2.2.2.1 (xs (nI i + 1).toNatClampNeg) (xs (nI i + 2).toNatClampNeg) σ hInv
      refine lv_aload_n hx hb dL_law_538 rfl (lv_at hl 1 rfl) ?_
      refine lv_aload_n hx hb dL_law_539 rfl (lv_at hl 0 rfl) ?_
      refine lv_iload_n hx hb dL_law_540 rfl (lv_at hl 3 rfl) ?_
      refine lv_iconst (v := 1) hx hb dL_law_541 (by decide) ?_
      refine lv_iadd hx hb dL_law_542 ?_
      refine va_sld hx hb hX hbl hbA hS (law_in (j := 1) (by decide) (by omega) hL) dL_law_543 ?_
      refine lv_aload_n hx hb dL_law_544 rfl (lv_at hl 0 rfl) ?_
      refine lv_iload_n hx hb dL_law_545 rfl (lv_at hl 3 rfl) ?_
      refine lv_iconst (v := 2) hx hb dL_law_546 (by decide) ?_
      refine lv_iadd hx hb dL_law_547 ?_
      refine va_sld hx hb hX hbl hbA hS (law_in (j := 2) (by decide) (by omega) hL) dL_law_548 ?_
      refine z_cV hC hl.1 hw hS (As := [.int (xs (nI i + 1).toNatClampNeg), .int (xs (nI i + 2).toNatClampNeg)]) (rest := []) (a := 0) (m_X11_rate l E h1) (ci := 10) (ks := ksX) rfl rfl gc366 gc367 ⟨(Nat.le_of_ble_eq_true rfl), (Nat.le_of_ble_eq_true rfl)⟩ ⟨hcs.1, hcs.2⟩ rfl rfl (Nat.le_of_ble_eq_true rfl) dL_law_549 (fun H locs hw hS => ?_)
      refine lv_aload_n hx hb dL_law_552 rfl (lv_at hl 2 rfl) ?_
      refine lv_aload_n hx hb dL_law_553 rfl (lv_at hl 0 rfl) ?_
      refine lv_iload_n hx hb dL_law_554 rfl (lv_at hl 3 rfl) ?_
      refine lv_iconst (v := 1) hx hb dL_law_555 (by decide) ?_
      refine lv_iadd hx hb dL_law_556 ?_
      refine va_sld hx hb hX hbl hbA hS (law_in (j := 1) (by decide) (by omega) hL) dL_law_557 ?_
      refine lv_aload_n hx hb dL_law_558 rfl (lv_at hl 0 rfl) ?_
      refine lv_iload_n hx hb dL_law_559 rfl (lv_at hl 3 rfl) ?_
      refine lv_iconst (v := 2) hx hb dL_law_560 (by decide) ?_
      refine lv_iadd hx hb dL_law_561 ?_
      refine va_sld hx hb hX hbl hbA hS (law_in (j := 2) (by decide) (by omega) hL) dL_law_562 ?_
      refine z_cV hC hl.1 hw hS (As := [.int (xs (nI i + 1).toNatClampNeg), .int (xs (nI i + 2).toNatClampNeg)]) (rest := [.int r]) (a := 259) (m_X12_rate l E h2) (ci := 11) (ks := ksM) rfl rfl gc368 gc369 ⟨(Nat.le_of_ble_eq_true rfl), (Nat.le_of_ble_eq_true rfl)⟩ ⟨hcs.1, hcs.2⟩ rfl rfl (Nat.le_of_ble_eq_true rfl) dL_law_563 (fun H locs hw hS => ?_)
      exact lv_icmp_eq (tgt := 1280) hx hb dL_law_566 (by decide) (fun _ => fin σ2 hI2 _ _ ls hl hw hS) (fun hq => absurd rfl hq)
    by_cases hk13 : (xs (nI i).toNatClampNeg &&& 63) = 13
    · refine lv_tableIn (off := 538) (tgt := 571) hx hb dL_law_33 (by rw [hk13]; decide) (by rw [hk13]; decide) (by rw [hk13]; rfl) (by decide) ?_
      obtain ⟨r, σ1, σ2, h1, h2, hI2⟩ := hI.2.2.2.2.2.2.2.2.2.2.2.2.2.1 σ hInv
      refine lv_aload_n hx hb dL_law_571 rfl (lv_at hl 1 rfl) ?_
      refine z_cV hC hl.1 hw hS (As := []) (rest := []) (a := 0) (m_X11_undo l E h1) (ci := 10) (ks := ksX) rfl rfl gc370 gc371 ⟨(Nat.le_of_ble_eq_true rfl), (Nat.le_of_ble_eq_true rfl)⟩ ⟨hcs.1, hcs.2⟩ rfl rfl (Nat.le_of_ble_eq_true rfl) dL_law_572 (fun H locs hw hS => ?_)
      refine lv_aload_n hx hb dL_law_575 rfl (lv_at hl 2 rfl) ?_
      refine z_cV hC hl.1 hw hS (As := []) (rest := [.int r]) (a := 259) (m_X12_undo l E h2) (ci := 11) (ks := ksM) rfl rfl gc372 gc373 ⟨(Nat.le_of_ble_eq_true rfl), (Nat.le_of_ble_eq_true rfl)⟩ ⟨hcs.1, hcs.2⟩ rfl rfl (Nat.le_of_ble_eq_true rfl) dL_law_576 (fun H locs hw hS => ?_)
      exact lv_icmp_eq (tgt := 1280) hx hb dL_law_579 (by decide) (fun _ => fin σ2 hI2 _ _ ls hl hw hS) (fun hq => absurd rfl hq)
    by_cases hk14 : (xs (nI i).toNatClampNeg &&& 63) = 14
    · refine lv_tableIn (off := 551) (tgt := 584) hx hb dL_law_33 (by rw [hk14]; decide) (by rw [hk14]; decide) (by rw [hk14]; rfl) (by decide) ?_
      obtain ⟨r, σ1, σ2, h1, h2, hI2⟩ := hI.2.2.2.2.2.2.2.2.2.2.2.2.2.2.1 (xs (nI i + 1).toNatClampNeg) (xs (nI i + 2).toNatClampNeg) σ hInv
      refine lv_aload_n hx hb dL_law_584 rfl (lv_at hl 1 rfl) ?_
      refine lv_aload_n hx hb dL_law_585 rfl (lv_at hl 0 rfl) ?_
      refine lv_iload_n hx hb dL_law_586 rfl (lv_at hl 3 rfl) ?_
      refine lv_iconst (v := 1) hx hb dL_law_587 (by decide) ?_
      refine lv_iadd hx hb dL_law_588 ?_
      refine va_sld hx hb hX hbl hbA hS (law_in (j := 1) (by decide) (by omega) hL) dL_law_589 ?_
      refine lv_aload_n hx hb dL_law_590 rfl (lv_at hl 0 rfl) ?_
      refine lv_iload_n hx hb dL_law_591 rfl (lv_at hl 3 rfl) ?_
      refine lv_iconst (v := 2) hx hb dL_law_592 (by decide) ?_
      refine lv_iadd hx hb dL_law_593 ?_
      refine va_sld hx hb hX hbl hbA hS (law_in (j := 2) (by decide) (by omega) hL) dL_law_594 ?_
      refine z_cV hC hl.1 hw hS (As := [.int (xs (nI i + 1).toNatClampNeg), .int (xs (nI i + 2).toNatClampNeg)]) (rest := []) (a := 0) (m_X11_line l E h1) (ci := 10) (ks := ksX) rfl rfl gc374 gc375 ⟨(Nat.le_of_ble_eq_true rfl), (Nat.le_of_ble_eq_true rfl)⟩ ⟨hcs.1, hcs.2⟩ rfl rfl (Nat.le_of_ble_eq_true rfl) dL_law_595 (fun H locs hw hS => ?_)
      refine lv_aload_n hx hb dL_law_598 rfl (lv_at hl 2 rfl) ?_
      refine lv_aload_n hx hb dL_law_599 rfl (lv_at hl 0 rfl) ?_
      refine lv_iload_n hx hb dL_law_600 rfl (lv_at hl 3 rfl) ?_
      refine lv_iconst (v := 1) hx hb dL_law_601 (by decide) ?_
      refine lv_iadd hx hb dL_law_602 ?_
      refine va_sld hx hb hX hbl hbA hS (law_in (j := 1) (by decide) (by omega) hL) dL_law_603 ?_
      refine lv_aload_n hx hb dL_law_604 rfl (lv_at hl 0 rfl) ?_
      refine lv_iload_n hx hb dL_law_605 rfl (lv_at hl 3 rfl) ?_
      refine lv_iconst (v := 2) hx hb dL_law_606 (by decide) ?_
      refine lv_iadd hx hb dL_law_607 ?_
      refine va_sld hx hb hX hbl hbA hS (law_in (j := 2) (by decide) (by omega) hL) dL_law_608 ?_
      refine z_cV hC hl.1 hw hS (As := [.int (xs (nI i + 1).toNatClampNeg), .int (xs (nI i + 2).toNatClampNeg)]) (rest := [.int r]) (a := 259) (m_X12_line l E h2) (ci := 11) (ks := ksM) rfl rfl gc376 gc377 ⟨(Nat.le_of_ble_eq_true rfl), (Nat.le_of_ble_eq_true rfl)⟩ ⟨hcs.1, hcs.2⟩ rfl rfl (Nat.le_of_ble_eq_true rfl) dL_law_609 (fun H locs hw hS => ?_)
      exact lv_icmp_eq (tgt := 1280) hx hb dL_law_612 (by decide) (fun _ => fin σ2 hI2 _ _ ls hl hw hS) (fun hq => absurd rfl hq)
    by_cases hk15 : (xs (nI i).toNatClampNeg &&& 63) = 15
    · refine lv_tableIn (off := 584) (tgt := 617) hx hb dL_law_33 (by rw [hk15]; decide) (by rw [hk15]; decide) (by rw [hk15]; rfl) (by decide) ?_
      obtain ⟨r, σ1, σ2, h1, h2, hI2⟩ := hI.2.2.2.2.2.2.2.2.2.2.2.2.2.2.2.1 (xs (nI i + 1).toNatClampNeg) (xs (nI i + 2).toNatClampNeg) σ hInv
      refine lv_aload_n hx hb dL_law_617 rfl (lv_at hl 1 rfl) ?_
      refine lv_aload_n hx hb dL_law_618 rfl (lv_at hl 0 rfl) ?_
      refine lv_iload_n hx hb dL_law_619 rfl (lv_at hl 3 rfl) ?_
      refine lv_iconst (v := 1) hx hb dL_law_620 (by decide) ?_
      refine lv_iadd hx hb dL_law_621 ?_
      refine va_sld hx hb hX hbl hbA hS (law_in (j := 1) (by decide) (by omega) hL) dL_law_622 ?_
      refine lv_aload_n hx hb dL_law_623 rfl (lv_at hl 0 rfl) ?_
      refine lv_iload_n hx hb dL_law_624 rfl (lv_at hl 3 rfl) ?_
      refine lv_iconst (v := 2) hx hb dL_law_625 (by decide) ?_
      refine lv_iadd hx hb dL_law_626 ?_
      refine va_sld hx hb hX hbl hbA hS (law_in (j := 2) (by decide) (by omega) hL) dL_law_627 ?_
      refine z_cV hC hl.1 hw hS (As := [.int (xs (nI i + 1).toNatClampNeg), .int (xs (nI i + 2).toNatClampNeg)]) (rest := []) (a := 0) (m_X11_thing l E h1) (ci := 10) (ks := ksX) rfl rfl gc378 gc379 ⟨(Nat.le_of_ble_eq_true rfl), (Nat.le_of_ble_eq_true rfl)⟩ ⟨hcs.1, hcs.2⟩ rfl rfl (Nat.le_of_ble_eq_true rfl) dL_law_628 (fun H locs hw hS => ?_)
      refine lv_aload_n hx hb dL_law_631 rfl (lv_at hl 2 rfl) ?_
      refine lv_aload_n hx hb dL_law_632 rfl (lv_at hl 0 rfl) ?_
      refine lv_iload_n hx hb dL_law_633 rfl (lv_at hl 3 rfl) ?_
      refine lv_iconst (v := 1) hx hb dL_law_634 (by decide) ?_
      refine lv_iadd hx hb dL_law_635 ?_
      refine va_sld hx hb hX hbl hbA hS (law_in (j := 1) (by decide) (by omega) hL) dL_law_636 ?_
      refine lv_aload_n hx hb dL_law_637 rfl (lv_at hl 0 rfl) ?_
      refine lv_iload_n hx hb dL_law_638 rfl (lv_at hl 3 rfl) ?_
      refine lv_iconst (v := 2) hx hb dL_law_639 (by decide) ?_
      refine lv_iadd hx hb dL_law_640 ?_
      refine va_sld hx hb hX hbl hbA hS (law_in (j := 2) (by decide) (by omega) hL) dL_law_641 ?_
      refine z_cV hC hl.1 hw hS (As := [.int (xs (nI i + 1).toNatClampNeg), .int (xs (nI i + 2).toNatClampNeg)]) (rest := [.int r]) (a := 259) (m_X12_thing l E h2) (ci := 11) (ks := ksM) rfl rfl gc380 gc381 ⟨(Nat.le_of_ble_eq_true rfl), (Nat.le_of_ble_eq_true rfl)⟩ ⟨hcs.1, hcs.2⟩ rfl rfl (Nat.le_of_ble_eq_true rfl) dL_law_642 (fun H locs hw hS => ?_)
      exact lv_icmp_eq (tgt := 1280) hx hb dL_law_645 (by decide) (fun _ => fin σ2 hI2 _ _ ls hl hw hS) (fun hq => absurd rfl hq)
    by_cases hk16 : (xs (nI i).toNatClampNeg &&& 63) = 16
    · refine lv_tableIn (off := 617) (tgt := 650) hx hb dL_law_33 (by rw [hk16]; decide) (by rw [hk16]; decide) (by rw [hk16]; rfl) (by decide) ?_
      obtain ⟨r, σ1, σ2, h1, h2, hI2⟩ := hI.2.2.2.2.2.2.2.2.2.2.2.2.2.2.2.2.1 (xs (nI i + 1).toNatClampNeg) (xs (nI i + 2).toNatClampNeg) σ hInv
      refine lv_aload_n hx hb dL_law_650 rfl (lv_at hl 1 rfl) ?_
      refine lv_aload_n hx hb dL_law_651 rfl (lv_at hl 0 rfl) ?_
      refine lv_iload_n hx hb dL_law_652 rfl (lv_at hl 3 rfl) ?_
      refine lv_iconst (v := 1) hx hb dL_law_653 (by decide) ?_
      refine lv_iadd hx hb dL_law_654 ?_
      refine va_sld hx hb hX hbl hbA hS (law_in (j := 1) (by decide) (by omega) hL) dL_law_655 ?_
      refine lv_aload_n hx hb dL_law_656 rfl (lv_at hl 0 rfl) ?_
      refine lv_iload_n hx hb dL_law_657 rfl (lv_at hl 3 rfl) ?_
      refine lv_iconst (v := 2) hx hb dL_law_658 (by decide) ?_
      refine lv_iadd hx hb dL_law_659 ?_
      refine va_sld hx hb hX hbl hbA hS (law_in (j := 2) (by decide) (by omega) hL) dL_law_660 ?_
      refine z_cV hC hl.1 hw hS (As := [.int (xs (nI i + 1).toNatClampNeg), .int (xs (nI i + 2).toNatClampNeg)]) (rest := []) (a := 0) (m_X11_heat l E h1) (ci := 10) (ks := ksX) rfl rfl gc382 gc383 ⟨(Nat.le_of_ble_eq_true rfl), (Nat.le_of_ble_eq_true rfl)⟩ ⟨hcs.1, hcs.2⟩ rfl rfl (Nat.le_of_ble_eq_true rfl) dL_law_661 (fun H locs hw hS => ?_)
      refine lv_aload_n hx hb dL_law_664 rfl (lv_at hl 2 rfl) ?_
      refine lv_aload_n hx hb dL_law_665 rfl (lv_at hl 0 rfl) ?_
      refine lv_iload_n hx hb dL_law_666 rfl (lv_at hl 3 rfl) ?_
      refine lv_iconst (v := 1) hx hb dL_law_667 (by decide) ?_
      refine lv_iadd hx hb dL_law_668 ?_
      refine va_sld hx hb hX hbl hbA hS (law_in (j := 1) (by decide) (by omega) hL) dL_law_669 ?_
      refine lv_aload_n hx hb dL_law_670 rfl (lv_at hl 0 rfl) ?_
      refine lv_iload_n hx hb dL_law_671 rfl (lv_at hl 3 rfl) ?_
      refine lv_iconst (v := 2) hx hb dL_law_672 (by decide) ?_
      refine lv_iadd hx hb dL_law_673 ?_
      refine va_sld hx hb hX hbl hbA hS (law_in (j := 2) (by decide) (by omega) hL) dL_law_674 ?_
      refine z_cV hC hl.1 hw hS (As := [.int (xs (nI i + 1).toNatClampNeg), .int (xs (nI i + 2).toNatClampNeg)]) (rest := [.int r]) (a := 259) (m_X12_heat l E h2) (ci := 11) (ks := ksM) rfl rfl gc384 gc385 ⟨(Nat.le_of_ble_eq_true rfl), (Nat.le_of_ble_eq_true rfl)⟩ ⟨hcs.1, hcs.2⟩ rfl rfl (Nat.le_of_ble_eq_true rfl) dL_law_675 (fun H locs hw hS => ?_)
      exact lv_icmp_eq (tgt := 1280) hx hb dL_law_678 (by decide) (fun _ => fin σ2 hI2 _ _ ls hl hw hS) (fun hq => absurd rfl hq)
    by_cases hk17 : (xs (nI i).toNatClampNeg &&& 63) = 17
    · refine lv_tableIn (off := 650) (tgt := 683) hx hb dL_law_33 (by rw [hk17]; decide) (by rw [hk17]; decide) (by rw [hk17]; rfl) (by decide) ?_
      obtain ⟨r, σ1, σ2, h1, h2, hI2⟩ := hI.2.2.2.2.2.2.2.2.2.2.2.2.2.2.2.2.2.1 (xs (nI i + 1).toNatClampNeg) (xs (nI i + 2).toNatClampNeg) σ hInv
      refine lv_aload_n hx hb dL_law_683 rfl (lv_at hl 1 rfl) ?_
      refine lv_aload_n hx hb dL_law_684 rfl (lv_at hl 0 rfl) ?_
      refine lv_iload_n hx hb dL_law_685 rfl (lv_at hl 3 rfl) ?_
      refine lv_iconst (v := 1) hx hb dL_law_686 (by decide) ?_
      refine lv_iadd hx hb dL_law_687 ?_
      refine va_sld hx hb hX hbl hbA hS (law_in (j := 1) (by decide) (by omega) hL) dL_law_688 ?_
      refine lv_aload_n hx hb dL_law_689 rfl (lv_at hl 0 rfl) ?_
      refine lv_iload_n hx hb dL_law_690 rfl (lv_at hl 3 rfl) ?_
      refine lv_iconst (v := 2) hx hb dL_law_691 (by decide) ?_
      refine lv_iadd hx hb dL_law_692 ?_
      refine va_sld hx hb hX hbl hbA hS (law_in (j := 2) (by decide) (by omega) hL) dL_law_693 ?_
      refine z_cV hC hl.1 hw hS (As := [.int (xs (nI i + 1).toNatClampNeg), .int (xs (nI i + 2).toNatClampNeg)]) (rest := []) (a := 0) (m_X11_later l E h1) (ci := 10) (ks := ksX) rfl rfl gc386 gc387 ⟨(Nat.le_of_ble_eq_true rfl), (Nat.le_of_ble_eq_true rfl)⟩ ⟨hcs.1, hcs.2⟩ rfl rfl (Nat.le_of_ble_eq_true rfl) dL_law_694 (fun H locs hw hS => ?_)
      refine lv_aload_n hx hb dL_law_697 rfl (lv_at hl 2 rfl) ?_
      refine lv_aload_n hx hb dL_law_698 rfl (lv_at hl 0 rfl) ?_
      refine lv_iload_n hx hb dL_law_699 rfl (lv_at hl 3 rfl) ?_
      refine lv_iconst (v := 1) hx hb dL_law_700 (by decide) ?_
      refine lv_iadd hx hb dL_law_701 ?_
      refine va_sld hx hb hX hbl hbA hS (law_in (j := 1) (by decide) (by omega) hL) dL_law_702 ?_
      refine lv_aload_n hx hb dL_law_703 rfl (lv_at hl 0 rfl) ?_
      refine lv_iload_n hx hb dL_law_704 rfl (lv_at hl 3 rfl) ?_
      refine lv_iconst (v := 2) hx hb dL_law_705 (by decide) ?_
      refine lv_iadd hx hb dL_law_706 ?_
      refine va_sld hx hb hX hbl hbA hS (law_in (j := 2) (by decide) (by omega) hL) dL_law_707 ?_
      refine z_cV hC hl.1 hw hS (As := [.int (xs (nI i + 1).toNatClampNeg), .int (xs (nI i + 2).toNatClampNeg)]) (rest := [.int r]) (a := 259) (m_X12_later l E h2) (ci := 11) (ks := ksM) rfl rfl gc388 gc389 ⟨(Nat.le_of_ble_eq_true rfl), (Nat.le_of_ble_eq_true rfl)⟩ ⟨hcs.1, hcs.2⟩ rfl rfl (Nat.le_of_ble_eq_true rfl) dL_law_708 (fun H locs hw hS => ?_)
      exact lv_icmp_eq (tgt := 1280) hx hb dL_law_711 (by decide) (fun _ => fin σ2 hI2 _ _ ls hl hw hS) (fun hq => absurd rfl hq)
    by_cases hk18 : (xs (nI i).toNatClampNeg &&& 63) = 18
    · refine lv_tableIn (off := 683) (tgt := 716) hx hb dL_law_33 (by rw [hk18]; decide) (by rw [hk18]; decide) (by rw [hk18]; rfl) (by decide) ?_
      obtain ⟨r, σ1, σ2, h1, h2, hI2⟩ := hI.2.2.2.2.2.2.2.2.2.2.2.2.2.2.2.2.2.2.1 (xs (nI i + 1).toNatClampNeg) σ hInv
      refine lv_aload_n hx hb dL_law_716 rfl (lv_at hl 1 rfl) ?_
      refine lv_aload_n hx hb dL_law_717 rfl (lv_at hl 0 rfl) ?_
      refine lv_iload_n hx hb dL_law_718 rfl (lv_at hl 3 rfl) ?_
      refine lv_iconst (v := 1) hx hb dL_law_719 (by decide) ?_
      refine lv_iadd hx hb dL_law_720 ?_
      refine va_sld hx hb hX hbl hbA hS (law_in (j := 1) (by decide) (by omega) hL) dL_law_721 ?_
      refine z_cV hC hl.1 hw hS (As := [.int (xs (nI i + 1).toNatClampNeg)]) (rest := []) (a := 0) (m_X11_lost l E h1) (ci := 10) (ks := ksX) rfl rfl gc390 gc391 ⟨(Nat.le_of_ble_eq_true rfl), (Nat.le_of_ble_eq_true rfl)⟩ ⟨hcs.1, hcs.2⟩ rfl rfl (Nat.le_of_ble_eq_true rfl) dL_law_722 (fun H locs hw hS => ?_)
      refine lv_aload_n hx hb dL_law_725 rfl (lv_at hl 2 rfl) ?_
      refine lv_aload_n hx hb dL_law_726 rfl (lv_at hl 0 rfl) ?_
      refine lv_iload_n hx hb dL_law_727 rfl (lv_at hl 3 rfl) ?_
      refine lv_iconst (v := 1) hx hb dL_law_728 (by decide) ?_
      refine lv_iadd hx hb dL_law_729 ?_
      refine va_sld hx hb hX hbl hbA hS (law_in (j := 1) (by decide) (by omega) hL) dL_law_730 ?_
      refine z_cV hC hl.1 hw hS (As := [.int (xs (nI i + 1).toNatClampNeg)]) (rest := [.int r]) (a := 259) (m_X12_lost l E h2) (ci := 11) (ks := ksM) rfl rfl gc392 gc393 ⟨(Nat.le_of_ble_eq_true rfl), (Nat.le_of_ble_eq_true rfl)⟩ ⟨hcs.1, hcs.2⟩ rfl rfl (Nat.le_of_ble_eq_true rfl) dL_law_731 (fun H locs hw hS => ?_)
      exact lv_icmp_eq (tgt := 1280) hx hb dL_law_734 (by decide) (fun _ => fin σ2 hI2 _ _ ls hl hw hS) (fun hq => absurd rfl hq)
    by_cases hk19 : (xs (nI i).toNatClampNeg &&& 63) = 19
    · refine lv_tableIn (off := 706) (tgt := 739) hx hb dL_law_33 (by rw [hk19]; decide) (by rw [hk19]; decide) (by rw [hk19]; rfl) (by decide) ?_
      obtain ⟨r, σ1, σ2, h1, h2, hI2⟩ := hI.2.2.2.2.2.2.2.2.2.2.2.2.2.2.2.2.2.2.2.1 σ hInv
      refine lv_aload_n hx hb dL_law_739 rfl (lv_at hl 1 rfl) ?_
      refine z_cV hC hl.1 hw hS (As := []) (rest := []) (a := 0) (m_X11_dark l E h1) (ci := 10) (ks := ksX) rfl rfl gc394 gc395 ⟨(Nat.le_of_ble_eq_true rfl), (Nat.le_of_ble_eq_true rfl)⟩ ⟨hcs.1, hcs.2⟩ rfl rfl (Nat.le_of_ble_eq_true rfl) dL_law_740 (fun H locs hw hS => ?_)
      refine lv_aload_n hx hb dL_law_743 rfl (lv_at hl 2 rfl) ?_
      refine z_cV hC hl.1 hw hS (As := []) (rest := [.int r]) (a := 259) (m_X12_dark l E h2) (ci := 11) (ks := ksM) rfl rfl gc396 gc397 ⟨(Nat.le_of_ble_eq_true rfl), (Nat.le_of_ble_eq_true rfl)⟩ ⟨hcs.1, hcs.2⟩ rfl rfl (Nat.le_of_ble_eq_true rfl) dL_law_744 (fun H locs hw hS => ?_)
      exact lv_icmp_eq (tgt := 1280) hx hb dL_law_747 (by decide) (fun _ => fin σ2 hI2 _ _ ls hl hw hS) (fun hq => absurd rfl hq)
    by_cases hk20 : (xs (nI i).toNatClampNeg &&& 63) = 20
    · refine lv_tableIn (off := 719) (tgt := 752) hx hb dL_law_33 (by rw [hk20]; decide) (by rw [hk20]; decide) (by rw [hk20]; rfl) (by decide) ?_
      obtain ⟨r, σ1, σ2, h1, h2, hI2⟩ := hI.2.2.2.2.2.2.2.2.2.2.2.2.2.2.2.2.2.2.2.2.1 (xs (nI i + 1).toNatClampNeg) (xs (nI i + 2).toNatClampNeg) (xs (nI i + 3).toNatClampNeg) σ hInv
      refine lv_aload_n hx hb dL_law_752 rfl (lv_at hl 1 rfl) ?_
      refine lv_aload_n hx hb dL_law_753 rfl (lv_at hl 0 rfl) ?_
      refine lv_iload_n hx hb dL_law_754 rfl (lv_at hl 3 rfl) ?_
      refine lv_iconst (v := 1) hx hb dL_law_755 (by decide) ?_
      refine lv_iadd hx hb dL_law_756 ?_
      refine va_sld hx hb hX hbl hbA hS (law_in (j := 1) (by decide) (by omega) hL) dL_law_757 ?_
      refine lv_aload_n hx hb dL_law_758 rfl (lv_at hl 0 rfl) ?_
      refine lv_iload_n hx hb dL_law_759 rfl (lv_at hl 3 rfl) ?_
      refine lv_iconst (v := 2) hx hb dL_law_760 (by decide) ?_
      refine lv_iadd hx hb dL_law_761 ?_
      refine va_sld hx hb hX hbl hbA hS (law_in (j := 2) (by decide) (by omega) hL) dL_law_762 ?_
      refine lv_aload_n hx hb dL_law_763 rfl (lv_at hl 0 rfl) ?_
      refine lv_iload_n hx hb dL_law_764 rfl (lv_at hl 3 rfl) ?_
      refine lv_iconst (v := 3) hx hb dL_law_765 (by decide) ?_
      refine lv_iadd hx hb dL_law_766 ?_
      refine va_sld hx hb hX hbl hbA hS (law_in (j := 3) (by decide) (by omega) hL) dL_law_767 ?_
      refine z_cV hC hl.1 hw hS (As := [.int (xs (nI i + 1).toNatClampNeg), .int (xs (nI i + 2).toNatClampNeg), .int (xs (nI i + 3).toNatClampNeg)]) (rest := []) (a := 0) (m_X11_shed l E h1) (ci := 10) (ks := ksX) rfl rfl gc398 gc399 ⟨(Nat.le_of_ble_eq_true rfl), (Nat.le_of_ble_eq_true rfl)⟩ ⟨hcs.1, hcs.2⟩ rfl rfl (Nat.le_of_ble_eq_true rfl) dL_law_768 (fun H locs hw hS => ?_)
      refine lv_aload_n hx hb dL_law_771 rfl (lv_at hl 2 rfl) ?_
      refine lv_aload_n hx hb dL_law_772 rfl (lv_at hl 0 rfl) ?_
      refine lv_iload_n hx hb dL_law_773 rfl (lv_at hl 3 rfl) ?_
      refine lv_iconst (v := 1) hx hb dL_law_774 (by decide) ?_
      refine lv_iadd hx hb dL_law_775 ?_
      refine va_sld hx hb hX hbl hbA hS (law_in (j := 1) (by decide) (by omega) hL) dL_law_776 ?_
      refine lv_aload_n hx hb dL_law_777 rfl (lv_at hl 0 rfl) ?_
      refine lv_iload_n hx hb dL_law_778 rfl (lv_at hl 3 rfl) ?_
      refine lv_iconst (v := 2) hx hb dL_law_779 (by decide) ?_
      refine lv_iadd hx hb dL_law_780 ?_
      refine va_sld hx hb hX hbl hbA hS (law_in (j := 2) (by decide) (by omega) hL) dL_law_781 ?_
      refine lv_aload_n hx hb dL_law_782 rfl (lv_at hl 0 rfl) ?_
      refine lv_iload_n hx hb dL_law_783 rfl (lv_at hl 3 rfl) ?_
      refine lv_iconst (v := 3) hx hb dL_law_784 (by decide) ?_
      refine lv_iadd hx hb dL_law_785 ?_
      refine va_sld hx hb hX hbl hbA hS (law_in (j := 3) (by decide) (by omega) hL) dL_law_786 ?_
      refine z_cV hC hl.1 hw hS (As := [.int (xs (nI i + 1).toNatClampNeg), .int (xs (nI i + 2).toNatClampNeg), .int (xs (nI i + 3).toNatClampNeg)]) (rest := [.int r]) (a := 259) (m_X12_shed l E h2) (ci := 11) (ks := ksM) rfl rfl gc400 gc401 ⟨(Nat.le_of_ble_eq_true rfl), (Nat.le_of_ble_eq_true rfl)⟩ ⟨hcs.1, hcs.2⟩ rfl rfl (Nat.le_of_ble_eq_true rfl) dL_law_787 (fun H locs hw hS => ?_)
      exact lv_icmp_eq (tgt := 1280) hx hb dL_law_790 (by decide) (fun _ => fin σ2 hI2 _ _ ls hl hw hS) (fun hq => absurd rfl hq)
    by_cases hk21 : (xs (nI i).toNatClampNeg &&& 63) = 21
    · refine lv_tableIn (off := 762) (tgt := 795) hx hb dL_law_33 (by rw [hk21]; decide) (by rw [hk21]; decide) (by rw [hk21]; rfl) (by decide) ?_
      obtain ⟨r, σ1, σ2, h1, h2, hI2⟩ := hI.2.2.2.2.2.2.2.2.2.2.2.2.2.2.2.2.2.2.2.2.2.1 (xs (nI i + 1).toNatClampNeg) (xs (nI i + 2).toNatClampNeg) σ hInv
      refine lv_aload_n hx hb dL_law_795 rfl (lv_at hl 1 rfl) ?_
      refine lv_aload_n hx hb dL_law_796 rfl (lv_at hl 0 rfl) ?_
      refine lv_iload_n hx hb dL_law_797 rfl (lv_at hl 3 rfl) ?_
      refine lv_iconst (v := 1) hx hb dL_law_798 (by decide) ?_
      refine lv_iadd hx hb dL_law_799 ?_
      refine va_sld hx hb hX hbl hbA hS (law_in (j := 1) (by decide) (by omega) hL) dL_law_800 ?_
      refine lv_aload_n hx hb dL_law_801 rfl (lv_at hl 0 rfl) ?_
      refine lv_iload_n hx hb dL_law_802 rfl (lv_at hl 3 rfl) ?_
      refine lv_iconst (v := 2) hx hb dL_law_803 (by decide) ?_
      refine lv_iadd hx hb dL_law_804 ?_
      refine va_sld hx hb hX hbl hbA hS (law_in (j := 2) (by decide) (by omega) hL) dL_law_805 ?_
      refine z_cV hC hl.1 hw hS (As := [.int (xs (nI i + 1).toNatClampNeg), .int (xs (nI i + 2).toNatClampNeg)]) (rest := []) (a := 0) (m_X11_plugs l E h1) (ci := 10) (ks := ksX) rfl rfl gc402 gc403 ⟨(Nat.le_of_ble_eq_true rfl), (Nat.le_of_ble_eq_true rfl)⟩ ⟨hcs.1, hcs.2⟩ rfl rfl (Nat.le_of_ble_eq_true rfl) dL_law_806 (fun H locs hw hS => ?_)
      refine lv_aload_n hx hb dL_law_809 rfl (lv_at hl 2 rfl) ?_
      refine lv_aload_n hx hb dL_law_810 rfl (lv_at hl 0 rfl) ?_
      refine lv_iload_n hx hb dL_law_811 rfl (lv_at hl 3 rfl) ?_
      refine lv_iconst (v := 1) hx hb dL_law_812 (by decide) ?_
      refine lv_iadd hx hb dL_law_813 ?_
      refine va_sld hx hb hX hbl hbA hS (law_in (j := 1) (by decide) (by omega) hL) dL_law_814 ?_
      refine lv_aload_n hx hb dL_law_815 rfl (lv_at hl 0 rfl) ?_
      refine lv_iload_n hx hb dL_law_816 rfl (lv_at hl 3 rfl) ?_
      refine lv_iconst (v := 2) hx hb dL_law_817 (by decide) ?_
      refine lv_iadd hx hb dL_law_818 ?_
      refine va_sld hx hb hX hbl hbA hS (law_in (j := 2) (by decide) (by omega) hL) dL_law_819 ?_
      refine z_cV hC hl.1 hw hS (As := [.int (xs (nI i + 1).toNatClampNeg), .int (xs (nI i + 2).toNatClampNeg)]) (rest := [.int r]) (a := 259) (m_X12_plugs l E h2) (ci := 11) (ks := ksM) rfl rfl gc404 gc405 ⟨(Nat.le_of_ble_eq_true rfl), (Nat.le_of_ble_eq_true rfl)⟩ ⟨hcs.1, hcs.2⟩ rfl rfl (Nat.le_of_ble_eq_true rfl) dL_law_820 (fun H locs hw hS => ?_)
      exact lv_icmp_eq (tgt := 1280) hx hb dL_law_823 (by decide) (fun _ => fin σ2 hI2 _ _ ls hl hw hS) (fun hq => absurd rfl hq)
    by_cases hk22 : (xs (nI i).toNatClampNeg &&& 63) = 22
    · refine lv_tableIn (off := 795) (tgt := 828) hx hb dL_law_33 (by rw [hk22]; decide) (by rw [hk22]; decide) (by rw [hk22]; rfl) (by decide) ?_
      obtain ⟨r, σ1, σ2, h1, h2, hI2⟩ := hI.2.2.2.2.2.2.2.2.2.2.2.2.2.2.2.2.2.2.2.2.2.2.1 (xs (nI i + 1).toNatClampNeg) (xs (nI i + 2).toNatClampNeg) σ hInv
      refine lv_aload_n hx hb dL_law_828 rfl (lv_at hl 1 rfl) ?_
      refine lv_aload_n hx hb dL_law_829 rfl (lv_at hl 0 rfl) ?_
      refine lv_iload_n hx hb dL_law_830 rfl (lv_at hl 3 rfl) ?_
      refine lv_iconst (v := 1) hx hb dL_law_831 (by decide) ?_
      refine lv_iadd hx hb dL_law_832 ?_
      refine va_sld hx hb hX hbl hbA hS (law_in (j := 1) (by decide) (by omega) hL) dL_law_833 ?_
      refine lv_aload_n hx hb dL_law_834 rfl (lv_at hl 0 rfl) ?_
      refine lv_iload_n hx hb dL_law_835 rfl (lv_at hl 3 rfl) ?_
      refine lv_iconst (v := 2) hx hb dL_law_836 (by decide) ?_
      refine lv_iadd hx hb dL_law_837 ?_
      refine va_sld hx hb hX hbl hbA hS (law_in (j := 2) (by decide) (by omega) hL) dL_law_838 ?_
      refine z_cV hC hl.1 hw hS (As := [.int (xs (nI i + 1).toNatClampNeg), .int (xs (nI i + 2).toNatClampNeg)]) (rest := []) (a := 0) (m_X11_holds l E h1) (ci := 10) (ks := ksX) rfl rfl gc406 gc407 ⟨(Nat.le_of_ble_eq_true rfl), (Nat.le_of_ble_eq_true rfl)⟩ ⟨hcs.1, hcs.2⟩ rfl rfl (Nat.le_of_ble_eq_true rfl) dL_law_839 (fun H locs hw hS => ?_)
      refine lv_aload_n hx hb dL_law_842 rfl (lv_at hl 2 rfl) ?_
      refine lv_aload_n hx hb dL_law_843 rfl (lv_at hl 0 rfl) ?_
      refine lv_iload_n hx hb dL_law_844 rfl (lv_at hl 3 rfl) ?_
      refine lv_iconst (v := 1) hx hb dL_law_845 (by decide) ?_
      refine lv_iadd hx hb dL_law_846 ?_
      refine va_sld hx hb hX hbl hbA hS (law_in (j := 1) (by decide) (by omega) hL) dL_law_847 ?_
      refine lv_aload_n hx hb dL_law_848 rfl (lv_at hl 0 rfl) ?_
      refine lv_iload_n hx hb dL_law_849 rfl (lv_at hl 3 rfl) ?_
      refine lv_iconst (v := 2) hx hb dL_law_850 (by decide) ?_
      refine lv_iadd hx hb dL_law_851 ?_
      refine va_sld hx hb hX hbl hbA hS (law_in (j := 2) (by decide) (by omega) hL) dL_law_852 ?_
      refine z_cV hC hl.1 hw hS (As := [.int (xs (nI i + 1).toNatClampNeg), .int (xs (nI i + 2).toNatClampNeg)]) (rest := [.int r]) (a := 259) (m_X12_holds l E h2) (ci := 11) (ks := ksM) rfl rfl gc408 gc409 ⟨(Nat.le_of_ble_eq_true rfl), (Nat.le_of_ble_eq_true rfl)⟩ ⟨hcs.1, hcs.2⟩ rfl rfl (Nat.le_of_ble_eq_true rfl) dL_law_853 (fun H locs hw hS => ?_)
      exact lv_icmp_eq (tgt := 1280) hx hb dL_law_856 (by decide) (fun _ => fin σ2 hI2 _ _ ls hl hw hS) (fun hq => absurd rfl hq)
    by_cases hk23 : (xs (nI i).toNatClampNeg &&& 63) = 23
    · refine lv_tableIn (off := 828) (tgt := 861) hx hb dL_law_33 (by rw [hk23]; decide) (by rw [hk23]; decide) (by rw [hk23]; rfl) (by decide) ?_
      obtain ⟨r, σ1, σ2, h1, h2, hI2⟩ := hI.2.2.2.2.2.2.2.2.2.2.2.2.2.2.2.2.2.2.2.2.2.2.2.1 (xs (nI i + 1).toNatClampNeg) (xs (nI i + 2).toNatClampNeg) σ hInv
      refine lv_aload_n hx hb dL_law_861 rfl (lv_at hl 1 rfl) ?_
      refine lv_aload_n hx hb dL_law_862 rfl (lv_at hl 0 rfl) ?_
      refine lv_iload_n hx hb dL_law_863 rfl (lv_at hl 3 rfl) ?_
      refine lv_iconst (v := 1) hx hb dL_law_864 (by decide) ?_
      refine lv_iadd hx hb dL_law_865 ?_
      refine va_sld hx hb hX hbl hbA hS (law_in (j := 1) (by decide) (by omega) hL) dL_law_866 ?_
      refine lv_aload_n hx hb dL_law_867 rfl (lv_at hl 0 rfl) ?_
      refine lv_iload_n hx hb dL_law_868 rfl (lv_at hl 3 rfl) ?_
      refine lv_iconst (v := 2) hx hb dL_law_869 (by decide) ?_
      refine lv_iadd hx hb dL_law_870 ?_
      refine va_sld hx hb hX hbl hbA hS (law_in (j := 2) (by decide) (by omega) hL) dL_law_871 ?_
      refine z_cV hC hl.1 hw hS (As := [.int (xs (nI i + 1).toNatClampNeg), .int (xs (nI i + 2).toNatClampNeg)]) (rest := []) (a := 0) (m_X11_faulty l E h1) (ci := 10) (ks := ksX) rfl rfl gc410 gc411 ⟨(Nat.le_of_ble_eq_true rfl), (Nat.le_of_ble_eq_true rfl)⟩ ⟨hcs.1, hcs.2⟩ rfl rfl (Nat.le_of_ble_eq_true rfl) dL_law_872 (fun H locs hw hS => ?_)
      refine lv_aload_n hx hb dL_law_875 rfl (lv_at hl 2 rfl) ?_
      refine lv_aload_n hx hb dL_law_876 rfl (lv_at hl 0 rfl) ?_
      refine lv_iload_n hx hb dL_law_877 rfl (lv_at hl 3 rfl) ?_
      refine lv_iconst (v := 1) hx hb dL_law_878 (by decide) ?_
      refine lv_iadd hx hb dL_law_879 ?_
      refine va_sld hx hb hX hbl hbA hS (law_in (j := 1) (by decide) (by omega) hL) dL_law_880 ?_
      refine lv_aload_n hx hb dL_law_881 rfl (lv_at hl 0 rfl) ?_
      refine lv_iload_n hx hb dL_law_882 rfl (lv_at hl 3 rfl) ?_
      refine lv_iconst (v := 2) hx hb dL_law_883 (by decide) ?_
      refine lv_iadd hx hb dL_law_884 ?_
      refine va_sld hx hb hX hbl hbA hS (law_in (j := 2) (by decide) (by omega) hL) dL_law_885 ?_
      refine z_cV hC hl.1 hw hS (As := [.int (xs (nI i + 1).toNatClampNeg), .int (xs (nI i + 2).toNatClampNeg)]) (rest := [.int r]) (a := 259) (m_X12_faulty l E h2) (ci := 11) (ks := ksM) rfl rfl gc412 gc413 ⟨(Nat.le_of_ble_eq_true rfl), (Nat.le_of_ble_eq_true rfl)⟩ ⟨hcs.1, hcs.2⟩ rfl rfl (Nat.le_of_ble_eq_true rfl) dL_law_886 (fun H locs hw hS => ?_)
      exact lv_icmp_eq (tgt := 1280) hx hb dL_law_889 (by decide) (fun _ => fin σ2 hI2 _ _ ls hl hw hS) (fun hq => absurd rfl hq)
    by_cases hk24 : (xs (nI i).toNatClampNeg &&& 63) = 24
    · refine lv_tableIn (off := 861) (tgt := 894) hx hb dL_law_33 (by rw [hk24]; decide) (by rw [hk24]; decide) (by rw [hk24]; rfl) (by decide) ?_
      obtain ⟨r, σ1, σ2, h1, h2, hI2⟩ := hI.2.2.2.2.2.2.2.2.2.2.2.2.2.2.2.2.2.2.2.2.2.2.2.2.1 (xs (nI i + 1).toNatClampNeg) (xs (nI i + 2).toNatClampNeg) σ hInv
      refine lv_aload_n hx hb dL_law_894 rfl (lv_at hl 1 rfl) ?_
      refine lv_aload_n hx hb dL_law_895 rfl (lv_at hl 0 rfl) ?_
      refine lv_iload_n hx hb dL_law_896 rfl (lv_at hl 3 rfl) ?_
      refine lv_iconst (v := 1) hx hb dL_law_897 (by decide) ?_
      refine lv_iadd hx hb dL_law_898 ?_
      refine va_sld hx hb hX hbl hbA hS (law_in (j := 1) (by decide) (by omega) hL) dL_law_899 ?_
      refine lv_aload_n hx hb dL_law_900 rfl (lv_at hl 0 rfl) ?_
      refine lv_iload_n hx hb dL_law_901 rfl (lv_at hl 3 rfl) ?_
      refine lv_iconst (v := 2) hx hb dL_law_902 (by decide) ?_
      refine lv_iadd hx hb dL_law_903 ?_
      refine va_sld hx hb hX hbl hbA hS (law_in (j := 2) (by decide) (by omega) hL) dL_law_904 ?_
      refine z_cV hC hl.1 hw hS (As := [.int (xs (nI i + 1).toNatClampNeg), .int (xs (nI i + 2).toNatClampNeg)]) (rest := []) (a := 0) (m_X11_bill l E h1) (ci := 10) (ks := ksX) rfl rfl gc414 gc415 ⟨(Nat.le_of_ble_eq_true rfl), (Nat.le_of_ble_eq_true rfl)⟩ ⟨hcs.1, hcs.2⟩ rfl rfl (Nat.le_of_ble_eq_true rfl) dL_law_905 (fun H locs hw hS => ?_)
      refine lv_aload_n hx hb dL_law_908 rfl (lv_at hl 2 rfl) ?_
      refine lv_aload_n hx hb dL_law_909 rfl (lv_at hl 0 rfl) ?_
      refine lv_iload_n hx hb dL_law_910 rfl (lv_at hl 3 rfl) ?_
      refine lv_iconst (v := 1) hx hb dL_law_911 (by decide) ?_
      refine lv_iadd hx hb dL_law_912 ?_
      refine va_sld hx hb hX hbl hbA hS (law_in (j := 1) (by decide) (by omega) hL) dL_law_913 ?_
      refine lv_aload_n hx hb dL_law_914 rfl (lv_at hl 0 rfl) ?_
      refine lv_iload_n hx hb dL_law_915 rfl (lv_at hl 3 rfl) ?_
      refine lv_iconst (v := 2) hx hb dL_law_916 (by decide) ?_
      refine lv_iadd hx hb dL_law_917 ?_
      refine va_sld hx hb hX hbl hbA hS (law_in (j := 2) (by decide) (by omega) hL) dL_law_918 ?_
      refine z_cV hC hl.1 hw hS (As := [.int (xs (nI i + 1).toNatClampNeg), .int (xs (nI i + 2).toNatClampNeg)]) (rest := [.int r]) (a := 259) (m_X12_bill l E h2) (ci := 11) (ks := ksM) rfl rfl gc416 gc417 ⟨(Nat.le_of_ble_eq_true rfl), (Nat.le_of_ble_eq_true rfl)⟩ ⟨hcs.1, hcs.2⟩ rfl rfl (Nat.le_of_ble_eq_true rfl) dL_law_919 (fun H locs hw hS => ?_)
      exact lv_icmp_eq (tgt := 1280) hx hb dL_law_922 (by decide) (fun _ => fin σ2 hI2 _ _ ls hl hw hS) (fun hq => absurd rfl hq)
    by_cases hk25 : (xs (nI i).toNatClampNeg &&& 63) = 25
    · refine lv_tableIn (off := 894) (tgt := 927) hx hb dL_law_33 (by rw [hk25]; decide) (by rw [hk25]; decide) (by rw [hk25]; rfl) (by decide) ?_
      obtain ⟨r, σ1, σ2, h1, h2, hI2⟩ := hI.2.2.2.2.2.2.2.2.2.2.2.2.2.2.2.2.2.2.2.2.2.2.2.2.2.1 (xs (nI i + 1).toNatClampNeg) (xs (nI i + 2).toNatClampNeg) (xs (nI i + 3).toNatClampNeg) (xs (nI i + 4).toNatClampNeg) (xs (nI i + 5).toNatClampNeg) σ hInv
      refine lv_aload_n hx hb dL_law_927 rfl (lv_at hl 1 rfl) ?_
      refine lv_aload_n hx hb dL_law_928 rfl (lv_at hl 0 rfl) ?_
      refine lv_iload_n hx hb dL_law_929 rfl (lv_at hl 3 rfl) ?_
      refine lv_iconst (v := 1) hx hb dL_law_930 (by decide) ?_
      refine lv_iadd hx hb dL_law_931 ?_
      refine va_sld hx hb hX hbl hbA hS (law_in (j := 1) (by decide) (by omega) hL) dL_law_932 ?_
      refine lv_aload_n hx hb dL_law_933 rfl (lv_at hl 0 rfl) ?_
      refine lv_iload_n hx hb dL_law_934 rfl (lv_at hl 3 rfl) ?_
      refine lv_iconst (v := 2) hx hb dL_law_935 (by decide) ?_
      refine lv_iadd hx hb dL_law_936 ?_
      refine va_sld hx hb hX hbl hbA hS (law_in (j := 2) (by decide) (by omega) hL) dL_law_937 ?_
      refine lv_aload_n hx hb dL_law_938 rfl (lv_at hl 0 rfl) ?_
      refine lv_iload_n hx hb dL_law_939 rfl (lv_at hl 3 rfl) ?_
      refine lv_iconst (v := 3) hx hb dL_law_940 (by decide) ?_
      refine lv_iadd hx hb dL_law_941 ?_
      refine va_sld hx hb hX hbl hbA hS (law_in (j := 3) (by decide) (by omega) hL) dL_law_942 ?_
      refine lv_aload_n hx hb dL_law_943 rfl (lv_at hl 0 rfl) ?_
      refine lv_iload_n hx hb dL_law_944 rfl (lv_at hl 3 rfl) ?_
      refine lv_iconst (v := 4) hx hb dL_law_945 (by decide) ?_
      refine lv_iadd hx hb dL_law_946 ?_
      refine va_sld hx hb hX hbl hbA hS (law_in (j := 4) (by decide) (by omega) hL) dL_law_947 ?_
      refine lv_aload_n hx hb dL_law_948 rfl (lv_at hl 0 rfl) ?_
      refine lv_iload_n hx hb dL_law_949 rfl (lv_at hl 3 rfl) ?_
      refine lv_iconst (v := 5) hx hb dL_law_950 (by decide) ?_
      refine lv_iadd hx hb dL_law_951 ?_
      refine va_sld hx hb hX hbl hbA hS (law_in (j := 5) (by decide) (by omega) hL) dL_law_952 ?_
      refine z_cV hC hl.1 hw hS (As := [.int (xs (nI i + 1).toNatClampNeg), .int (xs (nI i + 2).toNatClampNeg), .int (xs (nI i + 3).toNatClampNeg), .int (xs (nI i + 4).toNatClampNeg), .int (xs (nI i + 5).toNatClampNeg)]) (rest := []) (a := 0) (m_X11_fits l E h1) (ci := 10) (ks := ksX) rfl rfl gc418 gc419 ⟨(Nat.le_of_ble_eq_true rfl), (Nat.le_of_ble_eq_true rfl)⟩ ⟨hcs.1, hcs.2⟩ rfl rfl (Nat.le_of_ble_eq_true rfl) dL_law_953 (fun H locs hw hS => ?_)
      refine lv_aload_n hx hb dL_law_956 rfl (lv_at hl 2 rfl) ?_
      refine lv_aload_n hx hb dL_law_957 rfl (lv_at hl 0 rfl) ?_
      refine lv_iload_n hx hb dL_law_958 rfl (lv_at hl 3 rfl) ?_
      refine lv_iconst (v := 1) hx hb dL_law_959 (by decide) ?_
      refine lv_iadd hx hb dL_law_960 ?_
      refine va_sld hx hb hX hbl hbA hS (law_in (j := 1) (by decide) (by omega) hL) dL_law_961 ?_
      refine lv_aload_n hx hb dL_law_962 rfl (lv_at hl 0 rfl) ?_
      refine lv_iload_n hx hb dL_law_963 rfl (lv_at hl 3 rfl) ?_
      refine lv_iconst (v := 2) hx hb dL_law_964 (by decide) ?_
      refine lv_iadd hx hb dL_law_965 ?_
      refine va_sld hx hb hX hbl hbA hS (law_in (j := 2) (by decide) (by omega) hL) dL_law_966 ?_
      refine lv_aload_n hx hb dL_law_967 rfl (lv_at hl 0 rfl) ?_
      refine lv_iload_n hx hb dL_law_968 rfl (lv_at hl 3 rfl) ?_
      refine lv_iconst (v := 3) hx hb dL_law_969 (by decide) ?_
      refine lv_iadd hx hb dL_law_970 ?_
      refine va_sld hx hb hX hbl hbA hS (law_in (j := 3) (by decide) (by omega) hL) dL_law_971 ?_
      refine lv_aload_n hx hb dL_law_972 rfl (lv_at hl 0 rfl) ?_
      refine lv_iload_n hx hb dL_law_973 rfl (lv_at hl 3 rfl) ?_
      refine lv_iconst (v := 4) hx hb dL_law_974 (by decide) ?_
      refine lv_iadd hx hb dL_law_975 ?_
      refine va_sld hx hb hX hbl hbA hS (law_in (j := 4) (by decide) (by omega) hL) dL_law_976 ?_
      refine lv_aload_n hx hb dL_law_977 rfl (lv_at hl 0 rfl) ?_
      refine lv_iload_n hx hb dL_law_978 rfl (lv_at hl 3 rfl) ?_
      refine lv_iconst (v := 5) hx hb dL_law_979 (by decide) ?_
      refine lv_iadd hx hb dL_law_980 ?_
      refine va_sld hx hb hX hbl hbA hS (law_in (j := 5) (by decide) (by omega) hL) dL_law_981 ?_
      refine z_cV hC hl.1 hw hS (As := [.int (xs (nI i + 1).toNatClampNeg), .int (xs (nI i + 2).toNatClampNeg), .int (xs (nI i + 3).toNatClampNeg), .int (xs (nI i + 4).toNatClampNeg), .int (xs (nI i + 5).toNatClampNeg)]) (rest := [.int r]) (a := 259) (m_X12_fits l E h2) (ci := 11) (ks := ksM) rfl rfl gc420 gc421 ⟨(Nat.le_of_ble_eq_true rfl), (Nat.le_of_ble_eq_true rfl)⟩ ⟨hcs.1, hcs.2⟩ rfl rfl (Nat.le_of_ble_eq_true rfl) dL_law_982 (fun H locs hw hS => ?_)
      exact lv_icmp_eq (tgt := 1280) hx hb dL_law_985 (by decide) (fun _ => fin σ2 hI2 _ _ ls hl hw hS) (fun hq => absurd rfl hq)
    by_cases hk26 : (xs (nI i).toNatClampNeg &&& 63) = 26
    · refine lv_tableIn (off := 957) (tgt := 990) hx hb dL_law_33 (by rw [hk26]; decide) (by rw [hk26]; decide) (by rw [hk26]; rfl) (by decide) ?_
      obtain ⟨r, σ1, σ2, h1, h2, hI2⟩ := hI.2.2.2.2.2.2.2.2.2.2.2.2.2.2.2.2.2.2.2.2.2.2.2.2.2.2.1 (xs (nI i + 1).toNatClampNeg) (xs (nI i + 2).toNatClampNeg) (xs (nI i + 3).toNatClampNeg) (xs (nI i + 4).toNatClampNeg) σ hInv
      refine lv_aload_n hx hb dL_law_990 rfl (lv_at hl 1 rfl) ?_
      refine lv_aload_n hx hb dL_law_991 rfl (lv_at hl 0 rfl) ?_
      refine lv_iload_n hx hb dL_law_992 rfl (lv_at hl 3 rfl) ?_
      refine lv_iconst (v := 1) hx hb dL_law_993 (by decide) ?_
      refine lv_iadd hx hb dL_law_994 ?_
      refine va_sld hx hb hX hbl hbA hS (law_in (j := 1) (by decide) (by omega) hL) dL_law_995 ?_
      refine lv_aload_n hx hb dL_law_996 rfl (lv_at hl 0 rfl) ?_
      refine lv_iload_n hx hb dL_law_997 rfl (lv_at hl 3 rfl) ?_
      refine lv_iconst (v := 2) hx hb dL_law_998 (by decide) ?_
      refine lv_iadd hx hb dL_law_999 ?_
      refine va_sld hx hb hX hbl hbA hS (law_in (j := 2) (by decide) (by omega) hL) dL_law_1000 ?_
      refine lv_aload_n hx hb dL_law_1001 rfl (lv_at hl 0 rfl) ?_
      refine lv_iload_n hx hb dL_law_1002 rfl (lv_at hl 3 rfl) ?_
      refine lv_iconst (v := 3) hx hb dL_law_1003 (by decide) ?_
      refine lv_iadd hx hb dL_law_1004 ?_
      refine va_sld hx hb hX hbl hbA hS (law_in (j := 3) (by decide) (by omega) hL) dL_law_1005 ?_
      refine lv_aload_n hx hb dL_law_1006 rfl (lv_at hl 0 rfl) ?_
      refine lv_iload_n hx hb dL_law_1007 rfl (lv_at hl 3 rfl) ?_
      refine lv_iconst (v := 4) hx hb dL_law_1008 (by decide) ?_
      refine lv_iadd hx hb dL_law_1009 ?_
      refine va_sld hx hb hX hbl hbA hS (law_in (j := 4) (by decide) (by omega) hL) dL_law_1010 ?_
      refine z_cV hC hl.1 hw hS (As := [.int (xs (nI i + 1).toNatClampNeg), .int (xs (nI i + 2).toNatClampNeg), .int (xs (nI i + 3).toNatClampNeg), .int (xs (nI i + 4).toNatClampNeg)]) (rest := []) (a := 0) (m_X11_chance l E h1) (ci := 10) (ks := ksX) rfl rfl gc422 gc423 ⟨(Nat.le_of_ble_eq_true rfl), (Nat.le_of_ble_eq_true rfl)⟩ ⟨hcs.1, hcs.2⟩ rfl rfl (Nat.le_of_ble_eq_true rfl) dL_law_1011 (fun H locs hw hS => ?_)
      refine lv_aload_n hx hb dL_law_1014 rfl (lv_at hl 2 rfl) ?_
      refine lv_aload_n hx hb dL_law_1015 rfl (lv_at hl 0 rfl) ?_
      refine lv_iload_n hx hb dL_law_1016 rfl (lv_at hl 3 rfl) ?_
      refine lv_iconst (v := 1) hx hb dL_law_1017 (by decide) ?_
      refine lv_iadd hx hb dL_law_1018 ?_
      refine va_sld hx hb hX hbl hbA hS (law_in (j := 1) (by decide) (by omega) hL) dL_law_1019 ?_
      refine lv_aload_n hx hb dL_law_1020 rfl (lv_at hl 0 rfl) ?_
      refine lv_iload_n hx hb dL_law_1021 rfl (lv_at hl 3 rfl) ?_
      refine lv_iconst (v := 2) hx hb dL_law_1022 (by decide) ?_
      refine lv_iadd hx hb dL_law_1023 ?_
      refine va_sld hx hb hX hbl hbA hS (law_in (j := 2) (by decide) (by omega) hL) dL_law_1024 ?_
      refine lv_aload_n hx hb dL_law_1025 rfl (lv_at hl 0 rfl) ?_
      refine lv_iload_n hx hb dL_law_1026 rfl (lv_at hl 3 rfl) ?_
      refine lv_iconst (v := 3) hx hb dL_law_1027 (by decide) ?_
      refine lv_iadd hx hb dL_law_1028 ?_
      refine va_sld hx hb hX hbl hbA hS (law_in (j := 3) (by decide) (by omega) hL) dL_law_1029 ?_
      refine lv_aload_n hx hb dL_law_1030 rfl (lv_at hl 0 rfl) ?_
      refine lv_iload_n hx hb dL_law_1031 rfl (lv_at hl 3 rfl) ?_
      refine lv_iconst (v := 4) hx hb dL_law_1032 (by decide) ?_
      refine lv_iadd hx hb dL_law_1033 ?_
      refine va_sld hx hb hX hbl hbA hS (law_in (j := 4) (by decide) (by omega) hL) dL_law_1034 ?_
      refine z_cV hC hl.1 hw hS (As := [.int (xs (nI i + 1).toNatClampNeg), .int (xs (nI i + 2).toNatClampNeg), .int (xs (nI i + 3).toNatClampNeg), .int (xs (nI i + 4).toNatClampNeg)]) (rest := [.int r]) (a := 259) (m_X12_chance l E h2) (ci := 11) (ks := ksM) rfl rfl gc424 gc425 ⟨(Nat.le_of_ble_eq_true rfl), (Nat.le_of_ble_eq_true rfl)⟩ ⟨hcs.1, hcs.2⟩ rfl rfl (Nat.le_of_ble_eq_true rfl) dL_law_1035 (fun H locs hw hS => ?_)
      exact lv_icmp_eq (tgt := 1280) hx hb dL_law_1038 (by decide) (fun _ => fin σ2 hI2 _ _ ls hl hw hS) (fun hq => absurd rfl hq)
    by_cases hk27 : (xs (nI i).toNatClampNeg &&& 63) = 27
    · refine lv_tableIn (off := 1010) (tgt := 1043) hx hb dL_law_33 (by rw [hk27]; decide) (by rw [hk27]; decide) (by rw [hk27]; rfl) (by decide) ?_
      obtain ⟨r, σ1, σ2, h1, h2, hI2⟩ := hI.2.2.2.2.2.2.2.2.2.2.2.2.2.2.2.2.2.2.2.2.2.2.2.2.2.2.2.1 (xs (nI i + 1).toNatClampNeg) (xs (nI i + 2).toNatClampNeg) (xs (nI i + 3).toNatClampNeg) σ hInv
      refine lv_aload_n hx hb dL_law_1043 rfl (lv_at hl 1 rfl) ?_
      refine lv_aload_n hx hb dL_law_1044 rfl (lv_at hl 0 rfl) ?_
      refine lv_iload_n hx hb dL_law_1045 rfl (lv_at hl 3 rfl) ?_
      refine lv_iconst (v := 1) hx hb dL_law_1046 (by decide) ?_
      refine lv_iadd hx hb dL_law_1047 ?_
      refine va_sld hx hb hX hbl hbA hS (law_in (j := 1) (by decide) (by omega) hL) dL_law_1048 ?_
      refine lv_aload_n hx hb dL_law_1049 rfl (lv_at hl 0 rfl) ?_
      refine lv_iload_n hx hb dL_law_1050 rfl (lv_at hl 3 rfl) ?_
      refine lv_iconst (v := 2) hx hb dL_law_1051 (by decide) ?_
      refine lv_iadd hx hb dL_law_1052 ?_
      refine va_sld hx hb hX hbl hbA hS (law_in (j := 2) (by decide) (by omega) hL) dL_law_1053 ?_
      refine lv_aload_n hx hb dL_law_1054 rfl (lv_at hl 0 rfl) ?_
      refine lv_iload_n hx hb dL_law_1055 rfl (lv_at hl 3 rfl) ?_
      refine lv_iconst (v := 3) hx hb dL_law_1056 (by decide) ?_
      refine lv_iadd hx hb dL_law_1057 ?_
      refine va_sld hx hb hX hbl hbA hS (law_in (j := 3) (by decide) (by omega) hL) dL_law_1058 ?_
      refine z_cV hC hl.1 hw hS (As := [.int (xs (nI i + 1).toNatClampNeg), .int (xs (nI i + 2).toNatClampNeg), .int (xs (nI i + 3).toNatClampNeg)]) (rest := []) (a := 0) (m_X11_drawn l E h1) (ci := 10) (ks := ksX) rfl rfl gc426 gc427 ⟨(Nat.le_of_ble_eq_true rfl), (Nat.le_of_ble_eq_true rfl)⟩ ⟨hcs.1, hcs.2⟩ rfl rfl (Nat.le_of_ble_eq_true rfl) dL_law_1059 (fun H locs hw hS => ?_)
      refine lv_aload_n hx hb dL_law_1062 rfl (lv_at hl 2 rfl) ?_
      refine lv_aload_n hx hb dL_law_1063 rfl (lv_at hl 0 rfl) ?_
      refine lv_iload_n hx hb dL_law_1064 rfl (lv_at hl 3 rfl) ?_
      refine lv_iconst (v := 1) hx hb dL_law_1065 (by decide) ?_
      refine lv_iadd hx hb dL_law_1066 ?_
      refine va_sld hx hb hX hbl hbA hS (law_in (j := 1) (by decide) (by omega) hL) dL_law_1067 ?_
      refine lv_aload_n hx hb dL_law_1068 rfl (lv_at hl 0 rfl) ?_
      refine lv_iload_n hx hb dL_law_1069 rfl (lv_at hl 3 rfl) ?_
      refine lv_iconst (v := 2) hx hb dL_law_1070 (by decide) ?_
      refine lv_iadd hx hb dL_law_1071 ?_
      refine va_sld hx hb hX hbl hbA hS (law_in (j := 2) (by decide) (by omega) hL) dL_law_1072 ?_
      refine lv_aload_n hx hb dL_law_1073 rfl (lv_at hl 0 rfl) ?_
      refine lv_iload_n hx hb dL_law_1074 rfl (lv_at hl 3 rfl) ?_
      refine lv_iconst (v := 3) hx hb dL_law_1075 (by decide) ?_
      refine lv_iadd hx hb dL_law_1076 ?_
      refine va_sld hx hb hX hbl hbA hS (law_in (j := 3) (by decide) (by omega) hL) dL_law_1077 ?_
      refine z_cV hC hl.1 hw hS (As := [.int (xs (nI i + 1).toNatClampNeg), .int (xs (nI i + 2).toNatClampNeg), .int (xs (nI i + 3).toNatClampNeg)]) (rest := [.int r]) (a := 259) (m_X12_drawn l E h2) (ci := 11) (ks := ksM) rfl rfl gc428 gc429 ⟨(Nat.le_of_ble_eq_true rfl), (Nat.le_of_ble_eq_true rfl)⟩ ⟨hcs.1, hcs.2⟩ rfl rfl (Nat.le_of_ble_eq_true rfl) dL_law_1078 (fun H locs hw hS => ?_)
      exact lv_icmp_eq (tgt := 1280) hx hb dL_law_1081 (by decide) (fun _ => fin σ2 hI2 _ _ ls hl hw hS) (fun hq => absurd rfl hq)
    by_cases hk28 : (xs (nI i).toNatClampNeg &&& 63) = 28
    · refine lv_tableIn (off := 1053) (tgt := 1086) hx hb dL_law_33 (by rw [hk28]; decide) (by rw [hk28]; decide) (by rw [hk28]; rfl) (by decide) ?_
      obtain ⟨r, σ1, σ2, h1, h2, hI2⟩ := hI.2.2.2.2.2.2.2.2.2.2.2.2.2.2.2.2.2.2.2.2.2.2.2.2.2.2.2.2.1 (xs (nI i + 1).toNatClampNeg) σ hInv
      refine lv_aload_n hx hb dL_law_1086 rfl (lv_at hl 1 rfl) ?_
      refine lv_aload_n hx hb dL_law_1087 rfl (lv_at hl 0 rfl) ?_
      refine lv_iload_n hx hb dL_law_1088 rfl (lv_at hl 3 rfl) ?_
      refine lv_iconst (v := 1) hx hb dL_law_1089 (by decide) ?_
      refine lv_iadd hx hb dL_law_1090 ?_
      refine va_sld hx hb hX hbl hbA hS (law_in (j := 1) (by decide) (by omega) hL) dL_law_1091 ?_
      refine z_cV hC hl.1 hw hS (As := [.int (xs (nI i + 1).toNatClampNeg)]) (rest := []) (a := 0) (m_X11_image l E h1) (ci := 10) (ks := ksX) rfl rfl gc430 gc431 ⟨(Nat.le_of_ble_eq_true rfl), (Nat.le_of_ble_eq_true rfl)⟩ ⟨hcs.1, hcs.2⟩ rfl rfl (Nat.le_of_ble_eq_true rfl) dL_law_1092 (fun H locs hw hS => ?_)
      refine lv_aload_n hx hb dL_law_1095 rfl (lv_at hl 2 rfl) ?_
      refine lv_aload_n hx hb dL_law_1096 rfl (lv_at hl 0 rfl) ?_
      refine lv_iload_n hx hb dL_law_1097 rfl (lv_at hl 3 rfl) ?_
      refine lv_iconst (v := 1) hx hb dL_law_1098 (by decide) ?_
      refine lv_iadd hx hb dL_law_1099 ?_
      refine va_sld hx hb hX hbl hbA hS (law_in (j := 1) (by decide) (by omega) hL) dL_law_1100 ?_
      refine z_cV hC hl.1 hw hS (As := [.int (xs (nI i + 1).toNatClampNeg)]) (rest := [.int r]) (a := 259) (m_X12_image l E h2) (ci := 11) (ks := ksM) rfl rfl gc432 gc433 ⟨(Nat.le_of_ble_eq_true rfl), (Nat.le_of_ble_eq_true rfl)⟩ ⟨hcs.1, hcs.2⟩ rfl rfl (Nat.le_of_ble_eq_true rfl) dL_law_1101 (fun H locs hw hS => ?_)
      exact lv_icmp_eq (tgt := 1280) hx hb dL_law_1104 (by decide) (fun _ => fin σ2 hI2 _ _ ls hl hw hS) (fun hq => absurd rfl hq)
    by_cases hk29 : (xs (nI i).toNatClampNeg &&& 63) = 29
    · refine lv_tableIn (off := 1076) (tgt := 1109) hx hb dL_law_33 (by rw [hk29]; decide) (by rw [hk29]; decide) (by rw [hk29]; rfl) (by decide) ?_
      obtain ⟨r, σ1, σ2, h1, h2, hI2⟩ := hI.2.2.2.2.2.2.2.2.2.2.2.2.2.2.2.2.2.2.2.2.2.2.2.2.2.2.2.2.2.1 (xs (nI i + 1).toNatClampNeg) σ hInv
      refine lv_aload_n hx hb dL_law_1109 rfl (lv_at hl 1 rfl) ?_
      refine lv_aload_n hx hb dL_law_1110 rfl (lv_at hl 0 rfl) ?_
      refine lv_iload_n hx hb dL_law_1111 rfl (lv_at hl 3 rfl) ?_
      refine lv_iconst (v := 1) hx hb dL_law_1112 (by decide) ?_
      refine lv_iadd hx hb dL_law_1113 ?_
      refine va_sld hx hb hX hbl hbA hS (law_in (j := 1) (by decide) (by omega) hL) dL_law_1114 ?_
      refine z_cV hC hl.1 hw hS (As := [.int (xs (nI i + 1).toNatClampNeg)]) (rest := []) (a := 0) (m_X11_restore l E h1) (ci := 10) (ks := ksX) rfl rfl gc434 gc435 ⟨(Nat.le_of_ble_eq_true rfl), (Nat.le_of_ble_eq_true rfl)⟩ ⟨hcs.1, hcs.2⟩ rfl rfl (Nat.le_of_ble_eq_true rfl) dL_law_1115 (fun H locs hw hS => ?_)
      refine lv_aload_n hx hb dL_law_1118 rfl (lv_at hl 2 rfl) ?_
      refine lv_aload_n hx hb dL_law_1119 rfl (lv_at hl 0 rfl) ?_
      refine lv_iload_n hx hb dL_law_1120 rfl (lv_at hl 3 rfl) ?_
      refine lv_iconst (v := 1) hx hb dL_law_1121 (by decide) ?_
      refine lv_iadd hx hb dL_law_1122 ?_
      refine va_sld hx hb hX hbl hbA hS (law_in (j := 1) (by decide) (by omega) hL) dL_law_1123 ?_
      refine z_cV hC hl.1 hw hS (As := [.int (xs (nI i + 1).toNatClampNeg)]) (rest := [.int r]) (a := 259) (m_X12_restore l E h2) (ci := 11) (ks := ksM) rfl rfl gc436 gc437 ⟨(Nat.le_of_ble_eq_true rfl), (Nat.le_of_ble_eq_true rfl)⟩ ⟨hcs.1, hcs.2⟩ rfl rfl (Nat.le_of_ble_eq_true rfl) dL_law_1124 (fun H locs hw hS => ?_)
      exact lv_icmp_eq (tgt := 1280) hx hb dL_law_1127 (by decide) (fun _ => fin σ2 hI2 _ _ ls hl hw hS) (fun hq => absurd rfl hq)
    by_cases hk30 : (xs (nI i).toNatClampNeg &&& 63) = 30
    · refine lv_tableIn (off := 1099) (tgt := 1132) hx hb dL_law_33 (by rw [hk30]; decide) (by rw [hk30]; decide) (by rw [hk30]; rfl) (by decide) ?_
      obtain ⟨r, σ1, σ2, h1, h2, hI2⟩ := hI.2.2.2.2.2.2.2.2.2.2.2.2.2.2.2.2.2.2.2.2.2.2.2.2.2.2.2.2.2.2.1 (xs (nI i + 1).toNatClampNeg) σ hInv
      refine lv_aload_n hx hb dL_law_1132 rfl (lv_at hl 1 rfl) ?_
      refine lv_aload_n hx hb dL_law_1133 rfl (lv_at hl 0 rfl) ?_
      refine lv_iload_n hx hb dL_law_1134 rfl (lv_at hl 3 rfl) ?_
      refine lv_iconst (v := 1) hx hb dL_law_1135 (by decide) ?_
      refine lv_iadd hx hb dL_law_1136 ?_
      refine va_sld hx hb hX hbl hbA hS (law_in (j := 1) (by decide) (by omega) hL) dL_law_1137 ?_
      refine z_cV hC hl.1 hw hS (As := [.int (xs (nI i + 1).toNatClampNeg)]) (rest := []) (a := 0) (m_X11_kind l E h1) (ci := 10) (ks := ksX) rfl rfl gc438 gc439 ⟨(Nat.le_of_ble_eq_true rfl), (Nat.le_of_ble_eq_true rfl)⟩ ⟨hcs.1, hcs.2⟩ rfl rfl (Nat.le_of_ble_eq_true rfl) dL_law_1138 (fun H locs hw hS => ?_)
      refine lv_aload_n hx hb dL_law_1141 rfl (lv_at hl 2 rfl) ?_
      refine lv_aload_n hx hb dL_law_1142 rfl (lv_at hl 0 rfl) ?_
      refine lv_iload_n hx hb dL_law_1143 rfl (lv_at hl 3 rfl) ?_
      refine lv_iconst (v := 1) hx hb dL_law_1144 (by decide) ?_
      refine lv_iadd hx hb dL_law_1145 ?_
      refine va_sld hx hb hX hbl hbA hS (law_in (j := 1) (by decide) (by omega) hL) dL_law_1146 ?_
      refine z_cV hC hl.1 hw hS (As := [.int (xs (nI i + 1).toNatClampNeg)]) (rest := [.int r]) (a := 259) (m_X12_kind l E h2) (ci := 11) (ks := ksM) rfl rfl gc440 gc441 ⟨(Nat.le_of_ble_eq_true rfl), (Nat.le_of_ble_eq_true rfl)⟩ ⟨hcs.1, hcs.2⟩ rfl rfl (Nat.le_of_ble_eq_true rfl) dL_law_1147 (fun H locs hw hS => ?_)
      exact lv_icmp_eq (tgt := 1280) hx hb dL_law_1150 (by decide) (fun _ => fin σ2 hI2 _ _ ls hl hw hS) (fun hq => absurd rfl hq)
    by_cases hk31 : (xs (nI i).toNatClampNeg &&& 63) = 31
    · refine lv_tableIn (off := 1122) (tgt := 1155) hx hb dL_law_33 (by rw [hk31]; decide) (by rw [hk31]; decide) (by rw [hk31]; rfl) (by decide) ?_
      obtain ⟨r, σ1, σ2, h1, h2, hI2⟩ := hI.2.2.2.2.2.2.2.2.2.2.2.2.2.2.2.2.2.2.2.2.2.2.2.2.2.2.2.2.2.2.2.1 (xs (nI i + 1).toNatClampNeg) (xs (nI i + 2).toNatClampNeg) σ hInv
      refine lv_aload_n hx hb dL_law_1155 rfl (lv_at hl 1 rfl) ?_
      refine lv_aload_n hx hb dL_law_1156 rfl (lv_at hl 0 rfl) ?_
      refine lv_iload_n hx hb dL_law_1157 rfl (lv_at hl 3 rfl) ?_
      refine lv_iconst (v := 1) hx hb dL_law_1158 (by decide) ?_
      refine lv_iadd hx hb dL_law_1159 ?_
      refine va_sld hx hb hX hbl hbA hS (law_in (j := 1) (by decide) (by omega) hL) dL_law_1160 ?_
      refine lv_aload_n hx hb dL_law_1161 rfl (lv_at hl 0 rfl) ?_
      refine lv_iload_n hx hb dL_law_1162 rfl (lv_at hl 3 rfl) ?_
      refine lv_iconst (v := 2) hx hb dL_law_1163 (by decide) ?_
      refine lv_iadd hx hb dL_law_1164 ?_
      refine va_sld hx hb hX hbl hbA hS (law_in (j := 2) (by decide) (by omega) hL) dL_law_1165 ?_
      refine z_cV hC hl.1 hw hS (As := [.int (xs (nI i + 1).toNatClampNeg), .int (xs (nI i + 2).toNatClampNeg)]) (rest := []) (a := 0) (m_X11_as l E h1) (ci := 10) (ks := ksX) rfl rfl gc442 gc443 ⟨(Nat.le_of_ble_eq_true rfl), (Nat.le_of_ble_eq_true rfl)⟩ ⟨hcs.1, hcs.2⟩ rfl rfl (Nat.le_of_ble_eq_true rfl) dL_law_1166 (fun H locs hw hS => ?_)
      refine lv_aload_n hx hb dL_law_1169 rfl (lv_at hl 2 rfl) ?_
      refine lv_aload_n hx hb dL_law_1170 rfl (lv_at hl 0 rfl) ?_
      refine lv_iload_n hx hb dL_law_1171 rfl (lv_at hl 3 rfl) ?_
      refine lv_iconst (v := 1) hx hb dL_law_1172 (by decide) ?_
      refine lv_iadd hx hb dL_law_1173 ?_
      refine va_sld hx hb hX hbl hbA hS (law_in (j := 1) (by decide) (by omega) hL) dL_law_1174 ?_
      refine lv_aload_n hx hb dL_law_1175 rfl (lv_at hl 0 rfl) ?_
      refine lv_iload_n hx hb dL_law_1176 rfl (lv_at hl 3 rfl) ?_
      refine lv_iconst (v := 2) hx hb dL_law_1177 (by decide) ?_
      refine lv_iadd hx hb dL_law_1178 ?_
      refine va_sld hx hb hX hbl hbA hS (law_in (j := 2) (by decide) (by omega) hL) dL_law_1179 ?_
      refine z_cV hC hl.1 hw hS (As := [.int (xs (nI i + 1).toNatClampNeg), .int (xs (nI i + 2).toNatClampNeg)]) (rest := [.int r]) (a := 259) (m_X12_as l E h2) (ci := 11) (ks := ksM) rfl rfl gc444 gc445 ⟨(Nat.le_of_ble_eq_true rfl), (Nat.le_of_ble_eq_true rfl)⟩ ⟨hcs.1, hcs.2⟩ rfl rfl (Nat.le_of_ble_eq_true rfl) dL_law_1180 (fun H locs hw hS => ?_)
      exact lv_icmp_eq (tgt := 1280) hx hb dL_law_1183 (by decide) (fun _ => fin σ2 hI2 _ _ ls hl hw hS) (fun hq => absurd rfl hq)
    by_cases hk32 : (xs (nI i).toNatClampNeg &&& 63) = 32
    · refine lv_tableIn (off := 1155) (tgt := 1188) hx hb dL_law_33 (by rw [hk32]; decide) (by rw [hk32]; decide) (by rw [hk32]; rfl) (by decide) ?_
      obtain ⟨r, σ1, σ2, h1, h2, hI2⟩ := hI.2.2.2.2.2.2.2.2.2.2.2.2.2.2.2.2.2.2.2.2.2.2.2.2.2.2.2.2.2.2.2.2.1 (xs (nI i + 1).toNatClampNeg) (xs (nI i + 2).toNatClampNeg) σ hInv
      refine lv_aload_n hx hb dL_law_1188 rfl (lv_at hl 1 rfl) ?_
      refine lv_aload_n hx hb dL_law_1189 rfl (lv_at hl 0 rfl) ?_
      refine lv_iload_n hx hb dL_law_1190 rfl (lv_at hl 3 rfl) ?_
      refine lv_iconst (v := 1) hx hb dL_law_1191 (by decide) ?_
      refine lv_iadd hx hb dL_law_1192 ?_
      refine va_sld hx hb hX hbl hbA hS (law_in (j := 1) (by decide) (by omega) hL) dL_law_1193 ?_
      refine lv_aload_n hx hb dL_law_1194 rfl (lv_at hl 0 rfl) ?_
      refine lv_iload_n hx hb dL_law_1195 rfl (lv_at hl 3 rfl) ?_
      refine lv_iconst (v := 2) hx hb dL_law_1196 (by decide) ?_
      refine lv_iadd hx hb dL_law_1197 ?_
      refine va_sld hx hb hX hbl hbA hS (law_in (j := 2) (by decide) (by omega) hL) dL_law_1198 ?_
      refine z_cV hC hl.1 hw hS (As := [.int (xs (nI i + 1).toNatClampNeg), .int (xs (nI i + 2).toNatClampNeg)]) (rest := []) (a := 0) (m_X11_ask l E h1) (ci := 10) (ks := ksX) rfl rfl gc446 gc447 ⟨(Nat.le_of_ble_eq_true rfl), (Nat.le_of_ble_eq_true rfl)⟩ ⟨hcs.1, hcs.2⟩ rfl rfl (Nat.le_of_ble_eq_true rfl) dL_law_1199 (fun H locs hw hS => ?_)
      refine lv_aload_n hx hb dL_law_1202 rfl (lv_at hl 2 rfl) ?_
      refine lv_aload_n hx hb dL_law_1203 rfl (lv_at hl 0 rfl) ?_
      refine lv_iload_n hx hb dL_law_1204 rfl (lv_at hl 3 rfl) ?_
      refine lv_iconst (v := 1) hx hb dL_law_1205 (by decide) ?_
      refine lv_iadd hx hb dL_law_1206 ?_
      refine va_sld hx hb hX hbl hbA hS (law_in (j := 1) (by decide) (by omega) hL) dL_law_1207 ?_
      refine lv_aload_n hx hb dL_law_1208 rfl (lv_at hl 0 rfl) ?_
      refine lv_iload_n hx hb dL_law_1209 rfl (lv_at hl 3 rfl) ?_
      refine lv_iconst (v := 2) hx hb dL_law_1210 (by decide) ?_
      refine lv_iadd hx hb dL_law_1211 ?_
      refine va_sld hx hb hX hbl hbA hS (law_in (j := 2) (by decide) (by omega) hL) dL_law_1212 ?_
      refine z_cV hC hl.1 hw hS (As := [.int (xs (nI i + 1).toNatClampNeg), .int (xs (nI i + 2).toNatClampNeg)]) (rest := [.int r]) (a := 259) (m_X12_ask l E h2) (ci := 11) (ks := ksM) rfl rfl gc448 gc449 ⟨(Nat.le_of_ble_eq_true rfl), (Nat.le_of_ble_eq_true rfl)⟩ ⟨hcs.1, hcs.2⟩ rfl rfl (Nat.le_of_ble_eq_true rfl) dL_law_1213 (fun H locs hw hS => ?_)
      exact lv_icmp_eq (tgt := 1280) hx hb dL_law_1216 (by decide) (fun _ => fin σ2 hI2 _ _ ls hl hw hS) (fun hq => absurd rfl hq)
    by_cases hk33 : (xs (nI i).toNatClampNeg &&& 63) = 33
    · refine lv_tableIn (off := 1188) (tgt := 1221) hx hb dL_law_33 (by rw [hk33]; decide) (by rw [hk33]; decide) (by rw [hk33]; rfl) (by decide) ?_
      obtain ⟨r, σ1, σ2, h1, h2, hI2⟩ := hI.2.2.2.2.2.2.2.2.2.2.2.2.2.2.2.2.2.2.2.2.2.2.2.2.2.2.2.2.2.2.2.2.2.1 (xs (nI i + 1).toNatClampNeg) σ hInv
      refine lv_aload_n hx hb dL_law_1221 rfl (lv_at hl 1 rfl) ?_
      refine lv_aload_n hx hb dL_law_1222 rfl (lv_at hl 0 rfl) ?_
      refine lv_iload_n hx hb dL_law_1223 rfl (lv_at hl 3 rfl) ?_
      refine lv_iconst (v := 1) hx hb dL_law_1224 (by decide) ?_
      refine lv_iadd hx hb dL_law_1225 ?_
      refine va_sld hx hb hX hbl hbA hS (law_in (j := 1) (by decide) (by omega) hL) dL_law_1226 ?_
      refine z_cV hC hl.1 hw hS (As := [.int (xs (nI i + 1).toNatClampNeg)]) (rest := []) (a := 0) (m_X11_trace l E h1) (ci := 10) (ks := ksX) rfl rfl gc450 gc451 ⟨(Nat.le_of_ble_eq_true rfl), (Nat.le_of_ble_eq_true rfl)⟩ ⟨hcs.1, hcs.2⟩ rfl rfl (Nat.le_of_ble_eq_true rfl) dL_law_1227 (fun H locs hw hS => ?_)
      refine lv_aload_n hx hb dL_law_1230 rfl (lv_at hl 2 rfl) ?_
      refine lv_aload_n hx hb dL_law_1231 rfl (lv_at hl 0 rfl) ?_
      refine lv_iload_n hx hb dL_law_1232 rfl (lv_at hl 3 rfl) ?_
      refine lv_iconst (v := 1) hx hb dL_law_1233 (by decide) ?_
      refine lv_iadd hx hb dL_law_1234 ?_
      refine va_sld hx hb hX hbl hbA hS (law_in (j := 1) (by decide) (by omega) hL) dL_law_1235 ?_
      refine z_cV hC hl.1 hw hS (As := [.int (xs (nI i + 1).toNatClampNeg)]) (rest := [.int r]) (a := 259) (m_X12_trace l E h2) (ci := 11) (ks := ksM) rfl rfl gc452 gc453 ⟨(Nat.le_of_ble_eq_true rfl), (Nat.le_of_ble_eq_true rfl)⟩ ⟨hcs.1, hcs.2⟩ rfl rfl (Nat.le_of_ble_eq_true rfl) dL_law_1236 (fun H locs hw hS => ?_)
      exact lv_icmp_eq (tgt := 1280) hx hb dL_law_1239 (by decide) (fun _ => fin σ2 hI2 _ _ ls hl hw hS) (fun hq => absurd rfl hq)
    by_cases hk34 : (xs (nI i).toNatClampNeg &&& 63) = 34
    · refine lv_tableIn (off := 1211) (tgt := 1244) hx hb dL_law_33 (by rw [hk34]; decide) (by rw [hk34]; decide) (by rw [hk34]; rfl) (by decide) ?_
      obtain ⟨r, σ1, σ2, h1, h2, hI2⟩ := hI.2.2.2.2.2.2.2.2.2.2.2.2.2.2.2.2.2.2.2.2.2.2.2.2.2.2.2.2.2.2.2.2.2.2.1 (xs (nI i + 1).toNatClampNeg) σ hInv
      refine lv_aload_n hx hb dL_law_1244 rfl (lv_at hl 1 rfl) ?_
      refine lv_aload_n hx hb dL_law_1245 rfl (lv_at hl 0 rfl) ?_
      refine lv_iload_n hx hb dL_law_1246 rfl (lv_at hl 3 rfl) ?_
      refine lv_iconst (v := 1) hx hb dL_law_1247 (by decide) ?_
      refine lv_iadd hx hb dL_law_1248 ?_
      refine va_sld hx hb hX hbl hbA hS (law_in (j := 1) (by decide) (by omega) hL) dL_law_1249 ?_
      refine z_cV hC hl.1 hw hS (As := [.int (xs (nI i + 1).toNatClampNeg)]) (rest := []) (a := 0) (m_X11_count l E h1) (ci := 10) (ks := ksX) rfl rfl gc454 gc455 ⟨(Nat.le_of_ble_eq_true rfl), (Nat.le_of_ble_eq_true rfl)⟩ ⟨hcs.1, hcs.2⟩ rfl rfl (Nat.le_of_ble_eq_true rfl) dL_law_1250 (fun H locs hw hS => ?_)
      refine lv_aload_n hx hb dL_law_1253 rfl (lv_at hl 2 rfl) ?_
      refine lv_aload_n hx hb dL_law_1254 rfl (lv_at hl 0 rfl) ?_
      refine lv_iload_n hx hb dL_law_1255 rfl (lv_at hl 3 rfl) ?_
      refine lv_iconst (v := 1) hx hb dL_law_1256 (by decide) ?_
      refine lv_iadd hx hb dL_law_1257 ?_
      refine va_sld hx hb hX hbl hbA hS (law_in (j := 1) (by decide) (by omega) hL) dL_law_1258 ?_
      refine z_cV hC hl.1 hw hS (As := [.int (xs (nI i + 1).toNatClampNeg)]) (rest := [.int r]) (a := 259) (m_X12_count l E h2) (ci := 11) (ks := ksM) rfl rfl gc456 gc457 ⟨(Nat.le_of_ble_eq_true rfl), (Nat.le_of_ble_eq_true rfl)⟩ ⟨hcs.1, hcs.2⟩ rfl rfl (Nat.le_of_ble_eq_true rfl) dL_law_1259 (fun H locs hw hS => ?_)
      exact lv_icmp_eq (tgt := 1280) hx hb dL_law_1262 (by decide) (fun _ => fin σ2 hI2 _ _ ls hl hw hS) (fun hq => absurd rfl hq)
    by_cases hk35 : (xs (nI i).toNatClampNeg &&& 63) = 35
    · refine lv_tableIn (off := 1234) (tgt := 1267) hx hb dL_law_33 (by rw [hk35]; decide) (by rw [hk35]; decide) (by rw [hk35]; rfl) (by decide) ?_
      obtain ⟨r, σ1, σ2, h1, h2, hI2⟩ := hI.2.2.2.2.2.2.2.2.2.2.2.2.2.2.2.2.2.2.2.2.2.2.2.2.2.2.2.2.2.2.2.2.2.2.2 σ hInv
      refine lv_aload_n hx hb dL_law_1267 rfl (lv_at hl 1 rfl) ?_
      refine z_cV hC hl.1 hw hS (As := []) (rest := []) (a := 0) (m_X11_status l E h1) (ci := 10) (ks := ksX) rfl rfl gc458 gc459 ⟨(Nat.le_of_ble_eq_true rfl), (Nat.le_of_ble_eq_true rfl)⟩ ⟨hcs.1, hcs.2⟩ rfl rfl (Nat.le_of_ble_eq_true rfl) dL_law_1268 (fun H locs hw hS => ?_)
      refine lv_aload_n hx hb dL_law_1271 rfl (lv_at hl 2 rfl) ?_
      refine z_cV hC hl.1 hw hS (As := []) (rest := [.int r]) (a := 259) (m_X12_status l E h2) (ci := 11) (ks := ksM) rfl rfl gc460 gc461 ⟨(Nat.le_of_ble_eq_true rfl), (Nat.le_of_ble_eq_true rfl)⟩ ⟨hcs.1, hcs.2⟩ rfl rfl (Nat.le_of_ble_eq_true rfl) dL_law_1272 (fun H locs hw hS => ?_)
      exact lv_icmp_eq (tgt := 1280) hx hb dL_law_1275 (by decide) (fun _ => fin σ2 hI2 _ _ ls hl hw hS) (fun hq => absurd rfl hq)
    refine lv_tableOut (tgt := 1280) hx hb dL_law_33 (by have q0 := lv_neT hk0 (by decide : (0 : Int32).toInt = 0); have q1 := lv_neT hk1 (by decide : (1 : Int32).toInt = 1); have q2 := lv_neT hk2 (by decide : (2 : Int32).toInt = 2); have q3 := lv_neT hk3 (by decide : (3 : Int32).toInt = 3); have q4 := lv_neT hk4 (by decide : (4 : Int32).toInt = 4); have q5 := lv_neT hk5 (by decide : (5 : Int32).toInt = 5); have q6 := lv_neT hk6 (by decide : (6 : Int32).toInt = 6); have q7 := lv_neT hk7 (by decide : (7 : Int32).toInt = 7); have q8 := lv_neT hk8 (by decide : (8 : Int32).toInt = 8); have q9 := lv_neT hk9 (by decide : (9 : Int32).toInt = 9); have q10 := lv_neT hk10 (by decide : (10 : Int32).toInt = 10); have q11 := lv_neT hk11 (by decide : (11 : Int32).toInt = 11); have q12 := lv_neT hk12 (by decide : (12 : Int32).toInt = 12); have q13 := lv_neT hk13 (by decide : (13 : Int32).toInt = 13); have q14 := lv_neT hk14 (by decide : (14 : Int32).toInt = 14); have q15 := lv_neT hk15 (by decide : (15 : Int32).toInt = 15); have q16 := lv_neT hk16 (by decide : (16 : Int32).toInt = 16); have q17 := lv_neT hk17 (by decide : (17 : Int32).toInt = 17); have q18 := lv_neT hk18 (by decide : (18 : Int32).toInt = 18); have q19 := lv_neT hk19 (by decide : (19 : Int32).toInt = 19); have q20 := lv_neT hk20 (by decide : (20 : Int32).toInt = 20); have q21 := lv_neT hk21 (by decide : (21 : Int32).toInt = 21); have q22 := lv_neT hk22 (by decide : (22 : Int32).toInt = 22); have q23 := lv_neT hk23 (by decide : (23 : Int32).toInt = 23); have q24 := lv_neT hk24 (by decide : (24 : Int32).toInt = 24); have q25 := lv_neT hk25 (by decide : (25 : Int32).toInt = 25); have q26 := lv_neT hk26 (by decide : (26 : Int32).toInt = 26); have q27 := lv_neT hk27 (by decide : (27 : Int32).toInt = 27); have q28 := lv_neT hk28 (by decide : (28 : Int32).toInt = 28); have q29 := lv_neT hk29 (by decide : (29 : Int32).toInt = 29); have q30 := lv_neT hk30 (by decide : (30 : Int32).toInt = 30); have q31 := lv_neT hk31 (by decide : (31 : Int32).toInt = 31); have q32 := lv_neT hk32 (by decide : (32 : Int32).toInt = 32); have q33 := lv_neT hk33 (by decide : (33 : Int32).toInt = 33); have q34 := lv_neT hk34 (by decide : (34 : Int32).toInt = 34); have q35 := lv_neT hk35 (by decide : (35 : Int32).toInt = 35); omega) (by decide) ?_
    exact fin σ hInv _ _ ls hl hw hS
