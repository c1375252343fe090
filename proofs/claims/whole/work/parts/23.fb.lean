set_option maxHeartbeats 8000000 in
set_option maxRecDepth 100000 in
theorem cc_X11_init_20 {p : Program} {l : Launch} {e : Env} {s : State} {m : MethodId} {args : Array Value} {below : List Frame} {meth : Method} {c : Code} {E : Ev} (hE : EvOk E) (hC : Cx p s m args c cX11_init 3 "FuseBox" E) (hNT : NT s) (hin2 : meth.name = "<init>") (hr : meth.sig.returnType = none) (hlocks : meth.locks = false) (hb0 : E.2.2.1 0 ≤ s.heap.size) (hz : s.heap.size + 0 ≤ E.2.2.1 0 + 1) {s134 sz : St} (fl0_0 : s134 0 0 = 1) (fl0_4 : s134 0 4 = 1) (fl0_5 : s134 0 5 = 1) (hf : f_X11_init_20 s134 = sz) : ∀ (H : Heap) (locs : List Loc) (ls : Array Slot), lv_has ls 3 [(2, .int (23)), (1, .ref (E.2.2.1 13)), (0, .ref (E.2.2.1 0))] → World E (shN 259) s134 H → va_S E.2.2.2 s.heap H locs → W p l e (rmc 4 258 2321) s m args below meth c H locs 258 2321 (MQ below (QW E (shN 259) none sz) args s 258 2321 E.2.2.2) (F0 m 218 ls []) := by
  intro H locs ls hl hw139 hS139
  obtain ⟨hx, hb, hml, hown, hts, hTB⟩ := id hC
  unfold f_X11_init_20 at hf
  refine lv_iinc (v := 24) (lv' := [(2, .int (24)), (1, .ref (E.2.2.1 13)), (0, .ref (E.2.2.1 0))]) hx hb dX11_init_218 hl (k := 0) rfl (by decide) (by decide) rfl (fun ls hl => ?_)
  refine z_at 221 rfl ?_
  refine lv_goto (tgt := 198) hx hb dX11_init_221 (by decide) ?_
  refine lv_iload_n hx hb dX11_init_198 rfl (lv_at hl 0 rfl) ?_
  refine z_at 199 rfl ?_
  refine lv_bipush (v := 24) hx hb dX11_init_199 (by decide) ?_
  refine z_at 201 rfl ?_
  refine lv_icmp_ge (tgt := 224) hx hb dX11_init_201 (by decide) (fun _ => ?_) (fun h9 => absurd (by decide) h9)
  subst hf
  exact zb_vret hC hlocks hw139 hS139 hr dX11_init_224
set_option maxHeartbeats 8000000 in
set_option maxRecDepth 100000 in
theorem cc_X11_init_19 {p : Program} {l : Launch} {e : Env} {s : State} {m : MethodId} {args : Array Value} {below : List Frame} {meth : Method} {c : Code} {E : Ev} (hE : EvOk E) (hC : Cx p s m args c cX11_init 3 "FuseBox" E) (hNT : NT s) (hin2 : meth.name = "<init>") (hr : meth.sig.returnType = none) (hlocks : meth.locks = false) (hb0 : E.2.2.1 0 ≤ s.heap.size) (hz : s.heap.size + 0 ≤ E.2.2.1 0 + 1) {s128 sz : St} (fl0_0 : s128 0 0 = 1) (fl0_4 : s128 0 4 = 1) (fl0_5 : s128 0 5 = 1) (hf : f_X11_init_19 s128 = sz) : ∀ (H : Heap) (locs : List Loc) (ls : Array Slot), lv_has ls 3 [(2, .int (21)), (1, .ref (E.2.2.1 13)), (0, .ref (E.2.2.1 0))] → World E (shN 243) s128 H → va_S E.2.2.2 s.heap H locs → W p l e (rmc 4 258 2321) s m args below meth c H locs 242 2227 (MQ below (QW E (shN 259) none sz) args s 258 2321 E.2.2.2) (F0 m 218 ls []) := by
  intro H locs ls hl hw133 hS133
  obtain ⟨hx, hb, hml, hown, hts, hTB⟩ := id hC
  unfold f_X11_init_19 at hf
  refine lv_iinc (v := 22) (lv' := [(2, .int (22)), (1, .ref (E.2.2.1 13)), (0, .ref (E.2.2.1 0))]) hx hb dX11_init_218 hl (k := 0) rfl (by decide) (by decide) rfl (fun ls hl => ?_)
  refine z_at 221 rfl ?_
  refine lv_goto (tgt := 198) hx hb dX11_init_221 (by decide) ?_
  refine lv_iload_n hx hb dX11_init_198 rfl (lv_at hl 0 rfl) ?_
  refine z_at 199 rfl ?_
  refine lv_bipush (v := 24) hx hb dX11_init_199 (by decide) ?_
  refine z_at 201 rfl ?_
  refine lv_icmp_ge (tgt := 224) hx hb dX11_init_201 (by decide) (fun h9 => absurd h9 (by decide)) (fun _ => ?_)
  refine z_at 204 rfl ?_
  refine lv_aload_n hx hb dX11_init_204 rfl (lv_at hl 2 rfl) ?_
  refine z_at 205 rfl ?_
  refine z_get (rest := []) hC hw133 (shN_at (n := 243) (a := 0) (x := .inr (10, ksX)) (by decide) rfl) (C := RX11) (T := TX11) (N := 12) rfl inw_FuseBox 5 (by decide) (o := some (true, 5)) rfl (v := .ref (E.2.2.1 5)) (fvT (nz1 fl0_5)) wd367 dX11_init_205 ?_
  refine z_at 208 rfl ?_
  refine lv_iload_n hx hb dX11_init_208 rfl (lv_at hl 0 rfl) ?_
  refine z_at 209 rfl ?_
  obtain ⟨s129, en, hf⟩ := ok_ltp hf
  refine zb_new (n := 243) (rest := [.int (22), .ref (E.2.2.1 5)]) hE hC hw133 hS133 (by decide) hb0 (by omega) rfl (C := RX3) (T := TX3) (N := 15) rfl inw_House tyX3 tyX3_ok (hfs_X3 243) wd773 wd794 wd61 (Nat.le_of_ble_eq_true rfl) (Nat.le_of_ble_eq_true rfl) en dX11_init_209 (fun H134 hw134 hS134 => ?_)
  clear hw133 hS133
  have hw134 : World E (shN 244) s129 H134 := hw134
  have fl0_0 : s129 0 0 = 1 := by rw [en]; exact fl0_0
  have fl0_4 : s129 0 4 = 1 := by rw [en]; exact fl0_4
  have fl0_5 : s129 0 5 = 1 := by rw [en]; exact fl0_5
  clear en
  refine W.widen (k := 243) (n := 2242) (Nat.le_of_ble_eq_true rfl) (Nat.le_of_ble_eq_true rfl) ?_
  refine z_at 212 rfl ?_
  refine lv_dup hx hb dX11_init_212 rfl ?_
  refine z_at 213 rfl ?_
  refine lv_aload_n hx hb dX11_init_213 rfl (lv_at hl 1 rfl) ?_
  refine z_at 214 rfl ?_
  obtain ⟨s130, en, hf⟩ := ok_ltp hf
  refine zb_cI (n := 244) (a := 243) (As := [.ref (E.2.2.1 13)]) (rest := [.ref (E.2.2.1 243), .int (22), .ref (E.2.2.1 5)]) (σ' := s130) hE hC hNT hl.1 hw134 hS134 hb0 (by omega) (en ▸ (c_X3_init l E hE (a0 := 243) (show isH 243 from (by decide +kernel : 243 ∈ houseL)))) (Or.inl (cwI 1 hts (gin (gin_code wd795)) rfl rfl rfl (hts _ wd61) (hts _ wd796) (hts _ wd797) rfl gc316 ⟨(Nat.le_of_ble_eq_true rfl), (Nat.le_of_ble_eq_true rfl)⟩)) ⟨(Nat.le_of_ble_eq_true rfl), (Nat.le_of_ble_eq_true rfl)⟩ rfl rfl (Nat.le_of_ble_eq_true rfl) dX11_init_214 (fun H135 locs135 hw135 hS135 => ?_)
  clear hw134 hS134
  have hw135 : World E (shN 251) s130 H135 := hw135
  have fl0_0 : s130 0 0 = 1 := by rw [en]; exact fl0_0
  have fl0_4 : s130 0 4 = 1 := by rw [en]; exact fl0_4
  have fl0_5 : s130 0 5 = 1 := by rw [en]; exact fl0_5
  clear en
  refine W.widen (k := 250) (n := 2274) (Nat.le_of_ble_eq_true rfl) (Nat.le_of_ble_eq_true rfl) ?_
  refine z_at 217 rfl ?_
  obtain ⟨s131, en, hf⟩ := ok_ltp hf
  refine zb_aast (rest := []) (Cn := "FuseBox$House") (i := 22) (r := 243) hC hw135 hS135 (shN_at (n := 251) (a := 5) (x := .inl (3, 24, false, houseL.drop 4)) (by decide) rfl) rfl (shN_at (n := 251) (a := 243) (x := .inr (2, ksH 243)) (by decide) rfl) rfl (Or.inl rfl) (show inb 22 24 from by decide) (by decide) en dX11_init_217 (fun H136 locs136 hw136 hS136 => ?_)
  clear hw135 hS135
  have hw136 : World E (shN 251) s131 H136 := hw136
  have fl0_0 : s131 0 0 = 1 := by rw [en]; exact fl0_0
  have fl0_4 : s131 0 4 = 1 := by rw [en]; exact fl0_4
  have fl0_5 : s131 0 5 = 1 := by rw [en]; exact fl0_5
  clear en
  refine z_at 218 rfl ?_
  refine lv_iinc (v := 23) (lv' := [(2, .int (23)), (1, .ref (E.2.2.1 13)), (0, .ref (E.2.2.1 0))]) hx hb dX11_init_218 hl (k := 0) rfl (by decide) (by decide) rfl (fun ls hl => ?_)
  refine z_at 221 rfl ?_
  refine lv_goto (tgt := 198) hx hb dX11_init_221 (by decide) ?_
  refine lv_iload_n hx hb dX11_init_198 rfl (lv_at hl 0 rfl) ?_
  refine z_at 199 rfl ?_
  refine lv_bipush (v := 24) hx hb dX11_init_199 (by decide) ?_
  refine z_at 201 rfl ?_
  refine lv_icmp_ge (tgt := 224) hx hb dX11_init_201 (by decide) (fun h9 => absurd h9 (by decide)) (fun _ => ?_)
  refine z_at 204 rfl ?_
  refine lv_aload_n hx hb dX11_init_204 rfl (lv_at hl 2 rfl) ?_
  refine z_at 205 rfl ?_
  refine z_get (rest := []) hC hw136 (shN_at (n := 251) (a := 0) (x := .inr (10, ksX)) (by decide) rfl) (C := RX11) (T := TX11) (N := 12) rfl inw_FuseBox 5 (by decide) (o := some (true, 5)) rfl (v := .ref (E.2.2.1 5)) (fvT (nz1 fl0_5)) wd367 dX11_init_205 ?_
  refine z_at 208 rfl ?_
  refine lv_iload_n hx hb dX11_init_208 rfl (lv_at hl 0 rfl) ?_
  refine z_at 209 rfl ?_
  obtain ⟨s132, en, hf⟩ := ok_ltp hf
  refine zb_new (n := 251) (rest := [.int (23), .ref (E.2.2.1 5)]) hE hC hw136 hS136 (by decide) hb0 (by omega) rfl (C := RX3) (T := TX3) (N := 15) rfl inw_House tyX3 tyX3_ok (hfs_X3 251) wd773 wd794 wd61 (Nat.le_of_ble_eq_true rfl) (Nat.le_of_ble_eq_true rfl) en dX11_init_209 (fun H137 hw137 hS137 => ?_)
  clear hw136 hS136
  have hw137 : World E (shN 252) s132 H137 := hw137
  have fl0_0 : s132 0 0 = 1 := by rw [en]; exact fl0_0
  have fl0_4 : s132 0 4 = 1 := by rw [en]; exact fl0_4
  have fl0_5 : s132 0 5 = 1 := by rw [en]; exact fl0_5
  clear en
  refine W.widen (k := 251) (n := 2289) (Nat.le_of_ble_eq_true rfl) (Nat.le_of_ble_eq_true rfl) ?_
  refine z_at 212 rfl ?_
  refine lv_dup hx hb dX11_init_212 rfl ?_
  refine z_at 213 rfl ?_
  refine lv_aload_n hx hb dX11_init_213 rfl (lv_at hl 1 rfl) ?_
  refine z_at 214 rfl ?_
  obtain ⟨s133, en, hf⟩ := ok_ltp hf
  refine zb_cI (n := 252) (a := 251) (As := [.ref (E.2.2.1 13)]) (rest := [.ref (E.2.2.1 251), .int (23), .ref (E.2.2.1 5)]) (σ' := s133) hE hC hNT hl.1 hw137 hS137 hb0 (by omega) (en ▸ (c_X3_init l E hE (a0 := 251) (show isH 251 from (by decide +kernel : 251 ∈ houseL)))) (Or.inl (cwI 1 hts (gin (gin_code wd795)) rfl rfl rfl (hts _ wd61) (hts _ wd796) (hts _ wd797) rfl gc316 ⟨(Nat.le_of_ble_eq_true rfl), (Nat.le_of_ble_eq_true rfl)⟩)) ⟨(Nat.le_of_ble_eq_true rfl), (Nat.le_of_ble_eq_true rfl)⟩ rfl rfl (Nat.le_of_ble_eq_true rfl) dX11_init_214 (fun H138 locs138 hw138 hS138 => ?_)
  clear hw137 hS137
  have hw138 : World E (shN 259) s133 H138 := hw138
  have fl0_0 : s133 0 0 = 1 := by rw [en]; exact fl0_0
  have fl0_4 : s133 0 4 = 1 := by rw [en]; exact fl0_4
  have fl0_5 : s133 0 5 = 1 := by rw [en]; exact fl0_5
  clear en
  refine W.widen (k := 258) (n := 2321) (Nat.le_of_ble_eq_true rfl) (Nat.le_of_ble_eq_true rfl) ?_
  refine z_at 217 rfl ?_
  obtain ⟨s134, en, hf⟩ := ok_ltp hf
  refine zb_aast (rest := []) (Cn := "FuseBox$House") (i := 23) (r := 251) hC hw138 hS138 (shN_at (n := 259) (a := 5) (x := .inl (3, 24, false, houseL.drop 4)) (by decide) rfl) rfl (shN_at (n := 259) (a := 251) (x := .inr (2, ksH 251)) (by decide) rfl) rfl (Or.inl rfl) (show inb 23 24 from by decide) (by decide) en dX11_init_217 (fun H139 locs139 hw139 hS139 => ?_)
  clear hw138 hS138
  have hw139 : World E (shN 259) s134 H139 := hw139
  have fl0_0 : s134 0 0 = 1 := by rw [en]; exact fl0_0
  have fl0_4 : s134 0 4 = 1 := by rw [en]; exact fl0_4
  have fl0_5 : s134 0 5 = 1 := by rw [en]; exact fl0_5
  clear en
  refine z_at 218 rfl ?_
  exact cc_X11_init_20 hE hC hNT hin2 hr hlocks hb0 hz fl0_0 fl0_4 fl0_5 hf _ _ ls hl hw139 hS139
set_option maxHeartbeats 8000000 in
set_option maxRecDepth 100000 in
theorem cc_X11_init_18 {p : Program} {l : Launch} {e : Env} {s : State} {m : MethodId} {args : Array Value} {below : List Frame} {meth : Method} {c : Code} {E : Ev} (hE : EvOk E) (hC : Cx p s m args c cX11_init 3 "FuseBox" E) (hNT : NT s) (hin2 : meth.name = "<init>") (hr : meth.sig.returnType = none) (hlocks : meth.locks = false) (hb0 : E.2.2.1 0 ≤ s.heap.size) (hz : s.heap.size + 0 ≤ E.2.2.1 0 + 1) {s122 sz : St} (fl0_0 : s122 0 0 = 1) (fl0_4 : s122 0 4 = 1) (fl0_5 : s122 0 5 = 1) (hf : f_X11_init_18 s122 = sz) : ∀ (H : Heap) (locs : List Loc) (ls : Array Slot), lv_has ls 3 [(2, .int (19)), (1, .ref (E.2.2.1 13)), (0, .ref (E.2.2.1 0))] → World E (shN 227) s122 H → va_S E.2.2.2 s.heap H locs → W p l e (rmc 4 258 2321) s m args below meth c H locs 226 2133 (MQ below (QW E (shN 259) none sz) args s 258 2321 E.2.2.2) (F0 m 218 ls []) := by
  intro H locs ls hl hw127 hS127
  obtain ⟨hx, hb, hml, hown, hts, hTB⟩ := id hC
  unfold f_X11_init_18 at hf
  refine lv_iinc (v := 20) (lv' := [(2, .int (20)), (1, .ref (E.2.2.1 13)), (0, .ref (E.2.2.1 0))]) hx hb dX11_init_218 hl (k := 0) rfl (by decide) (by decide) rfl (fun ls hl => ?_)
  refine z_at 221 rfl ?_
  refine lv_goto (tgt := 198) hx hb dX11_init_221 (by decide) ?_
  refine lv_iload_n hx hb dX11_init_198 rfl (lv_at hl 0 rfl) ?_
  refine z_at 199 rfl ?_
  refine lv_bipush (v := 24) hx hb dX11_init_199 (by decide) ?_
  refine z_at 201 rfl ?_
  refine lv_icmp_ge (tgt := 224) hx hb dX11_init_201 (by decide) (fun h9 => absurd h9 (by decide)) (fun _ => ?_)
  refine z_at 204 rfl ?_
  refine lv_aload_n hx hb dX11_init_204 rfl (lv_at hl 2 rfl) ?_
  refine z_at 205 rfl ?_
  refine z_get (rest := []) hC hw127 (shN_at (n := 227) (a := 0) (x := .inr (10, ksX)) (by decide) rfl) (C := RX11) (T := TX11) (N := 12) rfl inw_FuseBox 5 (by decide) (o := some (true, 5)) rfl (v := .ref (E.2.2.1 5)) (fvT (nz1 fl0_5)) wd367 dX11_init_205 ?_
  refine z_at 208 rfl ?_
  refine lv_iload_n hx hb dX11_init_208 rfl (lv_at hl 0 rfl) ?_
  refine z_at 209 rfl ?_
  obtain ⟨s123, en, hf⟩ := ok_ltp hf
  refine zb_new (n := 227) (rest := [.int (20), .ref (E.2.2.1 5)]) hE hC hw127 hS127 (by decide) hb0 (by omega) rfl (C := RX3) (T := TX3) (N := 15) rfl inw_House tyX3 tyX3_ok (hfs_X3 227) wd773 wd794 wd61 (Nat.le_of_ble_eq_true rfl) (Nat.le_of_ble_eq_true rfl) en dX11_init_209 (fun H128 hw128 hS128 => ?_)
  clear hw127 hS127
  have hw128 : World E (shN 228) s123 H128 := hw128
  have fl0_0 : s123 0 0 = 1 := by rw [en]; exact fl0_0
  have fl0_4 : s123 0 4 = 1 := by rw [en]; exact fl0_4
  have fl0_5 : s123 0 5 = 1 := by rw [en]; exact fl0_5
  clear en
  refine W.widen (k := 227) (n := 2148) (Nat.le_of_ble_eq_true rfl) (Nat.le_of_ble_eq_true rfl) ?_
  refine z_at 212 rfl ?_
  refine lv_dup hx hb dX11_init_212 rfl ?_
  refine z_at 213 rfl ?_
  refine lv_aload_n hx hb dX11_init_213 rfl (lv_at hl 1 rfl) ?_
  refine z_at 214 rfl ?_
  obtain ⟨s124, en, hf⟩ := ok_ltp hf
  refine zb_cI (n := 228) (a := 227) (As := [.ref (E.2.2.1 13)]) (rest := [.ref (E.2.2.1 227), .int (20), .ref (E.2.2.1 5)]) (σ' := s124) hE hC hNT hl.1 hw128 hS128 hb0 (by omega) (en ▸ (c_X3_init l E hE (a0 := 227) (show isH 227 from (by decide +kernel : 227 ∈ houseL)))) (Or.inl (cwI 1 hts (gin (gin_code wd795)) rfl rfl rfl (hts _ wd61) (hts _ wd796) (hts _ wd797) rfl gc316 ⟨(Nat.le_of_ble_eq_true rfl), (Nat.le_of_ble_eq_true rfl)⟩)) ⟨(Nat.le_of_ble_eq_true rfl), (Nat.le_of_ble_eq_true rfl)⟩ rfl rfl (Nat.le_of_ble_eq_true rfl) dX11_init_214 (fun H129 locs129 hw129 hS129 => ?_)
  clear hw128 hS128
  have hw129 : World E (shN 235) s124 H129 := hw129
  have fl0_0 : s124 0 0 = 1 := by rw [en]; exact fl0_0
  have fl0_4 : s124 0 4 = 1 := by rw [en]; exact fl0_4
  have fl0_5 : s124 0 5 = 1 := by rw [en]; exact fl0_5
  clear en
  refine W.widen (k := 234) (n := 2180) (Nat.le_of_ble_eq_true rfl) (Nat.le_of_ble_eq_true rfl) ?_
  refine z_at 217 rfl ?_
  obtain ⟨s125, en, hf⟩ := ok_ltp hf
  refine zb_aast (rest := []) (Cn := "FuseBox$House") (i := 20) (r := 227) hC hw129 hS129 (shN_at (n := 235) (a := 5) (x := .inl (3, 24, false, houseL.drop 4)) (by decide) rfl) rfl (shN_at (n := 235) (a := 227) (x := .inr (2, ksH 227)) (by decide) rfl) rfl (Or.inl rfl) (show inb 20 24 from by decide) (by decide) en dX11_init_217 (fun H130 locs130 hw130 hS130 => ?_)
  clear hw129 hS129
  have hw130 : World E (shN 235) s125 H130 := hw130
  have fl0_0 : s125 0 0 = 1 := by rw [en]; exact fl0_0
  have fl0_4 : s125 0 4 = 1 := by rw [en]; exact fl0_4
  have fl0_5 : s125 0 5 = 1 := by rw [en]; exact fl0_5
  clear en
  refine z_at 218 rfl ?_
  refine lv_iinc (v := 21) (lv' := [(2, .int (21)), (1, .ref (E.2.2.1 13)), (0, .ref (E.2.2.1 0))]) hx hb dX11_init_218 hl (k := 0) rfl (by decide) (by decide) rfl (fun ls hl => ?_)
  refine z_at 221 rfl ?_
  refine lv_goto (tgt := 198) hx hb dX11_init_221 (by decide) ?_
  refine lv_iload_n hx hb dX11_init_198 rfl (lv_at hl 0 rfl) ?_
  refine z_at 199 rfl ?_
  refine lv_bipush (v := 24) hx hb dX11_init_199 (by decide) ?_
  refine z_at 201 rfl ?_
  refine lv_icmp_ge (tgt := 224) hx hb dX11_init_201 (by decide) (fun h9 => absurd h9 (by decide)) (fun _ => ?_)
  refine z_at 204 rfl ?_
  refine lv_aload_n hx hb dX11_init_204 rfl (lv_at hl 2 rfl) ?_
  refine z_at 205 rfl ?_
  refine z_get (rest := []) hC hw130 (shN_at (n := 235) (a := 0) (x := .inr (10, ksX)) (by decide) rfl) (C := RX11) (T := TX11) (N := 12) rfl inw_FuseBox 5 (by decide) (o := some (true, 5)) rfl (v := .ref (E.2.2.1 5)) (fvT (nz1 fl0_5)) wd367 dX11_init_205 ?_
  refine z_at 208 rfl ?_
  refine lv_iload_n hx hb dX11_init_208 rfl (lv_at hl 0 rfl) ?_
  refine z_at 209 rfl ?_
  obtain ⟨s126, en, hf⟩ := ok_ltp hf
  refine zb_new (n := 235) (rest := [.int (21), .ref (E.2.2.1 5)]) hE hC hw130 hS130 (by decide) hb0 (by omega) rfl (C := RX3) (T := TX3) (N := 15) rfl inw_House tyX3 tyX3_ok (hfs_X3 235) wd773 wd794 wd61 (Nat.le_of_ble_eq_true rfl) (Nat.le_of_ble_eq_true rfl) en dX11_init_209 (fun H131 hw131 hS131 => ?_)
  clear hw130 hS130
  have hw131 : World E (shN 236) s126 H131 := hw131
  have fl0_0 : s126 0 0 = 1 := by rw [en]; exact fl0_0
  have fl0_4 : s126 0 4 = 1 := by rw [en]; exact fl0_4
  have fl0_5 : s126 0 5 = 1 := by rw [en]; exact fl0_5
  clear en
  refine W.widen (k := 235) (n := 2195) (Nat.le_of_ble_eq_true rfl) (Nat.le_of_ble_eq_true rfl) ?_
  refine z_at 212 rfl ?_
  refine lv_dup hx hb dX11_init_212 rfl ?_
  refine z_at 213 rfl ?_
  refine lv_aload_n hx hb dX11_init_213 rfl (lv_at hl 1 rfl) ?_
  refine z_at 214 rfl ?_
  obtain ⟨s127, en, hf⟩ := ok_ltp hf
  refine zb_cI (n := 236) (a := 235) (As := [.ref (E.2.2.1 13)]) (rest := [.ref (E.2.2.1 235), .int (21), .ref (E.2.2.1 5)]) (σ' := s127) hE hC hNT hl.1 hw131 hS131 hb0 (by omega) (en ▸ (c_X3_init l E hE (a0 := 235) (show isH 235 from (by decide +kernel : 235 ∈ houseL)))) (Or.inl (cwI 1 hts (gin (gin_code wd795)) rfl rfl rfl (hts _ wd61) (hts _ wd796) (hts _ wd797) rfl gc316 ⟨(Nat.le_of_ble_eq_true rfl), (Nat.le_of_ble_eq_true rfl)⟩)) ⟨(Nat.le_of_ble_eq_true rfl), (Nat.le_of_ble_eq_true rfl)⟩ rfl rfl (Nat.le_of_ble_eq_true rfl) dX11_init_214 (fun H132 locs132 hw132 hS132 => ?_)
  clear hw131 hS131
  have hw132 : World E (shN 243) s127 H132 := hw132
  have fl0_0 : s127 0 0 = 1 := by rw [en]; exact fl0_0
  have fl0_4 : s127 0 4 = 1 := by rw [en]; exact fl0_4
  have fl0_5 : s127 0 5 = 1 := by rw [en]; exact fl0_5
  clear en
  refine W.widen (k := 242) (n := 2227) (Nat.le_of_ble_eq_true rfl) (Nat.le_of_ble_eq_true rfl) ?_
  refine z_at 217 rfl ?_
  obtain ⟨s128, en, hf⟩ := ok_ltp hf
  refine zb_aast (rest := []) (Cn := "FuseBox$House") (i := 21) (r := 235) hC hw132 hS132 (shN_at (n := 243) (a := 5) (x := .inl (3, 24, false, houseL.drop 4)) (by decide) rfl) rfl (shN_at (n := 243) (a := 235) (x := .inr (2, ksH 235)) (by decide) rfl) rfl (Or.inl rfl) (show inb 21 24 from by decide) (by decide) en dX11_init_217 (fun H133 locs133 hw133 hS133 => ?_)
  clear hw132 hS132
  have hw133 : World E (shN 243) s128 H133 := hw133
  have fl0_0 : s128 0 0 = 1 := by rw [en]; exact fl0_0
  have fl0_4 : s128 0 4 = 1 := by rw [en]; exact fl0_4
  have fl0_5 : s128 0 5 = 1 := by rw [en]; exact fl0_5
  clear en
  refine z_at 218 rfl ?_
  exact cc_X11_init_19 hE hC hNT hin2 hr hlocks hb0 hz fl0_0 fl0_4 fl0_5 hf _ _ ls hl hw133 hS133
set_option maxHeartbeats 8000000 in
set_option maxRecDepth 100000 in
theorem cc_X11_init_17 {p : Program} {l : Launch} {e : Env} {s : State} {m : MethodId} {args : Array Value} {below : List Frame} {meth : Method} {c : Code} {E : Ev} (hE : EvOk E) (hC : Cx p s m args c cX11_init 3 "FuseBox" E) (hNT : NT s) (hin2 : meth.name = "<init>") (hr : meth.sig.returnType = none) (hlocks : meth.locks = false) (hb0 : E.2.2.1 0 ≤ s.heap.size) (hz : s.heap.size + 0 ≤ E.2.2.1 0 + 1) {s116 sz : St} (fl0_0 : s116 0 0 = 1) (fl0_4 : s116 0 4 = 1) (fl0_5 : s116 0 5 = 1) (hf : f_X11_init_17 s116 = sz) : ∀ (H : Heap) (locs : List Loc) (ls : Array Slot), lv_has ls 3 [(2, .int (17)), (1, .ref (E.2.2.1 13)), (0, .ref (E.2.2.1 0))] → World E (shN 211) s116 H → va_S E.2.2.2 s.heap H locs → W p l e (rmc 4 258 2321) s m args below meth c H locs 210 2039 (MQ below (QW E (shN 259) none sz) args s 258 2321 E.2.2.2) (F0 m 218 ls []) := by
  intro H locs ls hl hw121 hS121
  obtain ⟨hx, hb, hml, hown, hts, hTB⟩ := id hC
  unfold f_X11_init_17 at hf
  refine lv_iinc (v := 18) (lv' := [(2, .int (18)), (1, .ref (E.2.2.1 13)), (0, .ref (E.2.2.1 0))]) hx hb dX11_init_218 hl (k := 0) rfl (by decide) (by decide) rfl (fun ls hl => ?_)
  refine z_at 221 rfl ?_
  refine lv_goto (tgt := 198) hx hb dX11_init_221 (by decide) ?_
  refine lv_iload_n hx hb dX11_init_198 rfl (lv_at hl 0 rfl) ?_
  refine z_at 199 rfl ?_
  refine lv_bipush (v := 24) hx hb dX11_init_199 (by decide) ?_
  refine z_at 201 rfl ?_
  refine lv_icmp_ge (tgt := 224) hx hb dX11_init_201 (by decide) (fun h9 => absurd h9 (by decide)) (fun _ => ?_)
  refine z_at 204 rfl ?_
  refine lv_aload_n hx hb dX11_init_204 rfl (lv_at hl 2 rfl) ?_
  refine z_at 205 rfl ?_
  refine z_get (rest := []) hC hw121 (shN_at (n := 211) (a := 0) (x := .inr (10, ksX)) (by decide) rfl) (C := RX11) (T := TX11) (N := 12) rfl inw_FuseBox 5 (by decide) (o := some (true, 5)) rfl (v := .ref (E.2.2.1 5)) (fvT (nz1 fl0_5)) wd367 dX11_init_205 ?_
  refine z_at 208 rfl ?_
  refine lv_iload_n hx hb dX11_init_208 rfl (lv_at hl 0 rfl) ?_
  refine z_at 209 rfl ?_
  obtain ⟨s117, en, hf⟩ := ok_ltp hf
  refine zb_new (n := 211) (rest := [.int (18), .ref (E.2.2.1 5)]) hE hC hw121 hS121 (by decide) hb0 (by omega) rfl (C := RX3) (T := TX3) (N := 15) rfl inw_House tyX3 tyX3_ok (hfs_X3 211) wd773 wd794 wd61 (Nat.le_of_ble_eq_true rfl) (Nat.le_of_ble_eq_true rfl) en dX11_init_209 (fun H122 hw122 hS122 => ?_)
  clear hw121 hS121
  have hw122 : World E (shN 212) s117 H122 := hw122
  have fl0_0 : s117 0 0 = 1 := by rw [en]; exact fl0_0
  have fl0_4 : s117 0 4 = 1 := by rw [en]; exact fl0_4
  have fl0_5 : s117 0 5 = 1 := by rw [en]; exact fl0_5
  clear en
  refine W.widen (k := 211) (n := 2054) (Nat.le_of_ble_eq_true rfl) (Nat.le_of_ble_eq_true rfl) ?_
  refine z_at 212 rfl ?_
  refine lv_dup hx hb dX11_init_212 rfl ?_
  refine z_at 213 rfl ?_
  refine lv_aload_n hx hb dX11_init_213 rfl (lv_at hl 1 rfl) ?_
  refine z_at 214 rfl ?_
  obtain ⟨s118, en, hf⟩ := ok_ltp hf
  refine zb_cI (n := 212) (a := 211) (As := [.ref (E.2.2.1 13)]) (rest := [.ref (E.2.2.1 211), .int (18), .ref (E.2.2.1 5)]) (σ' := s118) hE hC hNT hl.1 hw122 hS122 hb0 (by omega) (en ▸ (c_X3_init l E hE (a0 := 211) (show isH 211 from (by decide +kernel : 211 ∈ houseL)))) (Or.inl (cwI 1 hts (gin (gin_code wd795)) rfl rfl rfl (hts _ wd61) (hts _ wd796) (hts _ wd797) rfl gc316 ⟨(Nat.le_of_ble_eq_true rfl), (Nat.le_of_ble_eq_true rfl)⟩)) ⟨(Nat.le_of_ble_eq_true rfl), (Nat.le_of_ble_eq_true rfl)⟩ rfl rfl (Nat.le_of_ble_eq_true rfl) dX11_init_214 (fun H123 locs123 hw123 hS123 => ?_)
  clear hw122 hS122
  have hw123 : World E (shN 219) s118 H123 := hw123
  have fl0_0 : s118 0 0 = 1 := by rw [en]; exact fl0_0
  have fl0_4 : s118 0 4 = 1 := by rw [en]; exact fl0_4
  have fl0_5 : s118 0 5 = 1 := by rw [en]; exact fl0_5
  clear en
  refine W.widen (k := 218) (n := 2086) (Nat.le_of_ble_eq_true rfl) (Nat.le_of_ble_eq_true rfl) ?_
  refine z_at 217 rfl ?_
  obtain ⟨s119, en, hf⟩ := ok_ltp hf
  refine zb_aast (rest := []) (Cn := "FuseBox$House") (i := 18) (r := 211) hC hw123 hS123 (shN_at (n := 219) (a := 5) (x := .inl (3, 24, false, houseL.drop 4)) (by decide) rfl) rfl (shN_at (n := 219) (a := 211) (x := .inr (2, ksH 211)) (by decide) rfl) rfl (Or.inl rfl) (show inb 18 24 from by decide) (by decide) en dX11_init_217 (fun H124 locs124 hw124 hS124 => ?_)
  clear hw123 hS123
  have hw124 : World E (shN 219) s119 H124 := hw124
  have fl0_0 : s119 0 0 = 1 := by rw [en]; exact fl0_0
  have fl0_4 : s119 0 4 = 1 := by rw [en]; exact fl0_4
  have fl0_5 : s119 0 5 = 1 := by rw [en]; exact fl0_5
  clear en
  refine z_at 218 rfl ?_
  refine lv_iinc (v := 19) (lv' := [(2, .int (19)), (1, .ref (E.2.2.1 13)), (0, .ref (E.2.2.1 0))]) hx hb dX11_init_218 hl (k := 0) rfl (by decide) (by decide) rfl (fun ls hl => ?_)
  refine z_at 221 rfl ?_
  refine lv_goto (tgt := 198) hx hb dX11_init_221 (by decide) ?_
  refine lv_iload_n hx hb dX11_init_198 rfl (lv_at hl 0 rfl) ?_
  refine z_at 199 rfl ?_
  refine lv_bipush (v := 24) hx hb dX11_init_199 (by decide) ?_
  refine z_at 201 rfl ?_
  refine lv_icmp_ge (tgt := 224) hx hb dX11_init_201 (by decide) (fun h9 => absurd h9 (by decide)) (fun _ => ?_)
  refine z_at 204 rfl ?_
  refine lv_aload_n hx hb dX11_init_204 rfl (lv_at hl 2 rfl) ?_
  refine z_at 205 rfl ?_
  refine z_get (rest := []) hC hw124 (shN_at (n := 219) (a := 0) (x := .inr (10, ksX)) (by decide) rfl) (C := RX11) (T := TX11) (N := 12) rfl inw_FuseBox 5 (by decide) (o := some (true, 5)) rfl (v := .ref (E.2.2.1 5)) (fvT (nz1 fl0_5)) wd367 dX11_init_205 ?_
  refine z_at 208 rfl ?_
  refine lv_iload_n hx hb dX11_init_208 rfl (lv_at hl 0 rfl) ?_
  refine z_at 209 rfl ?_
  obtain ⟨s120, en, hf⟩ := ok_ltp hf
  refine zb_new (n := 219) (rest := [.int (19), .ref (E.2.2.1 5)]) hE hC hw124 hS124 (by decide) hb0 (by omega) rfl (C := RX3) (T := TX3) (N := 15) rfl inw_House tyX3 tyX3_ok (hfs_X3 219) wd773 wd794 wd61 (Nat.le_of_ble_eq_true rfl) (Nat.le_of_ble_eq_true rfl) en dX11_init_209 (fun H125 hw125 hS125 => ?_)
  clear hw124 hS124
  have hw125 : World E (shN 220) s120 H125 := hw125
  have fl0_0 : s120 0 0 = 1 := by rw [en]; exact fl0_0
  have fl0_4 : s120 0 4 = 1 := by rw [en]; exact fl0_4
  have fl0_5 : s120 0 5 = 1 := by rw [en]; exact fl0_5
  clear en
  refine W.widen (k := 219) (n := 2101) (Nat.le_of_ble_eq_true rfl) (Nat.le_of_ble_eq_true rfl) ?_
  refine z_at 212 rfl ?_
  refine lv_dup hx hb dX11_init_212 rfl ?_
  refine z_at 213 rfl ?_
  refine lv_aload_n hx hb dX11_init_213 rfl (lv_at hl 1 rfl) ?_
  refine z_at 214 rfl ?_
  obtain ⟨s121, en, hf⟩ := ok_ltp hf
  refine zb_cI (n := 220) (a := 219) (As := [.ref (E.2.2.1 13)]) (rest := [.ref (E.2.2.1 219), .int (19), .ref (E.2.2.1 5)]) (σ' := s121) hE hC hNT hl.1 hw125 hS125 hb0 (by omega) (en ▸ (c_X3_init l E hE (a0 := 219) (show isH 219 from (by decide +kernel : 219 ∈ houseL)))) (Or.inl (cwI 1 hts (gin (gin_code wd795)) rfl rfl rfl (hts _ wd61) (hts _ wd796) (hts _ wd797) rfl gc316 ⟨(Nat.le_of_ble_eq_true rfl), (Nat.le_of_ble_eq_true rfl)⟩)) ⟨(Nat.le_of_ble_eq_true rfl), (Nat.le_of_ble_eq_true rfl)⟩ rfl rfl (Nat.le_of_ble_eq_true rfl) dX11_init_214 (fun H126 locs126 hw126 hS126 => ?_)
  clear hw125 hS125
  have hw126 : World E (shN 227) s121 H126 := hw126
  have fl0_0 : s121 0 0 = 1 := by rw [en]; exact fl0_0
  have fl0_4 : s121 0 4 = 1 := by rw [en]; exact fl0_4
  have fl0_5 : s121 0 5 = 1 := by rw [en]; exact fl0_5
  clear en
  refine W.widen (k := 226) (n := 2133) (Nat.le_of_ble_eq_true rfl) (Nat.le_of_ble_eq_true rfl) ?_
  refine z_at 217 rfl ?_
  obtain ⟨s122, en, hf⟩ := ok_ltp hf
  refine zb_aast (rest := []) (Cn := "FuseBox$House") (i := 19) (r := 219) hC hw126 hS126 (shN_at (n := 227) (a := 5) (x := .inl (3, 24, false, houseL.drop 4)) (by decide) rfl) rfl (shN_at (n := 227) (a := 219) (x := .inr (2, ksH 219)) (by decide) rfl) rfl (Or.inl rfl) (show inb 19 24 from by decide) (by decide) en dX11_init_217 (fun H127 locs127 hw127 hS127 => ?_)
  clear hw126 hS126
  have hw127 : World E (shN 227) s122 H127 := hw127
  have fl0_0 : s122 0 0 = 1 := by rw [en]; exact fl0_0
  have fl0_4 : s122 0 4 = 1 := by rw [en]; exact fl0_4
  have fl0_5 : s122 0 5 = 1 := by rw [en]; exact fl0_5
  clear en
  refine z_at 218 rfl ?_
  exact cc_X11_init_18 hE hC hNT hin2 hr hlocks hb0 hz fl0_0 fl0_4 fl0_5 hf _ _ ls hl hw127 hS127
set_option maxHeartbeats 8000000 in
set_option maxRecDepth 100000 in
theorem cc_X11_init_16 {p : Program} {l : Launch} {e : Env} {s : State} {m : MethodId} {args : Array Value} {below : List Frame} {meth : Method} {c : Code} {E : Ev} (hE : EvOk E) (hC : Cx p s m args c cX11_init 3 "FuseBox" E) (hNT : NT s) (hin2 : meth.name = "<init>") (hr : meth.sig.returnType = none) (hlocks : meth.locks = false) (hb0 : E.2.2.1 0 ≤ s.heap.size) (hz : s.heap.size + 0 ≤ E.2.2.1 0 + 1) {s110 sz : St} (fl0_0 : s110 0 0 = 1) (fl0_4 : s110 0 4 = 1) (fl0_5 : s110 0 5 = 1) (hf : f_X11_init_16 s110 = sz) : ∀ (H : Heap) (locs : List Loc) (ls : Array Slot), lv_has ls 3 [(2, .int (15)), (1, .ref (E.2.2.1 13)), (0, .ref (E.2.2.1 0))] → World E (shN 195) s110 H → va_S E.2.2.2 s.heap H locs → W p l e (rmc 4 258 2321) s m args below meth c H locs 194 1945 (MQ below (QW E (shN 259) none sz) args s 258 2321 E.2.2.2) (F0 m 218 ls []) := by
  intro H locs ls hl hw115 hS115
  obtain ⟨hx, hb, hml, hown, hts, hTB⟩ := id hC
  unfold f_X11_init_16 at hf
  refine lv_iinc (v := 16) (lv' := [(2, .int (16)), (1, .ref (E.2.2.1 13)), (0, .ref (E.2.2.1 0))]) hx hb dX11_init_218 hl (k := 0) rfl (by decide) (by decide) rfl (fun ls hl => ?_)
  refine z_at 221 rfl ?_
  refine lv_goto (tgt := 198) hx hb dX11_init_221 (by decide) ?_
  refine lv_iload_n hx hb dX11_init_198 rfl (lv_at hl 0 rfl) ?_
  refine z_at 199 rfl ?_
  refine lv_bipush (v := 24) hx hb dX11_init_199 (by decide) ?_
  refine z_at 201 rfl ?_
  refine lv_icmp_ge (tgt := 224) hx hb dX11_init_201 (by decide) (fun h9 => absurd h9 (by decide)) (fun _ => ?_)
  refine z_at 204 rfl ?_
  refine lv_aload_n hx hb dX11_init_204 rfl (lv_at hl 2 rfl) ?_
  refine z_at 205 rfl ?_
  refine z_get (rest := []) hC hw115 (shN_at (n := 195) (a := 0) (x := .inr (10, ksX)) (by decide) rfl) (C := RX11) (T := TX11) (N := 12) rfl inw_FuseBox 5 (by decide) (o := some (true, 5)) rfl (v := .ref (E.2.2.1 5)) (fvT (nz1 fl0_5)) wd367 dX11_init_205 ?_
  refine z_at 208 rfl ?_
  refine lv_iload_n hx hb dX11_init_208 rfl (lv_at hl 0 rfl) ?_
  refine z_at 209 rfl ?_
  obtain ⟨s111, en, hf⟩ := ok_ltp hf
  refine zb_new (n := 195) (rest := [.int (16), .ref (E.2.2.1 5)]) hE hC hw115 hS115 (by decide) hb0 (by omega) rfl (C := RX3) (T := TX3) (N := 15) rfl inw_House tyX3 tyX3_ok (hfs_X3 195) wd773 wd794 wd61 (Nat.le_of_ble_eq_true rfl) (Nat.le_of_ble_eq_true rfl) en dX11_init_209 (fun H116 hw116 hS116 => ?_)
  clear hw115 hS115
  have hw116 : World E (shN 196) s111 H116 := hw116
  have fl0_0 : s111 0 0 = 1 := by rw [en]; exact fl0_0
  have fl0_4 : s111 0 4 = 1 := by rw [en]; exact fl0_4
  have fl0_5 : s111 0 5 = 1 := by rw [en]; exact fl0_5
  clear en
  refine W.widen (k := 195) (n := 1960) (Nat.le_of_ble_eq_true rfl) (Nat.le_of_ble_eq_true rfl) ?_
  refine z_at 212 rfl ?_
  refine lv_dup hx hb dX11_init_212 rfl ?_
  refine z_at 213 rfl ?_
  refine lv_aload_n hx hb dX11_init_213 rfl (lv_at hl 1 rfl) ?_
  refine z_at 214 rfl ?_
  obtain ⟨s112, en, hf⟩ := ok_ltp hf
  refine zb_cI (n := 196) (a := 195) (As := [.ref (E.2.2.1 13)]) (rest := [.ref (E.2.2.1 195), .int (16), .ref (E.2.2.1 5)]) (σ' := s112) hE hC hNT hl.1 hw116 hS116 hb0 (by omega) (en ▸ (c_X3_init l E hE (a0 := 195) (show isH 195 from (by decide +kernel : 195 ∈ houseL)))) (Or.inl (cwI 1 hts (gin (gin_code wd795)) rfl rfl rfl (hts _ wd61) (hts _ wd796) (hts _ wd797) rfl gc316 ⟨(Nat.le_of_ble_eq_true rfl), (Nat.le_of_ble_eq_true rfl)⟩)) ⟨(Nat.le_of_ble_eq_true rfl), (Nat.le_of_ble_eq_true rfl)⟩ rfl rfl (Nat.le_of_ble_eq_true rfl) dX11_init_214 (fun H117 locs117 hw117 hS117 => ?_)
  clear hw116 hS116
  have hw117 : World E (shN 203) s112 H117 := hw117
  have fl0_0 : s112 0 0 = 1 := by rw [en]; exact fl0_0
  have fl0_4 : s112 0 4 = 1 := by rw [en]; exact fl0_4
  have fl0_5 : s112 0 5 = 1 := by rw [en]; exact fl0_5
  clear en
  refine W.widen (k := 202) (n := 1992) (Nat.le_of_ble_eq_true rfl) (Nat.le_of_ble_eq_true rfl) ?_
  refine z_at 217 rfl ?_
  obtain ⟨s113, en, hf⟩ := ok_ltp hf
  refine zb_aast (rest := []) (Cn := "FuseBox$House") (i := 16) (r := 195) hC hw117 hS117 (shN_at (n := 203) (a := 5) (x := .inl (3, 24, false, houseL.drop 4)) (by decide) rfl) rfl (shN_at (n := 203) (a := 195) (x := .inr (2, ksH 195)) (by decide) rfl) rfl (Or.inl rfl) (show inb 16 24 from by decide) (by decide) en dX11_init_217 (fun H118 locs118 hw118 hS118 => ?_)
  clear hw117 hS117
  have hw118 : World E (shN 203) s113 H118 := hw118
  have fl0_0 : s113 0 0 = 1 := by rw [en]; exact fl0_0
  have fl0_4 : s113 0 4 = 1 := by rw [en]; exact fl0_4
  have fl0_5 : s113 0 5 = 1 := by rw [en]; exact fl0_5
  clear en
  refine z_at 218 rfl ?_
  refine lv_iinc (v := 17) (lv' := [(2, .int (17)), (1, .ref (E.2.2.1 13)), (0, .ref (E.2.2.1 0))]) hx hb dX11_init_218 hl (k := 0) rfl (by decide) (by decide) rfl (fun ls hl => ?_)
  refine z_at 221 rfl ?_
  refine lv_goto (tgt := 198) hx hb dX11_init_221 (by decide) ?_
  refine lv_iload_n hx hb dX11_init_198 rfl (lv_at hl 0 rfl) ?_
  refine z_at 199 rfl ?_
  refine lv_bipush (v := 24) hx hb dX11_init_199 (by decide) ?_
  refine z_at 201 rfl ?_
  refine lv_icmp_ge (tgt := 224) hx hb dX11_init_201 (by decide) (fun h9 => absurd h9 (by decide)) (fun _ => ?_)
  refine z_at 204 rfl ?_
  refine lv_aload_n hx hb dX11_init_204 rfl (lv_at hl 2 rfl) ?_
  refine z_at 205 rfl ?_
  refine z_get (rest := []) hC hw118 (shN_at (n := 203) (a := 0) (x := .inr (10, ksX)) (by decide) rfl) (C := RX11) (T := TX11) (N := 12) rfl inw_FuseBox 5 (by decide) (o := some (true, 5)) rfl (v := .ref (E.2.2.1 5)) (fvT (nz1 fl0_5)) wd367 dX11_init_205 ?_
  refine z_at 208 rfl ?_
  refine lv_iload_n hx hb dX11_init_208 rfl (lv_at hl 0 rfl) ?_
  refine z_at 209 rfl ?_
  obtain ⟨s114, en, hf⟩ := ok_ltp hf
  refine zb_new (n := 203) (rest := [.int (17), .ref (E.2.2.1 5)]) hE hC hw118 hS118 (by decide) hb0 (by omega) rfl (C := RX3) (T := TX3) (N := 15) rfl inw_House tyX3 tyX3_ok (hfs_X3 203) wd773 wd794 wd61 (Nat.le_of_ble_eq_true rfl) (Nat.le_of_ble_eq_true rfl) en dX11_init_209 (fun H119 hw119 hS119 => ?_)
  clear hw118 hS118
  have hw119 : World E (shN 204) s114 H119 := hw119
  have fl0_0 : s114 0 0 = 1 := by rw [en]; exact fl0_0
  have fl0_4 : s114 0 4 = 1 := by rw [en]; exact fl0_4
  have fl0_5 : s114 0 5 = 1 := by rw [en]; exact fl0_5
  clear en
  refine W.widen (k := 203) (n := 2007) (Nat.le_of_ble_eq_true rfl) (Nat.le_of_ble_eq_true rfl) ?_
  refine z_at 212 rfl ?_
  refine lv_dup hx hb dX11_init_212 rfl ?_
  refine z_at 213 rfl ?_
  refine lv_aload_n hx hb dX11_init_213 rfl (lv_at hl 1 rfl) ?_
  refine z_at 214 rfl ?_
  obtain ⟨s115, en, hf⟩ := ok_ltp hf
  refine zb_cI (n := 204) (a := 203) (As := [.ref (E.2.2.1 13)]) (rest := [.ref (E.2.2.1 203), .int (17), .ref (E.2.2.1 5)]) (σ' := s115) hE hC hNT hl.1 hw119 hS119 hb0 (by omega) (en ▸ (c_X3_init l E hE (a0 := 203) (show isH 203 from (by decide +kernel : 203 ∈ houseL)))) (Or.inl (cwI 1 hts (gin (gin_code wd795)) rfl rfl rfl (hts _ wd61) (hts _ wd796) (hts _ wd797) rfl gc316 ⟨(Nat.le_of_ble_eq_true rfl), (Nat.le_of_ble_eq_true rfl)⟩)) ⟨(Nat.le_of_ble_eq_true rfl), (Nat.le_of_ble_eq_true rfl)⟩ rfl rfl (Nat.le_of_ble_eq_true rfl) dX11_init_214 (fun H120 locs120 hw120 hS120 => ?_)
  clear hw119 hS119
  have hw120 : World E (shN 211) s115 H120 := hw120
  have fl0_0 : s115 0 0 = 1 := by rw [en]; exact fl0_0
  have fl0_4 : s115 0 4 = 1 := by rw [en]; exact fl0_4
  have fl0_5 : s115 0 5 = 1 := by rw [en]; exact fl0_5
  clear en
  refine W.widen (k := 210) (n := 2039) (Nat.le_of_ble_eq_true rfl) (Nat.le_of_ble_eq_true rfl) ?_
  refine z_at 217 rfl ?_
  obtain ⟨s116, en, hf⟩ := ok_ltp hf
  refine zb_aast (rest := []) (Cn := "FuseBox$House") (i := 17) (r := 203) hC hw120 hS120 (shN_at (n := 211) (a := 5) (x := .inl (3, 24, false, houseL.drop 4)) (by decide) rfl) rfl (shN_at (n := 211) (a := 203) (x := .inr (2, ksH 203)) (by decide) rfl) rfl (Or.inl rfl) (show inb 17 24 from by decide) (by decide) en dX11_init_217 (fun H121 locs121 hw121 hS121 => ?_)
  clear hw120 hS120
  have hw121 : World E (shN 211) s116 H121 := hw121
  have fl0_0 : s116 0 0 = 1 := by rw [en]; exact fl0_0
  have fl0_4 : s116 0 4 = 1 := by rw [en]; exact fl0_4
  have fl0_5 : s116 0 5 = 1 := by rw [en]; exact fl0_5
  clear en
  refine z_at 218 rfl ?_
  exact cc_X11_init_17 hE hC hNT hin2 hr hlocks hb0 hz fl0_0 fl0_4 fl0_5 hf _ _ ls hl hw121 hS121
set_option maxHeartbeats 8000000 in
set_option maxRecDepth 100000 in
theorem cc_X11_init_15 {p : Program} {l : Launch} {e : Env} {s : State} {m : MethodId} {args : Array Value} {below : List Frame} {meth : Method} {c : Code} {E : Ev} (hE : EvOk E) (hC : Cx p s m args c cX11_init 3 "FuseBox" E) (hNT : NT s) (hin2 : meth.name = "<init>") (hr : meth.sig.returnType = none) (hlocks : meth.locks = false) (hb0 : E.2.2.1 0 ≤ s.heap.size) (hz : s.heap.size + 0 ≤ E.2.2.1 0 + 1) {s104 sz : St} (fl0_0 : s104 0 0 = 1) (fl0_4 : s104 0 4 = 1) (fl0_5 : s104 0 5 = 1) (hf : f_X11_init_15 s104 = sz) : ∀ (H : Heap) (locs : List Loc) (ls : Array Slot), lv_has ls 3 [(2, .int (13)), (1, .ref (E.2.2.1 13)), (0, .ref (E.2.2.1 0))] → World E (shN 179) s104 H → va_S E.2.2.2 s.heap H locs → W p l e (rmc 4 258 2321) s m args below meth c H locs 178 1851 (MQ below (QW E (shN 259) none sz) args s 258 2321 E.2.2.2) (F0 m 218 ls []) := by
  intro H locs ls hl hw109 hS109
  obtain ⟨hx, hb, hml, hown, hts, hTB⟩ := id hC
  unfold f_X11_init_15 at hf
  refine lv_iinc (v := 14) (lv' := [(2, .int (14)), (1, .ref (E.2.2.1 13)), (0, .ref (E.2.2.1 0))]) hx hb dX11_init_218 hl (k := 0) rfl (by decide) (by decide) rfl (fun ls hl => ?_)
  refine z_at 221 rfl ?_
  refine lv_goto (tgt := 198) hx hb dX11_init_221 (by decide) ?_
  refine lv_iload_n hx hb dX11_init_198 rfl (lv_at hl 0 rfl) ?_
  refine z_at 199 rfl ?_
  refine lv_bipush (v := 24) hx hb dX11_init_199 (by decide) ?_
  refine z_at 201 rfl ?_
  refine lv_icmp_ge (tgt := 224) hx hb dX11_init_201 (by decide) (fun h9 => absurd h9 (by decide)) (fun _ => ?_)
  refine z_at 204 rfl ?_
  refine lv_aload_n hx hb dX11_init_204 rfl (lv_at hl 2 rfl) ?_
  refine z_at 205 rfl ?_
  refine z_get (rest := []) hC hw109 (shN_at (n := 179) (a := 0) (x := .inr (10, ksX)) (by decide) rfl) (C := RX11) (T := TX11) (N := 12) rfl inw_FuseBox 5 (by decide) (o := some (true, 5)) rfl (v := .ref (E.2.2.1 5)) (fvT (nz1 fl0_5)) wd367 dX11_init_205 ?_
  refine z_at 208 rfl ?_
  refine lv_iload_n hx hb dX11_init_208 rfl (lv_at hl 0 rfl) ?_
  refine z_at 209 rfl ?_
  obtain ⟨s105, en, hf⟩ := ok_ltp hf
  refine zb_new (n := 179) (rest := [.int (14), .ref (E.2.2.1 5)]) hE hC hw109 hS109 (by decide) hb0 (by omega) rfl (C := RX3) (T := TX3) (N := 15) rfl inw_House tyX3 tyX3_ok (hfs_X3 179) wd773 wd794 wd61 (Nat.le_of_ble_eq_true rfl) (Nat.le_of_ble_eq_true rfl) en dX11_init_209 (fun H110 hw110 hS110 => ?_)
  clear hw109 hS109
  have hw110 : World E (shN 180) s105 H110 := hw110
  have fl0_0 : s105 0 0 = 1 := by rw [en]; exact fl0_0
  have fl0_4 : s105 0 4 = 1 := by rw [en]; exact fl0_4
  have fl0_5 : s105 0 5 = 1 := by rw [en]; exact fl0_5
  clear en
  refine W.widen (k := 179) (n := 1866) (Nat.le_of_ble_eq_true rfl) (Nat.le_of_ble_eq_true rfl) ?_
  refine z_at 212 rfl ?_
  refine lv_dup hx hb dX11_init_212 rfl ?_
  refine z_at 213 rfl ?_
  refine lv_aload_n hx hb dX11_init_213 rfl (lv_at hl 1 rfl) ?_
  refine z_at 214 rfl ?_
  obtain ⟨s106, en, hf⟩ := ok_ltp hf
  refine zb_cI (n := 180) (a := 179) (As := [.ref (E.2.2.1 13)]) (rest := [.ref (E.2.2.1 179), .int (14), .ref (E.2.2.1 5)]) (σ' := s106) hE hC hNT hl.1 hw110 hS110 hb0 (by omega) (en ▸ (c_X3_init l E hE (a0 := 179) (show isH 179 from (by decide +kernel : 179 ∈ houseL)))) (Or.inl (cwI 1 hts (gin (gin_code wd795)) rfl rfl rfl (hts _ wd61) (hts _ wd796) (hts _ wd797) rfl gc316 ⟨(Nat.le_of_ble_eq_true rfl), (Nat.le_of_ble_eq_true rfl)⟩)) ⟨(Nat.le_of_ble_eq_true rfl), (Nat.le_of_ble_eq_true rfl)⟩ rfl rfl (Nat.le_of_ble_eq_true rfl) dX11_init_214 (fun H111 locs111 hw111 hS111 => ?_)
  clear hw110 hS110
  have hw111 : World E (shN 187) s106 H111 := hw111
  have fl0_0 : s106 0 0 = 1 := by rw [en]; exact fl0_0
  have fl0_4 : s106 0 4 = 1 := by rw [en]; exact fl0_4
  have fl0_5 : s106 0 5 = 1 := by rw [en]; exact fl0_5
  clear en
  refine W.widen (k := 186) (n := 1898) (Nat.le_of_ble_eq_true rfl) (Nat.le_of_ble_eq_true rfl) ?_
  refine z_at 217 rfl ?_
  obtain ⟨s107, en, hf⟩ := ok_ltp hf
  refine zb_aast (rest := []) (Cn := "FuseBox$House") (i := 14) (r := 179) hC hw111 hS111 (shN_at (n := 187) (a := 5) (x := .inl (3, 24, false, houseL.drop 4)) (by decide) rfl) rfl (shN_at (n := 187) (a := 179) (x := .inr (2, ksH 179)) (by decide) rfl) rfl (Or.inl rfl) (show inb 14 24 from by decide) (by decide) en dX11_init_217 (fun H112 locs112 hw112 hS112 => ?_)
  clear hw111 hS111
  have hw112 : World E (shN 187) s107 H112 := hw112
  have fl0_0 : s107 0 0 = 1 := by rw [en]; exact fl0_0
  have fl0_4 : s107 0 4 = 1 := by rw [en]; exact fl0_4
  have fl0_5 : s107 0 5 = 1 := by rw [en]; exact fl0_5
  clear en
  refine z_at 218 rfl ?_
  refine lv_iinc (v := 15) (lv' := [(2, .int (15)), (1, .ref (E.2.2.1 13)), (0, .ref (E.2.2.1 0))]) hx hb dX11_init_218 hl (k := 0) rfl (by decide) (by decide) rfl (fun ls hl => ?_)
  refine z_at 221 rfl ?_
  refine lv_goto (tgt := 198) hx hb dX11_init_221 (by decide) ?_
  refine lv_iload_n hx hb dX11_init_198 rfl (lv_at hl 0 rfl) ?_
  refine z_at 199 rfl ?_
  refine lv_bipush (v := 24) hx hb dX11_init_199 (by decide) ?_
  refine z_at 201 rfl ?_
  refine lv_icmp_ge (tgt := 224) hx hb dX11_init_201 (by decide) (fun h9 => absurd h9 (by decide)) (fun _ => ?_)
  refine z_at 204 rfl ?_
  refine lv_aload_n hx hb dX11_init_204 rfl (lv_at hl 2 rfl) ?_
  refine z_at 205 rfl ?_
  refine z_get (rest := []) hC hw112 (shN_at (n := 187) (a := 0) (x := .inr (10, ksX)) (by decide) rfl) (C := RX11) (T := TX11) (N := 12) rfl inw_FuseBox 5 (by decide) (o := some (true, 5)) rfl (v := .ref (E.2.2.1 5)) (fvT (nz1 fl0_5)) wd367 dX11_init_205 ?_
  refine z_at 208 rfl ?_
  refine lv_iload_n hx hb dX11_init_208 rfl (lv_at hl 0 rfl) ?_
  refine z_at 209 rfl ?_
  obtain ⟨s108, en, hf⟩ := ok_ltp hf
  refine zb_new (n := 187) (rest := [.int (15), .ref (E.2.2.1 5)]) hE hC hw112 hS112 (by decide) hb0 (by omega) rfl (C := RX3) (T := TX3) (N := 15) rfl inw_House tyX3 tyX3_ok (hfs_X3 187) wd773 wd794 wd61 (Nat.le_of_ble_eq_true rfl) (Nat.le_of_ble_eq_true rfl) en dX11_init_209 (fun H113 hw113 hS113 => ?_)
  clear hw112 hS112
  have hw113 : World E (shN 188) s108 H113 := hw113
  have fl0_0 : s108 0 0 = 1 := by rw [en]; exact fl0_0
  have fl0_4 : s108 0 4 = 1 := by rw [en]; exact fl0_4
  have fl0_5 : s108 0 5 = 1 := by rw [en]; exact fl0_5
  clear en
  refine W.widen (k := 187) (n := 1913) (Nat.le_of_ble_eq_true rfl) (Nat.le_of_ble_eq_true rfl) ?_
  refine z_at 212 rfl ?_
  refine lv_dup hx hb dX11_init_212 rfl ?_
  refine z_at 213 rfl ?_
  refine lv_aload_n hx hb dX11_init_213 rfl (lv_at hl 1 rfl) ?_
  refine z_at 214 rfl ?_
  obtain ⟨s109, en, hf⟩ := ok_ltp hf
  refine zb_cI (n := 188) (a := 187) (As := [.ref (E.2.2.1 13)]) (rest := [.ref (E.2.2.1 187), .int (15), .ref (E.2.2.1 5)]) (σ' := s109) hE hC hNT hl.1 hw113 hS113 hb0 (by omega) (en ▸ (c_X3_init l E hE (a0 := 187) (show isH 187 from (by decide +kernel : 187 ∈ houseL)))) (Or.inl (cwI 1 hts (gin (gin_code wd795)) rfl rfl rfl (hts _ wd61) (hts _ wd796) (hts _ wd797) rfl gc316 ⟨(Nat.le_of_ble_eq_true rfl), (Nat.le_of_ble_eq_true rfl)⟩)) ⟨(Nat.le_of_ble_eq_true rfl), (Nat.le_of_ble_eq_true rfl)⟩ rfl rfl (Nat.le_of_ble_eq_true rfl) dX11_init_214 (fun H114 locs114 hw114 hS114 => ?_)
  clear hw113 hS113
  have hw114 : World E (shN 195) s109 H114 := hw114
  have fl0_0 : s109 0 0 = 1 := by rw [en]; exact fl0_0
  have fl0_4 : s109 0 4 = 1 := by rw [en]; exact fl0_4
  have fl0_5 : s109 0 5 = 1 := by rw [en]; exact fl0_5
  clear en
  refine W.widen (k := 194) (n := 1945) (Nat.le_of_ble_eq_true rfl) (Nat.le_of_ble_eq_true rfl) ?_
  refine z_at 217 rfl ?_
  obtain ⟨s110, en, hf⟩ := ok_ltp hf
  refine zb_aast (rest := []) (Cn := "FuseBox$House") (i := 15) (r := 187) hC hw114 hS114 (shN_at (n := 195) (a := 5) (x := .inl (3, 24, false, houseL.drop 4)) (by decide) rfl) rfl (shN_at (n := 195) (a := 187) (x := .inr (2, ksH 187)) (by decide) rfl) rfl (Or.inl rfl) (show inb 15 24 from by decide) (by decide) en dX11_init_217 (fun H115 locs115 hw115 hS115 => ?_)
  clear hw114 hS114
  have hw115 : World E (shN 195) s110 H115 := hw115
  have fl0_0 : s110 0 0 = 1 := by rw [en]; exact fl0_0
  have fl0_4 : s110 0 4 = 1 := by rw [en]; exact fl0_4
  have fl0_5 : s110 0 5 = 1 := by rw [en]; exact fl0_5
  clear en
  refine z_at 218 rfl ?_
  exact cc_X11_init_16 hE hC hNT hin2 hr hlocks hb0 hz fl0_0 fl0_4 fl0_5 hf _ _ ls hl hw115 hS115
set_option maxHeartbeats 8000000 in
set_option maxRecDepth 100000 in
theorem cc_X11_init_14 {p : Program} {l : Launch} {e : Env} {s : State} {m : MethodId} {args : Array Value} {below : List Frame} {meth : Method} {c : Code} {E : Ev} (hE : EvOk E) (hC : Cx p s m args c cX11_init 3 "FuseBox" E) (hNT : NT s) (hin2 : meth.name = "<init>") (hr : meth.sig.returnType = none) (hlocks : meth.locks = false) (hb0 : E.2.2.1 0 ≤ s.heap.size) (hz : s.heap.size + 0 ≤ E.2.2.1 0 + 1) {s98 sz : St} (fl0_0 : s98 0 0 = 1) (fl0_4 : s98 0 4 = 1) (fl0_5 : s98 0 5 = 1) (hf : f_X11_init_14 s98 = sz) : ∀ (H : Heap) (locs : List Loc) (ls : Array Slot), lv_has ls 3 [(2, .int (11)), (1, .ref (E.2.2.1 13)), (0, .ref (E.2.2.1 0))] → World E (shN 163) s98 H → va_S E.2.2.2 s.heap H locs → W p l e (rmc 4 258 2321) s m args below meth c H locs 162 1757 (MQ below (QW E (shN 259) none sz) args s 258 2321 E.2.2.2) (F0 m 218 ls []) := by
  intro H locs ls hl hw103 hS103
  obtain ⟨hx, hb, hml, hown, hts, hTB⟩ := id hC
  unfold f_X11_init_14 at hf
  refine lv_iinc (v := 12) (lv' := [(2, .int (12)), (1, .ref (E.2.2.1 13)), (0, .ref (E.2.2.1 0))]) hx hb dX11_init_218 hl (k := 0) rfl (by decide) (by decide) rfl (fun ls hl => ?_)
  refine z_at 221 rfl ?_
  refine lv_goto (tgt := 198) hx hb dX11_init_221 (by decide) ?_
  refine lv_iload_n hx hb dX11_init_198 rfl (lv_at hl 0 rfl) ?_
  refine z_at 199 rfl ?_
  refine lv_bipush (v := 24) hx hb dX11_init_199 (by decide) ?_
  refine z_at 201 rfl ?_
  refine lv_icmp_ge (tgt := 224) hx hb dX11_init_201 (by decide) (fun h9 => absurd h9 (by decide)) (fun _ => ?_)
  refine z_at 204 rfl ?_
  refine lv_aload_n hx hb dX11_init_204 rfl (lv_at hl 2 rfl) ?_
  refine z_at 205 rfl ?_
  refine z_get (rest := []) hC hw103 (shN_at (n := 163) (a := 0) (x := .inr (10, ksX)) (by decide) rfl) (C := RX11) (T := TX11) (N := 12) rfl inw_FuseBox 5 (by decide) (o := some (true, 5)) rfl (v := .ref (E.2.2.1 5)) (fvT (nz1 fl0_5)) wd367 dX11_init_205 ?_
  refine z_at 208 rfl ?_
  refine lv_iload_n hx hb dX11_init_208 rfl (lv_at hl 0 rfl) ?_
  refine z_at 209 rfl ?_
  obtain ⟨s99, en, hf⟩ := ok_ltp hf
  refine zb_new (n := 163) (rest := [.int (12), .ref (E.2.2.1 5)]) hE hC hw103 hS103 (by decide) hb0 (by omega) rfl (C := RX3) (T := TX3) (N := 15) rfl inw_House tyX3 tyX3_ok (hfs_X3 163) wd773 wd794 wd61 (Nat.le_of_ble_eq_true rfl) (Nat.le_of_ble_eq_true rfl) en dX11_init_209 (fun H104 hw104 hS104 => ?_)
  clear hw103 hS103
  have hw104 : World E (shN 164) s99 H104 := hw104
  have fl0_0 : s99 0 0 = 1 := by rw [en]; exact fl0_0
  have fl0_4 : s99 0 4 = 1 := by rw [en]; exact fl0_4
  have fl0_5 : s99 0 5 = 1 := by rw [en]; exact fl0_5
  clear en
  refine W.widen (k := 163) (n := 1772) (Nat.le_of_ble_eq_true rfl) (Nat.le_of_ble_eq_true rfl) ?_
  refine z_at 212 rfl ?_
  refine lv_dup hx hb dX11_init_212 rfl ?_
  refine z_at 213 rfl ?_
  refine lv_aload_n hx hb dX11_init_213 rfl (lv_at hl 1 rfl) ?_
  refine z_at 214 rfl ?_
  obtain ⟨s100, en, hf⟩ := ok_ltp hf
  refine zb_cI (n := 164) (a := 163) (As := [.ref (E.2.2.1 13)]) (rest := [.ref (E.2.2.1 163), .int (12), .ref (E.2.2.1 5)]) (σ' := s100) hE hC hNT hl.1 hw104 hS104 hb0 (by omega) (en ▸ (c_X3_init l E hE (a0 := 163) (show isH 163 from (by decide +kernel : 163 ∈ houseL)))) (Or.inl (cwI 1 hts (gin (gin_code wd795)) rfl rfl rfl (hts _ wd61) (hts _ wd796) (hts _ wd797) rfl gc316 ⟨(Nat.le_of_ble_eq_true rfl), (Nat.le_of_ble_eq_true rfl)⟩)) ⟨(Nat.le_of_ble_eq_true rfl), (Nat.le_of_ble_eq_true rfl)⟩ rfl rfl (Nat.le_of_ble_eq_true rfl) dX11_init_214 (fun H105 locs105 hw105 hS105 => ?_)
  clear hw104 hS104
  have hw105 : World E (shN 171) s100 H105 := hw105
  have fl0_0 : s100 0 0 = 1 := by rw [en]; exact fl0_0
  have fl0_4 : s100 0 4 = 1 := by rw [en]; exact fl0_4
  have fl0_5 : s100 0 5 = 1 := by rw [en]; exact fl0_5
  clear en
  refine W.widen (k := 170) (n := 1804) (Nat.le_of_ble_eq_true rfl) (Nat.le_of_ble_eq_true rfl) ?_
  refine z_at 217 rfl ?_
  obtain ⟨s101, en, hf⟩ := ok_ltp hf
  refine zb_aast (rest := []) (Cn := "FuseBox$House") (i := 12) (r := 163) hC hw105 hS105 (shN_at (n := 171) (a := 5) (x := .inl (3, 24, false, houseL.drop 4)) (by decide) rfl) rfl (shN_at (n := 171) (a := 163) (x := .inr (2, ksH 163)) (by decide) rfl) rfl (Or.inl rfl) (show inb 12 24 from by decide) (by decide) en dX11_init_217 (fun H106 locs106 hw106 hS106 => ?_)
  clear hw105 hS105
  have hw106 : World E (shN 171) s101 H106 := hw106
  have fl0_0 : s101 0 0 = 1 := by rw [en]; exact fl0_0
  have fl0_4 : s101 0 4 = 1 := by rw [en]; exact fl0_4
  have fl0_5 : s101 0 5 = 1 := by rw [en]; exact fl0_5
  clear en
  refine z_at 218 rfl ?_
  refine lv_iinc (v := 13) (lv' := [(2, .int (13)), (1, .ref (E.2.2.1 13)), (0, .ref (E.2.2.1 0))]) hx hb dX11_init_218 hl (k := 0) rfl (by decide) (by decide) rfl (fun ls hl => ?_)
  refine z_at 221 rfl ?_
  refine lv_goto (tgt := 198) hx hb dX11_init_221 (by decide) ?_
  refine lv_iload_n hx hb dX11_init_198 rfl (lv_at hl 0 rfl) ?_
  refine z_at 199 rfl ?_
  refine lv_bipush (v := 24) hx hb dX11_init_199 (by decide) ?_
  refine z_at 201 rfl ?_
  refine lv_icmp_ge (tgt := 224) hx hb dX11_init_201 (by decide) (fun h9 => absurd h9 (by decide)) (fun _ => ?_)
  refine z_at 204 rfl ?_
  refine lv_aload_n hx hb dX11_init_204 rfl (lv_at hl 2 rfl) ?_
  refine z_at 205 rfl ?_
  refine z_get (rest := []) hC hw106 (shN_at (n := 171) (a := 0) (x := .inr (10, ksX)) (by decide) rfl) (C := RX11) (T := TX11) (N := 12) rfl inw_FuseBox 5 (by decide) (o := some (true, 5)) rfl (v := .ref (E.2.2.1 5)) (fvT (nz1 fl0_5)) wd367 dX11_init_205 ?_
  refine z_at 208 rfl ?_
  refine lv_iload_n hx hb dX11_init_208 rfl (lv_at hl 0 rfl) ?_
  refine z_at 209 rfl ?_
  obtain ⟨s102, en, hf⟩ := ok_ltp hf
  refine zb_new (n := 171) (rest := [.int (13), .ref (E.2.2.1 5)]) hE hC hw106 hS106 (by decide) hb0 (by omega) rfl (C := RX3) (T := TX3) (N := 15) rfl inw_House tyX3 tyX3_ok (hfs_X3 171) wd773 wd794 wd61 (Nat.le_of_ble_eq_true rfl) (Nat.le_of_ble_eq_true rfl) en dX11_init_209 (fun H107 hw107 hS107 => ?_)
  clear hw106 hS106
  have hw107 : World E (shN 172) s102 H107 := hw107
  have fl0_0 : s102 0 0 = 1 := by rw [en]; exact fl0_0
  have fl0_4 : s102 0 4 = 1 := by rw [en]; exact fl0_4
  have fl0_5 : s102 0 5 = 1 := by rw [en]; exact fl0_5
  clear en
  refine W.widen (k := 171) (n := 1819) (Nat.le_of_ble_eq_true rfl) (Nat.le_of_ble_eq_true rfl) ?_
  refine z_at 212 rfl ?_
  refine lv_dup hx hb dX11_init_212 rfl ?_
  refine z_at 213 rfl ?_
  refine lv_aload_n hx hb dX11_init_213 rfl (lv_at hl 1 rfl) ?_
  refine z_at 214 rfl ?_
  obtain ⟨s103, en, hf⟩ := ok_ltp hf
  refine zb_cI (n := 172) (a := 171) (As := [.ref (E.2.2.1 13)]) (rest := [.ref (E.2.2.1 171), .int (13), .ref (E.2.2.1 5)]) (σ' := s103) hE hC hNT hl.1 hw107 hS107 hb0 (by omega) (en ▸ (c_X3_init l E hE (a0 := 171) (show isH 171 from (by decide +kernel : 171 ∈ houseL)))) (Or.inl (cwI 1 hts (gin (gin_code wd795)) rfl rfl rfl (hts _ wd61) (hts _ wd796) (hts _ wd797) rfl gc316 ⟨(Nat.le_of_ble_eq_true rfl), (Nat.le_of_ble_eq_true rfl)⟩)) ⟨(Nat.le_of_ble_eq_true rfl), (Nat.le_of_ble_eq_true rfl)⟩ rfl rfl (Nat.le_of_ble_eq_true rfl) dX11_init_214 (fun H108 locs108 hw108 hS108 => ?_)
  clear hw107 hS107
  have hw108 : World E (shN 179) s103 H108 := hw108
  have fl0_0 : s103 0 0 = 1 := by rw [en]; exact fl0_0
  have fl0_4 : s103 0 4 = 1 := by rw [en]; exact fl0_4
  have fl0_5 : s103 0 5 = 1 := by rw [en]; exact fl0_5
  clear en
  refine W.widen (k := 178) (n := 1851) (Nat.le_of_ble_eq_true rfl) (Nat.le_of_ble_eq_true rfl) ?_
  refine z_at 217 rfl ?_
  obtain ⟨s104, en, hf⟩ := ok_ltp hf
  refine zb_aast (rest := []) (Cn := "FuseBox$House") (i := 13) (r := 171) hC hw108 hS108 (shN_at (n := 179) (a := 5) (x := .inl (3, 24, false, houseL.drop 4)) (by decide) rfl) rfl (shN_at (n := 179) (a := 171) (x := .inr (2, ksH 171)) (by decide) rfl) rfl (Or.inl rfl) (show inb 13 24 from by decide) (by decide) en dX11_init_217 (fun H109 locs109 hw109 hS109 => ?_)
  clear hw108 hS108
  have hw109 : World E (shN 179) s104 H109 := hw109
  have fl0_0 : s104 0 0 = 1 := by rw [en]; exact fl0_0
  have fl0_4 : s104 0 4 = 1 := by rw [en]; exact fl0_4
  have fl0_5 : s104 0 5 = 1 := by rw [en]; exact fl0_5
  clear en
  refine z_at 218 rfl ?_
  exact cc_X11_init_15 hE hC hNT hin2 hr hlocks hb0 hz fl0_0 fl0_4 fl0_5 hf _ _ ls hl hw109 hS109
set_option maxHeartbeats 8000000 in
set_option maxRecDepth 100000 in
theorem cc_X11_init_13 {p : Program} {l : Launch} {e : Env} {s : State} {m : MethodId} {args : Array Value} {below : List Frame} {meth : Method} {c : Code} {E : Ev} (hE : EvOk E) (hC : Cx p s m args c cX11_init 3 "FuseBox" E) (hNT : NT s) (hin2 : meth.name = "<init>") (hr : meth.sig.returnType = none) (hlocks : meth.locks = false) (hb0 : E.2.2.1 0 ≤ s.heap.size) (hz : s.heap.size + 0 ≤ E.2.2.1 0 + 1) {s92 sz : St} (fl0_0 : s92 0 0 = 1) (fl0_4 : s92 0 4 = 1) (fl0_5 : s92 0 5 = 1) (hf : f_X11_init_13 s92 = sz) : ∀ (H : Heap) (locs : List Loc) (ls : Array Slot), lv_has ls 3 [(2, .int (9)), (1, .ref (E.2.2.1 13)), (0, .ref (E.2.2.1 0))] → World E (shN 147) s92 H → va_S E.2.2.2 s.heap H locs → W p l e (rmc 4 258 2321) s m args below meth c H locs 146 1663 (MQ below (QW E (shN 259) none sz) args s 258 2321 E.2.2.2) (F0 m 218 ls []) := by
  intro H locs ls hl hw97 hS97
  obtain ⟨hx, hb, hml, hown, hts, hTB⟩ := id hC
  unfold f_X11_init_13 at hf
  refine lv_iinc (v := 10) (lv' := [(2, .int (10)), (1, .ref (E.2.2.1 13)), (0, .ref (E.2.2.1 0))]) hx hb dX11_init_218 hl (k := 0) rfl (by decide) (by decide) rfl (fun ls hl => ?_)
  refine z_at 221 rfl ?_
  refine lv_goto (tgt := 198) hx hb dX11_init_221 (by decide) ?_
  refine lv_iload_n hx hb dX11_init_198 rfl (lv_at hl 0 rfl) ?_
  refine z_at 199 rfl ?_
  refine lv_bipush (v := 24) hx hb dX11_init_199 (by decide) ?_
  refine z_at 201 rfl ?_
  refine lv_icmp_ge (tgt := 224) hx hb dX11_init_201 (by decide) (fun h9 => absurd h9 (by decide)) (fun _ => ?_)
  refine z_at 204 rfl ?_
  refine lv_aload_n hx hb dX11_init_204 rfl (lv_at hl 2 rfl) ?_
  refine z_at 205 rfl ?_
  refine z_get (rest := []) hC hw97 (shN_at (n := 147) (a := 0) (x := .inr (10, ksX)) (by decide) rfl) (C := RX11) (T := TX11) (N := 12) rfl inw_FuseBox 5 (by decide) (o := some (true, 5)) rfl (v := .ref (E.2.2.1 5)) (fvT (nz1 fl0_5)) wd367 dX11_init_205 ?_
  refine z_at 208 rfl ?_
  refine lv_iload_n hx hb dX11_init_208 rfl (lv_at hl 0 rfl) ?_
  refine z_at 209 rfl ?_
  obtain ⟨s93, en, hf⟩ := ok_ltp hf
  refine zb_new (n := 147) (rest := [.int (10), .ref (E.2.2.1 5)]) hE hC hw97 hS97 (by decide) hb0 (by omega) rfl (C := RX3) (T := TX3) (N := 15) rfl inw_House tyX3 tyX3_ok (hfs_X3 147) wd773 wd794 wd61 (Nat.le_of_ble_eq_true rfl) (Nat.le_of_ble_eq_true rfl) en dX11_init_209 (fun H98 hw98 hS98 => ?_)
  clear hw97 hS97
  have hw98 : World E (shN 148) s93 H98 := hw98
  have fl0_0 : s93 0 0 = 1 := by rw [en]; exact fl0_0
  have fl0_4 : s93 0 4 = 1 := by rw [en]; exact fl0_4
  have fl0_5 : s93 0 5 = 1 := by rw [en]; exact fl0_5
  clear en
  refine W.widen (k := 147) (n := 1678) (Nat.le_of_ble_eq_true rfl) (Nat.le_of_ble_eq_true rfl) ?_
  refine z_at 212 rfl ?_
  refine lv_dup hx hb dX11_init_212 rfl ?_
  refine z_at 213 rfl ?_
  refine lv_aload_n hx hb dX11_init_213 rfl (lv_at hl 1 rfl) ?_
  refine z_at 214 rfl ?_
  obtain ⟨s94, en, hf⟩ := ok_ltp hf
  refine zb_cI (n := 148) (a := 147) (As := [.ref (E.2.2.1 13)]) (rest := [.ref (E.2.2.1 147), .int (10), .ref (E.2.2.1 5)]) (σ' := s94) hE hC hNT hl.1 hw98 hS98 hb0 (by omega) (en ▸ (c_X3_init l E hE (a0 := 147) (show isH 147 from (by decide +kernel : 147 ∈ houseL)))) (Or.inl (cwI 1 hts (gin (gin_code wd795)) rfl rfl rfl (hts _ wd61) (hts _ wd796) (hts _ wd797) rfl gc316 ⟨(Nat.le_of_ble_eq_true rfl), (Nat.le_of_ble_eq_true rfl)⟩)) ⟨(Nat.le_of_ble_eq_true rfl), (Nat.le_of_ble_eq_true rfl)⟩ rfl rfl (Nat.le_of_ble_eq_true rfl) dX11_init_214 (fun H99 locs99 hw99 hS99 => ?_)
  clear hw98 hS98
  have hw99 : World E (shN 155) s94 H99 := hw99
  have fl0_0 : s94 0 0 = 1 := by rw [en]; exact fl0_0
  have fl0_4 : s94 0 4 = 1 := by rw [en]; exact fl0_4
  have fl0_5 : s94 0 5 = 1 := by rw [en]; exact fl0_5
  clear en
  refine W.widen (k := 154) (n := 1710) (Nat.le_of_ble_eq_true rfl) (Nat.le_of_ble_eq_true rfl) ?_
  refine z_at 217 rfl ?_
  obtain ⟨s95, en, hf⟩ := ok_ltp hf
  refine zb_aast (rest := []) (Cn := "FuseBox$House") (i := 10) (r := 147) hC hw99 hS99 (shN_at (n := 155) (a := 5) (x := .inl (3, 24, false, houseL.drop 4)) (by decide) rfl) rfl (shN_at (n := 155) (a := 147) (x := .inr (2, ksH 147)) (by decide) rfl) rfl (Or.inl rfl) (show inb 10 24 from by decide) (by decide) en dX11_init_217 (fun H100 locs100 hw100 hS100 => ?_)
  clear hw99 hS99
  have hw100 : World E (shN 155) s95 H100 := hw100
  have fl0_0 : s95 0 0 = 1 := by rw [en]; exact fl0_0
  have fl0_4 : s95 0 4 = 1 := by rw [en]; exact fl0_4
  have fl0_5 : s95 0 5 = 1 := by rw [en]; exact fl0_5
  clear en
  refine z_at 218 rfl ?_
  refine lv_iinc (v := 11) (lv' := [(2, .int (11)), (1, .ref (E.2.2.1 13)), (0, .ref (E.2.2.1 0))]) hx hb dX11_init_218 hl (k := 0) rfl (by decide) (by decide) rfl (fun ls hl => ?_)
  refine z_at 221 rfl ?_
  refine lv_goto (tgt := 198) hx hb dX11_init_221 (by decide) ?_
  refine lv_iload_n hx hb dX11_init_198 rfl (lv_at hl 0 rfl) ?_
  refine z_at 199 rfl ?_
  refine lv_bipush (v := 24) hx hb dX11_init_199 (by decide) ?_
  refine z_at 201 rfl ?_
  refine lv_icmp_ge (tgt := 224) hx hb dX11_init_201 (by decide) (fun h9 => absurd h9 (by decide)) (fun _ => ?_)
  refine z_at 204 rfl ?_
  refine lv_aload_n hx hb dX11_init_204 rfl (lv_at hl 2 rfl) ?_
  refine z_at 205 rfl ?_
  refine z_get (rest := []) hC hw100 (shN_at (n := 155) (a := 0) (x := .inr (10, ksX)) (by decide) rfl) (C := RX11) (T := TX11) (N := 12) rfl inw_FuseBox 5 (by decide) (o := some (true, 5)) rfl (v := .ref (E.2.2.1 5)) (fvT (nz1 fl0_5)) wd367 dX11_init_205 ?_
  refine z_at 208 rfl ?_
  refine lv_iload_n hx hb dX11_init_208 rfl (lv_at hl 0 rfl) ?_
  refine z_at 209 rfl ?_
  obtain ⟨s96, en, hf⟩ := ok_ltp hf
  refine zb_new (n := 155) (rest := [.int (11), .ref (E.2.2.1 5)]) hE hC hw100 hS100 (by decide) hb0 (by omega) rfl (C := RX3) (T := TX3) (N := 15) rfl inw_House tyX3 tyX3_ok (hfs_X3 155) wd773 wd794 wd61 (Nat.le_of_ble_eq_true rfl) (Nat.le_of_ble_eq_true rfl) en dX11_init_209 (fun H101 hw101 hS101 => ?_)
  clear hw100 hS100
  have hw101 : World E (shN 156) s96 H101 := hw101
  have fl0_0 : s96 0 0 = 1 := by rw [en]; exact fl0_0
  have fl0_4 : s96 0 4 = 1 := by rw [en]; exact fl0_4
  have fl0_5 : s96 0 5 = 1 := by rw [en]; exact fl0_5
  clear en
  refine W.widen (k := 155) (n := 1725) (Nat.le_of_ble_eq_true rfl) (Nat.le_of_ble_eq_true rfl) ?_
  refine z_at 212 rfl ?_
  refine lv_dup hx hb dX11_init_212 rfl ?_
  refine z_at 213 rfl ?_
  refine lv_aload_n hx hb dX11_init_213 rfl (lv_at hl 1 rfl) ?_
  refine z_at 214 rfl ?_
  obtain ⟨s97, en, hf⟩ := ok_ltp hf
  refine zb_cI (n := 156) (a := 155) (As := [.ref (E.2.2.1 13)]) (rest := [.ref (E.2.2.1 155), .int (11), .ref (E.2.2.1 5)]) (σ' := s97) hE hC hNT hl.1 hw101 hS101 hb0 (by omega) (en ▸ (c_X3_init l E hE (a0 := 155) (show isH 155 from (by decide +kernel : 155 ∈ houseL)))) (Or.inl (cwI 1 hts (gin (gin_code wd795)) rfl rfl rfl (hts _ wd61) (hts _ wd796) (hts _ wd797) rfl gc316 ⟨(Nat.le_of_ble_eq_true rfl), (Nat.le_of_ble_eq_true rfl)⟩)) ⟨(Nat.le_of_ble_eq_true rfl), (Nat.le_of_ble_eq_true rfl)⟩ rfl rfl (Nat.le_of_ble_eq_true rfl) dX11_init_214 (fun H102 locs102 hw102 hS102 => ?_)
  clear hw101 hS101
  have hw102 : World E (shN 163) s97 H102 := hw102
  have fl0_0 : s97 0 0 = 1 := by rw [en]; exact fl0_0
  have fl0_4 : s97 0 4 = 1 := by rw [en]; exact fl0_4
  have fl0_5 : s97 0 5 = 1 := by rw [en]; exact fl0_5
  clear en
  refine W.widen (k := 162) (n := 1757) (Nat.le_of_ble_eq_true rfl) (Nat.le_of_ble_eq_true rfl) ?_
  refine z_at 217 rfl ?_
  obtain ⟨s98, en, hf⟩ := ok_ltp hf
  refine zb_aast (rest := []) (Cn := "FuseBox$House") (i := 11) (r := 155) hC hw102 hS102 (shN_at (n := 163) (a := 5) (x := .inl (3, 24, false, houseL.drop 4)) (by decide) rfl) rfl (shN_at (n := 163) (a := 155) (x := .inr (2, ksH 155)) (by decide) rfl) rfl (Or.inl rfl) (show inb 11 24 from by decide) (by decide) en dX11_init_217 (fun H103 locs103 hw103 hS103 => ?_)
  clear hw102 hS102
  have hw103 : World E (shN 163) s98 H103 := hw103
  have fl0_0 : s98 0 0 = 1 := by rw [en]; exact fl0_0
  have fl0_4 : s98 0 4 = 1 := by rw [en]; exact fl0_4
  have fl0_5 : s98 0 5 = 1 := by rw [en]; exact fl0_5
  clear en
  refine z_at 218 rfl ?_
  exact cc_X11_init_14 hE hC hNT hin2 hr hlocks hb0 hz fl0_0 fl0_4 fl0_5 hf _ _ ls hl hw103 hS103
set_option maxHeartbeats 8000000 in
set_option maxRecDepth 100000 in
theorem cc_X11_init_12 {p : Program} {l : Launch} {e : Env} {s : State} {m : MethodId} {args : Array Value} {below : List Frame} {meth : Method} {c : Code} {E : Ev} (hE : EvOk E) (hC : Cx p s m args c cX11_init 3 "FuseBox" E) (hNT : NT s) (hin2 : meth.name = "<init>") (hr : meth.sig.returnType = none) (hlocks : meth.locks = false) (hb0 : E.2.2.1 0 ≤ s.heap.size) (hz : s.heap.size + 0 ≤ E.2.2.1 0 + 1) {s86 sz : St} (fl0_0 : s86 0 0 = 1) (fl0_4 : s86 0 4 = 1) (fl0_5 : s86 0 5 = 1) (hf : f_X11_init_12 s86 = sz) : ∀ (H : Heap) (locs : List Loc) (ls : Array Slot), lv_has ls 3 [(2, .int (7)), (1, .ref (E.2.2.1 13)), (0, .ref (E.2.2.1 0))] → World E (shN 131) s86 H → va_S E.2.2.2 s.heap H locs → W p l e (rmc 4 258 2321) s m args below meth c H locs 130 1569 (MQ below (QW E (shN 259) none sz) args s 258 2321 E.2.2.2) (F0 m 218 ls []) := by
  intro H locs ls hl hw91 hS91
  obtain ⟨hx, hb, hml, hown, hts, hTB⟩ := id hC
  unfold f_X11_init_12 at hf
  refine lv_iinc (v := 8) (lv' := [(2, .int (8)), (1, .ref (E.2.2.1 13)), (0, .ref (E.2.2.1 0))]) hx hb dX11_init_218 hl (k := 0) rfl (by decide) (by decide) rfl (fun ls hl => ?_)
  refine z_at 221 rfl ?_
  refine lv_goto (tgt := 198) hx hb dX11_init_221 (by decide) ?_
  refine lv_iload_n hx hb dX11_init_198 rfl (lv_at hl 0 rfl) ?_
  refine z_at 199 rfl ?_
  refine lv_bipush (v := 24) hx hb dX11_init_199 (by decide) ?_
  refine z_at 201 rfl ?_
  refine lv_icmp_ge (tgt := 224) hx hb dX11_init_201 (by decide) (fun h9 => absurd h9 (by decide)) (fun _ => ?_)
  refine z_at 204 rfl ?_
  refine lv_aload_n hx hb dX11_init_204 rfl (lv_at hl 2 rfl) ?_
  refine z_at 205 rfl ?_
  refine z_get (rest := []) hC hw91 (shN_at (n := 131) (a := 0) (x := .inr (10, ksX)) (by decide) rfl) (C := RX11) (T := TX11) (N := 12) rfl inw_FuseBox 5 (by decide) (o := some (true, 5)) rfl (v := .ref (E.2.2.1 5)) (fvT (nz1 fl0_5)) wd367 dX11_init_205 ?_
  refine z_at 208 rfl ?_
  refine lv_iload_n hx hb dX11_init_208 rfl (lv_at hl 0 rfl) ?_
  refine z_at 209 rfl ?_
  obtain ⟨s87, en, hf⟩ := ok_ltp hf
  refine zb_new (n := 131) (rest := [.int (8), .ref (E.2.2.1 5)]) hE hC hw91 hS91 (by decide) hb0 (by omega) rfl (C := RX3) (T := TX3) (N := 15) rfl inw_House tyX3 tyX3_ok (hfs_X3 131) wd773 wd794 wd61 (Nat.le_of_ble_eq_true rfl) (Nat.le_of_ble_eq_true rfl) en dX11_init_209 (fun H92 hw92 hS92 => ?_)
  clear hw91 hS91
  have hw92 : World E (shN 132) s87 H92 := hw92
  have fl0_0 : s87 0 0 = 1 := by rw [en]; exact fl0_0
  have fl0_4 : s87 0 4 = 1 := by rw [en]; exact fl0_4
  have fl0_5 : s87 0 5 = 1 := by rw [en]; exact fl0_5
  clear en
  refine W.widen (k := 131) (n := 1584) (Nat.le_of_ble_eq_true rfl) (Nat.le_of_ble_eq_true rfl) ?_
  refine z_at 212 rfl ?_
  refine lv_dup hx hb dX11_init_212 rfl ?_
  refine z_at 213 rfl ?_
  refine lv_aload_n hx hb dX11_init_213 rfl (lv_at hl 1 rfl) ?_
  refine z_at 214 rfl ?_
  obtain ⟨s88, en, hf⟩ := ok_ltp hf
  refine zb_cI (n := 132) (a := 131) (As := [.ref (E.2.2.1 13)]) (rest := [.ref (E.2.2.1 131), .int (8), .ref (E.2.2.1 5)]) (σ' := s88) hE hC hNT hl.1 hw92 hS92 hb0 (by omega) (en ▸ (c_X3_init l E hE (a0 := 131) (show isH 131 from (by decide +kernel : 131 ∈ houseL)))) (Or.inl (cwI 1 hts (gin (gin_code wd795)) rfl rfl rfl (hts _ wd61) (hts _ wd796) (hts _ wd797) rfl gc316 ⟨(Nat.le_of_ble_eq_true rfl), (Nat.le_of_ble_eq_true rfl)⟩)) ⟨(Nat.le_of_ble_eq_true rfl), (Nat.le_of_ble_eq_true rfl)⟩ rfl rfl (Nat.le_of_ble_eq_true rfl) dX11_init_214 (fun H93 locs93 hw93 hS93 => ?_)
  clear hw92 hS92
  have hw93 : World E (shN 139) s88 H93 := hw93
  have fl0_0 : s88 0 0 = 1 := by rw [en]; exact fl0_0
  have fl0_4 : s88 0 4 = 1 := by rw [en]; exact fl0_4
  have fl0_5 : s88 0 5 = 1 := by rw [en]; exact fl0_5
  clear en
  refine W.widen (k := 138) (n := 1616) (Nat.le_of_ble_eq_true rfl) (Nat.le_of_ble_eq_true rfl) ?_
  refine z_at 217 rfl ?_
  obtain ⟨s89, en, hf⟩ := ok_ltp hf
  refine zb_aast (rest := []) (Cn := "FuseBox$House") (i := 8) (r := 131) hC hw93 hS93 (shN_at (n := 139) (a := 5) (x := .inl (3, 24, false, houseL.drop 4)) (by decide) rfl) rfl (shN_at (n := 139) (a := 131) (x := .inr (2, ksH 131)) (by decide) rfl) rfl (Or.inl rfl) (show inb 8 24 from by decide) (by decide) en dX11_init_217 (fun H94 locs94 hw94 hS94 => ?_)
  clear hw93 hS93
  have hw94 : World E (shN 139) s89 H94 := hw94
  have fl0_0 : s89 0 0 = 1 := by rw [en]; exact fl0_0
  have fl0_4 : s89 0 4 = 1 := by rw [en]; exact fl0_4
  have fl0_5 : s89 0 5 = 1 := by rw [en]; exact fl0_5
  clear en
  refine z_at 218 rfl ?_
  refine lv_iinc (v := 9) (lv' := [(2, .int (9)), (1, .ref (E.2.2.1 13)), (0, .ref (E.2.2.1 0))]) hx hb dX11_init_218 hl (k := 0) rfl (by decide) (by decide) rfl (fun ls hl => ?_)
  refine z_at 221 rfl ?_
  refine lv_goto (tgt := 198) hx hb dX11_init_221 (by decide) ?_
  refine lv_iload_n hx hb dX11_init_198 rfl (lv_at hl 0 rfl) ?_
  refine z_at 199 rfl ?_
  refine lv_bipush (v := 24) hx hb dX11_init_199 (by decide) ?_
  refine z_at 201 rfl ?_
  refine lv_icmp_ge (tgt := 224) hx hb dX11_init_201 (by decide) (fun h9 => absurd h9 (by decide)) (fun _ => ?_)
  refine z_at 204 rfl ?_
  refine lv_aload_n hx hb dX11_init_204 rfl (lv_at hl 2 rfl) ?_
  refine z_at 205 rfl ?_
  refine z_get (rest := []) hC hw94 (shN_at (n := 139) (a := 0) (x := .inr (10, ksX)) (by decide) rfl) (C := RX11) (T := TX11) (N := 12) rfl inw_FuseBox 5 (by decide) (o := some (true, 5)) rfl (v := .ref (E.2.2.1 5)) (fvT (nz1 fl0_5)) wd367 dX11_init_205 ?_
  refine z_at 208 rfl ?_
  refine lv_iload_n hx hb dX11_init_208 rfl (lv_at hl 0 rfl) ?_
  refine z_at 209 rfl ?_
  obtain ⟨s90, en, hf⟩ := ok_ltp hf
  refine zb_new (n := 139) (rest := [.int (9), .ref (E.2.2.1 5)]) hE hC hw94 hS94 (by decide) hb0 (by omega) rfl (C := RX3) (T := TX3) (N := 15) rfl inw_House tyX3 tyX3_ok (hfs_X3 139) wd773 wd794 wd61 (Nat.le_of_ble_eq_true rfl) (Nat.le_of_ble_eq_true rfl) en dX11_init_209 (fun H95 hw95 hS95 => ?_)
  clear hw94 hS94
  have hw95 : World E (shN 140) s90 H95 := hw95
  have fl0_0 : s90 0 0 = 1 := by rw [en]; exact fl0_0
  have fl0_4 : s90 0 4 = 1 := by rw [en]; exact fl0_4
  have fl0_5 : s90 0 5 = 1 := by rw [en]; exact fl0_5
  clear en
  refine W.widen (k := 139) (n := 1631) (Nat.le_of_ble_eq_true rfl) (Nat.le_of_ble_eq_true rfl) ?_
  refine z_at 212 rfl ?_
  refine lv_dup hx hb dX11_init_212 rfl ?_
  refine z_at 213 rfl ?_
  refine lv_aload_n hx hb dX11_init_213 rfl (lv_at hl 1 rfl) ?_
  refine z_at 214 rfl ?_
  obtain ⟨s91, en, hf⟩ := ok_ltp hf
  refine zb_cI (n := 140) (a := 139) (As := [.ref (E.2.2.1 13)]) (rest := [.ref (E.2.2.1 139), .int (9), .ref (E.2.2.1 5)]) (σ' := s91) hE hC hNT hl.1 hw95 hS95 hb0 (by omega) (en ▸ (c_X3_init l E hE (a0 := 139) (show isH 139 from (by decide +kernel : 139 ∈ houseL)))) (Or.inl (cwI 1 hts (gin (gin_code wd795)) rfl rfl rfl (hts _ wd61) (hts _ wd796) (hts _ wd797) rfl gc316 ⟨(Nat.le_of_ble_eq_true rfl), (Nat.le_of_ble_eq_true rfl)⟩)) ⟨(Nat.le_of_ble_eq_true rfl), (Nat.le_of_ble_eq_true rfl)⟩ rfl rfl (Nat.le_of_ble_eq_true rfl) dX11_init_214 (fun H96 locs96 hw96 hS96 => ?_)
  clear hw95 hS95
  have hw96 : World E (shN 147) s91 H96 := hw96
  have fl0_0 : s91 0 0 = 1 := by rw [en]; exact fl0_0
  have fl0_4 : s91 0 4 = 1 := by rw [en]; exact fl0_4
  have fl0_5 : s91 0 5 = 1 := by rw [en]; exact fl0_5
  clear en
  refine W.widen (k := 146) (n := 1663) (Nat.le_of_ble_eq_true rfl) (Nat.le_of_ble_eq_true rfl) ?_
  refine z_at 217 rfl ?_
  obtain ⟨s92, en, hf⟩ := ok_ltp hf
  refine zb_aast (rest := []) (Cn := "FuseBox$House") (i := 9) (r := 139) hC hw96 hS96 (shN_at (n := 147) (a := 5) (x := .inl (3, 24, false, houseL.drop 4)) (by decide) rfl) rfl (shN_at (n := 147) (a := 139) (x := .inr (2, ksH 139)) (by decide) rfl) rfl (Or.inl rfl) (show inb 9 24 from by decide) (by decide) en dX11_init_217 (fun H97 locs97 hw97 hS97 => ?_)
  clear hw96 hS96
  have hw97 : World E (shN 147) s92 H97 := hw97
  have fl0_0 : s92 0 0 = 1 := by rw [en]; exact fl0_0
  have fl0_4 : s92 0 4 = 1 := by rw [en]; exact fl0_4
  have fl0_5 : s92 0 5 = 1 := by rw [en]; exact fl0_5
  clear en
  refine z_at 218 rfl ?_
  exact cc_X11_init_13 hE hC hNT hin2 hr hlocks hb0 hz fl0_0 fl0_4 fl0_5 hf _ _ ls hl hw97 hS97
set_option maxHeartbeats 8000000 in
set_option maxRecDepth 100000 in
theorem cc_X11_init_11 {p : Program} {l : Launch} {e : Env} {s : State} {m : MethodId} {args : Array Value} {below : List Frame} {meth : Method} {c : Code} {E : Ev} (hE : EvOk E) (hC : Cx p s m args c cX11_init 3 "FuseBox" E) (hNT : NT s) (hin2 : meth.name = "<init>") (hr : meth.sig.returnType = none) (hlocks : meth.locks = false) (hb0 : E.2.2.1 0 ≤ s.heap.size) (hz : s.heap.size + 0 ≤ E.2.2.1 0 + 1) {s80 sz : St} (fl0_0 : s80 0 0 = 1) (fl0_4 : s80 0 4 = 1) (fl0_5 : s80 0 5 = 1) (hf : f_X11_init_11 s80 = sz) : ∀ (H : Heap) (locs : List Loc) (ls : Array Slot), lv_has ls 3 [(2, .int (5)), (1, .ref (E.2.2.1 13)), (0, .ref (E.2.2.1 0))] → World E (shN 115) s80 H → va_S E.2.2.2 s.heap H locs → W p l e (rmc 4 258 2321) s m args below meth c H locs 114 1475 (MQ below (QW E (shN 259) none sz) args s 258 2321 E.2.2.2) (F0 m 218 ls []) := by
  intro H locs ls hl hw85 hS85
  obtain ⟨hx, hb, hml, hown, hts, hTB⟩ := id hC
  unfold f_X11_init_11 at hf
  refine lv_iinc (v := 6) (lv' := [(2, .int (6)), (1, .ref (E.2.2.1 13)), (0, .ref (E.2.2.1 0))]) hx hb dX11_init_218 hl (k := 0) rfl (by decide) (by decide) rfl (fun ls hl => ?_)
  refine z_at 221 rfl ?_
  refine lv_goto (tgt := 198) hx hb dX11_init_221 (by decide) ?_
  refine lv_iload_n hx hb dX11_init_198 rfl (lv_at hl 0 rfl) ?_
  refine z_at 199 rfl ?_
  refine lv_bipush (v := 24) hx hb dX11_init_199 (by decide) ?_
  refine z_at 201 rfl ?_
  refine lv_icmp_ge (tgt := 224) hx hb dX11_init_201 (by decide) (fun h9 => absurd h9 (by decide)) (fun _ => ?_)
  refine z_at 204 rfl ?_
  refine lv_aload_n hx hb dX11_init_204 rfl (lv_at hl 2 rfl) ?_
  refine z_at 205 rfl ?_
  refine z_get (rest := []) hC hw85 (shN_at (n := 115) (a := 0) (x := .inr (10, ksX)) (by decide) rfl) (C := RX11) (T := TX11) (N := 12) rfl inw_FuseBox 5 (by decide) (o := some (true, 5)) rfl (v := .ref (E.2.2.1 5)) (fvT (nz1 fl0_5)) wd367 dX11_init_205 ?_
  refine z_at 208 rfl ?_
  refine lv_iload_n hx hb dX11_init_208 rfl (lv_at hl 0 rfl) ?_
  refine z_at 209 rfl ?_
  obtain ⟨s81, en, hf⟩ := ok_ltp hf
  refine zb_new (n := 115) (rest := [.int (6), .ref (E.2.2.1 5)]) hE hC hw85 hS85 (by decide) hb0 (by omega) rfl (C := RX3) (T := TX3) (N := 15) rfl inw_House tyX3 tyX3_ok (hfs_X3 115) wd773 wd794 wd61 (Nat.le_of_ble_eq_true rfl) (Nat.le_of_ble_eq_true rfl) en dX11_init_209 (fun H86 hw86 hS86 => ?_)
  clear hw85 hS85
  have hw86 : World E (shN 116) s81 H86 := hw86
  have fl0_0 : s81 0 0 = 1 := by rw [en]; exact fl0_0
  have fl0_4 : s81 0 4 = 1 := by rw [en]; exact fl0_4
  have fl0_5 : s81 0 5 = 1 := by rw [en]; exact fl0_5
  clear en
  refine W.widen (k := 115) (n := 1490) (Nat.le_of_ble_eq_true rfl) (Nat.le_of_ble_eq_true rfl) ?_
  refine z_at 212 rfl ?_
  refine lv_dup hx hb dX11_init_212 rfl ?_
  refine z_at 213 rfl ?_
  refine lv_aload_n hx hb dX11_init_213 rfl (lv_at hl 1 rfl) ?_
  refine z_at 214 rfl ?_
  obtain ⟨s82, en, hf⟩ := ok_ltp hf
  refine zb_cI (n := 116) (a := 115) (As := [.ref (E.2.2.1 13)]) (rest := [.ref (E.2.2.1 115), .int (6), .ref (E.2.2.1 5)]) (σ' := s82) hE hC hNT hl.1 hw86 hS86 hb0 (by omega) (en ▸ (c_X3_init l E hE (a0 := 115) (show isH 115 from (by decide +kernel : 115 ∈ houseL)))) (Or.inl (cwI 1 hts (gin (gin_code wd795)) rfl rfl rfl (hts _ wd61) (hts _ wd796) (hts _ wd797) rfl gc316 ⟨(Nat.le_of_ble_eq_true rfl), (Nat.le_of_ble_eq_true rfl)⟩)) ⟨(Nat.le_of_ble_eq_true rfl), (Nat.le_of_ble_eq_true rfl)⟩ rfl rfl (Nat.le_of_ble_eq_true rfl) dX11_init_214 (fun H87 locs87 hw87 hS87 => ?_)
  clear hw86 hS86
  have hw87 : World E (shN 123) s82 H87 := hw87
  have fl0_0 : s82 0 0 = 1 := by rw [en]; exact fl0_0
  have fl0_4 : s82 0 4 = 1 := by rw [en]; exact fl0_4
  have fl0_5 : s82 0 5 = 1 := by rw [en]; exact fl0_5
  clear en
  refine W.widen (k := 122) (n := 1522) (Nat.le_of_ble_eq_true rfl) (Nat.le_of_ble_eq_true rfl) ?_
  refine z_at 217 rfl ?_
  obtain ⟨s83, en, hf⟩ := ok_ltp hf
  refine zb_aast (rest := []) (Cn := "FuseBox$House") (i := 6) (r := 115) hC hw87 hS87 (shN_at (n := 123) (a := 5) (x := .inl (3, 24, false, houseL.drop 4)) (by decide) rfl) rfl (shN_at (n := 123) (a := 115) (x := .inr (2, ksH 115)) (by decide) rfl) rfl (Or.inl rfl) (show inb 6 24 from by decide) (by decide) en dX11_init_217 (fun H88 locs88 hw88 hS88 => ?_)
  clear hw87 hS87
  have hw88 : World E (shN 123) s83 H88 := hw88
  have fl0_0 : s83 0 0 = 1 := by rw [en]; exact fl0_0
  have fl0_4 : s83 0 4 = 1 := by rw [en]; exact fl0_4
  have fl0_5 : s83 0 5 = 1 := by rw [en]; exact fl0_5
  clear en
  refine z_at 218 rfl ?_
  refine lv_iinc (v := 7) (lv' := [(2, .int (7)), (1, .ref (E.2.2.1 13)), (0, .ref (E.2.2.1 0))]) hx hb dX11_init_218 hl (k := 0) rfl (by decide) (by decide) rfl (fun ls hl => ?_)
  refine z_at 221 rfl ?_
  refine lv_goto (tgt := 198) hx hb dX11_init_221 (by decide) ?_
  refine lv_iload_n hx hb dX11_init_198 rfl (lv_at hl 0 rfl) ?_
  refine z_at 199 rfl ?_
  refine lv_bipush (v := 24) hx hb dX11_init_199 (by decide) ?_
  refine z_at 201 rfl ?_
  refine lv_icmp_ge (tgt := 224) hx hb dX11_init_201 (by decide) (fun h9 => absurd h9 (by decide)) (fun _ => ?_)
  refine z_at 204 rfl ?_
  refine lv_aload_n hx hb dX11_init_204 rfl (lv_at hl 2 rfl) ?_
  refine z_at 205 rfl ?_
  refine z_get (rest := []) hC hw88 (shN_at (n := 123) (a := 0) (x := .inr (10, ksX)) (by decide) rfl) (C := RX11) (T := TX11) (N := 12) rfl inw_FuseBox 5 (by decide) (o := some (true, 5)) rfl (v := .ref (E.2.2.1 5)) (fvT (nz1 fl0_5)) wd367 dX11_init_205 ?_
  refine z_at 208 rfl ?_
  refine lv_iload_n hx hb dX11_init_208 rfl (lv_at hl 0 rfl) ?_
  refine z_at 209 rfl ?_
  obtain ⟨s84, en, hf⟩ := ok_ltp hf
  refine zb_new (n := 123) (rest := [.int (7), .ref (E.2.2.1 5)]) hE hC hw88 hS88 (by decide) hb0 (by omega) rfl (C := RX3) (T := TX3) (N := 15) rfl inw_House tyX3 tyX3_ok (hfs_X3 123) wd773 wd794 wd61 (Nat.le_of_ble_eq_true rfl) (Nat.le_of_ble_eq_true rfl) en dX11_init_209 (fun H89 hw89 hS89 => ?_)
  clear hw88 hS88
  have hw89 : World E (shN 124) s84 H89 := hw89
  have fl0_0 : s84 0 0 = 1 := by rw [en]; exact fl0_0
  have fl0_4 : s84 0 4 = 1 := by rw [en]; exact fl0_4
  have fl0_5 : s84 0 5 = 1 := by rw [en]; exact fl0_5
  clear en
  refine W.widen (k := 123) (n := 1537) (Nat.le_of_ble_eq_true rfl) (Nat.le_of_ble_eq_true rfl) ?_
  refine z_at 212 rfl ?_
  refine lv_dup hx hb dX11_init_212 rfl ?_
  refine z_at 213 rfl ?_
  refine lv_aload_n hx hb dX11_init_213 rfl (lv_at hl 1 rfl) ?_
  refine z_at 214 rfl ?_
  obtain ⟨s85, en, hf⟩ := ok_ltp hf
  refine zb_cI (n := 124) (a := 123) (As := [.ref (E.2.2.1 13)]) (rest := [.ref (E.2.2.1 123), .int (7), .ref (E.2.2.1 5)]) (σ' := s85) hE hC hNT hl.1 hw89 hS89 hb0 (by omega) (en ▸ (c_X3_init l E hE (a0 := 123) (show isH 123 from (by decide +kernel : 123 ∈ houseL)))) (Or.inl (cwI 1 hts (gin (gin_code wd795)) rfl rfl rfl (hts _ wd61) (hts _ wd796) (hts _ wd797) rfl gc316 ⟨(Nat.le_of_ble_eq_true rfl), (Nat.le_of_ble_eq_true rfl)⟩)) ⟨(Nat.le_of_ble_eq_true rfl), (Nat.le_of_ble_eq_true rfl)⟩ rfl rfl (Nat.le_of_ble_eq_true rfl) dX11_init_214 (fun H90 locs90 hw90 hS90 => ?_)
  clear hw89 hS89
  have hw90 : World E (shN 131) s85 H90 := hw90
  have fl0_0 : s85 0 0 = 1 := by rw [en]; exact fl0_0
  have fl0_4 : s85 0 4 = 1 := by rw [en]; exact fl0_4
  have fl0_5 : s85 0 5 = 1 := by rw [en]; exact fl0_5
  clear en
  refine W.widen (k := 130) (n := 1569) (Nat.le_of_ble_eq_true rfl) (Nat.le_of_ble_eq_true rfl) ?_
  refine z_at 217 rfl ?_
  obtain ⟨s86, en, hf⟩ := ok_ltp hf
  refine zb_aast (rest := []) (Cn := "FuseBox$House") (i := 7) (r := 123) hC hw90 hS90 (shN_at (n := 131) (a := 5) (x := .inl (3, 24, false, houseL.drop 4)) (by decide) rfl) rfl (shN_at (n := 131) (a := 123) (x := .inr (2, ksH 123)) (by decide) rfl) rfl (Or.inl rfl) (show inb 7 24 from by decide) (by decide) en dX11_init_217 (fun H91 locs91 hw91 hS91 => ?_)
  clear hw90 hS90
  have hw91 : World E (shN 131) s86 H91 := hw91
  have fl0_0 : s86 0 0 = 1 := by rw [en]; exact fl0_0
  have fl0_4 : s86 0 4 = 1 := by rw [en]; exact fl0_4
  have fl0_5 : s86 0 5 = 1 := by rw [en]; exact fl0_5
  clear en
  refine z_at 218 rfl ?_
  exact cc_X11_init_12 hE hC hNT hin2 hr hlocks hb0 hz fl0_0 fl0_4 fl0_5 hf _ _ ls hl hw91 hS91
set_option maxHeartbeats 8000000 in
set_option maxRecDepth 100000 in
theorem cc_X11_init_10 {p : Program} {l : Launch} {e : Env} {s : State} {m : MethodId} {args : Array Value} {below : List Frame} {meth : Method} {c : Code} {E : Ev} (hE : EvOk E) (hC : Cx p s m args c cX11_init 3 "FuseBox" E) (hNT : NT s) (hin2 : meth.name = "<init>") (hr : meth.sig.returnType = none) (hlocks : meth.locks = false) (hb0 : E.2.2.1 0 ≤ s.heap.size) (hz : s.heap.size + 0 ≤ E.2.2.1 0 + 1) {s74 sz : St} (fl0_0 : s74 0 0 = 1) (fl0_4 : s74 0 4 = 1) (fl0_5 : s74 0 5 = 1) (hf : f_X11_init_10 s74 = sz) : ∀ (H : Heap) (locs : List Loc) (ls : Array Slot), lv_has ls 3 [(2, .int (3)), (1, .ref (E.2.2.1 13)), (0, .ref (E.2.2.1 0))] → World E (shN 99) s74 H → va_S E.2.2.2 s.heap H locs → W p l e (rmc 4 258 2321) s m args below meth c H locs 98 1381 (MQ below (QW E (shN 259) none sz) args s 258 2321 E.2.2.2) (F0 m 218 ls []) := by
  intro H locs ls hl hw79 hS79
  obtain ⟨hx, hb, hml, hown, hts, hTB⟩ := id hC
  unfold f_X11_init_10 at hf
  refine lv_iinc (v := 4) (lv' := [(2, .int (4)), (1, .ref (E.2.2.1 13)), (0, .ref (E.2.2.1 0))]) hx hb dX11_init_218 hl (k := 0) rfl (by decide) (by decide) rfl (fun ls hl => ?_)
  refine z_at 221 rfl ?_
  refine lv_goto (tgt := 198) hx hb dX11_init_221 (by decide) ?_
  refine lv_iload_n hx hb dX11_init_198 rfl (lv_at hl 0 rfl) ?_
  refine z_at 199 rfl ?_
  refine lv_bipush (v := 24) hx hb dX11_init_199 (by decide) ?_
  refine z_at 201 rfl ?_
  refine lv_icmp_ge (tgt := 224) hx hb dX11_init_201 (by decide) (fun h9 => absurd h9 (by decide)) (fun _ => ?_)
  refine z_at 204 rfl ?_
  refine lv_aload_n hx hb dX11_init_204 rfl (lv_at hl 2 rfl) ?_
  refine z_at 205 rfl ?_
  refine z_get (rest := []) hC hw79 (shN_at (n := 99) (a := 0) (x := .inr (10, ksX)) (by decide) rfl) (C := RX11) (T := TX11) (N := 12) rfl inw_FuseBox 5 (by decide) (o := some (true, 5)) rfl (v := .ref (E.2.2.1 5)) (fvT (nz1 fl0_5)) wd367 dX11_init_205 ?_
  refine z_at 208 rfl ?_
  refine lv_iload_n hx hb dX11_init_208 rfl (lv_at hl 0 rfl) ?_
  refine z_at 209 rfl ?_
  obtain ⟨s75, en, hf⟩ := ok_ltp hf
  refine zb_new (n := 99) (rest := [.int (4), .ref (E.2.2.1 5)]) hE hC hw79 hS79 (by decide) hb0 (by omega) rfl (C := RX3) (T := TX3) (N := 15) rfl inw_House tyX3 tyX3_ok (hfs_X3 99) wd773 wd794 wd61 (Nat.le_of_ble_eq_true rfl) (Nat.le_of_ble_eq_true rfl) en dX11_init_209 (fun H80 hw80 hS80 => ?_)
  clear hw79 hS79
  have hw80 : World E (shN 100) s75 H80 := hw80
  have fl0_0 : s75 0 0 = 1 := by rw [en]; exact fl0_0
  have fl0_4 : s75 0 4 = 1 := by rw [en]; exact fl0_4
  have fl0_5 : s75 0 5 = 1 := by rw [en]; exact fl0_5
  clear en
  refine W.widen (k := 99) (n := 1396) (Nat.le_of_ble_eq_true rfl) (Nat.le_of_ble_eq_true rfl) ?_
  refine z_at 212 rfl ?_
  refine lv_dup hx hb dX11_init_212 rfl ?_
  refine z_at 213 rfl ?_
  refine lv_aload_n hx hb dX11_init_213 rfl (lv_at hl 1 rfl) ?_
  refine z_at 214 rfl ?_
  obtain ⟨s76, en, hf⟩ := ok_ltp hf
  refine zb_cI (n := 100) (a := 99) (As := [.ref (E.2.2.1 13)]) (rest := [.ref (E.2.2.1 99), .int (4), .ref (E.2.2.1 5)]) (σ' := s76) hE hC hNT hl.1 hw80 hS80 hb0 (by omega) (en ▸ (c_X3_init l E hE (a0 := 99) (show isH 99 from (by decide +kernel : 99 ∈ houseL)))) (Or.inl (cwI 1 hts (gin (gin_code wd795)) rfl rfl rfl (hts _ wd61) (hts _ wd796) (hts _ wd797) rfl gc316 ⟨(Nat.le_of_ble_eq_true rfl), (Nat.le_of_ble_eq_true rfl)⟩)) ⟨(Nat.le_of_ble_eq_true rfl), (Nat.le_of_ble_eq_true rfl)⟩ rfl rfl (Nat.le_of_ble_eq_true rfl) dX11_init_214 (fun H81 locs81 hw81 hS81 => ?_)
  clear hw80 hS80
  have hw81 : World E (shN 107) s76 H81 := hw81
  have fl0_0 : s76 0 0 = 1 := by rw [en]; exact fl0_0
  have fl0_4 : s76 0 4 = 1 := by rw [en]; exact fl0_4
  have fl0_5 : s76 0 5 = 1 := by rw [en]; exact fl0_5
  clear en
  refine W.widen (k := 106) (n := 1428) (Nat.le_of_ble_eq_true rfl) (Nat.le_of_ble_eq_true rfl) ?_
  refine z_at 217 rfl ?_
  obtain ⟨s77, en, hf⟩ := ok_ltp hf
  refine zb_aast (rest := []) (Cn := "FuseBox$House") (i := 4) (r := 99) hC hw81 hS81 (shN_at (n := 107) (a := 5) (x := .inl (3, 24, false, houseL.drop 4)) (by decide) rfl) rfl (shN_at (n := 107) (a := 99) (x := .inr (2, ksH 99)) (by decide) rfl) rfl (Or.inl rfl) (show inb 4 24 from by decide) (by decide) en dX11_init_217 (fun H82 locs82 hw82 hS82 => ?_)
  clear hw81 hS81
  have hw82 : World E (shN 107) s77 H82 := hw82
  have fl0_0 : s77 0 0 = 1 := by rw [en]; exact fl0_0
  have fl0_4 : s77 0 4 = 1 := by rw [en]; exact fl0_4
  have fl0_5 : s77 0 5 = 1 := by rw [en]; exact fl0_5
  clear en
  refine z_at 218 rfl ?_
  refine lv_iinc (v := 5) (lv' := [(2, .int (5)), (1, .ref (E.2.2.1 13)), (0, .ref (E.2.2.1 0))]) hx hb dX11_init_218 hl (k := 0) rfl (by decide) (by decide) rfl (fun ls hl => ?_)
  refine z_at 221 rfl ?_
  refine lv_goto (tgt := 198) hx hb dX11_init_221 (by decide) ?_
  refine lv_iload_n hx hb dX11_init_198 rfl (lv_at hl 0 rfl) ?_
  refine z_at 199 rfl ?_
  refine lv_bipush (v := 24) hx hb dX11_init_199 (by decide) ?_
  refine z_at 201 rfl ?_
  refine lv_icmp_ge (tgt := 224) hx hb dX11_init_201 (by decide) (fun h9 => absurd h9 (by decide)) (fun _ => ?_)
  refine z_at 204 rfl ?_
  refine lv_aload_n hx hb dX11_init_204 rfl (lv_at hl 2 rfl) ?_
  refine z_at 205 rfl ?_
  refine z_get (rest := []) hC hw82 (shN_at (n := 107) (a := 0) (x := .inr (10, ksX)) (by decide) rfl) (C := RX11) (T := TX11) (N := 12) rfl inw_FuseBox 5 (by decide) (o := some (true, 5)) rfl (v := .ref (E.2.2.1 5)) (fvT (nz1 fl0_5)) wd367 dX11_init_205 ?_
  refine z_at 208 rfl ?_
  refine lv_iload_n hx hb dX11_init_208 rfl (lv_at hl 0 rfl) ?_
  refine z_at 209 rfl ?_
  obtain ⟨s78, en, hf⟩ := ok_ltp hf
  refine zb_new (n := 107) (rest := [.int (5), .ref (E.2.2.1 5)]) hE hC hw82 hS82 (by decide) hb0 (by omega) rfl (C := RX3) (T := TX3) (N := 15) rfl inw_House tyX3 tyX3_ok (hfs_X3 107) wd773 wd794 wd61 (Nat.le_of_ble_eq_true rfl) (Nat.le_of_ble_eq_true rfl) en dX11_init_209 (fun H83 hw83 hS83 => ?_)
  clear hw82 hS82
  have hw83 : World E (shN 108) s78 H83 := hw83
  have fl0_0 : s78 0 0 = 1 := by rw [en]; exact fl0_0
  have fl0_4 : s78 0 4 = 1 := by rw [en]; exact fl0_4
  have fl0_5 : s78 0 5 = 1 := by rw [en]; exact fl0_5
  clear en
  refine W.widen (k := 107) (n := 1443) (Nat.le_of_ble_eq_true rfl) (Nat.le_of_ble_eq_true rfl) ?_
  refine z_at 212 rfl ?_
  refine lv_dup hx hb dX11_init_212 rfl ?_
  refine z_at 213 rfl ?_
  refine lv_aload_n hx hb dX11_init_213 rfl (lv_at hl 1 rfl) ?_
  refine z_at 214 rfl ?_
  obtain ⟨s79, en, hf⟩ := ok_ltp hf
  refine zb_cI (n := 108) (a := 107) (As := [.ref (E.2.2.1 13)]) (rest := [.ref (E.2.2.1 107), .int (5), .ref (E.2.2.1 5)]) (σ' := s79) hE hC hNT hl.1 hw83 hS83 hb0 (by omega) (en ▸ (c_X3_init l E hE (a0 := 107) (show isH 107 from (by decide +kernel : 107 ∈ houseL)))) (Or.inl (cwI 1 hts (gin (gin_code wd795)) rfl rfl rfl (hts _ wd61) (hts _ wd796) (hts _ wd797) rfl gc316 ⟨(Nat.le_of_ble_eq_true rfl), (Nat.le_of_ble_eq_true rfl)⟩)) ⟨(Nat.le_of_ble_eq_true rfl), (Nat.le_of_ble_eq_true rfl)⟩ rfl rfl (Nat.le_of_ble_eq_true rfl) dX11_init_214 (fun H84 locs84 hw84 hS84 => ?_)
  clear hw83 hS83
  have hw84 : World E (shN 115) s79 H84 := hw84
  have fl0_0 : s79 0 0 = 1 := by rw [en]; exact fl0_0
  have fl0_4 : s79 0 4 = 1 := by rw [en]; exact fl0_4
  have fl0_5 : s79 0 5 = 1 := by rw [en]; exact fl0_5
  clear en
  refine W.widen (k := 114) (n := 1475) (Nat.le_of_ble_eq_true rfl) (Nat.le_of_ble_eq_true rfl) ?_
  refine z_at 217 rfl ?_
  obtain ⟨s80, en, hf⟩ := ok_ltp hf
  refine zb_aast (rest := []) (Cn := "FuseBox$House") (i := 5) (r := 107) hC hw84 hS84 (shN_at (n := 115) (a := 5) (x := .inl (3, 24, false, houseL.drop 4)) (by decide) rfl) rfl (shN_at (n := 115) (a := 107) (x := .inr (2, ksH 107)) (by decide) rfl) rfl (Or.inl rfl) (show inb 5 24 from by decide) (by decide) en dX11_init_217 (fun H85 locs85 hw85 hS85 => ?_)
  clear hw84 hS84
  have hw85 : World E (shN 115) s80 H85 := hw85
  have fl0_0 : s80 0 0 = 1 := by rw [en]; exact fl0_0
  have fl0_4 : s80 0 4 = 1 := by rw [en]; exact fl0_4
  have fl0_5 : s80 0 5 = 1 := by rw [en]; exact fl0_5
  clear en
  refine z_at 218 rfl ?_
  exact cc_X11_init_11 hE hC hNT hin2 hr hlocks hb0 hz fl0_0 fl0_4 fl0_5 hf _ _ ls hl hw85 hS85
set_option maxHeartbeats 8000000 in
set_option maxRecDepth 100000 in
theorem cc_X11_init_9 {p : Program} {l : Launch} {e : Env} {s : State} {m : MethodId} {args : Array Value} {below : List Frame} {meth : Method} {c : Code} {E : Ev} (hE : EvOk E) (hC : Cx p s m args c cX11_init 3 "FuseBox" E) (hNT : NT s) (hin2 : meth.name = "<init>") (hr : meth.sig.returnType = none) (hlocks : meth.locks = false) (hb0 : E.2.2.1 0 ≤ s.heap.size) (hz : s.heap.size + 0 ≤ E.2.2.1 0 + 1) {s68 sz : St} (fl0_0 : s68 0 0 = 1) (fl0_4 : s68 0 4 = 1) (fl0_5 : s68 0 5 = 1) (hf : f_X11_init_9 s68 = sz) : ∀ (H : Heap) (locs : List Loc) (ls : Array Slot), lv_has ls 3 [(2, .int (1)), (1, .ref (E.2.2.1 13)), (0, .ref (E.2.2.1 0))] → World E (shN 83) s68 H → va_S E.2.2.2 s.heap H locs → W p l e (rmc 4 258 2321) s m args below meth c H locs 82 1287 (MQ below (QW E (shN 259) none sz) args s 258 2321 E.2.2.2) (F0 m 218 ls []) := by
  intro H locs ls hl hw73 hS73
  obtain ⟨hx, hb, hml, hown, hts, hTB⟩ := id hC
  unfold f_X11_init_9 at hf
  refine lv_iinc (v := 2) (lv' := [(2, .int (2)), (1, .ref (E.2.2.1 13)), (0, .ref (E.2.2.1 0))]) hx hb dX11_init_218 hl (k := 0) rfl (by decide) (by decide) rfl (fun ls hl => ?_)
  refine z_at 221 rfl ?_
  refine lv_goto (tgt := 198) hx hb dX11_init_221 (by decide) ?_
  refine lv_iload_n hx hb dX11_init_198 rfl (lv_at hl 0 rfl) ?_
  refine z_at 199 rfl ?_
  refine lv_bipush (v := 24) hx hb dX11_init_199 (by decide) ?_
  refine z_at 201 rfl ?_
  refine lv_icmp_ge (tgt := 224) hx hb dX11_init_201 (by decide) (fun h9 => absurd h9 (by decide)) (fun _ => ?_)
  refine z_at 204 rfl ?_
  refine lv_aload_n hx hb dX11_init_204 rfl (lv_at hl 2 rfl) ?_
  refine z_at 205 rfl ?_
  refine z_get (rest := []) hC hw73 (shN_at (n := 83) (a := 0) (x := .inr (10, ksX)) (by decide) rfl) (C := RX11) (T := TX11) (N := 12) rfl inw_FuseBox 5 (by decide) (o := some (true, 5)) rfl (v := .ref (E.2.2.1 5)) (fvT (nz1 fl0_5)) wd367 dX11_init_205 ?_
  refine z_at 208 rfl ?_
  refine lv_iload_n hx hb dX11_init_208 rfl (lv_at hl 0 rfl) ?_
  refine z_at 209 rfl ?_
  obtain ⟨s69, en, hf⟩ := ok_ltp hf
  refine zb_new (n := 83) (rest := [.int (2), .ref (E.2.2.1 5)]) hE hC hw73 hS73 (by decide) hb0 (by omega) rfl (C := RX3) (T := TX3) (N := 15) rfl inw_House tyX3 tyX3_ok (hfs_X3 83) wd773 wd794 wd61 (Nat.le_of_ble_eq_true rfl) (Nat.le_of_ble_eq_true rfl) en dX11_init_209 (fun H74 hw74 hS74 => ?_)
  clear hw73 hS73
  have hw74 : World E (shN 84) s69 H74 := hw74
  have fl0_0 : s69 0 0 = 1 := by rw [en]; exact fl0_0
  have fl0_4 : s69 0 4 = 1 := by rw [en]; exact fl0_4
  have fl0_5 : s69 0 5 = 1 := by rw [en]; exact fl0_5
  clear en
  refine W.widen (k := 83) (n := 1302) (Nat.le_of_ble_eq_true rfl) (Nat.le_of_ble_eq_true rfl) ?_
  refine z_at 212 rfl ?_
  refine lv_dup hx hb dX11_init_212 rfl ?_
  refine z_at 213 rfl ?_
  refine lv_aload_n hx hb dX11_init_213 rfl (lv_at hl 1 rfl) ?_
  refine z_at 214 rfl ?_
  obtain ⟨s70, en, hf⟩ := ok_ltp hf
  refine zb_cI (n := 84) (a := 83) (As := [.ref (E.2.2.1 13)]) (rest := [.ref (E.2.2.1 83), .int (2), .ref (E.2.2.1 5)]) (σ' := s70) hE hC hNT hl.1 hw74 hS74 hb0 (by omega) (en ▸ (c_X3_init l E hE (a0 := 83) (show isH 83 from (by decide +kernel : 83 ∈ houseL)))) (Or.inl (cwI 1 hts (gin (gin_code wd795)) rfl rfl rfl (hts _ wd61) (hts _ wd796) (hts _ wd797) rfl gc316 ⟨(Nat.le_of_ble_eq_true rfl), (Nat.le_of_ble_eq_true rfl)⟩)) ⟨(Nat.le_of_ble_eq_true rfl), (Nat.le_of_ble_eq_true rfl)⟩ rfl rfl (Nat.le_of_ble_eq_true rfl) dX11_init_214 (fun H75 locs75 hw75 hS75 => ?_)
  clear hw74 hS74
  have hw75 : World E (shN 91) s70 H75 := hw75
  have fl0_0 : s70 0 0 = 1 := by rw [en]; exact fl0_0
  have fl0_4 : s70 0 4 = 1 := by rw [en]; exact fl0_4
  have fl0_5 : s70 0 5 = 1 := by rw [en]; exact fl0_5
  clear en
  refine W.widen (k := 90) (n := 1334) (Nat.le_of_ble_eq_true rfl) (Nat.le_of_ble_eq_true rfl) ?_
  refine z_at 217 rfl ?_
  obtain ⟨s71, en, hf⟩ := ok_ltp hf
  refine zb_aast (rest := []) (Cn := "FuseBox$House") (i := 2) (r := 83) hC hw75 hS75 (shN_at (n := 91) (a := 5) (x := .inl (3, 24, false, houseL.drop 4)) (by decide) rfl) rfl (shN_at (n := 91) (a := 83) (x := .inr (2, ksH 83)) (by decide) rfl) rfl (Or.inl rfl) (show inb 2 24 from by decide) (by decide) en dX11_init_217 (fun H76 locs76 hw76 hS76 => ?_)
  clear hw75 hS75
  have hw76 : World E (shN 91) s71 H76 := hw76
  have fl0_0 : s71 0 0 = 1 := by rw [en]; exact fl0_0
  have fl0_4 : s71 0 4 = 1 := by rw [en]; exact fl0_4
  have fl0_5 : s71 0 5 = 1 := by rw [en]; exact fl0_5
  clear en
  refine z_at 218 rfl ?_
  refine lv_iinc (v := 3) (lv' := [(2, .int (3)), (1, .ref (E.2.2.1 13)), (0, .ref (E.2.2.1 0))]) hx hb dX11_init_218 hl (k := 0) rfl (by decide) (by decide) rfl (fun ls hl => ?_)
  refine z_at 221 rfl ?_
  refine lv_goto (tgt := 198) hx hb dX11_init_221 (by decide) ?_
  refine lv_iload_n hx hb dX11_init_198 rfl (lv_at hl 0 rfl) ?_
  refine z_at 199 rfl ?_
  refine lv_bipush (v := 24) hx hb dX11_init_199 (by decide) ?_
  refine z_at 201 rfl ?_
  refine lv_icmp_ge (tgt := 224) hx hb dX11_init_201 (by decide) (fun h9 => absurd h9 (by decide)) (fun _ => ?_)
  refine z_at 204 rfl ?_
  refine lv_aload_n hx hb dX11_init_204 rfl (lv_at hl 2 rfl) ?_
  refine z_at 205 rfl ?_
  refine z_get (rest := []) hC hw76 (shN_at (n := 91) (a := 0) (x := .inr (10, ksX)) (by decide) rfl) (C := RX11) (T := TX11) (N := 12) rfl inw_FuseBox 5 (by decide) (o := some (true, 5)) rfl (v := .ref (E.2.2.1 5)) (fvT (nz1 fl0_5)) wd367 dX11_init_205 ?_
  refine z_at 208 rfl ?_
  refine lv_iload_n hx hb dX11_init_208 rfl (lv_at hl 0 rfl) ?_
  refine z_at 209 rfl ?_
  obtain ⟨s72, en, hf⟩ := ok_ltp hf
  refine zb_new (n := 91) (rest := [.int (3), .ref (E.2.2.1 5)]) hE hC hw76 hS76 (by decide) hb0 (by omega) rfl (C := RX3) (T := TX3) (N := 15) rfl inw_House tyX3 tyX3_ok (hfs_X3 91) wd773 wd794 wd61 (Nat.le_of_ble_eq_true rfl) (Nat.le_of_ble_eq_true rfl) en dX11_init_209 (fun H77 hw77 hS77 => ?_)
  clear hw76 hS76
  have hw77 : World E (shN 92) s72 H77 := hw77
  have fl0_0 : s72 0 0 = 1 := by rw [en]; exact fl0_0
  have fl0_4 : s72 0 4 = 1 := by rw [en]; exact fl0_4
  have fl0_5 : s72 0 5 = 1 := by rw [en]; exact fl0_5
  clear en
  refine W.widen (k := 91) (n := 1349) (Nat.le_of_ble_eq_true rfl) (Nat.le_of_ble_eq_true rfl) ?_
  refine z_at 212 rfl ?_
  refine lv_dup hx hb dX11_init_212 rfl ?_
  refine z_at 213 rfl ?_
  refine lv_aload_n hx hb dX11_init_213 rfl (lv_at hl 1 rfl) ?_
  refine z_at 214 rfl ?_
  obtain ⟨s73, en, hf⟩ := ok_ltp hf
  refine zb_cI (n := 92) (a := 91) (As := [.ref (E.2.2.1 13)]) (rest := [.ref (E.2.2.1 91), .int (3), .ref (E.2.2.1 5)]) (σ' := s73) hE hC hNT hl.1 hw77 hS77 hb0 (by omega) (en ▸ (c_X3_init l E hE (a0 := 91) (show isH 91 from (by decide +kernel : 91 ∈ houseL)))) (Or.inl (cwI 1 hts (gin (gin_code wd795)) rfl rfl rfl (hts _ wd61) (hts _ wd796) (hts _ wd797) rfl gc316 ⟨(Nat.le_of_ble_eq_true rfl), (Nat.le_of_ble_eq_true rfl)⟩)) ⟨(Nat.le_of_ble_eq_true rfl), (Nat.le_of_ble_eq_true rfl)⟩ rfl rfl (Nat.le_of_ble_eq_true rfl) dX11_init_214 (fun H78 locs78 hw78 hS78 => ?_)
  clear hw77 hS77
  have hw78 : World E (shN 99) s73 H78 := hw78
  have fl0_0 : s73 0 0 = 1 := by rw [en]; exact fl0_0
  have fl0_4 : s73 0 4 = 1 := by rw [en]; exact fl0_4
  have fl0_5 : s73 0 5 = 1 := by rw [en]; exact fl0_5
  clear en
  refine W.widen (k := 98) (n := 1381) (Nat.le_of_ble_eq_true rfl) (Nat.le_of_ble_eq_true rfl) ?_
  refine z_at 217 rfl ?_
  obtain ⟨s74, en, hf⟩ := ok_ltp hf
  refine zb_aast (rest := []) (Cn := "FuseBox$House") (i := 3) (r := 91) hC hw78 hS78 (shN_at (n := 99) (a := 5) (x := .inl (3, 24, false, houseL.drop 4)) (by decide) rfl) rfl (shN_at (n := 99) (a := 91) (x := .inr (2, ksH 91)) (by decide) rfl) rfl (Or.inl rfl) (show inb 3 24 from by decide) (by decide) en dX11_init_217 (fun H79 locs79 hw79 hS79 => ?_)
  clear hw78 hS78
  have hw79 : World E (shN 99) s74 H79 := hw79
  have fl0_0 : s74 0 0 = 1 := by rw [en]; exact fl0_0
  have fl0_4 : s74 0 4 = 1 := by rw [en]; exact fl0_4
  have fl0_5 : s74 0 5 = 1 := by rw [en]; exact fl0_5
  clear en
  refine z_at 218 rfl ?_
  exact cc_X11_init_10 hE hC hNT hin2 hr hlocks hb0 hz fl0_0 fl0_4 fl0_5 hf _ _ ls hl hw79 hS79
set_option maxHeartbeats 8000000 in
set_option maxRecDepth 100000 in
theorem cc_X11_init_8 {p : Program} {l : Launch} {e : Env} {s : State} {m : MethodId} {args : Array Value} {below : List Frame} {meth : Method} {c : Code} {E : Ev} (hE : EvOk E) (hC : Cx p s m args c cX11_init 3 "FuseBox" E) (hNT : NT s) (hin2 : meth.name = "<init>") (hr : meth.sig.returnType = none) (hlocks : meth.locks = false) (hb0 : E.2.2.1 0 ≤ s.heap.size) (hz : s.heap.size + 0 ≤ E.2.2.1 0 + 1) {s62 sz : St} (fl0_0 : s62 0 0 = 1) (fl0_4 : s62 0 4 = 1) (fl0_5 : s62 0 5 = 1) (hf : f_X11_init_8 s62 = sz) : ∀ (H : Heap) (locs : List Loc) (ls : Array Slot), lv_has ls 3 [(2, .int (1)), (1, .ref (E.2.2.1 13)), (0, .ref (E.2.2.1 0))] → World E (shN 67) s62 H → va_S E.2.2.2 s.heap H locs → W p l e (rmc 4 258 2321) s m args below meth c H locs 66 1193 (MQ below (QW E (shN 259) none sz) args s 258 2321 E.2.2.2) (F0 m 190 ls []) := by
  intro H locs ls hl hw67 hS67
  obtain ⟨hx, hb, hml, hown, hts, hTB⟩ := id hC
  unfold f_X11_init_8 at hf
  refine lv_iinc (v := 2) (lv' := [(2, .int (2)), (1, .ref (E.2.2.1 13)), (0, .ref (E.2.2.1 0))]) hx hb dX11_init_190 hl (k := 0) rfl (by decide) (by decide) rfl (fun ls hl => ?_)
  refine z_at 193 rfl ?_
  refine lv_goto (tgt := 171) hx hb dX11_init_193 (by decide) ?_
  refine lv_iload_n hx hb dX11_init_171 rfl (lv_at hl 0 rfl) ?_
  refine z_at 172 rfl ?_
  refine lv_iconst (v := 2) hx hb dX11_init_172 (by decide) ?_
  refine z_at 173 rfl ?_
  refine lv_icmp_ge (tgt := 196) hx hb dX11_init_173 (by decide) (fun _ => ?_) (fun h9 => absurd (by decide) h9)
  refine lv_iconst (v := 0) hx hb dX11_init_196 (by decide) ?_
  refine z_at 197 rfl ?_
  refine lv_istore_n (lv' := [(2, .int (0)), (1, .ref (E.2.2.1 13)), (0, .ref (E.2.2.1 0))]) hx hb dX11_init_197 rfl hl (by decide) rfl (fun ls hl => ?_)
  refine z_at 198 rfl ?_
  refine lv_iload_n hx hb dX11_init_198 rfl (lv_at hl 0 rfl) ?_
  refine z_at 199 rfl ?_
  refine lv_bipush (v := 24) hx hb dX11_init_199 (by decide) ?_
  refine z_at 201 rfl ?_
  refine lv_icmp_ge (tgt := 224) hx hb dX11_init_201 (by decide) (fun h9 => absurd h9 (by decide)) (fun _ => ?_)
  refine z_at 204 rfl ?_
  refine lv_aload_n hx hb dX11_init_204 rfl (lv_at hl 2 rfl) ?_
  refine z_at 205 rfl ?_
  refine z_get (rest := []) hC hw67 (shN_at (n := 67) (a := 0) (x := .inr (10, ksX)) (by decide) rfl) (C := RX11) (T := TX11) (N := 12) rfl inw_FuseBox 5 (by decide) (o := some (true, 5)) rfl (v := .ref (E.2.2.1 5)) (fvT (nz1 fl0_5)) wd367 dX11_init_205 ?_
  refine z_at 208 rfl ?_
  refine lv_iload_n hx hb dX11_init_208 rfl (lv_at hl 0 rfl) ?_
  refine z_at 209 rfl ?_
  obtain ⟨s63, en, hf⟩ := ok_ltp hf
  refine zb_new (n := 67) (rest := [.int (0), .ref (E.2.2.1 5)]) hE hC hw67 hS67 (by decide) hb0 (by omega) rfl (C := RX3) (T := TX3) (N := 15) rfl inw_House tyX3 tyX3_ok (hfs_X3 67) wd773 wd794 wd61 (Nat.le_of_ble_eq_true rfl) (Nat.le_of_ble_eq_true rfl) en dX11_init_209 (fun H68 hw68 hS68 => ?_)
  clear hw67 hS67
  have hw68 : World E (shN 68) s63 H68 := hw68
  have fl0_0 : s63 0 0 = 1 := by rw [en]; exact fl0_0
  have fl0_4 : s63 0 4 = 1 := by rw [en]; exact fl0_4
  have fl0_5 : s63 0 5 = 1 := by rw [en]; exact fl0_5
  clear en
  refine W.widen (k := 67) (n := 1208) (Nat.le_of_ble_eq_true rfl) (Nat.le_of_ble_eq_true rfl) ?_
  refine z_at 212 rfl ?_
  refine lv_dup hx hb dX11_init_212 rfl ?_
  refine z_at 213 rfl ?_
  refine lv_aload_n hx hb dX11_init_213 rfl (lv_at hl 1 rfl) ?_
  refine z_at 214 rfl ?_
  obtain ⟨s64, en, hf⟩ := ok_ltp hf
  refine zb_cI (n := 68) (a := 67) (As := [.ref (E.2.2.1 13)]) (rest := [.ref (E.2.2.1 67), .int (0), .ref (E.2.2.1 5)]) (σ' := s64) hE hC hNT hl.1 hw68 hS68 hb0 (by omega) (en ▸ (c_X3_init l E hE (a0 := 67) (show isH 67 from (by decide +kernel : 67 ∈ houseL)))) (Or.inl (cwI 1 hts (gin (gin_code wd795)) rfl rfl rfl (hts _ wd61) (hts _ wd796) (hts _ wd797) rfl gc316 ⟨(Nat.le_of_ble_eq_true rfl), (Nat.le_of_ble_eq_true rfl)⟩)) ⟨(Nat.le_of_ble_eq_true rfl), (Nat.le_of_ble_eq_true rfl)⟩ rfl rfl (Nat.le_of_ble_eq_true rfl) dX11_init_214 (fun H69 locs69 hw69 hS69 => ?_)
  clear hw68 hS68
  have hw69 : World E (shN 75) s64 H69 := hw69
  have fl0_0 : s64 0 0 = 1 := by rw [en]; exact fl0_0
  have fl0_4 : s64 0 4 = 1 := by rw [en]; exact fl0_4
  have fl0_5 : s64 0 5 = 1 := by rw [en]; exact fl0_5
  clear en
  refine W.widen (k := 74) (n := 1240) (Nat.le_of_ble_eq_true rfl) (Nat.le_of_ble_eq_true rfl) ?_
  refine z_at 217 rfl ?_
  obtain ⟨s65, en, hf⟩ := ok_ltp hf
  refine zb_aast (rest := []) (Cn := "FuseBox$House") (i := 0) (r := 67) hC hw69 hS69 (shN_at (n := 75) (a := 5) (x := .inl (3, 24, false, houseL.drop 4)) (by decide) rfl) rfl (shN_at (n := 75) (a := 67) (x := .inr (2, ksH 67)) (by decide) rfl) rfl (Or.inl rfl) (show inb 0 24 from by decide) (by decide) en dX11_init_217 (fun H70 locs70 hw70 hS70 => ?_)
  clear hw69 hS69
  have hw70 : World E (shN 75) s65 H70 := hw70
  have fl0_0 : s65 0 0 = 1 := by rw [en]; exact fl0_0
  have fl0_4 : s65 0 4 = 1 := by rw [en]; exact fl0_4
  have fl0_5 : s65 0 5 = 1 := by rw [en]; exact fl0_5
  clear en
  refine z_at 218 rfl ?_
  refine lv_iinc (v := 1) (lv' := [(2, .int (1)), (1, .ref (E.2.2.1 13)), (0, .ref (E.2.2.1 0))]) hx hb dX11_init_218 hl (k := 0) rfl (by decide) (by decide) rfl (fun ls hl => ?_)
  refine z_at 221 rfl ?_
  refine lv_goto (tgt := 198) hx hb dX11_init_221 (by decide) ?_
  refine lv_iload_n hx hb dX11_init_198 rfl (lv_at hl 0 rfl) ?_
  refine z_at 199 rfl ?_
  refine lv_bipush (v := 24) hx hb dX11_init_199 (by decide) ?_
  refine z_at 201 rfl ?_
  refine lv_icmp_ge (tgt := 224) hx hb dX11_init_201 (by decide) (fun h9 => absurd h9 (by decide)) (fun _ => ?_)
  refine z_at 204 rfl ?_
  refine lv_aload_n hx hb dX11_init_204 rfl (lv_at hl 2 rfl) ?_
  refine z_at 205 rfl ?_
  refine z_get (rest := []) hC hw70 (shN_at (n := 75) (a := 0) (x := .inr (10, ksX)) (by decide) rfl) (C := RX11) (T := TX11) (N := 12) rfl inw_FuseBox 5 (by decide) (o := some (true, 5)) rfl (v := .ref (E.2.2.1 5)) (fvT (nz1 fl0_5)) wd367 dX11_init_205 ?_
  refine z_at 208 rfl ?_
  refine lv_iload_n hx hb dX11_init_208 rfl (lv_at hl 0 rfl) ?_
  refine z_at 209 rfl ?_
  obtain ⟨s66, en, hf⟩ := ok_ltp hf
  refine zb_new (n := 75) (rest := [.int (1), .ref (E.2.2.1 5)]) hE hC hw70 hS70 (by decide) hb0 (by omega) rfl (C := RX3) (T := TX3) (N := 15) rfl inw_House tyX3 tyX3_ok (hfs_X3 75) wd773 wd794 wd61 (Nat.le_of_ble_eq_true rfl) (Nat.le_of_ble_eq_true rfl) en dX11_init_209 (fun H71 hw71 hS71 => ?_)
  clear hw70 hS70
  have hw71 : World E (shN 76) s66 H71 := hw71
  have fl0_0 : s66 0 0 = 1 := by rw [en]; exact fl0_0
  have fl0_4 : s66 0 4 = 1 := by rw [en]; exact fl0_4
  have fl0_5 : s66 0 5 = 1 := by rw [en]; exact fl0_5
  clear en
  refine W.widen (k := 75) (n := 1255) (Nat.le_of_ble_eq_true rfl) (Nat.le_of_ble_eq_true rfl) ?_
  refine z_at 212 rfl ?_
  refine lv_dup hx hb dX11_init_212 rfl ?_
  refine z_at 213 rfl ?_
  refine lv_aload_n hx hb dX11_init_213 rfl (lv_at hl 1 rfl) ?_
  refine z_at 214 rfl ?_
  obtain ⟨s67, en, hf⟩ := ok_ltp hf
  refine zb_cI (n := 76) (a := 75) (As := [.ref (E.2.2.1 13)]) (rest := [.ref (E.2.2.1 75), .int (1), .ref (E.2.2.1 5)]) (σ' := s67) hE hC hNT hl.1 hw71 hS71 hb0 (by omega) (en ▸ (c_X3_init l E hE (a0 := 75) (show isH 75 from (by decide +kernel : 75 ∈ houseL)))) (Or.inl (cwI 1 hts (gin (gin_code wd795)) rfl rfl rfl (hts _ wd61) (hts _ wd796) (hts _ wd797) rfl gc316 ⟨(Nat.le_of_ble_eq_true rfl), (Nat.le_of_ble_eq_true rfl)⟩)) ⟨(Nat.le_of_ble_eq_true rfl), (Nat.le_of_ble_eq_true rfl)⟩ rfl rfl (Nat.le_of_ble_eq_true rfl) dX11_init_214 (fun H72 locs72 hw72 hS72 => ?_)
  clear hw71 hS71
  have hw72 : World E (shN 83) s67 H72 := hw72
  have fl0_0 : s67 0 0 = 1 := by rw [en]; exact fl0_0
  have fl0_4 : s67 0 4 = 1 := by rw [en]; exact fl0_4
  have fl0_5 : s67 0 5 = 1 := by rw [en]; exact fl0_5
  clear en
  refine W.widen (k := 82) (n := 1287) (Nat.le_of_ble_eq_true rfl) (Nat.le_of_ble_eq_true rfl) ?_
  refine z_at 217 rfl ?_
  obtain ⟨s68, en, hf⟩ := ok_ltp hf
  refine zb_aast (rest := []) (Cn := "FuseBox$House") (i := 1) (r := 75) hC hw72 hS72 (shN_at (n := 83) (a := 5) (x := .inl (3, 24, false, houseL.drop 4)) (by decide) rfl) rfl (shN_at (n := 83) (a := 75) (x := .inr (2, ksH 75)) (by decide) rfl) rfl (Or.inl rfl) (show inb 1 24 from by decide) (by decide) en dX11_init_217 (fun H73 locs73 hw73 hS73 => ?_)
  clear hw72 hS72
  have hw73 : World E (shN 83) s68 H73 := hw73
  have fl0_0 : s68 0 0 = 1 := by rw [en]; exact fl0_0
  have fl0_4 : s68 0 4 = 1 := by rw [en]; exact fl0_4
  have fl0_5 : s68 0 5 = 1 := by rw [en]; exact fl0_5
  clear en
  refine z_at 218 rfl ?_
  exact cc_X11_init_9 hE hC hNT hin2 hr hlocks hb0 hz fl0_0 fl0_4 fl0_5 hf _ _ ls hl hw73 hS73
set_option maxHeartbeats 8000000 in
set_option maxRecDepth 100000 in
theorem cc_X11_init_7 {p : Program} {l : Launch} {e : Env} {s : State} {m : MethodId} {args : Array Value} {below : List Frame} {meth : Method} {c : Code} {E : Ev} (hE : EvOk E) (hC : Cx p s m args c cX11_init 3 "FuseBox" E) (hNT : NT s) (hin2 : meth.name = "<init>") (hr : meth.sig.returnType = none) (hlocks : meth.locks = false) (hb0 : E.2.2.1 0 ≤ s.heap.size) (hz : s.heap.size + 0 ≤ E.2.2.1 0 + 1) {s56 sz : St} (fl0_0 : s56 0 0 = 1) (fl0_4 : s56 0 4 = 1) (fl0_5 : s56 0 5 = 1) (hf : f_X11_init_7 s56 = sz) : ∀ (H : Heap) (locs : List Loc) (ls : Array Slot), lv_has ls 3 [(2, .int (7)), (1, .ref (E.2.2.1 13)), (0, .ref (E.2.2.1 0))] → World E (shN 51) s56 H → va_S E.2.2.2 s.heap H locs → W p l e (rmc 4 258 2321) s m args below meth c H locs 50 1099 (MQ below (QW E (shN 259) none sz) args s 258 2321 E.2.2.2) (F0 m 163 ls []) := by
  intro H locs ls hl hw61 hS61
  obtain ⟨hx, hb, hml, hown, hts, hTB⟩ := id hC
  unfold f_X11_init_7 at hf
  refine lv_iinc (v := 8) (lv' := [(2, .int (8)), (1, .ref (E.2.2.1 13)), (0, .ref (E.2.2.1 0))]) hx hb dX11_init_163 hl (k := 0) rfl (by decide) (by decide) rfl (fun ls hl => ?_)
  refine z_at 166 rfl ?_
  refine lv_goto (tgt := 144) hx hb dX11_init_166 (by decide) ?_
  refine lv_iload_n hx hb dX11_init_144 rfl (lv_at hl 0 rfl) ?_
  refine z_at 145 rfl ?_
  refine lv_bipush (v := 8) hx hb dX11_init_145 (by decide) ?_
  refine z_at 147 rfl ?_
  refine lv_icmp_ge (tgt := 169) hx hb dX11_init_147 (by decide) (fun _ => ?_) (fun h9 => absurd (by decide) h9)
  refine lv_iconst (v := 0) hx hb dX11_init_169 (by decide) ?_
  refine z_at 170 rfl ?_
  refine lv_istore_n (lv' := [(2, .int (0)), (1, .ref (E.2.2.1 13)), (0, .ref (E.2.2.1 0))]) hx hb dX11_init_170 rfl hl (by decide) rfl (fun ls hl => ?_)
  refine z_at 171 rfl ?_
  refine lv_iload_n hx hb dX11_init_171 rfl (lv_at hl 0 rfl) ?_
  refine z_at 172 rfl ?_
  refine lv_iconst (v := 2) hx hb dX11_init_172 (by decide) ?_
  refine z_at 173 rfl ?_
  refine lv_icmp_ge (tgt := 196) hx hb dX11_init_173 (by decide) (fun h9 => absurd h9 (by decide)) (fun _ => ?_)
  refine z_at 176 rfl ?_
  refine lv_aload_n hx hb dX11_init_176 rfl (lv_at hl 2 rfl) ?_
  refine z_at 177 rfl ?_
  refine z_get (rest := []) hC hw61 (shN_at (n := 51) (a := 0) (x := .inr (10, ksX)) (by decide) rfl) (C := RX11) (T := TX11) (N := 12) rfl inw_FuseBox 4 (by decide) (o := some (true, 4)) rfl (v := .ref (E.2.2.1 4)) (fvT (nz1 fl0_4)) wd490 dX11_init_177 ?_
  refine z_at 180 rfl ?_
  refine lv_iload_n hx hb dX11_init_180 rfl (lv_at hl 0 rfl) ?_
  refine z_at 181 rfl ?_
  obtain ⟨s57, en, hf⟩ := ok_ltp hf
  refine zb_new (n := 51) (rest := [.int (0), .ref (E.2.2.1 4)]) hE hC hw61 hS61 (by decide) hb0 (by omega) rfl (C := RX3) (T := TX3) (N := 15) rfl inw_House tyX3 tyX3_ok (hfs_X3 51) wd773 wd794 wd61 (Nat.le_of_ble_eq_true rfl) (Nat.le_of_ble_eq_true rfl) en dX11_init_181 (fun H62 hw62 hS62 => ?_)
  clear hw61 hS61
  have hw62 : World E (shN 52) s57 H62 := hw62
  have fl0_0 : s57 0 0 = 1 := by rw [en]; exact fl0_0
  have fl0_4 : s57 0 4 = 1 := by rw [en]; exact fl0_4
  have fl0_5 : s57 0 5 = 1 := by rw [en]; exact fl0_5
  clear en
  refine W.widen (k := 51) (n := 1114) (Nat.le_of_ble_eq_true rfl) (Nat.le_of_ble_eq_true rfl) ?_
  refine z_at 184 rfl ?_
  refine lv_dup hx hb dX11_init_184 rfl ?_
  refine z_at 185 rfl ?_
  refine lv_aload_n hx hb dX11_init_185 rfl (lv_at hl 1 rfl) ?_
  refine z_at 186 rfl ?_
  obtain ⟨s58, en, hf⟩ := ok_ltp hf
  refine zb_cI (n := 52) (a := 51) (As := [.ref (E.2.2.1 13)]) (rest := [.ref (E.2.2.1 51), .int (0), .ref (E.2.2.1 4)]) (σ' := s58) hE hC hNT hl.1 hw62 hS62 hb0 (by omega) (en ▸ (c_X3_init l E hE (a0 := 51) (show isH 51 from (by decide +kernel : 51 ∈ houseL)))) (Or.inl (cwI 1 hts (gin (gin_code wd795)) rfl rfl rfl (hts _ wd61) (hts _ wd796) (hts _ wd797) rfl gc316 ⟨(Nat.le_of_ble_eq_true rfl), (Nat.le_of_ble_eq_true rfl)⟩)) ⟨(Nat.le_of_ble_eq_true rfl), (Nat.le_of_ble_eq_true rfl)⟩ rfl rfl (Nat.le_of_ble_eq_true rfl) dX11_init_186 (fun H63 locs63 hw63 hS63 => ?_)
  clear hw62 hS62
  have hw63 : World E (shN 59) s58 H63 := hw63
  have fl0_0 : s58 0 0 = 1 := by rw [en]; exact fl0_0
  have fl0_4 : s58 0 4 = 1 := by rw [en]; exact fl0_4
  have fl0_5 : s58 0 5 = 1 := by rw [en]; exact fl0_5
  clear en
  refine W.widen (k := 58) (n := 1146) (Nat.le_of_ble_eq_true rfl) (Nat.le_of_ble_eq_true rfl) ?_
  refine z_at 189 rfl ?_
  obtain ⟨s59, en, hf⟩ := ok_ltp hf
  refine zb_aast (rest := []) (Cn := "FuseBox$House") (i := 0) (r := 51) hC hw63 hS63 (shN_at (n := 59) (a := 4) (x := .inl (3, 2, false, [51, 59])) (by decide) rfl) rfl (shN_at (n := 59) (a := 51) (x := .inr (2, ksH 51)) (by decide) rfl) rfl (Or.inl rfl) (show inb 0 2 from by decide) (by decide) en dX11_init_189 (fun H64 locs64 hw64 hS64 => ?_)
  clear hw63 hS63
  have hw64 : World E (shN 59) s59 H64 := hw64
  have fl0_0 : s59 0 0 = 1 := by rw [en]; exact fl0_0
  have fl0_4 : s59 0 4 = 1 := by rw [en]; exact fl0_4
  have fl0_5 : s59 0 5 = 1 := by rw [en]; exact fl0_5
  clear en
  refine z_at 190 rfl ?_
  refine lv_iinc (v := 1) (lv' := [(2, .int (1)), (1, .ref (E.2.2.1 13)), (0, .ref (E.2.2.1 0))]) hx hb dX11_init_190 hl (k := 0) rfl (by decide) (by decide) rfl (fun ls hl => ?_)
  refine z_at 193 rfl ?_
  refine lv_goto (tgt := 171) hx hb dX11_init_193 (by decide) ?_
  refine lv_iload_n hx hb dX11_init_171 rfl (lv_at hl 0 rfl) ?_
  refine z_at 172 rfl ?_
  refine lv_iconst (v := 2) hx hb dX11_init_172 (by decide) ?_
  refine z_at 173 rfl ?_
  refine lv_icmp_ge (tgt := 196) hx hb dX11_init_173 (by decide) (fun h9 => absurd h9 (by decide)) (fun _ => ?_)
  refine z_at 176 rfl ?_
  refine lv_aload_n hx hb dX11_init_176 rfl (lv_at hl 2 rfl) ?_
  refine z_at 177 rfl ?_
  refine z_get (rest := []) hC hw64 (shN_at (n := 59) (a := 0) (x := .inr (10, ksX)) (by decide) rfl) (C := RX11) (T := TX11) (N := 12) rfl inw_FuseBox 4 (by decide) (o := some (true, 4)) rfl (v := .ref (E.2.2.1 4)) (fvT (nz1 fl0_4)) wd490 dX11_init_177 ?_
  refine z_at 180 rfl ?_
  refine lv_iload_n hx hb dX11_init_180 rfl (lv_at hl 0 rfl) ?_
  refine z_at 181 rfl ?_
  obtain ⟨s60, en, hf⟩ := ok_ltp hf
  refine zb_new (n := 59) (rest := [.int (1), .ref (E.2.2.1 4)]) hE hC hw64 hS64 (by decide) hb0 (by omega) rfl (C := RX3) (T := TX3) (N := 15) rfl inw_House tyX3 tyX3_ok (hfs_X3 59) wd773 wd794 wd61 (Nat.le_of_ble_eq_true rfl) (Nat.le_of_ble_eq_true rfl) en dX11_init_181 (fun H65 hw65 hS65 => ?_)
  clear hw64 hS64
  have hw65 : World E (shN 60) s60 H65 := hw65
  have fl0_0 : s60 0 0 = 1 := by rw [en]; exact fl0_0
  have fl0_4 : s60 0 4 = 1 := by rw [en]; exact fl0_4
  have fl0_5 : s60 0 5 = 1 := by rw [en]; exact fl0_5
  clear en
  refine W.widen (k := 59) (n := 1161) (Nat.le_of_ble_eq_true rfl) (Nat.le_of_ble_eq_true rfl) ?_
  refine z_at 184 rfl ?_
  refine lv_dup hx hb dX11_init_184 rfl ?_
  refine z_at 185 rfl ?_
  refine lv_aload_n hx hb dX11_init_185 rfl (lv_at hl 1 rfl) ?_
  refine z_at 186 rfl ?_
  obtain ⟨s61, en, hf⟩ := ok_ltp hf
  refine zb_cI (n := 60) (a := 59) (As := [.ref (E.2.2.1 13)]) (rest := [.ref (E.2.2.1 59), .int (1), .ref (E.2.2.1 4)]) (σ' := s61) hE hC hNT hl.1 hw65 hS65 hb0 (by omega) (en ▸ (c_X3_init l E hE (a0 := 59) (show isH 59 from (by decide +kernel : 59 ∈ houseL)))) (Or.inl (cwI 1 hts (gin (gin_code wd795)) rfl rfl rfl (hts _ wd61) (hts _ wd796) (hts _ wd797) rfl gc316 ⟨(Nat.le_of_ble_eq_true rfl), (Nat.le_of_ble_eq_true rfl)⟩)) ⟨(Nat.le_of_ble_eq_true rfl), (Nat.le_of_ble_eq_true rfl)⟩ rfl rfl (Nat.le_of_ble_eq_true rfl) dX11_init_186 (fun H66 locs66 hw66 hS66 => ?_)
  clear hw65 hS65
  have hw66 : World E (shN 67) s61 H66 := hw66
  have fl0_0 : s61 0 0 = 1 := by rw [en]; exact fl0_0
  have fl0_4 : s61 0 4 = 1 := by rw [en]; exact fl0_4
  have fl0_5 : s61 0 5 = 1 := by rw [en]; exact fl0_5
  clear en
  refine W.widen (k := 66) (n := 1193) (Nat.le_of_ble_eq_true rfl) (Nat.le_of_ble_eq_true rfl) ?_
  refine z_at 189 rfl ?_
  obtain ⟨s62, en, hf⟩ := ok_ltp hf
  refine zb_aast (rest := []) (Cn := "FuseBox$House") (i := 1) (r := 59) hC hw66 hS66 (shN_at (n := 67) (a := 4) (x := .inl (3, 2, false, [51, 59])) (by decide) rfl) rfl (shN_at (n := 67) (a := 59) (x := .inr (2, ksH 59)) (by decide) rfl) rfl (Or.inl rfl) (show inb 1 2 from by decide) (by decide) en dX11_init_189 (fun H67 locs67 hw67 hS67 => ?_)
  clear hw66 hS66
  have hw67 : World E (shN 67) s62 H67 := hw67
  have fl0_0 : s62 0 0 = 1 := by rw [en]; exact fl0_0
  have fl0_4 : s62 0 4 = 1 := by rw [en]; exact fl0_4
  have fl0_5 : s62 0 5 = 1 := by rw [en]; exact fl0_5
  clear en
  refine z_at 190 rfl ?_
  exact cc_X11_init_8 hE hC hNT hin2 hr hlocks hb0 hz fl0_0 fl0_4 fl0_5 hf _ _ ls hl hw67 hS67
set_option maxHeartbeats 8000000 in
set_option maxRecDepth 100000 in
theorem cc_X11_init_6 {p : Program} {l : Launch} {e : Env} {s : State} {m : MethodId} {args : Array Value} {below : List Frame} {meth : Method} {c : Code} {E : Ev} (hE : EvOk E) (hC : Cx p s m args c cX11_init 3 "FuseBox" E) (hNT : NT s) (hin2 : meth.name = "<init>") (hr : meth.sig.returnType = none) (hlocks : meth.locks = false) (hb0 : E.2.2.1 0 ≤ s.heap.size) (hz : s.heap.size + 0 ≤ E.2.2.1 0 + 1) {s50 sz : St} (fl0_0 : s50 0 0 = 1) (fl0_4 : s50 0 4 = 1) (fl0_5 : s50 0 5 = 1) (hf : f_X11_init_6 s50 = sz) : ∀ (H : Heap) (locs : List Loc) (ls : Array Slot), lv_has ls 3 [(2, .int (5)), (1, .ref (E.2.2.1 13)), (0, .ref (E.2.2.1 0))] → World E (shN 47) s50 H → va_S E.2.2.2 s.heap H locs → W p l e (rmc 4 258 2321) s m args below meth c H locs 46 1013 (MQ below (QW E (shN 259) none sz) args s 258 2321 E.2.2.2) (F0 m 163 ls []) := by
  intro H locs ls hl hw55 hS55
  obtain ⟨hx, hb, hml, hown, hts, hTB⟩ := id hC
  unfold f_X11_init_6 at hf
  refine lv_iinc (v := 6) (lv' := [(2, .int (6)), (1, .ref (E.2.2.1 13)), (0, .ref (E.2.2.1 0))]) hx hb dX11_init_163 hl (k := 0) rfl (by decide) (by decide) rfl (fun ls hl => ?_)
  refine z_at 166 rfl ?_
  refine lv_goto (tgt := 144) hx hb dX11_init_166 (by decide) ?_
  refine lv_iload_n hx hb dX11_init_144 rfl (lv_at hl 0 rfl) ?_
  refine z_at 145 rfl ?_
  refine lv_bipush (v := 8) hx hb dX11_init_145 (by decide) ?_
  refine z_at 147 rfl ?_
  refine lv_icmp_ge (tgt := 169) hx hb dX11_init_147 (by decide) (fun h9 => absurd h9 (by decide)) (fun _ => ?_)
  refine z_at 150 rfl ?_
  refine lv_aload_n hx hb dX11_init_150 rfl (lv_at hl 2 rfl) ?_
  refine z_at 151 rfl ?_
  refine z_get (rest := []) hC hw55 (shN_at (n := 47) (a := 0) (x := .inr (10, ksX)) (by decide) rfl) (C := RX11) (T := TX11) (N := 12) rfl inw_FuseBox 0 (by decide) (o := some (true, 1)) rfl (v := .ref (E.2.2.1 1)) (fvT (nz1 fl0_0)) wd306 dX11_init_151 ?_
  refine z_at 154 rfl ?_
  refine lv_iload_n hx hb dX11_init_154 rfl (lv_at hl 0 rfl) ?_
  refine z_at 155 rfl ?_
  obtain ⟨s51, en, hf⟩ := ok_ltp hf
  refine zb_new (n := 47) (rest := [.int (6), .ref (E.2.2.1 1)]) hE hC hw55 hS55 (by decide) hb0 (by omega) rfl (C := RX7) (T := TX7) (N := 3) rfl inw_Row tyX7 tyX7_ok (hfs_X7 47) wd768 wd798 wd310 (Nat.le_of_ble_eq_true rfl) (Nat.le_of_ble_eq_true rfl) en dX11_init_155 (fun H56 hw56 hS56 => ?_)
  clear hw55 hS55
  have hw56 : World E (shN 48) s51 H56 := hw56
  have fl0_0 : s51 0 0 = 1 := by rw [en]; exact fl0_0
  have fl0_4 : s51 0 4 = 1 := by rw [en]; exact fl0_4
  have fl0_5 : s51 0 5 = 1 := by rw [en]; exact fl0_5
  clear en
  refine W.widen (k := 47) (n := 1016) (Nat.le_of_ble_eq_true rfl) (Nat.le_of_ble_eq_true rfl) ?_
  refine z_at 158 rfl ?_
  refine lv_dup hx hb dX11_init_158 rfl ?_
  refine z_at 159 rfl ?_
  obtain ⟨s52, en, hf⟩ := ok_ltp hf
  refine zb_cI (n := 48) (a := 47) (As := []) (rest := [.ref (E.2.2.1 47), .int (6), .ref (E.2.2.1 1)]) (σ' := s52) hE hC hNT hl.1 hw56 hS56 hb0 (by omega) (en ▸ (c_X7_init l E hE (a0 := 47) (show isR 47 from (by decide +kernel : 47 ∈ rowL)))) (Or.inr ⟨"FuseBox", va_cnB 0 hts (gin (gin_code wd799)) rfl rfl rfl hNT.2.2.2.2.2.2.2.2.1 (hts _ wd310) gc317 ⟨(Nat.le_of_ble_eq_true rfl), (Nat.le_of_ble_eq_true rfl)⟩, rfl, hts _ wd800⟩) ⟨(Nat.le_of_ble_eq_true rfl), (Nat.le_of_ble_eq_true rfl)⟩ rfl rfl (Nat.le_of_ble_eq_true rfl) dX11_init_159 (fun H57 locs57 hw57 hS57 => ?_)
  clear hw56 hS56
  have hw57 : World E (shN 49) s52 H57 := hw57
  have fl0_0 : s52 0 0 = 1 := by rw [en]; exact fl0_0
  have fl0_4 : s52 0 4 = 1 := by rw [en]; exact fl0_4
  have fl0_5 : s52 0 5 = 1 := by rw [en]; exact fl0_5
  clear en
  refine W.widen (k := 48) (n := 1056) (Nat.le_of_ble_eq_true rfl) (Nat.le_of_ble_eq_true rfl) ?_
  refine z_at 162 rfl ?_
  obtain ⟨s53, en, hf⟩ := ok_ltp hf
  refine zb_aast (rest := []) (Cn := "FuseBox$Row") (i := 6) (r := 47) hC hw57 hS57 (shN_at (n := 49) (a := 1) (x := .inl (2, 8, false, rowL)) (by decide) rfl) rfl (shN_at (n := 49) (a := 47) (x := .inr (6, ksR 47)) (by decide) rfl) rfl (Or.inl rfl) (show inb 6 8 from by decide) (by decide) en dX11_init_162 (fun H58 locs58 hw58 hS58 => ?_)
  clear hw57 hS57
  have hw58 : World E (shN 49) s53 H58 := hw58
  have fl0_0 : s53 0 0 = 1 := by rw [en]; exact fl0_0
  have fl0_4 : s53 0 4 = 1 := by rw [en]; exact fl0_4
  have fl0_5 : s53 0 5 = 1 := by rw [en]; exact fl0_5
  clear en
  refine z_at 163 rfl ?_
  refine lv_iinc (v := 7) (lv' := [(2, .int (7)), (1, .ref (E.2.2.1 13)), (0, .ref (E.2.2.1 0))]) hx hb dX11_init_163 hl (k := 0) rfl (by decide) (by decide) rfl (fun ls hl => ?_)
  refine z_at 166 rfl ?_
  refine lv_goto (tgt := 144) hx hb dX11_init_166 (by decide) ?_
  refine lv_iload_n hx hb dX11_init_144 rfl (lv_at hl 0 rfl) ?_
  refine z_at 145 rfl ?_
  refine lv_bipush (v := 8) hx hb dX11_init_145 (by decide) ?_
  refine z_at 147 rfl ?_
  refine lv_icmp_ge (tgt := 169) hx hb dX11_init_147 (by decide) (fun h9 => absurd h9 (by decide)) (fun _ => ?_)
  refine z_at 150 rfl ?_
  refine lv_aload_n hx hb dX11_init_150 rfl (lv_at hl 2 rfl) ?_
  refine z_at 151 rfl ?_
  refine z_get (rest := []) hC hw58 (shN_at (n := 49) (a := 0) (x := .inr (10, ksX)) (by decide) rfl) (C := RX11) (T := TX11) (N := 12) rfl inw_FuseBox 0 (by decide) (o := some (true, 1)) rfl (v := .ref (E.2.2.1 1)) (fvT (nz1 fl0_0)) wd306 dX11_init_151 ?_
  refine z_at 154 rfl ?_
  refine lv_iload_n hx hb dX11_init_154 rfl (lv_at hl 0 rfl) ?_
  refine z_at 155 rfl ?_
  obtain ⟨s54, en, hf⟩ := ok_ltp hf
  refine zb_new (n := 49) (rest := [.int (7), .ref (E.2.2.1 1)]) hE hC hw58 hS58 (by decide) hb0 (by omega) rfl (C := RX7) (T := TX7) (N := 3) rfl inw_Row tyX7 tyX7_ok (hfs_X7 49) wd768 wd798 wd310 (Nat.le_of_ble_eq_true rfl) (Nat.le_of_ble_eq_true rfl) en dX11_init_155 (fun H59 hw59 hS59 => ?_)
  clear hw58 hS58
  have hw59 : World E (shN 50) s54 H59 := hw59
  have fl0_0 : s54 0 0 = 1 := by rw [en]; exact fl0_0
  have fl0_4 : s54 0 4 = 1 := by rw [en]; exact fl0_4
  have fl0_5 : s54 0 5 = 1 := by rw [en]; exact fl0_5
  clear en
  refine W.widen (k := 49) (n := 1059) (Nat.le_of_ble_eq_true rfl) (Nat.le_of_ble_eq_true rfl) ?_
  refine z_at 158 rfl ?_
  refine lv_dup hx hb dX11_init_158 rfl ?_
  refine z_at 159 rfl ?_
  obtain ⟨s55, en, hf⟩ := ok_ltp hf
  refine zb_cI (n := 50) (a := 49) (As := []) (rest := [.ref (E.2.2.1 49), .int (7), .ref (E.2.2.1 1)]) (σ' := s55) hE hC hNT hl.1 hw59 hS59 hb0 (by omega) (en ▸ (c_X7_init l E hE (a0 := 49) (show isR 49 from (by decide +kernel : 49 ∈ rowL)))) (Or.inr ⟨"FuseBox", va_cnB 0 hts (gin (gin_code wd799)) rfl rfl rfl hNT.2.2.2.2.2.2.2.2.1 (hts _ wd310) gc317 ⟨(Nat.le_of_ble_eq_true rfl), (Nat.le_of_ble_eq_true rfl)⟩, rfl, hts _ wd800⟩) ⟨(Nat.le_of_ble_eq_true rfl), (Nat.le_of_ble_eq_true rfl)⟩ rfl rfl (Nat.le_of_ble_eq_true rfl) dX11_init_159 (fun H60 locs60 hw60 hS60 => ?_)
  clear hw59 hS59
  have hw60 : World E (shN 51) s55 H60 := hw60
  have fl0_0 : s55 0 0 = 1 := by rw [en]; exact fl0_0
  have fl0_4 : s55 0 4 = 1 := by rw [en]; exact fl0_4
  have fl0_5 : s55 0 5 = 1 := by rw [en]; exact fl0_5
  clear en
  refine W.widen (k := 50) (n := 1099) (Nat.le_of_ble_eq_true rfl) (Nat.le_of_ble_eq_true rfl) ?_
  refine z_at 162 rfl ?_
  obtain ⟨s56, en, hf⟩ := ok_ltp hf
  refine zb_aast (rest := []) (Cn := "FuseBox$Row") (i := 7) (r := 49) hC hw60 hS60 (shN_at (n := 51) (a := 1) (x := .inl (2, 8, false, rowL)) (by decide) rfl) rfl (shN_at (n := 51) (a := 49) (x := .inr (6, ksR 49)) (by decide) rfl) rfl (Or.inl rfl) (show inb 7 8 from by decide) (by decide) en dX11_init_162 (fun H61 locs61 hw61 hS61 => ?_)
  clear hw60 hS60
  have hw61 : World E (shN 51) s56 H61 := hw61
  have fl0_0 : s56 0 0 = 1 := by rw [en]; exact fl0_0
  have fl0_4 : s56 0 4 = 1 := by rw [en]; exact fl0_4
  have fl0_5 : s56 0 5 = 1 := by rw [en]; exact fl0_5
  clear en
  refine z_at 163 rfl ?_
  exact cc_X11_init_7 hE hC hNT hin2 hr hlocks hb0 hz fl0_0 fl0_4 fl0_5 hf _ _ ls hl hw61 hS61
set_option maxHeartbeats 8000000 in
set_option maxRecDepth 100000 in
theorem cc_X11_init_5 {p : Program} {l : Launch} {e : Env} {s : State} {m : MethodId} {args : Array Value} {below : List Frame} {meth : Method} {c : Code} {E : Ev} (hE : EvOk E) (hC : Cx p s m args c cX11_init 3 "FuseBox" E) (hNT : NT s) (hin2 : meth.name = "<init>") (hr : meth.sig.returnType = none) (hlocks : meth.locks = false) (hb0 : E.2.2.1 0 ≤ s.heap.size) (hz : s.heap.size + 0 ≤ E.2.2.1 0 + 1) {s44 sz : St} (fl0_0 : s44 0 0 = 1) (fl0_4 : s44 0 4 = 1) (fl0_5 : s44 0 5 = 1) (hf : f_X11_init_5 s44 = sz) : ∀ (H : Heap) (locs : List Loc) (ls : Array Slot), lv_has ls 3 [(2, .int (3)), (1, .ref (E.2.2.1 13)), (0, .ref (E.2.2.1 0))] → World E (shN 43) s44 H → va_S E.2.2.2 s.heap H locs → W p l e (rmc 4 258 2321) s m args below meth c H locs 42 927 (MQ below (QW E (shN 259) none sz) args s 258 2321 E.2.2.2) (F0 m 163 ls []) := by
  intro H locs ls hl hw49 hS49
  obtain ⟨hx, hb, hml, hown, hts, hTB⟩ := id hC
  unfold f_X11_init_5 at hf
  refine lv_iinc (v := 4) (lv' := [(2, .int (4)), (1, .ref (E.2.2.1 13)), (0, .ref (E.2.2.1 0))]) hx hb dX11_init_163 hl (k := 0) rfl (by decide) (by decide) rfl (fun ls hl => ?_)
  refine z_at 166 rfl ?_
  refine lv_goto (tgt := 144) hx hb dX11_init_166 (by decide) ?_
  refine lv_iload_n hx hb dX11_init_144 rfl (lv_at hl 0 rfl) ?_
  refine z_at 145 rfl ?_
  refine lv_bipush (v := 8) hx hb dX11_init_145 (by decide) ?_
  refine z_at 147 rfl ?_
  refine lv_icmp_ge (tgt := 169) hx hb dX11_init_147 (by decide) (fun h9 => absurd h9 (by decide)) (fun _ => ?_)
  refine z_at 150 rfl ?_
  refine lv_aload_n hx hb dX11_init_150 rfl (lv_at hl 2 rfl) ?_
  refine z_at 151 rfl ?_
  refine z_get (rest := []) hC hw49 (shN_at (n := 43) (a := 0) (x := .inr (10, ksX)) (by decide) rfl) (C := RX11) (T := TX11) (N := 12) rfl inw_FuseBox 0 (by decide) (o := some (true, 1)) rfl (v := .ref (E.2.2.1 1)) (fvT (nz1 fl0_0)) wd306 dX11_init_151 ?_
  refine z_at 154 rfl ?_
  refine lv_iload_n hx hb dX11_init_154 rfl (lv_at hl 0 rfl) ?_
  refine z_at 155 rfl ?_
  obtain ⟨s45, en, hf⟩ := ok_ltp hf
  refine zb_new (n := 43) (rest := [.int (4), .ref (E.2.2.1 1)]) hE hC hw49 hS49 (by decide) hb0 (by omega) rfl (C := RX7) (T := TX7) (N := 3) rfl inw_Row tyX7 tyX7_ok (hfs_X7 43) wd768 wd798 wd310 (Nat.le_of_ble_eq_true rfl) (Nat.le_of_ble_eq_true rfl) en dX11_init_155 (fun H50 hw50 hS50 => ?_)
  clear hw49 hS49
  have hw50 : World E (shN 44) s45 H50 := hw50
  have fl0_0 : s45 0 0 = 1 := by rw [en]; exact fl0_0
  have fl0_4 : s45 0 4 = 1 := by rw [en]; exact fl0_4
  have fl0_5 : s45 0 5 = 1 := by rw [en]; exact fl0_5
  clear en
  refine W.widen (k := 43) (n := 930) (Nat.le_of_ble_eq_true rfl) (Nat.le_of_ble_eq_true rfl) ?_
  refine z_at 158 rfl ?_
  refine lv_dup hx hb dX11_init_158 rfl ?_
  refine z_at 159 rfl ?_
  obtain ⟨s46, en, hf⟩ := ok_ltp hf
  refine zb_cI (n := 44) (a := 43) (As := []) (rest := [.ref (E.2.2.1 43), .int (4), .ref (E.2.2.1 1)]) (σ' := s46) hE hC hNT hl.1 hw50 hS50 hb0 (by omega) (en ▸ (c_X7_init l E hE (a0 := 43) (show isR 43 from (by decide +kernel : 43 ∈ rowL)))) (Or.inr ⟨"FuseBox", va_cnB 0 hts (gin (gin_code wd799)) rfl rfl rfl hNT.2.2.2.2.2.2.2.2.1 (hts _ wd310) gc317 ⟨(Nat.le_of_ble_eq_true rfl), (Nat.le_of_ble_eq_true rfl)⟩, rfl, hts _ wd800⟩) ⟨(Nat.le_of_ble_eq_true rfl), (Nat.le_of_ble_eq_true rfl)⟩ rfl rfl (Nat.le_of_ble_eq_true rfl) dX11_init_159 (fun H51 locs51 hw51 hS51 => ?_)
  clear hw50 hS50
  have hw51 : World E (shN 45) s46 H51 := hw51
  have fl0_0 : s46 0 0 = 1 := by rw [en]; exact fl0_0
  have fl0_4 : s46 0 4 = 1 := by rw [en]; exact fl0_4
  have fl0_5 : s46 0 5 = 1 := by rw [en]; exact fl0_5
  clear en
  refine W.widen (k := 44) (n := 970) (Nat.le_of_ble_eq_true rfl) (Nat.le_of_ble_eq_true rfl) ?_
  refine z_at 162 rfl ?_
  obtain ⟨s47, en, hf⟩ := ok_ltp hf
  refine zb_aast (rest := []) (Cn := "FuseBox$Row") (i := 4) (r := 43) hC hw51 hS51 (shN_at (n := 45) (a := 1) (x := .inl (2, 8, false, rowL)) (by decide) rfl) rfl (shN_at (n := 45) (a := 43) (x := .inr (6, ksR 43)) (by decide) rfl) rfl (Or.inl rfl) (show inb 4 8 from by decide) (by decide) en dX11_init_162 (fun H52 locs52 hw52 hS52 => ?_)
  clear hw51 hS51
  have hw52 : World E (shN 45) s47 H52 := hw52
  have fl0_0 : s47 0 0 = 1 := by rw [en]; exact fl0_0
  have fl0_4 : s47 0 4 = 1 := by rw [en]; exact fl0_4
  have fl0_5 : s47 0 5 = 1 := by rw [en]; exact fl0_5
  clear en
  refine z_at 163 rfl ?_
  refine lv_iinc (v := 5) (lv' := [(2, .int (5)), (1, .ref (E.2.2.1 13)), (0, .ref (E.2.2.1 0))]) hx hb dX11_init_163 hl (k := 0) rfl (by decide) (by decide) rfl (fun ls hl => ?_)
  refine z_at 166 rfl ?_
  refine lv_goto (tgt := 144) hx hb dX11_init_166 (by decide) ?_
  refine lv_iload_n hx hb dX11_init_144 rfl (lv_at hl 0 rfl) ?_
  refine z_at 145 rfl ?_
  refine lv_bipush (v := 8) hx hb dX11_init_145 (by decide) ?_
  refine z_at 147 rfl ?_
  refine lv_icmp_ge (tgt := 169) hx hb dX11_init_147 (by decide) (fun h9 => absurd h9 (by decide)) (fun _ => ?_)
  refine z_at 150 rfl ?_
  refine lv_aload_n hx hb dX11_init_150 rfl (lv_at hl 2 rfl) ?_
  refine z_at 151 rfl ?_
  refine z_get (rest := []) hC hw52 (shN_at (n := 45) (a := 0) (x := .inr (10, ksX)) (by decide) rfl) (C := RX11) (T := TX11) (N := 12) rfl inw_FuseBox 0 (by decide) (o := some (true, 1)) rfl (v := .ref (E.2.2.1 1)) (fvT (nz1 fl0_0)) wd306 dX11_init_151 ?_
  refine z_at 154 rfl ?_
  refine lv_iload_n hx hb dX11_init_154 rfl (lv_at hl 0 rfl) ?_
  refine z_at 155 rfl ?_
  obtain ⟨s48, en, hf⟩ := ok_ltp hf
  refine zb_new (n := 45) (rest := [.int (5), .ref (E.2.2.1 1)]) hE hC hw52 hS52 (by decide) hb0 (by omega) rfl (C := RX7) (T := TX7) (N := 3) rfl inw_Row tyX7 tyX7_ok (hfs_X7 45) wd768 wd798 wd310 (Nat.le_of_ble_eq_true rfl) (Nat.le_of_ble_eq_true rfl) en dX11_init_155 (fun H53 hw53 hS53 => ?_)
  clear hw52 hS52
  have hw53 : World E (shN 46) s48 H53 := hw53
  have fl0_0 : s48 0 0 = 1 := by rw [en]; exact fl0_0
  have fl0_4 : s48 0 4 = 1 := by rw [en]; exact fl0_4
  have fl0_5 : s48 0 5 = 1 := by rw [en]; exact fl0_5
  clear en
  refine W.widen (k := 45) (n := 973) (Nat.le_of_ble_eq_true rfl) (Nat.le_of_ble_eq_true rfl) ?_
  refine z_at 158 rfl ?_
  refine lv_dup hx hb dX11_init_158 rfl ?_
  refine z_at 159 rfl ?_
  obtain ⟨s49, en, hf⟩ := ok_ltp hf
  refine zb_cI (n := 46) (a := 45) (As := []) (rest := [.ref (E.2.2.1 45), .int (5), .ref (E.2.2.1 1)]) (σ' := s49) hE hC hNT hl.1 hw53 hS53 hb0 (by omega) (en ▸ (c_X7_init l E hE (a0 := 45) (show isR 45 from (by decide +kernel : 45 ∈ rowL)))) (Or.inr ⟨"FuseBox", va_cnB 0 hts (gin (gin_code wd799)) rfl rfl rfl hNT.2.2.2.2.2.2.2.2.1 (hts _ wd310) gc317 ⟨(Nat.le_of_ble_eq_true rfl), (Nat.le_of_ble_eq_true rfl)⟩, rfl, hts _ wd800⟩) ⟨(Nat.le_of_ble_eq_true rfl), (Nat.le_of_ble_eq_true rfl)⟩ rfl rfl (Nat.le_of_ble_eq_true rfl) dX11_init_159 (fun H54 locs54 hw54 hS54 => ?_)
  clear hw53 hS53
  have hw54 : World E (shN 47) s49 H54 := hw54
  have fl0_0 : s49 0 0 = 1 := by rw [en]; exact fl0_0
  have fl0_4 : s49 0 4 = 1 := by rw [en]; exact fl0_4
  have fl0_5 : s49 0 5 = 1 := by rw [en]; exact fl0_5
  clear en
  refine W.widen (k := 46) (n := 1013) (Nat.le_of_ble_eq_true rfl) (Nat.le_of_ble_eq_true rfl) ?_
  refine z_at 162 rfl ?_
  obtain ⟨s50, en, hf⟩ := ok_ltp hf
  refine zb_aast (rest := []) (Cn := "FuseBox$Row") (i := 5) (r := 45) hC hw54 hS54 (shN_at (n := 47) (a := 1) (x := .inl (2, 8, false, rowL)) (by decide) rfl) rfl (shN_at (n := 47) (a := 45) (x := .inr (6, ksR 45)) (by decide) rfl) rfl (Or.inl rfl) (show inb 5 8 from by decide) (by decide) en dX11_init_162 (fun H55 locs55 hw55 hS55 => ?_)
  clear hw54 hS54
  have hw55 : World E (shN 47) s50 H55 := hw55
  have fl0_0 : s50 0 0 = 1 := by rw [en]; exact fl0_0
  have fl0_4 : s50 0 4 = 1 := by rw [en]; exact fl0_4
  have fl0_5 : s50 0 5 = 1 := by rw [en]; exact fl0_5
  clear en
  refine z_at 163 rfl ?_
  exact cc_X11_init_6 hE hC hNT hin2 hr hlocks hb0 hz fl0_0 fl0_4 fl0_5 hf _ _ ls hl hw55 hS55
set_option maxHeartbeats 8000000 in
set_option maxRecDepth 100000 in
theorem cc_X11_init_4 {p : Program} {l : Launch} {e : Env} {s : State} {m : MethodId} {args : Array Value} {below : List Frame} {meth : Method} {c : Code} {E : Ev} (hE : EvOk E) (hC : Cx p s m args c cX11_init 3 "FuseBox" E) (hNT : NT s) (hin2 : meth.name = "<init>") (hr : meth.sig.returnType = none) (hlocks : meth.locks = false) (hb0 : E.2.2.1 0 ≤ s.heap.size) (hz : s.heap.size + 0 ≤ E.2.2.1 0 + 1) {s38 sz : St} (fl0_0 : s38 0 0 = 1) (fl0_4 : s38 0 4 = 1) (fl0_5 : s38 0 5 = 1) (hf : f_X11_init_4 s38 = sz) : ∀ (H : Heap) (locs : List Loc) (ls : Array Slot), lv_has ls 3 [(2, .int (1)), (1, .ref (E.2.2.1 13)), (0, .ref (E.2.2.1 0))] → World E (shN 39) s38 H → va_S E.2.2.2 s.heap H locs → W p l e (rmc 4 258 2321) s m args below meth c H locs 38 841 (MQ below (QW E (shN 259) none sz) args s 258 2321 E.2.2.2) (F0 m 163 ls []) := by
  intro H locs ls hl hw43 hS43
  obtain ⟨hx, hb, hml, hown, hts, hTB⟩ := id hC
  unfold f_X11_init_4 at hf
  refine lv_iinc (v := 2) (lv' := [(2, .int (2)), (1, .ref (E.2.2.1 13)), (0, .ref (E.2.2.1 0))]) hx hb dX11_init_163 hl (k := 0) rfl (by decide) (by decide) rfl (fun ls hl => ?_)
  refine z_at 166 rfl ?_
  refine lv_goto (tgt := 144) hx hb dX11_init_166 (by decide) ?_
  refine lv_iload_n hx hb dX11_init_144 rfl (lv_at hl 0 rfl) ?_
  refine z_at 145 rfl ?_
  refine lv_bipush (v := 8) hx hb dX11_init_145 (by decide) ?_
  refine z_at 147 rfl ?_
  refine lv_icmp_ge (tgt := 169) hx hb dX11_init_147 (by decide) (fun h9 => absurd h9 (by decide)) (fun _ => ?_)
  refine z_at 150 rfl ?_
  refine lv_aload_n hx hb dX11_init_150 rfl (lv_at hl 2 rfl) ?_
  refine z_at 151 rfl ?_
  refine z_get (rest := []) hC hw43 (shN_at (n := 39) (a := 0) (x := .inr (10, ksX)) (by decide) rfl) (C := RX11) (T := TX11) (N := 12) rfl inw_FuseBox 0 (by decide) (o := some (true, 1)) rfl (v := .ref (E.2.2.1 1)) (fvT (nz1 fl0_0)) wd306 dX11_init_151 ?_
  refine z_at 154 rfl ?_
  refine lv_iload_n hx hb dX11_init_154 rfl (lv_at hl 0 rfl) ?_
  refine z_at 155 rfl ?_
  obtain ⟨s39, en, hf⟩ := ok_ltp hf
  refine zb_new (n := 39) (rest := [.int (2), .ref (E.2.2.1 1)]) hE hC hw43 hS43 (by decide) hb0 (by omega) rfl (C := RX7) (T := TX7) (N := 3) rfl inw_Row tyX7 tyX7_ok (hfs_X7 39) wd768 wd798 wd310 (Nat.le_of_ble_eq_true rfl) (Nat.le_of_ble_eq_true rfl) en dX11_init_155 (fun H44 hw44 hS44 => ?_)
  clear hw43 hS43
  have hw44 : World E (shN 40) s39 H44 := hw44
  have fl0_0 : s39 0 0 = 1 := by rw [en]; exact fl0_0
  have fl0_4 : s39 0 4 = 1 := by rw [en]; exact fl0_4
  have fl0_5 : s39 0 5 = 1 := by rw [en]; exact fl0_5
  clear en
  refine W.widen (k := 39) (n := 844) (Nat.le_of_ble_eq_true rfl) (Nat.le_of_ble_eq_true rfl) ?_
  refine z_at 158 rfl ?_
  refine lv_dup hx hb dX11_init_158 rfl ?_
  refine z_at 159 rfl ?_
  obtain ⟨s40, en, hf⟩ := ok_ltp hf
  refine zb_cI (n := 40) (a := 39) (As := []) (rest := [.ref (E.2.2.1 39), .int (2), .ref (E.2.2.1 1)]) (σ' := s40) hE hC hNT hl.1 hw44 hS44 hb0 (by omega) (en ▸ (c_X7_init l E hE (a0 := 39) (show isR 39 from (by decide +kernel : 39 ∈ rowL)))) (Or.inr ⟨"FuseBox", va_cnB 0 hts (gin (gin_code wd799)) rfl rfl rfl hNT.2.2.2.2.2.2.2.2.1 (hts _ wd310) gc317 ⟨(Nat.le_of_ble_eq_true rfl), (Nat.le_of_ble_eq_true rfl)⟩, rfl, hts _ wd800⟩) ⟨(Nat.le_of_ble_eq_true rfl), (Nat.le_of_ble_eq_true rfl)⟩ rfl rfl (Nat.le_of_ble_eq_true rfl) dX11_init_159 (fun H45 locs45 hw45 hS45 => ?_)
  clear hw44 hS44
  have hw45 : World E (shN 41) s40 H45 := hw45
  have fl0_0 : s40 0 0 = 1 := by rw [en]; exact fl0_0
  have fl0_4 : s40 0 4 = 1 := by rw [en]; exact fl0_4
  have fl0_5 : s40 0 5 = 1 := by rw [en]; exact fl0_5
  clear en
  refine W.widen (k := 40) (n := 884) (Nat.le_of_ble_eq_true rfl) (Nat.le_of_ble_eq_true rfl) ?_
  refine z_at 162 rfl ?_
  obtain ⟨s41, en, hf⟩ := ok_ltp hf
  refine zb_aast (rest := []) (Cn := "FuseBox$Row") (i := 2) (r := 39) hC hw45 hS45 (shN_at (n := 41) (a := 1) (x := .inl (2, 8, false, rowL)) (by decide) rfl) rfl (shN_at (n := 41) (a := 39) (x := .inr (6, ksR 39)) (by decide) rfl) rfl (Or.inl rfl) (show inb 2 8 from by decide) (by decide) en dX11_init_162 (fun H46 locs46 hw46 hS46 => ?_)
  clear hw45 hS45
  have hw46 : World E (shN 41) s41 H46 := hw46
  have fl0_0 : s41 0 0 = 1 := by rw [en]; exact fl0_0
  have fl0_4 : s41 0 4 = 1 := by rw [en]; exact fl0_4
  have fl0_5 : s41 0 5 = 1 := by rw [en]; exact fl0_5
  clear en
  refine z_at 163 rfl ?_
  refine lv_iinc (v := 3) (lv' := [(2, .int (3)), (1, .ref (E.2.2.1 13)), (0, .ref (E.2.2.1 0))]) hx hb dX11_init_163 hl (k := 0) rfl (by decide) (by decide) rfl (fun ls hl => ?_)
  refine z_at 166 rfl ?_
  refine lv_goto (tgt := 144) hx hb dX11_init_166 (by decide) ?_
  refine lv_iload_n hx hb dX11_init_144 rfl (lv_at hl 0 rfl) ?_
  refine z_at 145 rfl ?_
  refine lv_bipush (v := 8) hx hb dX11_init_145 (by decide) ?_
  refine z_at 147 rfl ?_
  refine lv_icmp_ge (tgt := 169) hx hb dX11_init_147 (by decide) (fun h9 => absurd h9 (by decide)) (fun _ => ?_)
  refine z_at 150 rfl ?_
  refine lv_aload_n hx hb dX11_init_150 rfl (lv_at hl 2 rfl) ?_
  refine z_at 151 rfl ?_
  refine z_get (rest := []) hC hw46 (shN_at (n := 41) (a := 0) (x := .inr (10, ksX)) (by decide) rfl) (C := RX11) (T := TX11) (N := 12) rfl inw_FuseBox 0 (by decide) (o := some (true, 1)) rfl (v := .ref (E.2.2.1 1)) (fvT (nz1 fl0_0)) wd306 dX11_init_151 ?_
  refine z_at 154 rfl ?_
  refine lv_iload_n hx hb dX11_init_154 rfl (lv_at hl 0 rfl) ?_
  refine z_at 155 rfl ?_
  obtain ⟨s42, en, hf⟩ := ok_ltp hf
  refine zb_new (n := 41) (rest := [.int (3), .ref (E.2.2.1 1)]) hE hC hw46 hS46 (by decide) hb0 (by omega) rfl (C := RX7) (T := TX7) (N := 3) rfl inw_Row tyX7 tyX7_ok (hfs_X7 41) wd768 wd798 wd310 (Nat.le_of_ble_eq_true rfl) (Nat.le_of_ble_eq_true rfl) en dX11_init_155 (fun H47 hw47 hS47 => ?_)
  clear hw46 hS46
  have hw47 : World E (shN 42) s42 H47 := hw47
  have fl0_0 : s42 0 0 = 1 := by rw [en]; exact fl0_0
  have fl0_4 : s42 0 4 = 1 := by rw [en]; exact fl0_4
  have fl0_5 : s42 0 5 = 1 := by rw [en]; exact fl0_5
  clear en
  refine W.widen (k := 41) (n := 887) (Nat.le_of_ble_eq_true rfl) (Nat.le_of_ble_eq_true rfl) ?_
  refine z_at 158 rfl ?_
  refine lv_dup hx hb dX11_init_158 rfl ?_
  refine z_at 159 rfl ?_
  obtain ⟨s43, en, hf⟩ := ok_ltp hf
  refine zb_cI (n := 42) (a := 41) (As := []) (rest := [.ref (E.2.2.1 41), .int (3), .ref (E.2.2.1 1)]) (σ' := s43) hE hC hNT hl.1 hw47 hS47 hb0 (by omega) (en ▸ (c_X7_init l E hE (a0 := 41) (show isR 41 from (by decide +kernel : 41 ∈ rowL)))) (Or.inr ⟨"FuseBox", va_cnB 0 hts (gin (gin_code wd799)) rfl rfl rfl hNT.2.2.2.2.2.2.2.2.1 (hts _ wd310) gc317 ⟨(Nat.le_of_ble_eq_true rfl), (Nat.le_of_ble_eq_true rfl)⟩, rfl, hts _ wd800⟩) ⟨(Nat.le_of_ble_eq_true rfl), (Nat.le_of_ble_eq_true rfl)⟩ rfl rfl (Nat.le_of_ble_eq_true rfl) dX11_init_159 (fun H48 locs48 hw48 hS48 => ?_)
  clear hw47 hS47
  have hw48 : World E (shN 43) s43 H48 := hw48
  have fl0_0 : s43 0 0 = 1 := by rw [en]; exact fl0_0
  have fl0_4 : s43 0 4 = 1 := by rw [en]; exact fl0_4
  have fl0_5 : s43 0 5 = 1 := by rw [en]; exact fl0_5
  clear en
  refine W.widen (k := 42) (n := 927) (Nat.le_of_ble_eq_true rfl) (Nat.le_of_ble_eq_true rfl) ?_
  refine z_at 162 rfl ?_
  obtain ⟨s44, en, hf⟩ := ok_ltp hf
  refine zb_aast (rest := []) (Cn := "FuseBox$Row") (i := 3) (r := 41) hC hw48 hS48 (shN_at (n := 43) (a := 1) (x := .inl (2, 8, false, rowL)) (by decide) rfl) rfl (shN_at (n := 43) (a := 41) (x := .inr (6, ksR 41)) (by decide) rfl) rfl (Or.inl rfl) (show inb 3 8 from by decide) (by decide) en dX11_init_162 (fun H49 locs49 hw49 hS49 => ?_)
  clear hw48 hS48
  have hw49 : World E (shN 43) s44 H49 := hw49
  have fl0_0 : s44 0 0 = 1 := by rw [en]; exact fl0_0
  have fl0_4 : s44 0 4 = 1 := by rw [en]; exact fl0_4
  have fl0_5 : s44 0 5 = 1 := by rw [en]; exact fl0_5
  clear en
  refine z_at 163 rfl ?_
  exact cc_X11_init_5 hE hC hNT hin2 hr hlocks hb0 hz fl0_0 fl0_4 fl0_5 hf _ _ ls hl hw49 hS49
set_option maxHeartbeats 8000000 in
set_option maxRecDepth 100000 in
theorem cc_X11_init_3 {p : Program} {l : Launch} {e : Env} {s : State} {m : MethodId} {args : Array Value} {below : List Frame} {meth : Method} {c : Code} {E : Ev} (hE : EvOk E) (hC : Cx p s m args c cX11_init 3 "FuseBox" E) (hNT : NT s) (hin2 : meth.name = "<init>") (hr : meth.sig.returnType = none) (hlocks : meth.locks = false) (hb0 : E.2.2.1 0 ≤ s.heap.size) (hz : s.heap.size + 0 ≤ E.2.2.1 0 + 1) {s32 sz : St} (fl0_0 : s32 0 0 = 1) (fl0_4 : s32 0 4 = 1) (fl0_5 : s32 0 5 = 1) (hf : f_X11_init_3 s32 = sz) : ∀ (H : Heap) (locs : List Loc) (ls : Array Slot), lv_has ls 3 [(2, .int (0)), (1, .ref (E.2.2.1 13)), (0, .ref (E.2.2.1 0))] → World E (shN 35) s32 H → va_S E.2.2.2 s.heap H locs → W p l e (rmc 4 258 2321) s m args below meth c H locs 34 755 (MQ below (QW E (shN 259) none sz) args s 258 2321 E.2.2.2) (F0 m 144 ls []) := by
  intro H locs ls hl hw37 hS37
  obtain ⟨hx, hb, hml, hown, hts, hTB⟩ := id hC
  unfold f_X11_init_3 at hf
  refine lv_iload_n hx hb dX11_init_144 rfl (lv_at hl 0 rfl) ?_
  refine z_at 145 rfl ?_
  refine lv_bipush (v := 8) hx hb dX11_init_145 (by decide) ?_
  refine z_at 147 rfl ?_
  refine lv_icmp_ge (tgt := 169) hx hb dX11_init_147 (by decide) (fun h9 => absurd h9 (by decide)) (fun _ => ?_)
  refine z_at 150 rfl ?_
  refine lv_aload_n hx hb dX11_init_150 rfl (lv_at hl 2 rfl) ?_
  refine z_at 151 rfl ?_
  refine z_get (rest := []) hC hw37 (shN_at (n := 35) (a := 0) (x := .inr (10, ksX)) (by decide) rfl) (C := RX11) (T := TX11) (N := 12) rfl inw_FuseBox 0 (by decide) (o := some (true, 1)) rfl (v := .ref (E.2.2.1 1)) (fvT (nz1 fl0_0)) wd306 dX11_init_151 ?_
  refine z_at 154 rfl ?_
  refine lv_iload_n hx hb dX11_init_154 rfl (lv_at hl 0 rfl) ?_
  refine z_at 155 rfl ?_
  obtain ⟨s33, en, hf⟩ := ok_ltp hf
  refine zb_new (n := 35) (rest := [.int (0), .ref (E.2.2.1 1)]) hE hC hw37 hS37 (by decide) hb0 (by omega) rfl (C := RX7) (T := TX7) (N := 3) rfl inw_Row tyX7 tyX7_ok (hfs_X7 35) wd768 wd798 wd310 (Nat.le_of_ble_eq_true rfl) (Nat.le_of_ble_eq_true rfl) en dX11_init_155 (fun H38 hw38 hS38 => ?_)
  clear hw37 hS37
  have hw38 : World E (shN 36) s33 H38 := hw38
  have fl0_0 : s33 0 0 = 1 := by rw [en]; exact fl0_0
  have fl0_4 : s33 0 4 = 1 := by rw [en]; exact fl0_4
  have fl0_5 : s33 0 5 = 1 := by rw [en]; exact fl0_5
  clear en
  refine W.widen (k := 35) (n := 758) (Nat.le_of_ble_eq_true rfl) (Nat.le_of_ble_eq_true rfl) ?_
  refine z_at 158 rfl ?_
  refine lv_dup hx hb dX11_init_158 rfl ?_
  refine z_at 159 rfl ?_
  obtain ⟨s34, en, hf⟩ := ok_ltp hf
  refine zb_cI (n := 36) (a := 35) (As := []) (rest := [.ref (E.2.2.1 35), .int (0), .ref (E.2.2.1 1)]) (σ' := s34) hE hC hNT hl.1 hw38 hS38 hb0 (by omega) (en ▸ (c_X7_init l E hE (a0 := 35) (show isR 35 from (by decide +kernel : 35 ∈ rowL)))) (Or.inr ⟨"FuseBox", va_cnB 0 hts (gin (gin_code wd799)) rfl rfl rfl hNT.2.2.2.2.2.2.2.2.1 (hts _ wd310) gc317 ⟨(Nat.le_of_ble_eq_true rfl), (Nat.le_of_ble_eq_true rfl)⟩, rfl, hts _ wd800⟩) ⟨(Nat.le_of_ble_eq_true rfl), (Nat.le_of_ble_eq_true rfl)⟩ rfl rfl (Nat.le_of_ble_eq_true rfl) dX11_init_159 (fun H39 locs39 hw39 hS39 => ?_)
  clear hw38 hS38
  have hw39 : World E (shN 37) s34 H39 := hw39
  have fl0_0 : s34 0 0 = 1 := by rw [en]; exact fl0_0
  have fl0_4 : s34 0 4 = 1 := by rw [en]; exact fl0_4
  have fl0_5 : s34 0 5 = 1 := by rw [en]; exact fl0_5
  clear en
  refine W.widen (k := 36) (n := 798) (Nat.le_of_ble_eq_true rfl) (Nat.le_of_ble_eq_true rfl) ?_
  refine z_at 162 rfl ?_
  obtain ⟨s35, en, hf⟩ := ok_ltp hf
  refine zb_aast (rest := []) (Cn := "FuseBox$Row") (i := 0) (r := 35) hC hw39 hS39 (shN_at (n := 37) (a := 1) (x := .inl (2, 8, false, rowL)) (by decide) rfl) rfl (shN_at (n := 37) (a := 35) (x := .inr (6, ksR 35)) (by decide) rfl) rfl (Or.inl rfl) (show inb 0 8 from by decide) (by decide) en dX11_init_162 (fun H40 locs40 hw40 hS40 => ?_)
  clear hw39 hS39
  have hw40 : World E (shN 37) s35 H40 := hw40
  have fl0_0 : s35 0 0 = 1 := by rw [en]; exact fl0_0
  have fl0_4 : s35 0 4 = 1 := by rw [en]; exact fl0_4
  have fl0_5 : s35 0 5 = 1 := by rw [en]; exact fl0_5
  clear en
  refine z_at 163 rfl ?_
  refine lv_iinc (v := 1) (lv' := [(2, .int (1)), (1, .ref (E.2.2.1 13)), (0, .ref (E.2.2.1 0))]) hx hb dX11_init_163 hl (k := 0) rfl (by decide) (by decide) rfl (fun ls hl => ?_)
  refine z_at 166 rfl ?_
  refine lv_goto (tgt := 144) hx hb dX11_init_166 (by decide) ?_
  refine lv_iload_n hx hb dX11_init_144 rfl (lv_at hl 0 rfl) ?_
  refine z_at 145 rfl ?_
  refine lv_bipush (v := 8) hx hb dX11_init_145 (by decide) ?_
  refine z_at 147 rfl ?_
  refine lv_icmp_ge (tgt := 169) hx hb dX11_init_147 (by decide) (fun h9 => absurd h9 (by decide)) (fun _ => ?_)
  refine z_at 150 rfl ?_
  refine lv_aload_n hx hb dX11_init_150 rfl (lv_at hl 2 rfl) ?_
  refine z_at 151 rfl ?_
  refine z_get (rest := []) hC hw40 (shN_at (n := 37) (a := 0) (x := .inr (10, ksX)) (by decide) rfl) (C := RX11) (T := TX11) (N := 12) rfl inw_FuseBox 0 (by decide) (o := some (true, 1)) rfl (v := .ref (E.2.2.1 1)) (fvT (nz1 fl0_0)) wd306 dX11_init_151 ?_
  refine z_at 154 rfl ?_
  refine lv_iload_n hx hb dX11_init_154 rfl (lv_at hl 0 rfl) ?_
  refine z_at 155 rfl ?_
  obtain ⟨s36, en, hf⟩ := ok_ltp hf
  refine zb_new (n := 37) (rest := [.int (1), .ref (E.2.2.1 1)]) hE hC hw40 hS40 (by decide) hb0 (by omega) rfl (C := RX7) (T := TX7) (N := 3) rfl inw_Row tyX7 tyX7_ok (hfs_X7 37) wd768 wd798 wd310 (Nat.le_of_ble_eq_true rfl) (Nat.le_of_ble_eq_true rfl) en dX11_init_155 (fun H41 hw41 hS41 => ?_)
  clear hw40 hS40
  have hw41 : World E (shN 38) s36 H41 := hw41
  have fl0_0 : s36 0 0 = 1 := by rw [en]; exact fl0_0
  have fl0_4 : s36 0 4 = 1 := by rw [en]; exact fl0_4
  have fl0_5 : s36 0 5 = 1 := by rw [en]; exact fl0_5
  clear en
  refine W.widen (k := 37) (n := 801) (Nat.le_of_ble_eq_true rfl) (Nat.le_of_ble_eq_true rfl) ?_
  refine z_at 158 rfl ?_
  refine lv_dup hx hb dX11_init_158 rfl ?_
  refine z_at 159 rfl ?_
  obtain ⟨s37, en, hf⟩ := ok_ltp hf
  refine zb_cI (n := 38) (a := 37) (As := []) (rest := [.ref (E.2.2.1 37), .int (1), .ref (E.2.2.1 1)]) (σ' := s37) hE hC hNT hl.1 hw41 hS41 hb0 (by omega) (en ▸ (c_X7_init l E hE (a0 := 37) (show isR 37 from (by decide +kernel : 37 ∈ rowL)))) (Or.inr ⟨"FuseBox", va_cnB 0 hts (gin (gin_code wd799)) rfl rfl rfl hNT.2.2.2.2.2.2.2.2.1 (hts _ wd310) gc317 ⟨(Nat.le_of_ble_eq_true rfl), (Nat.le_of_ble_eq_true rfl)⟩, rfl, hts _ wd800⟩) ⟨(Nat.le_of_ble_eq_true rfl), (Nat.le_of_ble_eq_true rfl)⟩ rfl rfl (Nat.le_of_ble_eq_true rfl) dX11_init_159 (fun H42 locs42 hw42 hS42 => ?_)
  clear hw41 hS41
  have hw42 : World E (shN 39) s37 H42 := hw42
  have fl0_0 : s37 0 0 = 1 := by rw [en]; exact fl0_0
  have fl0_4 : s37 0 4 = 1 := by rw [en]; exact fl0_4
  have fl0_5 : s37 0 5 = 1 := by rw [en]; exact fl0_5
  clear en
  refine W.widen (k := 38) (n := 841) (Nat.le_of_ble_eq_true rfl) (Nat.le_of_ble_eq_true rfl) ?_
  refine z_at 162 rfl ?_
  obtain ⟨s38, en, hf⟩ := ok_ltp hf
  refine zb_aast (rest := []) (Cn := "FuseBox$Row") (i := 1) (r := 37) hC hw42 hS42 (shN_at (n := 39) (a := 1) (x := .inl (2, 8, false, rowL)) (by decide) rfl) rfl (shN_at (n := 39) (a := 37) (x := .inr (6, ksR 37)) (by decide) rfl) rfl (Or.inl rfl) (show inb 1 8 from by decide) (by decide) en dX11_init_162 (fun H43 locs43 hw43 hS43 => ?_)
  clear hw42 hS42
  have hw43 : World E (shN 39) s38 H43 := hw43
  have fl0_0 : s38 0 0 = 1 := by rw [en]; exact fl0_0
  have fl0_4 : s38 0 4 = 1 := by rw [en]; exact fl0_4
  have fl0_5 : s38 0 5 = 1 := by rw [en]; exact fl0_5
  clear en
  refine z_at 163 rfl ?_
  exact cc_X11_init_4 hE hC hNT hin2 hr hlocks hb0 hz fl0_0 fl0_4 fl0_5 hf _ _ ls hl hw43 hS43
set_option maxHeartbeats 8000000 in
set_option maxRecDepth 100000 in
theorem cc_X11_init_2 {p : Program} {l : Launch} {e : Env} {s : State} {m : MethodId} {args : Array Value} {below : List Frame} {meth : Method} {c : Code} {E : Ev} (hE : EvOk E) (hC : Cx p s m args c cX11_init 3 "FuseBox" E) (hNT : NT s) (hin2 : meth.name = "<init>") (hr : meth.sig.returnType = none) (hlocks : meth.locks = false) (hb0 : E.2.2.1 0 ≤ s.heap.size) (hz : s.heap.size + 0 ≤ E.2.2.1 0 + 1) {s26 sz : St} (fl0_0 : s26 0 0 = 1) (fl0_4 : s26 0 4 = 1) (fl0_5 : s26 0 5 = 1) (hf : f_X11_init_2 s26 = sz) : ∀ (H : Heap) (locs : List Loc) (ls : Array Slot), lv_has ls 3 [(1, .ref (E.2.2.1 13)), (0, .ref (E.2.2.1 0))] → World E (shN 19) s26 H → va_S E.2.2.2 s.heap H locs → W p l e (rmc 4 258 2321) s m args below meth c H locs 18 661 (MQ below (QW E (shN 259) none sz) args s 258 2321 E.2.2.2) (F0 m 118 ls []) := by
  intro H locs ls hl hw31 hS31
  obtain ⟨hx, hb, hml, hown, hts, hTB⟩ := id hC
  unfold f_X11_init_2 at hf
  refine lv_aload_n hx hb dX11_init_118 rfl (lv_at hl 1 rfl) ?_
  refine z_at 119 rfl ?_
  obtain ⟨s27, en, hf⟩ := ok_ltp hf
  refine zb_new (n := 19) (rest := [.ref (E.2.2.1 0)]) hE hC hw31 hS31 (by decide) hb0 (by omega) rfl (C := RX3) (T := TX3) (N := 15) rfl inw_House tyX3 tyX3_ok (hfs_X3 19) wd773 wd794 wd61 (Nat.le_of_ble_eq_true rfl) (Nat.le_of_ble_eq_true rfl) en dX11_init_119 (fun H32 hw32 hS32 => ?_)
  clear hw31 hS31
  have hw32 : World E (shN 20) s27 H32 := hw32
  have fl0_0 : s27 0 0 = 1 := by rw [en]; exact fl0_0
  have fl0_4 : s27 0 4 = 1 := by rw [en]; exact fl0_4
  have fl0_5 : s27 0 5 = 1 := by rw [en]; exact fl0_5
  clear en
  refine W.widen (k := 19) (n := 676) (Nat.le_of_ble_eq_true rfl) (Nat.le_of_ble_eq_true rfl) ?_
  refine z_at 122 rfl ?_
  refine lv_dup hx hb dX11_init_122 rfl ?_
  refine z_at 123 rfl ?_
  refine lv_aload_n hx hb dX11_init_123 rfl (lv_at hl 0 rfl) ?_
  refine z_at 124 rfl ?_
  obtain ⟨s28, en, hf⟩ := ok_ltp hf
  refine zb_cI (n := 20) (a := 19) (As := [.ref (E.2.2.1 13)]) (rest := [.ref (E.2.2.1 19), .ref (E.2.2.1 0)]) (σ' := s28) hE hC hNT hl.1 hw32 hS32 hb0 (by omega) (en ▸ (c_X3_init l E hE (a0 := 19) (show isH 19 from (by decide +kernel : 19 ∈ houseL)))) (Or.inl (cwI 1 hts (gin (gin_code wd795)) rfl rfl rfl (hts _ wd61) (hts _ wd796) (hts _ wd797) rfl gc316 ⟨(Nat.le_of_ble_eq_true rfl), (Nat.le_of_ble_eq_true rfl)⟩)) ⟨(Nat.le_of_ble_eq_true rfl), (Nat.le_of_ble_eq_true rfl)⟩ rfl rfl (Nat.le_of_ble_eq_true rfl) dX11_init_124 (fun H33 locs33 hw33 hS33 => ?_)
  clear hw32 hS32
  have hw33 : World E (shN 27) s28 H33 := hw33
  have fl0_0 : s28 0 0 = 1 := by rw [en]; exact fl0_0
  have fl0_4 : s28 0 4 = 1 := by rw [en]; exact fl0_4
  have fl0_5 : s28 0 5 = 1 := by rw [en]; exact fl0_5
  clear en
  refine W.widen (k := 26) (n := 708) (Nat.le_of_ble_eq_true rfl) (Nat.le_of_ble_eq_true rfl) ?_
  refine z_at 127 rfl ?_
  obtain ⟨s29, en, hf⟩ := ok_ltp hf
  refine zb_putF (rest := []) hC hin2 hw33 hS33 (shN_at (n := 27) (a := 0) (x := .inr (10, ksX)) (by decide) rfl) (C := RX11) (T := TX11) (N := 12) rfl inw_FuseBox tyX11 tyX11_ok nmX11 2 (by decide) (r := 19) rfl rfl rfl rfl rfl wd354 en dX11_init_127 (fun H34 locs34 hw34 hS34 => ?_)
  clear hw33 hS33
  have hw34 : World E (shN 27) s29 H34 := hw34
  have fl0_0 : s29 0 0 = 1 := by rw [en]; exact fl0_0
  have fl0_4 : s29 0 4 = 1 := by rw [en]; exact fl0_4
  have fl0_5 : s29 0 5 = 1 := by rw [en]; exact fl0_5
  clear en
  refine z_at 130 rfl ?_
  refine lv_aload_n hx hb dX11_init_130 rfl (lv_at hl 1 rfl) ?_
  refine z_at 131 rfl ?_
  obtain ⟨s30, en, hf⟩ := ok_ltp hf
  refine zb_new (n := 27) (rest := [.ref (E.2.2.1 0)]) hE hC hw34 hS34 (by decide) hb0 (by omega) rfl (C := RX3) (T := TX3) (N := 15) rfl inw_House tyX3 tyX3_ok (hfs_X3 27) wd773 wd794 wd61 (Nat.le_of_ble_eq_true rfl) (Nat.le_of_ble_eq_true rfl) en dX11_init_131 (fun H35 hw35 hS35 => ?_)
  clear hw34 hS34
  have hw35 : World E (shN 28) s30 H35 := hw35
  have fl0_0 : s30 0 0 = 1 := by rw [en]; exact fl0_0
  have fl0_4 : s30 0 4 = 1 := by rw [en]; exact fl0_4
  have fl0_5 : s30 0 5 = 1 := by rw [en]; exact fl0_5
  clear en
  refine W.widen (k := 27) (n := 723) (Nat.le_of_ble_eq_true rfl) (Nat.le_of_ble_eq_true rfl) ?_
  refine z_at 134 rfl ?_
  refine lv_dup hx hb dX11_init_134 rfl ?_
  refine z_at 135 rfl ?_
  refine lv_aload_n hx hb dX11_init_135 rfl (lv_at hl 0 rfl) ?_
  refine z_at 136 rfl ?_
  obtain ⟨s31, en, hf⟩ := ok_ltp hf
  refine zb_cI (n := 28) (a := 27) (As := [.ref (E.2.2.1 13)]) (rest := [.ref (E.2.2.1 27), .ref (E.2.2.1 0)]) (σ' := s31) hE hC hNT hl.1 hw35 hS35 hb0 (by omega) (en ▸ (c_X3_init l E hE (a0 := 27) (show isH 27 from (by decide +kernel : 27 ∈ houseL)))) (Or.inl (cwI 1 hts (gin (gin_code wd795)) rfl rfl rfl (hts _ wd61) (hts _ wd796) (hts _ wd797) rfl gc316 ⟨(Nat.le_of_ble_eq_true rfl), (Nat.le_of_ble_eq_true rfl)⟩)) ⟨(Nat.le_of_ble_eq_true rfl), (Nat.le_of_ble_eq_true rfl)⟩ rfl rfl (Nat.le_of_ble_eq_true rfl) dX11_init_136 (fun H36 locs36 hw36 hS36 => ?_)
  clear hw35 hS35
  have hw36 : World E (shN 35) s31 H36 := hw36
  have fl0_0 : s31 0 0 = 1 := by rw [en]; exact fl0_0
  have fl0_4 : s31 0 4 = 1 := by rw [en]; exact fl0_4
  have fl0_5 : s31 0 5 = 1 := by rw [en]; exact fl0_5
  clear en
  refine W.widen (k := 34) (n := 755) (Nat.le_of_ble_eq_true rfl) (Nat.le_of_ble_eq_true rfl) ?_
  refine z_at 139 rfl ?_
  obtain ⟨s32, en, hf⟩ := ok_ltp hf
  refine zb_putF (rest := []) hC hin2 hw36 hS36 (shN_at (n := 35) (a := 0) (x := .inr (10, ksX)) (by decide) rfl) (C := RX11) (T := TX11) (N := 12) rfl inw_FuseBox tyX11 tyX11_ok nmX11 3 (by decide) (r := 27) rfl rfl rfl rfl rfl wd349 en dX11_init_139 (fun H37 locs37 hw37 hS37 => ?_)
  clear hw36 hS36
  have hw37 : World E (shN 35) s32 H37 := hw37
  have fl0_0 : s32 0 0 = 1 := by rw [en]; exact fl0_0
  have fl0_4 : s32 0 4 = 1 := by rw [en]; exact fl0_4
  have fl0_5 : s32 0 5 = 1 := by rw [en]; exact fl0_5
  clear en
  refine z_at 142 rfl ?_
  refine lv_iconst (v := 0) hx hb dX11_init_142 (by decide) ?_
  refine z_at 143 rfl ?_
  refine lv_istore_n (lv' := [(2, .int (0)), (1, .ref (E.2.2.1 13)), (0, .ref (E.2.2.1 0))]) hx hb dX11_init_143 rfl hl (by decide) rfl (fun ls hl => ?_)
  refine z_at 144 rfl ?_
  exact cc_X11_init_3 hE hC hNT hin2 hr hlocks hb0 hz fl0_0 fl0_4 fl0_5 hf _ _ ls hl hw37 hS37
set_option maxHeartbeats 8000000 in
set_option maxRecDepth 100000 in
theorem cc_X11_init_1 {p : Program} {l : Launch} {e : Env} {s : State} {m : MethodId} {args : Array Value} {below : List Frame} {meth : Method} {c : Code} {E : Ev} (hE : EvOk E) (hC : Cx p s m args c cX11_init 3 "FuseBox" E) (hNT : NT s) (hin2 : meth.name = "<init>") (hr : meth.sig.returnType = none) (hlocks : meth.locks = false) (hb0 : E.2.2.1 0 ≤ s.heap.size) (hz : s.heap.size + 0 ≤ E.2.2.1 0 + 1) {s9 sz : St} (fl0_0 : s9 0 0 = 1) (fl0_4 : s9 0 4 = 1) (fl0_5 : s9 0 5 = 1) (hf : f_X11_init_1 s9 = sz) : ∀ (H : Heap) (locs : List Loc) (ls : Array Slot), lv_has ls 3 [(0, .ref (E.2.2.1 0))] → World E (shN 6) s9 H → va_S E.2.2.2 s.heap H locs → W p l e (rmc 4 258 2321) s m args below meth c H locs 5 131 (MQ below (QW E (shN 259) none sz) args s 258 2321 E.2.2.2) (F0 m 41 ls []) := by
  intro H locs ls hl hw9 hS9
  obtain ⟨hx, hb, hml, hown, hts, hTB⟩ := id hC
  unfold f_X11_init_1 at hf
  refine lv_aload_n hx hb dX11_init_41 rfl (lv_at hl 0 rfl) ?_
  refine z_at 42 rfl ?_
  obtain ⟨s10, en, hf⟩ := ok_ltp hf
  refine zb_new (n := 6) (rest := [.ref (E.2.2.1 0)]) hE hC hw9 hS9 (by decide) hb0 (by omega) rfl (C := RX4) (T := TX4) (N := 7) rfl inw_Plugging tyX4 tyX4_ok hfs_X4 wd774 wd775 wd175 (Nat.le_of_ble_eq_true rfl) (Nat.le_of_ble_eq_true rfl) en dX11_init_42 (fun H10 hw10 hS10 => ?_)
  clear hw9 hS9
  have hw10 : World E (shN 7) s10 H10 := hw10
  have fl0_0 : s10 0 0 = 1 := by rw [en]; exact fl0_0
  have fl0_4 : s10 0 4 = 1 := by rw [en]; exact fl0_4
  have fl0_5 : s10 0 5 = 1 := by rw [en]; exact fl0_5
  clear en
  refine W.widen (k := 6) (n := 138) (Nat.le_of_ble_eq_true rfl) (Nat.le_of_ble_eq_true rfl) ?_
  refine z_at 45 rfl ?_
  refine lv_dup hx hb dX11_init_45 rfl ?_
  refine z_at 46 rfl ?_
  obtain ⟨s11, en, hf⟩ := ok_ltp hf
  refine zb_cI (n := 7) (a := 6) (As := []) (rest := [.ref (E.2.2.1 6), .ref (E.2.2.1 0)]) (σ' := s11) hE hC hNT hl.1 hw10 hS10 hb0 (by omega) (en ▸ (c_X4_init l E hE)) (Or.inr ⟨"FuseBox", va_cnB 0 hts (gin (gin_code wd776)) rfl rfl rfl hNT.2.1 (hts _ wd175) gc311 ⟨(Nat.le_of_ble_eq_true rfl), (Nat.le_of_ble_eq_true rfl)⟩, rfl, hts _ wd777⟩) ⟨(Nat.le_of_ble_eq_true rfl), (Nat.le_of_ble_eq_true rfl)⟩ rfl rfl (Nat.le_of_ble_eq_true rfl) dX11_init_46 (fun H11 locs11 hw11 hS11 => ?_)
  clear hw10 hS10
  have hw11 : World E (shN 11) s11 H11 := hw11
  have fl0_0 : s11 0 0 = 1 := by rw [en]; exact fl0_0
  have fl0_4 : s11 0 4 = 1 := by rw [en]; exact fl0_4
  have fl0_5 : s11 0 5 = 1 := by rw [en]; exact fl0_5
  clear en
  refine W.widen (k := 10) (n := 638) (Nat.le_of_ble_eq_true rfl) (Nat.le_of_ble_eq_true rfl) ?_
  refine z_at 49 rfl ?_
  obtain ⟨s12, en, hf⟩ := ok_ltp hf
  refine zb_putF (rest := []) hC hin2 hw11 hS11 (shN_at (n := 11) (a := 0) (x := .inr (10, ksX)) (by decide) rfl) (C := RX11) (T := TX11) (N := 12) rfl inw_FuseBox tyX11 tyX11_ok nmX11 8 (by decide) (r := 6) rfl rfl rfl rfl rfl wd432 en dX11_init_49 (fun H12 locs12 hw12 hS12 => ?_)
  clear hw11 hS11
  have hw12 : World E (shN 11) s12 H12 := hw12
  have fl0_0 : s12 0 0 = 1 := by rw [en]; exact fl0_0
  have fl0_4 : s12 0 4 = 1 := by rw [en]; exact fl0_4
  have fl0_5 : s12 0 5 = 1 := by rw [en]; exact fl0_5
  clear en
  refine z_at 52 rfl ?_
  refine lv_aload_n hx hb dX11_init_52 rfl (lv_at hl 0 rfl) ?_
  refine z_at 53 rfl ?_
  obtain ⟨s13, en, hf⟩ := ok_ltp hf
  refine zb_new (n := 11) (rest := [.ref (E.2.2.1 0)]) hE hC hw12 hS12 (by decide) hb0 (by omega) rfl (C := RX9) (T := TX9) (N := 2) rfl inw_Trace tyX9 tyX9_ok hfs_X9 wd778 wd779 wd15 (Nat.le_of_ble_eq_true rfl) (Nat.le_of_ble_eq_true rfl) en dX11_init_53 (fun H13 hw13 hS13 => ?_)
  clear hw12 hS12
  have hw13 : World E (shN 12) s13 H13 := hw13
  have fl0_0 : s13 0 0 = 1 := by rw [en]; exact fl0_0
  have fl0_4 : s13 0 4 = 1 := by rw [en]; exact fl0_4
  have fl0_5 : s13 0 5 = 1 := by rw [en]; exact fl0_5
  clear en
  refine W.widen (k := 11) (n := 640) (Nat.le_of_ble_eq_true rfl) (Nat.le_of_ble_eq_true rfl) ?_
  refine z_at 56 rfl ?_
  refine lv_dup hx hb dX11_init_56 rfl ?_
  refine z_at 57 rfl ?_
  obtain ⟨s14, en, hf⟩ := ok_ltp hf
  refine zb_cI (n := 12) (a := 11) (As := []) (rest := [.ref (E.2.2.1 11), .ref (E.2.2.1 0)]) (σ' := s14) hE hC hNT hl.1 hw13 hS13 hb0 (by omega) (en ▸ (c_X9_init l E hE)) (Or.inr ⟨"FuseBox", va_cnB 0 hts (gin (gin_code wd780)) rfl rfl rfl hNT.2.2.1 (hts _ wd15) gc312 ⟨(Nat.le_of_ble_eq_true rfl), (Nat.le_of_ble_eq_true rfl)⟩, rfl, hts _ wd781⟩) ⟨(Nat.le_of_ble_eq_true rfl), (Nat.le_of_ble_eq_true rfl)⟩ rfl rfl (Nat.le_of_ble_eq_true rfl) dX11_init_57 (fun H14 locs14 hw14 hS14 => ?_)
  clear hw13 hS13
  have hw14 : World E (shN 13) s14 H14 := hw14
  have fl0_0 : s14 0 0 = 1 := by rw [en]; exact fl0_0
  have fl0_4 : s14 0 4 = 1 := by rw [en]; exact fl0_4
  have fl0_5 : s14 0 5 = 1 := by rw [en]; exact fl0_5
  clear en
  refine W.widen (k := 12) (n := 656) (Nat.le_of_ble_eq_true rfl) (Nat.le_of_ble_eq_true rfl) ?_
  refine z_at 60 rfl ?_
  obtain ⟨s15, en, hf⟩ := ok_ltp hf
  refine zb_putF (rest := []) hC hin2 hw14 hS14 (shN_at (n := 13) (a := 0) (x := .inr (10, ksX)) (by decide) rfl) (C := RX11) (T := TX11) (N := 12) rfl inw_FuseBox tyX11 tyX11_ok nmX11 9 (by decide) (r := 11) rfl rfl rfl rfl rfl wd501 en dX11_init_60 (fun H15 locs15 hw15 hS15 => ?_)
  clear hw14 hS14
  have hw15 : World E (shN 13) s15 H15 := hw15
  have fl0_0 : s15 0 0 = 1 := by rw [en]; exact fl0_0
  have fl0_4 : s15 0 4 = 1 := by rw [en]; exact fl0_4
  have fl0_5 : s15 0 5 = 1 := by rw [en]; exact fl0_5
  clear en
  refine z_at 63 rfl ?_
  refine lv_iconst (v := 5) hx hb dX11_init_63 (by decide) ?_
  refine z_at 64 rfl ?_
  obtain ⟨s16, en, hf⟩ := ok_ltp hf
  refine zb_newq (n := 13) (N := 5) (k := 5) (rest := []) (Cn := "FuseBox$Fuse") hE hC hw15 hS15 (by decide) hb0 (by omega) rfl rfl wd782 hNT.2.2.2.2.2.2.2.2.2.2.2.2.2.2.2.2.1 (by decide) (by decide) (by decide) (Nat.le_of_ble_eq_true rfl) (Nat.le_of_ble_eq_true rfl) en dX11_init_64 (fun H16 hw16 hS16 => ?_)
  clear hw15 hS15
  have hw16 : World E (shN 14) s16 H16 := hw16
  have fl0_0 : s16 0 0 = 1 := by rw [en]; exact fl0_0
  have fl0_4 : s16 0 4 = 1 := by rw [en]; exact fl0_4
  have fl0_5 : s16 0 5 = 1 := by rw [en]; exact fl0_5
  clear en
  refine W.widen (k := 13) (n := 661) (Nat.le_of_ble_eq_true rfl) (Nat.le_of_ble_eq_true rfl) ?_
  refine z_at 67 rfl ?_
  refine lv_dup hx hb dX11_init_67 rfl ?_
  refine z_at 68 rfl ?_
  refine lv_iconst (v := 0) hx hb dX11_init_68 (by decide) ?_
  refine z_at 69 rfl ?_
  obtain ⟨s17, en, hf⟩ := ok_ltp hf
  refine zb_new (n := 14) (rest := [.int (0), .ref (E.2.2.1 13), .ref (E.2.2.1 13)]) hE hC hw16 hS16 (by decide) hb0 (by omega) rfl (C := RX10) (T := TX10) (N := 0) rfl (fun w h => by cases h) tyX10 tyX10_ok hfs_X10 wd492 wd783 wd87 (Nat.le_of_ble_eq_true rfl) (Nat.le_of_ble_eq_true rfl) en dX11_init_69 (fun H17 hw17 hS17 => ?_)
  clear hw16 hS16
  have hw17 : World E (shN 15) s17 H17 := hw17
  have fl0_0 : s17 0 0 = 1 := by rw [en]; exact fl0_0
  have fl0_4 : s17 0 4 = 1 := by rw [en]; exact fl0_4
  have fl0_5 : s17 0 5 = 1 := by rw [en]; exact fl0_5
  clear en
  refine W.widen (k := 14) (n := 661) (Nat.le_of_ble_eq_true rfl) (Nat.le_of_ble_eq_true rfl) ?_
  refine z_at 72 rfl ?_
  refine lv_dup hx hb dX11_init_72 rfl ?_
  refine z_at 73 rfl ?_
  refine zb_cI (n := 15) (a := 14) (As := []) (rest := [.ref (E.2.2.1 14), .int (0), .ref (E.2.2.1 13), .ref (E.2.2.1 13)]) hE hC hNT hl.1 hw17 hS17 hb0 (by omega) (c_X10_init l E hE) (Or.inr ⟨"FuseBox", va_cnB 0 hts (gin (gin_code wd757)) rfl rfl rfl hNT.2.2.2.1 (hts _ wd87) gc308 ⟨(Nat.le_of_ble_eq_true rfl), (Nat.le_of_ble_eq_true rfl)⟩, rfl, hts _ wd758⟩) ⟨(Nat.le_of_ble_eq_true rfl), (Nat.le_of_ble_eq_true rfl)⟩ rfl rfl (Nat.le_of_ble_eq_true rfl) dX11_init_73 (fun H18 locs18 hw18 hS18 => ?_)
  clear hw17 hS17
  refine z_at 76 rfl ?_
  obtain ⟨s18, en, hf⟩ := ok_ltp hf
  refine zb_aast (rest := [.ref (E.2.2.1 13)]) (Cn := "FuseBox$Fuse") (i := 0) (r := 14) hC hw18 hS18 (shN_at (n := 15) (a := 13) (x := .inl (4, 5, false, [14, 15, 16, 17, 18])) (by decide) rfl) rfl (shN_at (n := 15) (a := 14) (x := .inr (9, [])) (by decide) rfl) rfl (Or.inr hNT.2.2.2.2.2.2.2.2.2.2.2.2.2.2.2.2.2.1) (show inb 0 5 from by decide) (by decide) en dX11_init_76 (fun H19 locs19 hw19 hS19 => ?_)
  clear hw18 hS18
  have hw19 : World E (shN 15) s18 H19 := hw19
  have fl0_0 : s18 0 0 = 1 := by rw [en]; exact fl0_0
  have fl0_4 : s18 0 4 = 1 := by rw [en]; exact fl0_4
  have fl0_5 : s18 0 5 = 1 := by rw [en]; exact fl0_5
  clear en
  refine z_at 77 rfl ?_
  refine lv_dup hx hb dX11_init_77 rfl ?_
  refine z_at 78 rfl ?_
  refine lv_iconst (v := 1) hx hb dX11_init_78 (by decide) ?_
  refine z_at 79 rfl ?_
  obtain ⟨s19, en, hf⟩ := ok_ltp hf
  refine zb_new (n := 15) (rest := [.int (1), .ref (E.2.2.1 13), .ref (E.2.2.1 13)]) hE hC hw19 hS19 (by decide) hb0 (by omega) rfl (C := RX8) (T := TX8) (N := 0) rfl (fun w h => by cases h) tyX8 tyX8_ok hfs_X8 wd493 wd784 wd95 (Nat.le_of_ble_eq_true rfl) (Nat.le_of_ble_eq_true rfl) en dX11_init_79 (fun H20 hw20 hS20 => ?_)
  clear hw19 hS19
  have hw20 : World E (shN 16) s19 H20 := hw20
  have fl0_0 : s19 0 0 = 1 := by rw [en]; exact fl0_0
  have fl0_4 : s19 0 4 = 1 := by rw [en]; exact fl0_4
  have fl0_5 : s19 0 5 = 1 := by rw [en]; exact fl0_5
  clear en
  refine W.widen (k := 15) (n := 661) (Nat.le_of_ble_eq_true rfl) (Nat.le_of_ble_eq_true rfl) ?_
  refine z_at 82 rfl ?_
  refine lv_dup hx hb dX11_init_82 rfl ?_
  refine z_at 83 rfl ?_
  refine zb_cI (n := 16) (a := 15) (As := []) (rest := [.ref (E.2.2.1 15), .int (1), .ref (E.2.2.1 13), .ref (E.2.2.1 13)]) hE hC hNT hl.1 hw20 hS20 hb0 (by omega) (c_X8_init l E hE) (Or.inr ⟨"FuseBox", va_cnB 0 hts (gin (gin_code wd785)) rfl rfl rfl hNT.2.2.2.2.1 (hts _ wd95) gc313 ⟨(Nat.le_of_ble_eq_true rfl), (Nat.le_of_ble_eq_true rfl)⟩, rfl, hts _ wd786⟩) ⟨(Nat.le_of_ble_eq_true rfl), (Nat.le_of_ble_eq_true rfl)⟩ rfl rfl (Nat.le_of_ble_eq_true rfl) dX11_init_83 (fun H21 locs21 hw21 hS21 => ?_)
  clear hw20 hS20
  refine z_at 86 rfl ?_
  obtain ⟨s20, en, hf⟩ := ok_ltp hf
  refine zb_aast (rest := [.ref (E.2.2.1 13)]) (Cn := "FuseBox$Fuse") (i := 1) (r := 15) hC hw21 hS21 (shN_at (n := 16) (a := 13) (x := .inl (4, 5, false, [14, 15, 16, 17, 18])) (by decide) rfl) rfl (shN_at (n := 16) (a := 15) (x := .inr (7, [])) (by decide) rfl) rfl (Or.inr hNT.2.2.2.2.2.2.2.2.2.2.2.2.2.2.2.2.2.2.1) (show inb 1 5 from by decide) (by decide) en dX11_init_86 (fun H22 locs22 hw22 hS22 => ?_)
  clear hw21 hS21
  have hw22 : World E (shN 16) s20 H22 := hw22
  have fl0_0 : s20 0 0 = 1 := by rw [en]; exact fl0_0
  have fl0_4 : s20 0 4 = 1 := by rw [en]; exact fl0_4
  have fl0_5 : s20 0 5 = 1 := by rw [en]; exact fl0_5
  clear en
  refine z_at 87 rfl ?_
  refine lv_dup hx hb dX11_init_87 rfl ?_
  refine z_at 88 rfl ?_
  refine lv_iconst (v := 2) hx hb dX11_init_88 (by decide) ?_
  refine z_at 89 rfl ?_
  obtain ⟨s21, en, hf⟩ := ok_ltp hf
  refine zb_new (n := 16) (rest := [.int (2), .ref (E.2.2.1 13), .ref (E.2.2.1 13)]) hE hC hw22 hS22 (by decide) hb0 (by omega) rfl (C := RX5) (T := TX5) (N := 0) rfl (fun w h => by cases h) tyX5 tyX5_ok hfs_X5 wd494 wd787 wd125 (Nat.le_of_ble_eq_true rfl) (Nat.le_of_ble_eq_true rfl) en dX11_init_89 (fun H23 hw23 hS23 => ?_)
  clear hw22 hS22
  have hw23 : World E (shN 17) s21 H23 := hw23
  have fl0_0 : s21 0 0 = 1 := by rw [en]; exact fl0_0
  have fl0_4 : s21 0 4 = 1 := by rw [en]; exact fl0_4
  have fl0_5 : s21 0 5 = 1 := by rw [en]; exact fl0_5
  clear en
  refine W.widen (k := 16) (n := 661) (Nat.le_of_ble_eq_true rfl) (Nat.le_of_ble_eq_true rfl) ?_
  refine z_at 92 rfl ?_
  refine lv_dup hx hb dX11_init_92 rfl ?_
  refine z_at 93 rfl ?_
  refine zb_cI (n := 17) (a := 16) (As := []) (rest := [.ref (E.2.2.1 16), .int (2), .ref (E.2.2.1 13), .ref (E.2.2.1 13)]) hE hC hNT hl.1 hw23 hS23 hb0 (by omega) (c_X5_init l E hE) (Or.inr ⟨"FuseBox", va_cnB 0 hts (gin (gin_code wd788)) rfl rfl rfl hNT.2.2.2.2.2.1 (hts _ wd125) gc314 ⟨(Nat.le_of_ble_eq_true rfl), (Nat.le_of_ble_eq_true rfl)⟩, rfl, hts _ wd789⟩) ⟨(Nat.le_of_ble_eq_true rfl), (Nat.le_of_ble_eq_true rfl)⟩ rfl rfl (Nat.le_of_ble_eq_true rfl) dX11_init_93 (fun H24 locs24 hw24 hS24 => ?_)
  clear hw23 hS23
  refine z_at 96 rfl ?_
  obtain ⟨s22, en, hf⟩ := ok_ltp hf
  refine zb_aast (rest := [.ref (E.2.2.1 13)]) (Cn := "FuseBox$Fuse") (i := 2) (r := 16) hC hw24 hS24 (shN_at (n := 17) (a := 13) (x := .inl (4, 5, false, [14, 15, 16, 17, 18])) (by decide) rfl) rfl (shN_at (n := 17) (a := 16) (x := .inr (4, [])) (by decide) rfl) rfl (Or.inr hNT.2.2.2.2.2.2.2.2.2.2.2.2.2.2.2.2.2.2.2.1) (show inb 2 5 from by decide) (by decide) en dX11_init_96 (fun H25 locs25 hw25 hS25 => ?_)
  clear hw24 hS24
  have hw25 : World E (shN 17) s22 H25 := hw25
  have fl0_0 : s22 0 0 = 1 := by rw [en]; exact fl0_0
  have fl0_4 : s22 0 4 = 1 := by rw [en]; exact fl0_4
  have fl0_5 : s22 0 5 = 1 := by rw [en]; exact fl0_5
  clear en
  refine z_at 97 rfl ?_
  refine lv_dup hx hb dX11_init_97 rfl ?_
  refine z_at 98 rfl ?_
  refine lv_iconst (v := 3) hx hb dX11_init_98 (by decide) ?_
  refine z_at 99 rfl ?_
  obtain ⟨s23, en, hf⟩ := ok_ltp hf
  refine zb_new (n := 17) (rest := [.int (3), .ref (E.2.2.1 13), .ref (E.2.2.1 13)]) hE hC hw25 hS25 (by decide) hb0 (by omega) rfl (C := RX0) (T := TX0) (N := 0) rfl (fun w h => by cases h) tyX0 tyX0_ok hfs_X0 wd495 wd790 wd3 (Nat.le_of_ble_eq_true rfl) (Nat.le_of_ble_eq_true rfl) en dX11_init_99 (fun H26 hw26 hS26 => ?_)
  clear hw25 hS25
  have hw26 : World E (shN 18) s23 H26 := hw26
  have fl0_0 : s23 0 0 = 1 := by rw [en]; exact fl0_0
  have fl0_4 : s23 0 4 = 1 := by rw [en]; exact fl0_4
  have fl0_5 : s23 0 5 = 1 := by rw [en]; exact fl0_5
  clear en
  refine W.widen (k := 17) (n := 661) (Nat.le_of_ble_eq_true rfl) (Nat.le_of_ble_eq_true rfl) ?_
  refine z_at 102 rfl ?_
  refine lv_dup hx hb dX11_init_102 rfl ?_
  refine z_at 103 rfl ?_
  refine zb_cI (n := 18) (a := 17) (As := []) (rest := [.ref (E.2.2.1 17), .int (3), .ref (E.2.2.1 13), .ref (E.2.2.1 13)]) hE hC hNT hl.1 hw26 hS26 hb0 (by omega) (c_X0_init l E hE) (Or.inr ⟨"FuseBox", va_cnB 0 hts (gin (gin_code wd759)) rfl rfl rfl hNT.2.2.2.2.2.2.1 (hts _ wd3) gc309 ⟨(Nat.le_of_ble_eq_true rfl), (Nat.le_of_ble_eq_true rfl)⟩, rfl, hts _ wd760⟩) ⟨(Nat.le_of_ble_eq_true rfl), (Nat.le_of_ble_eq_true rfl)⟩ rfl rfl (Nat.le_of_ble_eq_true rfl) dX11_init_103 (fun H27 locs27 hw27 hS27 => ?_)
  clear hw26 hS26
  refine z_at 106 rfl ?_
  obtain ⟨s24, en, hf⟩ := ok_ltp hf
  refine zb_aast (rest := [.ref (E.2.2.1 13)]) (Cn := "FuseBox$Fuse") (i := 3) (r := 17) hC hw27 hS27 (shN_at (n := 18) (a := 13) (x := .inl (4, 5, false, [14, 15, 16, 17, 18])) (by decide) rfl) rfl (shN_at (n := 18) (a := 17) (x := .inr (0, [])) (by decide) rfl) rfl (Or.inr hNT.2.2.2.2.2.2.2.2.2.2.2.2.2.2.2.2.2.2.2.2.1) (show inb 3 5 from by decide) (by decide) en dX11_init_106 (fun H28 locs28 hw28 hS28 => ?_)
  clear hw27 hS27
  have hw28 : World E (shN 18) s24 H28 := hw28
  have fl0_0 : s24 0 0 = 1 := by rw [en]; exact fl0_0
  have fl0_4 : s24 0 4 = 1 := by rw [en]; exact fl0_4
  have fl0_5 : s24 0 5 = 1 := by rw [en]; exact fl0_5
  clear en
  refine z_at 107 rfl ?_
  refine lv_dup hx hb dX11_init_107 rfl ?_
  refine z_at 108 rfl ?_
  refine lv_iconst (v := 4) hx hb dX11_init_108 (by decide) ?_
  refine z_at 109 rfl ?_
  obtain ⟨s25, en, hf⟩ := ok_ltp hf
  refine zb_new (n := 18) (rest := [.int (4), .ref (E.2.2.1 13), .ref (E.2.2.1 13)]) hE hC hw28 hS28 (by decide) hb0 (by omega) rfl (C := RX1) (T := TX1) (N := 0) rfl (fun w h => by cases h) tyX1 tyX1_ok hfs_X1 wd496 wd791 wd8 (Nat.le_of_ble_eq_true rfl) (Nat.le_of_ble_eq_true rfl) en dX11_init_109 (fun H29 hw29 hS29 => ?_)
  clear hw28 hS28
  have hw29 : World E (shN 19) s25 H29 := hw29
  have fl0_0 : s25 0 0 = 1 := by rw [en]; exact fl0_0
  have fl0_4 : s25 0 4 = 1 := by rw [en]; exact fl0_4
  have fl0_5 : s25 0 5 = 1 := by rw [en]; exact fl0_5
  clear en
  refine W.widen (k := 18) (n := 661) (Nat.le_of_ble_eq_true rfl) (Nat.le_of_ble_eq_true rfl) ?_
  refine z_at 112 rfl ?_
  refine lv_dup hx hb dX11_init_112 rfl ?_
  refine z_at 113 rfl ?_
  refine zb_cI (n := 19) (a := 18) (As := []) (rest := [.ref (E.2.2.1 18), .int (4), .ref (E.2.2.1 13), .ref (E.2.2.1 13)]) hE hC hNT hl.1 hw29 hS29 hb0 (by omega) (c_X1_init l E hE) (Or.inr ⟨"FuseBox", va_cnB 0 hts (gin (gin_code wd792)) rfl rfl rfl hNT.2.2.2.2.2.2.2.1 (hts _ wd8) gc315 ⟨(Nat.le_of_ble_eq_true rfl), (Nat.le_of_ble_eq_true rfl)⟩, rfl, hts _ wd793⟩) ⟨(Nat.le_of_ble_eq_true rfl), (Nat.le_of_ble_eq_true rfl)⟩ rfl rfl (Nat.le_of_ble_eq_true rfl) dX11_init_113 (fun H30 locs30 hw30 hS30 => ?_)
  clear hw29 hS29
  refine z_at 116 rfl ?_
  obtain ⟨s26, en, hf⟩ := ok_ltp hf
  refine zb_aast (rest := [.ref (E.2.2.1 13)]) (Cn := "FuseBox$Fuse") (i := 4) (r := 18) hC hw30 hS30 (shN_at (n := 19) (a := 13) (x := .inl (4, 5, false, [14, 15, 16, 17, 18])) (by decide) rfl) rfl (shN_at (n := 19) (a := 18) (x := .inr (1, [])) (by decide) rfl) rfl (Or.inr hNT.2.2.2.2.2.2.2.2.2.2.2.2.2.2.2.2.2.2.2.2.2) (show inb 4 5 from by decide) (by decide) en dX11_init_116 (fun H31 locs31 hw31 hS31 => ?_)
  clear hw30 hS30
  have hw31 : World E (shN 19) s26 H31 := hw31
  have fl0_0 : s26 0 0 = 1 := by rw [en]; exact fl0_0
  have fl0_4 : s26 0 4 = 1 := by rw [en]; exact fl0_4
  have fl0_5 : s26 0 5 = 1 := by rw [en]; exact fl0_5
  clear en
  refine z_at 117 rfl ?_
  refine lv_astore_n (lv' := [(1, .ref (E.2.2.1 13)), (0, .ref (E.2.2.1 0))]) hx hb dX11_init_117 rfl hl (by decide) rfl (fun ls hl => ?_)
  refine z_at 118 rfl ?_
  exact cc_X11_init_2 hE hC hNT hin2 hr hlocks hb0 hz fl0_0 fl0_4 fl0_5 hf _ _ ls hl hw31 hS31
set_option maxHeartbeats 8000000 in
set_option maxRecDepth 100000 in
theorem c_X11_init (l : Launch) (E : Ev) (hE : EvOk E) {s0 : St} : MC l E yX11_init cX11_init 3 (rmc 4 258 2321) 1 259 258 2321 [.ref (E.2.2.1 0)] s0 (f_X11_init s0) := by
  generalize hf : f_X11_init s0 = sz
  unfold f_X11_init at hf
  refine zb_enter (by decide +kernel) rfl (Nat.le_of_ble_eq_true rfl) ?_
  intro p e s m args below meth c ls hC hNT hin2 hr hlocks hw0 hb0 hz hS0 hl
  have hC : Cx p s m args c cX11_init 3 "FuseBox" E := hC
  obtain ⟨hx, hb, hml, hown, hts, hTB⟩ := id hC
  have hl : lv_has ls 3 [(0, .ref (E.2.2.1 0))] := hl
  refine lv_aload_n hx hb dX11_init_0 rfl (lv_at hl 0 rfl) ?_
  refine z_at 1 rfl ?_
  refine W.objInit hx hb hown (hts _ wd767) (hts _ wd753) (hts _ wd754) rfl (hl.1.trans hml.symm) rfl dX11_init_1 (Nat.le_of_ble_eq_true rfl) (Nat.le_of_ble_eq_true rfl) ?_
  show W p l e _ s m args below meth c _ _ _ _ _ (F0 m 4 ls [])
  refine lv_aload_n hx hb dX11_init_4 rfl (lv_at hl 0 rfl) ?_
  refine z_at 5 rfl ?_
  refine lv_bipush (v := 8) hx hb dX11_init_5 (by decide) ?_
  refine z_at 7 rfl ?_
  obtain ⟨s1, en, hf⟩ := ok_ltp hf
  refine zb_newq (n := 1) (N := 8) (k := 8) (rest := [.ref (E.2.2.1 0)]) (Cn := "FuseBox$Row") hE hC hw0 hS0 (by decide) hb0 (by omega) rfl rfl wd768 hNT.2.2.2.2.2.2.2.2.2.2.2.2.2.2.1 (by decide) (by decide) (by decide) (Nat.le_of_ble_eq_true rfl) (Nat.le_of_ble_eq_true rfl) en dX11_init_7 (fun H1 hw1 hS1 => ?_)
  clear hw0 hS0
  have hw1 : World E (shN 2) s1 H1 := hw1
  clear en
  refine W.widen (k := 1) (n := 8) (Nat.le_of_ble_eq_true rfl) (Nat.le_of_ble_eq_true rfl) ?_
  refine z_at 10 rfl ?_
  obtain ⟨s2, en, hf⟩ := ok_ltp hf
  refine zb_putF (rest := []) hC hin2 hw1 hS1 (shN_at (n := 2) (a := 0) (x := .inr (10, ksX)) (by decide) rfl) (C := RX11) (T := TX11) (N := 12) rfl inw_FuseBox tyX11 tyX11_ok nmX11 0 (by decide) (r := 1) rfl rfl rfl rfl rfl wd306 en dX11_init_10 (fun H2 locs2 hw2 hS2 => ?_)
  clear hw1 hS1
  have hw2 : World E (shN 2) s2 H2 := hw2
  have fl0_0 : s2 0 0 = 1 := by rw [en]; rfl
  clear en
  refine z_at 13 rfl ?_
  refine lv_aload_n hx hb dX11_init_13 rfl (lv_at hl 0 rfl) ?_
  refine z_at 14 rfl ?_
  obtain ⟨s3, en, hf⟩ := ok_ltp hf
  refine zb_new (n := 2) (rest := [.ref (E.2.2.1 0)]) hE hC hw2 hS2 (by decide) hb0 (by omega) rfl (C := RX6) (T := TX6) (N := 7) rfl inw_Reader tyX6 tyX6_ok hfs_X6 wd769 wd770 wd226 (Nat.le_of_ble_eq_true rfl) (Nat.le_of_ble_eq_true rfl) en dX11_init_14 (fun H3 hw3 hS3 => ?_)
  clear hw2 hS2
  have hw3 : World E (shN 3) s3 H3 := hw3
  have fl0_0 : s3 0 0 = 1 := by rw [en]; exact fl0_0
  clear en
  refine W.widen (k := 2) (n := 15) (Nat.le_of_ble_eq_true rfl) (Nat.le_of_ble_eq_true rfl) ?_
  refine z_at 17 rfl ?_
  refine lv_dup hx hb dX11_init_17 rfl ?_
  refine z_at 18 rfl ?_
  obtain ⟨s4, en, hf⟩ := ok_ltp hf
  refine zb_cI (n := 3) (a := 2) (As := []) (rest := [.ref (E.2.2.1 2), .ref (E.2.2.1 0)]) (σ' := s4) hE hC hNT hl.1 hw3 hS3 hb0 (by omega) (en ▸ (c_X6_init l E hE)) (Or.inr ⟨"FuseBox", va_cnB 0 hts (gin (gin_code wd771)) rfl rfl rfl hNT.1 (hts _ wd226) gc310 ⟨(Nat.le_of_ble_eq_true rfl), (Nat.le_of_ble_eq_true rfl)⟩, rfl, hts _ wd772⟩) ⟨(Nat.le_of_ble_eq_true rfl), (Nat.le_of_ble_eq_true rfl)⟩ rfl rfl (Nat.le_of_ble_eq_true rfl) dX11_init_18 (fun H4 locs4 hw4 hS4 => ?_)
  clear hw3 hS3
  have hw4 : World E (shN 4) s4 H4 := hw4
  have fl0_0 : s4 0 0 = 1 := by rw [en]; exact fl0_0
  clear en
  refine W.widen (k := 3) (n := 105) (Nat.le_of_ble_eq_true rfl) (Nat.le_of_ble_eq_true rfl) ?_
  refine z_at 21 rfl ?_
  obtain ⟨s5, en, hf⟩ := ok_ltp hf
  refine zb_putF (rest := []) hC hin2 hw4 hS4 (shN_at (n := 4) (a := 0) (x := .inr (10, ksX)) (by decide) rfl) (C := RX11) (T := TX11) (N := 12) rfl inw_FuseBox tyX11 tyX11_ok nmX11 1 (by decide) (r := 2) rfl rfl rfl rfl rfl wd340 en dX11_init_21 (fun H5 locs5 hw5 hS5 => ?_)
  clear hw4 hS4
  have hw5 : World E (shN 4) s5 H5 := hw5
  have fl0_0 : s5 0 0 = 1 := by rw [en]; exact fl0_0
  clear en
  refine z_at 24 rfl ?_
  refine lv_aload_n hx hb dX11_init_24 rfl (lv_at hl 0 rfl) ?_
  refine z_at 25 rfl ?_
  refine lv_iconst (v := 2) hx hb dX11_init_25 (by decide) ?_
  refine z_at 26 rfl ?_
  obtain ⟨s6, en, hf⟩ := ok_ltp hf
  refine zb_newq (n := 4) (N := 2) (k := 2) (rest := [.ref (E.2.2.1 0)]) (Cn := "FuseBox$House") hE hC hw5 hS5 (by decide) hb0 (by omega) rfl rfl wd773 hNT.2.2.2.2.2.2.2.2.2.2.2.2.2.2.2.1 (by decide) (by decide) (by decide) (Nat.le_of_ble_eq_true rfl) (Nat.le_of_ble_eq_true rfl) en dX11_init_26 (fun H6 hw6 hS6 => ?_)
  clear hw5 hS5
  have hw6 : World E (shN 5) s6 H6 := hw6
  have fl0_0 : s6 0 0 = 1 := by rw [en]; exact fl0_0
  clear en
  refine W.widen (k := 4) (n := 107) (Nat.le_of_ble_eq_true rfl) (Nat.le_of_ble_eq_true rfl) ?_
  refine z_at 29 rfl ?_
  obtain ⟨s7, en, hf⟩ := ok_ltp hf
  refine zb_putF (rest := []) hC hin2 hw6 hS6 (shN_at (n := 5) (a := 0) (x := .inr (10, ksX)) (by decide) rfl) (C := RX11) (T := TX11) (N := 12) rfl inw_FuseBox tyX11 tyX11_ok nmX11 4 (by decide) (r := 4) rfl rfl rfl rfl rfl wd490 en dX11_init_29 (fun H7 locs7 hw7 hS7 => ?_)
  clear hw6 hS6
  have hw7 : World E (shN 5) s7 H7 := hw7
  have fl0_0 : s7 0 0 = 1 := by rw [en]; exact fl0_0
  have fl0_4 : s7 0 4 = 1 := by rw [en]; rfl
  clear en
  refine z_at 32 rfl ?_
  refine lv_aload_n hx hb dX11_init_32 rfl (lv_at hl 0 rfl) ?_
  refine z_at 33 rfl ?_
  refine lv_bipush (v := 24) hx hb dX11_init_33 (by decide) ?_
  refine z_at 35 rfl ?_
  obtain ⟨s8, en, hf⟩ := ok_ltp hf
  refine zb_newq (n := 5) (N := 24) (k := 24) (rest := [.ref (E.2.2.1 0)]) (Cn := "FuseBox$House") hE hC hw7 hS7 (by decide) hb0 (by omega) rfl rfl wd773 hNT.2.2.2.2.2.2.2.2.2.2.2.2.2.2.2.1 (by decide) (by decide) (by decide) (Nat.le_of_ble_eq_true rfl) (Nat.le_of_ble_eq_true rfl) en dX11_init_35 (fun H8 hw8 hS8 => ?_)
  clear hw7 hS7
  have hw8 : World E (shN 6) s8 H8 := hw8
  have fl0_0 : s8 0 0 = 1 := by rw [en]; exact fl0_0
  have fl0_4 : s8 0 4 = 1 := by rw [en]; exact fl0_4
  clear en
  refine W.widen (k := 5) (n := 131) (Nat.le_of_ble_eq_true rfl) (Nat.le_of_ble_eq_true rfl) ?_
  refine z_at 38 rfl ?_
  obtain ⟨s9, en, hf⟩ := ok_ltp hf
  refine zb_putF (rest := []) hC hin2 hw8 hS8 (shN_at (n := 6) (a := 0) (x := .inr (10, ksX)) (by decide) rfl) (C := RX11) (T := TX11) (N := 12) rfl inw_FuseBox tyX11 tyX11_ok nmX11 5 (by decide) (r := 5) rfl rfl rfl rfl rfl wd367 en dX11_init_38 (fun H9 locs9 hw9 hS9 => ?_)
  clear hw8 hS8
  have hw9 : World E (shN 6) s9 H9 := hw9
  have fl0_0 : s9 0 0 = 1 := by rw [en]; exact fl0_0
  have fl0_4 : s9 0 4 = 1 := by rw [en]; exact fl0_4
  have fl0_5 : s9 0 5 = 1 := by rw [en]; rfl
  clear en
  refine z_at 41 rfl ?_
  exact cc_X11_init_1 hE hC hNT hin2 hr hlocks hb0 hz fl0_0 fl0_4 fl0_5 hf _ _ ls hl hw9 hS9
set_option maxHeartbeats 8000000 in
set_option maxRecDepth 100000 in
theorem cc_X12_init_6 {p : Program} {l : Launch} {e : Env} {s : State} {m : MethodId} {args : Array Value} {below : List Frame} {meth : Method} {c : Code} {E : Ev} (hE : EvOk E) (hC : Cx p s m args c cX12_init 2 "FuseBoxModel" E) (hNT : NT s) (hin2 : meth.name = "<init>") (hr : meth.sig.returnType = none) (hlocks : meth.locks = false) (hb0 : E.2.2.1 0 ≤ s.heap.size) (hz : s.heap.size + 0 ≤ E.2.2.1 0 + 260) {s35 sz : St} (fl259_5 : s35 259 5 = 1) (hf : f_X12_init_6 s35 = sz) : ∀ (H : Heap) (locs : List Loc) (ls : Array Slot), lv_has ls 2 [(1, .int (7)), (0, .ref (E.2.2.1 259))] → World E (shN 274) s35 H → va_S E.2.2.2 s.heap H locs → W p l e (rmc 1 14 1312) s m args below meth c H locs 14 1312 (MQ below (QW E (shN 274) none sz) args s 14 1312 E.2.2.2) (F0 m 123 ls []) := by
  intro H locs ls hl hw35 hS35
  obtain ⟨hx, hb, hml, hown, hts, hTB⟩ := id hC
  unfold f_X12_init_6 at hf
  refine lv_aload_n hx hb dX12_init_123 rfl (lv_at hl 1 rfl) ?_
  refine z_at 124 rfl ?_
  refine z_get (rest := []) hC hw35 (shN_at (n := 274) (a := 259) (x := .inr (11, ksM)) (by decide) rfl) (C := RX12) (T := TX12) (N := 23) rfl inw_Model 5 (by decide) (o := some (true, 264)) rfl (v := .ref (E.2.2.1 264)) (fvT (nz1 fl259_5)) wd538 dX12_init_124 ?_
  refine z_at 127 rfl ?_
  refine lv_iload_n hx hb dX12_init_127 rfl (lv_at hl 0 rfl) ?_
  refine z_at 128 rfl ?_
  refine lv_iconst (v := -1) hx hb dX12_init_128 (by decide) ?_
  refine z_at 129 rfl ?_
  obtain ⟨s36, en, hf⟩ := ok_ltp hf
  refine z_iast (rest := []) (i := 7) (x := -1) hC hw35 hS35 (shN_at (n := 274) (a := 264) (x := ia 8) (by decide) rfl) (show inb 7 8 from by decide) en dX12_init_129 (fun H36 locs36 hw36 hS36 => ?_)
  clear hw35 hS35
  have hw36 : World E (shN 274) s36 H36 := hw36
  have fl259_5 : s36 259 5 = 1 := by rw [en]; exact fl259_5
  clear en
  refine z_at 130 rfl ?_
  refine lv_iinc (v := 8) (lv' := [(1, .int (8)), (0, .ref (E.2.2.1 259))]) hx hb dX12_init_130 hl (k := 0) rfl (by decide) (by decide) rfl (fun ls hl => ?_)
  refine z_at 133 rfl ?_
  refine lv_goto (tgt := 117) hx hb dX12_init_133 (by decide) ?_
  refine lv_iload_n hx hb dX12_init_117 rfl (lv_at hl 0 rfl) ?_
  refine z_at 118 rfl ?_
  refine lv_bipush (v := 8) hx hb dX12_init_118 (by decide) ?_
  refine z_at 120 rfl ?_
  refine lv_icmp_ge (tgt := 136) hx hb dX12_init_120 (by decide) (fun _ => ?_) (fun h9 => absurd (by decide) h9)
  subst hf
  exact zb_vret hC hlocks hw36 hS36 hr dX12_init_136
set_option maxHeartbeats 8000000 in
set_option maxRecDepth 100000 in
theorem cc_X12_init_5 {p : Program} {l : Launch} {e : Env} {s : State} {m : MethodId} {args : Array Value} {below : List Frame} {meth : Method} {c : Code} {E : Ev} (hE : EvOk E) (hC : Cx p s m args c cX12_init 2 "FuseBoxModel" E) (hNT : NT s) (hin2 : meth.name = "<init>") (hr : meth.sig.returnType = none) (hlocks : meth.locks = false) (hb0 : E.2.2.1 0 ≤ s.heap.size) (hz : s.heap.size + 0 ≤ E.2.2.1 0 + 260) {s32 sz : St} (fl259_5 : s32 259 5 = 1) (hf : f_X12_init_5 s32 = sz) : ∀ (H : Heap) (locs : List Loc) (ls : Array Slot), lv_has ls 2 [(1, .int (4)), (0, .ref (E.2.2.1 259))] → World E (shN 274) s32 H → va_S E.2.2.2 s.heap H locs → W p l e (rmc 1 14 1312) s m args below meth c H locs 14 1312 (MQ below (QW E (shN 274) none sz) args s 14 1312 E.2.2.2) (F0 m 123 ls []) := by
  intro H locs ls hl hw32 hS32
  obtain ⟨hx, hb, hml, hown, hts, hTB⟩ := id hC
  unfold f_X12_init_5 at hf
  refine lv_aload_n hx hb dX12_init_123 rfl (lv_at hl 1 rfl) ?_
  refine z_at 124 rfl ?_
  refine z_get (rest := []) hC hw32 (shN_at (n := 274) (a := 259) (x := .inr (11, ksM)) (by decide) rfl) (C := RX12) (T := TX12) (N := 23) rfl inw_Model 5 (by decide) (o := some (true, 264)) rfl (v := .ref (E.2.2.1 264)) (fvT (nz1 fl259_5)) wd538 dX12_init_124 ?_
  refine z_at 127 rfl ?_
  refine lv_iload_n hx hb dX12_init_127 rfl (lv_at hl 0 rfl) ?_
  refine z_at 128 rfl ?_
  refine lv_iconst (v := -1) hx hb dX12_init_128 (by decide) ?_
  refine z_at 129 rfl ?_
  obtain ⟨s33, en, hf⟩ := ok_ltp hf
  refine z_iast (rest := []) (i := 4) (x := -1) hC hw32 hS32 (shN_at (n := 274) (a := 264) (x := ia 8) (by decide) rfl) (show inb 4 8 from by decide) en dX12_init_129 (fun H33 locs33 hw33 hS33 => ?_)
  clear hw32 hS32
  have hw33 : World E (shN 274) s33 H33 := hw33
  have fl259_5 : s33 259 5 = 1 := by rw [en]; exact fl259_5
  clear en
  refine z_at 130 rfl ?_
  refine lv_iinc (v := 5) (lv' := [(1, .int (5)), (0, .ref (E.2.2.1 259))]) hx hb dX12_init_130 hl (k := 0) rfl (by decide) (by decide) rfl (fun ls hl => ?_)
  refine z_at 133 rfl ?_
  refine lv_goto (tgt := 117) hx hb dX12_init_133 (by decide) ?_
  refine lv_iload_n hx hb dX12_init_117 rfl (lv_at hl 0 rfl) ?_
  refine z_at 118 rfl ?_
  refine lv_bipush (v := 8) hx hb dX12_init_118 (by decide) ?_
  refine z_at 120 rfl ?_
  refine lv_icmp_ge (tgt := 136) hx hb dX12_init_120 (by decide) (fun h9 => absurd h9 (by decide)) (fun _ => ?_)
  refine z_at 123 rfl ?_
  refine lv_aload_n hx hb dX12_init_123 rfl (lv_at hl 1 rfl) ?_
  refine z_at 124 rfl ?_
  refine z_get (rest := []) hC hw33 (shN_at (n := 274) (a := 259) (x := .inr (11, ksM)) (by decide) rfl) (C := RX12) (T := TX12) (N := 23) rfl inw_Model 5 (by decide) (o := some (true, 264)) rfl (v := .ref (E.2.2.1 264)) (fvT (nz1 fl259_5)) wd538 dX12_init_124 ?_
  refine z_at 127 rfl ?_
  refine lv_iload_n hx hb dX12_init_127 rfl (lv_at hl 0 rfl) ?_
  refine z_at 128 rfl ?_
  refine lv_iconst (v := -1) hx hb dX12_init_128 (by decide) ?_
  refine z_at 129 rfl ?_
  obtain ⟨s34, en, hf⟩ := ok_ltp hf
  refine z_iast (rest := []) (i := 5) (x := -1) hC hw33 hS33 (shN_at (n := 274) (a := 264) (x := ia 8) (by decide) rfl) (show inb 5 8 from by decide) en dX12_init_129 (fun H34 locs34 hw34 hS34 => ?_)
  clear hw33 hS33
  have hw34 : World E (shN 274) s34 H34 := hw34
  have fl259_5 : s34 259 5 = 1 := by rw [en]; exact fl259_5
  clear en
  refine z_at 130 rfl ?_
  refine lv_iinc (v := 6) (lv' := [(1, .int (6)), (0, .ref (E.2.2.1 259))]) hx hb dX12_init_130 hl (k := 0) rfl (by decide) (by decide) rfl (fun ls hl => ?_)
  refine z_at 133 rfl ?_
  refine lv_goto (tgt := 117) hx hb dX12_init_133 (by decide) ?_
  refine lv_iload_n hx hb dX12_init_117 rfl (lv_at hl 0 rfl) ?_
  refine z_at 118 rfl ?_
  refine lv_bipush (v := 8) hx hb dX12_init_118 (by decide) ?_
  refine z_at 120 rfl ?_
  refine lv_icmp_ge (tgt := 136) hx hb dX12_init_120 (by decide) (fun h9 => absurd h9 (by decide)) (fun _ => ?_)
  refine z_at 123 rfl ?_
  refine lv_aload_n hx hb dX12_init_123 rfl (lv_at hl 1 rfl) ?_
  refine z_at 124 rfl ?_
  refine z_get (rest := []) hC hw34 (shN_at (n := 274) (a := 259) (x := .inr (11, ksM)) (by decide) rfl) (C := RX12) (T := TX12) (N := 23) rfl inw_Model 5 (by decide) (o := some (true, 264)) rfl (v := .ref (E.2.2.1 264)) (fvT (nz1 fl259_5)) wd538 dX12_init_124 ?_
  refine z_at 127 rfl ?_
  refine lv_iload_n hx hb dX12_init_127 rfl (lv_at hl 0 rfl) ?_
  refine z_at 128 rfl ?_
  refine lv_iconst (v := -1) hx hb dX12_init_128 (by decide) ?_
  refine z_at 129 rfl ?_
  obtain ⟨s35, en, hf⟩ := ok_ltp hf
  refine z_iast (rest := []) (i := 6) (x := -1) hC hw34 hS34 (shN_at (n := 274) (a := 264) (x := ia 8) (by decide) rfl) (show inb 6 8 from by decide) en dX12_init_129 (fun H35 locs35 hw35 hS35 => ?_)
  clear hw34 hS34
  have hw35 : World E (shN 274) s35 H35 := hw35
  have fl259_5 : s35 259 5 = 1 := by rw [en]; exact fl259_5
  clear en
  refine z_at 130 rfl ?_
  refine lv_iinc (v := 7) (lv' := [(1, .int (7)), (0, .ref (E.2.2.1 259))]) hx hb dX12_init_130 hl (k := 0) rfl (by decide) (by decide) rfl (fun ls hl => ?_)
  refine z_at 133 rfl ?_
  refine lv_goto (tgt := 117) hx hb dX12_init_133 (by decide) ?_
  refine lv_iload_n hx hb dX12_init_117 rfl (lv_at hl 0 rfl) ?_
  refine z_at 118 rfl ?_
  refine lv_bipush (v := 8) hx hb dX12_init_118 (by decide) ?_
  refine z_at 120 rfl ?_
  refine lv_icmp_ge (tgt := 136) hx hb dX12_init_120 (by decide) (fun h9 => absurd h9 (by decide)) (fun _ => ?_)
  refine z_at 123 rfl ?_
  exact cc_X12_init_6 hE hC hNT hin2 hr hlocks hb0 hz fl259_5 hf _ _ ls hl hw35 hS35
set_option maxHeartbeats 8000000 in
set_option maxRecDepth 100000 in
theorem cc_X12_init_4 {p : Program} {l : Launch} {e : Env} {s : State} {m : MethodId} {args : Array Value} {below : List Frame} {meth : Method} {c : Code} {E : Ev} (hE : EvOk E) (hC : Cx p s m args c cX12_init 2 "FuseBoxModel" E) (hNT : NT s) (hin2 : meth.name = "<init>") (hr : meth.sig.returnType = none) (hlocks : meth.locks = false) (hb0 : E.2.2.1 0 ≤ s.heap.size) (hz : s.heap.size + 0 ≤ E.2.2.1 0 + 260) {s29 sz : St} (fl259_5 : s29 259 5 = 1) (hf : f_X12_init_4 s29 = sz) : ∀ (H : Heap) (locs : List Loc) (ls : Array Slot), lv_has ls 2 [(1, .int (1)), (0, .ref (E.2.2.1 259))] → World E (shN 274) s29 H → va_S E.2.2.2 s.heap H locs → W p l e (rmc 1 14 1312) s m args below meth c H locs 14 1312 (MQ below (QW E (shN 274) none sz) args s 14 1312 E.2.2.2) (F0 m 123 ls []) := by
  intro H locs ls hl hw29 hS29
  obtain ⟨hx, hb, hml, hown, hts, hTB⟩ := id hC
  unfold f_X12_init_4 at hf
  refine lv_aload_n hx hb dX12_init_123 rfl (lv_at hl 1 rfl) ?_
  refine z_at 124 rfl ?_
  refine z_get (rest := []) hC hw29 (shN_at (n := 274) (a := 259) (x := .inr (11, ksM)) (by decide) rfl) (C := RX12) (T := TX12) (N := 23) rfl inw_Model 5 (by decide) (o := some (true, 264)) rfl (v := .ref (E.2.2.1 264)) (fvT (nz1 fl259_5)) wd538 dX12_init_124 ?_
  refine z_at 127 rfl ?_
  refine lv_iload_n hx hb dX12_init_127 rfl (lv_at hl 0 rfl) ?_
  refine z_at 128 rfl ?_
  refine lv_iconst (v := -1) hx hb dX12_init_128 (by decide) ?_
  refine z_at 129 rfl ?_
  obtain ⟨s30, en, hf⟩ := ok_ltp hf
  refine z_iast (rest := []) (i := 1) (x := -1) hC hw29 hS29 (shN_at (n := 274) (a := 264) (x := ia 8) (by decide) rfl) (show inb 1 8 from by decide) en dX12_init_129 (fun H30 locs30 hw30 hS30 => ?_)
  clear hw29 hS29
  have hw30 : World E (shN 274) s30 H30 := hw30
  have fl259_5 : s30 259 5 = 1 := by rw [en]; exact fl259_5
  clear en
  refine z_at 130 rfl ?_
  refine lv_iinc (v := 2) (lv' := [(1, .int (2)), (0, .ref (E.2.2.1 259))]) hx hb dX12_init_130 hl (k := 0) rfl (by decide) (by decide) rfl (fun ls hl => ?_)
  refine z_at 133 rfl ?_
  refine lv_goto (tgt := 117) hx hb dX12_init_133 (by decide) ?_
  refine lv_iload_n hx hb dX12_init_117 rfl (lv_at hl 0 rfl) ?_
  refine z_at 118 rfl ?_
  refine lv_bipush (v := 8) hx hb dX12_init_118 (by decide) ?_
  refine z_at 120 rfl ?_
  refine lv_icmp_ge (tgt := 136) hx hb dX12_init_120 (by decide) (fun h9 => absurd h9 (by decide)) (fun _ => ?_)
  refine z_at 123 rfl ?_
  refine lv_aload_n hx hb dX12_init_123 rfl (lv_at hl 1 rfl) ?_
  refine z_at 124 rfl ?_
  refine z_get (rest := []) hC hw30 (shN_at (n := 274) (a := 259) (x := .inr (11, ksM)) (by decide) rfl) (C := RX12) (T := TX12) (N := 23) rfl inw_Model 5 (by decide) (o := some (true, 264)) rfl (v := .ref (E.2.2.1 264)) (fvT (nz1 fl259_5)) wd538 dX12_init_124 ?_
  refine z_at 127 rfl ?_
  refine lv_iload_n hx hb dX12_init_127 rfl (lv_at hl 0 rfl) ?_
  refine z_at 128 rfl ?_
  refine lv_iconst (v := -1) hx hb dX12_init_128 (by decide) ?_
  refine z_at 129 rfl ?_
  obtain ⟨s31, en, hf⟩ := ok_ltp hf
  refine z_iast (rest := []) (i := 2) (x := -1) hC hw30 hS30 (shN_at (n := 274) (a := 264) (x := ia 8) (by decide) rfl) (show inb 2 8 from by decide) en dX12_init_129 (fun H31 locs31 hw31 hS31 => ?_)
  clear hw30 hS30
  have hw31 : World E (shN 274) s31 H31 := hw31
  have fl259_5 : s31 259 5 = 1 := by rw [en]; exact fl259_5
  clear en
  refine z_at 130 rfl ?_
  refine lv_iinc (v := 3) (lv' := [(1, .int (3)), (0, .ref (E.2.2.1 259))]) hx hb dX12_init_130 hl (k := 0) rfl (by decide) (by decide) rfl (fun ls hl => ?_)
  refine z_at 133 rfl ?_
  refine lv_goto (tgt := 117) hx hb dX12_init_133 (by decide) ?_
  refine lv_iload_n hx hb dX12_init_117 rfl (lv_at hl 0 rfl) ?_
  refine z_at 118 rfl ?_
  refine lv_bipush (v := 8) hx hb dX12_init_118 (by decide) ?_
  refine z_at 120 rfl ?_
  refine lv_icmp_ge (tgt := 136) hx hb dX12_init_120 (by decide) (fun h9 => absurd h9 (by decide)) (fun _ => ?_)
  refine z_at 123 rfl ?_
  refine lv_aload_n hx hb dX12_init_123 rfl (lv_at hl 1 rfl) ?_
  refine z_at 124 rfl ?_
  refine z_get (rest := []) hC hw31 (shN_at (n := 274) (a := 259) (x := .inr (11, ksM)) (by decide) rfl) (C := RX12) (T := TX12) (N := 23) rfl inw_Model 5 (by decide) (o := some (true, 264)) rfl (v := .ref (E.2.2.1 264)) (fvT (nz1 fl259_5)) wd538 dX12_init_124 ?_
  refine z_at 127 rfl ?_
  refine lv_iload_n hx hb dX12_init_127 rfl (lv_at hl 0 rfl) ?_
  refine z_at 128 rfl ?_
  refine lv_iconst (v := -1) hx hb dX12_init_128 (by decide) ?_
  refine z_at 129 rfl ?_
  obtain ⟨s32, en, hf⟩ := ok_ltp hf
  refine z_iast (rest := []) (i := 3) (x := -1) hC hw31 hS31 (shN_at (n := 274) (a := 264) (x := ia 8) (by decide) rfl) (show inb 3 8 from by decide) en dX12_init_129 (fun H32 locs32 hw32 hS32 => ?_)
  clear hw31 hS31
  have hw32 : World E (shN 274) s32 H32 := hw32
  have fl259_5 : s32 259 5 = 1 := by rw [en]; exact fl259_5
  clear en
  refine z_at 130 rfl ?_
  refine lv_iinc (v := 4) (lv' := [(1, .int (4)), (0, .ref (E.2.2.1 259))]) hx hb dX12_init_130 hl (k := 0) rfl (by decide) (by decide) rfl (fun ls hl => ?_)
  refine z_at 133 rfl ?_
  refine lv_goto (tgt := 117) hx hb dX12_init_133 (by decide) ?_
  refine lv_iload_n hx hb dX12_init_117 rfl (lv_at hl 0 rfl) ?_
  refine z_at 118 rfl ?_
  refine lv_bipush (v := 8) hx hb dX12_init_118 (by decide) ?_
  refine z_at 120 rfl ?_
  refine lv_icmp_ge (tgt := 136) hx hb dX12_init_120 (by decide) (fun h9 => absurd h9 (by decide)) (fun _ => ?_)
  refine z_at 123 rfl ?_
  exact cc_X12_init_5 hE hC hNT hin2 hr hlocks hb0 hz fl259_5 hf _ _ ls hl hw32 hS32
set_option maxHeartbeats 8000000 in
set_option maxRecDepth 100000 in
theorem cc_X12_init_3 {p : Program} {l : Launch} {e : Env} {s : State} {m : MethodId} {args : Array Value} {below : List Frame} {meth : Method} {c : Code} {E : Ev} (hE : EvOk E) (hC : Cx p s m args c cX12_init 2 "FuseBoxModel" E) (hNT : NT s) (hin2 : meth.name = "<init>") (hr : meth.sig.returnType = none) (hlocks : meth.locks = false) (hb0 : E.2.2.1 0 ≤ s.heap.size) (hz : s.heap.size + 0 ≤ E.2.2.1 0 + 260) {s24 sz : St} (fl259_5 : s24 259 5 = 1) (hf : f_X12_init_3 s24 = sz) : ∀ (H : Heap) (locs : List Loc) (ls : Array Slot), lv_has ls 2 [(0, .ref (E.2.2.1 259))] → World E (shN 272) s24 H → va_S E.2.2.2 s.heap H locs → W p l e (rmc 1 14 1312) s m args below meth c H locs 12 1292 (MQ below (QW E (shN 274) none sz) args s 14 1312 E.2.2.2) (F0 m 100 ls []) := by
  intro H locs ls hl hw24 hS24
  obtain ⟨hx, hb, hml, hown, hts, hTB⟩ := id hC
  unfold f_X12_init_3 at hf
  refine lv_aload_n hx hb dX12_init_100 rfl (lv_at hl 0 rfl) ?_
  refine z_at 101 rfl ?_
  refine lv_bipush (v := 16) hx hb dX12_init_101 (by decide) ?_
  refine z_at 103 rfl ?_
  obtain ⟨s25, en, hf⟩ := ok_ltp hf
  refine zb_newi (n := 272) (N := 16) (k := 16) (rest := [.ref (E.2.2.1 259)]) hE hC hw24 hS24 (by decide) hb0 (by omega) rfl wd762 (by decide) (by decide) (by decide) (Nat.le_of_ble_eq_true rfl) (Nat.le_of_ble_eq_true rfl) en dX12_init_103 (fun H25 hw25 hS25 => ?_)
  clear hw24 hS24
  have hw25 : World E (shN 273) s25 H25 := hw25
  have fl259_5 : s25 259 5 = 1 := by rw [en]; exact fl259_5
  clear en
  refine W.widen (k := 13) (n := 1308) (Nat.le_of_ble_eq_true rfl) (Nat.le_of_ble_eq_true rfl) ?_
  refine z_at 105 rfl ?_
  obtain ⟨s26, en, hf⟩ := ok_ltp hf
  refine zb_putF (rest := []) hC hin2 hw25 hS25 (shN_at (n := 273) (a := 259) (x := .inr (11, ksM)) (by decide) rfl) (C := RX12) (T := TX12) (N := 23) rfl inw_Model tyX12 tyX12_ok nmX12 21 (by decide) (r := 272) rfl rfl rfl rfl rfl wd726 en dX12_init_105 (fun H26 locs26 hw26 hS26 => ?_)
  clear hw25 hS25
  have hw26 : World E (shN 273) s26 H26 := hw26
  have fl259_5 : s26 259 5 = 1 := by rw [en]; exact fl259_5
  clear en
  refine z_at 108 rfl ?_
  refine lv_aload_n hx hb dX12_init_108 rfl (lv_at hl 0 rfl) ?_
  refine z_at 109 rfl ?_
  refine lv_iconst (v := 4) hx hb dX12_init_109 (by decide) ?_
  refine z_at 110 rfl ?_
  obtain ⟨s27, en, hf⟩ := ok_ltp hf
  refine zb_newi (n := 273) (N := 4) (k := 4) (rest := [.ref (E.2.2.1 259)]) hE hC hw26 hS26 (by decide) hb0 (by omega) rfl wd762 (by decide) (by decide) (by decide) (Nat.le_of_ble_eq_true rfl) (Nat.le_of_ble_eq_true rfl) en dX12_init_110 (fun H27 hw27 hS27 => ?_)
  clear hw26 hS26
  have hw27 : World E (shN 274) s27 H27 := hw27
  have fl259_5 : s27 259 5 = 1 := by rw [en]; exact fl259_5
  clear en
  refine W.widen (k := 14) (n := 1312) (Nat.le_of_ble_eq_true rfl) (Nat.le_of_ble_eq_true rfl) ?_
  refine z_at 112 rfl ?_
  obtain ⟨s28, en, hf⟩ := ok_ltp hf
  refine zb_putF (rest := []) hC hin2 hw27 hS27 (shN_at (n := 274) (a := 259) (x := .inr (11, ksM)) (by decide) rfl) (C := RX12) (T := TX12) (N := 23) rfl inw_Model tyX12 tyX12_ok nmX12 22 (by decide) (r := 273) rfl rfl rfl rfl rfl wd624 en dX12_init_112 (fun H28 locs28 hw28 hS28 => ?_)
  clear hw27 hS27
  have hw28 : World E (shN 274) s28 H28 := hw28
  have fl259_5 : s28 259 5 = 1 := by rw [en]; exact fl259_5
  clear en
  refine z_at 115 rfl ?_
  refine lv_iconst (v := 0) hx hb dX12_init_115 (by decide) ?_
  refine z_at 116 rfl ?_
  refine lv_istore_n (lv' := [(1, .int (0)), (0, .ref (E.2.2.1 259))]) hx hb dX12_init_116 rfl hl (by decide) rfl (fun ls hl => ?_)
  refine z_at 117 rfl ?_
  refine lv_iload_n hx hb dX12_init_117 rfl (lv_at hl 0 rfl) ?_
  refine z_at 118 rfl ?_
  refine lv_bipush (v := 8) hx hb dX12_init_118 (by decide) ?_
  refine z_at 120 rfl ?_
  refine lv_icmp_ge (tgt := 136) hx hb dX12_init_120 (by decide) (fun h9 => absurd h9 (by decide)) (fun _ => ?_)
  refine z_at 123 rfl ?_
  refine lv_aload_n hx hb dX12_init_123 rfl (lv_at hl 1 rfl) ?_
  refine z_at 124 rfl ?_
  refine z_get (rest := []) hC hw28 (shN_at (n := 274) (a := 259) (x := .inr (11, ksM)) (by decide) rfl) (C := RX12) (T := TX12) (N := 23) rfl inw_Model 5 (by decide) (o := some (true, 264)) rfl (v := .ref (E.2.2.1 264)) (fvT (nz1 fl259_5)) wd538 dX12_init_124 ?_
  refine z_at 127 rfl ?_
  refine lv_iload_n hx hb dX12_init_127 rfl (lv_at hl 0 rfl) ?_
  refine z_at 128 rfl ?_
  refine lv_iconst (v := -1) hx hb dX12_init_128 (by decide) ?_
  refine z_at 129 rfl ?_
  obtain ⟨s29, en, hf⟩ := ok_ltp hf
  refine z_iast (rest := []) (i := 0) (x := -1) hC hw28 hS28 (shN_at (n := 274) (a := 264) (x := ia 8) (by decide) rfl) (show inb 0 8 from by decide) en dX12_init_129 (fun H29 locs29 hw29 hS29 => ?_)
  clear hw28 hS28
  have hw29 : World E (shN 274) s29 H29 := hw29
  have fl259_5 : s29 259 5 = 1 := by rw [en]; exact fl259_5
  clear en
  refine z_at 130 rfl ?_
  refine lv_iinc (v := 1) (lv' := [(1, .int (1)), (0, .ref (E.2.2.1 259))]) hx hb dX12_init_130 hl (k := 0) rfl (by decide) (by decide) rfl (fun ls hl => ?_)
  refine z_at 133 rfl ?_
  refine lv_goto (tgt := 117) hx hb dX12_init_133 (by decide) ?_
  refine lv_iload_n hx hb dX12_init_117 rfl (lv_at hl 0 rfl) ?_
  refine z_at 118 rfl ?_
  refine lv_bipush (v := 8) hx hb dX12_init_118 (by decide) ?_
  refine z_at 120 rfl ?_
  refine lv_icmp_ge (tgt := 136) hx hb dX12_init_120 (by decide) (fun h9 => absurd h9 (by decide)) (fun _ => ?_)
  refine z_at 123 rfl ?_
  exact cc_X12_init_4 hE hC hNT hin2 hr hlocks hb0 hz fl259_5 hf _ _ ls hl hw29 hS29
set_option maxHeartbeats 8000000 in
set_option maxRecDepth 100000 in
theorem cc_X12_init_2 {p : Program} {l : Launch} {e : Env} {s : State} {m : MethodId} {args : Array Value} {below : List Frame} {meth : Method} {c : Code} {E : Ev} (hE : EvOk E) (hC : Cx p s m args c cX12_init 2 "FuseBoxModel" E) (hNT : NT s) (hin2 : meth.name = "<init>") (hr : meth.sig.returnType = none) (hlocks : meth.locks = false) (hb0 : E.2.2.1 0 ≤ s.heap.size) (hz : s.heap.size + 0 ≤ E.2.2.1 0 + 260) {s16 sz : St} (fl259_5 : s16 259 5 = 1) (hf : f_X12_init_2 s16 = sz) : ∀ (H : Heap) (locs : List Loc) (ls : Array Slot), lv_has ls 2 [(0, .ref (E.2.2.1 259))] → World E (shN 268) s16 H → va_S E.2.2.2 s.heap H locs → W p l e (rmc 1 14 1312) s m args below meth c H locs 8 1263 (MQ below (QW E (shN 274) none sz) args s 14 1312 E.2.2.2) (F0 m 69 ls []) := by
  intro H locs ls hl hw16 hS16
  obtain ⟨hx, hb, hml, hown, hts, hTB⟩ := id hC
  unfold f_X12_init_2 at hf
  refine lv_aload_n hx hb dX12_init_69 rfl (lv_at hl 0 rfl) ?_
  refine z_at 70 rfl ?_
  refine lv_bipush (v := 13) hx hb dX12_init_70 (by decide) ?_
  refine z_at 72 rfl ?_
  obtain ⟨s17, en, hf⟩ := ok_ltp hf
  refine zb_newi (n := 268) (N := 13) (k := 13) (rest := [.ref (E.2.2.1 259)]) hE hC hw16 hS16 (by decide) hb0 (by omega) rfl wd762 (by decide) (by decide) (by decide) (Nat.le_of_ble_eq_true rfl) (Nat.le_of_ble_eq_true rfl) en dX12_init_72 (fun H17 hw17 hS17 => ?_)
  clear hw16 hS16
  have hw17 : World E (shN 269) s17 H17 := hw17
  have fl259_5 : s17 259 5 = 1 := by rw [en]; exact fl259_5
  clear en
  refine W.widen (k := 9) (n := 1276) (Nat.le_of_ble_eq_true rfl) (Nat.le_of_ble_eq_true rfl) ?_
  refine z_at 74 rfl ?_
  obtain ⟨s18, en, hf⟩ := ok_ltp hf
  refine zb_putF (rest := []) hC hin2 hw17 hS17 (shN_at (n := 269) (a := 259) (x := .inr (11, ksM)) (by decide) rfl) (C := RX12) (T := TX12) (N := 23) rfl inw_Model tyX12 tyX12_ok nmX12 16 (by decide) (r := 268) rfl rfl rfl rfl rfl wd569 en dX12_init_74 (fun H18 locs18 hw18 hS18 => ?_)
  clear hw17 hS17
  have hw18 : World E (shN 269) s18 H18 := hw18
  have fl259_5 : s18 259 5 = 1 := by rw [en]; exact fl259_5
  clear en
  refine z_at 77 rfl ?_
  refine lv_aload_n hx hb dX12_init_77 rfl (lv_at hl 0 rfl) ?_
  refine z_at 78 rfl ?_
  refine lv_iconst (v := 4) hx hb dX12_init_78 (by decide) ?_
  refine z_at 79 rfl ?_
  obtain ⟨s19, en, hf⟩ := ok_ltp hf
  refine zb_newi (n := 269) (N := 4) (k := 4) (rest := [.ref (E.2.2.1 259)]) hE hC hw18 hS18 (by decide) hb0 (by omega) rfl wd762 (by decide) (by decide) (by decide) (Nat.le_of_ble_eq_true rfl) (Nat.le_of_ble_eq_true rfl) en dX12_init_79 (fun H19 hw19 hS19 => ?_)
  clear hw18 hS18
  have hw19 : World E (shN 270) s19 H19 := hw19
  have fl259_5 : s19 259 5 = 1 := by rw [en]; exact fl259_5
  clear en
  refine W.widen (k := 10) (n := 1280) (Nat.le_of_ble_eq_true rfl) (Nat.le_of_ble_eq_true rfl) ?_
  refine z_at 81 rfl ?_
  obtain ⟨s20, en, hf⟩ := ok_ltp hf
  refine zb_putF (rest := []) hC hin2 hw19 hS19 (shN_at (n := 270) (a := 259) (x := .inr (11, ksM)) (by decide) rfl) (C := RX12) (T := TX12) (N := 23) rfl inw_Model tyX12 tyX12_ok nmX12 17 (by decide) (r := 269) rfl rfl rfl rfl rfl wd578 en dX12_init_81 (fun H20 locs20 hw20 hS20 => ?_)
  clear hw19 hS19
  have hw20 : World E (shN 270) s20 H20 := hw20
  have fl259_5 : s20 259 5 = 1 := by rw [en]; exact fl259_5
  clear en
  refine z_at 84 rfl ?_
  refine lv_aload_n hx hb dX12_init_84 rfl (lv_at hl 0 rfl) ?_
  refine z_at 85 rfl ?_
  refine lv_bipush (v := 6) hx hb dX12_init_85 (by decide) ?_
  refine z_at 87 rfl ?_
  obtain ⟨s21, en, hf⟩ := ok_ltp hf
  refine zb_newi (n := 270) (N := 6) (k := 6) (rest := [.ref (E.2.2.1 259)]) hE hC hw20 hS20 (by decide) hb0 (by omega) rfl wd762 (by decide) (by decide) (by decide) (Nat.le_of_ble_eq_true rfl) (Nat.le_of_ble_eq_true rfl) en dX12_init_87 (fun H21 hw21 hS21 => ?_)
  clear hw20 hS20
  have hw21 : World E (shN 271) s21 H21 := hw21
  have fl259_5 : s21 259 5 = 1 := by rw [en]; exact fl259_5
  clear en
  refine W.widen (k := 11) (n := 1286) (Nat.le_of_ble_eq_true rfl) (Nat.le_of_ble_eq_true rfl) ?_
  refine z_at 89 rfl ?_
  obtain ⟨s22, en, hf⟩ := ok_ltp hf
  refine zb_putF (rest := []) hC hin2 hw21 hS21 (shN_at (n := 271) (a := 259) (x := .inr (11, ksM)) (by decide) rfl) (C := RX12) (T := TX12) (N := 23) rfl inw_Model tyX12 tyX12_ok nmX12 18 (by decide) (r := 270) rfl rfl rfl rfl rfl wd579 en dX12_init_89 (fun H22 locs22 hw22 hS22 => ?_)
  clear hw21 hS21
  have hw22 : World E (shN 271) s22 H22 := hw22
  have fl259_5 : s22 259 5 = 1 := by rw [en]; exact fl259_5
  clear en
  refine z_at 92 rfl ?_
  refine lv_aload_n hx hb dX12_init_92 rfl (lv_at hl 0 rfl) ?_
  refine z_at 93 rfl ?_
  refine lv_bipush (v := 6) hx hb dX12_init_93 (by decide) ?_
  refine z_at 95 rfl ?_
  obtain ⟨s23, en, hf⟩ := ok_ltp hf
  refine zb_newi (n := 271) (N := 6) (k := 6) (rest := [.ref (E.2.2.1 259)]) hE hC hw22 hS22 (by decide) hb0 (by omega) rfl wd762 (by decide) (by decide) (by decide) (Nat.le_of_ble_eq_true rfl) (Nat.le_of_ble_eq_true rfl) en dX12_init_95 (fun H23 hw23 hS23 => ?_)
  clear hw22 hS22
  have hw23 : World E (shN 272) s23 H23 := hw23
  have fl259_5 : s23 259 5 = 1 := by rw [en]; exact fl259_5
  clear en
  refine W.widen (k := 12) (n := 1292) (Nat.le_of_ble_eq_true rfl) (Nat.le_of_ble_eq_true rfl) ?_
  refine z_at 97 rfl ?_
  obtain ⟨s24, en, hf⟩ := ok_ltp hf
  refine zb_putF (rest := []) hC hin2 hw23 hS23 (shN_at (n := 272) (a := 259) (x := .inr (11, ksM)) (by decide) rfl) (C := RX12) (T := TX12) (N := 23) rfl inw_Model tyX12 tyX12_ok nmX12 19 (by decide) (r := 271) rfl rfl rfl rfl rfl wd580 en dX12_init_97 (fun H24 locs24 hw24 hS24 => ?_)
  clear hw23 hS23
  have hw24 : World E (shN 272) s24 H24 := hw24
  have fl259_5 : s24 259 5 = 1 := by rw [en]; exact fl259_5
  clear en
  refine z_at 100 rfl ?_
  exact cc_X12_init_3 hE hC hNT hin2 hr hlocks hb0 hz fl259_5 hf _ _ ls hl hw24 hS24
set_option maxHeartbeats 8000000 in
set_option maxRecDepth 100000 in
theorem cc_X12_init_1 {p : Program} {l : Launch} {e : Env} {s : State} {m : MethodId} {args : Array Value} {below : List Frame} {meth : Method} {c : Code} {E : Ev} (hE : EvOk E) (hC : Cx p s m args c cX12_init 2 "FuseBoxModel" E) (hNT : NT s) (hin2 : meth.name = "<init>") (hr : meth.sig.returnType = none) (hlocks : meth.locks = false) (hb0 : E.2.2.1 0 ≤ s.heap.size) (hz : s.heap.size + 0 ≤ E.2.2.1 0 + 260) {s8 sz : St}  (hf : f_X12_init_1 s8 = sz) : ∀ (H : Heap) (locs : List Loc) (ls : Array Slot), lv_has ls 2 [(0, .ref (E.2.2.1 259))] → World E (shN 264) s8 H → va_S E.2.2.2 s.heap H locs → W p l e (rmc 1 14 1312) s m args below meth c H locs 4 805 (MQ below (QW E (shN 274) none sz) args s 14 1312 E.2.2.2) (F0 m 36 ls []) := by
  intro H locs ls hl hw8 hS8
  obtain ⟨hx, hb, hml, hown, hts, hTB⟩ := id hC
  unfold f_X12_init_1 at hf
  refine lv_aload_n hx hb dX12_init_36 rfl (lv_at hl 0 rfl) ?_
  refine z_at 37 rfl ?_
  refine lv_bipush (v := 8) hx hb dX12_init_37 (by decide) ?_
  refine z_at 39 rfl ?_
  obtain ⟨s9, en, hf⟩ := ok_ltp hf
  refine zb_newi (n := 264) (N := 8) (k := 8) (rest := [.ref (E.2.2.1 259)]) hE hC hw8 hS8 (by decide) hb0 (by omega) rfl wd762 (by decide) (by decide) (by decide) (Nat.le_of_ble_eq_true rfl) (Nat.le_of_ble_eq_true rfl) en dX12_init_39 (fun H9 hw9 hS9 => ?_)
  clear hw8 hS8
  have hw9 : World E (shN 265) s9 H9 := hw9
  clear en
  refine W.widen (k := 5) (n := 813) (Nat.le_of_ble_eq_true rfl) (Nat.le_of_ble_eq_true rfl) ?_
  refine z_at 41 rfl ?_
  obtain ⟨s10, en, hf⟩ := ok_ltp hf
  refine zb_putF (rest := []) hC hin2 hw9 hS9 (shN_at (n := 265) (a := 259) (x := .inr (11, ksM)) (by decide) rfl) (C := RX12) (T := TX12) (N := 23) rfl inw_Model tyX12 tyX12_ok nmX12 5 (by decide) (r := 264) rfl rfl rfl rfl rfl wd538 en dX12_init_41 (fun H10 locs10 hw10 hS10 => ?_)
  clear hw9 hS9
  have hw10 : World E (shN 265) s10 H10 := hw10
  have fl259_5 : s10 259 5 = 1 := by rw [en]; rfl
  clear en
  refine z_at 44 rfl ?_
  refine lv_aload_n hx hb dX12_init_44 rfl (lv_at hl 0 rfl) ?_
  refine z_at 45 rfl ?_
  refine lv_sipush (v := 320) hx hb dX12_init_45 (by decide) ?_
  refine z_at 48 rfl ?_
  obtain ⟨s11, en, hf⟩ := ok_ltp hf
  refine zb_newi (n := 265) (N := 320) (k := 320) (rest := [.ref (E.2.2.1 259)]) hE hC hw10 hS10 (by decide) hb0 (by omega) rfl wd762 (by decide) (by decide) (by decide) (Nat.le_of_ble_eq_true rfl) (Nat.le_of_ble_eq_true rfl) en dX12_init_48 (fun H11 hw11 hS11 => ?_)
  clear hw10 hS10
  have hw11 : World E (shN 266) s11 H11 := hw11
  have fl259_5 : s11 259 5 = 1 := by rw [en]; exact fl259_5
  clear en
  refine W.widen (k := 6) (n := 1133) (Nat.le_of_ble_eq_true rfl) (Nat.le_of_ble_eq_true rfl) ?_
  refine z_at 50 rfl ?_
  obtain ⟨s12, en, hf⟩ := ok_ltp hf
  refine zb_putF (rest := []) hC hin2 hw11 hS11 (shN_at (n := 266) (a := 259) (x := .inr (11, ksM)) (by decide) rfl) (C := RX12) (T := TX12) (N := 23) rfl inw_Model tyX12 tyX12_ok nmX12 6 (by decide) (r := 265) rfl rfl rfl rfl rfl wd543 en dX12_init_50 (fun H12 locs12 hw12 hS12 => ?_)
  clear hw11 hS11
  have hw12 : World E (shN 266) s12 H12 := hw12
  have fl259_5 : s12 259 5 = 1 := by rw [en]; exact fl259_5
  clear en
  refine z_at 53 rfl ?_
  refine lv_aload_n hx hb dX12_init_53 rfl (lv_at hl 0 rfl) ?_
  refine z_at 54 rfl ?_
  refine lv_bipush (v := 40) hx hb dX12_init_54 (by decide) ?_
  refine z_at 56 rfl ?_
  obtain ⟨s13, en, hf⟩ := ok_ltp hf
  refine zb_newi (n := 266) (N := 40) (k := 40) (rest := [.ref (E.2.2.1 259)]) hE hC hw12 hS12 (by decide) hb0 (by omega) rfl wd762 (by decide) (by decide) (by decide) (Nat.le_of_ble_eq_true rfl) (Nat.le_of_ble_eq_true rfl) en dX12_init_56 (fun H13 hw13 hS13 => ?_)
  clear hw12 hS12
  have hw13 : World E (shN 267) s13 H13 := hw13
  have fl259_5 : s13 259 5 = 1 := by rw [en]; exact fl259_5
  clear en
  refine W.widen (k := 7) (n := 1173) (Nat.le_of_ble_eq_true rfl) (Nat.le_of_ble_eq_true rfl) ?_
  refine z_at 58 rfl ?_
  obtain ⟨s14, en, hf⟩ := ok_ltp hf
  refine zb_putF (rest := []) hC hin2 hw13 hS13 (shN_at (n := 267) (a := 259) (x := .inr (11, ksM)) (by decide) rfl) (C := RX12) (T := TX12) (N := 23) rfl inw_Model tyX12 tyX12_ok nmX12 7 (by decide) (r := 266) rfl rfl rfl rfl rfl wd548 en dX12_init_58 (fun H14 locs14 hw14 hS14 => ?_)
  clear hw13 hS13
  have hw14 : World E (shN 267) s14 H14 := hw14
  have fl259_5 : s14 259 5 = 1 := by rw [en]; exact fl259_5
  clear en
  refine z_at 61 rfl ?_
  refine lv_aload_n hx hb dX12_init_61 rfl (lv_at hl 0 rfl) ?_
  refine z_at 62 rfl ?_
  refine lv_bipush (v := 90) hx hb dX12_init_62 (by decide) ?_
  refine z_at 64 rfl ?_
  obtain ⟨s15, en, hf⟩ := ok_ltp hf
  refine zb_newb (n := 267) (N := 90) (k := 90) (rest := [.ref (E.2.2.1 259)]) hE hC hw14 hS14 (by decide) hb0 (by omega) rfl wd802 (by decide) (by decide) (by decide) (Nat.le_of_ble_eq_true rfl) (Nat.le_of_ble_eq_true rfl) en dX12_init_64 (fun H15 hw15 hS15 => ?_)
  clear hw14 hS14
  have hw15 : World E (shN 268) s15 H15 := hw15
  have fl259_5 : s15 259 5 = 1 := by rw [en]; exact fl259_5
  clear en
  refine W.widen (k := 8) (n := 1263) (Nat.le_of_ble_eq_true rfl) (Nat.le_of_ble_eq_true rfl) ?_
  refine z_at 66 rfl ?_
  obtain ⟨s16, en, hf⟩ := ok_ltp hf
  refine zb_putF (rest := []) hC hin2 hw15 hS15 (shN_at (n := 268) (a := 259) (x := .inr (11, ksM)) (by decide) rfl) (C := RX12) (T := TX12) (N := 23) rfl inw_Model tyX12 tyX12_ok nmX12 10 (by decide) (r := 267) rfl rfl rfl rfl rfl wd551 en dX12_init_66 (fun H16 locs16 hw16 hS16 => ?_)
  clear hw15 hS15
  have hw16 : World E (shN 268) s16 H16 := hw16
  have fl259_5 : s16 259 5 = 1 := by rw [en]; exact fl259_5
  clear en
  refine z_at 69 rfl ?_
  exact cc_X12_init_2 hE hC hNT hin2 hr hlocks hb0 hz fl259_5 hf _ _ ls hl hw16 hS16
set_option maxHeartbeats 8000000 in
set_option maxRecDepth 100000 in
theorem c_X12_init (l : Launch) (E : Ev) (hE : EvOk E) {s0 : St} : MC l E yX12_init cX12_init 2 (rmc 1 14 1312) 260 274 14 1312 [.ref (E.2.2.1 259)] s0 (f_X12_init s0) := by
  generalize hf : f_X12_init s0 = sz
  unfold f_X12_init at hf
  refine zb_enter (by decide +kernel) rfl (Nat.le_of_ble_eq_true rfl) ?_
  intro p e s m args below meth c ls hC hNT hin2 hr hlocks hw0 hb0 hz hS0 hl
  have hC : Cx p s m args c cX12_init 2 "FuseBoxModel" E := hC
  obtain ⟨hx, hb, hml, hown, hts, hTB⟩ := id hC
  have hl : lv_has ls 2 [(0, .ref (E.2.2.1 259))] := hl
  refine lv_aload_n hx hb dX12_init_0 rfl (lv_at hl 0 rfl) ?_
  refine z_at 1 rfl ?_
  refine W.objInit hx hb hown (hts _ wd801) (hts _ wd753) (hts _ wd754) rfl (hl.1.trans hml.symm) rfl dX12_init_1 (Nat.le_of_ble_eq_true rfl) (Nat.le_of_ble_eq_true rfl) ?_
  show W p l e _ s m args below meth c _ _ _ _ _ (F0 m 4 ls [])
  refine lv_aload_n hx hb dX12_init_4 rfl (lv_at hl 0 rfl) ?_
  refine z_at 5 rfl ?_
  refine lv_sipush (v := 756) hx hb dX12_init_5 (by decide) ?_
  refine z_at 8 rfl ?_
  obtain ⟨s1, en, hf⟩ := ok_ltp hf
  refine zb_newi (n := 260) (N := 756) (k := 756) (rest := [.ref (E.2.2.1 259)]) hE hC hw0 hS0 (by decide) hb0 (by omega) rfl wd762 (by decide) (by decide) (by decide) (Nat.le_of_ble_eq_true rfl) (Nat.le_of_ble_eq_true rfl) en dX12_init_8 (fun H1 hw1 hS1 => ?_)
  clear hw0 hS0
  have hw1 : World E (shN 261) s1 H1 := hw1
  clear en
  refine W.widen (k := 1) (n := 756) (Nat.le_of_ble_eq_true rfl) (Nat.le_of_ble_eq_true rfl) ?_
  refine z_at 10 rfl ?_
  obtain ⟨s2, en, hf⟩ := ok_ltp hf
  refine zb_putF (rest := []) hC hin2 hw1 hS1 (shN_at (n := 261) (a := 259) (x := .inr (11, ksM)) (by decide) rfl) (C := RX12) (T := TX12) (N := 23) rfl inw_Model tyX12 tyX12_ok nmX12 0 (by decide) (r := 260) rfl rfl rfl rfl rfl wd598 en dX12_init_10 (fun H2 locs2 hw2 hS2 => ?_)
  clear hw1 hS1
  have hw2 : World E (shN 261) s2 H2 := hw2
  clear en
  refine z_at 13 rfl ?_
  refine lv_aload_n hx hb dX12_init_13 rfl (lv_at hl 0 rfl) ?_
  refine z_at 14 rfl ?_
  refine lv_bipush (v := 39) hx hb dX12_init_14 (by decide) ?_
  refine z_at 16 rfl ?_
  obtain ⟨s3, en, hf⟩ := ok_ltp hf
  refine zb_newi (n := 261) (N := 39) (k := 39) (rest := [.ref (E.2.2.1 259)]) hE hC hw2 hS2 (by decide) hb0 (by omega) rfl wd762 (by decide) (by decide) (by decide) (Nat.le_of_ble_eq_true rfl) (Nat.le_of_ble_eq_true rfl) en dX12_init_16 (fun H3 hw3 hS3 => ?_)
  clear hw2 hS2
  have hw3 : World E (shN 262) s3 H3 := hw3
  clear en
  refine W.widen (k := 2) (n := 795) (Nat.le_of_ble_eq_true rfl) (Nat.le_of_ble_eq_true rfl) ?_
  refine z_at 18 rfl ?_
  obtain ⟨s4, en, hf⟩ := ok_ltp hf
  refine zb_putF (rest := []) hC hin2 hw3 hS3 (shN_at (n := 262) (a := 259) (x := .inr (11, ksM)) (by decide) rfl) (C := RX12) (T := TX12) (N := 23) rfl inw_Model tyX12 tyX12_ok nmX12 1 (by decide) (r := 261) rfl rfl rfl rfl rfl wd597 en dX12_init_18 (fun H4 locs4 hw4 hS4 => ?_)
  clear hw3 hS3
  have hw4 : World E (shN 262) s4 H4 := hw4
  clear en
  refine z_at 21 rfl ?_
  refine lv_aload_n hx hb dX12_init_21 rfl (lv_at hl 0 rfl) ?_
  refine z_at 22 rfl ?_
  refine lv_iconst (v := 2) hx hb dX12_init_22 (by decide) ?_
  refine z_at 23 rfl ?_
  obtain ⟨s5, en, hf⟩ := ok_ltp hf
  refine zb_newi (n := 262) (N := 2) (k := 2) (rest := [.ref (E.2.2.1 259)]) hE hC hw4 hS4 (by decide) hb0 (by omega) rfl wd762 (by decide) (by decide) (by decide) (Nat.le_of_ble_eq_true rfl) (Nat.le_of_ble_eq_true rfl) en dX12_init_23 (fun H5 hw5 hS5 => ?_)
  clear hw4 hS4
  have hw5 : World E (shN 263) s5 H5 := hw5
  clear en
  refine W.widen (k := 3) (n := 797) (Nat.le_of_ble_eq_true rfl) (Nat.le_of_ble_eq_true rfl) ?_
  refine z_at 25 rfl ?_
  obtain ⟨s6, en, hf⟩ := ok_ltp hf
  refine zb_putF (rest := []) hC hin2 hw5 hS5 (shN_at (n := 263) (a := 259) (x := .inr (11, ksM)) (by decide) rfl) (C := RX12) (T := TX12) (N := 23) rfl inw_Model tyX12 tyX12_ok nmX12 2 (by decide) (r := 262) rfl rfl rfl rfl rfl wd724 en dX12_init_25 (fun H6 locs6 hw6 hS6 => ?_)
  clear hw5 hS5
  have hw6 : World E (shN 263) s6 H6 := hw6
  clear en
  refine z_at 28 rfl ?_
  refine lv_aload_n hx hb dX12_init_28 rfl (lv_at hl 0 rfl) ?_
  refine z_at 29 rfl ?_
  refine lv_bipush (v := 8) hx hb dX12_init_29 (by decide) ?_
  refine z_at 31 rfl ?_
  obtain ⟨s7, en, hf⟩ := ok_ltp hf
  refine zb_newi (n := 263) (N := 8) (k := 8) (rest := [.ref (E.2.2.1 259)]) hE hC hw6 hS6 (by decide) hb0 (by omega) rfl wd762 (by decide) (by decide) (by decide) (Nat.le_of_ble_eq_true rfl) (Nat.le_of_ble_eq_true rfl) en dX12_init_31 (fun H7 hw7 hS7 => ?_)
  clear hw6 hS6
  have hw7 : World E (shN 264) s7 H7 := hw7
  clear en
  refine W.widen (k := 4) (n := 805) (Nat.le_of_ble_eq_true rfl) (Nat.le_of_ble_eq_true rfl) ?_
  refine z_at 33 rfl ?_
  obtain ⟨s8, en, hf⟩ := ok_ltp hf
  refine zb_putF (rest := []) hC hin2 hw7 hS7 (shN_at (n := 264) (a := 259) (x := .inr (11, ksM)) (by decide) rfl) (C := RX12) (T := TX12) (N := 23) rfl inw_Model tyX12 tyX12_ok nmX12 4 (by decide) (r := 263) rfl rfl rfl rfl rfl wd537 en dX12_init_33 (fun H8 locs8 hw8 hS8 => ?_)
  clear hw7 hS7
  have hw8 : World E (shN 264) s8 H8 := hw8
  clear en
  refine z_at 36 rfl ?_
  exact cc_X12_init_1 hE hC hNT hin2 hr hlocks hb0 hz  hf _ _ ls hl hw8 hS8
