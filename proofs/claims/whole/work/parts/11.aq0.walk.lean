set_option maxHeartbeats 4000000 in
set_option maxRecDepth 100000 in
theorem m_X0_deadIfOver_17 (l : Launch) (E : Ev)   {s0 sz : St} {rz : Int32} (hf : f_X0_deadIfOver_17 s0 = some (rz, sz)) : MM l E sh2 yX0_deadIfOver cX0_deadIfOver 1 (some .int) (rmd 1) [.ref (E.2.2.1 17)] s0 (some (.int rz)) sz := by
  unfold f_X0_deadIfOver_17 at hf
  refine z_enter (by decide +kernel) (Nat.le_of_ble_eq_true rfl) ?_
  intro p e s m args below meth c ls hC hr hlocks hw hS hl
  have hC : Cx p s m args c cX0_deadIfOver 1 "FuseBox$Breaker" E := hC
  obtain ⟨hx, hb, hml, hown, hts, hTB⟩ := id hC
  have hl : lv_has ls 1 [(0, .ref (E.2.2.1 17))] := hl
  refine lv_iconst (v := 1) hx hb dX0_deadIfOver_0 (by decide) ?_
  exact z_iretE hC hlocks hw hS hf hr rfl dX0_deadIfOver_1
set_option maxHeartbeats 4000000 in
set_option maxRecDepth 100000 in
theorem m_X0_deadIfOver_18 (l : Launch) (E : Ev)   {s0 sz : St} {rz : Int32} (hf : f_X0_deadIfOver_18 s0 = some (rz, sz)) : MM l E sh2 yX0_deadIfOver cX0_deadIfOver 1 (some .int) (rmd 1) [.ref (E.2.2.1 18)] s0 (some (.int rz)) sz := by
  unfold f_X0_deadIfOver_18 at hf
  refine z_enter (by decide +kernel) (Nat.le_of_ble_eq_true rfl) ?_
  intro p e s m args below meth c ls hC hr hlocks hw hS hl
  have hC : Cx p s m args c cX0_deadIfOver 1 "FuseBox$Breaker" E := hC
  obtain ⟨hx, hb, hml, hown, hts, hTB⟩ := id hC
  have hl : lv_has ls 1 [(0, .ref (E.2.2.1 18))] := hl
  refine lv_iconst (v := 1) hx hb dX0_deadIfOver_0 (by decide) ?_
  exact z_iretE hC hlocks hw hS hf hr rfl dX0_deadIfOver_1
set_option maxHeartbeats 4000000 in
set_option maxRecDepth 100000 in
theorem m_X0_heatBehind_17 (l : Launch) (E : Ev) {x1 : Int32} {x2 : Int32}  {s0 sz : St} {rz : Int32} (hf : f_X0_heatBehind_17 x1 x2 s0 = some (rz, sz)) : MM l E sh2 yX0_heatBehind cX0_heatBehind 3 (some .int) (rmd 1) [.ref (E.2.2.1 17), .int x1, .int x2] s0 (some (.int rz)) sz := by
  unfold f_X0_heatBehind_17 at hf
  refine z_enter (by decide +kernel) (Nat.le_of_ble_eq_true rfl) ?_
  intro p e s m args below meth c ls hC hr hlocks hw hS hl
  have hC : Cx p s m args c cX0_heatBehind 3 "FuseBox$Breaker" E := hC
  obtain ⟨hx, hb, hml, hown, hts, hTB⟩ := id hC
  have hl : lv_has ls 3 [(0, .ref (E.2.2.1 17)), (1, .int x1), (2, .int x2)] := hl
  refine lv_iload_n hx hb dX0_heatBehind_0 rfl (lv_at hl 1 rfl) ?_
  exact z_iretE hC hlocks hw hS hf hr rfl dX0_heatBehind_1
set_option maxHeartbeats 4000000 in
set_option maxRecDepth 100000 in
theorem m_X0_heatBehind_18 (l : Launch) (E : Ev) {x1 : Int32} {x2 : Int32}  {s0 sz : St} {rz : Int32} (hf : f_X0_heatBehind_18 x1 x2 s0 = some (rz, sz)) : MM l E sh2 yX0_heatBehind cX0_heatBehind 3 (some .int) (rmd 1) [.ref (E.2.2.1 18), .int x1, .int x2] s0 (some (.int rz)) sz := by
  unfold f_X0_heatBehind_18 at hf
  refine z_enter (by decide +kernel) (Nat.le_of_ble_eq_true rfl) ?_
  intro p e s m args below meth c ls hC hr hlocks hw hS hl
  have hC : Cx p s m args c cX0_heatBehind 3 "FuseBox$Breaker" E := hC
  obtain ⟨hx, hb, hml, hown, hts, hTB⟩ := id hC
  have hl : lv_has ls 3 [(0, .ref (E.2.2.1 18)), (1, .int x1), (2, .int x2)] := hl
  refine lv_iload_n hx hb dX0_heatBehind_0 rfl (lv_at hl 1 rfl) ?_
  exact z_iretE hC hlocks hw hS hf hr rfl dX0_heatBehind_1
set_option maxHeartbeats 4000000 in
set_option maxRecDepth 100000 in
theorem m_X0_deadBehind_17 (l : Launch) (E : Ev) {x1 : Int32} {x2 : Int32} {x3 : Int32}  {s0 sz : St} {rz : Int32} (hf : f_X0_deadBehind_17 x1 x2 x3 s0 = some (rz, sz)) : MM l E sh2 yX0_deadBehind cX0_deadBehind 4 (some .int) (rmd 2) [.ref (E.2.2.1 17), .int x1, .int x2, .int x3] s0 (some (.int rz)) sz := by
  unfold f_X0_deadBehind_17 at hf
  refine z_enter (by decide +kernel) (Nat.le_of_ble_eq_true rfl) ?_
  intro p e s m args below meth c ls hC hr hlocks hw hS hl
  have hC : Cx p s m args c cX0_deadBehind 4 "FuseBox$Breaker" E := hC
  obtain ⟨hx, hb, hml, hown, hts, hTB⟩ := id hC
  have hl : lv_has ls 4 [(0, .ref (E.2.2.1 17)), (1, .int x1), (2, .int x2), (3, .int x3)] := hl
  refine lv_iload_n hx hb dX0_deadBehind_0 rfl (lv_at hl 2 rfl) ?_
  refine lv_iload_n hx hb dX0_deadBehind_1 rfl (lv_at hl 3 rfl) ?_
  obtain ⟨j13, ej13, hf⟩ := ok_lt hf
  have J13 : ∀ (k_1 : Int32) (s_2 : St), j13 k_1 s_2 = some (rz, sz) → ∀ (H : Heap) (locs : List Loc) (ls : Array Slot), lv_has ls 4 [] → World E sh2 s_2 H → va_S E.2.2.2 s.heap H locs → W p l e (rmd 2) s m args below meth c H locs 0 0 (MQ below (QW E sh2 (some (.int rz)) sz) args s 0 0 E.2.2.2) (F0 m 13 ls [.int k_1]) := by
    intro k_1 s_2 hf H locs ls hl hw hS
    subst ej13
    exact z_iretE hC hlocks hw hS hf hr rfl dX0_deadBehind_13
  clear ej13
  have hif := ok_if hf
  refine lv_icmp_le (tgt := 12) hx hb dX0_deadBehind_2 (by decide) (fun hcd => ?_) (fun hcd => ?_)
  · have hf := hif.1 hcd
    clear hif
    refine lv_iconst (v := 0) hx hb dX0_deadBehind_12 (by decide) ?_
    exact J13 _ _ hf _ _ ls (lv_sub hl [] rfl) hw hS
  · have hf := hif.2 hcd
    clear hif
    refine lv_aload_n hx hb dX0_deadBehind_5 rfl (lv_at hl 0 rfl) ?_
    obtain ⟨r_4, s_3, hc, hf⟩ := ok_bd hf
    refine z_cV hC hl.1 hw hS (As := []) (rest := []) (m_X0_deadIfOver_17 l E  hc) (ci := 0) (ks := []) rfl rfl gc0 gc1 ⟨Nat.le_of_ble_eq_true rfl, Nat.le_of_ble_eq_true rfl⟩ ⟨Nat.le_of_ble_eq_true rfl, Nat.le_of_ble_eq_true rfl⟩ rfl rfl (Nat.le_of_ble_eq_true rfl) dX0_deadBehind_6 (fun H locs hw hS => ?_)
    clear hc
    refine lv_goto (tgt := 13) hx hb dX0_deadBehind_9 (by decide) ?_
    exact J13 _ _ hf _ _ ls (lv_sub hl [] rfl) hw hS
set_option maxHeartbeats 4000000 in
set_option maxRecDepth 100000 in
theorem m_X1_deadIfOver_18 (l : Launch) (E : Ev)   {s0 sz : St} {rz : Int32} (hf : f_X1_deadIfOver_18 s0 = some (rz, sz)) : MM l E sh2 yX1_deadIfOver cX1_deadIfOver 1 (some .int) (rmd 1) [.ref (E.2.2.1 18)] s0 (some (.int rz)) sz := by
  unfold f_X1_deadIfOver_18 at hf
  refine z_enter (by decide +kernel) (Nat.le_of_ble_eq_true rfl) ?_
  intro p e s m args below meth c ls hC hr hlocks hw hS hl
  have hC : Cx p s m args c cX1_deadIfOver 1 "FuseBox$Coil" E := hC
  obtain ⟨hx, hb, hml, hown, hts, hTB⟩ := id hC
  have hl : lv_has ls 1 [(0, .ref (E.2.2.1 18))] := hl
  refine lv_iconst (v := 3) hx hb dX1_deadIfOver_0 (by decide) ?_
  exact z_iretE hC hlocks hw hS hf hr rfl dX1_deadIfOver_1
set_option maxHeartbeats 4000000 in
set_option maxRecDepth 100000 in
theorem m_X0_deadBehind_18 (l : Launch) (E : Ev) {x1 : Int32} {x2 : Int32} {x3 : Int32}  {s0 sz : St} {rz : Int32} (hf : f_X0_deadBehind_18 x1 x2 x3 s0 = some (rz, sz)) : MM l E sh2 yX0_deadBehind cX0_deadBehind 4 (some .int) (rmd 2) [.ref (E.2.2.1 18), .int x1, .int x2, .int x3] s0 (some (.int rz)) sz := by
  unfold f_X0_deadBehind_18 at hf
  refine z_enter (by decide +kernel) (Nat.le_of_ble_eq_true rfl) ?_
  intro p e s m args below meth c ls hC hr hlocks hw hS hl
  have hC : Cx p s m args c cX0_deadBehind 4 "FuseBox$Breaker" E := hC
  obtain ⟨hx, hb, hml, hown, hts, hTB⟩ := id hC
  have hl : lv_has ls 4 [(0, .ref (E.2.2.1 18)), (1, .int x1), (2, .int x2), (3, .int x3)] := hl
  refine lv_iload_n hx hb dX0_deadBehind_0 rfl (lv_at hl 2 rfl) ?_
  refine lv_iload_n hx hb dX0_deadBehind_1 rfl (lv_at hl 3 rfl) ?_
  obtain ⟨j13, ej13, hf⟩ := ok_lt hf
  have J13 : ∀ (k_1 : Int32) (s_2 : St), j13 k_1 s_2 = some (rz, sz) → ∀ (H : Heap) (locs : List Loc) (ls : Array Slot), lv_has ls 4 [] → World E sh2 s_2 H → va_S E.2.2.2 s.heap H locs → W p l e (rmd 2) s m args below meth c H locs 0 0 (MQ below (QW E sh2 (some (.int rz)) sz) args s 0 0 E.2.2.2) (F0 m 13 ls [.int k_1]) := by
    intro k_1 s_2 hf H locs ls hl hw hS
    subst ej13
    exact z_iretE hC hlocks hw hS hf hr rfl dX0_deadBehind_13
  clear ej13
  have hif := ok_if hf
  refine lv_icmp_le (tgt := 12) hx hb dX0_deadBehind_2 (by decide) (fun hcd => ?_) (fun hcd => ?_)
  · have hf := hif.1 hcd
    clear hif
    refine lv_iconst (v := 0) hx hb dX0_deadBehind_12 (by decide) ?_
    exact J13 _ _ hf _ _ ls (lv_sub hl [] rfl) hw hS
  · have hf := hif.2 hcd
    clear hif
    refine lv_aload_n hx hb dX0_deadBehind_5 rfl (lv_at hl 0 rfl) ?_
    obtain ⟨r_4, s_3, hc, hf⟩ := ok_bd hf
    refine z_cU hC hl.1 hw hS (As := []) (rest := []) (m_X1_deadIfOver_18 l E  hc) (ci := 1) (ks := []) rfl rfl (C := "FuseBox$Coil") (va_cwO 0 hts gc2 rfl rfl rfl wd4 gc3 ⟨Nat.le_of_ble_eq_true rfl, Nat.le_of_ble_eq_true rfl⟩) ⟨Nat.le_of_ble_eq_true rfl, Nat.le_of_ble_eq_true rfl⟩ rfl rfl (Nat.le_of_ble_eq_true rfl) dX0_deadBehind_6 (fun H locs hw hS => ?_)
    clear hc
    refine lv_goto (tgt := 13) hx hb dX0_deadBehind_9 (by decide) ?_
    exact J13 _ _ hf _ _ ls (lv_sub hl [] rfl) hw hS
set_option maxHeartbeats 4000000 in
set_option maxRecDepth 100000 in
theorem m_X9_leave (l : Launch) (E : Ev) {x1 : Int32}  {s0 sz : St} (hf : f_X9_leave x1 s0 = some sz) : MM l E sh2 yX9_leave cX9_leave 2 none (rmd 1) [.ref (E.2.2.1 11), .int x1] s0 none sz := by
  unfold f_X9_leave at hf
  refine z_enter (by decide +kernel) (Nat.le_of_ble_eq_true rfl) ?_
  intro p e s m args below meth c ls hC hr hlocks hw hS hl
  have hC : Cx p s m args c cX9_leave 2 "FuseBox$Trace" E := hC
  obtain ⟨hx, hb, hml, hown, hts, hTB⟩ := id hC
  have hl : lv_has ls 2 [(0, .ref (E.2.2.1 11)), (1, .int x1)] := hl
  refine lv_aload_n hx hb dX9_leave_0 rfl (lv_at hl 0 rfl) ?_
  refine gTrace_size hC hw wd10 dX9_leave_1 ?_
  refine lv_bipush (v := 16) hx hb dX9_leave_4 (by decide) ?_
  obtain ⟨j29, ej29, hf⟩ := ok_lt hf
  have J29 : ∀ (s_1 : St), j29 s_1 = some sz → ∀ (H : Heap) (locs : List Loc) (ls : Array Slot), lv_has ls 2 [] → World E sh2 s_1 H → va_S E.2.2.2 s.heap H locs → W p l e (rmd 1) s m args below meth c H locs 0 0 (MQ below (QW E sh2 none sz) args s 0 0 E.2.2.2) (F0 m 29 ls []) := by
    intro s_1 hf H locs ls hl hw hS
    subst ej29
    exact z_vretE hC hlocks hw hS hf hr dX9_leave_29
  clear ej29
  have hif := ok_if hf
  refine lv_icmp_ge (tgt := 29) hx hb dX9_leave_6 (by decide) (fun hcd => ?_) (fun hcd => ?_)
  · have hf := hif.1 hcd
    clear hif
    exact J29 _ hf _ _ ls (lv_sub hl [] rfl) hw hS
  · have hf := hif.2 hcd
    clear hif
    refine lv_aload_n hx hb dX9_leave_9 rfl (lv_at hl 0 rfl) ?_
    refine gTrace_bodies hC hw wd11 dX9_leave_10 ?_
    refine lv_aload_n hx hb dX9_leave_13 rfl (lv_at hl 0 rfl) ?_
    refine gTrace_size hC hw wd10 dX9_leave_14 ?_
    refine lv_iload_n hx hb dX9_leave_17 rfl (lv_at hl 1 rfl) ?_
    obtain ⟨hin, hf⟩ := ok_chk hf
    obtain ⟨s_2, en, hf⟩ := ok_lt hf
    refine z_iast hC hw hS rfl hin en dX9_leave_18 (fun H locs hw hS => ?_)
    clear en
    refine lv_aload_n hx hb dX9_leave_19 rfl (lv_at hl 0 rfl) ?_
    refine lv_dup hx hb dX9_leave_20 rfl ?_
    refine gTrace_size hC hw wd10 dX9_leave_21 ?_
    refine lv_iconst (v := 1) hx hb dX9_leave_24 (by decide) ?_
    refine lv_iadd hx hb dX9_leave_25 ?_
    obtain ⟨s_3, en, hf⟩ := ok_lt hf
    refine pTrace_size hC hw hS wd10 en dX9_leave_26 (fun H locs hw hS => ?_)
    clear en
    exact J29 _ hf _ _ ls (lv_sub hl [] rfl) hw hS
set_option maxHeartbeats 4000000 in
set_option maxRecDepth 100000 in
theorem m_X2_sizeOf_17 (l : Launch) (E : Ev) {a1 : Nat} {x2 : Int32} (t1 : isH a1) {s0 sz : St} {rz : Int32} (hf : f_X2_sizeOf_17 a1 x2 s0 = some (rz, sz)) : MM l E sh2 yX2_sizeOf cX2_sizeOf 4 (some .int) (rmd 2) [.ref (E.2.2.1 17), .ref (E.2.2.1 a1), .int x2, .ref (E.2.2.1 11)] s0 (some (.int rz)) sz := by
  unfold f_X2_sizeOf_17 at hf
  refine z_enter (by decide +kernel) (Nat.le_of_ble_eq_true rfl) ?_
  intro p e s m args below meth c ls hC hr hlocks hw hS hl
  have hC : Cx p s m args c cX2_sizeOf 4 "FuseBox$Fuse" E := hC
  obtain ⟨hx, hb, hml, hown, hts, hTB⟩ := id hC
  have hl : lv_has ls 4 [(0, .ref (E.2.2.1 17)), (1, .ref (E.2.2.1 a1)), (2, .int x2), (3, .ref (E.2.2.1 11))] := hl
  refine lv_aload_n hx hb dX2_sizeOf_0 rfl (lv_at hl 3 rfl) ?_
  refine lv_bipush (v := 10) hx hb dX2_sizeOf_1 (by decide) ?_
  obtain ⟨s_1, hc, hf⟩ := ok_bind hf
  refine z_cV hC hl.1 hw hS (As := [.int (10 : Int32)]) (rest := []) (m_X9_leave l E  hc) rfl rfl gc4 gc5 ⟨Nat.le_of_ble_eq_true rfl, Nat.le_of_ble_eq_true rfl⟩ ⟨Nat.le_of_ble_eq_true rfl, Nat.le_of_ble_eq_true rfl⟩ rfl rfl (Nat.le_of_ble_eq_true rfl) dX2_sizeOf_3 (fun H locs hw hS => ?_)
  clear hc
  refine lv_aload_n hx hb dX2_sizeOf_6 rfl (lv_at hl 1 rfl) ?_
  refine gHouse_rate hC hw t1 wd17 dX2_sizeOf_7 ?_
  refine lv_iload_n hx hb dX2_sizeOf_10 rfl (lv_at hl 2 rfl) ?_
  obtain ⟨hin, hf⟩ := ok_chk hf
  refine z_iald hC hw (sH t1).2.2.1 hin dX2_sizeOf_11 ?_
  exact z_iretE hC hlocks hw hS hf hr rfl dX2_sizeOf_12
set_option maxHeartbeats 4000000 in
set_option maxRecDepth 100000 in
theorem m_X0_sizeOf_17 (l : Launch) (E : Ev) {a1 : Nat} {x2 : Int32} (t1 : isH a1) {s0 sz : St} {rz : Int32} (hf : f_X0_sizeOf_17 a1 x2 s0 = some (rz, sz)) : MM l E sh2 yX0_sizeOf cX0_sizeOf 4 (some .int) (rmd 3) [.ref (E.2.2.1 17), .ref (E.2.2.1 a1), .int x2, .ref (E.2.2.1 11)] s0 (some (.int rz)) sz := by
  unfold f_X0_sizeOf_17 at hf
  refine z_enter (by decide +kernel) (Nat.le_of_ble_eq_true rfl) ?_
  intro p e s m args below meth c ls hC hr hlocks hw hS hl
  have hC : Cx p s m args c cX0_sizeOf 4 "FuseBox$Breaker" E := hC
  obtain ⟨hx, hb, hml, hown, hts, hTB⟩ := id hC
  have hl : lv_has ls 4 [(0, .ref (E.2.2.1 17)), (1, .ref (E.2.2.1 a1)), (2, .int x2), (3, .ref (E.2.2.1 11))] := hl
  refine lv_aload_n hx hb dX0_sizeOf_0 rfl (lv_at hl 3 rfl) ?_
  refine lv_bipush (v := 13) hx hb dX0_sizeOf_1 (by decide) ?_
  obtain ⟨s_1, hc, hf⟩ := ok_bind hf
  refine z_cV hC hl.1 hw hS (As := [.int (13 : Int32)]) (rest := []) (m_X9_leave l E  hc) rfl rfl gc6 gc5 ⟨Nat.le_of_ble_eq_true rfl, Nat.le_of_ble_eq_true rfl⟩ ⟨Nat.le_of_ble_eq_true rfl, Nat.le_of_ble_eq_true rfl⟩ rfl rfl (Nat.le_of_ble_eq_true rfl) dX0_sizeOf_3 (fun H locs hw hS => ?_)
  clear hc
  refine lv_aload_n hx hb dX0_sizeOf_6 rfl (lv_at hl 0 rfl) ?_
  refine lv_aload_n hx hb dX0_sizeOf_7 rfl (lv_at hl 1 rfl) ?_
  refine lv_iload_n hx hb dX0_sizeOf_8 rfl (lv_at hl 2 rfl) ?_
  refine lv_aload_n hx hb dX0_sizeOf_9 rfl (lv_at hl 3 rfl) ?_
  obtain ⟨r_3, s_2, hc, hf⟩ := ok_bd hf
  refine z_cSU hC hl.1 hw hS (As := [.ref (E.2.2.1 a1), .int x2, .ref (E.2.2.1 11)]) (rest := []) (m_X2_sizeOf_17 l E t1 hc) (ci := 0) (ks := []) rfl rfl gc7 gc8 ⟨Nat.le_of_ble_eq_true rfl, Nat.le_of_ble_eq_true rfl⟩ ⟨Nat.le_of_ble_eq_true rfl, Nat.le_of_ble_eq_true rfl⟩ rfl rfl (Nat.le_of_ble_eq_true rfl) dX0_sizeOf_10 (fun H locs hw hS => ?_)
  clear hc
  refine lv_bipush (v := 100) hx hb dX0_sizeOf_13 (by decide) ?_
  refine lv_isub hx hb dX0_sizeOf_15 ?_
  exact z_iretE hC hlocks hw hS hf hr rfl dX0_sizeOf_16
set_option maxHeartbeats 4000000 in
set_option maxRecDepth 100000 in
theorem m_X2_sizeOf_18 (l : Launch) (E : Ev) {a1 : Nat} {x2 : Int32} (t1 : isH a1) {s0 sz : St} {rz : Int32} (hf : f_X2_sizeOf_18 a1 x2 s0 = some (rz, sz)) : MM l E sh2 yX2_sizeOf cX2_sizeOf 4 (some .int) (rmd 2) [.ref (E.2.2.1 18), .ref (E.2.2.1 a1), .int x2, .ref (E.2.2.1 11)] s0 (some (.int rz)) sz := by
  unfold f_X2_sizeOf_18 at hf
  refine z_enter (by decide +kernel) (Nat.le_of_ble_eq_true rfl) ?_
  intro p e s m args below meth c ls hC hr hlocks hw hS hl
  have hC : Cx p s m args c cX2_sizeOf 4 "FuseBox$Fuse" E := hC
  obtain ⟨hx, hb, hml, hown, hts, hTB⟩ := id hC
  have hl : lv_has ls 4 [(0, .ref (E.2.2.1 18)), (1, .ref (E.2.2.1 a1)), (2, .int x2), (3, .ref (E.2.2.1 11))] := hl
  refine lv_aload_n hx hb dX2_sizeOf_0 rfl (lv_at hl 3 rfl) ?_
  refine lv_bipush (v := 10) hx hb dX2_sizeOf_1 (by decide) ?_
  obtain ⟨s_1, hc, hf⟩ := ok_bind hf
  refine z_cV hC hl.1 hw hS (As := [.int (10 : Int32)]) (rest := []) (m_X9_leave l E  hc) rfl rfl gc4 gc5 ⟨Nat.le_of_ble_eq_true rfl, Nat.le_of_ble_eq_true rfl⟩ ⟨Nat.le_of_ble_eq_true rfl, Nat.le_of_ble_eq_true rfl⟩ rfl rfl (Nat.le_of_ble_eq_true rfl) dX2_sizeOf_3 (fun H locs hw hS => ?_)
  clear hc
  refine lv_aload_n hx hb dX2_sizeOf_6 rfl (lv_at hl 1 rfl) ?_
  refine gHouse_rate hC hw t1 wd17 dX2_sizeOf_7 ?_
  refine lv_iload_n hx hb dX2_sizeOf_10 rfl (lv_at hl 2 rfl) ?_
  obtain ⟨hin, hf⟩ := ok_chk hf
  refine z_iald hC hw (sH t1).2.2.1 hin dX2_sizeOf_11 ?_
  exact z_iretE hC hlocks hw hS hf hr rfl dX2_sizeOf_12
set_option maxHeartbeats 4000000 in
set_option maxRecDepth 100000 in
theorem m_X0_sizeOf_18 (l : Launch) (E : Ev) {a1 : Nat} {x2 : Int32} (t1 : isH a1) {s0 sz : St} {rz : Int32} (hf : f_X0_sizeOf_18 a1 x2 s0 = some (rz, sz)) : MM l E sh2 yX0_sizeOf cX0_sizeOf 4 (some .int) (rmd 3) [.ref (E.2.2.1 18), .ref (E.2.2.1 a1), .int x2, .ref (E.2.2.1 11)] s0 (some (.int rz)) sz := by
  unfold f_X0_sizeOf_18 at hf
  refine z_enter (by decide +kernel) (Nat.le_of_ble_eq_true rfl) ?_
  intro p e s m args below meth c ls hC hr hlocks hw hS hl
  have hC : Cx p s m args c cX0_sizeOf 4 "FuseBox$Breaker" E := hC
  obtain ⟨hx, hb, hml, hown, hts, hTB⟩ := id hC
  have hl : lv_has ls 4 [(0, .ref (E.2.2.1 18)), (1, .ref (E.2.2.1 a1)), (2, .int x2), (3, .ref (E.2.2.1 11))] := hl
  refine lv_aload_n hx hb dX0_sizeOf_0 rfl (lv_at hl 3 rfl) ?_
  refine lv_bipush (v := 13) hx hb dX0_sizeOf_1 (by decide) ?_
  obtain ⟨s_1, hc, hf⟩ := ok_bind hf
  refine z_cV hC hl.1 hw hS (As := [.int (13 : Int32)]) (rest := []) (m_X9_leave l E  hc) rfl rfl gc6 gc5 ⟨Nat.le_of_ble_eq_true rfl, Nat.le_of_ble_eq_true rfl⟩ ⟨Nat.le_of_ble_eq_true rfl, Nat.le_of_ble_eq_true rfl⟩ rfl rfl (Nat.le_of_ble_eq_true rfl) dX0_sizeOf_3 (fun H locs hw hS => ?_)
  clear hc
  refine lv_aload_n hx hb dX0_sizeOf_6 rfl (lv_at hl 0 rfl) ?_
  refine lv_aload_n hx hb dX0_sizeOf_7 rfl (lv_at hl 1 rfl) ?_
  refine lv_iload_n hx hb dX0_sizeOf_8 rfl (lv_at hl 2 rfl) ?_
  refine lv_aload_n hx hb dX0_sizeOf_9 rfl (lv_at hl 3 rfl) ?_
  obtain ⟨r_3, s_2, hc, hf⟩ := ok_bd hf
  refine z_cSU hC hl.1 hw hS (As := [.ref (E.2.2.1 a1), .int x2, .ref (E.2.2.1 11)]) (rest := []) (m_X2_sizeOf_18 l E t1 hc) (ci := 1) (ks := []) rfl rfl gc7 gc8 ⟨Nat.le_of_ble_eq_true rfl, Nat.le_of_ble_eq_true rfl⟩ ⟨Nat.le_of_ble_eq_true rfl, Nat.le_of_ble_eq_true rfl⟩ rfl rfl (Nat.le_of_ble_eq_true rfl) dX0_sizeOf_10 (fun H locs hw hS => ?_)
  clear hc
  refine lv_bipush (v := 100) hx hb dX0_sizeOf_13 (by decide) ?_
  refine lv_isub hx hb dX0_sizeOf_15 ?_
  exact z_iretE hC hlocks hw hS hf hr rfl dX0_sizeOf_16
set_option maxHeartbeats 4000000 in
set_option maxRecDepth 100000 in
theorem m_X2_markOf_17 (l : Launch) (E : Ev) {a1 : Nat} {x2 : Int32} (t1 : isH a1) {s0 sz : St} {rz : Int32} (hf : f_X2_markOf_17 a1 x2 s0 = some (rz, sz)) : MM l E sh2 yX2_markOf cX2_markOf 4 (some .int) (rmd 2) [.ref (E.2.2.1 17), .ref (E.2.2.1 a1), .int x2, .ref (E.2.2.1 11)] s0 (some (.int rz)) sz := by
  unfold f_X2_markOf_17 at hf
  refine z_enter (by decide +kernel) (Nat.le_of_ble_eq_true rfl) ?_
  intro p e s m args below meth c ls hC hr hlocks hw hS hl
  have hC : Cx p s m args c cX2_markOf 4 "FuseBox$Fuse" E := hC
  obtain ⟨hx, hb, hml, hown, hts, hTB⟩ := id hC
  have hl : lv_has ls 4 [(0, .ref (E.2.2.1 17)), (1, .ref (E.2.2.1 a1)), (2, .int x2), (3, .ref (E.2.2.1 11))] := hl
  refine lv_aload_n hx hb dX2_markOf_0 rfl (lv_at hl 3 rfl) ?_
  refine lv_bipush (v := 20) hx hb dX2_markOf_1 (by decide) ?_
  obtain ⟨s_1, hc, hf⟩ := ok_bind hf
  refine z_cV hC hl.1 hw hS (As := [.int (20 : Int32)]) (rest := []) (m_X9_leave l E  hc) rfl rfl gc4 gc5 ⟨Nat.le_of_ble_eq_true rfl, Nat.le_of_ble_eq_true rfl⟩ ⟨Nat.le_of_ble_eq_true rfl, Nat.le_of_ble_eq_true rfl⟩ rfl rfl (Nat.le_of_ble_eq_true rfl) dX2_markOf_3 (fun H locs hw hS => ?_)
  clear hc
  refine lv_iload_n hx hb dX2_markOf_6 rfl (lv_at hl 2 rfl) ?_
  exact z_iretE hC hlocks hw hS hf hr rfl dX2_markOf_7
set_option maxHeartbeats 4000000 in
set_option maxRecDepth 100000 in
theorem m_X0_markOf_17 (l : Launch) (E : Ev) {a1 : Nat} {x2 : Int32} (t1 : isH a1) {s0 sz : St} {rz : Int32} (hf : f_X0_markOf_17 a1 x2 s0 = some (rz, sz)) : MM l E sh2 yX0_markOf cX0_markOf 5 (some .int) (rmd 4) [.ref (E.2.2.1 17), .ref (E.2.2.1 a1), .int x2, .ref (E.2.2.1 11)] s0 (some (.int rz)) sz := by
  unfold f_X0_markOf_17 at hf
  refine z_enter (by decide +kernel) (Nat.le_of_ble_eq_true rfl) ?_
  intro p e s m args below meth c ls hC hr hlocks hw hS hl
  have hC : Cx p s m args c cX0_markOf 5 "FuseBox$Breaker" E := hC
  obtain ⟨hx, hb, hml, hown, hts, hTB⟩ := id hC
  have hl : lv_has ls 5 [(0, .ref (E.2.2.1 17)), (1, .ref (E.2.2.1 a1)), (2, .int x2), (3, .ref (E.2.2.1 11))] := hl
  refine lv_aload_n hx hb dX0_markOf_0 rfl (lv_at hl 3 rfl) ?_
  refine lv_bipush (v := 23) hx hb dX0_markOf_1 (by decide) ?_
  obtain ⟨s_1, hc, hf⟩ := ok_bind hf
  refine z_cV hC hl.1 hw hS (As := [.int (23 : Int32)]) (rest := []) (m_X9_leave l E  hc) rfl rfl gc6 gc5 ⟨Nat.le_of_ble_eq_true rfl, Nat.le_of_ble_eq_true rfl⟩ ⟨Nat.le_of_ble_eq_true rfl, Nat.le_of_ble_eq_true rfl⟩ rfl rfl (Nat.le_of_ble_eq_true rfl) dX0_markOf_3 (fun H locs hw hS => ?_)
  clear hc
  refine lv_aload_n hx hb dX0_markOf_6 rfl (lv_at hl 0 rfl) ?_
  refine lv_aload_n hx hb dX0_markOf_7 rfl (lv_at hl 1 rfl) ?_
  refine lv_iload_n hx hb dX0_markOf_8 rfl (lv_at hl 2 rfl) ?_
  refine lv_aload_n hx hb dX0_markOf_9 rfl (lv_at hl 3 rfl) ?_
  obtain ⟨r_3, s_2, hc, hf⟩ := ok_bd hf
  refine z_cSU hC hl.1 hw hS (As := [.ref (E.2.2.1 a1), .int x2, .ref (E.2.2.1 11)]) (rest := []) (m_X2_markOf_17 l E t1 hc) (ci := 0) (ks := []) rfl rfl gc9 gc10 ⟨Nat.le_of_ble_eq_true rfl, Nat.le_of_ble_eq_true rfl⟩ ⟨Nat.le_of_ble_eq_true rfl, Nat.le_of_ble_eq_true rfl⟩ rfl rfl (Nat.le_of_ble_eq_true rfl) dX0_markOf_10 (fun H locs hw hS => ?_)
  clear hc
  refine lv_istore (lv' := [(4, .int r_3), (0, .ref (E.2.2.1 17)), (1, .ref (E.2.2.1 a1)), (2, .int x2), (3, .ref (E.2.2.1 11))]) hx hb dX0_markOf_13 hl (by decide) rfl (fun ls hl => ?_)
  refine lv_iload hx hb dX0_markOf_15 (lv_at hl 0 rfl) ?_
  refine lv_aload_n hx hb dX0_markOf_17 rfl (lv_at hl 1 rfl) ?_
  refine lv_aload_n hx hb dX0_markOf_18 rfl (lv_at hl 2 rfl) ?_
  refine lv_iload_n hx hb dX0_markOf_19 rfl (lv_at hl 3 rfl) ?_
  refine lv_aload_n hx hb dX0_markOf_20 rfl (lv_at hl 4 rfl) ?_
  obtain ⟨r_5, s_4, hc, hf⟩ := ok_bd hf
  refine z_cV hC hl.1 hw hS (As := [.ref (E.2.2.1 a1), .int x2, .ref (E.2.2.1 11)]) (rest := [.int r_3]) (m_X0_sizeOf_17 l E t1 hc) (ci := 0) (ks := []) rfl rfl gc11 gc12 ⟨Nat.le_of_ble_eq_true rfl, Nat.le_of_ble_eq_true rfl⟩ ⟨Nat.le_of_ble_eq_true rfl, Nat.le_of_ble_eq_true rfl⟩ rfl rfl (Nat.le_of_ble_eq_true rfl) dX0_markOf_21 (fun H locs hw hS => ?_)
  clear hc
  refine lv_isub hx hb dX0_markOf_24 ?_
  exact z_iretE hC hlocks hw hS hf hr rfl dX0_markOf_25
set_option maxHeartbeats 4000000 in
set_option maxRecDepth 100000 in
theorem m_X2_markOf_18 (l : Launch) (E : Ev) {a1 : Nat} {x2 : Int32} (t1 : isH a1) {s0 sz : St} {rz : Int32} (hf : f_X2_markOf_18 a1 x2 s0 = some (rz, sz)) : MM l E sh2 yX2_markOf cX2_markOf 4 (some .int) (rmd 2) [.ref (E.2.2.1 18), .ref (E.2.2.1 a1), .int x2, .ref (E.2.2.1 11)] s0 (some (.int rz)) sz := by
  unfold f_X2_markOf_18 at hf
  refine z_enter (by decide +kernel) (Nat.le_of_ble_eq_true rfl) ?_
  intro p e s m args below meth c ls hC hr hlocks hw hS hl
  have hC : Cx p s m args c cX2_markOf 4 "FuseBox$Fuse" E := hC
  obtain ⟨hx, hb, hml, hown, hts, hTB⟩ := id hC
  have hl : lv_has ls 4 [(0, .ref (E.2.2.1 18)), (1, .ref (E.2.2.1 a1)), (2, .int x2), (3, .ref (E.2.2.1 11))] := hl
  refine lv_aload_n hx hb dX2_markOf_0 rfl (lv_at hl 3 rfl) ?_
  refine lv_bipush (v := 20) hx hb dX2_markOf_1 (by decide) ?_
  obtain ⟨s_1, hc, hf⟩ := ok_bind hf
  refine z_cV hC hl.1 hw hS (As := [.int (20 : Int32)]) (rest := []) (m_X9_leave l E  hc) rfl rfl gc4 gc5 ⟨Nat.le_of_ble_eq_true rfl, Nat.le_of_ble_eq_true rfl⟩ ⟨Nat.le_of_ble_eq_true rfl, Nat.le_of_ble_eq_true rfl⟩ rfl rfl (Nat.le_of_ble_eq_true rfl) dX2_markOf_3 (fun H locs hw hS => ?_)
  clear hc
  refine lv_iload_n hx hb dX2_markOf_6 rfl (lv_at hl 2 rfl) ?_
  exact z_iretE hC hlocks hw hS hf hr rfl dX2_markOf_7
set_option maxHeartbeats 4000000 in
set_option maxRecDepth 100000 in
theorem m_X1_sizeOf_18 (l : Launch) (E : Ev) {a1 : Nat} {x2 : Int32} (t1 : isH a1) {s0 sz : St} {rz : Int32} (hf : f_X1_sizeOf_18 a1 x2 s0 = some (rz, sz)) : MM l E sh2 yX1_sizeOf cX1_sizeOf 4 (some .int) (rmd 4) [.ref (E.2.2.1 18), .ref (E.2.2.1 a1), .int x2, .ref (E.2.2.1 11)] s0 (some (.int rz)) sz := by
  unfold f_X1_sizeOf_18 at hf
  refine z_enter (by decide +kernel) (Nat.le_of_ble_eq_true rfl) ?_
  intro p e s m args below meth c ls hC hr hlocks hw hS hl
  have hC : Cx p s m args c cX1_sizeOf 4 "FuseBox$Coil" E := hC
  obtain ⟨hx, hb, hml, hown, hts, hTB⟩ := id hC
  have hl : lv_has ls 4 [(0, .ref (E.2.2.1 18)), (1, .ref (E.2.2.1 a1)), (2, .int x2), (3, .ref (E.2.2.1 11))] := hl
  refine lv_aload_n hx hb dX1_sizeOf_0 rfl (lv_at hl 3 rfl) ?_
  refine lv_bipush (v := 14) hx hb dX1_sizeOf_1 (by decide) ?_
  obtain ⟨s_1, hc, hf⟩ := ok_bind hf
  refine z_cV hC hl.1 hw hS (As := [.int (14 : Int32)]) (rest := []) (m_X9_leave l E  hc) rfl rfl gc13 gc5 ⟨Nat.le_of_ble_eq_true rfl, Nat.le_of_ble_eq_true rfl⟩ ⟨Nat.le_of_ble_eq_true rfl, Nat.le_of_ble_eq_true rfl⟩ rfl rfl (Nat.le_of_ble_eq_true rfl) dX1_sizeOf_3 (fun H locs hw hS => ?_)
  clear hc
  refine lv_iconst (v := 2) hx hb dX1_sizeOf_6 (by decide) ?_
  refine lv_aload_n hx hb dX1_sizeOf_7 rfl (lv_at hl 0 rfl) ?_
  refine lv_aload_n hx hb dX1_sizeOf_8 rfl (lv_at hl 1 rfl) ?_
  refine lv_iload_n hx hb dX1_sizeOf_9 rfl (lv_at hl 2 rfl) ?_
  refine lv_aload_n hx hb dX1_sizeOf_10 rfl (lv_at hl 3 rfl) ?_
  obtain ⟨r_3, s_2, hc, hf⟩ := ok_bd hf
  refine z_cSU hC hl.1 hw hS (As := [.ref (E.2.2.1 a1), .int x2, .ref (E.2.2.1 11)]) (rest := [.int (2 : Int32)]) (m_X0_sizeOf_18 l E t1 hc) (ci := 1) (ks := []) rfl rfl gc14 gc15 ⟨Nat.le_of_ble_eq_true rfl, Nat.le_of_ble_eq_true rfl⟩ ⟨Nat.le_of_ble_eq_true rfl, Nat.le_of_ble_eq_true rfl⟩ rfl rfl (Nat.le_of_ble_eq_true rfl) dX1_sizeOf_11 (fun H locs hw hS => ?_)
  clear hc
  refine lv_imul hx hb dX1_sizeOf_14 ?_
  exact z_iretE hC hlocks hw hS hf hr rfl dX1_sizeOf_15
set_option maxHeartbeats 4000000 in
set_option maxRecDepth 100000 in
theorem m_X0_markOf_18 (l : Launch) (E : Ev) {a1 : Nat} {x2 : Int32} (t1 : isH a1) {s0 sz : St} {rz : Int32} (hf : f_X0_markOf_18 a1 x2 s0 = some (rz, sz)) : MM l E sh2 yX0_markOf cX0_markOf 5 (some .int) (rmd 5) [.ref (E.2.2.1 18), .ref (E.2.2.1 a1), .int x2, .ref (E.2.2.1 11)] s0 (some (.int rz)) sz := by
  unfold f_X0_markOf_18 at hf
  refine z_enter (by decide +kernel) (Nat.le_of_ble_eq_true rfl) ?_
  intro p e s m args below meth c ls hC hr hlocks hw hS hl
  have hC : Cx p s m args c cX0_markOf 5 "FuseBox$Breaker" E := hC
  obtain ⟨hx, hb, hml, hown, hts, hTB⟩ := id hC
  have hl : lv_has ls 5 [(0, .ref (E.2.2.1 18)), (1, .ref (E.2.2.1 a1)), (2, .int x2), (3, .ref (E.2.2.1 11))] := hl
  refine lv_aload_n hx hb dX0_markOf_0 rfl (lv_at hl 3 rfl) ?_
  refine lv_bipush (v := 23) hx hb dX0_markOf_1 (by decide) ?_
  obtain ⟨s_1, hc, hf⟩ := ok_bind hf
  refine z_cV hC hl.1 hw hS (As := [.int (23 : Int32)]) (rest := []) (m_X9_leave l E  hc) rfl rfl gc6 gc5 ⟨Nat.le_of_ble_eq_true rfl, Nat.le_of_ble_eq_true rfl⟩ ⟨Nat.le_of_ble_eq_true rfl, Nat.le_of_ble_eq_true rfl⟩ rfl rfl (Nat.le_of_ble_eq_true rfl) dX0_markOf_3 (fun H locs hw hS => ?_)
  clear hc
  refine lv_aload_n hx hb dX0_markOf_6 rfl (lv_at hl 0 rfl) ?_
  refine lv_aload_n hx hb dX0_markOf_7 rfl (lv_at hl 1 rfl) ?_
  refine lv_iload_n hx hb dX0_markOf_8 rfl (lv_at hl 2 rfl) ?_
  refine lv_aload_n hx hb dX0_markOf_9 rfl (lv_at hl 3 rfl) ?_
  obtain ⟨r_3, s_2, hc, hf⟩ := ok_bd hf
  refine z_cSU hC hl.1 hw hS (As := [.ref (E.2.2.1 a1), .int x2, .ref (E.2.2.1 11)]) (rest := []) (m_X2_markOf_18 l E t1 hc) (ci := 1) (ks := []) rfl rfl gc9 gc10 ⟨Nat.le_of_ble_eq_true rfl, Nat.le_of_ble_eq_true rfl⟩ ⟨Nat.le_of_ble_eq_true rfl, Nat.le_of_ble_eq_true rfl⟩ rfl rfl (Nat.le_of_ble_eq_true rfl) dX0_markOf_10 (fun H locs hw hS => ?_)
  clear hc
  refine lv_istore (lv' := [(4, .int r_3), (0, .ref (E.2.2.1 18)), (1, .ref (E.2.2.1 a1)), (2, .int x2), (3, .ref (E.2.2.1 11))]) hx hb dX0_markOf_13 hl (by decide) rfl (fun ls hl => ?_)
  refine lv_iload hx hb dX0_markOf_15 (lv_at hl 0 rfl) ?_
  refine lv_aload_n hx hb dX0_markOf_17 rfl (lv_at hl 1 rfl) ?_
  refine lv_aload_n hx hb dX0_markOf_18 rfl (lv_at hl 2 rfl) ?_
  refine lv_iload_n hx hb dX0_markOf_19 rfl (lv_at hl 3 rfl) ?_
  refine lv_aload_n hx hb dX0_markOf_20 rfl (lv_at hl 4 rfl) ?_
  obtain ⟨r_5, s_4, hc, hf⟩ := ok_bd hf
  refine z_cU hC hl.1 hw hS (As := [.ref (E.2.2.1 a1), .int x2, .ref (E.2.2.1 11)]) (rest := [.int r_3]) (m_X1_sizeOf_18 l E t1 hc) (ci := 1) (ks := []) rfl rfl (C := "FuseBox$Coil") (va_cwO 3 hts gc16 rfl rfl rfl wd32 gc17 ⟨Nat.le_of_ble_eq_true rfl, Nat.le_of_ble_eq_true rfl⟩) ⟨Nat.le_of_ble_eq_true rfl, Nat.le_of_ble_eq_true rfl⟩ rfl rfl (Nat.le_of_ble_eq_true rfl) dX0_markOf_21 (fun H locs hw hS => ?_)
  clear hc
  refine lv_isub hx hb dX0_markOf_24 ?_
  exact z_iretE hC hlocks hw hS hf hr rfl dX0_markOf_25
set_option maxHeartbeats 4000000 in
set_option maxRecDepth 100000 in
theorem m_X2_sizeOf_14 (l : Launch) (E : Ev) {a1 : Nat} {x2 : Int32} (t1 : isH a1) {s0 sz : St} {rz : Int32} (hf : f_X2_sizeOf_14 a1 x2 s0 = some (rz, sz)) : MM l E sh2 yX2_sizeOf cX2_sizeOf 4 (some .int) (rmd 2) [.ref (E.2.2.1 14), .ref (E.2.2.1 a1), .int x2, .ref (E.2.2.1 11)] s0 (some (.int rz)) sz := by
  unfold f_X2_sizeOf_14 at hf
  refine z_enter (by decide +kernel) (Nat.le_of_ble_eq_true rfl) ?_
  intro p e s m args below meth c ls hC hr hlocks hw hS hl
  have hC : Cx p s m args c cX2_sizeOf 4 "FuseBox$Fuse" E := hC
  obtain ⟨hx, hb, hml, hown, hts, hTB⟩ := id hC
  have hl : lv_has ls 4 [(0, .ref (E.2.2.1 14)), (1, .ref (E.2.2.1 a1)), (2, .int x2), (3, .ref (E.2.2.1 11))] := hl
  refine lv_aload_n hx hb dX2_sizeOf_0 rfl (lv_at hl 3 rfl) ?_
  refine lv_bipush (v := 10) hx hb dX2_sizeOf_1 (by decide) ?_
  obtain ⟨s_1, hc, hf⟩ := ok_bind hf
  refine z_cV hC hl.1 hw hS (As := [.int (10 : Int32)]) (rest := []) (m_X9_leave l E  hc) rfl rfl gc4 gc5 ⟨Nat.le_of_ble_eq_true rfl, Nat.le_of_ble_eq_true rfl⟩ ⟨Nat.le_of_ble_eq_true rfl, Nat.le_of_ble_eq_true rfl⟩ rfl rfl (Nat.le_of_ble_eq_true rfl) dX2_sizeOf_3 (fun H locs hw hS => ?_)
  clear hc
  refine lv_aload_n hx hb dX2_sizeOf_6 rfl (lv_at hl 1 rfl) ?_
  refine gHouse_rate hC hw t1 wd17 dX2_sizeOf_7 ?_
  refine lv_iload_n hx hb dX2_sizeOf_10 rfl (lv_at hl 2 rfl) ?_
  obtain ⟨hin, hf⟩ := ok_chk hf
  refine z_iald hC hw (sH t1).2.2.1 hin dX2_sizeOf_11 ?_
  exact z_iretE hC hlocks hw hS hf hr rfl dX2_sizeOf_12
set_option maxHeartbeats 4000000 in
set_option maxRecDepth 100000 in
theorem m_X2_sizeOf_15 (l : Launch) (E : Ev) {a1 : Nat} {x2 : Int32} (t1 : isH a1) {s0 sz : St} {rz : Int32} (hf : f_X2_sizeOf_15 a1 x2 s0 = some (rz, sz)) : MM l E sh2 yX2_sizeOf cX2_sizeOf 4 (some .int) (rmd 2) [.ref (E.2.2.1 15), .ref (E.2.2.1 a1), .int x2, .ref (E.2.2.1 11)] s0 (some (.int rz)) sz := by
  unfold f_X2_sizeOf_15 at hf
  refine z_enter (by decide +kernel) (Nat.le_of_ble_eq_true rfl) ?_
  intro p e s m args below meth c ls hC hr hlocks hw hS hl
  have hC : Cx p s m args c cX2_sizeOf 4 "FuseBox$Fuse" E := hC
  obtain ⟨hx, hb, hml, hown, hts, hTB⟩ := id hC
  have hl : lv_has ls 4 [(0, .ref (E.2.2.1 15)), (1, .ref (E.2.2.1 a1)), (2, .int x2), (3, .ref (E.2.2.1 11))] := hl
  refine lv_aload_n hx hb dX2_sizeOf_0 rfl (lv_at hl 3 rfl) ?_
  refine lv_bipush (v := 10) hx hb dX2_sizeOf_1 (by decide) ?_
  obtain ⟨s_1, hc, hf⟩ := ok_bind hf
  refine z_cV hC hl.1 hw hS (As := [.int (10 : Int32)]) (rest := []) (m_X9_leave l E  hc) rfl rfl gc4 gc5 ⟨Nat.le_of_ble_eq_true rfl, Nat.le_of_ble_eq_true rfl⟩ ⟨Nat.le_of_ble_eq_true rfl, Nat.le_of_ble_eq_true rfl⟩ rfl rfl (Nat.le_of_ble_eq_true rfl) dX2_sizeOf_3 (fun H locs hw hS => ?_)
  clear hc
  refine lv_aload_n hx hb dX2_sizeOf_6 rfl (lv_at hl 1 rfl) ?_
  refine gHouse_rate hC hw t1 wd17 dX2_sizeOf_7 ?_
  refine lv_iload_n hx hb dX2_sizeOf_10 rfl (lv_at hl 2 rfl) ?_
  obtain ⟨hin, hf⟩ := ok_chk hf
  refine z_iald hC hw (sH t1).2.2.1 hin dX2_sizeOf_11 ?_
  exact z_iretE hC hlocks hw hS hf hr rfl dX2_sizeOf_12
set_option maxHeartbeats 4000000 in
set_option maxRecDepth 100000 in
theorem m_X2_sizeOf_16 (l : Launch) (E : Ev) {a1 : Nat} {x2 : Int32} (t1 : isH a1) {s0 sz : St} {rz : Int32} (hf : f_X2_sizeOf_16 a1 x2 s0 = some (rz, sz)) : MM l E sh2 yX2_sizeOf cX2_sizeOf 4 (some .int) (rmd 2) [.ref (E.2.2.1 16), .ref (E.2.2.1 a1), .int x2, .ref (E.2.2.1 11)] s0 (some (.int rz)) sz := by
  unfold f_X2_sizeOf_16 at hf
  refine z_enter (by decide +kernel) (Nat.le_of_ble_eq_true rfl) ?_
  intro p e s m args below meth c ls hC hr hlocks hw hS hl
  have hC : Cx p s m args c cX2_sizeOf 4 "FuseBox$Fuse" E := hC
  obtain ⟨hx, hb, hml, hown, hts, hTB⟩ := id hC
  have hl : lv_has ls 4 [(0, .ref (E.2.2.1 16)), (1, .ref (E.2.2.1 a1)), (2, .int x2), (3, .ref (E.2.2.1 11))] := hl
  refine lv_aload_n hx hb dX2_sizeOf_0 rfl (lv_at hl 3 rfl) ?_
  refine lv_bipush (v := 10) hx hb dX2_sizeOf_1 (by decide) ?_
  obtain ⟨s_1, hc, hf⟩ := ok_bind hf
  refine z_cV hC hl.1 hw hS (As := [.int (10 : Int32)]) (rest := []) (m_X9_leave l E  hc) rfl rfl gc4 gc5 ⟨Nat.le_of_ble_eq_true rfl, Nat.le_of_ble_eq_true rfl⟩ ⟨Nat.le_of_ble_eq_true rfl, Nat.le_of_ble_eq_true rfl⟩ rfl rfl (Nat.le_of_ble_eq_true rfl) dX2_sizeOf_3 (fun H locs hw hS => ?_)
  clear hc
  refine lv_aload_n hx hb dX2_sizeOf_6 rfl (lv_at hl 1 rfl) ?_
  refine gHouse_rate hC hw t1 wd17 dX2_sizeOf_7 ?_
  refine lv_iload_n hx hb dX2_sizeOf_10 rfl (lv_at hl 2 rfl) ?_
  obtain ⟨hin, hf⟩ := ok_chk hf
  refine z_iald hC hw (sH t1).2.2.1 hin dX2_sizeOf_11 ?_
  exact z_iretE hC hlocks hw hS hf hr rfl dX2_sizeOf_12
set_option maxHeartbeats 4000000 in
set_option maxRecDepth 100000 in
theorem m_X2_markOf_14 (l : Launch) (E : Ev) {a1 : Nat} {x2 : Int32} (t1 : isH a1) {s0 sz : St} {rz : Int32} (hf : f_X2_markOf_14 a1 x2 s0 = some (rz, sz)) : MM l E sh2 yX2_markOf cX2_markOf 4 (some .int) (rmd 2) [.ref (E.2.2.1 14), .ref (E.2.2.1 a1), .int x2, .ref (E.2.2.1 11)] s0 (some (.int rz)) sz := by
  unfold f_X2_markOf_14 at hf
  refine z_enter (by decide +kernel) (Nat.le_of_ble_eq_true rfl) ?_
  intro p e s m args below meth c ls hC hr hlocks hw hS hl
  have hC : Cx p s m args c cX2_markOf 4 "FuseBox$Fuse" E := hC
  obtain ⟨hx, hb, hml, hown, hts, hTB⟩ := id hC
  have hl : lv_has ls 4 [(0, .ref (E.2.2.1 14)), (1, .ref (E.2.2.1 a1)), (2, .int x2), (3, .ref (E.2.2.1 11))] := hl
  refine lv_aload_n hx hb dX2_markOf_0 rfl (lv_at hl 3 rfl) ?_
  refine lv_bipush (v := 20) hx hb dX2_markOf_1 (by decide) ?_
  obtain ⟨s_1, hc, hf⟩ := ok_bind hf
  refine z_cV hC hl.1 hw hS (As := [.int (20 : Int32)]) (rest := []) (m_X9_leave l E  hc) rfl rfl gc4 gc5 ⟨Nat.le_of_ble_eq_true rfl, Nat.le_of_ble_eq_true rfl⟩ ⟨Nat.le_of_ble_eq_true rfl, Nat.le_of_ble_eq_true rfl⟩ rfl rfl (Nat.le_of_ble_eq_true rfl) dX2_markOf_3 (fun H locs hw hS => ?_)
  clear hc
  refine lv_iload_n hx hb dX2_markOf_6 rfl (lv_at hl 2 rfl) ?_
  exact z_iretE hC hlocks hw hS hf hr rfl dX2_markOf_7
set_option maxHeartbeats 4000000 in
set_option maxRecDepth 100000 in
theorem m_X2_markOf_15 (l : Launch) (E : Ev) {a1 : Nat} {x2 : Int32} (t1 : isH a1) {s0 sz : St} {rz : Int32} (hf : f_X2_markOf_15 a1 x2 s0 = some (rz, sz)) : MM l E sh2 yX2_markOf cX2_markOf 4 (some .int) (rmd 2) [.ref (E.2.2.1 15), .ref (E.2.2.1 a1), .int x2, .ref (E.2.2.1 11)] s0 (some (.int rz)) sz := by
  unfold f_X2_markOf_15 at hf
  refine z_enter (by decide +kernel) (Nat.le_of_ble_eq_true rfl) ?_
  intro p e s m args below meth c ls hC hr hlocks hw hS hl
  have hC : Cx p s m args c cX2_markOf 4 "FuseBox$Fuse" E := hC
  obtain ⟨hx, hb, hml, hown, hts, hTB⟩ := id hC
  have hl : lv_has ls 4 [(0, .ref (E.2.2.1 15)), (1, .ref (E.2.2.1 a1)), (2, .int x2), (3, .ref (E.2.2.1 11))] := hl
  refine lv_aload_n hx hb dX2_markOf_0 rfl (lv_at hl 3 rfl) ?_
  refine lv_bipush (v := 20) hx hb dX2_markOf_1 (by decide) ?_
  obtain ⟨s_1, hc, hf⟩ := ok_bind hf
  refine z_cV hC hl.1 hw hS (As := [.int (20 : Int32)]) (rest := []) (m_X9_leave l E  hc) rfl rfl gc4 gc5 ⟨Nat.le_of_ble_eq_true rfl, Nat.le_of_ble_eq_true rfl⟩ ⟨Nat.le_of_ble_eq_true rfl, Nat.le_of_ble_eq_true rfl⟩ rfl rfl (Nat.le_of_ble_eq_true rfl) dX2_markOf_3 (fun H locs hw hS => ?_)
  clear hc
  refine lv_iload_n hx hb dX2_markOf_6 rfl (lv_at hl 2 rfl) ?_
  exact z_iretE hC hlocks hw hS hf hr rfl dX2_markOf_7
set_option maxHeartbeats 4000000 in
set_option maxRecDepth 100000 in
theorem m_X2_markOf_16 (l : Launch) (E : Ev) {a1 : Nat} {x2 : Int32} (t1 : isH a1) {s0 sz : St} {rz : Int32} (hf : f_X2_markOf_16 a1 x2 s0 = some (rz, sz)) : MM l E sh2 yX2_markOf cX2_markOf 4 (some .int) (rmd 2) [.ref (E.2.2.1 16), .ref (E.2.2.1 a1), .int x2, .ref (E.2.2.1 11)] s0 (some (.int rz)) sz := by
  unfold f_X2_markOf_16 at hf
  refine z_enter (by decide +kernel) (Nat.le_of_ble_eq_true rfl) ?_
  intro p e s m args below meth c ls hC hr hlocks hw hS hl
  have hC : Cx p s m args c cX2_markOf 4 "FuseBox$Fuse" E := hC
  obtain ⟨hx, hb, hml, hown, hts, hTB⟩ := id hC
  have hl : lv_has ls 4 [(0, .ref (E.2.2.1 16)), (1, .ref (E.2.2.1 a1)), (2, .int x2), (3, .ref (E.2.2.1 11))] := hl
  refine lv_aload_n hx hb dX2_markOf_0 rfl (lv_at hl 3 rfl) ?_
  refine lv_bipush (v := 20) hx hb dX2_markOf_1 (by decide) ?_
  obtain ⟨s_1, hc, hf⟩ := ok_bind hf
  refine z_cV hC hl.1 hw hS (As := [.int (20 : Int32)]) (rest := []) (m_X9_leave l E  hc) rfl rfl gc4 gc5 ⟨Nat.le_of_ble_eq_true rfl, Nat.le_of_ble_eq_true rfl⟩ ⟨Nat.le_of_ble_eq_true rfl, Nat.le_of_ble_eq_true rfl⟩ rfl rfl (Nat.le_of_ble_eq_true rfl) dX2_markOf_3 (fun H locs hw hS => ?_)
  clear hc
  refine lv_iload_n hx hb dX2_markOf_6 rfl (lv_at hl 2 rfl) ?_
  exact z_iretE hC hlocks hw hS hf hr rfl dX2_markOf_7
set_option maxHeartbeats 4000000 in
set_option maxRecDepth 100000 in
theorem m_X10_heatBy_14 (l : Launch) (E : Ev) {x1 : Int32}  {s0 sz : St} {rz : Int32} (hf : f_X10_heatBy_14 x1 s0 = some (rz, sz)) : MM l E sh2 yX10_heatBy cX10_heatBy 2 (some .int) (rmd 1) [.ref (E.2.2.1 14), .int x1] s0 (some (.int rz)) sz := by
  unfold f_X10_heatBy_14 at hf
  refine z_enter (by decide +kernel) (Nat.le_of_ble_eq_true rfl) ?_
  intro p e s m args below meth c ls hC hr hlocks hw hS hl
  have hC : Cx p s m args c cX10_heatBy 2 "FuseBox$Wire" E := hC
  obtain ⟨hx, hb, hml, hown, hts, hTB⟩ := id hC
  have hl : lv_has ls 2 [(0, .ref (E.2.2.1 14)), (1, .int x1)] := hl
  refine lv_iload_n hx hb dX10_heatBy_0 rfl (lv_at hl 1 rfl) ?_
  exact z_iretE hC hlocks hw hS hf hr rfl dX10_heatBy_1
set_option maxHeartbeats 4000000 in
set_option maxRecDepth 100000 in
theorem m_X10_heatBehind_14 (l : Launch) (E : Ev) {x1 : Int32} {x2 : Int32}  {s0 sz : St} {rz : Int32} (hf : f_X10_heatBehind_14 x1 x2 s0 = some (rz, sz)) : MM l E sh2 yX10_heatBehind cX10_heatBehind 3 (some .int) (rmd 2) [.ref (E.2.2.1 14), .int x1, .int x2] s0 (some (.int rz)) sz := by
  unfold f_X10_heatBehind_14 at hf
  refine z_enter (by decide +kernel) (Nat.le_of_ble_eq_true rfl) ?_
  intro p e s m args below meth c ls hC hr hlocks hw hS hl
  have hC : Cx p s m args c cX10_heatBehind 3 "FuseBox$Wire" E := hC
  obtain ⟨hx, hb, hml, hown, hts, hTB⟩ := id hC
  have hl : lv_has ls 3 [(0, .ref (E.2.2.1 14)), (1, .int x1), (2, .int x2)] := hl
  refine lv_iload_n hx hb dX10_heatBehind_0 rfl (lv_at hl 2 rfl) ?_
  obtain ⟨j26, ej26, hf⟩ := ok_lt hf
  have J26 : ∀ (k_1 : Int32) (s_2 : St), j26 k_1 s_2 = some (rz, sz) → ∀ (H : Heap) (locs : List Loc) (ls : Array Slot), lv_has ls 3 [] → World E sh2 s_2 H → va_S E.2.2.2 s.heap H locs → W p l e (rmd 2) s m args below meth c H locs 0 0 (MQ below (QW E sh2 (some (.int rz)) sz) args s 0 0 E.2.2.2) (F0 m 26 ls [.int k_1]) := by
    intro k_1 s_2 hf H locs ls hl hw hS
    subst ej26
    exact z_iretE hC hlocks hw hS hf hr rfl dX10_heatBehind_26
  clear ej26
  have hif := ok_if hf
  refine lv_if_le (tgt := 19) hx hb dX10_heatBehind_1 (by decide) (fun hcd => ?_) (fun hcd => ?_)
  · have hf := hif.1 hcd
    clear hif
    refine lv_iconst (v := 0) hx hb dX10_heatBehind_19 (by decide) ?_
    refine lv_iload_n hx hb dX10_heatBehind_20 rfl (lv_at hl 1 rfl) ?_
    refine lv_iconst (v := 1) hx hb dX10_heatBehind_21 (by decide) ?_
    refine lv_isub hx hb dX10_heatBehind_22 ?_
    refine z_max hC hl.1 (rest := []) wd81 wd82 wd83 wd80 (Nat.le_of_ble_eq_true rfl) (Nat.le_of_ble_eq_true rfl) (Nat.le_of_ble_eq_true rfl) (Nat.le_of_ble_eq_true rfl) dX10_heatBehind_23 ?_
    exact J26 _ _ hf _ _ ls (lv_sub hl [] rfl) hw hS
  · have hf := hif.2 hcd
    clear hif
    refine lv_bipush (v := 99) hx hb dX10_heatBehind_4 (by decide) ?_
    refine lv_iload_n hx hb dX10_heatBehind_6 rfl (lv_at hl 1 rfl) ?_
    refine lv_aload_n hx hb dX10_heatBehind_7 rfl (lv_at hl 0 rfl) ?_
    refine lv_iload_n hx hb dX10_heatBehind_8 rfl (lv_at hl 2 rfl) ?_
    obtain ⟨r_4, s_3, hc, hf⟩ := ok_bd hf
    refine z_cV hC hl.1 hw hS (As := [.int x2]) (rest := [.int x1, .int (99 : Int32)]) (m_X10_heatBy_14 l E  hc) (ci := 9) (ks := []) rfl rfl gc28 gc29 ⟨Nat.le_of_ble_eq_true rfl, Nat.le_of_ble_eq_true rfl⟩ ⟨Nat.le_of_ble_eq_true rfl, Nat.le_of_ble_eq_true rfl⟩ rfl rfl (Nat.le_of_ble_eq_true rfl) dX10_heatBehind_9 (fun H locs hw hS => ?_)
    clear hc
    refine lv_iadd hx hb dX10_heatBehind_12 ?_
    refine z_min hC hl.1 (rest := []) wd90 wd91 wd83 wd89 (Nat.le_of_ble_eq_true rfl) (Nat.le_of_ble_eq_true rfl) (Nat.le_of_ble_eq_true rfl) (Nat.le_of_ble_eq_true rfl) dX10_heatBehind_13 ?_
    refine lv_goto (tgt := 26) hx hb dX10_heatBehind_16 (by decide) ?_
    exact J26 _ _ hf _ _ ls (lv_sub hl [] rfl) hw hS
set_option maxHeartbeats 4000000 in
set_option maxRecDepth 100000 in
theorem m_X8_heatBy_15 (l : Launch) (E : Ev) {x1 : Int32}  {s0 sz : St} {rz : Int32} (hf : f_X8_heatBy_15 x1 s0 = some (rz, sz)) : MM l E sh2 yX8_heatBy cX8_heatBy 2 (some .int) (rmd 1) [.ref (E.2.2.1 15), .int x1] s0 (some (.int rz)) sz := by
  unfold f_X8_heatBy_15 at hf
  refine z_enter (by decide +kernel) (Nat.le_of_ble_eq_true rfl) ?_
  intro p e s m args below meth c ls hC hr hlocks hw hS hl
  have hC : Cx p s m args c cX8_heatBy 2 "FuseBox$Slow" E := hC
  obtain ⟨hx, hb, hml, hown, hts, hTB⟩ := id hC
  have hl : lv_has ls 2 [(0, .ref (E.2.2.1 15)), (1, .int x1)] := hl
  refine lv_iload_n hx hb dX8_heatBy_0 rfl (lv_at hl 1 rfl) ?_
  refine lv_iconst (v := 2) hx hb dX8_heatBy_1 (by decide) ?_
  refine lv_idiv hx hb dX8_heatBy_2 (by decide) ?_
  exact z_iretE hC hlocks hw hS hf hr rfl dX8_heatBy_3
set_option maxHeartbeats 4000000 in
set_option maxRecDepth 100000 in
theorem m_X10_heatBehind_15 (l : Launch) (E : Ev) {x1 : Int32} {x2 : Int32}  {s0 sz : St} {rz : Int32} (hf : f_X10_heatBehind_15 x1 x2 s0 = some (rz, sz)) : MM l E sh2 yX10_heatBehind cX10_heatBehind 3 (some .int) (rmd 2) [.ref (E.2.2.1 15), .int x1, .int x2] s0 (some (.int rz)) sz := by
  unfold f_X10_heatBehind_15 at hf
  refine z_enter (by decide +kernel) (Nat.le_of_ble_eq_true rfl) ?_
  intro p e s m args below meth c ls hC hr hlocks hw hS hl
  have hC : Cx p s m args c cX10_heatBehind 3 "FuseBox$Wire" E := hC
  obtain ⟨hx, hb, hml, hown, hts, hTB⟩ := id hC
  have hl : lv_has ls 3 [(0, .ref (E.2.2.1 15)), (1, .int x1), (2, .int x2)] := hl
  refine lv_iload_n hx hb dX10_heatBehind_0 rfl (lv_at hl 2 rfl) ?_
  obtain ⟨j26, ej26, hf⟩ := ok_lt hf
  have J26 : ∀ (k_1 : Int32) (s_2 : St), j26 k_1 s_2 = some (rz, sz) → ∀ (H : Heap) (locs : List Loc) (ls : Array Slot), lv_has ls 3 [] → World E sh2 s_2 H → va_S E.2.2.2 s.heap H locs → W p l e (rmd 2) s m args below meth c H locs 0 0 (MQ below (QW E sh2 (some (.int rz)) sz) args s 0 0 E.2.2.2) (F0 m 26 ls [.int k_1]) := by
    intro k_1 s_2 hf H locs ls hl hw hS
    subst ej26
    exact z_iretE hC hlocks hw hS hf hr rfl dX10_heatBehind_26
  clear ej26
  have hif := ok_if hf
  refine lv_if_le (tgt := 19) hx hb dX10_heatBehind_1 (by decide) (fun hcd => ?_) (fun hcd => ?_)
  · have hf := hif.1 hcd
    clear hif
    refine lv_iconst (v := 0) hx hb dX10_heatBehind_19 (by decide) ?_
    refine lv_iload_n hx hb dX10_heatBehind_20 rfl (lv_at hl 1 rfl) ?_
    refine lv_iconst (v := 1) hx hb dX10_heatBehind_21 (by decide) ?_
    refine lv_isub hx hb dX10_heatBehind_22 ?_
    refine z_max hC hl.1 (rest := []) wd81 wd82 wd83 wd80 (Nat.le_of_ble_eq_true rfl) (Nat.le_of_ble_eq_true rfl) (Nat.le_of_ble_eq_true rfl) (Nat.le_of_ble_eq_true rfl) dX10_heatBehind_23 ?_
    exact J26 _ _ hf _ _ ls (lv_sub hl [] rfl) hw hS
  · have hf := hif.2 hcd
    clear hif
    refine lv_bipush (v := 99) hx hb dX10_heatBehind_4 (by decide) ?_
    refine lv_iload_n hx hb dX10_heatBehind_6 rfl (lv_at hl 1 rfl) ?_
    refine lv_aload_n hx hb dX10_heatBehind_7 rfl (lv_at hl 0 rfl) ?_
    refine lv_iload_n hx hb dX10_heatBehind_8 rfl (lv_at hl 2 rfl) ?_
    obtain ⟨r_4, s_3, hc, hf⟩ := ok_bd hf
    refine z_cU hC hl.1 hw hS (As := [.int x2]) (rest := [.int x1, .int (99 : Int32)]) (m_X8_heatBy_15 l E  hc) (ci := 7) (ks := []) rfl rfl (C := "FuseBox$Slow") (va_cwO 1 hts gc30 rfl rfl rfl wd88 gc31 ⟨Nat.le_of_ble_eq_true rfl, Nat.le_of_ble_eq_true rfl⟩) ⟨Nat.le_of_ble_eq_true rfl, Nat.le_of_ble_eq_true rfl⟩ rfl rfl (Nat.le_of_ble_eq_true rfl) dX10_heatBehind_9 (fun H locs hw hS => ?_)
    clear hc
    refine lv_iadd hx hb dX10_heatBehind_12 ?_
    refine z_min hC hl.1 (rest := []) wd90 wd91 wd83 wd89 (Nat.le_of_ble_eq_true rfl) (Nat.le_of_ble_eq_true rfl) (Nat.le_of_ble_eq_true rfl) (Nat.le_of_ble_eq_true rfl) dX10_heatBehind_13 ?_
    refine lv_goto (tgt := 26) hx hb dX10_heatBehind_16 (by decide) ?_
    exact J26 _ _ hf _ _ ls (lv_sub hl [] rfl) hw hS
set_option maxHeartbeats 4000000 in
set_option maxRecDepth 100000 in
theorem m_X10_heatBy_16 (l : Launch) (E : Ev) {x1 : Int32}  {s0 sz : St} {rz : Int32} (hf : f_X10_heatBy_16 x1 s0 = some (rz, sz)) : MM l E sh2 yX10_heatBy cX10_heatBy 2 (some .int) (rmd 1) [.ref (E.2.2.1 16), .int x1] s0 (some (.int rz)) sz := by
  unfold f_X10_heatBy_16 at hf
  refine z_enter (by decide +kernel) (Nat.le_of_ble_eq_true rfl) ?_
  intro p e s m args below meth c ls hC hr hlocks hw hS hl
  have hC : Cx p s m args c cX10_heatBy 2 "FuseBox$Wire" E := hC
  obtain ⟨hx, hb, hml, hown, hts, hTB⟩ := id hC
  have hl : lv_has ls 2 [(0, .ref (E.2.2.1 16)), (1, .int x1)] := hl
  refine lv_iload_n hx hb dX10_heatBy_0 rfl (lv_at hl 1 rfl) ?_
  exact z_iretE hC hlocks hw hS hf hr rfl dX10_heatBy_1
set_option maxHeartbeats 4000000 in
set_option maxRecDepth 100000 in
theorem m_X10_heatBehind_16 (l : Launch) (E : Ev) {x1 : Int32} {x2 : Int32}  {s0 sz : St} {rz : Int32} (hf : f_X10_heatBehind_16 x1 x2 s0 = some (rz, sz)) : MM l E sh2 yX10_heatBehind cX10_heatBehind 3 (some .int) (rmd 2) [.ref (E.2.2.1 16), .int x1, .int x2] s0 (some (.int rz)) sz := by
  unfold f_X10_heatBehind_16 at hf
  refine z_enter (by decide +kernel) (Nat.le_of_ble_eq_true rfl) ?_
  intro p e s m args below meth c ls hC hr hlocks hw hS hl
  have hC : Cx p s m args c cX10_heatBehind 3 "FuseBox$Wire" E := hC
  obtain ⟨hx, hb, hml, hown, hts, hTB⟩ := id hC
  have hl : lv_has ls 3 [(0, .ref (E.2.2.1 16)), (1, .int x1), (2, .int x2)] := hl
  refine lv_iload_n hx hb dX10_heatBehind_0 rfl (lv_at hl 2 rfl) ?_
  obtain ⟨j26, ej26, hf⟩ := ok_lt hf
  have J26 : ∀ (k_1 : Int32) (s_2 : St), j26 k_1 s_2 = some (rz, sz) → ∀ (H : Heap) (locs : List Loc) (ls : Array Slot), lv_has ls 3 [] → World E sh2 s_2 H → va_S E.2.2.2 s.heap H locs → W p l e (rmd 2) s m args below meth c H locs 0 0 (MQ below (QW E sh2 (some (.int rz)) sz) args s 0 0 E.2.2.2) (F0 m 26 ls [.int k_1]) := by
    intro k_1 s_2 hf H locs ls hl hw hS
    subst ej26
    exact z_iretE hC hlocks hw hS hf hr rfl dX10_heatBehind_26
  clear ej26
  have hif := ok_if hf
  refine lv_if_le (tgt := 19) hx hb dX10_heatBehind_1 (by decide) (fun hcd => ?_) (fun hcd => ?_)
  · have hf := hif.1 hcd
    clear hif
    refine lv_iconst (v := 0) hx hb dX10_heatBehind_19 (by decide) ?_
    refine lv_iload_n hx hb dX10_heatBehind_20 rfl (lv_at hl 1 rfl) ?_
    refine lv_iconst (v := 1) hx hb dX10_heatBehind_21 (by decide) ?_
    refine lv_isub hx hb dX10_heatBehind_22 ?_
    refine z_max hC hl.1 (rest := []) wd81 wd82 wd83 wd80 (Nat.le_of_ble_eq_true rfl) (Nat.le_of_ble_eq_true rfl) (Nat.le_of_ble_eq_true rfl) (Nat.le_of_ble_eq_true rfl) dX10_heatBehind_23 ?_
    exact J26 _ _ hf _ _ ls (lv_sub hl [] rfl) hw hS
  · have hf := hif.2 hcd
    clear hif
    refine lv_bipush (v := 99) hx hb dX10_heatBehind_4 (by decide) ?_
    refine lv_iload_n hx hb dX10_heatBehind_6 rfl (lv_at hl 1 rfl) ?_
    refine lv_aload_n hx hb dX10_heatBehind_7 rfl (lv_at hl 0 rfl) ?_
    refine lv_iload_n hx hb dX10_heatBehind_8 rfl (lv_at hl 2 rfl) ?_
    obtain ⟨r_4, s_3, hc, hf⟩ := ok_bd hf
    refine z_cU hC hl.1 hw hS (As := [.int x2]) (rest := [.int x1, .int (99 : Int32)]) (m_X10_heatBy_16 l E  hc) (ci := 4) (ks := []) rfl rfl (C := "FuseBox$Quick") (va_cwU 1 hts gc32 rfl rfl rfl rfl gc31 ⟨Nat.le_of_ble_eq_true rfl, Nat.le_of_ble_eq_true rfl⟩) ⟨Nat.le_of_ble_eq_true rfl, Nat.le_of_ble_eq_true rfl⟩ rfl rfl (Nat.le_of_ble_eq_true rfl) dX10_heatBehind_9 (fun H locs hw hS => ?_)
    clear hc
    refine lv_iadd hx hb dX10_heatBehind_12 ?_
    refine z_min hC hl.1 (rest := []) wd90 wd91 wd83 wd89 (Nat.le_of_ble_eq_true rfl) (Nat.le_of_ble_eq_true rfl) (Nat.le_of_ble_eq_true rfl) (Nat.le_of_ble_eq_true rfl) dX10_heatBehind_13 ?_
    refine lv_goto (tgt := 26) hx hb dX10_heatBehind_16 (by decide) ?_
    exact J26 _ _ hf _ _ ls (lv_sub hl [] rfl) hw hS
set_option maxHeartbeats 4000000 in
set_option maxRecDepth 100000 in
theorem m_X10_deadBehind_14 (l : Launch) (E : Ev) {x1 : Int32} {x2 : Int32} {x3 : Int32}  {s0 sz : St} {rz : Int32} (hf : f_X10_deadBehind_14 x1 x2 x3 s0 = some (rz, sz)) : MM l E sh2 yX10_deadBehind cX10_deadBehind 4 (some .int) (rmd 1) [.ref (E.2.2.1 14), .int x1, .int x2, .int x3] s0 (some (.int rz)) sz := by
  unfold f_X10_deadBehind_14 at hf
  refine z_enter (by decide +kernel) (Nat.le_of_ble_eq_true rfl) ?_
  intro p e s m args below meth c ls hC hr hlocks hw hS hl
  have hC : Cx p s m args c cX10_deadBehind 4 "FuseBox$Wire" E := hC
  obtain ⟨hx, hb, hml, hown, hts, hTB⟩ := id hC
  have hl : lv_has ls 4 [(0, .ref (E.2.2.1 14)), (1, .int x1), (2, .int x2), (3, .int x3)] := hl
  refine lv_iload_n hx hb dX10_deadBehind_0 rfl (lv_at hl 1 rfl) ?_
  refine lv_bipush (v := 10) hx hb dX10_deadBehind_1 (by decide) ?_
  obtain ⟨j11, ej11, hf⟩ := ok_lt hf
  have J11 : ∀ (k_1 : Int32) (s_2 : St), j11 k_1 s_2 = some (rz, sz) → ∀ (H : Heap) (locs : List Loc) (ls : Array Slot), lv_has ls 4 [] → World E sh2 s_2 H → va_S E.2.2.2 s.heap H locs → W p l e (rmd 1) s m args below meth c H locs 0 0 (MQ below (QW E sh2 (some (.int rz)) sz) args s 0 0 E.2.2.2) (F0 m 11 ls [.int k_1]) := by
    intro k_1 s_2 hf H locs ls hl hw hS
    subst ej11
    exact z_iretE hC hlocks hw hS hf hr rfl dX10_deadBehind_11
  clear ej11
  have hif := ok_if hf
  refine lv_icmp_lt (tgt := 10) hx hb dX10_deadBehind_3 (by decide) (fun hcd => ?_) (fun hcd => ?_)
  · have hf := hif.1 hcd
    clear hif
    refine lv_iconst (v := 0) hx hb dX10_deadBehind_10 (by decide) ?_
    exact J11 _ _ hf _ _ ls (lv_sub hl [] rfl) hw hS
  · have hf := hif.2 hcd
    clear hif
    refine lv_iconst (v := 1) hx hb dX10_deadBehind_6 (by decide) ?_
    refine lv_goto (tgt := 11) hx hb dX10_deadBehind_7 (by decide) ?_
    exact J11 _ _ hf _ _ ls (lv_sub hl [] rfl) hw hS
set_option maxHeartbeats 4000000 in
set_option maxRecDepth 100000 in
theorem m_X10_deadBehind_15 (l : Launch) (E : Ev) {x1 : Int32} {x2 : Int32} {x3 : Int32}  {s0 sz : St} {rz : Int32} (hf : f_X10_deadBehind_15 x1 x2 x3 s0 = some (rz, sz)) : MM l E sh2 yX10_deadBehind cX10_deadBehind 4 (some .int) (rmd 1) [.ref (E.2.2.1 15), .int x1, .int x2, .int x3] s0 (some (.int rz)) sz := by
  unfold f_X10_deadBehind_15 at hf
  refine z_enter (by decide +kernel) (Nat.le_of_ble_eq_true rfl) ?_
  intro p e s m args below meth c ls hC hr hlocks hw hS hl
  have hC : Cx p s m args c cX10_deadBehind 4 "FuseBox$Wire" E := hC
  obtain ⟨hx, hb, hml, hown, hts, hTB⟩ := id hC
  have hl : lv_has ls 4 [(0, .ref (E.2.2.1 15)), (1, .int x1), (2, .int x2), (3, .int x3)] := hl
  refine lv_iload_n hx hb dX10_deadBehind_0 rfl (lv_at hl 1 rfl) ?_
  refine lv_bipush (v := 10) hx hb dX10_deadBehind_1 (by decide) ?_
  obtain ⟨j11, ej11, hf⟩ := ok_lt hf
  have J11 : ∀ (k_1 : Int32) (s_2 : St), j11 k_1 s_2 = some (rz, sz) → ∀ (H : Heap) (locs : List Loc) (ls : Array Slot), lv_has ls 4 [] → World E sh2 s_2 H → va_S E.2.2.2 s.heap H locs → W p l e (rmd 1) s m args below meth c H locs 0 0 (MQ below (QW E sh2 (some (.int rz)) sz) args s 0 0 E.2.2.2) (F0 m 11 ls [.int k_1]) := by
    intro k_1 s_2 hf H locs ls hl hw hS
    subst ej11
    exact z_iretE hC hlocks hw hS hf hr rfl dX10_deadBehind_11
  clear ej11
  have hif := ok_if hf
  refine lv_icmp_lt (tgt := 10) hx hb dX10_deadBehind_3 (by decide) (fun hcd => ?_) (fun hcd => ?_)
  · have hf := hif.1 hcd
    clear hif
    refine lv_iconst (v := 0) hx hb dX10_deadBehind_10 (by decide) ?_
    exact J11 _ _ hf _ _ ls (lv_sub hl [] rfl) hw hS
  · have hf := hif.2 hcd
    clear hif
    refine lv_iconst (v := 1) hx hb dX10_deadBehind_6 (by decide) ?_
    refine lv_goto (tgt := 11) hx hb dX10_deadBehind_7 (by decide) ?_
    exact J11 _ _ hf _ _ ls (lv_sub hl [] rfl) hw hS
set_option maxHeartbeats 4000000 in
set_option maxRecDepth 100000 in
theorem m_X10_deadBehind_16 (l : Launch) (E : Ev) {x1 : Int32} {x2 : Int32} {x3 : Int32}  {s0 sz : St} {rz : Int32} (hf : f_X10_deadBehind_16 x1 x2 x3 s0 = some (rz, sz)) : MM l E sh2 yX10_deadBehind cX10_deadBehind 4 (some .int) (rmd 1) [.ref (E.2.2.1 16), .int x1, .int x2, .int x3] s0 (some (.int rz)) sz := by
  unfold f_X10_deadBehind_16 at hf
  refine z_enter (by decide +kernel) (Nat.le_of_ble_eq_true rfl) ?_
  intro p e s m args below meth c ls hC hr hlocks hw hS hl
  have hC : Cx p s m args c cX10_deadBehind 4 "FuseBox$Wire" E := hC
  obtain ⟨hx, hb, hml, hown, hts, hTB⟩ := id hC
  have hl : lv_has ls 4 [(0, .ref (E.2.2.1 16)), (1, .int x1), (2, .int x2), (3, .int x3)] := hl
  refine lv_iload_n hx hb dX10_deadBehind_0 rfl (lv_at hl 1 rfl) ?_
  refine lv_bipush (v := 10) hx hb dX10_deadBehind_1 (by decide) ?_
  obtain ⟨j11, ej11, hf⟩ := ok_lt hf
  have J11 : ∀ (k_1 : Int32) (s_2 : St), j11 k_1 s_2 = some (rz, sz) → ∀ (H : Heap) (locs : List Loc) (ls : Array Slot), lv_has ls 4 [] → World E sh2 s_2 H → va_S E.2.2.2 s.heap H locs → W p l e (rmd 1) s m args below meth c H locs 0 0 (MQ below (QW E sh2 (some (.int rz)) sz) args s 0 0 E.2.2.2) (F0 m 11 ls [.int k_1]) := by
    intro k_1 s_2 hf H locs ls hl hw hS
    subst ej11
    exact z_iretE hC hlocks hw hS hf hr rfl dX10_deadBehind_11
  clear ej11
  have hif := ok_if hf
  refine lv_icmp_lt (tgt := 10) hx hb dX10_deadBehind_3 (by decide) (fun hcd => ?_) (fun hcd => ?_)
  · have hf := hif.1 hcd
    clear hif
    refine lv_iconst (v := 0) hx hb dX10_deadBehind_10 (by decide) ?_
    exact J11 _ _ hf _ _ ls (lv_sub hl [] rfl) hw hS
  · have hf := hif.2 hcd
    clear hif
    refine lv_iconst (v := 1) hx hb dX10_deadBehind_6 (by decide) ?_
    refine lv_goto (tgt := 11) hx hb dX10_deadBehind_7 (by decide) ?_
    exact J11 _ _ hf _ _ ls (lv_sub hl [] rfl) hw hS
set_option maxHeartbeats 4000000 in
set_option maxRecDepth 100000 in
theorem m_X5_deadBehind_16 (l : Launch) (E : Ev) {x1 : Int32} {x2 : Int32} {x3 : Int32}  {s0 sz : St} {rz : Int32} (hf : f_X5_deadBehind_16 x1 x2 x3 s0 = some (rz, sz)) : MM l E sh2 yX5_deadBehind cX5_deadBehind 4 (some .int) (rmd 2) [.ref (E.2.2.1 16), .int x1, .int x2, .int x3] s0 (some (.int rz)) sz := by
  unfold f_X5_deadBehind_16 at hf
  refine z_enter (by decide +kernel) (Nat.le_of_ble_eq_true rfl) ?_
  intro p e s m args below meth c ls hC hr hlocks hw hS hl
  have hC : Cx p s m args c cX5_deadBehind 4 "FuseBox$Quick" E := hC
  obtain ⟨hx, hb, hml, hown, hts, hTB⟩ := id hC
  have hl : lv_has ls 4 [(0, .ref (E.2.2.1 16)), (1, .int x1), (2, .int x2), (3, .int x3)] := hl
  refine lv_iload_n hx hb dX5_deadBehind_0 rfl (lv_at hl 2 rfl) ?_
  refine lv_iconst (v := 2) hx hb dX5_deadBehind_1 (by decide) ?_
  refine lv_iload_n hx hb dX5_deadBehind_2 rfl (lv_at hl 3 rfl) ?_
  refine lv_imul hx hb dX5_deadBehind_3 ?_
  obtain ⟨j18, ej18, hf⟩ := ok_lt hf
  have J18 : ∀ (k_1 : Int32) (s_2 : St), j18 k_1 s_2 = some (rz, sz) → ∀ (H : Heap) (locs : List Loc) (ls : Array Slot), lv_has ls 4 [] → World E sh2 s_2 H → va_S E.2.2.2 s.heap H locs → W p l e (rmd 2) s m args below meth c H locs 0 0 (MQ below (QW E sh2 (some (.int rz)) sz) args s 0 0 E.2.2.2) (F0 m 18 ls [.int k_1]) := by
    intro k_1 s_2 hf H locs ls hl hw hS
    subst ej18
    exact z_iretE hC hlocks hw hS hf hr rfl dX5_deadBehind_18
  clear ej18
  have hif := ok_if hf
  refine lv_icmp_lt (tgt := 11) hx hb dX5_deadBehind_4 (by decide) (fun hcd => ?_) (fun hcd => ?_)
  · have hf := hif.1 hcd
    clear hif
    refine lv_aload_n hx hb dX5_deadBehind_11 rfl (lv_at hl 0 rfl) ?_
    refine lv_iload_n hx hb dX5_deadBehind_12 rfl (lv_at hl 1 rfl) ?_
    refine lv_iload_n hx hb dX5_deadBehind_13 rfl (lv_at hl 2 rfl) ?_
    refine lv_iload_n hx hb dX5_deadBehind_14 rfl (lv_at hl 3 rfl) ?_
    obtain ⟨r_4, s_3, hc, hf⟩ := ok_bd hf
    refine z_cSU hC hl.1 hw hS (As := [.int x1, .int x2, .int x3]) (rest := []) (m_X10_deadBehind_16 l E  hc) (ci := 4) (ks := []) rfl rfl gc33 gc34 ⟨Nat.le_of_ble_eq_true rfl, Nat.le_of_ble_eq_true rfl⟩ ⟨Nat.le_of_ble_eq_true rfl, Nat.le_of_ble_eq_true rfl⟩ rfl rfl (Nat.le_of_ble_eq_true rfl) dX5_deadBehind_15 (fun H locs hw hS => ?_)
    clear hc
    exact J18 _ _ hf _ _ ls (lv_sub hl [] rfl) hw hS
  · have hf := hif.2 hcd
    clear hif
    refine lv_iconst (v := 1) hx hb dX5_deadBehind_7 (by decide) ?_
    refine lv_goto (tgt := 18) hx hb dX5_deadBehind_8 (by decide) ?_
    exact J18 _ _ hf _ _ ls (lv_sub hl [] rfl) hw hS
set_option maxHeartbeats 4000000 in
set_option maxRecDepth 100000 in
theorem m_J6_bitCount_0f7a4 (l : Launch) (E : Ev) {x0 : Int32}  {s0 sz : St} {rz : Int32} (hf : f_J6_bitCount_0f7a4 x0 s0 = some (rz, sz)) : MM l E sh2 yJ6_bitCount_0f7a4 cJ6_bitCount_0f7a4 1 (some .int) (rmd 1) [.int x0] s0 (some (.int rz)) sz := by
  unfold f_J6_bitCount_0f7a4 at hf
  refine z_enter (by decide +kernel) (Nat.le_of_ble_eq_true rfl) ?_
  intro p e s m args below meth c ls hC hr hlocks hw hS hl
  have hC : Cx p s m args c cJ6_bitCount_0f7a4 1 "java/lang/Integer" E := hC
  obtain ⟨hx, hb, hml, hown, hts, hTB⟩ := id hC
  have hl : lv_has ls 1 [(0, .int x0)] := hl
  refine lv_iload_n hx hb dJ6_bitCount_0f7a4_0 rfl (lv_at hl 0 rfl) ?_
  refine lv_iload_n hx hb dJ6_bitCount_0f7a4_1 rfl (lv_at hl 0 rfl) ?_
  refine lv_iconst (v := 1) hx hb dJ6_bitCount_0f7a4_2 (by decide) ?_
  refine lv_iushr (v := ((x0).toUInt32 >>> (((1 : Int32)).toUInt32 &&& Int32.toUInt32 31)).toInt32) hx hb dJ6_bitCount_0f7a4_3 rfl ?_
  refine lv_ldcw (v := 1431655765) hx hb hown (hts _ wd167) dJ6_bitCount_0f7a4_4 ?_
  refine lv_iand hx hb dJ6_bitCount_0f7a4_7 ?_
  refine lv_isub hx hb dJ6_bitCount_0f7a4_8 ?_
  obtain ⟨v0_1, en, hf⟩ := ok_lt hf
  refine z_nm en ?_
  clear en
  refine lv_istore_n (lv' := [(0, .int v0_1)]) hx hb dJ6_bitCount_0f7a4_9 rfl hl (by decide) rfl (fun ls hl => ?_)
  refine lv_iload_n hx hb dJ6_bitCount_0f7a4_10 rfl (lv_at hl 0 rfl) ?_
  refine lv_ldcw (v := 858993459) hx hb hown (hts _ wd168) dJ6_bitCount_0f7a4_11 ?_
  refine lv_iand hx hb dJ6_bitCount_0f7a4_14 ?_
  refine lv_iload_n hx hb dJ6_bitCount_0f7a4_15 rfl (lv_at hl 0 rfl) ?_
  refine lv_iconst (v := 2) hx hb dJ6_bitCount_0f7a4_16 (by decide) ?_
  refine lv_iushr (v := ((v0_1).toUInt32 >>> (((2 : Int32)).toUInt32 &&& Int32.toUInt32 31)).toInt32) hx hb dJ6_bitCount_0f7a4_17 rfl ?_
  refine lv_ldcw (v := 858993459) hx hb hown (hts _ wd168) dJ6_bitCount_0f7a4_18 ?_
  refine lv_iand hx hb dJ6_bitCount_0f7a4_21 ?_
  refine lv_iadd hx hb dJ6_bitCount_0f7a4_22 ?_
  obtain ⟨v0_2, en, hf⟩ := ok_lt hf
  refine z_nm en ?_
  clear en
  refine lv_istore_n (lv' := [(0, .int v0_2)]) hx hb dJ6_bitCount_0f7a4_23 rfl hl (by decide) rfl (fun ls hl => ?_)
  refine lv_iload_n hx hb dJ6_bitCount_0f7a4_24 rfl (lv_at hl 0 rfl) ?_
  refine lv_iload_n hx hb dJ6_bitCount_0f7a4_25 rfl (lv_at hl 0 rfl) ?_
  refine lv_iconst (v := 4) hx hb dJ6_bitCount_0f7a4_26 (by decide) ?_
  refine lv_iushr (v := ((v0_2).toUInt32 >>> (((4 : Int32)).toUInt32 &&& Int32.toUInt32 31)).toInt32) hx hb dJ6_bitCount_0f7a4_27 rfl ?_
  refine lv_iadd hx hb dJ6_bitCount_0f7a4_28 ?_
  refine lv_ldcw (v := 252645135) hx hb hown (hts _ wd169) dJ6_bitCount_0f7a4_29 ?_
  refine lv_iand hx hb dJ6_bitCount_0f7a4_32 ?_
  obtain ⟨v0_3, en, hf⟩ := ok_lt hf
  refine z_nm en ?_
  clear en
  refine lv_istore_n (lv' := [(0, .int v0_3)]) hx hb dJ6_bitCount_0f7a4_33 rfl hl (by decide) rfl (fun ls hl => ?_)
  refine lv_iload_n hx hb dJ6_bitCount_0f7a4_34 rfl (lv_at hl 0 rfl) ?_
  refine lv_iload_n hx hb dJ6_bitCount_0f7a4_35 rfl (lv_at hl 0 rfl) ?_
  refine lv_bipush (v := 8) hx hb dJ6_bitCount_0f7a4_36 (by decide) ?_
  refine lv_iushr (v := ((v0_3).toUInt32 >>> (((8 : Int32)).toUInt32 &&& Int32.toUInt32 31)).toInt32) hx hb dJ6_bitCount_0f7a4_38 rfl ?_
  refine lv_iadd hx hb dJ6_bitCount_0f7a4_39 ?_
  obtain ⟨v0_4, en, hf⟩ := ok_lt hf
  refine z_nm en ?_
  clear en
  refine lv_istore_n (lv' := [(0, .int v0_4)]) hx hb dJ6_bitCount_0f7a4_40 rfl hl (by decide) rfl (fun ls hl => ?_)
  refine lv_iload_n hx hb dJ6_bitCount_0f7a4_41 rfl (lv_at hl 0 rfl) ?_
  refine lv_iload_n hx hb dJ6_bitCount_0f7a4_42 rfl (lv_at hl 0 rfl) ?_
  refine lv_bipush (v := 16) hx hb dJ6_bitCount_0f7a4_43 (by decide) ?_
  refine lv_iushr (v := ((v0_4).toUInt32 >>> (((16 : Int32)).toUInt32 &&& Int32.toUInt32 31)).toInt32) hx hb dJ6_bitCount_0f7a4_45 rfl ?_
  refine lv_iadd hx hb dJ6_bitCount_0f7a4_46 ?_
  obtain ⟨v0_5, en, hf⟩ := ok_lt hf
  refine z_nm en ?_
  clear en
  refine lv_istore_n (lv' := [(0, .int v0_5)]) hx hb dJ6_bitCount_0f7a4_47 rfl hl (by decide) rfl (fun ls hl => ?_)
  refine lv_iload_n hx hb dJ6_bitCount_0f7a4_48 rfl (lv_at hl 0 rfl) ?_
  refine lv_bipush (v := 63) hx hb dJ6_bitCount_0f7a4_49 (by decide) ?_
  refine lv_iand hx hb dJ6_bitCount_0f7a4_51 ?_
  exact z_iretE hC hlocks hw hS hf hr rfl dJ6_bitCount_0f7a4_52
set_option maxHeartbeats 4000000 in
set_option maxRecDepth 100000 in
theorem m_X10_markOf_16 (l : Launch) (E : Ev) {a1 : Nat} {x2 : Int32} (t1 : isH a1) {s0 sz : St} {rz : Int32} (hf : f_X10_markOf_16 a1 x2 s0 = some (rz, sz)) : MM l E sh2 yX10_markOf cX10_markOf 4 (some .int) (rmd 3) [.ref (E.2.2.1 16), .ref (E.2.2.1 a1), .int x2, .ref (E.2.2.1 11)] s0 (some (.int rz)) sz := by
  unfold f_X10_markOf_16 at hf
  refine z_enter (by decide +kernel) (Nat.le_of_ble_eq_true rfl) ?_
  intro p e s m args below meth c ls hC hr hlocks hw hS hl
  have hC : Cx p s m args c cX10_markOf 4 "FuseBox$Wire" E := hC
  obtain ⟨hx, hb, hml, hown, hts, hTB⟩ := id hC
  have hl : lv_has ls 4 [(0, .ref (E.2.2.1 16)), (1, .ref (E.2.2.1 a1)), (2, .int x2), (3, .ref (E.2.2.1 11))] := hl
  refine lv_aload_n hx hb dX10_markOf_0 rfl (lv_at hl 3 rfl) ?_
  refine lv_bipush (v := 21) hx hb dX10_markOf_1 (by decide) ?_
  obtain ⟨s_1, hc, hf⟩ := ok_bind hf
  refine z_cV hC hl.1 hw hS (As := [.int (21 : Int32)]) (rest := []) (m_X9_leave l E  hc) rfl rfl gc78 gc5 ⟨Nat.le_of_ble_eq_true rfl, Nat.le_of_ble_eq_true rfl⟩ ⟨Nat.le_of_ble_eq_true rfl, Nat.le_of_ble_eq_true rfl⟩ rfl rfl (Nat.le_of_ble_eq_true rfl) dX10_markOf_3 (fun H locs hw hS => ?_)
  clear hc
  refine lv_aload_n hx hb dX10_markOf_6 rfl (lv_at hl 0 rfl) ?_
  refine lv_aload_n hx hb dX10_markOf_7 rfl (lv_at hl 1 rfl) ?_
  refine lv_iload_n hx hb dX10_markOf_8 rfl (lv_at hl 2 rfl) ?_
  refine lv_aload_n hx hb dX10_markOf_9 rfl (lv_at hl 3 rfl) ?_
  obtain ⟨r_3, s_2, hc, hf⟩ := ok_bd hf
  refine z_cSU hC hl.1 hw hS (As := [.ref (E.2.2.1 a1), .int x2, .ref (E.2.2.1 11)]) (rest := []) (m_X2_markOf_16 l E t1 hc) (ci := 4) (ks := []) rfl rfl gc79 gc10 ⟨Nat.le_of_ble_eq_true rfl, Nat.le_of_ble_eq_true rfl⟩ ⟨Nat.le_of_ble_eq_true rfl, Nat.le_of_ble_eq_true rfl⟩ rfl rfl (Nat.le_of_ble_eq_true rfl) dX10_markOf_10 (fun H locs hw hS => ?_)
  clear hc
  refine lv_aload_n hx hb dX10_markOf_13 rfl (lv_at hl 1 rfl) ?_
  refine gHouse_heat hC hw t1 wd212 dX10_markOf_14 ?_
  refine lv_iload_n hx hb dX10_markOf_17 rfl (lv_at hl 2 rfl) ?_
  obtain ⟨hin, hf⟩ := ok_chk hf
  refine z_iald hC hw (sH t1).2.2.2.1 hin dX10_markOf_18 ?_
  refine lv_iadd hx hb dX10_markOf_19 ?_
  exact z_iretE hC hlocks hw hS hf hr rfl dX10_markOf_20
set_option maxHeartbeats 4000000 in
set_option maxRecDepth 100000 in
theorem m_X5_markOf_16 (l : Launch) (E : Ev) {a1 : Nat} {x2 : Int32} (t1 : isH a1) {s0 sz : St} {rz : Int32} (hf : f_X5_markOf_16 a1 x2 s0 = some (rz, sz)) : MM l E sh2 yX5_markOf cX5_markOf 4 (some .int) (rmd 4) [.ref (E.2.2.1 16), .ref (E.2.2.1 a1), .int x2, .ref (E.2.2.1 11)] s0 (some (.int rz)) sz := by
  unfold f_X5_markOf_16 at hf
  refine z_enter (by decide +kernel) (Nat.le_of_ble_eq_true rfl) ?_
  intro p e s m args below meth c ls hC hr hlocks hw hS hl
  have hC : Cx p s m args c cX5_markOf 4 "FuseBox$Quick" E := hC
  obtain ⟨hx, hb, hml, hown, hts, hTB⟩ := id hC
  have hl : lv_has ls 4 [(0, .ref (E.2.2.1 16)), (1, .ref (E.2.2.1 a1)), (2, .int x2), (3, .ref (E.2.2.1 11))] := hl
  refine lv_aload_n hx hb dX5_markOf_0 rfl (lv_at hl 3 rfl) ?_
  refine lv_bipush (v := 22) hx hb dX5_markOf_1 (by decide) ?_
  obtain ⟨s_1, hc, hf⟩ := ok_bind hf
  refine z_cV hC hl.1 hw hS (As := [.int (22 : Int32)]) (rest := []) (m_X9_leave l E  hc) rfl rfl gc80 gc5 ⟨Nat.le_of_ble_eq_true rfl, Nat.le_of_ble_eq_true rfl⟩ ⟨Nat.le_of_ble_eq_true rfl, Nat.le_of_ble_eq_true rfl⟩ rfl rfl (Nat.le_of_ble_eq_true rfl) dX5_markOf_3 (fun H locs hw hS => ?_)
  clear hc
  refine lv_aload_n hx hb dX5_markOf_6 rfl (lv_at hl 0 rfl) ?_
  refine lv_aload_n hx hb dX5_markOf_7 rfl (lv_at hl 1 rfl) ?_
  refine lv_iload_n hx hb dX5_markOf_8 rfl (lv_at hl 2 rfl) ?_
  refine lv_aload_n hx hb dX5_markOf_9 rfl (lv_at hl 3 rfl) ?_
  obtain ⟨r_3, s_2, hc, hf⟩ := ok_bd hf
  refine z_cSU hC hl.1 hw hS (As := [.ref (E.2.2.1 a1), .int x2, .ref (E.2.2.1 11)]) (rest := []) (m_X10_markOf_16 l E t1 hc) (ci := 4) (ks := []) rfl rfl gc81 gc82 ⟨Nat.le_of_ble_eq_true rfl, Nat.le_of_ble_eq_true rfl⟩ ⟨Nat.le_of_ble_eq_true rfl, Nat.le_of_ble_eq_true rfl⟩ rfl rfl (Nat.le_of_ble_eq_true rfl) dX5_markOf_10 (fun H locs hw hS => ?_)
  clear hc
  refine lv_sipush (v := 1000) hx hb dX5_markOf_13 (by decide) ?_
  refine lv_isub hx hb dX5_markOf_16 ?_
  exact z_iretE hC hlocks hw hS hf hr rfl dX5_markOf_17
set_option maxHeartbeats 4000000 in
set_option maxRecDepth 100000 in
theorem m_X7_begin (l : Launch) (E : Ev) {a0 : Nat} {x1 : Int32} {x2 : Int32} (t0 : isR a0) {s0 sz : St} (hf : f_X7_begin a0 x1 x2 s0 = some sz) : MM l E sh2 yX7_begin cX7_begin 4 none (rmd 1) [.ref (E.2.2.1 a0), .int x1, .int x2] s0 none sz := by
  unfold f_X7_begin at hf
  refine z_enter (by decide +kernel) (Nat.le_of_ble_eq_true rfl) ?_
  intro p e s m args below meth c ls hC hr hlocks hw hS hl
  have hC : Cx p s m args c cX7_begin 4 "FuseBox$Row" E := hC
  obtain ⟨hx, hb, hml, hown, hts, hTB⟩ := id hC
  have hl : lv_has ls 4 [(0, .ref (E.2.2.1 a0)), (1, .int x1), (2, .int x2)] := hl
  refine lv_aload_n hx hb dX7_begin_0 rfl (lv_at hl 0 rfl) ?_
  refine lv_iload_n hx hb dX7_begin_1 rfl (lv_at hl 1 rfl) ?_
  obtain ⟨s_1, en, hf⟩ := ok_lt hf
  refine pRow_lane hC hw hS t0 wd280 en dX7_begin_2 (fun H locs hw hS => ?_)
  clear en
  refine lv_aload_n hx hb dX7_begin_5 rfl (lv_at hl 0 rfl) ?_
  refine lv_iload_n hx hb dX7_begin_6 rfl (lv_at hl 2 rfl) ?_
  obtain ⟨s_2, en, hf⟩ := ok_lt hf
  refine pRow_size hC hw hS t0 wd281 en dX7_begin_7 (fun H locs hw hS => ?_)
  clear en
  refine lv_iconst (v := 0) hx hb dX7_begin_10 (by decide) ?_
  obtain ⟨v3_3, en, hf⟩ := ok_lt hf
  refine z_nm en ?_
  clear en
  refine lv_istore_n (lv' := [(3, .int v3_3), (0, .ref (E.2.2.1 a0)), (1, .int x1), (2, .int x2)]) hx hb dX7_begin_11 rfl hl (by decide) rfl (fun ls hl => ?_)
  obtain ⟨r12, hL12, hf⟩ := ok_bind hf
  have X12_0 : ∀ (s_6 : St), s_6 = r12 → ∀ (H : Heap) (locs : List Loc) (ls : Array Slot), lv_has ls 4 [] → World E sh2 s_6 H → va_S E.2.2.2 s.heap H locs → W p l e (rmd 1) s m args below meth c H locs 0 0 (MQ below (QW E sh2 none sz) args s 0 0 E.2.2.2) (F0 m 31 ls []) := by
    intro s_6 er H locs ls hl hw hS
    subst er
    replace hf := ok_un1 hf
    exact z_vretE hC hlocks hw hS hf hr dX7_begin_31
  have L12 : ∀ (n : Nat) (v3_4 : Int32) (s_5 : St), loopF (f_X7_begin_L12 a0) n (v3_4, s_5) = some r12 → ∀ (H : Heap) (locs : List Loc) (ls : Array Slot), lv_has ls 4 [(0, .ref (E.2.2.1 a0)), (3, .int v3_4)] → World E sh2 s_5 H → va_S E.2.2.2 s.heap H locs → W p l e (rmd 1) s m args below meth c H locs 0 0 (MQ below (QW E sh2 none sz) args s 0 0 E.2.2.2) (F0 m 12 ls []) := by
    intro n
    induction n with
    | zero =>
      intro v3_4 s_5 hf
      exact nz hf
    | succ n ih12 =>
      intro v3_4 s_5 hf H locs ls hl hw hS
      obtain ⟨xl12, hf, hi12, he12⟩ := ok_loop hf
      unfold f_X7_begin_L12 at hf
      replace hf := ok_un2 hf
      refine lv_iload_n hx hb dX7_begin_12 rfl (lv_at hl 1 rfl) ?_
      refine lv_bipush (v := 40) hx hb dX7_begin_13 (by decide) ?_
      have hif := ok_if hf
      refine lv_icmp_ge (tgt := 31) hx hb dX7_begin_15 (by decide) (fun hcd => ?_) (fun hcd => ?_)
      · have hf := hif.1 hcd
        clear hif
        cases hf
        exact X12_0 _ (he12 _ rfl) _ _ ls (lv_sub hl [] rfl) hw hS
      · have hf := hif.2 hcd
        clear hif
        refine lv_aload_n hx hb dX7_begin_18 rfl (lv_at hl 0 rfl) ?_
        refine gRow_items hC hw t0 wd282 dX7_begin_19 ?_
        refine lv_iload_n hx hb dX7_begin_22 rfl (lv_at hl 1 rfl) ?_
        refine lv_iconst (v := 0) hx hb dX7_begin_23 (by decide) ?_
        obtain ⟨hin, hf⟩ := ok_chk hf
        obtain ⟨s_7, en, hf⟩ := ok_lt hf
        refine z_iast hC hw hS (sR t0).2 hin en dX7_begin_24 (fun H locs hw hS => ?_)
        clear en
        obtain ⟨v3_8, en, hf⟩ := ok_lt hf
        refine lv_iinc (v := v3_8) (lv' := [(3, .int v3_8), (0, .ref (E.2.2.1 a0))]) hx hb dX7_begin_25 hl (k := 1) rfl (by rw [en]; rfl) (by decide) rfl (fun ls hl => ?_)
        clear en
        refine lv_goto (tgt := 12) hx hb dX7_begin_28 (by decide) ?_
        cases hf
        exact ih12 _ _ (hi12 _ rfl) _ _ ls (lv_sub hl [1, 0] rfl) hw hS
  exact L12 5000 _ _ hL12 _ _ ls (lv_sub hl [1, 0] rfl) hw hS
set_option maxHeartbeats 4000000 in
set_option maxRecDepth 100000 in
theorem m_X7_end (l : Launch) (E : Ev) {a0 : Nat} (t0 : isR a0) {s0 sz : St} (hf : f_X7_end a0 s0 = some sz) : MM l E sh2 yX7_end cX7_end 1 none (rmd 1) [.ref (E.2.2.1 a0)] s0 none sz := by
  unfold f_X7_end at hf
  refine z_enter (by decide +kernel) (Nat.le_of_ble_eq_true rfl) ?_
  intro p e s m args below meth c ls hC hr hlocks hw hS hl
  have hC : Cx p s m args c cX7_end 1 "FuseBox$Row" E := hC
  obtain ⟨hx, hb, hml, hown, hts, hTB⟩ := id hC
  have hl : lv_has ls 1 [(0, .ref (E.2.2.1 a0))] := hl
  refine lv_aload_n hx hb dX7_end_0 rfl (lv_at hl 0 rfl) ?_
  refine lv_iconst (v := -1) hx hb dX7_end_1 (by decide) ?_
  obtain ⟨s_1, en, hf⟩ := ok_lt hf
  refine pRow_size hC hw hS t0 wd281 en dX7_end_2 (fun H locs hw hS => ?_)
  clear en
  exact z_vretE hC hlocks hw hS hf hr dX7_end_5
set_option maxHeartbeats 4000000 in
set_option maxRecDepth 100000 in
theorem m_X7_isMissing (l : Launch) (E : Ev) {a0 : Nat} (t0 : isR a0) {s0 sz : St} {rz : Int32} (hf : f_X7_isMissing a0 s0 = some (rz, sz)) : MM l E sh2 yX7_isMissing cX7_isMissing 1 (some .boolean) (rmd 1) [.ref (E.2.2.1 a0)] s0 (some (.int rz)) sz := by
  unfold f_X7_isMissing at hf
  refine z_enter (by decide +kernel) (Nat.le_of_ble_eq_true rfl) ?_
  intro p e s m args below meth c ls hC hr hlocks hw hS hl
  have hC : Cx p s m args c cX7_isMissing 1 "FuseBox$Row" E := hC
  obtain ⟨hx, hb, hml, hown, hts, hTB⟩ := id hC
  have hl : lv_has ls 1 [(0, .ref (E.2.2.1 a0))] := hl
  refine lv_aload_n hx hb dX7_isMissing_0 rfl (lv_at hl 0 rfl) ?_
  refine gRow_size hC hw t0 wd281 dX7_isMissing_1 ?_
  obtain ⟨j12, ej12, hf⟩ := ok_lt hf
  have J12 : ∀ (k_1 : Int32) (s_2 : St), j12 k_1 s_2 = some (rz, sz) → ∀ (H : Heap) (locs : List Loc) (ls : Array Slot), lv_has ls 1 [] → World E sh2 s_2 H → va_S E.2.2.2 s.heap H locs → W p l e (rmd 1) s m args below meth c H locs 0 0 (MQ below (QW E sh2 (some (.int rz)) sz) args s 0 0 E.2.2.2) (F0 m 12 ls [.int k_1]) := by
    intro k_1 s_2 hf H locs ls hl hw hS
    subst ej12
    obtain ⟨hbo, hf⟩ := ok_chk hf
    exact z_iretE hC hlocks hw hS hf hr (narB hbo) dX7_isMissing_12
  clear ej12
  have hif := ok_if hf
  refine lv_if_ge (tgt := 11) hx hb dX7_isMissing_4 (by decide) (fun hcd => ?_) (fun hcd => ?_)
  · have hf := hif.1 hcd
    clear hif
    refine lv_iconst (v := 0) hx hb dX7_isMissing_11 (by decide) ?_
    exact J12 _ _ hf _ _ ls (lv_sub hl [] rfl) hw hS
  · have hf := hif.2 hcd
    clear hif
    refine lv_iconst (v := 1) hx hb dX7_isMissing_7 (by decide) ?_
    refine lv_goto (tgt := 12) hx hb dX7_isMissing_8 (by decide) ?_
    exact J12 _ _ hf _ _ ls (lv_sub hl [] rfl) hw hS
set_option maxHeartbeats 4000000 in
set_option maxRecDepth 100000 in
theorem m_X7_has (l : Launch) (E : Ev) {a0 : Nat} {x1 : Int32} {x2 : Int32} (t0 : isR a0) {s0 sz : St} {rz : Int32} (hf : f_X7_has a0 x1 x2 s0 = some (rz, sz)) : MM l E sh2 yX7_has cX7_has 3 (some .boolean) (rmd 1) [.ref (E.2.2.1 a0), .int x1, .int x2] s0 (some (.int rz)) sz := by
  unfold f_X7_has at hf
  refine z_enter (by decide +kernel) (Nat.le_of_ble_eq_true rfl) ?_
  intro p e s m args below meth c ls hC hr hlocks hw hS hl
  have hC : Cx p s m args c cX7_has 3 "FuseBox$Row" E := hC
  obtain ⟨hx, hb, hml, hown, hts, hTB⟩ := id hC
  have hl : lv_has ls 3 [(0, .ref (E.2.2.1 a0)), (1, .int x1), (2, .int x2)] := hl
  refine lv_iload_n hx hb dX7_has_0 rfl (lv_at hl 1 rfl) ?_
  obtain ⟨j31, ej31, hf⟩ := ok_lt hf
  have J31 : ∀ (k_1 : Int32) (s_2 : St), j31 k_1 s_2 = some (rz, sz) → ∀ (H : Heap) (locs : List Loc) (ls : Array Slot), lv_has ls 3 [] → World E sh2 s_2 H → va_S E.2.2.2 s.heap H locs → W p l e (rmd 1) s m args below meth c H locs 0 0 (MQ below (QW E sh2 (some (.int rz)) sz) args s 0 0 E.2.2.2) (F0 m 31 ls [.int k_1]) := by
    intro k_1 s_2 hf H locs ls hl hw hS
    subst ej31
    obtain ⟨hbo, hf⟩ := ok_chk hf
    exact z_iretE hC hlocks hw hS hf hr (narB hbo) dX7_has_31
  clear ej31
  obtain ⟨j30, ej30, hf⟩ := ok_lt hf
  have J30 : ∀ (s_3 : St), j30 s_3 = some (rz, sz) → ∀ (H : Heap) (locs : List Loc) (ls : Array Slot), lv_has ls 3 [] → World E sh2 s_3 H → va_S E.2.2.2 s.heap H locs → W p l e (rmd 1) s m args below meth c H locs 0 0 (MQ below (QW E sh2 (some (.int rz)) sz) args s 0 0 E.2.2.2) (F0 m 30 ls []) := by
    intro s_3 hf H locs ls hl hw hS
    subst ej30
    refine lv_iconst (v := 0) hx hb dX7_has_30 (by decide) ?_
    exact J31 _ _ hf _ _ ls hl hw hS
  clear ej30
  have hif := ok_if hf
  refine lv_if_lt (tgt := 30) hx hb dX7_has_1 (by decide) (fun hcd => ?_) (fun hcd => ?_)
  · have hf := hif.1 hcd
    clear hif
    exact J30 _ hf _ _ ls (lv_sub hl [] rfl) hw hS
  · have hf := hif.2 hcd
    clear hif
    refine lv_iload_n hx hb dX7_has_4 rfl (lv_at hl 2 rfl) ?_
    have hif := ok_if hf
    refine lv_if_lt (tgt := 30) hx hb dX7_has_5 (by decide) (fun hcd => ?_) (fun hcd => ?_)
    · have hf := hif.1 hcd
      clear hif
      exact J30 _ hf _ _ ls (lv_sub hl [] rfl) hw hS
    · have hf := hif.2 hcd
      clear hif
      refine lv_iload_n hx hb dX7_has_8 rfl (lv_at hl 1 rfl) ?_
      refine lv_aload_n hx hb dX7_has_9 rfl (lv_at hl 0 rfl) ?_
      refine gRow_size hC hw t0 wd281 dX7_has_10 ?_
      have hif := ok_if hf
      refine lv_icmp_gt (tgt := 30) hx hb dX7_has_13 (by decide) (fun hcd => ?_) (fun hcd => ?_)
      · have hf := hif.1 hcd
        clear hif
        exact J30 _ hf _ _ ls (lv_sub hl [] rfl) hw hS
      · have hf := hif.2 hcd
        clear hif
        refine lv_iload_n hx hb dX7_has_16 rfl (lv_at hl 2 rfl) ?_
        refine lv_aload_n hx hb dX7_has_17 rfl (lv_at hl 0 rfl) ?_
        refine gRow_size hC hw t0 wd281 dX7_has_18 ?_
        refine lv_iload_n hx hb dX7_has_21 rfl (lv_at hl 1 rfl) ?_
        refine lv_isub hx hb dX7_has_22 ?_
        have hif := ok_if hf
        refine lv_icmp_gt (tgt := 30) hx hb dX7_has_23 (by decide) (fun hcd => ?_) (fun hcd => ?_)
        · have hf := hif.1 hcd
          clear hif
          exact J30 _ hf _ _ ls (lv_sub hl [] rfl) hw hS
        · have hf := hif.2 hcd
          clear hif
          refine lv_iconst (v := 1) hx hb dX7_has_26 (by decide) ?_
          refine lv_goto (tgt := 31) hx hb dX7_has_27 (by decide) ?_
          exact J31 _ _ hf _ _ ls (lv_sub hl [] rfl) hw hS
set_option maxHeartbeats 4000000 in
set_option maxRecDepth 100000 in
theorem m_X7_cut (l : Launch) (E : Ev) {a0 : Nat} {x1 : Int32} (t0 : isR a0) {s0 sz : St} {rz : Int32} (hf : f_X7_cut a0 x1 s0 = some (rz, sz)) : MM l E sh2 yX7_cut cX7_cut 2 (some .int) (rmd 1) [.ref (E.2.2.1 a0), .int x1] s0 (some (.int rz)) sz := by
  unfold f_X7_cut at hf
  refine z_enter (by decide +kernel) (Nat.le_of_ble_eq_true rfl) ?_
  intro p e s m args below meth c ls hC hr hlocks hw hS hl
  have hC : Cx p s m args c cX7_cut 2 "FuseBox$Row" E := hC
  obtain ⟨hx, hb, hml, hown, hts, hTB⟩ := id hC
  have hl : lv_has ls 2 [(0, .ref (E.2.2.1 a0)), (1, .int x1)] := hl
  refine lv_aload_n hx hb dX7_cut_0 rfl (lv_at hl 0 rfl) ?_
  refine gRow_lane hC hw t0 wd280 dX7_cut_1 ?_
  have hif := ok_if hf
  by_cases hk0 : (s0 a0 1) = 0
  · have hf := hif.1 hk0
    clear hif
    refine lv_lookup (off := 28) (tgt := 32) hx hb dX7_cut_4 (by decide) (by rw [hk0]; rfl) (by decide) ?_
    refine lv_iload_n hx hb dX7_cut_32 rfl (lv_at hl 1 rfl) ?_
    refine lv_i2b (v := (x1).toInt8.toInt32) hx hb dX7_cut_33 rfl ?_
    exact z_iretE hC hlocks hw hS hf hr rfl dX7_cut_34
  replace hf := hif.2 hk0
  clear hif
  have hif := ok_if hf
  by_cases hk1 : (s0 a0 1) = 1
  · have hf := hif.1 hk1
    clear hif
    refine lv_lookup (off := 31) (tgt := 35) hx hb dX7_cut_4 (by decide) (by rw [hk1]; rfl) (by decide) ?_
    refine lv_iload_n hx hb dX7_cut_35 rfl (lv_at hl 1 rfl) ?_
    refine lv_i2s (v := (x1).toInt16.toInt32) hx hb dX7_cut_36 rfl ?_
    exact z_iretE hC hlocks hw hS hf hr rfl dX7_cut_37
  replace hf := hif.2 hk1
  clear hif
  refine lv_lookup (off := 34) (tgt := 38) hx hb dX7_cut_4 (by decide) (by show Op.lookupswitch.offset [(0, 28), (1, 31)] 34 _ = _; rw [lv_osw hk0 (by decide : (0 : Int32).toInt = 0), lv_osw hk1 (by decide : (1 : Int32).toInt = 1)]; rfl) (by decide) ?_
  refine lv_iload_n hx hb dX7_cut_38 rfl (lv_at hl 1 rfl) ?_
  exact z_iretE hC hlocks hw hS hf hr rfl dX7_cut_39
set_option maxHeartbeats 4000000 in
set_option maxRecDepth 100000 in
theorem m_X10_markOf_15 (l : Launch) (E : Ev) {a1 : Nat} {x2 : Int32} (t1 : isH a1) {s0 sz : St} {rz : Int32} (hf : f_X10_markOf_15 a1 x2 s0 = some (rz, sz)) : MM l E sh2 yX10_markOf cX10_markOf 4 (some .int) (rmd 3) [.ref (E.2.2.1 15), .ref (E.2.2.1 a1), .int x2, .ref (E.2.2.1 11)] s0 (some (.int rz)) sz := by
  unfold f_X10_markOf_15 at hf
  refine z_enter (by decide +kernel) (Nat.le_of_ble_eq_true rfl) ?_
  intro p e s m args below meth c ls hC hr hlocks hw hS hl
  have hC : Cx p s m args c cX10_markOf 4 "FuseBox$Wire" E := hC
  obtain ⟨hx, hb, hml, hown, hts, hTB⟩ := id hC
  have hl : lv_has ls 4 [(0, .ref (E.2.2.1 15)), (1, .ref (E.2.2.1 a1)), (2, .int x2), (3, .ref (E.2.2.1 11))] := hl
  refine lv_aload_n hx hb dX10_markOf_0 rfl (lv_at hl 3 rfl) ?_
  refine lv_bipush (v := 21) hx hb dX10_markOf_1 (by decide) ?_
  obtain ⟨s_1, hc, hf⟩ := ok_bind hf
  refine z_cV hC hl.1 hw hS (As := [.int (21 : Int32)]) (rest := []) (m_X9_leave l E  hc) rfl rfl gc78 gc5 ⟨Nat.le_of_ble_eq_true rfl, Nat.le_of_ble_eq_true rfl⟩ ⟨Nat.le_of_ble_eq_true rfl, Nat.le_of_ble_eq_true rfl⟩ rfl rfl (Nat.le_of_ble_eq_true rfl) dX10_markOf_3 (fun H locs hw hS => ?_)
  clear hc
  refine lv_aload_n hx hb dX10_markOf_6 rfl (lv_at hl 0 rfl) ?_
  refine lv_aload_n hx hb dX10_markOf_7 rfl (lv_at hl 1 rfl) ?_
  refine lv_iload_n hx hb dX10_markOf_8 rfl (lv_at hl 2 rfl) ?_
  refine lv_aload_n hx hb dX10_markOf_9 rfl (lv_at hl 3 rfl) ?_
  obtain ⟨r_3, s_2, hc, hf⟩ := ok_bd hf
  refine z_cSU hC hl.1 hw hS (As := [.ref (E.2.2.1 a1), .int x2, .ref (E.2.2.1 11)]) (rest := []) (m_X2_markOf_15 l E t1 hc) (ci := 7) (ks := []) rfl rfl gc79 gc10 ⟨Nat.le_of_ble_eq_true rfl, Nat.le_of_ble_eq_true rfl⟩ ⟨Nat.le_of_ble_eq_true rfl, Nat.le_of_ble_eq_true rfl⟩ rfl rfl (Nat.le_of_ble_eq_true rfl) dX10_markOf_10 (fun H locs hw hS => ?_)
  clear hc
  refine lv_aload_n hx hb dX10_markOf_13 rfl (lv_at hl 1 rfl) ?_
  refine gHouse_heat hC hw t1 wd212 dX10_markOf_14 ?_
  refine lv_iload_n hx hb dX10_markOf_17 rfl (lv_at hl 2 rfl) ?_
  obtain ⟨hin, hf⟩ := ok_chk hf
  refine z_iald hC hw (sH t1).2.2.2.1 hin dX10_markOf_18 ?_
  refine lv_iadd hx hb dX10_markOf_19 ?_
  exact z_iretE hC hlocks hw hS hf hr rfl dX10_markOf_20
set_option maxHeartbeats 4000000 in
set_option maxRecDepth 100000 in
theorem m_X8_markOf_15 (l : Launch) (E : Ev) {a1 : Nat} {x2 : Int32} (t1 : isH a1) {s0 sz : St} {rz : Int32} (hf : f_X8_markOf_15 a1 x2 s0 = some (rz, sz)) : MM l E sh2 yX8_markOf cX8_markOf 4 (some .int) (rmd 4) [.ref (E.2.2.1 15), .ref (E.2.2.1 a1), .int x2, .ref (E.2.2.1 11)] s0 (some (.int rz)) sz := by
  unfold f_X8_markOf_15 at hf
  refine z_enter (by decide +kernel) (Nat.le_of_ble_eq_true rfl) ?_
  intro p e s m args below meth c ls hC hr hlocks hw hS hl
  have hC : Cx p s m args c cX8_markOf 4 "FuseBox$Slow" E := hC
  obtain ⟨hx, hb, hml, hown, hts, hTB⟩ := id hC
  have hl : lv_has ls 4 [(0, .ref (E.2.2.1 15)), (1, .ref (E.2.2.1 a1)), (2, .int x2), (3, .ref (E.2.2.1 11))] := hl
  refine lv_aload_n hx hb dX8_markOf_0 rfl (lv_at hl 3 rfl) ?_
  refine lv_bipush (v := 24) hx hb dX8_markOf_1 (by decide) ?_
  obtain ⟨s_1, hc, hf⟩ := ok_bind hf
  refine z_cV hC hl.1 hw hS (As := [.int (24 : Int32)]) (rest := []) (m_X9_leave l E  hc) rfl rfl gc109 gc5 ⟨Nat.le_of_ble_eq_true rfl, Nat.le_of_ble_eq_true rfl⟩ ⟨Nat.le_of_ble_eq_true rfl, Nat.le_of_ble_eq_true rfl⟩ rfl rfl (Nat.le_of_ble_eq_true rfl) dX8_markOf_3 (fun H locs hw hS => ?_)
  clear hc
  refine lv_iconst (v := 2) hx hb dX8_markOf_6 (by decide) ?_
  refine lv_aload_n hx hb dX8_markOf_7 rfl (lv_at hl 0 rfl) ?_
  refine lv_aload_n hx hb dX8_markOf_8 rfl (lv_at hl 1 rfl) ?_
  refine lv_iload_n hx hb dX8_markOf_9 rfl (lv_at hl 2 rfl) ?_
  refine lv_aload_n hx hb dX8_markOf_10 rfl (lv_at hl 3 rfl) ?_
  obtain ⟨r_3, s_2, hc, hf⟩ := ok_bd hf
  refine z_cSU hC hl.1 hw hS (As := [.ref (E.2.2.1 a1), .int x2, .ref (E.2.2.1 11)]) (rest := [.int (2 : Int32)]) (m_X10_markOf_15 l E t1 hc) (ci := 7) (ks := []) rfl rfl gc110 gc82 ⟨Nat.le_of_ble_eq_true rfl, Nat.le_of_ble_eq_true rfl⟩ ⟨Nat.le_of_ble_eq_true rfl, Nat.le_of_ble_eq_true rfl⟩ rfl rfl (Nat.le_of_ble_eq_true rfl) dX8_markOf_11 (fun H locs hw hS => ?_)
  clear hc
  refine lv_imul hx hb dX8_markOf_14 ?_
  exact z_iretE hC hlocks hw hS hf hr rfl dX8_markOf_15
set_option maxHeartbeats 4000000 in
set_option maxRecDepth 100000 in
theorem m_X10_sizeOf_15 (l : Launch) (E : Ev) {a1 : Nat} {x2 : Int32} (t1 : isH a1) {s0 sz : St} {rz : Int32} (hf : f_X10_sizeOf_15 a1 x2 s0 = some (rz, sz)) : MM l E sh2 yX10_sizeOf cX10_sizeOf 5 (some .int) (rmd 5) [.ref (E.2.2.1 15), .ref (E.2.2.1 a1), .int x2, .ref (E.2.2.1 11)] s0 (some (.int rz)) sz := by
  unfold f_X10_sizeOf_15 at hf
  refine z_enter (by decide +kernel) (Nat.le_of_ble_eq_true rfl) ?_
  intro p e s m args below meth c ls hC hr hlocks hw hS hl
  have hC : Cx p s m args c cX10_sizeOf 5 "FuseBox$Wire" E := hC
  obtain ⟨hx, hb, hml, hown, hts, hTB⟩ := id hC
  have hl : lv_has ls 5 [(0, .ref (E.2.2.1 15)), (1, .ref (E.2.2.1 a1)), (2, .int x2), (3, .ref (E.2.2.1 11))] := hl
  refine lv_aload_n hx hb dX10_sizeOf_0 rfl (lv_at hl 3 rfl) ?_
  refine lv_bipush (v := 11) hx hb dX10_sizeOf_1 (by decide) ?_
  obtain ⟨s_1, hc, hf⟩ := ok_bind hf
  refine z_cV hC hl.1 hw hS (As := [.int (11 : Int32)]) (rest := []) (m_X9_leave l E  hc) rfl rfl gc78 gc5 ⟨Nat.le_of_ble_eq_true rfl, Nat.le_of_ble_eq_true rfl⟩ ⟨Nat.le_of_ble_eq_true rfl, Nat.le_of_ble_eq_true rfl⟩ rfl rfl (Nat.le_of_ble_eq_true rfl) dX10_sizeOf_3 (fun H locs hw hS => ?_)
  clear hc
  refine lv_aload_n hx hb dX10_sizeOf_6 rfl (lv_at hl 0 rfl) ?_
  refine lv_aload_n hx hb dX10_sizeOf_7 rfl (lv_at hl 1 rfl) ?_
  refine lv_iload_n hx hb dX10_sizeOf_8 rfl (lv_at hl 2 rfl) ?_
  refine lv_aload_n hx hb dX10_sizeOf_9 rfl (lv_at hl 3 rfl) ?_
  obtain ⟨r_3, s_2, hc, hf⟩ := ok_bd hf
  refine z_cSU hC hl.1 hw hS (As := [.ref (E.2.2.1 a1), .int x2, .ref (E.2.2.1 11)]) (rest := []) (m_X2_sizeOf_15 l E t1 hc) (ci := 7) (ks := []) rfl rfl gc111 gc8 ⟨Nat.le_of_ble_eq_true rfl, Nat.le_of_ble_eq_true rfl⟩ ⟨Nat.le_of_ble_eq_true rfl, Nat.le_of_ble_eq_true rfl⟩ rfl rfl (Nat.le_of_ble_eq_true rfl) dX10_sizeOf_10 (fun H locs hw hS => ?_)
  clear hc
  refine lv_istore (lv' := [(4, .int r_3), (0, .ref (E.2.2.1 15)), (1, .ref (E.2.2.1 a1)), (2, .int x2), (3, .ref (E.2.2.1 11))]) hx hb dX10_sizeOf_13 hl (by decide) rfl (fun ls hl => ?_)
  refine lv_iload hx hb dX10_sizeOf_15 (lv_at hl 0 rfl) ?_
  refine lv_aload_n hx hb dX10_sizeOf_17 rfl (lv_at hl 1 rfl) ?_
  refine lv_aload_n hx hb dX10_sizeOf_18 rfl (lv_at hl 2 rfl) ?_
  refine lv_iload_n hx hb dX10_sizeOf_19 rfl (lv_at hl 3 rfl) ?_
  refine lv_aload_n hx hb dX10_sizeOf_20 rfl (lv_at hl 4 rfl) ?_
  obtain ⟨r_5, s_4, hc, hf⟩ := ok_bd hf
  refine z_cU hC hl.1 hw hS (As := [.ref (E.2.2.1 a1), .int x2, .ref (E.2.2.1 11)]) (rest := [.int r_3]) (m_X8_markOf_15 l E t1 hc) (ci := 7) (ks := []) rfl rfl (C := "FuseBox$Slow") (va_cwO 3 hts gc112 rfl rfl rfl wd217 gc113 ⟨Nat.le_of_ble_eq_true rfl, Nat.le_of_ble_eq_true rfl⟩) ⟨Nat.le_of_ble_eq_true rfl, Nat.le_of_ble_eq_true rfl⟩ rfl rfl (Nat.le_of_ble_eq_true rfl) dX10_sizeOf_21 (fun H locs hw hS => ?_)
  clear hc
  refine lv_iadd hx hb dX10_sizeOf_24 ?_
  exact z_iretE hC hlocks hw hS hf hr rfl dX10_sizeOf_25
set_option maxHeartbeats 4000000 in
set_option maxRecDepth 100000 in
theorem m_X8_sizeOf_15 (l : Launch) (E : Ev) {a1 : Nat} {x2 : Int32} (t1 : isH a1) {s0 sz : St} {rz : Int32} (hf : f_X8_sizeOf_15 a1 x2 s0 = some (rz, sz)) : MM l E sh2 yX8_sizeOf cX8_sizeOf 4 (some .int) (rmd 6) [.ref (E.2.2.1 15), .ref (E.2.2.1 a1), .int x2, .ref (E.2.2.1 11)] s0 (some (.int rz)) sz := by
  unfold f_X8_sizeOf_15 at hf
  refine z_enter (by decide +kernel) (Nat.le_of_ble_eq_true rfl) ?_
  intro p e s m args below meth c ls hC hr hlocks hw hS hl
  have hC : Cx p s m args c cX8_sizeOf 4 "FuseBox$Slow" E := hC
  obtain ⟨hx, hb, hml, hown, hts, hTB⟩ := id hC
  have hl : lv_has ls 4 [(0, .ref (E.2.2.1 15)), (1, .ref (E.2.2.1 a1)), (2, .int x2), (3, .ref (E.2.2.1 11))] := hl
  refine lv_aload_n hx hb dX8_sizeOf_0 rfl (lv_at hl 3 rfl) ?_
  refine lv_bipush (v := 12) hx hb dX8_sizeOf_1 (by decide) ?_
  obtain ⟨s_1, hc, hf⟩ := ok_bind hf
  refine z_cV hC hl.1 hw hS (As := [.int (12 : Int32)]) (rest := []) (m_X9_leave l E  hc) rfl rfl gc109 gc5 ⟨Nat.le_of_ble_eq_true rfl, Nat.le_of_ble_eq_true rfl⟩ ⟨Nat.le_of_ble_eq_true rfl, Nat.le_of_ble_eq_true rfl⟩ rfl rfl (Nat.le_of_ble_eq_true rfl) dX8_sizeOf_3 (fun H locs hw hS => ?_)
  clear hc
  refine lv_aload_n hx hb dX8_sizeOf_6 rfl (lv_at hl 0 rfl) ?_
  refine lv_aload_n hx hb dX8_sizeOf_7 rfl (lv_at hl 1 rfl) ?_
  refine lv_iload_n hx hb dX8_sizeOf_8 rfl (lv_at hl 2 rfl) ?_
  refine lv_aload_n hx hb dX8_sizeOf_9 rfl (lv_at hl 3 rfl) ?_
  obtain ⟨r_3, s_2, hc, hf⟩ := ok_bd hf
  refine z_cSU hC hl.1 hw hS (As := [.ref (E.2.2.1 a1), .int x2, .ref (E.2.2.1 11)]) (rest := []) (m_X10_sizeOf_15 l E t1 hc) (ci := 7) (ks := []) rfl rfl gc114 gc115 ⟨Nat.le_of_ble_eq_true rfl, Nat.le_of_ble_eq_true rfl⟩ ⟨Nat.le_of_ble_eq_true rfl, Nat.le_of_ble_eq_true rfl⟩ rfl rfl (Nat.le_of_ble_eq_true rfl) dX8_sizeOf_10 (fun H locs hw hS => ?_)
  clear hc
  refine lv_ineg hx hb dX8_sizeOf_13 ?_
  exact z_iretE hC hlocks hw hS hf hr rfl dX8_sizeOf_14
set_option maxHeartbeats 4000000 in
set_option maxRecDepth 100000 in
theorem m_X9_empty (l : Launch) (E : Ev)   {s0 sz : St} (hf : f_X9_empty s0 = some sz) : MM l E sh2 yX9_empty cX9_empty 1 none (rmd 1) [.ref (E.2.2.1 11)] s0 none sz := by
  unfold f_X9_empty at hf
  refine z_enter (by decide +kernel) (Nat.le_of_ble_eq_true rfl) ?_
  intro p e s m args below meth c ls hC hr hlocks hw hS hl
  have hC : Cx p s m args c cX9_empty 1 "FuseBox$Trace" E := hC
  obtain ⟨hx, hb, hml, hown, hts, hTB⟩ := id hC
  have hl : lv_has ls 1 [(0, .ref (E.2.2.1 11))] := hl
  refine lv_aload_n hx hb dX9_empty_0 rfl (lv_at hl 0 rfl) ?_
  refine lv_iconst (v := 0) hx hb dX9_empty_1 (by decide) ?_
  obtain ⟨s_1, en, hf⟩ := ok_lt hf
  refine pTrace_size hC hw hS wd10 en dX9_empty_2 (fun H locs hw hS => ?_)
  clear en
  exact z_vretE hC hlocks hw hS hf hr dX9_empty_5
set_option maxHeartbeats 4000000 in
set_option maxRecDepth 100000 in
theorem m_X10_heatBy_15 (l : Launch) (E : Ev) {x1 : Int32}  {s0 sz : St} {rz : Int32} (hf : f_X10_heatBy_15 x1 s0 = some (rz, sz)) : MM l E sh2 yX10_heatBy cX10_heatBy 2 (some .int) (rmd 1) [.ref (E.2.2.1 15), .int x1] s0 (some (.int rz)) sz := by
  unfold f_X10_heatBy_15 at hf
  refine z_enter (by decide +kernel) (Nat.le_of_ble_eq_true rfl) ?_
  intro p e s m args below meth c ls hC hr hlocks hw hS hl
  have hC : Cx p s m args c cX10_heatBy 2 "FuseBox$Wire" E := hC
  obtain ⟨hx, hb, hml, hown, hts, hTB⟩ := id hC
  have hl : lv_has ls 2 [(0, .ref (E.2.2.1 15)), (1, .int x1)] := hl
  refine lv_iload_n hx hb dX10_heatBy_0 rfl (lv_at hl 1 rfl) ?_
  exact z_iretE hC hlocks hw hS hf hr rfl dX10_heatBy_1
set_option maxHeartbeats 4000000 in
set_option maxRecDepth 100000 in
theorem m_X10_markOf_14 (l : Launch) (E : Ev) {a1 : Nat} {x2 : Int32} (t1 : isH a1) {s0 sz : St} {rz : Int32} (hf : f_X10_markOf_14 a1 x2 s0 = some (rz, sz)) : MM l E sh2 yX10_markOf cX10_markOf 4 (some .int) (rmd 3) [.ref (E.2.2.1 14), .ref (E.2.2.1 a1), .int x2, .ref (E.2.2.1 11)] s0 (some (.int rz)) sz := by
  unfold f_X10_markOf_14 at hf
  refine z_enter (by decide +kernel) (Nat.le_of_ble_eq_true rfl) ?_
  intro p e s m args below meth c ls hC hr hlocks hw hS hl
  have hC : Cx p s m args c cX10_markOf 4 "FuseBox$Wire" E := hC
  obtain ⟨hx, hb, hml, hown, hts, hTB⟩ := id hC
  have hl : lv_has ls 4 [(0, .ref (E.2.2.1 14)), (1, .ref (E.2.2.1 a1)), (2, .int x2), (3, .ref (E.2.2.1 11))] := hl
  refine lv_aload_n hx hb dX10_markOf_0 rfl (lv_at hl 3 rfl) ?_
  refine lv_bipush (v := 21) hx hb dX10_markOf_1 (by decide) ?_
  obtain ⟨s_1, hc, hf⟩ := ok_bind hf
  refine z_cV hC hl.1 hw hS (As := [.int (21 : Int32)]) (rest := []) (m_X9_leave l E  hc) rfl rfl gc78 gc5 ⟨Nat.le_of_ble_eq_true rfl, Nat.le_of_ble_eq_true rfl⟩ ⟨Nat.le_of_ble_eq_true rfl, Nat.le_of_ble_eq_true rfl⟩ rfl rfl (Nat.le_of_ble_eq_true rfl) dX10_markOf_3 (fun H locs hw hS => ?_)
  clear hc
  refine lv_aload_n hx hb dX10_markOf_6 rfl (lv_at hl 0 rfl) ?_
  refine lv_aload_n hx hb dX10_markOf_7 rfl (lv_at hl 1 rfl) ?_
  refine lv_iload_n hx hb dX10_markOf_8 rfl (lv_at hl 2 rfl) ?_
  refine lv_aload_n hx hb dX10_markOf_9 rfl (lv_at hl 3 rfl) ?_
  obtain ⟨r_3, s_2, hc, hf⟩ := ok_bd hf
  refine z_cSU hC hl.1 hw hS (As := [.ref (E.2.2.1 a1), .int x2, .ref (E.2.2.1 11)]) (rest := []) (m_X2_markOf_14 l E t1 hc) (ci := 9) (ks := []) rfl rfl gc79 gc10 ⟨Nat.le_of_ble_eq_true rfl, Nat.le_of_ble_eq_true rfl⟩ ⟨Nat.le_of_ble_eq_true rfl, Nat.le_of_ble_eq_true rfl⟩ rfl rfl (Nat.le_of_ble_eq_true rfl) dX10_markOf_10 (fun H locs hw hS => ?_)
  clear hc
  refine lv_aload_n hx hb dX10_markOf_13 rfl (lv_at hl 1 rfl) ?_
  refine gHouse_heat hC hw t1 wd212 dX10_markOf_14 ?_
  refine lv_iload_n hx hb dX10_markOf_17 rfl (lv_at hl 2 rfl) ?_
  obtain ⟨hin, hf⟩ := ok_chk hf
  refine z_iald hC hw (sH t1).2.2.2.1 hin dX10_markOf_18 ?_
  refine lv_iadd hx hb dX10_markOf_19 ?_
  exact z_iretE hC hlocks hw hS hf hr rfl dX10_markOf_20
set_option maxHeartbeats 4000000 in
set_option maxRecDepth 100000 in
theorem m_X10_sizeOf_14 (l : Launch) (E : Ev) {a1 : Nat} {x2 : Int32} (t1 : isH a1) {s0 sz : St} {rz : Int32} (hf : f_X10_sizeOf_14 a1 x2 s0 = some (rz, sz)) : MM l E sh2 yX10_sizeOf cX10_sizeOf 5 (some .int) (rmd 4) [.ref (E.2.2.1 14), .ref (E.2.2.1 a1), .int x2, .ref (E.2.2.1 11)] s0 (some (.int rz)) sz := by
  unfold f_X10_sizeOf_14 at hf
  refine z_enter (by decide +kernel) (Nat.le_of_ble_eq_true rfl) ?_
  intro p e s m args below meth c ls hC hr hlocks hw hS hl
  have hC : Cx p s m args c cX10_sizeOf 5 "FuseBox$Wire" E := hC
  obtain ⟨hx, hb, hml, hown, hts, hTB⟩ := id hC
  have hl : lv_has ls 5 [(0, .ref (E.2.2.1 14)), (1, .ref (E.2.2.1 a1)), (2, .int x2), (3, .ref (E.2.2.1 11))] := hl
  refine lv_aload_n hx hb dX10_sizeOf_0 rfl (lv_at hl 3 rfl) ?_
  refine lv_bipush (v := 11) hx hb dX10_sizeOf_1 (by decide) ?_
  obtain ⟨s_1, hc, hf⟩ := ok_bind hf
  refine z_cV hC hl.1 hw hS (As := [.int (11 : Int32)]) (rest := []) (m_X9_leave l E  hc) rfl rfl gc78 gc5 ⟨Nat.le_of_ble_eq_true rfl, Nat.le_of_ble_eq_true rfl⟩ ⟨Nat.le_of_ble_eq_true rfl, Nat.le_of_ble_eq_true rfl⟩ rfl rfl (Nat.le_of_ble_eq_true rfl) dX10_sizeOf_3 (fun H locs hw hS => ?_)
  clear hc
  refine lv_aload_n hx hb dX10_sizeOf_6 rfl (lv_at hl 0 rfl) ?_
  refine lv_aload_n hx hb dX10_sizeOf_7 rfl (lv_at hl 1 rfl) ?_
  refine lv_iload_n hx hb dX10_sizeOf_8 rfl (lv_at hl 2 rfl) ?_
  refine lv_aload_n hx hb dX10_sizeOf_9 rfl (lv_at hl 3 rfl) ?_
  obtain ⟨r_3, s_2, hc, hf⟩ := ok_bd hf
  refine z_cSU hC hl.1 hw hS (As := [.ref (E.2.2.1 a1), .int x2, .ref (E.2.2.1 11)]) (rest := []) (m_X2_sizeOf_14 l E t1 hc) (ci := 9) (ks := []) rfl rfl gc111 gc8 ⟨Nat.le_of_ble_eq_true rfl, Nat.le_of_ble_eq_true rfl⟩ ⟨Nat.le_of_ble_eq_true rfl, Nat.le_of_ble_eq_true rfl⟩ rfl rfl (Nat.le_of_ble_eq_true rfl) dX10_sizeOf_10 (fun H locs hw hS => ?_)
  clear hc
  refine lv_istore (lv' := [(4, .int r_3), (0, .ref (E.2.2.1 14)), (1, .ref (E.2.2.1 a1)), (2, .int x2), (3, .ref (E.2.2.1 11))]) hx hb dX10_sizeOf_13 hl (by decide) rfl (fun ls hl => ?_)
  refine lv_iload hx hb dX10_sizeOf_15 (lv_at hl 0 rfl) ?_
  refine lv_aload_n hx hb dX10_sizeOf_17 rfl (lv_at hl 1 rfl) ?_
  refine lv_aload_n hx hb dX10_sizeOf_18 rfl (lv_at hl 2 rfl) ?_
  refine lv_iload_n hx hb dX10_sizeOf_19 rfl (lv_at hl 3 rfl) ?_
  refine lv_aload_n hx hb dX10_sizeOf_20 rfl (lv_at hl 4 rfl) ?_
  obtain ⟨r_5, s_4, hc, hf⟩ := ok_bd hf
  refine z_cV hC hl.1 hw hS (As := [.ref (E.2.2.1 a1), .int x2, .ref (E.2.2.1 11)]) (rest := [.int r_3]) (m_X10_markOf_14 l E t1 hc) (ci := 9) (ks := []) rfl rfl gc116 gc117 ⟨Nat.le_of_ble_eq_true rfl, Nat.le_of_ble_eq_true rfl⟩ ⟨Nat.le_of_ble_eq_true rfl, Nat.le_of_ble_eq_true rfl⟩ rfl rfl (Nat.le_of_ble_eq_true rfl) dX10_sizeOf_21 (fun H locs hw hS => ?_)
  clear hc
  refine lv_iadd hx hb dX10_sizeOf_24 ?_
  exact z_iretE hC hlocks hw hS hf hr rfl dX10_sizeOf_25
set_option maxHeartbeats 4000000 in
set_option maxRecDepth 100000 in
theorem m_X10_sizeOf_16 (l : Launch) (E : Ev) {a1 : Nat} {x2 : Int32} (t1 : isH a1) {s0 sz : St} {rz : Int32} (hf : f_X10_sizeOf_16 a1 x2 s0 = some (rz, sz)) : MM l E sh2 yX10_sizeOf cX10_sizeOf 5 (some .int) (rmd 5) [.ref (E.2.2.1 16), .ref (E.2.2.1 a1), .int x2, .ref (E.2.2.1 11)] s0 (some (.int rz)) sz := by
  unfold f_X10_sizeOf_16 at hf
  refine z_enter (by decide +kernel) (Nat.le_of_ble_eq_true rfl) ?_
  intro p e s m args below meth c ls hC hr hlocks hw hS hl
  have hC : Cx p s m args c cX10_sizeOf 5 "FuseBox$Wire" E := hC
  obtain ⟨hx, hb, hml, hown, hts, hTB⟩ := id hC
  have hl : lv_has ls 5 [(0, .ref (E.2.2.1 16)), (1, .ref (E.2.2.1 a1)), (2, .int x2), (3, .ref (E.2.2.1 11))] := hl
  refine lv_aload_n hx hb dX10_sizeOf_0 rfl (lv_at hl 3 rfl) ?_
  refine lv_bipush (v := 11) hx hb dX10_sizeOf_1 (by decide) ?_
  obtain ⟨s_1, hc, hf⟩ := ok_bind hf
  refine z_cV hC hl.1 hw hS (As := [.int (11 : Int32)]) (rest := []) (m_X9_leave l E  hc) rfl rfl gc78 gc5 ⟨Nat.le_of_ble_eq_true rfl, Nat.le_of_ble_eq_true rfl⟩ ⟨Nat.le_of_ble_eq_true rfl, Nat.le_of_ble_eq_true rfl⟩ rfl rfl (Nat.le_of_ble_eq_true rfl) dX10_sizeOf_3 (fun H locs hw hS => ?_)
  clear hc
  refine lv_aload_n hx hb dX10_sizeOf_6 rfl (lv_at hl 0 rfl) ?_
  refine lv_aload_n hx hb dX10_sizeOf_7 rfl (lv_at hl 1 rfl) ?_
  refine lv_iload_n hx hb dX10_sizeOf_8 rfl (lv_at hl 2 rfl) ?_
  refine lv_aload_n hx hb dX10_sizeOf_9 rfl (lv_at hl 3 rfl) ?_
  obtain ⟨r_3, s_2, hc, hf⟩ := ok_bd hf
  refine z_cSU hC hl.1 hw hS (As := [.ref (E.2.2.1 a1), .int x2, .ref (E.2.2.1 11)]) (rest := []) (m_X2_sizeOf_16 l E t1 hc) (ci := 4) (ks := []) rfl rfl gc111 gc8 ⟨Nat.le_of_ble_eq_true rfl, Nat.le_of_ble_eq_true rfl⟩ ⟨Nat.le_of_ble_eq_true rfl, Nat.le_of_ble_eq_true rfl⟩ rfl rfl (Nat.le_of_ble_eq_true rfl) dX10_sizeOf_10 (fun H locs hw hS => ?_)
  clear hc
  refine lv_istore (lv' := [(4, .int r_3), (0, .ref (E.2.2.1 16)), (1, .ref (E.2.2.1 a1)), (2, .int x2), (3, .ref (E.2.2.1 11))]) hx hb dX10_sizeOf_13 hl (by decide) rfl (fun ls hl => ?_)
  refine lv_iload hx hb dX10_sizeOf_15 (lv_at hl 0 rfl) ?_
  refine lv_aload_n hx hb dX10_sizeOf_17 rfl (lv_at hl 1 rfl) ?_
  refine lv_aload_n hx hb dX10_sizeOf_18 rfl (lv_at hl 2 rfl) ?_
  refine lv_iload_n hx hb dX10_sizeOf_19 rfl (lv_at hl 3 rfl) ?_
  refine lv_aload_n hx hb dX10_sizeOf_20 rfl (lv_at hl 4 rfl) ?_
  obtain ⟨r_5, s_4, hc, hf⟩ := ok_bd hf
  refine z_cU hC hl.1 hw hS (As := [.ref (E.2.2.1 a1), .int x2, .ref (E.2.2.1 11)]) (rest := [.int r_3]) (m_X5_markOf_16 l E t1 hc) (ci := 4) (ks := []) rfl rfl (C := "FuseBox$Quick") (va_cwO 3 hts gc118 rfl rfl rfl wd217 gc113 ⟨Nat.le_of_ble_eq_true rfl, Nat.le_of_ble_eq_true rfl⟩) ⟨Nat.le_of_ble_eq_true rfl, Nat.le_of_ble_eq_true rfl⟩ rfl rfl (Nat.le_of_ble_eq_true rfl) dX10_sizeOf_21 (fun H locs hw hS => ?_)
  clear hc
  refine lv_iadd hx hb dX10_sizeOf_24 ?_
  exact z_iretE hC hlocks hw hS hf hr rfl dX10_sizeOf_25
