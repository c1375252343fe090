set_option maxHeartbeats 4000000 in
set_option maxRecDepth 100000 in
theorem m_X12_in (l : Launch) (E : Ev) {x0 : Int64} {x2 : Int64} {x4 : Int64}  {s0 sz : St} {rz : Int32} (hf : f_X12_in x0 x2 x4 s0 = some (rz, sz)) : MM l E sh2 yX12_in cX12_in 6 (some .boolean) (rmd 1) [.long x0, .long x2, .long x4] s0 (some (.int rz)) sz := by
  unfold f_X12_in at hf
  refine z_enter (by decide +kernel) (Nat.le_of_ble_eq_true rfl) ?_
  intro p e s m args below meth c ls hC hr hlocks hw hS hl
  have hC : Cx p s m args c cX12_in 6 "FuseBoxModel" E := hC
  obtain ⟨hx, hb, hml, hown, hts, hTB⟩ := id hC
  have hl : lv_has ls 6 [(0, .long x0), (2, .long x2), (4, .long x4)] := hl
  refine lv_lload_n hx hb dX12_in_0 rfl (lv_at hl 0 rfl) ?_
  refine lv_lload_n hx hb dX12_in_1 rfl (lv_at hl 1 rfl) ?_
  refine W.lcmp hx hb dX12_in_2 ?_
  obtain ⟨j18, ej18, hf⟩ := ok_lt hf
  have J18 : ∀ (k_1 : Int32) (s_2 : St), j18 k_1 s_2 = some (rz, sz) → ∀ (H : Heap) (locs : List Loc) (ls : Array Slot), lv_has ls 6 [] → World E sh2 s_2 H → va_S E.2.2.2 s.heap H locs → W p l e (rmd 1) s m args below meth c H locs 0 0 (MQ below (QW E sh2 (some (.int rz)) sz) args s 0 0 E.2.2.2) (F0 m 18 ls [.int k_1]) := by
    intro k_1 s_2 hf H locs ls hl hw hS
    subst ej18
    obtain ⟨hbo, hf⟩ := ok_chk hf
    exact z_iretE hC hlocks hw hS hf hr (narB hbo) dX12_in_18
  clear ej18
  obtain ⟨j17, ej17, hf⟩ := ok_lt hf
  have J17 : ∀ (s_3 : St), j17 s_3 = some (rz, sz) → ∀ (H : Heap) (locs : List Loc) (ls : Array Slot), lv_has ls 6 [] → World E sh2 s_3 H → va_S E.2.2.2 s.heap H locs → W p l e (rmd 1) s m args below meth c H locs 0 0 (MQ below (QW E sh2 (some (.int rz)) sz) args s 0 0 E.2.2.2) (F0 m 17 ls []) := by
    intro s_3 hf H locs ls hl hw hS
    subst ej17
    refine lv_iconst (v := 0) hx hb dX12_in_17 (by decide) ?_
    exact J18 _ _ hf _ _ ls hl hw hS
  clear ej17
  have hif := ok_if hf
  refine lv_if_lt (tgt := 17) hx hb dX12_in_3 (by decide) (fun hcd => ?_) (fun hcd => ?_)
  · have hf := hif.1 hcd
    clear hif
    exact J17 _ hf _ _ ls (lv_sub hl [] rfl) hw hS
  · have hf := hif.2 hcd
    clear hif
    refine lv_lload_n hx hb dX12_in_6 rfl (lv_at hl 0 rfl) ?_
    refine lv_lload hx hb dX12_in_7 (lv_at hl 2 rfl) ?_
    refine W.lcmp hx hb dX12_in_9 ?_
    have hif := ok_if hf
    refine lv_if_gt (tgt := 17) hx hb dX12_in_10 (by decide) (fun hcd => ?_) (fun hcd => ?_)
    · have hf := hif.1 hcd
      clear hif
      exact J17 _ hf _ _ ls (lv_sub hl [] rfl) hw hS
    · have hf := hif.2 hcd
      clear hif
      refine lv_iconst (v := 1) hx hb dX12_in_13 (by decide) ?_
      refine lv_goto (tgt := 18) hx hb dX12_in_14 (by decide) ?_
      exact J18 _ _ hf _ _ ls (lv_sub hl [] rfl) hw hS
set_option maxHeartbeats 4000000 in
set_option maxRecDepth 100000 in
theorem m_X12_has (l : Launch) (E : Ev) {x0 : Int32} {x1 : Int32}  {s0 sz : St} {rz : Int32} (hf : f_X12_has x0 x1 s0 = some (rz, sz)) : MM l E sh2 yX12_has cX12_has 2 (some .boolean) (rmd 1) [.int x0, .int x1] s0 (some (.int rz)) sz := by
  unfold f_X12_has at hf
  refine z_enter (by decide +kernel) (Nat.le_of_ble_eq_true rfl) ?_
  intro p e s m args below meth c ls hC hr hlocks hw hS hl
  have hC : Cx p s m args c cX12_has 2 "FuseBoxModel" E := hC
  obtain ⟨hx, hb, hml, hown, hts, hTB⟩ := id hC
  have hl : lv_has ls 2 [(0, .int x0), (1, .int x1)] := hl
  refine lv_iload_n hx hb dX12_has_0 rfl (lv_at hl 0 rfl) ?_
  refine lv_iload_n hx hb dX12_has_1 rfl (lv_at hl 1 rfl) ?_
  refine lv_ishr hx hb dX12_has_2 ?_
  refine lv_iconst (v := 1) hx hb dX12_has_3 (by decide) ?_
  refine lv_iand hx hb dX12_has_4 ?_
  refine lv_iconst (v := 1) hx hb dX12_has_5 (by decide) ?_
  obtain ⟨j14, ej14, hf⟩ := ok_lt hf
  have J14 : ∀ (k_1 : Int32) (s_2 : St), j14 k_1 s_2 = some (rz, sz) → ∀ (H : Heap) (locs : List Loc) (ls : Array Slot), lv_has ls 2 [] → World E sh2 s_2 H → va_S E.2.2.2 s.heap H locs → W p l e (rmd 1) s m args below meth c H locs 0 0 (MQ below (QW E sh2 (some (.int rz)) sz) args s 0 0 E.2.2.2) (F0 m 14 ls [.int k_1]) := by
    intro k_1 s_2 hf H locs ls hl hw hS
    subst ej14
    obtain ⟨hbo, hf⟩ := ok_chk hf
    exact z_iretE hC hlocks hw hS hf hr (narB hbo) dX12_has_14
  clear ej14
  have hif := ok_if hf
  refine lv_icmp_ne (tgt := 13) hx hb dX12_has_6 (by decide) (fun hcd => ?_) (fun hcd => ?_)
  · have hf := hif.1 hcd
    clear hif
    refine lv_iconst (v := 0) hx hb dX12_has_13 (by decide) ?_
    exact J14 _ _ hf _ _ ls (lv_sub hl [] rfl) hw hS
  · have hf := hif.2 (fun q => q hcd)
    clear hif
    refine lv_iconst (v := 1) hx hb dX12_has_9 (by decide) ?_
    refine lv_goto (tgt := 14) hx hb dX12_has_10 (by decide) ?_
    exact J14 _ _ hf _ _ ls (lv_sub hl [] rfl) hw hS
set_option maxHeartbeats 4000000 in
set_option maxRecDepth 100000 in
theorem m_X12_bits (l : Launch) (E : Ev) {x0 : Int32}  {s0 sz : St} {rz : Int32} (hf : f_X12_bits x0 s0 = some (rz, sz)) : MM l E sh2 yX12_bits cX12_bits 3 (some .int) (rmd 1) [.int x0] s0 (some (.int rz)) sz := by
  unfold f_X12_bits at hf
  refine z_enter (by decide +kernel) (Nat.le_of_ble_eq_true rfl) ?_
  intro p e s m args below meth c ls hC hr hlocks hw hS hl
  have hC : Cx p s m args c cX12_bits 3 "FuseBoxModel" E := hC
  obtain ⟨hx, hb, hml, hown, hts, hTB⟩ := id hC
  have hl : lv_has ls 3 [(0, .int x0)] := hl
  refine lv_iconst (v := 0) hx hb dX12_bits_0 (by decide) ?_
  obtain ⟨v1_1, en, hf⟩ := ok_lt hf
  refine z_nm en ?_
  clear en
  refine lv_istore_n (lv' := [(1, .int v1_1), (0, .int x0)]) hx hb dX12_bits_1 rfl hl (by decide) rfl (fun ls hl => ?_)
  refine lv_iconst (v := 0) hx hb dX12_bits_2 (by decide) ?_
  obtain ⟨v2_2, en, hf⟩ := ok_lt hf
  refine z_nm en ?_
  clear en
  refine lv_istore_n (lv' := [(2, .int v2_2), (1, .int v1_1), (0, .int x0)]) hx hb dX12_bits_3 rfl hl (by decide) rfl (fun ls hl => ?_)
  obtain ⟨r4, hL4, hf⟩ := ok_bind hf
  have X4_0 : ∀ (v1_6 : Int32) (s_7 : St), (v1_6, s_7) = r4 → ∀ (H : Heap) (locs : List Loc) (ls : Array Slot), lv_has ls 3 [(1, .int v1_6)] → World E sh2 s_7 H → va_S E.2.2.2 s.heap H locs → W p l e (rmd 1) s m args below meth c H locs 0 0 (MQ below (QW E sh2 (some (.int rz)) sz) args s 0 0 E.2.2.2) (F0 m 24 ls []) := by
    intro v1_6 s_7 er H locs ls hl hw hS
    subst er
    replace hf := ok_un2 hf
    refine lv_iload_n hx hb dX12_bits_24 rfl (lv_at hl 0 rfl) ?_
    exact z_iretE hC hlocks hw hS hf hr rfl dX12_bits_25
  have L4 : ∀ (n : Nat) (v1_3 : Int32) (v2_4 : Int32) (s_5 : St), loopF (f_X12_bits_L4 x0) n (v1_3, v2_4, s_5) = some r4 → ∀ (H : Heap) (locs : List Loc) (ls : Array Slot), lv_has ls 3 [(0, .int x0), (1, .int v1_3), (2, .int v2_4)] → World E sh2 s_5 H → va_S E.2.2.2 s.heap H locs → W p l e (rmd 1) s m args below meth c H locs 0 0 (MQ below (QW E sh2 (some (.int rz)) sz) args s 0 0 E.2.2.2) (F0 m 4 ls []) := by
    intro n
    induction n with
    | zero =>
      intro v1_3 v2_4 s_5 hf
      exact nz hf
    | succ n ih4 =>
      intro v1_3 v2_4 s_5 hf H locs ls hl hw hS
      obtain ⟨xl4, hf, hi4, he4⟩ := ok_loop hf
      unfold f_X12_bits_L4 at hf
      replace hf := ok_un3 hf
      refine lv_iload_n hx hb dX12_bits_4 rfl (lv_at hl 2 rfl) ?_
      refine lv_bipush (v := 6) hx hb dX12_bits_5 (by decide) ?_
      have hif := ok_if hf
      refine lv_icmp_ge (tgt := 24) hx hb dX12_bits_7 (by decide) (fun hcd => ?_) (fun hcd => ?_)
      · have hf := hif.1 hcd
        clear hif
        cases hf
        exact X4_0 _ _ (he4 _ rfl) _ _ ls (lv_sub hl [1] rfl) hw hS
      · have hf := hif.2 hcd
        clear hif
        refine lv_iload_n hx hb dX12_bits_10 rfl (lv_at hl 1 rfl) ?_
        refine lv_iload_n hx hb dX12_bits_11 rfl (lv_at hl 0 rfl) ?_
        refine lv_iload_n hx hb dX12_bits_12 rfl (lv_at hl 2 rfl) ?_
        refine lv_ishr hx hb dX12_bits_13 ?_
        refine lv_iconst (v := 1) hx hb dX12_bits_14 (by decide) ?_
        refine lv_iand hx hb dX12_bits_15 ?_
        refine lv_iadd hx hb dX12_bits_16 ?_
        obtain ⟨v1_8, en, hf⟩ := ok_lt hf
        refine z_nm en ?_
        clear en
        refine lv_istore_n (lv' := [(1, .int v1_8), (0, .int x0), (2, .int v2_4)]) hx hb dX12_bits_17 rfl hl (by decide) rfl (fun ls hl => ?_)
        obtain ⟨v2_9, en, hf⟩ := ok_lt hf
        refine lv_iinc (v := v2_9) (lv' := [(2, .int v2_9), (1, .int v1_8), (0, .int x0)]) hx hb dX12_bits_18 hl (k := 2) rfl (by rw [en]; rfl) (by decide) rfl (fun ls hl => ?_)
        clear en
        refine lv_goto (tgt := 4) hx hb dX12_bits_21 (by decide) ?_
        cases hf
        exact ih4 _ _ _ (hi4 _ rfl) _ _ ls (lv_sub hl [2, 1, 0] rfl) hw hS
  exact L4 5000 _ _ _ hL4 _ _ ls (lv_sub hl [2, 1, 0] rfl) hw hS
set_option maxHeartbeats 4000000 in
set_option maxRecDepth 100000 in
theorem m_X12_larger (l : Launch) (E : Ev) {x0 : Int32} {x1 : Int32}  {s0 sz : St} {rz : Int32} (hf : f_X12_larger x0 x1 s0 = some (rz, sz)) : MM l E sh2 yX12_larger cX12_larger 2 (some .int) (rmd 1) [.int x0, .int x1] s0 (some (.int rz)) sz := by
  unfold f_X12_larger at hf
  refine z_enter (by decide +kernel) (Nat.le_of_ble_eq_true rfl) ?_
  intro p e s m args below meth c ls hC hr hlocks hw hS hl
  have hC : Cx p s m args c cX12_larger 2 "FuseBoxModel" E := hC
  obtain ⟨hx, hb, hml, hown, hts, hTB⟩ := id hC
  have hl : lv_has ls 2 [(0, .int x0), (1, .int x1)] := hl
  refine lv_iload_n hx hb dX12_larger_0 rfl (lv_at hl 0 rfl) ?_
  refine lv_iload_n hx hb dX12_larger_1 rfl (lv_at hl 1 rfl) ?_
  obtain ⟨j10, ej10, hf⟩ := ok_lt hf
  have J10 : ∀ (k_1 : Int32) (s_2 : St), j10 k_1 s_2 = some (rz, sz) → ∀ (H : Heap) (locs : List Loc) (ls : Array Slot), lv_has ls 2 [] → World E sh2 s_2 H → va_S E.2.2.2 s.heap H locs → W p l e (rmd 1) s m args below meth c H locs 0 0 (MQ below (QW E sh2 (some (.int rz)) sz) args s 0 0 E.2.2.2) (F0 m 10 ls [.int k_1]) := by
    intro k_1 s_2 hf H locs ls hl hw hS
    subst ej10
    exact z_iretE hC hlocks hw hS hf hr rfl dX12_larger_10
  clear ej10
  have hif := ok_if hf
  refine lv_icmp_ge (tgt := 9) hx hb dX12_larger_2 (by decide) (fun hcd => ?_) (fun hcd => ?_)
  · have hf := hif.1 hcd
    clear hif
    refine lv_iload_n hx hb dX12_larger_9 rfl (lv_at hl 0 rfl) ?_
    exact J10 _ _ hf _ _ ls (lv_sub hl [] rfl) hw hS
  · have hf := hif.2 hcd
    clear hif
    refine lv_iload_n hx hb dX12_larger_5 rfl (lv_at hl 1 rfl) ?_
    refine lv_goto (tgt := 10) hx hb dX12_larger_6 (by decide) ?_
    exact J10 _ _ hf _ _ ls (lv_sub hl [] rfl) hw hS
set_option maxHeartbeats 4000000 in
set_option maxRecDepth 100000 in
theorem m_X12_finds (l : Launch) (E : Ev) {x1 : Int32}  {s0 sz : St} {rz : Int32} (hf : f_X12_finds x1 s0 = some (rz, sz)) : MM l E sh2 yX12_finds cX12_finds 2 (some .int) (rmd 1) [.ref (E.2.2.1 259), .int x1] s0 (some (.int rz)) sz := by
  unfold f_X12_finds at hf
  refine z_enter (by decide +kernel) (Nat.le_of_ble_eq_true rfl) ?_
  intro p e s m args below meth c ls hC hr hlocks hw hS hl
  have hC : Cx p s m args c cX12_finds 2 "FuseBoxModel" E := hC
  obtain ⟨hx, hb, hml, hown, hts, hTB⟩ := id hC
  have hl : lv_has ls 2 [(0, .ref (E.2.2.1 259)), (1, .int x1)] := hl
  refine lv_aload_n hx hb dX12_finds_0 rfl (lv_at hl 0 rfl) ?_
  refine lv_iload_n hx hb dX12_finds_1 rfl (lv_at hl 1 rfl) ?_
  obtain ⟨s_1, en, hf⟩ := ok_lt hf
  refine pModel_found hC hw hS wd528 en dX12_finds_2 (fun H locs hw hS => ?_)
  clear en
  refine lv_ldc (v := -1000010) hx hb hown (hts _ wd529) dX12_finds_5 ?_
  refine lv_iload_n hx hb dX12_finds_7 rfl (lv_at hl 1 rfl) ?_
  refine lv_isub hx hb dX12_finds_8 ?_
  exact z_iretE hC hlocks hw hS hf hr rfl dX12_finds_9
set_option maxHeartbeats 4000000 in
set_option maxRecDepth 100000 in
theorem m_X12_fine (l : Launch) (E : Ev) {x1 : Int32}  {s0 sz : St} {rz : Int32} (hf : f_X12_fine x1 s0 = some (rz, sz)) : MM l E sh2 yX12_fine cX12_fine 2 (some .int) (rmd 1) [.ref (E.2.2.1 259), .int x1] s0 (some (.int rz)) sz := by
  unfold f_X12_fine at hf
  refine z_enter (by decide +kernel) (Nat.le_of_ble_eq_true rfl) ?_
  intro p e s m args below meth c ls hC hr hlocks hw hS hl
  have hC : Cx p s m args c cX12_fine 2 "FuseBoxModel" E := hC
  obtain ⟨hx, hb, hml, hown, hts, hTB⟩ := id hC
  have hl : lv_has ls 2 [(0, .ref (E.2.2.1 259)), (1, .int x1)] := hl
  refine lv_aload_n hx hb dX12_fine_0 rfl (lv_at hl 0 rfl) ?_
  refine lv_iconst (v := 0) hx hb dX12_fine_1 (by decide) ?_
  obtain ⟨s_1, en, hf⟩ := ok_lt hf
  refine pModel_found hC hw hS wd528 en dX12_fine_2 (fun H locs hw hS => ?_)
  clear en
  refine lv_iload_n hx hb dX12_fine_5 rfl (lv_at hl 1 rfl) ?_
  exact z_iretE hC hlocks hw hS hf hr rfl dX12_fine_6
set_option maxHeartbeats 4000000 in
set_option maxRecDepth 100000 in
theorem m_X12_row (l : Launch) (E : Ev) {x1 : Int32} {x2 : Int32} {x3 : Int32}  {s0 sz : St} {rz : Int32} (hf : f_X12_row x1 x2 x3 s0 = some (rz, sz)) : MM l E sh2 yX12_row cX12_row 5 (some .int) (rmd 2) [.ref (E.2.2.1 259), .int x1, .int x2, .int x3] s0 (some (.int rz)) sz := by
  unfold f_X12_row at hf
  refine z_enter (by decide +kernel) (Nat.le_of_ble_eq_true rfl) ?_
  intro p e s m args below meth c ls hC hr hlocks hw hS hl
  have hC : Cx p s m args c cX12_row 5 "FuseBoxModel" E := hC
  obtain ⟨hx, hb, hml, hown, hts, hTB⟩ := id hC
  have hl : lv_has ls 5 [(0, .ref (E.2.2.1 259)), (1, .int x1), (2, .int x2), (3, .int x3)] := hl
  refine lv_iload_n hx hb dX12_row_0 rfl (lv_at hl 1 rfl) ?_
  refine lv_i2l (v := x1.toInt64) hx hb dX12_row_1 rfl ?_
  refine lv_lconst (v := 0) hx hb dX12_row_2 (by decide) ?_
  refine lv_ldc2 (v := 7) hx hb hown (hts _ wd530) dX12_row_3 ?_
  obtain ⟨r_2, s_1, hc, hf⟩ := ok_bd hf
  refine z_cS hC hl.1 hw hS (As := [.long (x1.toInt64), .long (0 : Int64), .long (7 : Int64)]) (rest := []) (m_X12_in l E  hc) gc219 gc220 ⟨Nat.le_of_ble_eq_true rfl, Nat.le_of_ble_eq_true rfl⟩ ⟨Nat.le_of_ble_eq_true rfl, Nat.le_of_ble_eq_true rfl⟩ rfl rfl (Nat.le_of_ble_eq_true rfl) dX12_row_6 (fun H locs hw hS => ?_)
  clear hc
  obtain ⟨j30, ej30, hf⟩ := ok_lt hf
  have J30 : ∀ (s_3 : St), j30 s_3 = some (rz, sz) → ∀ (H : Heap) (locs : List Loc) (ls : Array Slot), lv_has ls 5 [] → World E sh2 s_3 H → va_S E.2.2.2 s.heap H locs → W p l e (rmd 2) s m args below meth c H locs 0 0 (MQ below (QW E sh2 (some (.int rz)) sz) args s 0 0 E.2.2.2) (F0 m 30 ls []) := by
    intro s_3 hf H locs ls hl hw hS
    subst ej30
    refine lv_ldc (v := -1000001) hx hb hown (hts _ wd535) dX12_row_30 ?_
    exact z_iretE hC hlocks hw hS hf hr rfl dX12_row_32
  clear ej30
  have hif := ok_if hf
  refine lv_if_eq (tgt := 30) hx hb dX12_row_9 (by decide) (fun hcd => ?_) (fun hcd => ?_)
  · have hf := hif.1 hcd
    clear hif
    exact J30 _ hf _ _ ls (lv_sub hl [] rfl) hw hS
  · have hf := hif.2 hcd
    clear hif
    refine lv_iload_n hx hb dX12_row_12 rfl (lv_at hl 2 rfl) ?_
    refine lv_i2l (v := x2.toInt64) hx hb dX12_row_13 rfl ?_
    refine lv_lconst (v := 0) hx hb dX12_row_14 (by decide) ?_
    refine lv_ldc2 (v := 2) hx hb hown (hts _ wd536) dX12_row_15 ?_
    obtain ⟨r_5, s_4, hc, hf⟩ := ok_bd hf
    refine z_cS hC hl.1 hw hS (As := [.long (x2.toInt64), .long (0 : Int64), .long (2 : Int64)]) (rest := []) (m_X12_in l E  hc) gc219 gc220 ⟨Nat.le_of_ble_eq_true rfl, Nat.le_of_ble_eq_true rfl⟩ ⟨Nat.le_of_ble_eq_true rfl, Nat.le_of_ble_eq_true rfl⟩ rfl rfl (Nat.le_of_ble_eq_true rfl) dX12_row_18 (fun H locs hw hS => ?_)
    clear hc
    have hif := ok_if hf
    refine lv_if_eq (tgt := 30) hx hb dX12_row_21 (by decide) (fun hcd => ?_) (fun hcd => ?_)
    · have hf := hif.1 hcd
      clear hif
      exact J30 _ hf _ _ ls (lv_sub hl [] rfl) hw hS
    · have hf := hif.2 hcd
      clear hif
      refine lv_iload_n hx hb dX12_row_24 rfl (lv_at hl 3 rfl) ?_
      refine lv_bipush (v := 40) hx hb dX12_row_25 (by decide) ?_
      have hif := ok_if hf
      refine lv_icmp_le (tgt := 33) hx hb dX12_row_27 (by decide) (fun hcd => ?_) (fun hcd => ?_)
      · have hf := hif.1 hcd
        clear hif
        refine lv_iload_n hx hb dX12_row_33 rfl (lv_at hl 3 rfl) ?_
        have hif := ok_if hf
        refine lv_if_ge (tgt := 43) hx hb dX12_row_34 (by decide) (fun hcd => ?_) (fun hcd => ?_)
        · have hf := hif.1 hcd
          clear hif
          refine lv_aload_n hx hb dX12_row_43 rfl (lv_at hl 0 rfl) ?_
          refine gModel_lane hC hw wd537 dX12_row_44 ?_
          refine lv_iload_n hx hb dX12_row_47 rfl (lv_at hl 1 rfl) ?_
          refine lv_iload_n hx hb dX12_row_48 rfl (lv_at hl 2 rfl) ?_
          obtain ⟨hin, hf⟩ := ok_chk hf
          obtain ⟨s_6, en, hf⟩ := ok_lt hf
          refine z_iast hC hw hS rfl hin en dX12_row_49 (fun H locs hw hS => ?_)
          clear en
          refine lv_aload_n hx hb dX12_row_50 rfl (lv_at hl 0 rfl) ?_
          refine gModel_size hC hw wd538 dX12_row_51 ?_
          refine lv_iload_n hx hb dX12_row_54 rfl (lv_at hl 1 rfl) ?_
          refine lv_iload_n hx hb dX12_row_55 rfl (lv_at hl 3 rfl) ?_
          obtain ⟨hin, hf⟩ := ok_chk hf
          obtain ⟨s_7, en, hf⟩ := ok_lt hf
          refine z_iast hC hw hS rfl hin en dX12_row_56 (fun H locs hw hS => ?_)
          clear en
          refine lv_iconst (v := 0) hx hb dX12_row_57 (by decide) ?_
          obtain ⟨v4_8, en, hf⟩ := ok_lt hf
          refine z_nm en ?_
          clear en
          refine lv_istore (lv' := [(4, .int v4_8), (0, .ref (E.2.2.1 259)), (1, .int x1), (2, .int x2), (3, .int x3)]) hx hb dX12_row_58 hl (by decide) rfl (fun ls hl => ?_)
          obtain ⟨r60, hL60, hf⟩ := ok_bind hf
          have X60_0 : ∀ (s_11 : St), s_11 = r60 → ∀ (H : Heap) (locs : List Loc) (ls : Array Slot), lv_has ls 5 [(0, .ref (E.2.2.1 259)), (3, .int x3)] → World E sh2 s_11 H → va_S E.2.2.2 s.heap H locs → W p l e (rmd 2) s m args below meth c H locs 0 0 (MQ below (QW E sh2 (some (.int rz)) sz) args s 0 0 E.2.2.2) (F0 m 85 ls []) := by
            intro s_11 er H locs ls hl hw hS
            subst er
            replace hf := ok_un1 hf
            refine lv_aload_n hx hb dX12_row_85 rfl (lv_at hl 0 rfl) ?_
            refine lv_iload_n hx hb dX12_row_86 rfl (lv_at hl 1 rfl) ?_
            obtain ⟨r_13, s_12, hc, hf⟩ := ok_bd hf
            refine z_cV hC hl.1 hw hS (As := [.int x3]) (rest := []) (m_X12_fine l E  hc) rfl rfl gc221 gc222 ⟨Nat.le_of_ble_eq_true rfl, Nat.le_of_ble_eq_true rfl⟩ ⟨Nat.le_of_ble_eq_true rfl, Nat.le_of_ble_eq_true rfl⟩ rfl rfl (Nat.le_of_ble_eq_true rfl) dX12_row_87 (fun H locs hw hS => ?_)
            clear hc
            exact z_iretE hC hlocks hw hS hf hr rfl dX12_row_90
          have L60 : ∀ (n : Nat) (v4_9 : Int32) (s_10 : St), loopF (f_X12_row_L60 x1 x3) n (v4_9, s_10) = some r60 → ∀ (H : Heap) (locs : List Loc) (ls : Array Slot), lv_has ls 5 [(0, .ref (E.2.2.1 259)), (1, .int x1), (3, .int x3), (4, .int v4_9)] → World E sh2 s_10 H → va_S E.2.2.2 s.heap H locs → W p l e (rmd 2) s m args below meth c H locs 0 0 (MQ below (QW E sh2 (some (.int rz)) sz) args s 0 0 E.2.2.2) (F0 m 60 ls []) := by
            intro n
            induction n with
            | zero =>
              intro v4_9 s_10 hf
              exact nz hf
            | succ n ih60 =>
              intro v4_9 s_10 hf H locs ls hl hw hS
              obtain ⟨xl60, hf, hi60, he60⟩ := ok_loop hf
              unfold f_X12_row_L60 at hf
              replace hf := ok_un2 hf
              refine lv_iload hx hb dX12_row_60 (lv_at hl 3 rfl) ?_
              refine lv_iload_n hx hb dX12_row_62 rfl (lv_at hl 2 rfl) ?_
              have hif := ok_if hf
              refine lv_icmp_ge (tgt := 85) hx hb dX12_row_63 (by decide) (fun hcd => ?_) (fun hcd => ?_)
              · have hf := hif.1 hcd
                clear hif
                cases hf
                exact X60_0 _ (he60 _ rfl) _ _ ls (lv_sub hl [0, 2] rfl) hw hS
              · have hf := hif.2 hcd
                clear hif
                refine lv_aload_n hx hb dX12_row_66 rfl (lv_at hl 0 rfl) ?_
                refine gModel_items hC hw wd543 dX12_row_67 ?_
                refine lv_bipush (v := 40) hx hb dX12_row_70 (by decide) ?_
                refine lv_iload_n hx hb dX12_row_72 rfl (lv_at hl 1 rfl) ?_
                refine lv_imul hx hb dX12_row_73 ?_
                refine lv_iload hx hb dX12_row_74 (lv_at hl 3 rfl) ?_
                refine lv_iadd hx hb dX12_row_76 ?_
                refine lv_iconst (v := 0) hx hb dX12_row_77 (by decide) ?_
                obtain ⟨hin, hf⟩ := ok_chk hf
                obtain ⟨s_14, en, hf⟩ := ok_lt hf
                refine z_iast hC hw hS rfl hin en dX12_row_78 (fun H locs hw hS => ?_)
                clear en
                obtain ⟨v4_15, en, hf⟩ := ok_lt hf
                refine lv_iinc (v := v4_15) (lv' := [(4, .int v4_15), (0, .ref (E.2.2.1 259)), (1, .int x1), (3, .int x3)]) hx hb dX12_row_79 hl (k := 3) rfl (by rw [en]; rfl) (by decide) rfl (fun ls hl => ?_)
                clear en
                refine lv_goto (tgt := 60) hx hb dX12_row_82 (by decide) ?_
                cases hf
                exact ih60 _ _ (hi60 _ rfl) _ _ ls (lv_sub hl [1, 2, 3, 0] rfl) hw hS
          exact L60 5000 _ _ hL60 _ _ ls (lv_sub hl [1, 2, 4, 0] rfl) hw hS
        · have hf := hif.2 hcd
          clear hif
          refine lv_aload_n hx hb dX12_row_37 rfl (lv_at hl 0 rfl) ?_
          refine lv_iconst (v := 4) hx hb dX12_row_38 (by decide) ?_
          obtain ⟨r_17, s_16, hc, hf⟩ := ok_bd hf
          refine z_cV hC hl.1 hw hS (As := [.int (4 : Int32)]) (rest := []) (m_X12_finds l E  hc) rfl rfl gc223 gc224 ⟨Nat.le_of_ble_eq_true rfl, Nat.le_of_ble_eq_true rfl⟩ ⟨Nat.le_of_ble_eq_true rfl, Nat.le_of_ble_eq_true rfl⟩ rfl rfl (Nat.le_of_ble_eq_true rfl) dX12_row_39 (fun H locs hw hS => ?_)
          clear hc
          exact z_iretE hC hlocks hw hS hf hr rfl dX12_row_42
      · have hf := hif.2 hcd
        clear hif
        exact J30 _ hf _ _ ls (lv_sub hl [] rfl) hw hS
set_option maxHeartbeats 4000000 in
set_option maxRecDepth 100000 in
theorem m_X12_set (l : Launch) (E : Ev) {x1 : Int32} {x2 : Int32} {x3 : Int32}  {s0 sz : St} {rz : Int32} (hf : f_X12_set x1 x2 x3 s0 = some (rz, sz)) : MM l E sh2 yX12_set cX12_set 4 (some .int) (rmd 2) [.ref (E.2.2.1 259), .int x1, .int x2, .int x3] s0 (some (.int rz)) sz := by
  unfold f_X12_set at hf
  refine z_enter (by decide +kernel) (Nat.le_of_ble_eq_true rfl) ?_
  intro p e s m args below meth c ls hC hr hlocks hw hS hl
  have hC : Cx p s m args c cX12_set 4 "FuseBoxModel" E := hC
  obtain ⟨hx, hb, hml, hown, hts, hTB⟩ := id hC
  have hl : lv_has ls 4 [(0, .ref (E.2.2.1 259)), (1, .int x1), (2, .int x2), (3, .int x3)] := hl
  refine lv_iload_n hx hb dX12_set_0 rfl (lv_at hl 1 rfl) ?_
  refine lv_i2l (v := x1.toInt64) hx hb dX12_set_1 rfl ?_
  refine lv_lconst (v := 0) hx hb dX12_set_2 (by decide) ?_
  refine lv_ldc2 (v := 7) hx hb hown (hts _ wd530) dX12_set_3 ?_
  obtain ⟨r_2, s_1, hc, hf⟩ := ok_bd hf
  refine z_cS hC hl.1 hw hS (As := [.long (x1.toInt64), .long (0 : Int64), .long (7 : Int64)]) (rest := []) (m_X12_in l E  hc) gc219 gc220 ⟨Nat.le_of_ble_eq_true rfl, Nat.le_of_ble_eq_true rfl⟩ ⟨Nat.le_of_ble_eq_true rfl, Nat.le_of_ble_eq_true rfl⟩ rfl rfl (Nat.le_of_ble_eq_true rfl) dX12_set_6 (fun H locs hw hS => ?_)
  clear hc
  have hif := ok_if hf
  refine lv_if_ne (tgt := 15) hx hb dX12_set_9 (by decide) (fun hcd => ?_) (fun hcd => ?_)
  · have hf := hif.1 hcd
    clear hif
    refine lv_aload_n hx hb dX12_set_15 rfl (lv_at hl 0 rfl) ?_
    refine gModel_size hC hw wd538 dX12_set_16 ?_
    refine lv_iload_n hx hb dX12_set_19 rfl (lv_at hl 1 rfl) ?_
    obtain ⟨hin, hf⟩ := ok_chk hf
    refine z_iald hC hw rfl hin dX12_set_20 ?_
    have hif := ok_if hf
    refine lv_if_ge (tgt := 30) hx hb dX12_set_21 (by decide) (fun hcd => ?_) (fun hcd => ?_)
    · have hf := hif.1 hcd
      clear hif
      refine lv_iload_n hx hb dX12_set_30 rfl (lv_at hl 2 rfl) ?_
      refine lv_i2l (v := x2.toInt64) hx hb dX12_set_31 rfl ?_
      refine lv_lconst (v := 0) hx hb dX12_set_32 (by decide) ?_
      refine lv_aload_n hx hb dX12_set_33 rfl (lv_at hl 0 rfl) ?_
      refine gModel_size hC hw wd538 dX12_set_34 ?_
      refine lv_iload_n hx hb dX12_set_37 rfl (lv_at hl 1 rfl) ?_
      obtain ⟨hin, hf⟩ := ok_chk hf
      refine z_iald hC hw rfl hin dX12_set_38 ?_
      refine lv_iconst (v := 1) hx hb dX12_set_39 (by decide) ?_
      refine lv_isub hx hb dX12_set_40 ?_
      refine lv_i2l (v := (((s_1 264 (x1).toNatClampNeg) - (1 : Int32))).toInt64) hx hb dX12_set_41 rfl ?_
      obtain ⟨r_4, s_3, hc, hf⟩ := ok_bd hf
      refine z_cS hC hl.1 hw hS (As := [.long (x2.toInt64), .long (0 : Int64), .long ((((s_1 264 (x1).toNatClampNeg) - (1 : Int32))).toInt64)]) (rest := []) (m_X12_in l E  hc) gc219 gc220 ⟨Nat.le_of_ble_eq_true rfl, Nat.le_of_ble_eq_true rfl⟩ ⟨Nat.le_of_ble_eq_true rfl, Nat.le_of_ble_eq_true rfl⟩ rfl rfl (Nat.le_of_ble_eq_true rfl) dX12_set_42 (fun H locs hw hS => ?_)
      clear hc
      have hif := ok_if hf
      refine lv_if_ne (tgt := 54) hx hb dX12_set_45 (by decide) (fun hcd => ?_) (fun hcd => ?_)
      · have hf := hif.1 hcd
        clear hif
        refine lv_aload_n hx hb dX12_set_54 rfl (lv_at hl 0 rfl) ?_
        refine gModel_items hC hw wd543 dX12_set_55 ?_
        refine lv_bipush (v := 40) hx hb dX12_set_58 (by decide) ?_
        refine lv_iload_n hx hb dX12_set_60 rfl (lv_at hl 1 rfl) ?_
        refine lv_imul hx hb dX12_set_61 ?_
        refine lv_iload_n hx hb dX12_set_62 rfl (lv_at hl 2 rfl) ?_
        refine lv_iadd hx hb dX12_set_63 ?_
        refine lv_aload_n hx hb dX12_set_64 rfl (lv_at hl 0 rfl) ?_
        refine gModel_lane hC hw wd537 dX12_set_65 ?_
        refine lv_iload_n hx hb dX12_set_68 rfl (lv_at hl 1 rfl) ?_
        obtain ⟨hin, hf⟩ := ok_chk hf
        refine z_iald hC hw rfl hin dX12_set_69 ?_
        obtain ⟨j94, ej94, hf⟩ := ok_lt hf
        have J94 : ∀ (k_5 : Int32) (s_6 : St), j94 k_5 s_6 = some (rz, sz) → ∀ (H : Heap) (locs : List Loc) (ls : Array Slot), lv_has ls 4 [(0, .ref (E.2.2.1 259)), (1, .int x1), (2, .int x2)] → World E sh2 s_6 H → va_S E.2.2.2 s.heap H locs → W p l e (rmd 2) s m args below meth c H locs 0 0 (MQ below (QW E sh2 (some (.int rz)) sz) args s 0 0 E.2.2.2) (F0 m 94 ls [.int k_5, .int (((40 : Int32) * x1) + x2), .ref (E.2.2.1 265)]) := by
          intro k_5 s_6 hf H locs ls hl hw hS
          subst ej94
          obtain ⟨hin, hf⟩ := ok_chk hf
          obtain ⟨s_7, en, hf⟩ := ok_lt hf
          refine z_iast hC hw hS rfl hin en dX12_set_94 (fun H locs hw hS => ?_)
          clear en
          refine lv_aload_n hx hb dX12_set_95 rfl (lv_at hl 0 rfl) ?_
          refine lv_aload_n hx hb dX12_set_96 rfl (lv_at hl 0 rfl) ?_
          refine gModel_items hC hw wd543 dX12_set_97 ?_
          refine lv_bipush (v := 40) hx hb dX12_set_100 (by decide) ?_
          refine lv_iload_n hx hb dX12_set_102 rfl (lv_at hl 1 rfl) ?_
          refine lv_imul hx hb dX12_set_103 ?_
          refine lv_iload_n hx hb dX12_set_104 rfl (lv_at hl 2 rfl) ?_
          refine lv_iadd hx hb dX12_set_105 ?_
          obtain ⟨hin, hf⟩ := ok_chk hf
          refine z_iald hC hw rfl hin dX12_set_106 ?_
          obtain ⟨r_9, s_8, hc, hf⟩ := ok_bd hf
          refine z_cV hC hl.1 hw hS (As := [.int (s_7 265 ((((40 : Int32) * x1) + x2)).toNatClampNeg)]) (rest := []) (m_X12_fine l E  hc) rfl rfl gc221 gc222 ⟨Nat.le_of_ble_eq_true rfl, Nat.le_of_ble_eq_true rfl⟩ ⟨Nat.le_of_ble_eq_true rfl, Nat.le_of_ble_eq_true rfl⟩ rfl rfl (Nat.le_of_ble_eq_true rfl) dX12_set_107 (fun H locs hw hS => ?_)
          clear hc
          exact z_iretE hC hlocks hw hS hf hr rfl dX12_set_110
        clear ej94
        have hif := ok_if hf
        refine lv_if_ne (tgt := 78) hx hb dX12_set_70 (by decide) (fun hcd => ?_) (fun hcd => ?_)
        · have hf := hif.1 hcd
          clear hif
          refine lv_aload_n hx hb dX12_set_78 rfl (lv_at hl 0 rfl) ?_
          refine gModel_lane hC hw wd537 dX12_set_79 ?_
          refine lv_iload_n hx hb dX12_set_82 rfl (lv_at hl 1 rfl) ?_
          obtain ⟨hin, hf⟩ := ok_chk hf
          refine z_iald hC hw rfl hin dX12_set_83 ?_
          refine lv_iconst (v := 1) hx hb dX12_set_84 (by decide) ?_
          have hif := ok_if hf
          refine lv_icmp_ne (tgt := 93) hx hb dX12_set_85 (by decide) (fun hcd => ?_) (fun hcd => ?_)
          · have hf := hif.1 hcd
            clear hif
            refine lv_iload_n hx hb dX12_set_93 rfl (lv_at hl 3 rfl) ?_
            exact J94 _ _ hf _ _ ls (lv_sub hl [0, 1, 2] rfl) hw hS
          · have hf := hif.2 (fun q => q hcd)
            clear hif
            refine lv_iload_n hx hb dX12_set_88 rfl (lv_at hl 3 rfl) ?_
            refine lv_i2s (v := (x3).toInt16.toInt32) hx hb dX12_set_89 rfl ?_
            refine lv_goto (tgt := 94) hx hb dX12_set_90 (by decide) ?_
            exact J94 _ _ hf _ _ ls (lv_sub hl [0, 1, 2] rfl) hw hS
        · have hf := hif.2 (fun q => q hcd)
          clear hif
          refine lv_iload_n hx hb dX12_set_73 rfl (lv_at hl 3 rfl) ?_
          refine lv_i2b (v := (x3).toInt8.toInt32) hx hb dX12_set_74 rfl ?_
          refine lv_goto (tgt := 94) hx hb dX12_set_75 (by decide) ?_
          exact J94 _ _ hf _ _ ls (lv_sub hl [0, 1, 2] rfl) hw hS
      · have hf := hif.2 (fun q => q hcd)
        clear hif
        refine lv_aload_n hx hb dX12_set_48 rfl (lv_at hl 0 rfl) ?_
        refine lv_iconst (v := 2) hx hb dX12_set_49 (by decide) ?_
        obtain ⟨r_11, s_10, hc, hf⟩ := ok_bd hf
        refine z_cV hC hl.1 hw hS (As := [.int (2 : Int32)]) (rest := []) (m_X12_finds l E  hc) rfl rfl gc223 gc224 ⟨Nat.le_of_ble_eq_true rfl, Nat.le_of_ble_eq_true rfl⟩ ⟨Nat.le_of_ble_eq_true rfl, Nat.le_of_ble_eq_true rfl⟩ rfl rfl (Nat.le_of_ble_eq_true rfl) dX12_set_50 (fun H locs hw hS => ?_)
        clear hc
        exact z_iretE hC hlocks hw hS hf hr rfl dX12_set_53
    · have hf := hif.2 hcd
      clear hif
      refine lv_aload_n hx hb dX12_set_24 rfl (lv_at hl 0 rfl) ?_
      refine lv_iconst (v := 1) hx hb dX12_set_25 (by decide) ?_
      obtain ⟨r_13, s_12, hc, hf⟩ := ok_bd hf
      refine z_cV hC hl.1 hw hS (As := [.int (1 : Int32)]) (rest := []) (m_X12_finds l E  hc) rfl rfl gc223 gc224 ⟨Nat.le_of_ble_eq_true rfl, Nat.le_of_ble_eq_true rfl⟩ ⟨Nat.le_of_ble_eq_true rfl, Nat.le_of_ble_eq_true rfl⟩ rfl rfl (Nat.le_of_ble_eq_true rfl) dX12_set_26 (fun H locs hw hS => ?_)
      clear hc
      exact z_iretE hC hlocks hw hS hf hr rfl dX12_set_29
  · have hf := hif.2 (fun q => q hcd)
    clear hif
    refine lv_ldc (v := -1000001) hx hb hown (hts _ wd535) dX12_set_12 ?_
    exact z_iretE hC hlocks hw hS hf hr rfl dX12_set_14
set_option maxHeartbeats 4000000 in
set_option maxRecDepth 100000 in
theorem m_X12_copy (l : Launch) (E : Ev) {x1 : Int32} {x2 : Int32} {x3 : Int32} {x4 : Int32} {x5 : Int32}  {s0 sz : St} {rz : Int32} (hf : f_X12_copy x1 x2 x3 x4 x5 s0 = some (rz, sz)) : MM l E sh2 yX12_copy cX12_copy 7 (some .int) (rmd 2) [.ref (E.2.2.1 259), .int x1, .int x2, .int x3, .int x4, .int x5] s0 (some (.int rz)) sz := by
  unfold f_X12_copy at hf
  refine z_enter (by decide +kernel) (Nat.le_of_ble_eq_true rfl) ?_
  intro p e s m args below meth c ls hC hr hlocks hw hS hl
  have hC : Cx p s m args c cX12_copy 7 "FuseBoxModel" E := hC
  obtain ⟨hx, hb, hml, hown, hts, hTB⟩ := id hC
  have hl : lv_has ls 7 [(0, .ref (E.2.2.1 259)), (1, .int x1), (2, .int x2), (3, .int x3), (4, .int x4), (5, .int x5)] := hl
  refine lv_iload_n hx hb dX12_copy_0 rfl (lv_at hl 1 rfl) ?_
  refine lv_i2l (v := x1.toInt64) hx hb dX12_copy_1 rfl ?_
  refine lv_lconst (v := 0) hx hb dX12_copy_2 (by decide) ?_
  refine lv_ldc2 (v := 7) hx hb hown (hts _ wd530) dX12_copy_3 ?_
  obtain ⟨r_2, s_1, hc, hf⟩ := ok_bd hf
  refine z_cS hC hl.1 hw hS (As := [.long (x1.toInt64), .long (0 : Int64), .long (7 : Int64)]) (rest := []) (m_X12_in l E  hc) gc219 gc220 ⟨Nat.le_of_ble_eq_true rfl, Nat.le_of_ble_eq_true rfl⟩ ⟨Nat.le_of_ble_eq_true rfl, Nat.le_of_ble_eq_true rfl⟩ rfl rfl (Nat.le_of_ble_eq_true rfl) dX12_copy_6 (fun H locs hw hS => ?_)
  clear hc
  obtain ⟨j24, ej24, hf⟩ := ok_lt hf
  have J24 : ∀ (s_3 : St), j24 s_3 = some (rz, sz) → ∀ (H : Heap) (locs : List Loc) (ls : Array Slot), lv_has ls 7 [] → World E sh2 s_3 H → va_S E.2.2.2 s.heap H locs → W p l e (rmd 2) s m args below meth c H locs 0 0 (MQ below (QW E sh2 (some (.int rz)) sz) args s 0 0 E.2.2.2) (F0 m 24 ls []) := by
    intro s_3 hf H locs ls hl hw hS
    subst ej24
    refine lv_ldc (v := -1000001) hx hb hown (hts _ wd535) dX12_copy_24 ?_
    exact z_iretE hC hlocks hw hS hf hr rfl dX12_copy_26
  clear ej24
  have hif := ok_if hf
  refine lv_if_eq (tgt := 24) hx hb dX12_copy_9 (by decide) (fun hcd => ?_) (fun hcd => ?_)
  · have hf := hif.1 hcd
    clear hif
    exact J24 _ hf _ _ ls (lv_sub hl [] rfl) hw hS
  · have hf := hif.2 hcd
    clear hif
    refine lv_iload_n hx hb dX12_copy_12 rfl (lv_at hl 3 rfl) ?_
    refine lv_i2l (v := x3.toInt64) hx hb dX12_copy_13 rfl ?_
    refine lv_lconst (v := 0) hx hb dX12_copy_14 (by decide) ?_
    refine lv_ldc2 (v := 7) hx hb hown (hts _ wd530) dX12_copy_15 ?_
    obtain ⟨r_5, s_4, hc, hf⟩ := ok_bd hf
    refine z_cS hC hl.1 hw hS (As := [.long (x3.toInt64), .long (0 : Int64), .long (7 : Int64)]) (rest := []) (m_X12_in l E  hc) gc219 gc220 ⟨Nat.le_of_ble_eq_true rfl, Nat.le_of_ble_eq_true rfl⟩ ⟨Nat.le_of_ble_eq_true rfl, Nat.le_of_ble_eq_true rfl⟩ rfl rfl (Nat.le_of_ble_eq_true rfl) dX12_copy_18 (fun H locs hw hS => ?_)
    clear hc
    have hif := ok_if hf
    refine lv_if_ne (tgt := 27) hx hb dX12_copy_21 (by decide) (fun hcd => ?_) (fun hcd => ?_)
    · have hf := hif.1 hcd
      clear hif
      refine lv_aload_n hx hb dX12_copy_27 rfl (lv_at hl 0 rfl) ?_
      refine gModel_size hC hw wd538 dX12_copy_28 ?_
      refine lv_iload_n hx hb dX12_copy_31 rfl (lv_at hl 1 rfl) ?_
      obtain ⟨hin, hf⟩ := ok_chk hf
      refine z_iald hC hw rfl hin dX12_copy_32 ?_
      obtain ⟨j45, ej45, hf⟩ := ok_lt hf
      have J45 : ∀ (s_6 : St), j45 s_6 = some (rz, sz) → ∀ (H : Heap) (locs : List Loc) (ls : Array Slot), lv_has ls 7 [(0, .ref (E.2.2.1 259))] → World E sh2 s_6 H → va_S E.2.2.2 s.heap H locs → W p l e (rmd 2) s m args below meth c H locs 0 0 (MQ below (QW E sh2 (some (.int rz)) sz) args s 0 0 E.2.2.2) (F0 m 45 ls []) := by
        intro s_6 hf H locs ls hl hw hS
        subst ej45
        refine lv_aload_n hx hb dX12_copy_45 rfl (lv_at hl 0 rfl) ?_
        refine lv_iconst (v := 1) hx hb dX12_copy_46 (by decide) ?_
        obtain ⟨r_8, s_7, hc, hf⟩ := ok_bd hf
        refine z_cV hC hl.1 hw hS (As := [.int (1 : Int32)]) (rest := []) (m_X12_finds l E  hc) rfl rfl gc223 gc224 ⟨Nat.le_of_ble_eq_true rfl, Nat.le_of_ble_eq_true rfl⟩ ⟨Nat.le_of_ble_eq_true rfl, Nat.le_of_ble_eq_true rfl⟩ rfl rfl (Nat.le_of_ble_eq_true rfl) dX12_copy_47 (fun H locs hw hS => ?_)
        clear hc
        exact z_iretE hC hlocks hw hS hf hr rfl dX12_copy_50
      clear ej45
      have hif := ok_if hf
      refine lv_if_lt (tgt := 45) hx hb dX12_copy_33 (by decide) (fun hcd => ?_) (fun hcd => ?_)
      · have hf := hif.1 hcd
        clear hif
        exact J45 _ hf _ _ ls (lv_sub hl [0] rfl) hw hS
      · have hf := hif.2 hcd
        clear hif
        refine lv_aload_n hx hb dX12_copy_36 rfl (lv_at hl 0 rfl) ?_
        refine gModel_size hC hw wd538 dX12_copy_37 ?_
        refine lv_iload_n hx hb dX12_copy_40 rfl (lv_at hl 3 rfl) ?_
        obtain ⟨hin, hf⟩ := ok_chk hf
        refine z_iald hC hw rfl hin dX12_copy_41 ?_
        have hif := ok_if hf
        refine lv_if_ge (tgt := 51) hx hb dX12_copy_42 (by decide) (fun hcd => ?_) (fun hcd => ?_)
        · have hf := hif.1 hcd
          clear hif
          refine lv_aload_n hx hb dX12_copy_51 rfl (lv_at hl 0 rfl) ?_
          refine gModel_lane hC hw wd537 dX12_copy_52 ?_
          refine lv_iload_n hx hb dX12_copy_55 rfl (lv_at hl 1 rfl) ?_
          obtain ⟨hin, hf⟩ := ok_chk hf
          refine z_iald hC hw rfl hin dX12_copy_56 ?_
          refine lv_aload_n hx hb dX12_copy_57 rfl (lv_at hl 0 rfl) ?_
          refine gModel_lane hC hw wd537 dX12_copy_58 ?_
          refine lv_iload_n hx hb dX12_copy_61 rfl (lv_at hl 3 rfl) ?_
          obtain ⟨hin, hf⟩ := ok_chk hf
          refine z_iald hC hw rfl hin dX12_copy_62 ?_
          have hif := ok_if hf
          refine lv_icmp_eq (tgt := 72) hx hb dX12_copy_63 (by decide) (fun hcd => ?_) (fun hcd => ?_)
          · have hf := hif.1 hcd
            clear hif
            refine lv_iload_n hx hb dX12_copy_72 rfl (lv_at hl 2 rfl) ?_
            obtain ⟨j121, ej121, hf⟩ := ok_lt hf
            have J121 : ∀ (s_9 : St), j121 s_9 = some (rz, sz) → ∀ (H : Heap) (locs : List Loc) (ls : Array Slot), lv_has ls 7 [(0, .ref (E.2.2.1 259))] → World E sh2 s_9 H → va_S E.2.2.2 s.heap H locs → W p l e (rmd 2) s m args below meth c H locs 0 0 (MQ below (QW E sh2 (some (.int rz)) sz) args s 0 0 E.2.2.2) (F0 m 121 ls []) := by
              intro s_9 hf H locs ls hl hw hS
              subst ej121
              refine lv_aload_n hx hb dX12_copy_121 rfl (lv_at hl 0 rfl) ?_
              refine lv_iconst (v := 2) hx hb dX12_copy_122 (by decide) ?_
              obtain ⟨r_11, s_10, hc, hf⟩ := ok_bd hf
              refine z_cV hC hl.1 hw hS (As := [.int (2 : Int32)]) (rest := []) (m_X12_finds l E  hc) rfl rfl gc223 gc224 ⟨Nat.le_of_ble_eq_true rfl, Nat.le_of_ble_eq_true rfl⟩ ⟨Nat.le_of_ble_eq_true rfl, Nat.le_of_ble_eq_true rfl⟩ rfl rfl (Nat.le_of_ble_eq_true rfl) dX12_copy_123 (fun H locs hw hS => ?_)
              clear hc
              exact z_iretE hC hlocks hw hS hf hr rfl dX12_copy_126
            clear ej121
            have hif := ok_if hf
            refine lv_if_lt (tgt := 121) hx hb dX12_copy_73 (by decide) (fun hcd => ?_) (fun hcd => ?_)
            · have hf := hif.1 hcd
              clear hif
              exact J121 _ hf _ _ ls (lv_sub hl [0] rfl) hw hS
            · have hf := hif.2 hcd
              clear hif
              refine lv_iload hx hb dX12_copy_76 (lv_at hl 4 rfl) ?_
              have hif := ok_if hf
              refine lv_if_lt (tgt := 121) hx hb dX12_copy_78 (by decide) (fun hcd => ?_) (fun hcd => ?_)
              · have hf := hif.1 hcd
                clear hif
                exact J121 _ hf _ _ ls (lv_sub hl [0] rfl) hw hS
              · have hf := hif.2 hcd
                clear hif
                refine lv_iload hx hb dX12_copy_81 (lv_at hl 5 rfl) ?_
                have hif := ok_if hf
                refine lv_if_lt (tgt := 121) hx hb dX12_copy_83 (by decide) (fun hcd => ?_) (fun hcd => ?_)
                · have hf := hif.1 hcd
                  clear hif
                  exact J121 _ hf _ _ ls (lv_sub hl [0] rfl) hw hS
                · have hf := hif.2 hcd
                  clear hif
                  refine lv_iload_n hx hb dX12_copy_86 rfl (lv_at hl 2 rfl) ?_
                  refine lv_i2l (v := x2.toInt64) hx hb dX12_copy_87 rfl ?_
                  refine lv_iload hx hb dX12_copy_88 (lv_at hl 5 rfl) ?_
                  refine lv_i2l (v := x5.toInt64) hx hb dX12_copy_90 rfl ?_
                  refine lv_ladd hx hb dX12_copy_91 ?_
                  refine lv_aload_n hx hb dX12_copy_92 rfl (lv_at hl 0 rfl) ?_
                  refine gModel_size hC hw wd538 dX12_copy_93 ?_
                  refine lv_iload_n hx hb dX12_copy_96 rfl (lv_at hl 1 rfl) ?_
                  obtain ⟨hin, hf⟩ := ok_chk hf
                  refine z_iald hC hw rfl hin dX12_copy_97 ?_
                  refine lv_i2l (v := ((s_4 264 (x1).toNatClampNeg)).toInt64) hx hb dX12_copy_98 rfl ?_
                  refine W.lcmp hx hb dX12_copy_99 ?_
                  have hif := ok_if hf
                  refine lv_if_gt (tgt := 121) hx hb dX12_copy_100 (by decide) (fun hcd => ?_) (fun hcd => ?_)
                  · have hf := hif.1 hcd
                    clear hif
                    exact J121 _ hf _ _ ls (lv_sub hl [0] rfl) hw hS
                  · have hf := hif.2 hcd
                    clear hif
                    refine lv_iload hx hb dX12_copy_103 (lv_at hl 4 rfl) ?_
                    refine lv_i2l (v := x4.toInt64) hx hb dX12_copy_105 rfl ?_
                    refine lv_iload hx hb dX12_copy_106 (lv_at hl 5 rfl) ?_
                    refine lv_i2l (v := x5.toInt64) hx hb dX12_copy_108 rfl ?_
                    refine lv_ladd hx hb dX12_copy_109 ?_
                    refine lv_aload_n hx hb dX12_copy_110 rfl (lv_at hl 0 rfl) ?_
                    refine gModel_size hC hw wd538 dX12_copy_111 ?_
                    refine lv_iload_n hx hb dX12_copy_114 rfl (lv_at hl 3 rfl) ?_
                    obtain ⟨hin, hf⟩ := ok_chk hf
                    refine z_iald hC hw rfl hin dX12_copy_115 ?_
                    refine lv_i2l (v := ((s_4 264 (x3).toNatClampNeg)).toInt64) hx hb dX12_copy_116 rfl ?_
                    refine W.lcmp hx hb dX12_copy_117 ?_
                    have hif := ok_if hf
                    refine lv_if_le (tgt := 127) hx hb dX12_copy_118 (by decide) (fun hcd => ?_) (fun hcd => ?_)
                    · have hf := hif.1 hcd
                      clear hif
                      refine lv_iconst (v := 0) hx hb dX12_copy_127 (by decide) ?_
                      obtain ⟨v6_12, en, hf⟩ := ok_lt hf
                      refine z_nm en ?_
                      clear en
                      refine lv_istore (lv' := [(6, .int v6_12), (0, .ref (E.2.2.1 259)), (1, .int x1), (2, .int x2), (3, .int x3), (4, .int x4), (5, .int x5)]) hx hb dX12_copy_128 hl (by decide) rfl (fun ls hl => ?_)
                      obtain ⟨r130, hL130, hf⟩ := ok_bind hf
                      have X130_0 : ∀ (s_15 : St), s_15 = r130 → ∀ (H : Heap) (locs : List Loc) (ls : Array Slot), lv_has ls 7 [(0, .ref (E.2.2.1 259)), (3, .int x3), (4, .int x4), (5, .int x5)] → World E sh2 s_15 H → va_S E.2.2.2 s.heap H locs → W p l e (rmd 2) s m args below meth c H locs 0 0 (MQ below (QW E sh2 (some (.int rz)) sz) args s 0 0 E.2.2.2) (F0 m 164 ls []) := by
                        intro s_15 er H locs ls hl hw hS
                        subst er
                        replace hf := ok_un1 hf
                        refine lv_iconst (v := 0) hx hb dX12_copy_164 (by decide) ?_
                        obtain ⟨v6_16, en, hf⟩ := ok_lt hf
                        refine z_nm en ?_
                        clear en
                        refine lv_istore (lv' := [(6, .int v6_16), (0, .ref (E.2.2.1 259)), (3, .int x3), (4, .int x4), (5, .int x5)]) hx hb dX12_copy_165 hl (by decide) rfl (fun ls hl => ?_)
                        obtain ⟨r167, hL167, hf⟩ := ok_bind hf
                        have X167_0 : ∀ (s_19 : St), s_19 = r167 → ∀ (H : Heap) (locs : List Loc) (ls : Array Slot), lv_has ls 7 [(0, .ref (E.2.2.1 259)), (5, .int x5)] → World E sh2 s_19 H → va_S E.2.2.2 s.heap H locs → W p l e (rmd 2) s m args below meth c H locs 0 0 (MQ below (QW E sh2 (some (.int rz)) sz) args s 0 0 E.2.2.2) (F0 m 202 ls []) := by
                          intro s_19 er H locs ls hl hw hS
                          subst er
                          replace hf := ok_un1 hf
                          refine lv_aload_n hx hb dX12_copy_202 rfl (lv_at hl 0 rfl) ?_
                          refine lv_iload hx hb dX12_copy_203 (lv_at hl 1 rfl) ?_
                          obtain ⟨r_21, s_20, hc, hf⟩ := ok_bd hf
                          refine z_cV hC hl.1 hw hS (As := [.int x5]) (rest := []) (m_X12_fine l E  hc) rfl rfl gc221 gc222 ⟨Nat.le_of_ble_eq_true rfl, Nat.le_of_ble_eq_true rfl⟩ ⟨Nat.le_of_ble_eq_true rfl, Nat.le_of_ble_eq_true rfl⟩ rfl rfl (Nat.le_of_ble_eq_true rfl) dX12_copy_205 (fun H locs hw hS => ?_)
                          clear hc
                          exact z_iretE hC hlocks hw hS hf hr rfl dX12_copy_208
                        have L167 : ∀ (n : Nat) (v6_17 : Int32) (s_18 : St), loopF (f_X12_copy_L167 x3 x4 x5) n (v6_17, s_18) = some r167 → ∀ (H : Heap) (locs : List Loc) (ls : Array Slot), lv_has ls 7 [(0, .ref (E.2.2.1 259)), (3, .int x3), (4, .int x4), (5, .int x5), (6, .int v6_17)] → World E sh2 s_18 H → va_S E.2.2.2 s.heap H locs → W p l e (rmd 2) s m args below meth c H locs 0 0 (MQ below (QW E sh2 (some (.int rz)) sz) args s 0 0 E.2.2.2) (F0 m 167 ls []) := by
                          intro n
                          induction n with
                          | zero =>
                            intro v6_17 s_18 hf
                            exact nz hf
                          | succ n ih167 =>
                            intro v6_17 s_18 hf H locs ls hl hw hS
                            obtain ⟨xl167, hf, hi167, he167⟩ := ok_loop hf
                            unfold f_X12_copy_L167 at hf
                            replace hf := ok_un2 hf
                            refine lv_iload hx hb dX12_copy_167 (lv_at hl 4 rfl) ?_
                            refine lv_iload hx hb dX12_copy_169 (lv_at hl 3 rfl) ?_
                            have hif := ok_if hf
                            refine lv_icmp_ge (tgt := 202) hx hb dX12_copy_171 (by decide) (fun hcd => ?_) (fun hcd => ?_)
                            · have hf := hif.1 hcd
                              clear hif
                              cases hf
                              exact X167_0 _ (he167 _ rfl) _ _ ls (lv_sub hl [0, 3] rfl) hw hS
                            · have hf := hif.2 hcd
                              clear hif
                              refine lv_aload_n hx hb dX12_copy_174 rfl (lv_at hl 0 rfl) ?_
                              refine gModel_items hC hw wd543 dX12_copy_175 ?_
                              refine lv_bipush (v := 40) hx hb dX12_copy_178 (by decide) ?_
                              refine lv_iload_n hx hb dX12_copy_180 rfl (lv_at hl 1 rfl) ?_
                              refine lv_imul hx hb dX12_copy_181 ?_
                              refine lv_iload hx hb dX12_copy_182 (lv_at hl 2 rfl) ?_
                              refine lv_iadd hx hb dX12_copy_184 ?_
                              refine lv_iload hx hb dX12_copy_185 (lv_at hl 4 rfl) ?_
                              refine lv_iadd hx hb dX12_copy_187 ?_
                              refine lv_aload_n hx hb dX12_copy_188 rfl (lv_at hl 0 rfl) ?_
                              refine gModel_moved hC hw wd548 dX12_copy_189 ?_
                              refine lv_iload hx hb dX12_copy_192 (lv_at hl 4 rfl) ?_
                              obtain ⟨hin, hf⟩ := ok_chk hf
                              refine z_iald hC hw rfl hin dX12_copy_194 ?_
                              obtain ⟨hin, hf⟩ := ok_chk hf
                              obtain ⟨s_22, en, hf⟩ := ok_lt hf
                              refine z_iast hC hw hS rfl hin en dX12_copy_195 (fun H locs hw hS => ?_)
                              clear en
                              obtain ⟨v6_23, en, hf⟩ := ok_lt hf
                              refine lv_iinc (v := v6_23) (lv' := [(6, .int v6_23), (0, .ref (E.2.2.1 259)), (3, .int x3), (4, .int x4), (5, .int x5)]) hx hb dX12_copy_196 hl (k := 4) rfl (by rw [en]; rfl) (by decide) rfl (fun ls hl => ?_)
                              clear en
                              refine lv_goto (tgt := 167) hx hb dX12_copy_199 (by decide) ?_
                              cases hf
                              exact ih167 _ _ (hi167 _ rfl) _ _ ls (lv_sub hl [1, 2, 3, 4, 0] rfl) hw hS
                        exact L167 5000 _ _ hL167 _ _ ls (lv_sub hl [1, 2, 3, 4, 0] rfl) hw hS
                      have L130 : ∀ (n : Nat) (v6_13 : Int32) (s_14 : St), loopF (f_X12_copy_L130 x1 x2 x5) n (v6_13, s_14) = some r130 → ∀ (H : Heap) (locs : List Loc) (ls : Array Slot), lv_has ls 7 [(0, .ref (E.2.2.1 259)), (1, .int x1), (2, .int x2), (3, .int x3), (4, .int x4), (5, .int x5), (6, .int v6_13)] → World E sh2 s_14 H → va_S E.2.2.2 s.heap H locs → W p l e (rmd 2) s m args below meth c H locs 0 0 (MQ below (QW E sh2 (some (.int rz)) sz) args s 0 0 E.2.2.2) (F0 m 130 ls []) := by
                        intro n
                        induction n with
                        | zero =>
                          intro v6_13 s_14 hf
                          exact nz hf
                        | succ n ih130 =>
                          intro v6_13 s_14 hf H locs ls hl hw hS
                          obtain ⟨xl130, hf, hi130, he130⟩ := ok_loop hf
                          unfold f_X12_copy_L130 at hf
                          replace hf := ok_un2 hf
                          refine lv_iload hx hb dX12_copy_130 (lv_at hl 6 rfl) ?_
                          refine lv_iload hx hb dX12_copy_132 (lv_at hl 5 rfl) ?_
                          have hif := ok_if hf
                          refine lv_icmp_ge (tgt := 164) hx hb dX12_copy_134 (by decide) (fun hcd => ?_) (fun hcd => ?_)
                          · have hf := hif.1 hcd
                            clear hif
                            cases hf
                            exact X130_0 _ (he130 _ rfl) _ _ ls (lv_sub hl [0, 3, 4, 5] rfl) hw hS
                          · have hf := hif.2 hcd
                            clear hif
                            refine lv_aload_n hx hb dX12_copy_137 rfl (lv_at hl 0 rfl) ?_
                            refine gModel_moved hC hw wd548 dX12_copy_138 ?_
                            refine lv_iload hx hb dX12_copy_141 (lv_at hl 6 rfl) ?_
                            refine lv_aload_n hx hb dX12_copy_143 rfl (lv_at hl 0 rfl) ?_
                            refine gModel_items hC hw wd543 dX12_copy_144 ?_
                            refine lv_bipush (v := 40) hx hb dX12_copy_147 (by decide) ?_
                            refine lv_iload_n hx hb dX12_copy_149 rfl (lv_at hl 1 rfl) ?_
                            refine lv_imul hx hb dX12_copy_150 ?_
                            refine lv_iload_n hx hb dX12_copy_151 rfl (lv_at hl 2 rfl) ?_
                            refine lv_iadd hx hb dX12_copy_152 ?_
                            refine lv_iload hx hb dX12_copy_153 (lv_at hl 6 rfl) ?_
                            refine lv_iadd hx hb dX12_copy_155 ?_
                            obtain ⟨hin, hf⟩ := ok_chk hf
                            refine z_iald hC hw rfl hin dX12_copy_156 ?_
                            obtain ⟨hin, hf⟩ := ok_chk hf
                            obtain ⟨s_24, en, hf⟩ := ok_lt hf
                            refine z_iast hC hw hS rfl hin en dX12_copy_157 (fun H locs hw hS => ?_)
                            clear en
                            obtain ⟨v6_25, en, hf⟩ := ok_lt hf
                            refine lv_iinc (v := v6_25) (lv' := [(6, .int v6_25), (0, .ref (E.2.2.1 259)), (1, .int x1), (2, .int x2), (3, .int x3), (4, .int x4), (5, .int x5)]) hx hb dX12_copy_158 hl (k := 6) rfl (by rw [en]; rfl) (by decide) rfl (fun ls hl => ?_)
                            clear en
                            refine lv_goto (tgt := 130) hx hb dX12_copy_161 (by decide) ?_
                            cases hf
                            exact ih130 _ _ (hi130 _ rfl) _ _ ls (lv_sub hl [1, 2, 3, 4, 5, 6, 0] rfl) hw hS
                      exact L130 5000 _ _ hL130 _ _ ls (lv_sub hl [1, 2, 3, 4, 5, 6, 0] rfl) hw hS
                    · have hf := hif.2 hcd
                      clear hif
                      exact J121 _ hf _ _ ls (lv_sub hl [0] rfl) hw hS
          · have hf := hif.2 hcd
            clear hif
            refine lv_aload_n hx hb dX12_copy_66 rfl (lv_at hl 0 rfl) ?_
            refine lv_iconst (v := 5) hx hb dX12_copy_67 (by decide) ?_
            obtain ⟨r_27, s_26, hc, hf⟩ := ok_bd hf
            refine z_cV hC hl.1 hw hS (As := [.int (5 : Int32)]) (rest := []) (m_X12_finds l E  hc) rfl rfl gc223 gc224 ⟨Nat.le_of_ble_eq_true rfl, Nat.le_of_ble_eq_true rfl⟩ ⟨Nat.le_of_ble_eq_true rfl, Nat.le_of_ble_eq_true rfl⟩ rfl rfl (Nat.le_of_ble_eq_true rfl) dX12_copy_68 (fun H locs hw hS => ?_)
            clear hc
            exact z_iretE hC hlocks hw hS hf hr rfl dX12_copy_71
        · have hf := hif.2 hcd
          clear hif
          exact J45 _ hf _ _ ls (lv_sub hl [0] rfl) hw hS
    · have hf := hif.2 (fun q => q hcd)
      clear hif
      exact J24 _ hf _ _ ls (lv_sub hl [] rfl) hw hS
set_option maxHeartbeats 4000000 in
set_option maxRecDepth 100000 in
theorem m_X12_drop (l : Launch) (E : Ev) {x1 : Int32}  {s0 sz : St} {rz : Int32} (hf : f_X12_drop x1 s0 = some (rz, sz)) : MM l E sh2 yX12_drop cX12_drop 3 (some .int) (rmd 2) [.ref (E.2.2.1 259), .int x1] s0 (some (.int rz)) sz := by
  unfold f_X12_drop at hf
  refine z_enter (by decide +kernel) (Nat.le_of_ble_eq_true rfl) ?_
  intro p e s m args below meth c ls hC hr hlocks hw hS hl
  have hC : Cx p s m args c cX12_drop 3 "FuseBoxModel" E := hC
  obtain ⟨hx, hb, hml, hown, hts, hTB⟩ := id hC
  have hl : lv_has ls 3 [(0, .ref (E.2.2.1 259)), (1, .int x1)] := hl
  refine lv_iload_n hx hb dX12_drop_0 rfl (lv_at hl 1 rfl) ?_
  refine lv_i2l (v := x1.toInt64) hx hb dX12_drop_1 rfl ?_
  refine lv_lconst (v := 0) hx hb dX12_drop_2 (by decide) ?_
  refine lv_ldc2 (v := 7) hx hb hown (hts _ wd530) dX12_drop_3 ?_
  obtain ⟨r_2, s_1, hc, hf⟩ := ok_bd hf
  refine z_cS hC hl.1 hw hS (As := [.long (x1.toInt64), .long (0 : Int64), .long (7 : Int64)]) (rest := []) (m_X12_in l E  hc) gc219 gc220 ⟨Nat.le_of_ble_eq_true rfl, Nat.le_of_ble_eq_true rfl⟩ ⟨Nat.le_of_ble_eq_true rfl, Nat.le_of_ble_eq_true rfl⟩ rfl rfl (Nat.le_of_ble_eq_true rfl) dX12_drop_6 (fun H locs hw hS => ?_)
  clear hc
  have hif := ok_if hf
  refine lv_if_ne (tgt := 15) hx hb dX12_drop_9 (by decide) (fun hcd => ?_) (fun hcd => ?_)
  · have hf := hif.1 hcd
    clear hif
    refine lv_aload_n hx hb dX12_drop_15 rfl (lv_at hl 0 rfl) ?_
    refine gModel_size hC hw wd538 dX12_drop_16 ?_
    refine lv_iload_n hx hb dX12_drop_19 rfl (lv_at hl 1 rfl) ?_
    obtain ⟨hin, hf⟩ := ok_chk hf
    refine z_iald hC hw rfl hin dX12_drop_20 ?_
    have hif := ok_if hf
    refine lv_if_ge (tgt := 30) hx hb dX12_drop_21 (by decide) (fun hcd => ?_) (fun hcd => ?_)
    · have hf := hif.1 hcd
      clear hif
      refine lv_aload_n hx hb dX12_drop_30 rfl (lv_at hl 0 rfl) ?_
      refine gModel_size hC hw wd538 dX12_drop_31 ?_
      refine lv_iload_n hx hb dX12_drop_34 rfl (lv_at hl 1 rfl) ?_
      obtain ⟨hin, hf⟩ := ok_chk hf
      refine z_iald hC hw rfl hin dX12_drop_35 ?_
      obtain ⟨v2_3, en, hf⟩ := ok_lt hf
      refine z_nm en ?_
      clear en
      refine lv_istore_n (lv' := [(2, .int v2_3), (0, .ref (E.2.2.1 259)), (1, .int x1)]) hx hb dX12_drop_36 rfl hl (by decide) rfl (fun ls hl => ?_)
      refine lv_aload_n hx hb dX12_drop_37 rfl (lv_at hl 1 rfl) ?_
      refine gModel_size hC hw wd538 dX12_drop_38 ?_
      refine lv_iload_n hx hb dX12_drop_41 rfl (lv_at hl 2 rfl) ?_
      refine lv_iconst (v := -1) hx hb dX12_drop_42 (by decide) ?_
      obtain ⟨hin, hf⟩ := ok_chk hf
      obtain ⟨s_4, en, hf⟩ := ok_lt hf
      refine z_iast hC hw hS rfl hin en dX12_drop_43 (fun H locs hw hS => ?_)
      clear en
      refine lv_aload_n hx hb dX12_drop_44 rfl (lv_at hl 1 rfl) ?_
      refine lv_iload_n hx hb dX12_drop_45 rfl (lv_at hl 0 rfl) ?_
      obtain ⟨r_6, s_5, hc, hf⟩ := ok_bd hf
      refine z_cV hC hl.1 hw hS (As := [.int v2_3]) (rest := []) (m_X12_fine l E  hc) rfl rfl gc221 gc222 ⟨Nat.le_of_ble_eq_true rfl, Nat.le_of_ble_eq_true rfl⟩ ⟨Nat.le_of_ble_eq_true rfl, Nat.le_of_ble_eq_true rfl⟩ rfl rfl (Nat.le_of_ble_eq_true rfl) dX12_drop_46 (fun H locs hw hS => ?_)
      clear hc
      exact z_iretE hC hlocks hw hS hf hr rfl dX12_drop_49
    · have hf := hif.2 hcd
      clear hif
      refine lv_aload_n hx hb dX12_drop_24 rfl (lv_at hl 0 rfl) ?_
      refine lv_iconst (v := 1) hx hb dX12_drop_25 (by decide) ?_
      obtain ⟨r_8, s_7, hc, hf⟩ := ok_bd hf
      refine z_cV hC hl.1 hw hS (As := [.int (1 : Int32)]) (rest := []) (m_X12_finds l E  hc) rfl rfl gc223 gc224 ⟨Nat.le_of_ble_eq_true rfl, Nat.le_of_ble_eq_true rfl⟩ ⟨Nat.le_of_ble_eq_true rfl, Nat.le_of_ble_eq_true rfl⟩ rfl rfl (Nat.le_of_ble_eq_true rfl) dX12_drop_26 (fun H locs hw hS => ?_)
      clear hc
      exact z_iretE hC hlocks hw hS hf hr rfl dX12_drop_29
  · have hf := hif.2 (fun q => q hcd)
    clear hif
    refine lv_ldc (v := -1000001) hx hb hown (hts _ wd535) dX12_drop_12 ?_
    exact z_iretE hC hlocks hw hS hf hr rfl dX12_drop_14
set_option maxHeartbeats 4000000 in
set_option maxRecDepth 100000 in
theorem m_X12_feed (l : Launch) (E : Ev) {x1 : Int32}  {s0 sz : St} {rz : Int32} (hf : f_X12_feed x1 s0 = some (rz, sz)) : MM l E sh2 yX12_feed cX12_feed 2 (some .int) (rmd 2) [.ref (E.2.2.1 259), .int x1] s0 (some (.int rz)) sz := by
  unfold f_X12_feed at hf
  refine z_enter (by decide +kernel) (Nat.le_of_ble_eq_true rfl) ?_
  intro p e s m args below meth c ls hC hr hlocks hw hS hl
  have hC : Cx p s m args c cX12_feed 2 "FuseBoxModel" E := hC
  obtain ⟨hx, hb, hml, hown, hts, hTB⟩ := id hC
  have hl : lv_has ls 2 [(0, .ref (E.2.2.1 259)), (1, .int x1)] := hl
  refine lv_iload_n hx hb dX12_feed_0 rfl (lv_at hl 1 rfl) ?_
  refine lv_i2l (v := x1.toInt64) hx hb dX12_feed_1 rfl ?_
  refine lv_lconst (v := 0) hx hb dX12_feed_2 (by decide) ?_
  refine lv_ldc2 (v := 255) hx hb hown (hts _ wd549) dX12_feed_3 ?_
  obtain ⟨r_2, s_1, hc, hf⟩ := ok_bd hf
  refine z_cS hC hl.1 hw hS (As := [.long (x1.toInt64), .long (0 : Int64), .long (255 : Int64)]) (rest := []) (m_X12_in l E  hc) gc219 gc220 ⟨Nat.le_of_ble_eq_true rfl, Nat.le_of_ble_eq_true rfl⟩ ⟨Nat.le_of_ble_eq_true rfl, Nat.le_of_ble_eq_true rfl⟩ rfl rfl (Nat.le_of_ble_eq_true rfl) dX12_feed_6 (fun H locs hw hS => ?_)
  clear hc
  have hif := ok_if hf
  refine lv_if_ne (tgt := 15) hx hb dX12_feed_9 (by decide) (fun hcd => ?_) (fun hcd => ?_)
  · have hf := hif.1 hcd
    clear hif
    refine lv_aload_n hx hb dX12_feed_15 rfl (lv_at hl 0 rfl) ?_
    refine gModel_length hC hw wd550 dX12_feed_16 ?_
    refine lv_bipush (v := 90) hx hb dX12_feed_19 (by decide) ?_
    have hif := ok_if hf
    refine lv_icmp_ne (tgt := 27) hx hb dX12_feed_21 (by decide) (fun hcd => ?_) (fun hcd => ?_)
    · have hf := hif.1 hcd
      clear hif
      refine lv_aload_n hx hb dX12_feed_27 rfl (lv_at hl 0 rfl) ?_
      refine gModel_tape hC hw wd551 dX12_feed_28 ?_
      refine lv_aload_n hx hb dX12_feed_31 rfl (lv_at hl 0 rfl) ?_
      refine gModel_length hC hw wd550 dX12_feed_32 ?_
      refine lv_iload_n hx hb dX12_feed_35 rfl (lv_at hl 1 rfl) ?_
      refine lv_i2b (v := (x1).toInt8.toInt32) hx hb dX12_feed_36 rfl ?_
      obtain ⟨hin, hf⟩ := ok_chk hf
      obtain ⟨s_3, en, hf⟩ := ok_lt hf
      refine z_bast hC hw hS rfl hin en dX12_feed_37 (fun H locs hw hS => ?_)
      clear en
      refine lv_aload_n hx hb dX12_feed_38 rfl (lv_at hl 0 rfl) ?_
      refine lv_dup hx hb dX12_feed_39 rfl ?_
      refine gModel_length hC hw wd550 dX12_feed_40 ?_
      refine lv_iconst (v := 1) hx hb dX12_feed_43 (by decide) ?_
      refine lv_iadd hx hb dX12_feed_44 ?_
      obtain ⟨s_4, en, hf⟩ := ok_lt hf
      refine pModel_length hC hw hS wd550 en dX12_feed_45 (fun H locs hw hS => ?_)
      clear en
      refine lv_aload_n hx hb dX12_feed_48 rfl (lv_at hl 0 rfl) ?_
      refine gModel_length hC hw wd550 dX12_feed_49 ?_
      exact z_iretE hC hlocks hw hS hf hr rfl dX12_feed_52
    · have hf := hif.2 (fun q => q hcd)
      clear hif
      refine lv_ldc (v := -1000003) hx hb hown (hts _ wd552) dX12_feed_24 ?_
      exact z_iretE hC hlocks hw hS hf hr rfl dX12_feed_26
  · have hf := hif.2 (fun q => q hcd)
    clear hif
    refine lv_ldc (v := -1000001) hx hb hown (hts _ wd535) dX12_feed_12 ?_
    exact z_iretE hC hlocks hw hS hf hr rfl dX12_feed_14
set_option maxHeartbeats 4000000 in
set_option maxRecDepth 100000 in
theorem m_X12_byteAt (l : Launch) (E : Ev) {x1 : Int32}  {s0 sz : St} {rz : Int32} (hf : f_X12_byteAt x1 s0 = some (rz, sz)) : MM l E sh2 yX12_byteAt cX12_byteAt 2 (some .int) (rmd 1) [.ref (E.2.2.1 259), .int x1] s0 (some (.int rz)) sz := by
  unfold f_X12_byteAt at hf
  refine z_enter (by decide +kernel) (Nat.le_of_ble_eq_true rfl) ?_
  intro p e s m args below meth c ls hC hr hlocks hw hS hl
  have hC : Cx p s m args c cX12_byteAt 2 "FuseBoxModel" E := hC
  obtain ⟨hx, hb, hml, hown, hts, hTB⟩ := id hC
  have hl : lv_has ls 2 [(0, .ref (E.2.2.1 259)), (1, .int x1)] := hl
  refine lv_iload_n hx hb dX12_byteAt_0 rfl (lv_at hl 1 rfl) ?_
  refine lv_aload_n hx hb dX12_byteAt_1 rfl (lv_at hl 0 rfl) ?_
  refine gModel_length hC hw wd550 dX12_byteAt_2 ?_
  obtain ⟨j22, ej22, hf⟩ := ok_lt hf
  have J22 : ∀ (k_1 : Int32) (s_2 : St), j22 k_1 s_2 = some (rz, sz) → ∀ (H : Heap) (locs : List Loc) (ls : Array Slot), lv_has ls 2 [] → World E sh2 s_2 H → va_S E.2.2.2 s.heap H locs → W p l e (rmd 1) s m args below meth c H locs 0 0 (MQ below (QW E sh2 (some (.int rz)) sz) args s 0 0 E.2.2.2) (F0 m 22 ls [.int k_1]) := by
    intro k_1 s_2 hf H locs ls hl hw hS
    subst ej22
    exact z_iretE hC hlocks hw hS hf hr rfl dX12_byteAt_22
  clear ej22
  have hif := ok_if hf
  refine lv_icmp_ge (tgt := 21) hx hb dX12_byteAt_5 (by decide) (fun hcd => ?_) (fun hcd => ?_)
  · have hf := hif.1 hcd
    clear hif
    refine lv_iconst (v := -1) hx hb dX12_byteAt_21 (by decide) ?_
    exact J22 _ _ hf _ _ ls (lv_sub hl [] rfl) hw hS
  · have hf := hif.2 hcd
    clear hif
    refine lv_aload_n hx hb dX12_byteAt_8 rfl (lv_at hl 0 rfl) ?_
    refine gModel_tape hC hw wd551 dX12_byteAt_9 ?_
    refine lv_iload_n hx hb dX12_byteAt_12 rfl (lv_at hl 1 rfl) ?_
    obtain ⟨hin, hf⟩ := ok_chk hf
    refine z_bald hC hw rfl hin dX12_byteAt_13 ?_
    refine lv_sipush (v := 255) hx hb dX12_byteAt_14 (by decide) ?_
    refine lv_iand hx hb dX12_byteAt_17 ?_
    refine lv_goto (tgt := 22) hx hb dX12_byteAt_18 (by decide) ?_
    exact J22 _ _ hf _ _ ls (lv_sub hl [] rfl) hw hS
set_option maxHeartbeats 4000000 in
set_option maxRecDepth 100000 in
theorem m_X12_token (l : Launch) (E : Ev)   {s0 sz : St} {rz : Int32} (hf : f_X12_token s0 = some (rz, sz)) : MM l E sh2 yX12_token cX12_token 3 (some .int) (rmd 2) [.ref (E.2.2.1 259)] s0 (some (.int rz)) sz := by
  unfold f_X12_token at hf
  refine z_enter (by decide +kernel) (Nat.le_of_ble_eq_true rfl) ?_
  intro p e s m args below meth c ls hC hr hlocks hw hS hl
  have hC : Cx p s m args c cX12_token 3 "FuseBoxModel" E := hC
  obtain ⟨hx, hb, hml, hown, hts, hTB⟩ := id hC
  have hl : lv_has ls 3 [(0, .ref (E.2.2.1 259))] := hl
  refine lv_aload_n hx hb dX12_token_0 rfl (lv_at hl 0 rfl) ?_
  refine lv_aload_n hx hb dX12_token_1 rfl (lv_at hl 0 rfl) ?_
  refine gModel_next hC hw wd553 dX12_token_2 ?_
  obtain ⟨s_1, en, hf⟩ := ok_lt hf
  refine pModel_place hC hw hS wd554 en dX12_token_5 (fun H locs hw hS => ?_)
  clear en
  refine lv_aload_n hx hb dX12_token_8 rfl (lv_at hl 0 rfl) ?_
  refine lv_aload_n hx hb dX12_token_9 rfl (lv_at hl 0 rfl) ?_
  refine gModel_next hC hw wd553 dX12_token_10 ?_
  obtain ⟨r_3, s_2, hc, hf⟩ := ok_bd hf
  refine z_cV hC hl.1 hw hS (As := [.int (s_1 259 11)]) (rest := []) (m_X12_byteAt l E  hc) rfl rfl gc225 gc226 ⟨Nat.le_of_ble_eq_true rfl, Nat.le_of_ble_eq_true rfl⟩ ⟨Nat.le_of_ble_eq_true rfl, Nat.le_of_ble_eq_true rfl⟩ rfl rfl (Nat.le_of_ble_eq_true rfl) dX12_token_13 (fun H locs hw hS => ?_)
  clear hc
  refine lv_istore_n (lv' := [(1, .int r_3), (0, .ref (E.2.2.1 259))]) hx hb dX12_token_16 rfl hl (by decide) rfl (fun ls hl => ?_)
  refine lv_iload_n hx hb dX12_token_17 rfl (lv_at hl 0 rfl) ?_
  have hif := ok_if hf
  refine lv_if_ge (tgt := 23) hx hb dX12_token_18 (by decide) (fun hcd => ?_) (fun hcd => ?_)
  · have hf := hif.1 hcd
    clear hif
    refine lv_iload_n hx hb dX12_token_23 rfl (lv_at hl 0 rfl) ?_
    refine lv_i2l (v := r_3.toInt64) hx hb dX12_token_24 rfl ?_
    refine lv_ldc2 (v := 48) hx hb hown (hts _ wd559) dX12_token_25 ?_
    refine lv_ldc2 (v := 57) hx hb hown (hts _ wd560) dX12_token_28 ?_
    obtain ⟨r_5, s_4, hc, hf⟩ := ok_bd hf
    refine z_cS hC hl.1 hw hS (As := [.long (r_3.toInt64), .long (48 : Int64), .long (57 : Int64)]) (rest := []) (m_X12_in l E  hc) gc219 gc220 ⟨Nat.le_of_ble_eq_true rfl, Nat.le_of_ble_eq_true rfl⟩ ⟨Nat.le_of_ble_eq_true rfl, Nat.le_of_ble_eq_true rfl⟩ rfl rfl (Nat.le_of_ble_eq_true rfl) dX12_token_31 (fun H locs hw hS => ?_)
    clear hc
    have hif := ok_if hf
    refine lv_if_eq (tgt := 127) hx hb dX12_token_34 (by decide) (fun hcd => ?_) (fun hcd => ?_)
    · have hf := hif.1 hcd
      clear hif
      refine lv_aload_n hx hb dX12_token_127 rfl (lv_at hl 1 rfl) ?_
      refine lv_dup hx hb dX12_token_128 rfl ?_
      refine gModel_next hC hw wd553 dX12_token_129 ?_
      refine lv_iconst (v := 1) hx hb dX12_token_132 (by decide) ?_
      refine lv_iadd hx hb dX12_token_133 ?_
      obtain ⟨s_6, en, hf⟩ := ok_lt hf
      refine pModel_next hC hw hS wd553 en dX12_token_134 (fun H locs hw hS => ?_)
      clear en
      refine lv_iload_n hx hb dX12_token_137 rfl (lv_at hl 0 rfl) ?_
      refine lv_i2l (v := r_3.toInt64) hx hb dX12_token_138 rfl ?_
      refine lv_ldc2 (v := 97) hx hb hown (hts _ wd561) dX12_token_139 ?_
      refine lv_ldc2 (v := 122) hx hb hown (hts _ wd562) dX12_token_142 ?_
      obtain ⟨r_8, s_7, hc, hf⟩ := ok_bd hf
      refine z_cS hC hl.1 hw hS (As := [.long (r_3.toInt64), .long (97 : Int64), .long (122 : Int64)]) (rest := []) (m_X12_in l E  hc) gc219 gc220 ⟨Nat.le_of_ble_eq_true rfl, Nat.le_of_ble_eq_true rfl⟩ ⟨Nat.le_of_ble_eq_true rfl, Nat.le_of_ble_eq_true rfl⟩ rfl rfl (Nat.le_of_ble_eq_true rfl) dX12_token_145 (fun H locs hw hS => ?_)
      clear hc
      obtain ⟨j168, ej168, hf⟩ := ok_lt hf
      have J168 : ∀ (k_9 : Int32) (s_10 : St), j168 k_9 s_10 = some (rz, sz) → ∀ (H : Heap) (locs : List Loc) (ls : Array Slot), lv_has ls 3 [] → World E sh2 s_10 H → va_S E.2.2.2 s.heap H locs → W p l e (rmd 2) s m args below meth c H locs 0 0 (MQ below (QW E sh2 (some (.int rz)) sz) args s 0 0 E.2.2.2) (F0 m 168 ls [.int k_9]) := by
        intro k_9 s_10 hf H locs ls hl hw hS
        subst ej168
        exact z_iretE hC hlocks hw hS hf hr rfl dX12_token_168
      clear ej168
      obtain ⟨j163, ej163, hf⟩ := ok_lt hf
      have J163 : ∀ (s_11 : St), j163 s_11 = some (rz, sz) → ∀ (H : Heap) (locs : List Loc) (ls : Array Slot), lv_has ls 3 [(1, .int r_3)] → World E sh2 s_11 H → va_S E.2.2.2 s.heap H locs → W p l e (rmd 2) s m args below meth c H locs 0 0 (MQ below (QW E sh2 (some (.int rz)) sz) args s 0 0 E.2.2.2) (F0 m 163 ls []) := by
        intro s_11 hf H locs ls hl hw hS
        subst ej163
        refine lv_iload_n hx hb dX12_token_163 rfl (lv_at hl 0 rfl) ?_
        refine lv_goto (tgt := 168) hx hb dX12_token_164 (by decide) ?_
        exact J168 _ _ hf _ _ ls (lv_sub hl [] rfl) hw hS
      clear ej163
      have hif := ok_if hf
      refine lv_if_ne (tgt := 163) hx hb dX12_token_148 (by decide) (fun hcd => ?_) (fun hcd => ?_)
      · have hf := hif.1 hcd
        clear hif
        exact J163 _ hf _ _ ls (lv_sub hl [0] rfl) hw hS
      · have hf := hif.2 (fun q => q hcd)
        clear hif
        refine lv_iload_n hx hb dX12_token_151 rfl (lv_at hl 0 rfl) ?_
        refine lv_bipush (v := 44) hx hb dX12_token_152 (by decide) ?_
        have hif := ok_if hf
        refine lv_icmp_eq (tgt := 163) hx hb dX12_token_154 (by decide) (fun hcd => ?_) (fun hcd => ?_)
        · have hf := hif.1 hcd
          clear hif
          exact J163 _ hf _ _ ls (lv_sub hl [0] rfl) hw hS
        · have hf := hif.2 hcd
          clear hif
          refine lv_iload_n hx hb dX12_token_157 rfl (lv_at hl 0 rfl) ?_
          refine lv_bipush (v := 59) hx hb dX12_token_158 (by decide) ?_
          have hif := ok_if hf
          refine lv_icmp_ne (tgt := 167) hx hb dX12_token_160 (by decide) (fun hcd => ?_) (fun hcd => ?_)
          · have hf := hif.1 hcd
            clear hif
            refine lv_iconst (v := 2) hx hb dX12_token_167 (by decide) ?_
            exact J168 _ _ hf _ _ ls (lv_sub hl [] rfl) hw hS
          · have hf := hif.2 (fun q => q hcd)
            clear hif
            exact J163 _ hf _ _ ls (lv_sub hl [0] rfl) hw hS
    · have hf := hif.2 hcd
      clear hif
      refine lv_aload_n hx hb dX12_token_37 rfl (lv_at hl 1 rfl) ?_
      refine lv_iconst (v := 0) hx hb dX12_token_38 (by decide) ?_
      obtain ⟨s_12, en, hf⟩ := ok_lt hf
      refine pModel_number hC hw hS wd563 en dX12_token_39 (fun H locs hw hS => ?_)
      clear en
      refine lv_iconst (v := 0) hx hb dX12_token_42 (by decide) ?_
      obtain ⟨v2_13, en, hf⟩ := ok_lt hf
      refine z_nm en ?_
      clear en
      refine lv_istore_n (lv' := [(2, .int v2_13), (1, .int r_3), (0, .ref (E.2.2.1 259))]) hx hb dX12_token_43 rfl hl (by decide) rfl (fun ls hl => ?_)
      obtain ⟨r44, hL44, hf⟩ := ok_bind hf
      have X44_0 : ∀ (v2_16 : Int32) (s_17 : St), (v2_16, s_17) = r44 → ∀ (H : Heap) (locs : List Loc) (ls : Array Slot), lv_has ls 3 [(2, .int v2_16)] → World E sh2 s_17 H → va_S E.2.2.2 s.heap H locs → W p l e (rmd 2) s m args below meth c H locs 0 0 (MQ below (QW E sh2 (some (.int rz)) sz) args s 0 0 E.2.2.2) (F0 m 116 ls []) := by
        intro v2_16 s_17 er H locs ls hl hw hS
        subst er
        replace hf := ok_un2 hf
        refine lv_iload_n hx hb dX12_token_116 rfl (lv_at hl 0 rfl) ?_
        refine lv_iconst (v := 2) hx hb dX12_token_117 (by decide) ?_
        obtain ⟨j126, ej126, hf⟩ := ok_lt hf
        have J126 : ∀ (k_18 : Int32) (s_19 : St), j126 k_18 s_19 = some (rz, sz) → ∀ (H : Heap) (locs : List Loc) (ls : Array Slot), lv_has ls 3 [] → World E sh2 s_19 H → va_S E.2.2.2 s.heap H locs → W p l e (rmd 2) s m args below meth c H locs 0 0 (MQ below (QW E sh2 (some (.int rz)) sz) args s 0 0 E.2.2.2) (F0 m 126 ls [.int k_18]) := by
          intro k_18 s_19 hf H locs ls hl hw hS
          subst ej126
          exact z_iretE hC hlocks hw hS hf hr rfl dX12_token_126
        clear ej126
        have hif := ok_if hf
        refine lv_icmp_le (tgt := 125) hx hb dX12_token_118 (by decide) (fun hcd => ?_) (fun hcd => ?_)
        · have hf := hif.1 hcd
          clear hif
          refine lv_iconst (v := 1) hx hb dX12_token_125 (by decide) ?_
          exact J126 _ _ hf _ _ ls (lv_sub hl [] rfl) hw hS
        · have hf := hif.2 hcd
          clear hif
          refine lv_iconst (v := 2) hx hb dX12_token_121 (by decide) ?_
          refine lv_goto (tgt := 126) hx hb dX12_token_122 (by decide) ?_
          exact J126 _ _ hf _ _ ls (lv_sub hl [] rfl) hw hS
      have L44 : ∀ (n : Nat) (v2_14 : Int32) (s_15 : St), loopF f_X12_token_L44 n (v2_14, s_15) = some r44 → ∀ (H : Heap) (locs : List Loc) (ls : Array Slot), lv_has ls 3 [(0, .ref (E.2.2.1 259)), (2, .int v2_14)] → World E sh2 s_15 H → va_S E.2.2.2 s.heap H locs → W p l e (rmd 2) s m args below meth c H locs 0 0 (MQ below (QW E sh2 (some (.int rz)) sz) args s 0 0 E.2.2.2) (F0 m 44 ls []) := by
        intro n
        induction n with
        | zero =>
          intro v2_14 s_15 hf
          exact nz hf
        | succ n ih44 =>
          intro v2_14 s_15 hf H locs ls hl hw hS
          obtain ⟨xl44, hf, hi44, he44⟩ := ok_loop hf
          unfold f_X12_token_L44 at hf
          replace hf := ok_un2 hf
          refine lv_aload_n hx hb dX12_token_44 rfl (lv_at hl 0 rfl) ?_
          refine lv_aload_n hx hb dX12_token_45 rfl (lv_at hl 0 rfl) ?_
          refine gModel_next hC hw wd553 dX12_token_46 ?_
          obtain ⟨r_21, s_20, hc, hf⟩ := ok_bd hf
          refine z_cV hC hl.1 hw hS (As := [.int (s_15 259 11)]) (rest := []) (m_X12_byteAt l E  hc) rfl rfl gc225 gc226 ⟨Nat.le_of_ble_eq_true rfl, Nat.le_of_ble_eq_true rfl⟩ ⟨Nat.le_of_ble_eq_true rfl, Nat.le_of_ble_eq_true rfl⟩ rfl rfl (Nat.le_of_ble_eq_true rfl) dX12_token_49 (fun H locs hw hS => ?_)
          clear hc
          refine lv_i2l (v := r_21.toInt64) hx hb dX12_token_52 rfl ?_
          refine lv_ldc2 (v := 48) hx hb hown (hts _ wd559) dX12_token_53 ?_
          refine lv_ldc2 (v := 57) hx hb hown (hts _ wd560) dX12_token_56 ?_
          obtain ⟨r_23, s_22, hc, hf⟩ := ok_bd hf
          refine z_cS hC hl.1 hw hS (As := [.long (r_21.toInt64), .long (48 : Int64), .long (57 : Int64)]) (rest := []) (m_X12_in l E  hc) gc219 gc220 ⟨Nat.le_of_ble_eq_true rfl, Nat.le_of_ble_eq_true rfl⟩ ⟨Nat.le_of_ble_eq_true rfl, Nat.le_of_ble_eq_true rfl⟩ rfl rfl (Nat.le_of_ble_eq_true rfl) dX12_token_59 (fun H locs hw hS => ?_)
          clear hc
          have hif := ok_if hf
          refine lv_if_eq (tgt := 116) hx hb dX12_token_62 (by decide) (fun hcd => ?_) (fun hcd => ?_)
          · have hf := hif.1 hcd
            clear hif
            cases hf
            exact X44_0 _ _ (he44 _ rfl) _ _ ls (lv_sub hl [1] rfl) hw hS
          · have hf := hif.2 hcd
            clear hif
            refine lv_aload_n hx hb dX12_token_65 rfl (lv_at hl 0 rfl) ?_
            refine lv_iload_n hx hb dX12_token_66 rfl (lv_at hl 1 rfl) ?_
            refine lv_iconst (v := 2) hx hb dX12_token_67 (by decide) ?_
            obtain ⟨j97, ej97, hf⟩ := ok_lt hf
            have J97 : ∀ (k_24 : Int32) (s_25 : St), j97 k_24 s_25 = some xl44 → ∀ (H : Heap) (locs : List Loc) (ls : Array Slot), lv_has ls 3 [(0, .ref (E.2.2.1 259)), (2, .int v2_14)] → World E sh2 s_25 H → va_S E.2.2.2 s.heap H locs → W p l e (rmd 2) s m args below meth c H locs 0 0 (MQ below (QW E sh2 (some (.int rz)) sz) args s 0 0 E.2.2.2) (F0 m 97 ls [.int k_24, .ref (E.2.2.1 259)]) := by
              intro k_24 s_25 hf H locs ls hl hw hS
              subst ej97
              obtain ⟨s_26, en, hf⟩ := ok_lt hf
              refine pModel_number hC hw hS wd563 en dX12_token_97 (fun H locs hw hS => ?_)
              clear en
              obtain ⟨v2_27, en, hf⟩ := ok_lt hf
              refine lv_iinc (v := v2_27) (lv' := [(2, .int v2_27), (0, .ref (E.2.2.1 259))]) hx hb dX12_token_100 hl (k := 1) rfl (by rw [en]; rfl) (by decide) rfl (fun ls hl => ?_)
              clear en
              refine lv_aload_n hx hb dX12_token_103 rfl (lv_at hl 1 rfl) ?_
              refine lv_dup hx hb dX12_token_104 rfl ?_
              refine gModel_next hC hw wd553 dX12_token_105 ?_
              refine lv_iconst (v := 1) hx hb dX12_token_108 (by decide) ?_
              refine lv_iadd hx hb dX12_token_109 ?_
              obtain ⟨s_28, en, hf⟩ := ok_lt hf
              refine pModel_next hC hw hS wd553 en dX12_token_110 (fun H locs hw hS => ?_)
              clear en
              refine lv_goto (tgt := 44) hx hb dX12_token_113 (by decide) ?_
              cases hf
              exact ih44 _ _ (hi44 _ rfl) _ _ ls (lv_sub hl [1, 0] rfl) hw hS
            clear ej97
            have hif := ok_if hf
            refine lv_icmp_ge (tgt := 93) hx hb dX12_token_68 (by decide) (fun hcd => ?_) (fun hcd => ?_)
            · have hf := hif.1 hcd
              clear hif
              refine lv_aload_n hx hb dX12_token_93 rfl (lv_at hl 0 rfl) ?_
              refine gModel_number hC hw wd563 dX12_token_94 ?_
              exact J97 _ _ hf _ _ ls hl hw hS
            · have hf := hif.2 hcd
              clear hif
              refine lv_bipush (v := 10) hx hb dX12_token_71 (by decide) ?_
              refine lv_aload_n hx hb dX12_token_73 rfl (lv_at hl 0 rfl) ?_
              refine gModel_number hC hw wd563 dX12_token_74 ?_
              refine lv_imul hx hb dX12_token_77 ?_
              refine lv_aload_n hx hb dX12_token_78 rfl (lv_at hl 0 rfl) ?_
              refine lv_aload_n hx hb dX12_token_79 rfl (lv_at hl 0 rfl) ?_
              refine gModel_next hC hw wd553 dX12_token_80 ?_
              obtain ⟨r_30, s_29, hc, hf⟩ := ok_bd hf
              refine z_cV hC hl.1 hw hS (As := [.int (s_22 259 11)]) (rest := [.int ((10 : Int32) * (s_22 259 13)), .ref (E.2.2.1 259)]) (m_X12_byteAt l E  hc) rfl rfl gc225 gc226 ⟨Nat.le_of_ble_eq_true rfl, Nat.le_of_ble_eq_true rfl⟩ ⟨Nat.le_of_ble_eq_true rfl, Nat.le_of_ble_eq_true rfl⟩ rfl rfl (Nat.le_of_ble_eq_true rfl) dX12_token_83 (fun H locs hw hS => ?_)
              clear hc
              refine lv_iadd hx hb dX12_token_86 ?_
              refine lv_bipush (v := 48) hx hb dX12_token_87 (by decide) ?_
              refine lv_isub hx hb dX12_token_89 ?_
              refine lv_goto (tgt := 97) hx hb dX12_token_90 (by decide) ?_
              exact J97 _ _ hf _ _ ls hl hw hS
      exact L44 5000 _ _ hL44 _ _ ls (lv_sub hl [2, 0] rfl) hw hS
  · have hf := hif.2 hcd
    clear hif
    refine lv_iconst (v := 3) hx hb dX12_token_21 (by decide) ?_
    exact z_iretE hC hlocks hw hS hf hr rfl dX12_token_22
set_option maxHeartbeats 4000000 in
set_option maxRecDepth 100000 in
theorem m_X12_wants (l : Launch) (E : Ev) {x1 : Int32} {x2 : Int32}  {s0 sz : St} {rz : Int32} (hf : f_X12_wants x1 x2 s0 = some (rz, sz)) : MM l E sh2 yX12_wants cX12_wants 4 (some .int) (rmd 3) [.ref (E.2.2.1 259), .int x1, .int x2] s0 (some (.int rz)) sz := by
  unfold f_X12_wants at hf
  refine z_enter (by decide +kernel) (Nat.le_of_ble_eq_true rfl) ?_
  intro p e s m args below meth c ls hC hr hlocks hw hS hl
  have hC : Cx p s m args c cX12_wants 4 "FuseBoxModel" E := hC
  obtain ⟨hx, hb, hml, hown, hts, hTB⟩ := id hC
  have hl : lv_has ls 4 [(0, .ref (E.2.2.1 259)), (1, .int x1), (2, .int x2)] := hl
  refine lv_aload_n hx hb dX12_wants_0 rfl (lv_at hl 0 rfl) ?_
  refine gModel_wrong hC hw wd564 dX12_wants_1 ?_
  have hif := ok_if hf
  refine lv_if_le (tgt := 9) hx hb dX12_wants_4 (by decide) (fun hcd => ?_) (fun hcd => ?_)
  · have hf := hif.1 hcd
    clear hif
    refine lv_aload_n hx hb dX12_wants_9 rfl (lv_at hl 0 rfl) ?_
    obtain ⟨r_2, s_1, hc, hf⟩ := ok_bd hf
    refine z_cV hC hl.1 hw hS (As := []) (rest := []) (m_X12_token l E  hc) rfl rfl gc227 gc228 ⟨Nat.le_of_ble_eq_true rfl, Nat.le_of_ble_eq_true rfl⟩ ⟨Nat.le_of_ble_eq_true rfl, Nat.le_of_ble_eq_true rfl⟩ rfl rfl (Nat.le_of_ble_eq_true rfl) dX12_wants_10 (fun H locs hw hS => ?_)
    clear hc
    refine lv_iconst (v := 1) hx hb dX12_wants_13 (by decide) ?_
    obtain ⟨j22, ej22, hf⟩ := ok_lt hf
    have J22 : ∀ (k_3 : Int32) (s_4 : St), j22 k_3 s_4 = some (rz, sz) → ∀ (H : Heap) (locs : List Loc) (ls : Array Slot), lv_has ls 4 [(0, .ref (E.2.2.1 259)), (1, .int x1), (2, .int x2)] → World E sh2 s_4 H → va_S E.2.2.2 s.heap H locs → W p l e (rmd 3) s m args below meth c H locs 0 0 (MQ below (QW E sh2 (some (.int rz)) sz) args s 0 0 E.2.2.2) (F0 m 22 ls [.int k_3]) := by
      intro k_3 s_4 hf H locs ls hl hw hS
      subst ej22
      refine lv_istore_n (lv' := [(3, .int k_3), (0, .ref (E.2.2.1 259)), (1, .int x1), (2, .int x2)]) hx hb dX12_wants_22 rfl hl (by decide) rfl (fun ls hl => ?_)
      refine lv_aload_n hx hb dX12_wants_23 rfl (lv_at hl 1 rfl) ?_
      refine lv_iload_n hx hb dX12_wants_24 rfl (lv_at hl 0 rfl) ?_
      obtain ⟨j52, ej52, hf⟩ := ok_lt hf
      have J52 : ∀ (k_5 : Int32) (s_6 : St), j52 k_5 s_6 = some (rz, sz) → ∀ (H : Heap) (locs : List Loc) (ls : Array Slot), lv_has ls 4 [(0, .ref (E.2.2.1 259))] → World E sh2 s_6 H → va_S E.2.2.2 s.heap H locs → W p l e (rmd 3) s m args below meth c H locs 0 0 (MQ below (QW E sh2 (some (.int rz)) sz) args s 0 0 E.2.2.2) (F0 m 52 ls [.int k_5, .ref (E.2.2.1 259)]) := by
        intro k_5 s_6 hf H locs ls hl hw hS
        subst ej52
        obtain ⟨s_7, en, hf⟩ := ok_lt hf
        refine pModel_wrong hC hw hS wd564 en dX12_wants_52 (fun H locs hw hS => ?_)
        clear en
        refine lv_aload_n hx hb dX12_wants_55 rfl (lv_at hl 0 rfl) ?_
        refine gModel_wrong hC hw wd564 dX12_wants_56 ?_
        obtain ⟨j70, ej70, hf⟩ := ok_lt hf
        have J70 : ∀ (k_8 : Int32) (s_9 : St), j70 k_8 s_9 = some (rz, sz) → ∀ (H : Heap) (locs : List Loc) (ls : Array Slot), lv_has ls 4 [] → World E sh2 s_9 H → va_S E.2.2.2 s.heap H locs → W p l e (rmd 3) s m args below meth c H locs 0 0 (MQ below (QW E sh2 (some (.int rz)) sz) args s 0 0 E.2.2.2) (F0 m 70 ls [.int k_8]) := by
          intro k_8 s_9 hf H locs ls hl hw hS
          subst ej70
          exact z_iretE hC hlocks hw hS hf hr rfl dX12_wants_70
        clear ej70
        have hif := ok_if hf
        refine lv_if_le (tgt := 66) hx hb dX12_wants_59 (by decide) (fun hcd => ?_) (fun hcd => ?_)
        · have hf := hif.1 hcd
          clear hif
          refine lv_aload_n hx hb dX12_wants_66 rfl (lv_at hl 0 rfl) ?_
          refine gModel_number hC hw wd563 dX12_wants_67 ?_
          exact J70 _ _ hf _ _ ls (lv_sub hl [] rfl) hw hS
        · have hf := hif.2 hcd
          clear hif
          refine lv_iconst (v := 0) hx hb dX12_wants_62 (by decide) ?_
          refine lv_goto (tgt := 70) hx hb dX12_wants_63 (by decide) ?_
          exact J70 _ _ hf _ _ ls (lv_sub hl [] rfl) hw hS
      clear ej52
      have hif := ok_if hf
      refine lv_if_ne (tgt := 32) hx hb dX12_wants_25 (by decide) (fun hcd => ?_) (fun hcd => ?_)
      · have hf := hif.1 hcd
        clear hif
        refine lv_aload_n hx hb dX12_wants_32 rfl (lv_at hl 1 rfl) ?_
        refine gModel_number hC hw wd563 dX12_wants_33 ?_
        refine lv_i2l (v := ((s_4 259 13)).toInt64) hx hb dX12_wants_36 rfl ?_
        refine lv_iload_n hx hb dX12_wants_37 rfl (lv_at hl 2 rfl) ?_
        refine lv_i2l (v := x1.toInt64) hx hb dX12_wants_38 rfl ?_
        refine lv_iload_n hx hb dX12_wants_39 rfl (lv_at hl 3 rfl) ?_
        refine lv_i2l (v := x2.toInt64) hx hb dX12_wants_40 rfl ?_
        obtain ⟨r_11, s_10, hc, hf⟩ := ok_bd hf
        refine z_cS hC hl.1 hw hS (As := [.long (((s_4 259 13)).toInt64), .long (x1.toInt64), .long (x2.toInt64)]) (rest := [.ref (E.2.2.1 259)]) (m_X12_in l E  hc) gc219 gc220 ⟨Nat.le_of_ble_eq_true rfl, Nat.le_of_ble_eq_true rfl⟩ ⟨Nat.le_of_ble_eq_true rfl, Nat.le_of_ble_eq_true rfl⟩ rfl rfl (Nat.le_of_ble_eq_true rfl) dX12_wants_41 (fun H locs hw hS => ?_)
        clear hc
        have hif := ok_if hf
        refine lv_if_eq (tgt := 51) hx hb dX12_wants_44 (by decide) (fun hcd => ?_) (fun hcd => ?_)
        · have hf := hif.1 hcd
          clear hif
          refine lv_iconst (v := 2) hx hb dX12_wants_51 (by decide) ?_
          exact J52 _ _ hf _ _ ls (lv_sub hl [1] rfl) hw hS
        · have hf := hif.2 hcd
          clear hif
          refine lv_iconst (v := 0) hx hb dX12_wants_47 (by decide) ?_
          refine lv_goto (tgt := 52) hx hb dX12_wants_48 (by decide) ?_
          exact J52 _ _ hf _ _ ls (lv_sub hl [1] rfl) hw hS
      · have hf := hif.2 (fun q => q hcd)
        clear hif
        refine lv_iconst (v := 1) hx hb dX12_wants_28 (by decide) ?_
        refine lv_goto (tgt := 52) hx hb dX12_wants_29 (by decide) ?_
        exact J52 _ _ hf _ _ ls (lv_sub hl [1] rfl) hw hS
    clear ej22
    have hif := ok_if hf
    refine lv_icmp_ne (tgt := 21) hx hb dX12_wants_14 (by decide) (fun hcd => ?_) (fun hcd => ?_)
    · have hf := hif.1 hcd
      clear hif
      refine lv_iconst (v := 0) hx hb dX12_wants_21 (by decide) ?_
      exact J22 _ _ hf _ _ ls hl hw hS
    · have hf := hif.2 (fun q => q hcd)
      clear hif
      refine lv_iconst (v := 1) hx hb dX12_wants_17 (by decide) ?_
      refine lv_goto (tgt := 22) hx hb dX12_wants_18 (by decide) ?_
      exact J22 _ _ hf _ _ ls hl hw hS
  · have hf := hif.2 hcd
    clear hif
    refine lv_iconst (v := 0) hx hb dX12_wants_7 (by decide) ?_
    exact z_iretE hC hlocks hw hS hf hr rfl dX12_wants_8
set_option maxHeartbeats 4000000 in
set_option maxRecDepth 100000 in
theorem m_X12_sign (l : Launch) (E : Ev) {x1 : Int32}  {s0 sz : St} (hf : f_X12_sign x1 s0 = some sz) : MM l E sh2 yX12_sign cX12_sign 2 none (rmd 3) [.ref (E.2.2.1 259), .int x1] s0 none sz := by
  unfold f_X12_sign at hf
  refine z_enter (by decide +kernel) (Nat.le_of_ble_eq_true rfl) ?_
  intro p e s m args below meth c ls hC hr hlocks hw hS hl
  have hC : Cx p s m args c cX12_sign 2 "FuseBoxModel" E := hC
  obtain ⟨hx, hb, hml, hown, hts, hTB⟩ := id hC
  have hl : lv_has ls 2 [(0, .ref (E.2.2.1 259)), (1, .int x1)] := hl
  refine lv_aload_n hx hb dX12_sign_0 rfl (lv_at hl 0 rfl) ?_
  refine gModel_wrong hC hw wd564 dX12_sign_1 ?_
  obtain ⟨j24, ej24, hf⟩ := ok_lt hf
  have J24 : ∀ (s_1 : St), j24 s_1 = some sz → ∀ (H : Heap) (locs : List Loc) (ls : Array Slot), lv_has ls 2 [] → World E sh2 s_1 H → va_S E.2.2.2 s.heap H locs → W p l e (rmd 3) s m args below meth c H locs 0 0 (MQ below (QW E sh2 none sz) args s 0 0 E.2.2.2) (F0 m 24 ls []) := by
    intro s_1 hf H locs ls hl hw hS
    subst ej24
    exact z_vretE hC hlocks hw hS hf hr dX12_sign_24
  clear ej24
  have hif := ok_if hf
  refine lv_if_ne (tgt := 24) hx hb dX12_sign_4 (by decide) (fun hcd => ?_) (fun hcd => ?_)
  · have hf := hif.1 hcd
    clear hif
    exact J24 _ hf _ _ ls (lv_sub hl [] rfl) hw hS
  · have hf := hif.2 (fun q => q hcd)
    clear hif
    refine lv_aload_n hx hb dX12_sign_7 rfl (lv_at hl 0 rfl) ?_
    refine lv_aload_n hx hb dX12_sign_8 rfl (lv_at hl 0 rfl) ?_
    obtain ⟨r_3, s_2, hc, hf⟩ := ok_bd hf
    refine z_cV hC hl.1 hw hS (As := []) (rest := [.ref (E.2.2.1 259)]) (m_X12_token l E  hc) rfl rfl gc227 gc228 ⟨Nat.le_of_ble_eq_true rfl, Nat.le_of_ble_eq_true rfl⟩ ⟨Nat.le_of_ble_eq_true rfl, Nat.le_of_ble_eq_true rfl⟩ rfl rfl (Nat.le_of_ble_eq_true rfl) dX12_sign_9 (fun H locs hw hS => ?_)
    clear hc
    refine lv_iload_n hx hb dX12_sign_12 rfl (lv_at hl 1 rfl) ?_
    obtain ⟨j21, ej21, hf⟩ := ok_lt hf
    have J21 : ∀ (k_4 : Int32) (s_5 : St), j21 k_4 s_5 = some sz → ∀ (H : Heap) (locs : List Loc) (ls : Array Slot), lv_has ls 2 [] → World E sh2 s_5 H → va_S E.2.2.2 s.heap H locs → W p l e (rmd 3) s m args below meth c H locs 0 0 (MQ below (QW E sh2 none sz) args s 0 0 E.2.2.2) (F0 m 21 ls [.int k_4, .ref (E.2.2.1 259)]) := by
      intro k_4 s_5 hf H locs ls hl hw hS
      subst ej21
      obtain ⟨s_6, en, hf⟩ := ok_lt hf
      refine pModel_wrong hC hw hS wd564 en dX12_sign_21 (fun H locs hw hS => ?_)
      clear en
      exact J24 _ hf _ _ ls hl hw hS
    clear ej21
    have hif := ok_if hf
    refine lv_icmp_ne (tgt := 20) hx hb dX12_sign_13 (by decide) (fun hcd => ?_) (fun hcd => ?_)
    · have hf := hif.1 hcd
      clear hif
      refine lv_iconst (v := 1) hx hb dX12_sign_20 (by decide) ?_
      exact J21 _ _ hf _ _ ls (lv_sub hl [] rfl) hw hS
    · have hf := hif.2 (fun q => q hcd)
      clear hif
      refine lv_iconst (v := 0) hx hb dX12_sign_16 (by decide) ?_
      refine lv_goto (tgt := 21) hx hb dX12_sign_17 (by decide) ?_
      exact J21 _ _ hf _ _ ls (lv_sub hl [] rfl) hw hS
set_option maxHeartbeats 4000000 in
set_option maxRecDepth 100000 in
theorem m_X12_sortOf (l : Launch) (E : Ev) {x0 : Int32}  {s0 sz : St} {rz : Int32} (hf : f_X12_sortOf x0 s0 = some (rz, sz)) : MM l E sh2 yX12_sortOf cX12_sortOf 1 (some .int) (rmd 1) [.int x0] s0 (some (.int rz)) sz := by
  unfold f_X12_sortOf at hf
  refine z_enter (by decide +kernel) (Nat.le_of_ble_eq_true rfl) ?_
  intro p e s m args below meth c ls hC hr hlocks hw hS hl
  have hC : Cx p s m args c cX12_sortOf 1 "FuseBoxModel" E := hC
  obtain ⟨hx, hb, hml, hown, hts, hTB⟩ := id hC
  have hl : lv_has ls 1 [(0, .int x0)] := hl
  refine lv_iload_n hx hb dX12_sortOf_0 rfl (lv_at hl 0 rfl) ?_
  refine lv_bipush (v := 119) hx hb dX12_sortOf_1 (by decide) ?_
  obtain ⟨j51, ej51, hf⟩ := ok_lt hf
  have J51 : ∀ (k_1 : Int32) (s_2 : St), j51 k_1 s_2 = some (rz, sz) → ∀ (H : Heap) (locs : List Loc) (ls : Array Slot), lv_has ls 1 [] → World E sh2 s_2 H → va_S E.2.2.2 s.heap H locs → W p l e (rmd 1) s m args below meth c H locs 0 0 (MQ below (QW E sh2 (some (.int rz)) sz) args s 0 0 E.2.2.2) (F0 m 51 ls [.int k_1]) := by
    intro k_1 s_2 hf H locs ls hl hw hS
    subst ej51
    exact z_iretE hC hlocks hw hS hf hr rfl dX12_sortOf_51
  clear ej51
  have hif := ok_if hf
  refine lv_icmp_ne (tgt := 10) hx hb dX12_sortOf_3 (by decide) (fun hcd => ?_) (fun hcd => ?_)
  · have hf := hif.1 hcd
    clear hif
    refine lv_iload_n hx hb dX12_sortOf_10 rfl (lv_at hl 0 rfl) ?_
    refine lv_bipush (v := 115) hx hb dX12_sortOf_11 (by decide) ?_
    have hif := ok_if hf
    refine lv_icmp_ne (tgt := 20) hx hb dX12_sortOf_13 (by decide) (fun hcd => ?_) (fun hcd => ?_)
    · have hf := hif.1 hcd
      clear hif
      refine lv_iload_n hx hb dX12_sortOf_20 rfl (lv_at hl 0 rfl) ?_
      refine lv_bipush (v := 113) hx hb dX12_sortOf_21 (by decide) ?_
      have hif := ok_if hf
      refine lv_icmp_ne (tgt := 30) hx hb dX12_sortOf_23 (by decide) (fun hcd => ?_) (fun hcd => ?_)
      · have hf := hif.1 hcd
        clear hif
        refine lv_iload_n hx hb dX12_sortOf_30 rfl (lv_at hl 0 rfl) ?_
        refine lv_bipush (v := 98) hx hb dX12_sortOf_31 (by decide) ?_
        have hif := ok_if hf
        refine lv_icmp_ne (tgt := 40) hx hb dX12_sortOf_33 (by decide) (fun hcd => ?_) (fun hcd => ?_)
        · have hf := hif.1 hcd
          clear hif
          refine lv_iload_n hx hb dX12_sortOf_40 rfl (lv_at hl 0 rfl) ?_
          refine lv_bipush (v := 99) hx hb dX12_sortOf_41 (by decide) ?_
          have hif := ok_if hf
          refine lv_icmp_ne (tgt := 50) hx hb dX12_sortOf_43 (by decide) (fun hcd => ?_) (fun hcd => ?_)
          · have hf := hif.1 hcd
            clear hif
            refine lv_iconst (v := 0) hx hb dX12_sortOf_50 (by decide) ?_
            exact J51 _ _ hf _ _ ls (lv_sub hl [] rfl) hw hS
          · have hf := hif.2 (fun q => q hcd)
            clear hif
            refine lv_iconst (v := 5) hx hb dX12_sortOf_46 (by decide) ?_
            refine lv_goto (tgt := 51) hx hb dX12_sortOf_47 (by decide) ?_
            exact J51 _ _ hf _ _ ls (lv_sub hl [] rfl) hw hS
        · have hf := hif.2 (fun q => q hcd)
          clear hif
          refine lv_iconst (v := 4) hx hb dX12_sortOf_36 (by decide) ?_
          refine lv_goto (tgt := 51) hx hb dX12_sortOf_37 (by decide) ?_
          exact J51 _ _ hf _ _ ls (lv_sub hl [] rfl) hw hS
      · have hf := hif.2 (fun q => q hcd)
        clear hif
        refine lv_iconst (v := 3) hx hb dX12_sortOf_26 (by decide) ?_
        refine lv_goto (tgt := 51) hx hb dX12_sortOf_27 (by decide) ?_
        exact J51 _ _ hf _ _ ls (lv_sub hl [] rfl) hw hS
    · have hf := hif.2 (fun q => q hcd)
      clear hif
      refine lv_iconst (v := 2) hx hb dX12_sortOf_16 (by decide) ?_
      refine lv_goto (tgt := 51) hx hb dX12_sortOf_17 (by decide) ?_
      exact J51 _ _ hf _ _ ls (lv_sub hl [] rfl) hw hS
  · have hf := hif.2 (fun q => q hcd)
    clear hif
    refine lv_iconst (v := 1) hx hb dX12_sortOf_6 (by decide) ?_
    refine lv_goto (tgt := 51) hx hb dX12_sortOf_7 (by decide) ?_
    exact J51 _ _ hf _ _ ls (lv_sub hl [] rfl) hw hS
set_option maxHeartbeats 4000000 in
set_option maxRecDepth 100000 in
theorem m_X12_lineItem (l : Launch) (E : Ev) {x1 : Int32}  {s0 sz : St} (hf : f_X12_lineItem x1 s0 = some sz) : MM l E sh2 yX12_lineItem cX12_lineItem 3 none (rmd 4) [.ref (E.2.2.1 259), .int x1] s0 none sz := by
  unfold f_X12_lineItem at hf
  refine z_enter (by decide +kernel) (Nat.le_of_ble_eq_true rfl) ?_
  intro p e s m args below meth c ls hC hr hlocks hw hS hl
  have hC : Cx p s m args c cX12_lineItem 3 "FuseBoxModel" E := hC
  obtain ⟨hx, hb, hml, hown, hts, hTB⟩ := id hC
  have hl : lv_has ls 3 [(0, .ref (E.2.2.1 259)), (1, .int x1)] := hl
  refine lv_aload_n hx hb dX12_lineItem_0 rfl (lv_at hl 0 rfl) ?_
  refine lv_aload_n hx hb dX12_lineItem_1 rfl (lv_at hl 0 rfl) ?_
  refine gModel_read hC hw wd569 dX12_lineItem_2 ?_
  refine lv_iconst (v := 0) hx hb dX12_lineItem_5 (by decide) ?_
  obtain ⟨hin, hf⟩ := ok_chk hf
  refine z_iald hC hw rfl hin dX12_lineItem_6 ?_
  refine lv_iconst (v := 4) hx hb dX12_lineItem_7 (by decide) ?_
  obtain ⟨j16, ej16, hf⟩ := ok_lt hf
  have J16 : ∀ (k_1 : Int32) (s_2 : St), j16 k_1 s_2 = some sz → ∀ (H : Heap) (locs : List Loc) (ls : Array Slot), lv_has ls 3 [(0, .ref (E.2.2.1 259)), (1, .int x1)] → World E sh2 s_2 H → va_S E.2.2.2 s.heap H locs → W p l e (rmd 4) s m args below meth c H locs 0 0 (MQ below (QW E sh2 none sz) args s 0 0 E.2.2.2) (F0 m 16 ls [.int k_1, .ref (E.2.2.1 259)]) := by
    intro k_1 s_2 hf H locs ls hl hw hS
    subst ej16
    obtain ⟨s_3, en, hf⟩ := ok_lt hf
    refine pModel_wrong hC hw hS wd564 en dX12_lineItem_16 (fun H locs hw hS => ?_)
    clear en
    refine lv_aload_n hx hb dX12_lineItem_19 rfl (lv_at hl 0 rfl) ?_
    refine lv_iconst (v := 1) hx hb dX12_lineItem_20 (by decide) ?_
    refine lv_bipush (v := 20) hx hb dX12_lineItem_21 (by decide) ?_
    obtain ⟨r_5, s_4, hc, hf⟩ := ok_bd hf
    refine z_cV hC hl.1 hw hS (As := [.int (1 : Int32), .int (20 : Int32)]) (rest := []) (m_X12_wants l E  hc) rfl rfl gc229 gc230 ⟨Nat.le_of_ble_eq_true rfl, Nat.le_of_ble_eq_true rfl⟩ ⟨Nat.le_of_ble_eq_true rfl, Nat.le_of_ble_eq_true rfl⟩ rfl rfl (Nat.le_of_ble_eq_true rfl) dX12_lineItem_23 (fun H locs hw hS => ?_)
    clear hc
    refine lv_istore_n (lv' := [(2, .int r_5), (0, .ref (E.2.2.1 259)), (1, .int x1)]) hx hb dX12_lineItem_26 rfl hl (by decide) rfl (fun ls hl => ?_)
    refine lv_aload_n hx hb dX12_lineItem_27 rfl (lv_at hl 1 rfl) ?_
    refine lv_bipush (v := 59) hx hb dX12_lineItem_28 (by decide) ?_
    obtain ⟨s_6, hc, hf⟩ := ok_bind hf
    refine z_cV hC hl.1 hw hS (As := [.int (59 : Int32)]) (rest := []) (m_X12_sign l E  hc) rfl rfl gc231 gc232 ⟨Nat.le_of_ble_eq_true rfl, Nat.le_of_ble_eq_true rfl⟩ ⟨Nat.le_of_ble_eq_true rfl, Nat.le_of_ble_eq_true rfl⟩ rfl rfl (Nat.le_of_ble_eq_true rfl) dX12_lineItem_30 (fun H locs hw hS => ?_)
    clear hc
    refine lv_aload_n hx hb dX12_lineItem_33 rfl (lv_at hl 1 rfl) ?_
    refine gModel_wrong hC hw wd564 dX12_lineItem_34 ?_
    obtain ⟨j76, ej76, hf⟩ := ok_lt hf
    have J76 : ∀ (s_7 : St), j76 s_7 = some sz → ∀ (H : Heap) (locs : List Loc) (ls : Array Slot), lv_has ls 3 [] → World E sh2 s_7 H → va_S E.2.2.2 s.heap H locs → W p l e (rmd 4) s m args below meth c H locs 0 0 (MQ below (QW E sh2 none sz) args s 0 0 E.2.2.2) (F0 m 76 ls []) := by
      intro s_7 hf H locs ls hl hw hS
      subst ej76
      exact z_vretE hC hlocks hw hS hf hr dX12_lineItem_76
    clear ej76
    have hif := ok_if hf
    refine lv_if_ne (tgt := 76) hx hb dX12_lineItem_37 (by decide) (fun hcd => ?_) (fun hcd => ?_)
    · have hf := hif.1 hcd
      clear hif
      exact J76 _ hf _ _ ls (lv_sub hl [] rfl) hw hS
    · have hf := hif.2 (fun q => q hcd)
      clear hif
      refine lv_aload_n hx hb dX12_lineItem_40 rfl (lv_at hl 1 rfl) ?_
      refine gModel_read hC hw wd569 dX12_lineItem_41 ?_
      refine lv_iconst (v := 3) hx hb dX12_lineItem_44 (by decide) ?_
      refine lv_aload_n hx hb dX12_lineItem_45 rfl (lv_at hl 1 rfl) ?_
      refine gModel_read hC hw wd569 dX12_lineItem_46 ?_
      refine lv_iconst (v := 0) hx hb dX12_lineItem_49 (by decide) ?_
      obtain ⟨hin, hf⟩ := ok_chk hf
      refine z_iald hC hw rfl hin dX12_lineItem_50 ?_
      refine lv_iadd hx hb dX12_lineItem_51 ?_
      refine lv_iload_n hx hb dX12_lineItem_52 rfl (lv_at hl 2 rfl) ?_
      obtain ⟨hin, hf⟩ := ok_chk hf
      obtain ⟨s_8, en, hf⟩ := ok_lt hf
      refine z_iast hC hw hS rfl hin en dX12_lineItem_53 (fun H locs hw hS => ?_)
      clear en
      refine lv_aload_n hx hb dX12_lineItem_54 rfl (lv_at hl 1 rfl) ?_
      refine gModel_readRate hC hw wd578 dX12_lineItem_55 ?_
      refine lv_aload_n hx hb dX12_lineItem_58 rfl (lv_at hl 1 rfl) ?_
      refine gModel_read hC hw wd569 dX12_lineItem_59 ?_
      refine lv_iconst (v := 0) hx hb dX12_lineItem_62 (by decide) ?_
      obtain ⟨hin, hf⟩ := ok_chk hf
      refine z_iald hC hw rfl hin dX12_lineItem_63 ?_
      refine lv_iload_n hx hb dX12_lineItem_64 rfl (lv_at hl 0 rfl) ?_
      obtain ⟨hin, hf⟩ := ok_chk hf
      obtain ⟨s_9, en, hf⟩ := ok_lt hf
      refine z_iast hC hw hS rfl hin en dX12_lineItem_65 (fun H locs hw hS => ?_)
      clear en
      refine lv_aload_n hx hb dX12_lineItem_66 rfl (lv_at hl 1 rfl) ?_
      refine gModel_read hC hw wd569 dX12_lineItem_67 ?_
      refine lv_iconst (v := 0) hx hb dX12_lineItem_70 (by decide) ?_
      refine lv_dup2_11 hx hb dX12_lineItem_71 rfl rfl ?_
      obtain ⟨hin, hf⟩ := ok_chk hf
      refine z_iald hC hw rfl hin dX12_lineItem_72 ?_
      refine lv_iconst (v := 1) hx hb dX12_lineItem_73 (by decide) ?_
      refine lv_iadd hx hb dX12_lineItem_74 ?_
      obtain ⟨hin, hf⟩ := ok_chk hf
      obtain ⟨s_10, en, hf⟩ := ok_lt hf
      refine z_iast hC hw hS rfl hin en dX12_lineItem_75 (fun H locs hw hS => ?_)
      clear en
      exact J76 _ hf _ _ ls (lv_sub hl [] rfl) hw hS
  clear ej16
  have hif := ok_if hf
  refine lv_icmp_ne (tgt := 15) hx hb dX12_lineItem_8 (by decide) (fun hcd => ?_) (fun hcd => ?_)
  · have hf := hif.1 hcd
    clear hif
    refine lv_iconst (v := 0) hx hb dX12_lineItem_15 (by decide) ?_
    exact J16 _ _ hf _ _ ls hl hw hS
  · have hf := hif.2 (fun q => q hcd)
    clear hif
    refine lv_iconst (v := 3) hx hb dX12_lineItem_11 (by decide) ?_
    refine lv_goto (tgt := 16) hx hb dX12_lineItem_12 (by decide) ?_
    exact J16 _ _ hf _ _ ls hl hw hS
set_option maxHeartbeats 4000000 in
set_option maxRecDepth 100000 in
theorem m_X12_thingItem (l : Launch) (E : Ev)   {s0 sz : St} (hf : f_X12_thingItem s0 = some sz) : MM l E sh2 yX12_thingItem cX12_thingItem 4 none (rmd 4) [.ref (E.2.2.1 259)] s0 none sz := by
  unfold f_X12_thingItem at hf
  refine z_enter (by decide +kernel) (Nat.le_of_ble_eq_true rfl) ?_
  intro p e s m args below meth c ls hC hr hlocks hw hS hl
  have hC : Cx p s m args c cX12_thingItem 4 "FuseBoxModel" E := hC
  obtain ⟨hx, hb, hml, hown, hts, hTB⟩ := id hC
  have hl : lv_has ls 4 [(0, .ref (E.2.2.1 259))] := hl
  refine lv_aload_n hx hb dX12_thingItem_0 rfl (lv_at hl 0 rfl) ?_
  refine lv_aload_n hx hb dX12_thingItem_1 rfl (lv_at hl 0 rfl) ?_
  refine gModel_read hC hw wd569 dX12_thingItem_2 ?_
  refine lv_iconst (v := 1) hx hb dX12_thingItem_5 (by decide) ?_
  obtain ⟨hin, hf⟩ := ok_chk hf
  refine z_iald hC hw rfl hin dX12_thingItem_6 ?_
  refine lv_bipush (v := 6) hx hb dX12_thingItem_7 (by decide) ?_
  obtain ⟨j17, ej17, hf⟩ := ok_lt hf
  have J17 : ∀ (k_1 : Int32) (s_2 : St), j17 k_1 s_2 = some sz → ∀ (H : Heap) (locs : List Loc) (ls : Array Slot), lv_has ls 4 [(0, .ref (E.2.2.1 259))] → World E sh2 s_2 H → va_S E.2.2.2 s.heap H locs → W p l e (rmd 4) s m args below meth c H locs 0 0 (MQ below (QW E sh2 none sz) args s 0 0 E.2.2.2) (F0 m 17 ls [.int k_1, .ref (E.2.2.1 259)]) := by
    intro k_1 s_2 hf H locs ls hl hw hS
    subst ej17
    obtain ⟨s_3, en, hf⟩ := ok_lt hf
    refine pModel_wrong hC hw hS wd564 en dX12_thingItem_17 (fun H locs hw hS => ?_)
    clear en
    refine lv_aload_n hx hb dX12_thingItem_20 rfl (lv_at hl 0 rfl) ?_
    refine lv_iconst (v := 0) hx hb dX12_thingItem_21 (by decide) ?_
    refine lv_aload_n hx hb dX12_thingItem_22 rfl (lv_at hl 0 rfl) ?_
    refine gModel_read hC hw wd569 dX12_thingItem_23 ?_
    refine lv_iconst (v := 0) hx hb dX12_thingItem_26 (by decide) ?_
    obtain ⟨hin, hf⟩ := ok_chk hf
    refine z_iald hC hw rfl hin dX12_thingItem_27 ?_
    refine lv_iconst (v := 1) hx hb dX12_thingItem_28 (by decide) ?_
    refine lv_isub hx hb dX12_thingItem_29 ?_
    obtain ⟨r_5, s_4, hc, hf⟩ := ok_bd hf
    refine z_cV hC hl.1 hw hS (As := [.int (0 : Int32), .int ((s_3 268 ((0 : Int32)).toNatClampNeg) - (1 : Int32))]) (rest := []) (m_X12_wants l E  hc) rfl rfl gc229 gc230 ⟨Nat.le_of_ble_eq_true rfl, Nat.le_of_ble_eq_true rfl⟩ ⟨Nat.le_of_ble_eq_true rfl, Nat.le_of_ble_eq_true rfl⟩ rfl rfl (Nat.le_of_ble_eq_true rfl) dX12_thingItem_30 (fun H locs hw hS => ?_)
    clear hc
    refine lv_istore_n (lv' := [(1, .int r_5), (0, .ref (E.2.2.1 259))]) hx hb dX12_thingItem_33 rfl hl (by decide) rfl (fun ls hl => ?_)
    refine lv_aload_n hx hb dX12_thingItem_34 rfl (lv_at hl 1 rfl) ?_
    refine lv_bipush (v := 44) hx hb dX12_thingItem_35 (by decide) ?_
    obtain ⟨s_6, hc, hf⟩ := ok_bind hf
    refine z_cV hC hl.1 hw hS (As := [.int (44 : Int32)]) (rest := []) (m_X12_sign l E  hc) rfl rfl gc231 gc232 ⟨Nat.le_of_ble_eq_true rfl, Nat.le_of_ble_eq_true rfl⟩ ⟨Nat.le_of_ble_eq_true rfl, Nat.le_of_ble_eq_true rfl⟩ rfl rfl (Nat.le_of_ble_eq_true rfl) dX12_thingItem_37 (fun H locs hw hS => ?_)
    clear hc
    refine lv_aload_n hx hb dX12_thingItem_40 rfl (lv_at hl 1 rfl) ?_
    refine lv_iconst (v := 1) hx hb dX12_thingItem_41 (by decide) ?_
    refine lv_bipush (v := 20) hx hb dX12_thingItem_42 (by decide) ?_
    obtain ⟨r_8, s_7, hc, hf⟩ := ok_bd hf
    refine z_cV hC hl.1 hw hS (As := [.int (1 : Int32), .int (20 : Int32)]) (rest := []) (m_X12_wants l E  hc) rfl rfl gc229 gc230 ⟨Nat.le_of_ble_eq_true rfl, Nat.le_of_ble_eq_true rfl⟩ ⟨Nat.le_of_ble_eq_true rfl, Nat.le_of_ble_eq_true rfl⟩ rfl rfl (Nat.le_of_ble_eq_true rfl) dX12_thingItem_44 (fun H locs hw hS => ?_)
    clear hc
    refine lv_istore_n (lv' := [(2, .int r_8), (1, .int r_5), (0, .ref (E.2.2.1 259))]) hx hb dX12_thingItem_47 rfl hl (by decide) rfl (fun ls hl => ?_)
    refine lv_aload_n hx hb dX12_thingItem_48 rfl (lv_at hl 2 rfl) ?_
    refine lv_bipush (v := 44) hx hb dX12_thingItem_49 (by decide) ?_
    obtain ⟨s_9, hc, hf⟩ := ok_bind hf
    refine z_cV hC hl.1 hw hS (As := [.int (44 : Int32)]) (rest := []) (m_X12_sign l E  hc) rfl rfl gc231 gc232 ⟨Nat.le_of_ble_eq_true rfl, Nat.le_of_ble_eq_true rfl⟩ ⟨Nat.le_of_ble_eq_true rfl, Nat.le_of_ble_eq_true rfl⟩ rfl rfl (Nat.le_of_ble_eq_true rfl) dX12_thingItem_51 (fun H locs hw hS => ?_)
    clear hc
    refine lv_aload_n hx hb dX12_thingItem_54 rfl (lv_at hl 2 rfl) ?_
    refine lv_iconst (v := 0) hx hb dX12_thingItem_55 (by decide) ?_
    refine lv_iconst (v := 1) hx hb dX12_thingItem_56 (by decide) ?_
    obtain ⟨r_11, s_10, hc, hf⟩ := ok_bd hf
    refine z_cV hC hl.1 hw hS (As := [.int (0 : Int32), .int (1 : Int32)]) (rest := []) (m_X12_wants l E  hc) rfl rfl gc229 gc230 ⟨Nat.le_of_ble_eq_true rfl, Nat.le_of_ble_eq_true rfl⟩ ⟨Nat.le_of_ble_eq_true rfl, Nat.le_of_ble_eq_true rfl⟩ rfl rfl (Nat.le_of_ble_eq_true rfl) dX12_thingItem_57 (fun H locs hw hS => ?_)
    clear hc
    refine lv_istore_n (lv' := [(3, .int r_11), (2, .int r_8), (1, .int r_5), (0, .ref (E.2.2.1 259))]) hx hb dX12_thingItem_60 rfl hl (by decide) rfl (fun ls hl => ?_)
    refine lv_aload_n hx hb dX12_thingItem_61 rfl (lv_at hl 3 rfl) ?_
    refine lv_bipush (v := 59) hx hb dX12_thingItem_62 (by decide) ?_
    obtain ⟨s_12, hc, hf⟩ := ok_bind hf
    refine z_cV hC hl.1 hw hS (As := [.int (59 : Int32)]) (rest := []) (m_X12_sign l E  hc) rfl rfl gc231 gc232 ⟨Nat.le_of_ble_eq_true rfl, Nat.le_of_ble_eq_true rfl⟩ ⟨Nat.le_of_ble_eq_true rfl, Nat.le_of_ble_eq_true rfl⟩ rfl rfl (Nat.le_of_ble_eq_true rfl) dX12_thingItem_64 (fun H locs hw hS => ?_)
    clear hc
    refine lv_aload_n hx hb dX12_thingItem_67 rfl (lv_at hl 3 rfl) ?_
    refine gModel_wrong hC hw wd564 dX12_thingItem_68 ?_
    obtain ⟨j123, ej123, hf⟩ := ok_lt hf
    have J123 : ∀ (s_13 : St), j123 s_13 = some sz → ∀ (H : Heap) (locs : List Loc) (ls : Array Slot), lv_has ls 4 [] → World E sh2 s_13 H → va_S E.2.2.2 s.heap H locs → W p l e (rmd 4) s m args below meth c H locs 0 0 (MQ below (QW E sh2 none sz) args s 0 0 E.2.2.2) (F0 m 123 ls []) := by
      intro s_13 hf H locs ls hl hw hS
      subst ej123
      exact z_vretE hC hlocks hw hS hf hr dX12_thingItem_123
    clear ej123
    have hif := ok_if hf
    refine lv_if_ne (tgt := 123) hx hb dX12_thingItem_71 (by decide) (fun hcd => ?_) (fun hcd => ?_)
    · have hf := hif.1 hcd
      clear hif
      exact J123 _ hf _ _ ls (lv_sub hl [] rfl) hw hS
    · have hf := hif.2 (fun q => q hcd)
      clear hif
      refine lv_aload_n hx hb dX12_thingItem_74 rfl (lv_at hl 3 rfl) ?_
      refine gModel_read hC hw wd569 dX12_thingItem_75 ?_
      refine lv_bipush (v := 7) hx hb dX12_thingItem_78 (by decide) ?_
      refine lv_aload_n hx hb dX12_thingItem_80 rfl (lv_at hl 3 rfl) ?_
      refine gModel_read hC hw wd569 dX12_thingItem_81 ?_
      refine lv_iconst (v := 1) hx hb dX12_thingItem_84 (by decide) ?_
      obtain ⟨hin, hf⟩ := ok_chk hf
      refine z_iald hC hw rfl hin dX12_thingItem_85 ?_
      refine lv_iadd hx hb dX12_thingItem_86 ?_
      refine lv_iload_n hx hb dX12_thingItem_87 rfl (lv_at hl 1 rfl) ?_
      obtain ⟨hin, hf⟩ := ok_chk hf
      obtain ⟨s_14, en, hf⟩ := ok_lt hf
      refine z_iast hC hw hS rfl hin en dX12_thingItem_88 (fun H locs hw hS => ?_)
      clear en
      refine lv_aload_n hx hb dX12_thingItem_89 rfl (lv_at hl 3 rfl) ?_
      refine gModel_readPlug hC hw wd579 dX12_thingItem_90 ?_
      refine lv_aload_n hx hb dX12_thingItem_93 rfl (lv_at hl 3 rfl) ?_
      refine gModel_read hC hw wd569 dX12_thingItem_94 ?_
      refine lv_iconst (v := 1) hx hb dX12_thingItem_97 (by decide) ?_
      obtain ⟨hin, hf⟩ := ok_chk hf
      refine z_iald hC hw rfl hin dX12_thingItem_98 ?_
      refine lv_iload_n hx hb dX12_thingItem_99 rfl (lv_at hl 2 rfl) ?_
      obtain ⟨hin, hf⟩ := ok_chk hf
      obtain ⟨s_15, en, hf⟩ := ok_lt hf
      refine z_iast hC hw hS rfl hin en dX12_thingItem_100 (fun H locs hw hS => ?_)
      clear en
      refine lv_aload_n hx hb dX12_thingItem_101 rfl (lv_at hl 3 rfl) ?_
      refine gModel_readOn hC hw wd580 dX12_thingItem_102 ?_
      refine lv_aload_n hx hb dX12_thingItem_105 rfl (lv_at hl 3 rfl) ?_
      refine gModel_read hC hw wd569 dX12_thingItem_106 ?_
      refine lv_iconst (v := 1) hx hb dX12_thingItem_109 (by decide) ?_
      obtain ⟨hin, hf⟩ := ok_chk hf
      refine z_iald hC hw rfl hin dX12_thingItem_110 ?_
      refine lv_iload_n hx hb dX12_thingItem_111 rfl (lv_at hl 0 rfl) ?_
      obtain ⟨hin, hf⟩ := ok_chk hf
      obtain ⟨s_16, en, hf⟩ := ok_lt hf
      refine z_iast hC hw hS rfl hin en dX12_thingItem_112 (fun H locs hw hS => ?_)
      clear en
      refine lv_aload_n hx hb dX12_thingItem_113 rfl (lv_at hl 3 rfl) ?_
      refine gModel_read hC hw wd569 dX12_thingItem_114 ?_
      refine lv_iconst (v := 1) hx hb dX12_thingItem_117 (by decide) ?_
      refine lv_dup2_11 hx hb dX12_thingItem_118 rfl rfl ?_
      obtain ⟨hin, hf⟩ := ok_chk hf
      refine z_iald hC hw rfl hin dX12_thingItem_119 ?_
      refine lv_iconst (v := 1) hx hb dX12_thingItem_120 (by decide) ?_
      refine lv_iadd hx hb dX12_thingItem_121 ?_
      obtain ⟨hin, hf⟩ := ok_chk hf
      obtain ⟨s_17, en, hf⟩ := ok_lt hf
      refine z_iast hC hw hS rfl hin en dX12_thingItem_122 (fun H locs hw hS => ?_)
      clear en
      exact J123 _ hf _ _ ls (lv_sub hl [] rfl) hw hS
  clear ej17
  have hif := ok_if hf
  refine lv_icmp_ne (tgt := 16) hx hb dX12_thingItem_9 (by decide) (fun hcd => ?_) (fun hcd => ?_)
  · have hf := hif.1 hcd
    clear hif
    refine lv_iconst (v := 0) hx hb dX12_thingItem_16 (by decide) ?_
    exact J17 _ _ hf _ _ ls hl hw hS
  · have hf := hif.2 (fun q => q hcd)
    clear hif
    refine lv_iconst (v := 3) hx hb dX12_thingItem_12 (by decide) ?_
    refine lv_goto (tgt := 17) hx hb dX12_thingItem_13 (by decide) ?_
    exact J17 _ _ hf _ _ ls hl hw hS
set_option maxHeartbeats 4000000 in
set_option maxRecDepth 100000 in
theorem m_X12_reads (l : Launch) (E : Ev)   {s0 sz : St} (hf : f_X12_reads s0 = some sz) : MM l E sh2 yX12_reads cX12_reads 4 none (rmd 5) [.ref (E.2.2.1 259)] s0 none sz := by
  unfold f_X12_reads at hf
  refine z_enter (by decide +kernel) (Nat.le_of_ble_eq_true rfl) ?_
  intro p e s m args below meth c ls hC hr hlocks hw hS hl
  have hC : Cx p s m args c cX12_reads 4 "FuseBoxModel" E := hC
  obtain ⟨hx, hb, hml, hown, hts, hTB⟩ := id hC
  have hl : lv_has ls 4 [(0, .ref (E.2.2.1 259))] := hl
  refine lv_aload_n hx hb dX12_reads_0 rfl (lv_at hl 0 rfl) ?_
  refine lv_iconst (v := 0) hx hb dX12_reads_1 (by decide) ?_
  obtain ⟨s_1, en, hf⟩ := ok_lt hf
  refine pModel_next hC hw hS wd553 en dX12_reads_2 (fun H locs hw hS => ?_)
  clear en
  refine lv_aload_n hx hb dX12_reads_5 rfl (lv_at hl 0 rfl) ?_
  refine lv_aload_n hx hb dX12_reads_6 rfl (lv_at hl 0 rfl) ?_
  obtain ⟨r_3, s_2, hc, hf⟩ := ok_bd hf
  refine z_cV hC hl.1 hw hS (As := []) (rest := [.ref (E.2.2.1 259)]) (m_X12_token l E  hc) rfl rfl gc227 gc228 ⟨Nat.le_of_ble_eq_true rfl, Nat.le_of_ble_eq_true rfl⟩ ⟨Nat.le_of_ble_eq_true rfl, Nat.le_of_ble_eq_true rfl⟩ rfl rfl (Nat.le_of_ble_eq_true rfl) dX12_reads_7 (fun H locs hw hS => ?_)
  clear hc
  refine lv_bipush (v := 109) hx hb dX12_reads_10 (by decide) ?_
  obtain ⟨j20, ej20, hf⟩ := ok_lt hf
  have J20 : ∀ (k_4 : Int32) (s_5 : St), j20 k_4 s_5 = some sz → ∀ (H : Heap) (locs : List Loc) (ls : Array Slot), lv_has ls 4 [(0, .ref (E.2.2.1 259))] → World E sh2 s_5 H → va_S E.2.2.2 s.heap H locs → W p l e (rmd 5) s m args below meth c H locs 0 0 (MQ below (QW E sh2 none sz) args s 0 0 E.2.2.2) (F0 m 20 ls [.int k_4, .ref (E.2.2.1 259)]) := by
    intro k_4 s_5 hf H locs ls hl hw hS
    subst ej20
    obtain ⟨s_6, en, hf⟩ := ok_lt hf
    refine pModel_wrong hC hw hS wd564 en dX12_reads_20 (fun H locs hw hS => ?_)
    clear en
    refine lv_aload_n hx hb dX12_reads_23 rfl (lv_at hl 0 rfl) ?_
    refine gModel_read hC hw wd569 dX12_reads_24 ?_
    refine lv_iconst (v := 0) hx hb dX12_reads_27 (by decide) ?_
    refine lv_iconst (v := 0) hx hb dX12_reads_28 (by decide) ?_
    obtain ⟨hin, hf⟩ := ok_chk hf
    obtain ⟨s_7, en, hf⟩ := ok_lt hf
    refine z_iast hC hw hS rfl hin en dX12_reads_29 (fun H locs hw hS => ?_)
    clear en
    refine lv_aload_n hx hb dX12_reads_30 rfl (lv_at hl 0 rfl) ?_
    refine gModel_read hC hw wd569 dX12_reads_31 ?_
    refine lv_iconst (v := 1) hx hb dX12_reads_34 (by decide) ?_
    refine lv_iconst (v := 0) hx hb dX12_reads_35 (by decide) ?_
    obtain ⟨hin, hf⟩ := ok_chk hf
    obtain ⟨s_8, en, hf⟩ := ok_lt hf
    refine z_iast hC hw hS rfl hin en dX12_reads_36 (fun H locs hw hS => ?_)
    clear en
    refine lv_aload_n hx hb dX12_reads_37 rfl (lv_at hl 0 rfl) ?_
    refine gModel_read hC hw wd569 dX12_reads_38 ?_
    refine lv_iconst (v := 2) hx hb dX12_reads_41 (by decide) ?_
    refine lv_aload_n hx hb dX12_reads_42 rfl (lv_at hl 0 rfl) ?_
    refine lv_iconst (v := 1) hx hb dX12_reads_43 (by decide) ?_
    refine lv_bipush (v := 60) hx hb dX12_reads_44 (by decide) ?_
    obtain ⟨r_10, s_9, hc, hf⟩ := ok_bd hf
    refine z_cV hC hl.1 hw hS (As := [.int (1 : Int32), .int (60 : Int32)]) (rest := [.int (2 : Int32), .ref (E.2.2.1 268)]) (m_X12_wants l E  hc) rfl rfl gc229 gc230 ⟨Nat.le_of_ble_eq_true rfl, Nat.le_of_ble_eq_true rfl⟩ ⟨Nat.le_of_ble_eq_true rfl, Nat.le_of_ble_eq_true rfl⟩ rfl rfl (Nat.le_of_ble_eq_true rfl) dX12_reads_46 (fun H locs hw hS => ?_)
    clear hc
    obtain ⟨hin, hf⟩ := ok_chk hf
    obtain ⟨s_11, en, hf⟩ := ok_lt hf
    refine z_iast hC hw hS rfl hin en dX12_reads_49 (fun H locs hw hS => ?_)
    clear en
    refine lv_aload_n hx hb dX12_reads_50 rfl (lv_at hl 0 rfl) ?_
    refine lv_bipush (v := 59) hx hb dX12_reads_51 (by decide) ?_
    obtain ⟨s_12, hc, hf⟩ := ok_bind hf
    refine z_cV hC hl.1 hw hS (As := [.int (59 : Int32)]) (rest := []) (m_X12_sign l E  hc) rfl rfl gc231 gc232 ⟨Nat.le_of_ble_eq_true rfl, Nat.le_of_ble_eq_true rfl⟩ ⟨Nat.le_of_ble_eq_true rfl, Nat.le_of_ble_eq_true rfl⟩ rfl rfl (Nat.le_of_ble_eq_true rfl) dX12_reads_53 (fun H locs hw hS => ?_)
    clear hc
    refine lv_aload_n hx hb dX12_reads_56 rfl (lv_at hl 0 rfl) ?_
    refine gModel_wrong hC hw wd564 dX12_reads_57 ?_
    obtain ⟨j68, ej68, hf⟩ := ok_lt hf
    have J68 : ∀ (k_13 : Int32) (s_14 : St), j68 k_13 s_14 = some sz → ∀ (H : Heap) (locs : List Loc) (ls : Array Slot), lv_has ls 4 [(0, .ref (E.2.2.1 259))] → World E sh2 s_14 H → va_S E.2.2.2 s.heap H locs → W p l e (rmd 5) s m args below meth c H locs 0 0 (MQ below (QW E sh2 none sz) args s 0 0 E.2.2.2) (F0 m 68 ls [.int k_13]) := by
      intro k_13 s_14 hf H locs ls hl hw hS
      subst ej68
      refine lv_istore_n (lv' := [(1, .int k_13), (0, .ref (E.2.2.1 259))]) hx hb dX12_reads_68 rfl hl (by decide) rfl (fun ls hl => ?_)
      obtain ⟨r69, hL69, hf⟩ := ok_bind hf
      have X69_0 : ∀ (s_17 : St), s_17 = r69 → ∀ (H : Heap) (locs : List Loc) (ls : Array Slot), lv_has ls 4 [] → World E sh2 s_17 H → va_S E.2.2.2 s.heap H locs → W p l e (rmd 5) s m args below meth c H locs 0 0 (MQ below (QW E sh2 none sz) args s 0 0 E.2.2.2) (F0 m 179 ls []) := by
        intro s_17 er H locs ls hl hw hS
        subst er
        replace hf := ok_un1 hf
        exact z_vretE hC hlocks hw hS hf hr dX12_reads_179
      have L69 : ∀ (n : Nat) (v1_15 : Int32) (s_16 : St), loopF f_X12_reads_L69 n (v1_15, s_16) = some r69 → ∀ (H : Heap) (locs : List Loc) (ls : Array Slot), lv_has ls 4 [(0, .ref (E.2.2.1 259)), (1, .int v1_15)] → World E sh2 s_16 H → va_S E.2.2.2 s.heap H locs → W p l e (rmd 5) s m args below meth c H locs 0 0 (MQ below (QW E sh2 none sz) args s 0 0 E.2.2.2) (F0 m 69 ls []) := by
        intro n
        induction n with
        | zero =>
          intro v1_15 s_16 hf
          exact nz hf
        | succ n ih69 =>
          intro v1_15 s_16 hf H locs ls hl hw hS
          obtain ⟨xl69, hf, hi69, he69⟩ := ok_loop hf
          unfold f_X12_reads_L69 at hf
          replace hf := ok_un2 hf
          refine lv_iload_n hx hb dX12_reads_69 rfl (lv_at hl 1 rfl) ?_
          have hif := ok_if hf
          refine lv_if_eq (tgt := 179) hx hb dX12_reads_70 (by decide) (fun hcd => ?_) (fun hcd => ?_)
          · have hf := hif.1 hcd
            clear hif
            cases hf
            exact X69_0 _ (he69 _ rfl) _ _ ls (lv_sub hl [] rfl) hw hS
          · have hf := hif.2 hcd
            clear hif
            refine lv_aload_n hx hb dX12_reads_73 rfl (lv_at hl 0 rfl) ?_
            obtain ⟨r_19, s_18, hc, hf⟩ := ok_bd hf
            refine z_cV hC hl.1 hw hS (As := []) (rest := []) (m_X12_token l E  hc) rfl rfl gc227 gc228 ⟨Nat.le_of_ble_eq_true rfl, Nat.le_of_ble_eq_true rfl⟩ ⟨Nat.le_of_ble_eq_true rfl, Nat.le_of_ble_eq_true rfl⟩ rfl rfl (Nat.le_of_ble_eq_true rfl) dX12_reads_74 (fun H locs hw hS => ?_)
            clear hc
            refine lv_istore_n (lv' := [(2, .int r_19), (0, .ref (E.2.2.1 259)), (1, .int v1_15)]) hx hb dX12_reads_77 rfl hl (by decide) rfl (fun ls hl => ?_)
            refine lv_iload_n hx hb dX12_reads_78 rfl (lv_at hl 0 rfl) ?_
            refine lv_iconst (v := 3) hx hb dX12_reads_79 (by decide) ?_
            obtain ⟨j91, ej91, hf⟩ := ok_lt hf
            have J91 : ∀ (k_20 : Int32) (s_21 : St), j91 k_20 s_21 = some xl69 → ∀ (H : Heap) (locs : List Loc) (ls : Array Slot), lv_has ls 4 [(0, .ref (E.2.2.1 259)), (1, .int v1_15), (2, .int r_19)] → World E sh2 s_21 H → va_S E.2.2.2 s.heap H locs → W p l e (rmd 5) s m args below meth c H locs 0 0 (MQ below (QW E sh2 none sz) args s 0 0 E.2.2.2) (F0 m 91 ls [.int k_20]) := by
              intro k_20 s_21 hf H locs ls hl hw hS
              subst ej91
              refine lv_istore_n (lv' := [(3, .int k_20), (0, .ref (E.2.2.1 259)), (1, .int v1_15), (2, .int r_19)]) hx hb dX12_reads_91 rfl hl (by decide) rfl (fun ls hl => ?_)
              refine lv_iload_n hx hb dX12_reads_92 rfl (lv_at hl 3 rfl) ?_
              refine lv_iconst (v := 3) hx hb dX12_reads_93 (by decide) ?_
              obtain ⟨j159, ej159, hf⟩ := ok_lt hf
              have J159 : ∀ (v1_22 : Int32) (s_23 : St), j159 v1_22 s_23 = some xl69 → ∀ (H : Heap) (locs : List Loc) (ls : Array Slot), lv_has ls 4 [(0, .ref (E.2.2.1 259)), (1, .int v1_22)] → World E sh2 s_23 H → va_S E.2.2.2 s.heap H locs → W p l e (rmd 5) s m args below meth c H locs 0 0 (MQ below (QW E sh2 none sz) args s 0 0 E.2.2.2) (F0 m 159 ls []) := by
                intro v1_22 s_23 hf H locs ls hl hw hS
                subst ej159
                refine lv_iload_n hx hb dX12_reads_159 rfl (lv_at hl 1 rfl) ?_
                obtain ⟨j175, ej175, hf⟩ := ok_lt hf
                have J175 : ∀ (k_24 : Int32) (s_25 : St), j175 k_24 s_25 = some xl69 → ∀ (H : Heap) (locs : List Loc) (ls : Array Slot), lv_has ls 4 [(0, .ref (E.2.2.1 259))] → World E sh2 s_25 H → va_S E.2.2.2 s.heap H locs → W p l e (rmd 5) s m args below meth c H locs 0 0 (MQ below (QW E sh2 none sz) args s 0 0 E.2.2.2) (F0 m 175 ls [.int k_24]) := by
                  intro k_24 s_25 hf H locs ls hl hw hS
                  subst ej175
                  refine lv_istore_n (lv' := [(1, .int k_24), (0, .ref (E.2.2.1 259))]) hx hb dX12_reads_175 rfl hl (by decide) rfl (fun ls hl => ?_)
                  refine lv_goto (tgt := 69) hx hb dX12_reads_176 (by decide) ?_
                  cases hf
                  exact ih69 _ _ (hi69 _ rfl) _ _ ls (lv_sub hl [1, 0] rfl) hw hS
                clear ej175
                obtain ⟨j174, ej174, hf⟩ := ok_lt hf
                have J174 : ∀ (s_26 : St), j174 s_26 = some xl69 → ∀ (H : Heap) (locs : List Loc) (ls : Array Slot), lv_has ls 4 [(0, .ref (E.2.2.1 259))] → World E sh2 s_26 H → va_S E.2.2.2 s.heap H locs → W p l e (rmd 5) s m args below meth c H locs 0 0 (MQ below (QW E sh2 none sz) args s 0 0 E.2.2.2) (F0 m 174 ls []) := by
                  intro s_26 hf H locs ls hl hw hS
                  subst ej174
                  refine lv_iconst (v := 0) hx hb dX12_reads_174 (by decide) ?_
                  exact J175 _ _ hf _ _ ls hl hw hS
                clear ej174
                have hif := ok_if hf
                refine lv_if_eq (tgt := 174) hx hb dX12_reads_160 (by decide) (fun hcd => ?_) (fun hcd => ?_)
                · have hf := hif.1 hcd
                  clear hif
                  exact J174 _ hf _ _ ls (lv_sub hl [0] rfl) hw hS
                · have hf := hif.2 hcd
                  clear hif
                  refine lv_aload_n hx hb dX12_reads_163 rfl (lv_at hl 0 rfl) ?_
                  refine gModel_wrong hC hw wd564 dX12_reads_164 ?_
                  have hif := ok_if hf
                  refine lv_if_ne (tgt := 174) hx hb dX12_reads_167 (by decide) (fun hcd => ?_) (fun hcd => ?_)
                  · have hf := hif.1 hcd
                    clear hif
                    exact J174 _ hf _ _ ls (lv_sub hl [0] rfl) hw hS
                  · have hf := hif.2 (fun q => q hcd)
                    clear hif
                    refine lv_iconst (v := 1) hx hb dX12_reads_170 (by decide) ?_
                    refine lv_goto (tgt := 175) hx hb dX12_reads_171 (by decide) ?_
                    exact J175 _ _ hf _ _ ls (lv_sub hl [0] rfl) hw hS
              clear ej159
              obtain ⟨j111, ej111, hf⟩ := ok_lt hf
              have J111 : ∀ (s_27 : St), j111 s_27 = some xl69 → ∀ (H : Heap) (locs : List Loc) (ls : Array Slot), lv_has ls 4 [(0, .ref (E.2.2.1 259)), (1, .int v1_15), (2, .int r_19), (3, .int k_20)] → World E sh2 s_27 H → va_S E.2.2.2 s.heap H locs → W p l e (rmd 5) s m args below meth c H locs 0 0 (MQ below (QW E sh2 none sz) args s 0 0 E.2.2.2) (F0 m 111 ls []) := by
                intro s_27 hf H locs ls hl hw hS
                subst ej111
                refine lv_iload_n hx hb dX12_reads_111 rfl (lv_at hl 3 rfl) ?_
                obtain ⟨j132, ej132, hf⟩ := ok_lt hf
                have J132 : ∀ (s_28 : St), j132 s_28 = some xl69 → ∀ (H : Heap) (locs : List Loc) (ls : Array Slot), lv_has ls 4 [(0, .ref (E.2.2.1 259)), (1, .int v1_15), (2, .int r_19)] → World E sh2 s_28 H → va_S E.2.2.2 s.heap H locs → W p l e (rmd 5) s m args below meth c H locs 0 0 (MQ below (QW E sh2 none sz) args s 0 0 E.2.2.2) (F0 m 132 ls []) := by
                  intro s_28 hf H locs ls hl hw hS
                  subst ej132
                  refine lv_iload_n hx hb dX12_reads_132 rfl (lv_at hl 2 rfl) ?_
                  refine lv_bipush (v := 116) hx hb dX12_reads_133 (by decide) ?_
                  obtain ⟨j154, ej154, hf⟩ := ok_lt hf
                  have J154 : ∀ (s_29 : St), j154 s_29 = some xl69 → ∀ (H : Heap) (locs : List Loc) (ls : Array Slot), lv_has ls 4 [(0, .ref (E.2.2.1 259)), (1, .int v1_15)] → World E sh2 s_29 H → va_S E.2.2.2 s.heap H locs → W p l e (rmd 5) s m args below meth c H locs 0 0 (MQ below (QW E sh2 none sz) args s 0 0 E.2.2.2) (F0 m 154 ls []) := by
                    intro s_29 hf H locs ls hl hw hS
                    subst ej154
                    refine lv_aload_n hx hb dX12_reads_154 rfl (lv_at hl 0 rfl) ?_
                    refine lv_iconst (v := 1) hx hb dX12_reads_155 (by decide) ?_
                    obtain ⟨s_30, en, hf⟩ := ok_lt hf
                    refine pModel_wrong hC hw hS wd564 en dX12_reads_156 (fun H locs hw hS => ?_)
                    clear en
                    exact J159 _ _ hf _ _ ls hl hw hS
                  clear ej154
                  have hif := ok_if hf
                  refine lv_icmp_ne (tgt := 154) hx hb dX12_reads_135 (by decide) (fun hcd => ?_) (fun hcd => ?_)
                  · have hf := hif.1 hcd
                    clear hif
                    exact J154 _ hf _ _ ls (lv_sub hl [0, 1] rfl) hw hS
                  · have hf := hif.2 (fun q => q hcd)
                    clear hif
                    refine lv_aload_n hx hb dX12_reads_138 rfl (lv_at hl 0 rfl) ?_
                    refine gModel_read hC hw wd569 dX12_reads_139 ?_
                    refine lv_iconst (v := 0) hx hb dX12_reads_142 (by decide) ?_
                    obtain ⟨hin, hf⟩ := ok_chk hf
                    refine z_iald hC hw rfl hin dX12_reads_143 ?_
                    have hif := ok_if hf
                    refine lv_if_le (tgt := 154) hx hb dX12_reads_144 (by decide) (fun hcd => ?_) (fun hcd => ?_)
                    · have hf := hif.1 hcd
                      clear hif
                      exact J154 _ hf _ _ ls (lv_sub hl [0, 1] rfl) hw hS
                    · have hf := hif.2 hcd
                      clear hif
                      refine lv_aload_n hx hb dX12_reads_147 rfl (lv_at hl 0 rfl) ?_
                      obtain ⟨s_31, hc, hf⟩ := ok_bind hf
                      refine z_cV hC hl.1 hw hS (As := []) (rest := []) (m_X12_thingItem l E  hc) rfl rfl gc233 gc234 ⟨Nat.le_of_ble_eq_true rfl, Nat.le_of_ble_eq_true rfl⟩ ⟨Nat.le_of_ble_eq_true rfl, Nat.le_of_ble_eq_true rfl⟩ rfl rfl (Nat.le_of_ble_eq_true rfl) dX12_reads_148 (fun H locs hw hS => ?_)
                      clear hc
                      refine lv_goto (tgt := 159) hx hb dX12_reads_151 (by decide) ?_
                      exact J159 _ _ hf _ _ ls (lv_sub hl [0, 1] rfl) hw hS
                clear ej132
                have hif := ok_if hf
                refine lv_if_le (tgt := 132) hx hb dX12_reads_112 (by decide) (fun hcd => ?_) (fun hcd => ?_)
                · have hf := hif.1 hcd
                  clear hif
                  exact J132 _ hf _ _ ls (lv_sub hl [0, 1, 2] rfl) hw hS
                · have hf := hif.2 hcd
                  clear hif
                  refine lv_aload_n hx hb dX12_reads_115 rfl (lv_at hl 0 rfl) ?_
                  refine gModel_read hC hw wd569 dX12_reads_116 ?_
                  refine lv_iconst (v := 1) hx hb dX12_reads_119 (by decide) ?_
                  obtain ⟨hin, hf⟩ := ok_chk hf
                  refine z_iald hC hw rfl hin dX12_reads_120 ?_
                  have hif := ok_if hf
                  refine lv_if_ne (tgt := 132) hx hb dX12_reads_121 (by decide) (fun hcd => ?_) (fun hcd => ?_)
                  · have hf := hif.1 hcd
                    clear hif
                    exact J132 _ hf _ _ ls (lv_sub hl [0, 1, 2] rfl) hw hS
                  · have hf := hif.2 (fun q => q hcd)
                    clear hif
                    refine lv_aload_n hx hb dX12_reads_124 rfl (lv_at hl 0 rfl) ?_
                    refine lv_iload_n hx hb dX12_reads_125 rfl (lv_at hl 3 rfl) ?_
                    obtain ⟨s_32, hc, hf⟩ := ok_bind hf
                    refine z_cV hC hl.1 hw hS (As := [.int k_20]) (rest := []) (m_X12_lineItem l E  hc) rfl rfl gc235 gc236 ⟨Nat.le_of_ble_eq_true rfl, Nat.le_of_ble_eq_true rfl⟩ ⟨Nat.le_of_ble_eq_true rfl, Nat.le_of_ble_eq_true rfl⟩ rfl rfl (Nat.le_of_ble_eq_true rfl) dX12_reads_126 (fun H locs hw hS => ?_)
                    clear hc
                    refine lv_goto (tgt := 159) hx hb dX12_reads_129 (by decide) ?_
                    exact J159 _ _ hf _ _ ls (lv_sub hl [0, 1] rfl) hw hS
              clear ej111
              have hif := ok_if hf
              refine lv_icmp_ne (tgt := 111) hx hb dX12_reads_94 (by decide) (fun hcd => ?_) (fun hcd => ?_)
              · have hf := hif.1 hcd
                clear hif
                exact J111 _ hf _ _ ls (lv_sub hl [1, 2, 3, 0] rfl) hw hS
              · have hf := hif.2 (fun q => q hcd)
                clear hif
                refine lv_aload_n hx hb dX12_reads_97 rfl (lv_at hl 1 rfl) ?_
                refine gModel_read hC hw wd569 dX12_reads_98 ?_
                refine lv_iconst (v := 1) hx hb dX12_reads_101 (by decide) ?_
                obtain ⟨hin, hf⟩ := ok_chk hf
                refine z_iald hC hw rfl hin dX12_reads_102 ?_
                have hif := ok_if hf
                refine lv_if_le (tgt := 111) hx hb dX12_reads_103 (by decide) (fun hcd => ?_) (fun hcd => ?_)
                · have hf := hif.1 hcd
                  clear hif
                  exact J111 _ hf _ _ ls (lv_sub hl [1, 2, 3, 0] rfl) hw hS
                · have hf := hif.2 hcd
                  clear hif
                  refine lv_iconst (v := 0) hx hb dX12_reads_106 (by decide) ?_
                  obtain ⟨v1_33, en, hf⟩ := ok_lt hf
                  refine z_nm en ?_
                  clear en
                  refine lv_istore_n (lv' := [(1, .int v1_33), (3, .int k_20), (0, .ref (E.2.2.1 259)), (2, .int r_19)]) hx hb dX12_reads_107 rfl hl (by decide) rfl (fun ls hl => ?_)
                  refine lv_goto (tgt := 159) hx hb dX12_reads_108 (by decide) ?_
                  exact J159 _ _ hf _ _ ls (lv_sub hl [2, 0] rfl) hw hS
            clear ej91
            have hif := ok_if hf
            refine lv_icmp_le (tgt := 90) hx hb dX12_reads_80 (by decide) (fun hcd => ?_) (fun hcd => ?_)
            · have hf := hif.1 hcd
              clear hif
              refine lv_iconst (v := 0) hx hb dX12_reads_90 (by decide) ?_
              exact J91 _ _ hf _ _ ls (lv_sub hl [1, 2, 0] rfl) hw hS
            · have hf := hif.2 hcd
              clear hif
              refine lv_iload_n hx hb dX12_reads_83 rfl (lv_at hl 0 rfl) ?_
              obtain ⟨r_35, s_34, hc, hf⟩ := ok_bd hf
              refine z_cS hC hl.1 hw hS (As := [.int r_19]) (rest := []) (m_X12_sortOf l E  hc) gc237 gc238 ⟨Nat.le_of_ble_eq_true rfl, Nat.le_of_ble_eq_true rfl⟩ ⟨Nat.le_of_ble_eq_true rfl, Nat.le_of_ble_eq_true rfl⟩ rfl rfl (Nat.le_of_ble_eq_true rfl) dX12_reads_84 (fun H locs hw hS => ?_)
              clear hc
              refine lv_goto (tgt := 91) hx hb dX12_reads_87 (by decide) ?_
              exact J91 _ _ hf _ _ ls (lv_sub hl [1, 2, 0] rfl) hw hS
      exact L69 5000 _ _ hL69 _ _ ls (lv_sub hl [1, 0] rfl) hw hS
    clear ej68
    have hif := ok_if hf
    refine lv_if_ne (tgt := 67) hx hb dX12_reads_60 (by decide) (fun hcd => ?_) (fun hcd => ?_)
    · have hf := hif.1 hcd
      clear hif
      refine lv_iconst (v := 0) hx hb dX12_reads_67 (by decide) ?_
      exact J68 _ _ hf _ _ ls hl hw hS
    · have hf := hif.2 (fun q => q hcd)
      clear hif
      refine lv_iconst (v := 1) hx hb dX12_reads_63 (by decide) ?_
      refine lv_goto (tgt := 68) hx hb dX12_reads_64 (by decide) ?_
      exact J68 _ _ hf _ _ ls hl hw hS
  clear ej20
  have hif := ok_if hf
  refine lv_icmp_ne (tgt := 19) hx hb dX12_reads_12 (by decide) (fun hcd => ?_) (fun hcd => ?_)
  · have hf := hif.1 hcd
    clear hif
    refine lv_iconst (v := 1) hx hb dX12_reads_19 (by decide) ?_
    exact J20 _ _ hf _ _ ls hl hw hS
  · have hf := hif.2 (fun q => q hcd)
    clear hif
    refine lv_iconst (v := 0) hx hb dX12_reads_15 (by decide) ?_
    refine lv_goto (tgt := 20) hx hb dX12_reads_16 (by decide) ?_
    exact J20 _ _ hf _ _ ls hl hw hS
set_option maxHeartbeats 4000000 in
set_option maxRecDepth 100000 in
theorem m_X12_house (l : Launch) (E : Ev)   {s0 sz : St} {rz : Int32} (hf : f_X12_house s0 = some (rz, sz)) : MM l E sh2 yX12_house cX12_house 2 (some .int) (rmd 6) [.ref (E.2.2.1 259)] s0 (some (.int rz)) sz := by
  unfold f_X12_house at hf
  refine z_enter (by decide +kernel) (Nat.le_of_ble_eq_true rfl) ?_
  intro p e s m args below meth c ls hC hr hlocks hw hS hl
  have hC : Cx p s m args c cX12_house 2 "FuseBoxModel" E := hC
  obtain ⟨hx, hb, hml, hown, hts, hTB⟩ := id hC
  have hl : lv_has ls 2 [(0, .ref (E.2.2.1 259))] := hl
  refine lv_aload_n hx hb dX12_house_0 rfl (lv_at hl 0 rfl) ?_
  obtain ⟨s_1, hc, hf⟩ := ok_bind hf
  refine z_cV hC hl.1 hw hS (As := []) (rest := []) (m_X12_reads l E  hc) rfl rfl gc239 gc240 ⟨Nat.le_of_ble_eq_true rfl, Nat.le_of_ble_eq_true rfl⟩ ⟨Nat.le_of_ble_eq_true rfl, Nat.le_of_ble_eq_true rfl⟩ rfl rfl (Nat.le_of_ble_eq_true rfl) dX12_house_1 (fun H locs hw hS => ?_)
  clear hc
  refine lv_aload_n hx hb dX12_house_4 rfl (lv_at hl 0 rfl) ?_
  refine lv_iconst (v := 0) hx hb dX12_house_5 (by decide) ?_
  obtain ⟨s_2, en, hf⟩ := ok_lt hf
  refine pModel_length hC hw hS wd550 en dX12_house_6 (fun H locs hw hS => ?_)
  clear en
  refine lv_aload_n hx hb dX12_house_9 rfl (lv_at hl 0 rfl) ?_
  refine gModel_wrong hC hw wd564 dX12_house_10 ?_
  have hif := ok_if hf
  refine lv_if_le (tgt := 32) hx hb dX12_house_13 (by decide) (fun hcd => ?_) (fun hcd => ?_)
  · have hf := hif.1 hcd
    clear hif
    refine lv_iconst (v := 0) hx hb dX12_house_32 (by decide) ?_
    obtain ⟨v1_3, en, hf⟩ := ok_lt hf
    refine z_nm en ?_
    clear en
    refine lv_istore_n (lv' := [(1, .int v1_3), (0, .ref (E.2.2.1 259))]) hx hb dX12_house_33 rfl hl (by decide) rfl (fun ls hl => ?_)
    obtain ⟨r34, hL34, hf⟩ := ok_bind hf
    have X34_0 : ∀ (s_6 : St), s_6 = r34 → ∀ (H : Heap) (locs : List Loc) (ls : Array Slot), lv_has ls 2 [(0, .ref (E.2.2.1 259))] → World E sh2 s_6 H → va_S E.2.2.2 s.heap H locs → W p l e (rmd 6) s m args below meth c H locs 0 0 (MQ below (QW E sh2 (some (.int rz)) sz) args s 0 0 E.2.2.2) (F0 m 58 ls []) := by
      intro s_6 er H locs ls hl hw hS
      subst er
      replace hf := ok_un1 hf
      refine lv_iconst (v := 0) hx hb dX12_house_58 (by decide) ?_
      obtain ⟨v1_7, en, hf⟩ := ok_lt hf
      refine z_nm en ?_
      clear en
      refine lv_istore_n (lv' := [(1, .int v1_7), (0, .ref (E.2.2.1 259))]) hx hb dX12_house_59 rfl hl (by decide) rfl (fun ls hl => ?_)
      obtain ⟨r60, hL60, hf⟩ := ok_bind hf
      have X60_0 : ∀ (s_10 : St), s_10 = r60 → ∀ (H : Heap) (locs : List Loc) (ls : Array Slot), lv_has ls 2 [(0, .ref (E.2.2.1 259))] → World E sh2 s_10 H → va_S E.2.2.2 s.heap H locs → W p l e (rmd 6) s m args below meth c H locs 0 0 (MQ below (QW E sh2 (some (.int rz)) sz) args s 0 0 E.2.2.2) (F0 m 79 ls []) := by
        intro s_10 er H locs ls hl hw hS
        subst er
        replace hf := ok_un1 hf
        refine lv_iconst (v := 0) hx hb dX12_house_79 (by decide) ?_
        obtain ⟨v1_11, en, hf⟩ := ok_lt hf
        refine z_nm en ?_
        clear en
        refine lv_istore_n (lv' := [(1, .int v1_11), (0, .ref (E.2.2.1 259))]) hx hb dX12_house_80 rfl hl (by decide) rfl (fun ls hl => ?_)
        obtain ⟨r81, hL81, hf⟩ := ok_bind hf
        have X81_0 : ∀ (s_14 : St), s_14 = r81 → ∀ (H : Heap) (locs : List Loc) (ls : Array Slot), lv_has ls 2 [(0, .ref (E.2.2.1 259))] → World E sh2 s_14 H → va_S E.2.2.2 s.heap H locs → W p l e (rmd 6) s m args below meth c H locs 0 0 (MQ below (QW E sh2 (some (.int rz)) sz) args s 0 0 E.2.2.2) (F0 m 112 ls []) := by
          intro s_14 er H locs ls hl hw hS
          subst er
          replace hf := ok_un1 hf
          refine lv_iconst (v := 0) hx hb dX12_house_112 (by decide) ?_
          obtain ⟨v1_15, en, hf⟩ := ok_lt hf
          refine z_nm en ?_
          clear en
          refine lv_istore_n (lv' := [(1, .int v1_15), (0, .ref (E.2.2.1 259))]) hx hb dX12_house_113 rfl hl (by decide) rfl (fun ls hl => ?_)
          obtain ⟨r114, hL114, hf⟩ := ok_bind hf
          have X114_0 : ∀ (s_18 : St), s_18 = r114 → ∀ (H : Heap) (locs : List Loc) (ls : Array Slot), lv_has ls 2 [(0, .ref (E.2.2.1 259))] → World E sh2 s_18 H → va_S E.2.2.2 s.heap H locs → W p l e (rmd 6) s m args below meth c H locs 0 0 (MQ below (QW E sh2 (some (.int rz)) sz) args s 0 0 E.2.2.2) (F0 m 160 ls []) := by
            intro s_18 er H locs ls hl hw hS
            subst er
            replace hf := ok_un1 hf
            refine lv_aload_n hx hb dX12_house_160 rfl (lv_at hl 0 rfl) ?_
            refine lv_iconst (v := 0) hx hb dX12_house_161 (by decide) ?_
            obtain ⟨s_19, en, hf⟩ := ok_lt hf
            refine pModel_acts hC hw hS wd596 en dX12_house_162 (fun H locs hw hS => ?_)
            clear en
            refine lv_aload_n hx hb dX12_house_165 rfl (lv_at hl 0 rfl) ?_
            refine gModel_told hC hw wd597 dX12_house_166 ?_
            refine lv_iconst (v := 0) hx hb dX12_house_169 (by decide) ?_
            obtain ⟨hin, hf⟩ := ok_chk hf
            refine z_iald hC hw rfl hin dX12_house_170 ?_
            exact z_iretE hC hlocks hw hS hf hr rfl dX12_house_171
          have L114 : ∀ (n : Nat) (v1_16 : Int32) (s_17 : St), loopF f_X12_house_L114 n (v1_16, s_17) = some r114 → ∀ (H : Heap) (locs : List Loc) (ls : Array Slot), lv_has ls 2 [(0, .ref (E.2.2.1 259)), (1, .int v1_16)] → World E sh2 s_17 H → va_S E.2.2.2 s.heap H locs → W p l e (rmd 6) s m args below meth c H locs 0 0 (MQ below (QW E sh2 (some (.int rz)) sz) args s 0 0 E.2.2.2) (F0 m 114 ls []) := by
            intro n
            induction n with
            | zero =>
              intro v1_16 s_17 hf
              exact nz hf
            | succ n ih114 =>
              intro v1_16 s_17 hf H locs ls hl hw hS
              obtain ⟨xl114, hf, hi114, he114⟩ := ok_loop hf
              unfold f_X12_house_L114 at hf
              replace hf := ok_un2 hf
              refine lv_iload_n hx hb dX12_house_114 rfl (lv_at hl 1 rfl) ?_
              refine lv_aload_n hx hb dX12_house_115 rfl (lv_at hl 0 rfl) ?_
              refine gModel_told hC hw wd597 dX12_house_116 ?_
              refine lv_iconst (v := 1) hx hb dX12_house_119 (by decide) ?_
              obtain ⟨hin, hf⟩ := ok_chk hf
              refine z_iald hC hw rfl hin dX12_house_120 ?_
              have hif := ok_if hf
              refine lv_icmp_ge (tgt := 160) hx hb dX12_house_121 (by decide) (fun hcd => ?_) (fun hcd => ?_)
              · have hf := hif.1 hcd
                clear hif
                cases hf
                exact X114_0 _ (he114 _ rfl) _ _ ls (lv_sub hl [0] rfl) hw hS
              · have hf := hif.2 hcd
                clear hif
                refine lv_aload_n hx hb dX12_house_124 rfl (lv_at hl 0 rfl) ?_
                refine gModel_slot hC hw wd598 dX12_house_125 ?_
                refine lv_bipush (v := 12) hx hb dX12_house_128 (by decide) ?_
                refine lv_iload_n hx hb dX12_house_130 rfl (lv_at hl 1 rfl) ?_
                refine lv_iadd hx hb dX12_house_131 ?_
                refine lv_aload_n hx hb dX12_house_132 rfl (lv_at hl 0 rfl) ?_
                refine gModel_readPlug hC hw wd579 dX12_house_133 ?_
                refine lv_iload_n hx hb dX12_house_136 rfl (lv_at hl 1 rfl) ?_
                obtain ⟨hin, hf⟩ := ok_chk hf
                refine z_iald hC hw rfl hin dX12_house_137 ?_
                obtain ⟨hin, hf⟩ := ok_chk hf
                obtain ⟨s_20, en, hf⟩ := ok_lt hf
                refine z_iast hC hw hS rfl hin en dX12_house_138 (fun H locs hw hS => ?_)
                clear en
                refine lv_aload_n hx hb dX12_house_139 rfl (lv_at hl 0 rfl) ?_
                refine gModel_slot hC hw wd598 dX12_house_140 ?_
                refine lv_bipush (v := 18) hx hb dX12_house_143 (by decide) ?_
                refine lv_iload_n hx hb dX12_house_145 rfl (lv_at hl 1 rfl) ?_
                refine lv_iadd hx hb dX12_house_146 ?_
                refine lv_aload_n hx hb dX12_house_147 rfl (lv_at hl 0 rfl) ?_
                refine gModel_readOn hC hw wd580 dX12_house_148 ?_
                refine lv_iload_n hx hb dX12_house_151 rfl (lv_at hl 1 rfl) ?_
                obtain ⟨hin, hf⟩ := ok_chk hf
                refine z_iald hC hw rfl hin dX12_house_152 ?_
                obtain ⟨hin, hf⟩ := ok_chk hf
                obtain ⟨s_21, en, hf⟩ := ok_lt hf
                refine z_iast hC hw hS rfl hin en dX12_house_153 (fun H locs hw hS => ?_)
                clear en
                obtain ⟨v1_22, en, hf⟩ := ok_lt hf
                refine lv_iinc (v := v1_22) (lv' := [(1, .int v1_22), (0, .ref (E.2.2.1 259))]) hx hb dX12_house_154 hl (k := 1) rfl (by rw [en]; rfl) (by decide) rfl (fun ls hl => ?_)
                clear en
                refine lv_goto (tgt := 114) hx hb dX12_house_157 (by decide) ?_
                cases hf
                exact ih114 _ _ (hi114 _ rfl) _ _ ls (lv_sub hl [1, 0] rfl) hw hS
          exact L114 5000 _ _ hL114 _ _ ls (lv_sub hl [1, 0] rfl) hw hS
        have L81 : ∀ (n : Nat) (v1_12 : Int32) (s_13 : St), loopF f_X12_house_L81 n (v1_12, s_13) = some r81 → ∀ (H : Heap) (locs : List Loc) (ls : Array Slot), lv_has ls 2 [(0, .ref (E.2.2.1 259)), (1, .int v1_12)] → World E sh2 s_13 H → va_S E.2.2.2 s.heap H locs → W p l e (rmd 6) s m args below meth c H locs 0 0 (MQ below (QW E sh2 (some (.int rz)) sz) args s 0 0 E.2.2.2) (F0 m 81 ls []) := by
          intro n
          induction n with
          | zero =>
            intro v1_12 s_13 hf
            exact nz hf
          | succ n ih81 =>
            intro v1_12 s_13 hf H locs ls hl hw hS
            obtain ⟨xl81, hf, hi81, he81⟩ := ok_loop hf
            unfold f_X12_house_L81 at hf
            replace hf := ok_un2 hf
            refine lv_iload_n hx hb dX12_house_81 rfl (lv_at hl 1 rfl) ?_
            refine lv_aload_n hx hb dX12_house_82 rfl (lv_at hl 0 rfl) ?_
            refine gModel_told hC hw wd597 dX12_house_83 ?_
            refine lv_iconst (v := 0) hx hb dX12_house_86 (by decide) ?_
            obtain ⟨hin, hf⟩ := ok_chk hf
            refine z_iald hC hw rfl hin dX12_house_87 ?_
            have hif := ok_if hf
            refine lv_icmp_ge (tgt := 112) hx hb dX12_house_88 (by decide) (fun hcd => ?_) (fun hcd => ?_)
            · have hf := hif.1 hcd
              clear hif
              cases hf
              exact X81_0 _ (he81 _ rfl) _ _ ls (lv_sub hl [0] rfl) hw hS
            · have hf := hif.2 hcd
              clear hif
              refine lv_aload_n hx hb dX12_house_91 rfl (lv_at hl 0 rfl) ?_
              refine gModel_slot hC hw wd598 dX12_house_92 ?_
              refine lv_bipush (v := 8) hx hb dX12_house_95 (by decide) ?_
              refine lv_iload_n hx hb dX12_house_97 rfl (lv_at hl 1 rfl) ?_
              refine lv_iadd hx hb dX12_house_98 ?_
              refine lv_aload_n hx hb dX12_house_99 rfl (lv_at hl 0 rfl) ?_
              refine gModel_readRate hC hw wd578 dX12_house_100 ?_
              refine lv_iload_n hx hb dX12_house_103 rfl (lv_at hl 1 rfl) ?_
              obtain ⟨hin, hf⟩ := ok_chk hf
              refine z_iald hC hw rfl hin dX12_house_104 ?_
              obtain ⟨hin, hf⟩ := ok_chk hf
              obtain ⟨s_23, en, hf⟩ := ok_lt hf
              refine z_iast hC hw hS rfl hin en dX12_house_105 (fun H locs hw hS => ?_)
              clear en
              obtain ⟨v1_24, en, hf⟩ := ok_lt hf
              refine lv_iinc (v := v1_24) (lv' := [(1, .int v1_24), (0, .ref (E.2.2.1 259))]) hx hb dX12_house_106 hl (k := 1) rfl (by rw [en]; rfl) (by decide) rfl (fun ls hl => ?_)
              clear en
              refine lv_goto (tgt := 81) hx hb dX12_house_109 (by decide) ?_
              cases hf
              exact ih81 _ _ (hi81 _ rfl) _ _ ls (lv_sub hl [1, 0] rfl) hw hS
        exact L81 5000 _ _ hL81 _ _ ls (lv_sub hl [1, 0] rfl) hw hS
      have L60 : ∀ (n : Nat) (v1_8 : Int32) (s_9 : St), loopF f_X12_house_L60 n (v1_8, s_9) = some r60 → ∀ (H : Heap) (locs : List Loc) (ls : Array Slot), lv_has ls 2 [(0, .ref (E.2.2.1 259)), (1, .int v1_8)] → World E sh2 s_9 H → va_S E.2.2.2 s.heap H locs → W p l e (rmd 6) s m args below meth c H locs 0 0 (MQ below (QW E sh2 (some (.int rz)) sz) args s 0 0 E.2.2.2) (F0 m 60 ls []) := by
        intro n
        induction n with
        | zero =>
          intro v1_8 s_9 hf
          exact nz hf
        | succ n ih60 =>
          intro v1_8 s_9 hf H locs ls hl hw hS
          obtain ⟨xl60, hf, hi60, he60⟩ := ok_loop hf
          unfold f_X12_house_L60 at hf
          replace hf := ok_un2 hf
          refine lv_iload_n hx hb dX12_house_60 rfl (lv_at hl 1 rfl) ?_
          refine lv_bipush (v := 27) hx hb dX12_house_61 (by decide) ?_
          have hif := ok_if hf
          refine lv_icmp_ge (tgt := 79) hx hb dX12_house_63 (by decide) (fun hcd => ?_) (fun hcd => ?_)
          · have hf := hif.1 hcd
            clear hif
            cases hf
            exact X60_0 _ (he60 _ rfl) _ _ ls (lv_sub hl [0] rfl) hw hS
          · have hf := hif.2 hcd
            clear hif
            refine lv_aload_n hx hb dX12_house_66 rfl (lv_at hl 0 rfl) ?_
            refine gModel_slot hC hw wd598 dX12_house_67 ?_
            refine lv_iload_n hx hb dX12_house_70 rfl (lv_at hl 1 rfl) ?_
            refine lv_iconst (v := 0) hx hb dX12_house_71 (by decide) ?_
            obtain ⟨hin, hf⟩ := ok_chk hf
            obtain ⟨s_25, en, hf⟩ := ok_lt hf
            refine z_iast hC hw hS rfl hin en dX12_house_72 (fun H locs hw hS => ?_)
            clear en
            obtain ⟨v1_26, en, hf⟩ := ok_lt hf
            refine lv_iinc (v := v1_26) (lv' := [(1, .int v1_26), (0, .ref (E.2.2.1 259))]) hx hb dX12_house_73 hl (k := 1) rfl (by rw [en]; rfl) (by decide) rfl (fun ls hl => ?_)
            clear en
            refine lv_goto (tgt := 60) hx hb dX12_house_76 (by decide) ?_
            cases hf
            exact ih60 _ _ (hi60 _ rfl) _ _ ls (lv_sub hl [1, 0] rfl) hw hS
      exact L60 5000 _ _ hL60 _ _ ls (lv_sub hl [1, 0] rfl) hw hS
    have L34 : ∀ (n : Nat) (v1_4 : Int32) (s_5 : St), loopF f_X12_house_L34 n (v1_4, s_5) = some r34 → ∀ (H : Heap) (locs : List Loc) (ls : Array Slot), lv_has ls 2 [(0, .ref (E.2.2.1 259)), (1, .int v1_4)] → World E sh2 s_5 H → va_S E.2.2.2 s.heap H locs → W p l e (rmd 6) s m args below meth c H locs 0 0 (MQ below (QW E sh2 (some (.int rz)) sz) args s 0 0 E.2.2.2) (F0 m 34 ls []) := by
      intro n
      induction n with
      | zero =>
        intro v1_4 s_5 hf
        exact nz hf
      | succ n ih34 =>
        intro v1_4 s_5 hf H locs ls hl hw hS
        obtain ⟨xl34, hf, hi34, he34⟩ := ok_loop hf
        unfold f_X12_house_L34 at hf
        replace hf := ok_un2 hf
        refine lv_iload_n hx hb dX12_house_34 rfl (lv_at hl 1 rfl) ?_
        refine lv_bipush (v := 13) hx hb dX12_house_35 (by decide) ?_
        have hif := ok_if hf
        refine lv_icmp_ge (tgt := 58) hx hb dX12_house_37 (by decide) (fun hcd => ?_) (fun hcd => ?_)
        · have hf := hif.1 hcd
          clear hif
          cases hf
          exact X34_0 _ (he34 _ rfl) _ _ ls (lv_sub hl [0] rfl) hw hS
        · have hf := hif.2 hcd
          clear hif
          refine lv_aload_n hx hb dX12_house_40 rfl (lv_at hl 0 rfl) ?_
          refine gModel_told hC hw wd597 dX12_house_41 ?_
          refine lv_iload_n hx hb dX12_house_44 rfl (lv_at hl 1 rfl) ?_
          refine lv_aload_n hx hb dX12_house_45 rfl (lv_at hl 0 rfl) ?_
          refine gModel_read hC hw wd569 dX12_house_46 ?_
          refine lv_iload_n hx hb dX12_house_49 rfl (lv_at hl 1 rfl) ?_
          obtain ⟨hin, hf⟩ := ok_chk hf
          refine z_iald hC hw rfl hin dX12_house_50 ?_
          obtain ⟨hin, hf⟩ := ok_chk hf
          obtain ⟨s_27, en, hf⟩ := ok_lt hf
          refine z_iast hC hw hS rfl hin en dX12_house_51 (fun H locs hw hS => ?_)
          clear en
          obtain ⟨v1_28, en, hf⟩ := ok_lt hf
          refine lv_iinc (v := v1_28) (lv' := [(1, .int v1_28), (0, .ref (E.2.2.1 259))]) hx hb dX12_house_52 hl (k := 1) rfl (by rw [en]; rfl) (by decide) rfl (fun ls hl => ?_)
          clear en
          refine lv_goto (tgt := 34) hx hb dX12_house_55 (by decide) ?_
          cases hf
          exact ih34 _ _ (hi34 _ rfl) _ _ ls (lv_sub hl [1, 0] rfl) hw hS
    exact L34 5000 _ _ hL34 _ _ ls (lv_sub hl [1, 0] rfl) hw hS
  · have hf := hif.2 hcd
    clear hif
    refine lv_aload_n hx hb dX12_house_16 rfl (lv_at hl 0 rfl) ?_
    refine lv_aload_n hx hb dX12_house_17 rfl (lv_at hl 0 rfl) ?_
    refine gModel_wrong hC hw wd564 dX12_house_18 ?_
    obtain ⟨s_29, en, hf⟩ := ok_lt hf
    refine pModel_latest hC hw hS wd599 en dX12_house_21 (fun H locs hw hS => ?_)
    clear en
    refine lv_ldc (v := -1000100) hx hb hown (hts _ wd600) dX12_house_24 ?_
    refine lv_aload_n hx hb dX12_house_26 rfl (lv_at hl 0 rfl) ?_
    refine gModel_place hC hw wd554 dX12_house_27 ?_
    refine lv_isub hx hb dX12_house_30 ?_
    exact z_iretE hC hlocks hw hS hf hr rfl dX12_house_31
set_option maxHeartbeats 4000000 in
set_option maxRecDepth 100000 in
theorem m_X12_fault (l : Launch) (E : Ev)   {s0 sz : St} {rz : Int32} (hf : f_X12_fault s0 = some (rz, sz)) : MM l E sh2 yX12_fault cX12_fault 1 (some .int) (rmd 1) [.ref (E.2.2.1 259)] s0 (some (.int rz)) sz := by
  unfold f_X12_fault at hf
  refine z_enter (by decide +kernel) (Nat.le_of_ble_eq_true rfl) ?_
  intro p e s m args below meth c ls hC hr hlocks hw hS hl
  have hC : Cx p s m args c cX12_fault 1 "FuseBoxModel" E := hC
  obtain ⟨hx, hb, hml, hown, hts, hTB⟩ := id hC
  have hl : lv_has ls 1 [(0, .ref (E.2.2.1 259))] := hl
  refine lv_aload_n hx hb dX12_fault_0 rfl (lv_at hl 0 rfl) ?_
  refine gModel_latest hC hw wd599 dX12_fault_1 ?_
  exact z_iretE hC hlocks hw hS hf hr rfl dX12_fault_4
set_option maxHeartbeats 4000000 in
set_option maxRecDepth 100000 in
theorem m_X12_isLine (l : Launch) (E : Ev) {x1 : Int32}  {s0 sz : St} {rz : Int32} (hf : f_X12_isLine x1 s0 = some (rz, sz)) : MM l E sh2 yX12_isLine cX12_isLine 2 (some .boolean) (rmd 2) [.ref (E.2.2.1 259), .int x1] s0 (some (.int rz)) sz := by
  unfold f_X12_isLine at hf
  refine z_enter (by decide +kernel) (Nat.le_of_ble_eq_true rfl) ?_
  intro p e s m args below meth c ls hC hr hlocks hw hS hl
  have hC : Cx p s m args c cX12_isLine 2 "FuseBoxModel" E := hC
  obtain ⟨hx, hb, hml, hown, hts, hTB⟩ := id hC
  have hl : lv_has ls 2 [(0, .ref (E.2.2.1 259)), (1, .int x1)] := hl
  refine lv_iload_n hx hb dX12_isLine_0 rfl (lv_at hl 1 rfl) ?_
  refine lv_i2l (v := x1.toInt64) hx hb dX12_isLine_1 rfl ?_
  refine lv_lconst (v := 0) hx hb dX12_isLine_2 (by decide) ?_
  refine lv_aload_n hx hb dX12_isLine_3 rfl (lv_at hl 0 rfl) ?_
  refine gModel_told hC hw wd597 dX12_isLine_4 ?_
  refine lv_iconst (v := 0) hx hb dX12_isLine_7 (by decide) ?_
  obtain ⟨hin, hf⟩ := ok_chk hf
  refine z_iald hC hw rfl hin dX12_isLine_8 ?_
  refine lv_iconst (v := 1) hx hb dX12_isLine_9 (by decide) ?_
  refine lv_isub hx hb dX12_isLine_10 ?_
  refine lv_i2l (v := (((s0 261 ((0 : Int32)).toNatClampNeg) - (1 : Int32))).toInt64) hx hb dX12_isLine_11 rfl ?_
  obtain ⟨r_2, s_1, hc, hf⟩ := ok_bd hf
  refine z_cS hC hl.1 hw hS (As := [.long (x1.toInt64), .long (0 : Int64), .long ((((s0 261 ((0 : Int32)).toNatClampNeg) - (1 : Int32))).toInt64)]) (rest := []) (m_X12_in l E  hc) gc219 gc220 ⟨Nat.le_of_ble_eq_true rfl, Nat.le_of_ble_eq_true rfl⟩ ⟨Nat.le_of_ble_eq_true rfl, Nat.le_of_ble_eq_true rfl⟩ rfl rfl (Nat.le_of_ble_eq_true rfl) dX12_isLine_12 (fun H locs hw hS => ?_)
  clear hc
  obtain ⟨hbo, hf⟩ := ok_chk hf
  exact z_iretE hC hlocks hw hS hf hr (narB hbo) dX12_isLine_15
set_option maxHeartbeats 4000000 in
set_option maxRecDepth 100000 in
theorem m_X12_isThing (l : Launch) (E : Ev) {x1 : Int32}  {s0 sz : St} {rz : Int32} (hf : f_X12_isThing x1 s0 = some (rz, sz)) : MM l E sh2 yX12_isThing cX12_isThing 2 (some .boolean) (rmd 2) [.ref (E.2.2.1 259), .int x1] s0 (some (.int rz)) sz := by
  unfold f_X12_isThing at hf
  refine z_enter (by decide +kernel) (Nat.le_of_ble_eq_true rfl) ?_
  intro p e s m args below meth c ls hC hr hlocks hw hS hl
  have hC : Cx p s m args c cX12_isThing 2 "FuseBoxModel" E := hC
  obtain ⟨hx, hb, hml, hown, hts, hTB⟩ := id hC
  have hl : lv_has ls 2 [(0, .ref (E.2.2.1 259)), (1, .int x1)] := hl
  refine lv_iload_n hx hb dX12_isThing_0 rfl (lv_at hl 1 rfl) ?_
  refine lv_i2l (v := x1.toInt64) hx hb dX12_isThing_1 rfl ?_
  refine lv_lconst (v := 0) hx hb dX12_isThing_2 (by decide) ?_
  refine lv_aload_n hx hb dX12_isThing_3 rfl (lv_at hl 0 rfl) ?_
  refine gModel_told hC hw wd597 dX12_isThing_4 ?_
  refine lv_iconst (v := 1) hx hb dX12_isThing_7 (by decide) ?_
  obtain ⟨hin, hf⟩ := ok_chk hf
  refine z_iald hC hw rfl hin dX12_isThing_8 ?_
  refine lv_iconst (v := 1) hx hb dX12_isThing_9 (by decide) ?_
  refine lv_isub hx hb dX12_isThing_10 ?_
  refine lv_i2l (v := (((s0 261 ((1 : Int32)).toNatClampNeg) - (1 : Int32))).toInt64) hx hb dX12_isThing_11 rfl ?_
  obtain ⟨r_2, s_1, hc, hf⟩ := ok_bd hf
  refine z_cS hC hl.1 hw hS (As := [.long (x1.toInt64), .long (0 : Int64), .long ((((s0 261 ((1 : Int32)).toNatClampNeg) - (1 : Int32))).toInt64)]) (rest := []) (m_X12_in l E  hc) gc219 gc220 ⟨Nat.le_of_ble_eq_true rfl, Nat.le_of_ble_eq_true rfl⟩ ⟨Nat.le_of_ble_eq_true rfl, Nat.le_of_ble_eq_true rfl⟩ rfl rfl (Nat.le_of_ble_eq_true rfl) dX12_isThing_12 (fun H locs hw hS => ?_)
  clear hc
  obtain ⟨hbo, hf⟩ := ok_chk hf
  exact z_iretE hC hlocks hw hS hf hr (narB hbo) dX12_isThing_15
set_option maxHeartbeats 4000000 in
set_option maxRecDepth 100000 in
theorem m_X12_isHouse (l : Launch) (E : Ev)   {s0 sz : St} {rz : Int32} (hf : f_X12_isHouse s0 = some (rz, sz)) : MM l E sh2 yX12_isHouse cX12_isHouse 1 (some .boolean) (rmd 1) [.ref (E.2.2.1 259)] s0 (some (.int rz)) sz := by
  unfold f_X12_isHouse at hf
  refine z_enter (by decide +kernel) (Nat.le_of_ble_eq_true rfl) ?_
  intro p e s m args below meth c ls hC hr hlocks hw hS hl
  have hC : Cx p s m args c cX12_isHouse 1 "FuseBoxModel" E := hC
  obtain ⟨hx, hb, hml, hown, hts, hTB⟩ := id hC
  have hl : lv_has ls 1 [(0, .ref (E.2.2.1 259))] := hl
  refine lv_aload_n hx hb dX12_isHouse_0 rfl (lv_at hl 0 rfl) ?_
  refine gModel_told hC hw wd597 dX12_isHouse_1 ?_
  refine lv_iconst (v := 0) hx hb dX12_isHouse_4 (by decide) ?_
  obtain ⟨hin, hf⟩ := ok_chk hf
  refine z_iald hC hw rfl hin dX12_isHouse_5 ?_
  obtain ⟨j14, ej14, hf⟩ := ok_lt hf
  have J14 : ∀ (k_1 : Int32) (s_2 : St), j14 k_1 s_2 = some (rz, sz) → ∀ (H : Heap) (locs : List Loc) (ls : Array Slot), lv_has ls 1 [] → World E sh2 s_2 H → va_S E.2.2.2 s.heap H locs → W p l e (rmd 1) s m args below meth c H locs 0 0 (MQ below (QW E sh2 (some (.int rz)) sz) args s 0 0 E.2.2.2) (F0 m 14 ls [.int k_1]) := by
    intro k_1 s_2 hf H locs ls hl hw hS
    subst ej14
    obtain ⟨hbo, hf⟩ := ok_chk hf
    exact z_iretE hC hlocks hw hS hf hr (narB hbo) dX12_isHouse_14
  clear ej14
  have hif := ok_if hf
  refine lv_if_le (tgt := 13) hx hb dX12_isHouse_6 (by decide) (fun hcd => ?_) (fun hcd => ?_)
  · have hf := hif.1 hcd
    clear hif
    refine lv_iconst (v := 0) hx hb dX12_isHouse_13 (by decide) ?_
    exact J14 _ _ hf _ _ ls (lv_sub hl [] rfl) hw hS
  · have hf := hif.2 hcd
    clear hif
    refine lv_iconst (v := 1) hx hb dX12_isHouse_9 (by decide) ?_
    refine lv_goto (tgt := 14) hx hb dX12_isHouse_10 (by decide) ?_
    exact J14 _ _ hf _ _ ls (lv_sub hl [] rfl) hw hS
set_option maxHeartbeats 4000000 in
set_option maxRecDepth 100000 in
theorem m_X12_isLive (l : Launch) (E : Ev) {x1 : Int32} {x2 : Int32}  {s0 sz : St} {rz : Int32} (hf : f_X12_isLive x1 x2 s0 = some (rz, sz)) : MM l E sh2 yX12_isLive cX12_isLive 3 (some .boolean) (rmd 1) [.ref (E.2.2.1 259), .int x1, .int x2] s0 (some (.int rz)) sz := by
  unfold f_X12_isLive at hf
  refine z_enter (by decide +kernel) (Nat.le_of_ble_eq_true rfl) ?_
  intro p e s m args below meth c ls hC hr hlocks hw hS hl
  have hC : Cx p s m args c cX12_isLive 3 "FuseBoxModel" E := hC
  obtain ⟨hx, hb, hml, hown, hts, hTB⟩ := id hC
  have hl : lv_has ls 3 [(0, .ref (E.2.2.1 259)), (1, .int x1), (2, .int x2)] := hl
  refine lv_aload_n hx hb dX12_isLive_0 rfl (lv_at hl 0 rfl) ?_
  refine gModel_slot hC hw wd598 dX12_isLive_1 ?_
  refine lv_iload_n hx hb dX12_isLive_4 rfl (lv_at hl 1 rfl) ?_
  refine lv_iconst (v := 4) hx hb dX12_isLive_5 (by decide) ?_
  refine lv_iadd hx hb dX12_isLive_6 ?_
  refine lv_iload_n hx hb dX12_isLive_7 rfl (lv_at hl 2 rfl) ?_
  refine lv_iadd hx hb dX12_isLive_8 ?_
  obtain ⟨hin, hf⟩ := ok_chk hf
  refine z_iald hC hw rfl hin dX12_isLive_9 ?_
  obtain ⟨j30, ej30, hf⟩ := ok_lt hf
  have J30 : ∀ (k_1 : Int32) (s_2 : St), j30 k_1 s_2 = some (rz, sz) → ∀ (H : Heap) (locs : List Loc) (ls : Array Slot), lv_has ls 3 [] → World E sh2 s_2 H → va_S E.2.2.2 s.heap H locs → W p l e (rmd 1) s m args below meth c H locs 0 0 (MQ below (QW E sh2 (some (.int rz)) sz) args s 0 0 E.2.2.2) (F0 m 30 ls [.int k_1]) := by
    intro k_1 s_2 hf H locs ls hl hw hS
    subst ej30
    obtain ⟨hbo, hf⟩ := ok_chk hf
    exact z_iretE hC hlocks hw hS hf hr (narB hbo) dX12_isLive_30
  clear ej30
  obtain ⟨j29, ej29, hf⟩ := ok_lt hf
  have J29 : ∀ (s_3 : St), j29 s_3 = some (rz, sz) → ∀ (H : Heap) (locs : List Loc) (ls : Array Slot), lv_has ls 3 [] → World E sh2 s_3 H → va_S E.2.2.2 s.heap H locs → W p l e (rmd 1) s m args below meth c H locs 0 0 (MQ below (QW E sh2 (some (.int rz)) sz) args s 0 0 E.2.2.2) (F0 m 29 ls []) := by
    intro s_3 hf H locs ls hl hw hS
    subst ej29
    refine lv_iconst (v := 0) hx hb dX12_isLive_29 (by decide) ?_
    exact J30 _ _ hf _ _ ls hl hw hS
  clear ej29
  have hif := ok_if hf
  refine lv_if_ne (tgt := 29) hx hb dX12_isLive_10 (by decide) (fun hcd => ?_) (fun hcd => ?_)
  · have hf := hif.1 hcd
    clear hif
    exact J29 _ hf _ _ ls (lv_sub hl [] rfl) hw hS
  · have hf := hif.2 (fun q => q hcd)
    clear hif
    refine lv_aload_n hx hb dX12_isLive_13 rfl (lv_at hl 0 rfl) ?_
    refine gModel_slot hC hw wd598 dX12_isLive_14 ?_
    refine lv_iload_n hx hb dX12_isLive_17 rfl (lv_at hl 1 rfl) ?_
    refine lv_bipush (v := 24) hx hb dX12_isLive_18 (by decide) ?_
    refine lv_iadd hx hb dX12_isLive_20 ?_
    obtain ⟨hin, hf⟩ := ok_chk hf
    refine z_iald hC hw rfl hin dX12_isLive_21 ?_
    have hif := ok_if hf
    refine lv_if_ne (tgt := 29) hx hb dX12_isLive_22 (by decide) (fun hcd => ?_) (fun hcd => ?_)
    · have hf := hif.1 hcd
      clear hif
      exact J29 _ hf _ _ ls (lv_sub hl [] rfl) hw hS
    · have hf := hif.2 (fun q => q hcd)
      clear hif
      refine lv_iconst (v := 1) hx hb dX12_isLive_25 (by decide) ?_
      refine lv_goto (tgt := 30) hx hb dX12_isLive_26 (by decide) ?_
      exact J30 _ _ hf _ _ ls (lv_sub hl [] rfl) hw hS
set_option maxHeartbeats 4000000 in
set_option maxRecDepth 100000 in
theorem m_X12_runs (l : Launch) (E : Ev) {x1 : Int32} {x2 : Int32}  {s0 sz : St} {rz : Int32} (hf : f_X12_runs x1 x2 s0 = some (rz, sz)) : MM l E sh2 yX12_runs cX12_runs 3 (some .boolean) (rmd 2) [.ref (E.2.2.1 259), .int x1, .int x2] s0 (some (.int rz)) sz := by
  unfold f_X12_runs at hf
  refine z_enter (by decide +kernel) (Nat.le_of_ble_eq_true rfl) ?_
  intro p e s m args below meth c ls hC hr hlocks hw hS hl
  have hC : Cx p s m args c cX12_runs 3 "FuseBoxModel" E := hC
  obtain ⟨hx, hb, hml, hown, hts, hTB⟩ := id hC
  have hl : lv_has ls 3 [(0, .ref (E.2.2.1 259)), (1, .int x1), (2, .int x2)] := hl
  refine lv_aload_n hx hb dX12_runs_0 rfl (lv_at hl 0 rfl) ?_
  refine gModel_slot hC hw wd598 dX12_runs_1 ?_
  refine lv_iload_n hx hb dX12_runs_4 rfl (lv_at hl 1 rfl) ?_
  refine lv_bipush (v := 18) hx hb dX12_runs_5 (by decide) ?_
  refine lv_iadd hx hb dX12_runs_7 ?_
  refine lv_iload_n hx hb dX12_runs_8 rfl (lv_at hl 2 rfl) ?_
  refine lv_iadd hx hb dX12_runs_9 ?_
  obtain ⟨hin, hf⟩ := ok_chk hf
  refine z_iald hC hw rfl hin dX12_runs_10 ?_
  refine lv_iconst (v := 1) hx hb dX12_runs_11 (by decide) ?_
  obtain ⟨j39, ej39, hf⟩ := ok_lt hf
  have J39 : ∀ (k_1 : Int32) (s_2 : St), j39 k_1 s_2 = some (rz, sz) → ∀ (H : Heap) (locs : List Loc) (ls : Array Slot), lv_has ls 3 [] → World E sh2 s_2 H → va_S E.2.2.2 s.heap H locs → W p l e (rmd 2) s m args below meth c H locs 0 0 (MQ below (QW E sh2 (some (.int rz)) sz) args s 0 0 E.2.2.2) (F0 m 39 ls [.int k_1]) := by
    intro k_1 s_2 hf H locs ls hl hw hS
    subst ej39
    obtain ⟨hbo, hf⟩ := ok_chk hf
    exact z_iretE hC hlocks hw hS hf hr (narB hbo) dX12_runs_39
  clear ej39
  obtain ⟨j38, ej38, hf⟩ := ok_lt hf
  have J38 : ∀ (s_3 : St), j38 s_3 = some (rz, sz) → ∀ (H : Heap) (locs : List Loc) (ls : Array Slot), lv_has ls 3 [] → World E sh2 s_3 H → va_S E.2.2.2 s.heap H locs → W p l e (rmd 2) s m args below meth c H locs 0 0 (MQ below (QW E sh2 (some (.int rz)) sz) args s 0 0 E.2.2.2) (F0 m 38 ls []) := by
    intro s_3 hf H locs ls hl hw hS
    subst ej38
    refine lv_iconst (v := 0) hx hb dX12_runs_38 (by decide) ?_
    exact J39 _ _ hf _ _ ls hl hw hS
  clear ej38
  have hif := ok_if hf
  refine lv_icmp_ne (tgt := 38) hx hb dX12_runs_12 (by decide) (fun hcd => ?_) (fun hcd => ?_)
  · have hf := hif.1 hcd
    clear hif
    exact J38 _ hf _ _ ls (lv_sub hl [] rfl) hw hS
  · have hf := hif.2 (fun q => q hcd)
    clear hif
    refine lv_aload_n hx hb dX12_runs_15 rfl (lv_at hl 0 rfl) ?_
    refine lv_iload_n hx hb dX12_runs_16 rfl (lv_at hl 1 rfl) ?_
    refine lv_aload_n hx hb dX12_runs_17 rfl (lv_at hl 0 rfl) ?_
    refine gModel_slot hC hw wd598 dX12_runs_18 ?_
    refine lv_iload_n hx hb dX12_runs_21 rfl (lv_at hl 1 rfl) ?_
    refine lv_bipush (v := 12) hx hb dX12_runs_22 (by decide) ?_
    refine lv_iadd hx hb dX12_runs_24 ?_
    refine lv_iload_n hx hb dX12_runs_25 rfl (lv_at hl 2 rfl) ?_
    refine lv_iadd hx hb dX12_runs_26 ?_
    obtain ⟨hin, hf⟩ := ok_chk hf
    refine z_iald hC hw rfl hin dX12_runs_27 ?_
    obtain ⟨r_5, s_4, hc, hf⟩ := ok_bd hf
    refine z_cV hC hl.1 hw hS (As := [.int x1, .int (s0 260 (((x1 + (12 : Int32)) + x2)).toNatClampNeg)]) (rest := []) (m_X12_isLive l E  hc) rfl rfl gc241 gc242 ⟨Nat.le_of_ble_eq_true rfl, Nat.le_of_ble_eq_true rfl⟩ ⟨Nat.le_of_ble_eq_true rfl, Nat.le_of_ble_eq_true rfl⟩ rfl rfl (Nat.le_of_ble_eq_true rfl) dX12_runs_28 (fun H locs hw hS => ?_)
    clear hc
    have hif := ok_if hf
    refine lv_if_eq (tgt := 38) hx hb dX12_runs_31 (by decide) (fun hcd => ?_) (fun hcd => ?_)
    · have hf := hif.1 hcd
      clear hif
      exact J38 _ hf _ _ ls (lv_sub hl [] rfl) hw hS
    · have hf := hif.2 hcd
      clear hif
      refine lv_iconst (v := 1) hx hb dX12_runs_34 (by decide) ?_
      refine lv_goto (tgt := 39) hx hb dX12_runs_35 (by decide) ?_
      exact J39 _ _ hf _ _ ls (lv_sub hl [] rfl) hw hS
set_option maxHeartbeats 4000000 in
set_option maxRecDepth 100000 in
theorem m_X12_flowOf (l : Launch) (E : Ev) {x1 : Int32} {x2 : Int32}  {s0 sz : St} {rz : Int32} (hf : f_X12_flowOf x1 x2 s0 = some (rz, sz)) : MM l E sh2 yX12_flowOf cX12_flowOf 5 (some .int) (rmd 3) [.ref (E.2.2.1 259), .int x1, .int x2] s0 (some (.int rz)) sz := by
  unfold f_X12_flowOf at hf
  refine z_enter (by decide +kernel) (Nat.le_of_ble_eq_true rfl) ?_
  intro p e s m args below meth c ls hC hr hlocks hw hS hl
  have hC : Cx p s m args c cX12_flowOf 5 "FuseBoxModel" E := hC
  obtain ⟨hx, hb, hml, hown, hts, hTB⟩ := id hC
  have hl : lv_has ls 5 [(0, .ref (E.2.2.1 259)), (1, .int x1), (2, .int x2)] := hl
  refine lv_iconst (v := 0) hx hb dX12_flowOf_0 (by decide) ?_
  obtain ⟨v3_1, en, hf⟩ := ok_lt hf
  refine z_nm en ?_
  clear en
  refine lv_istore_n (lv' := [(3, .int v3_1), (0, .ref (E.2.2.1 259)), (1, .int x1), (2, .int x2)]) hx hb dX12_flowOf_1 rfl hl (by decide) rfl (fun ls hl => ?_)
  refine lv_iconst (v := 0) hx hb dX12_flowOf_2 (by decide) ?_
  obtain ⟨v4_2, en, hf⟩ := ok_lt hf
  refine z_nm en ?_
  clear en
  refine lv_istore (lv' := [(4, .int v4_2), (3, .int v3_1), (0, .ref (E.2.2.1 259)), (1, .int x1), (2, .int x2)]) hx hb dX12_flowOf_3 hl (by decide) rfl (fun ls hl => ?_)
  obtain ⟨r5, hL5, hf⟩ := ok_bind hf
  have X5_0 : ∀ (v3_6 : Int32) (s_7 : St), (v3_6, s_7) = r5 → ∀ (H : Heap) (locs : List Loc) (ls : Array Slot), lv_has ls 5 [(3, .int v3_6)] → World E sh2 s_7 H → va_S E.2.2.2 s.heap H locs → W p l e (rmd 3) s m args below meth c H locs 0 0 (MQ below (QW E sh2 (some (.int rz)) sz) args s 0 0 E.2.2.2) (F0 m 65 ls []) := by
    intro v3_6 s_7 er H locs ls hl hw hS
    subst er
    replace hf := ok_un2 hf
    refine lv_iload_n hx hb dX12_flowOf_65 rfl (lv_at hl 0 rfl) ?_
    exact z_iretE hC hlocks hw hS hf hr rfl dX12_flowOf_66
  have L5 : ∀ (n : Nat) (v3_3 : Int32) (v4_4 : Int32) (s_5 : St), loopF (f_X12_flowOf_L5 x1 x2) n (v3_3, v4_4, s_5) = some r5 → ∀ (H : Heap) (locs : List Loc) (ls : Array Slot), lv_has ls 5 [(0, .ref (E.2.2.1 259)), (1, .int x1), (2, .int x2), (3, .int v3_3), (4, .int v4_4)] → World E sh2 s_5 H → va_S E.2.2.2 s.heap H locs → W p l e (rmd 3) s m args below meth c H locs 0 0 (MQ below (QW E sh2 (some (.int rz)) sz) args s 0 0 E.2.2.2) (F0 m 5 ls []) := by
    intro n
    induction n with
    | zero =>
      intro v3_3 v4_4 s_5 hf
      exact nz hf
    | succ n ih5 =>
      intro v3_3 v4_4 s_5 hf H locs ls hl hw hS
      obtain ⟨xl5, hf, hi5, he5⟩ := ok_loop hf
      unfold f_X12_flowOf_L5 at hf
      replace hf := ok_un3 hf
      refine lv_iload hx hb dX12_flowOf_5 (lv_at hl 4 rfl) ?_
      refine lv_aload_n hx hb dX12_flowOf_7 rfl (lv_at hl 0 rfl) ?_
      refine gModel_told hC hw wd597 dX12_flowOf_8 ?_
      refine lv_iconst (v := 1) hx hb dX12_flowOf_11 (by decide) ?_
      obtain ⟨hin, hf⟩ := ok_chk hf
      refine z_iald hC hw rfl hin dX12_flowOf_12 ?_
      have hif := ok_if hf
      refine lv_icmp_ge (tgt := 65) hx hb dX12_flowOf_13 (by decide) (fun hcd => ?_) (fun hcd => ?_)
      · have hf := hif.1 hcd
        clear hif
        cases hf
        exact X5_0 _ _ (he5 _ rfl) _ _ ls (lv_sub hl [3] rfl) hw hS
      · have hf := hif.2 hcd
        clear hif
        refine lv_iload_n hx hb dX12_flowOf_16 rfl (lv_at hl 3 rfl) ?_
        refine lv_aload_n hx hb dX12_flowOf_17 rfl (lv_at hl 0 rfl) ?_
        refine gModel_slot hC hw wd598 dX12_flowOf_18 ?_
        refine lv_iload_n hx hb dX12_flowOf_21 rfl (lv_at hl 1 rfl) ?_
        refine lv_bipush (v := 12) hx hb dX12_flowOf_22 (by decide) ?_
        refine lv_iadd hx hb dX12_flowOf_24 ?_
        refine lv_iload hx hb dX12_flowOf_25 (lv_at hl 4 rfl) ?_
        refine lv_iadd hx hb dX12_flowOf_27 ?_
        obtain ⟨hin, hf⟩ := ok_chk hf
        refine z_iald hC hw rfl hin dX12_flowOf_28 ?_
        refine lv_iload_n hx hb dX12_flowOf_29 rfl (lv_at hl 2 rfl) ?_
        obtain ⟨j57, ej57, hf⟩ := ok_lt hf
        have J57 : ∀ (k_8 : Int32) (s_9 : St), j57 k_8 s_9 = some xl5 → ∀ (H : Heap) (locs : List Loc) (ls : Array Slot), lv_has ls 5 [(0, .ref (E.2.2.1 259)), (1, .int x1), (2, .int x2), (4, .int v4_4)] → World E sh2 s_9 H → va_S E.2.2.2 s.heap H locs → W p l e (rmd 3) s m args below meth c H locs 0 0 (MQ below (QW E sh2 (some (.int rz)) sz) args s 0 0 E.2.2.2) (F0 m 57 ls [.int k_8, .int v3_3]) := by
          intro k_8 s_9 hf H locs ls hl hw hS
          subst ej57
          refine lv_iadd hx hb dX12_flowOf_57 ?_
          obtain ⟨v3_10, en, hf⟩ := ok_lt hf
          refine z_nm en ?_
          clear en
          refine lv_istore_n (lv' := [(3, .int v3_10), (0, .ref (E.2.2.1 259)), (1, .int x1), (2, .int x2), (4, .int v4_4)]) hx hb dX12_flowOf_58 rfl hl (by decide) rfl (fun ls hl => ?_)
          obtain ⟨v4_11, en, hf⟩ := ok_lt hf
          refine lv_iinc (v := v4_11) (lv' := [(4, .int v4_11), (3, .int v3_10), (0, .ref (E.2.2.1 259)), (1, .int x1), (2, .int x2)]) hx hb dX12_flowOf_59 hl (k := 4) rfl (by rw [en]; rfl) (by decide) rfl (fun ls hl => ?_)
          clear en
          refine lv_goto (tgt := 5) hx hb dX12_flowOf_62 (by decide) ?_
          cases hf
          exact ih5 _ _ _ (hi5 _ rfl) _ _ ls (lv_sub hl [2, 3, 4, 1, 0] rfl) hw hS
        clear ej57
        obtain ⟨j56, ej56, hf⟩ := ok_lt hf
        have J56 : ∀ (s_12 : St), j56 s_12 = some xl5 → ∀ (H : Heap) (locs : List Loc) (ls : Array Slot), lv_has ls 5 [(0, .ref (E.2.2.1 259)), (1, .int x1), (2, .int x2), (4, .int v4_4)] → World E sh2 s_12 H → va_S E.2.2.2 s.heap H locs → W p l e (rmd 3) s m args below meth c H locs 0 0 (MQ below (QW E sh2 (some (.int rz)) sz) args s 0 0 E.2.2.2) (F0 m 56 ls [.int v3_3]) := by
          intro s_12 hf H locs ls hl hw hS
          subst ej56
          refine lv_iconst (v := 0) hx hb dX12_flowOf_56 (by decide) ?_
          exact J57 _ _ hf _ _ ls hl hw hS
        clear ej56
        have hif := ok_if hf
        refine lv_icmp_ne (tgt := 56) hx hb dX12_flowOf_30 (by decide) (fun hcd => ?_) (fun hcd => ?_)
        · have hf := hif.1 hcd
          clear hif
          exact J56 _ hf _ _ ls (lv_sub hl [0, 1, 2, 4] rfl) hw hS
        · have hf := hif.2 (fun q => q hcd)
          clear hif
          refine lv_aload_n hx hb dX12_flowOf_33 rfl (lv_at hl 0 rfl) ?_
          refine lv_iload_n hx hb dX12_flowOf_34 rfl (lv_at hl 1 rfl) ?_
          refine lv_iload hx hb dX12_flowOf_35 (lv_at hl 4 rfl) ?_
          obtain ⟨r_14, s_13, hc, hf⟩ := ok_bd hf
          refine z_cV hC hl.1 hw hS (As := [.int x1, .int v4_4]) (rest := [.int v3_3]) (m_X12_runs l E  hc) rfl rfl gc243 gc244 ⟨Nat.le_of_ble_eq_true rfl, Nat.le_of_ble_eq_true rfl⟩ ⟨Nat.le_of_ble_eq_true rfl, Nat.le_of_ble_eq_true rfl⟩ rfl rfl (Nat.le_of_ble_eq_true rfl) dX12_flowOf_37 (fun H locs hw hS => ?_)
          clear hc
          have hif := ok_if hf
          refine lv_if_eq (tgt := 56) hx hb dX12_flowOf_40 (by decide) (fun hcd => ?_) (fun hcd => ?_)
          · have hf := hif.1 hcd
            clear hif
            exact J56 _ hf _ _ ls (lv_sub hl [0, 1, 2, 4] rfl) hw hS
          · have hf := hif.2 hcd
            clear hif
            refine lv_aload_n hx hb dX12_flowOf_43 rfl (lv_at hl 0 rfl) ?_
            refine gModel_told hC hw wd597 dX12_flowOf_44 ?_
            refine lv_bipush (v := 7) hx hb dX12_flowOf_47 (by decide) ?_
            refine lv_iload hx hb dX12_flowOf_49 (lv_at hl 4 rfl) ?_
            refine lv_iadd hx hb dX12_flowOf_51 ?_
            obtain ⟨hin, hf⟩ := ok_chk hf
            refine z_iald hC hw rfl hin dX12_flowOf_52 ?_
            refine lv_goto (tgt := 57) hx hb dX12_flowOf_53 (by decide) ?_
            exact J57 _ _ hf _ _ ls (lv_sub hl [0, 1, 2, 4] rfl) hw hS
  exact L5 5000 _ _ _ hL5 _ _ ls (lv_sub hl [2, 3, 4, 1, 0] rfl) hw hS
set_option maxHeartbeats 4000000 in
set_option maxRecDepth 100000 in
theorem m_X12_liveOnes (l : Launch) (E : Ev) {x1 : Int32}  {s0 sz : St} {rz : Int32} (hf : f_X12_liveOnes x1 s0 = some (rz, sz)) : MM l E sh2 yX12_liveOnes cX12_liveOnes 4 (some .int) (rmd 2) [.ref (E.2.2.1 259), .int x1] s0 (some (.int rz)) sz := by
  unfold f_X12_liveOnes at hf
  refine z_enter (by decide +kernel) (Nat.le_of_ble_eq_true rfl) ?_
  intro p e s m args below meth c ls hC hr hlocks hw hS hl
  have hC : Cx p s m args c cX12_liveOnes 4 "FuseBoxModel" E := hC
  obtain ⟨hx, hb, hml, hown, hts, hTB⟩ := id hC
  have hl : lv_has ls 4 [(0, .ref (E.2.2.1 259)), (1, .int x1)] := hl
  refine lv_iconst (v := 0) hx hb dX12_liveOnes_0 (by decide) ?_
  obtain ⟨v2_1, en, hf⟩ := ok_lt hf
  refine z_nm en ?_
  clear en
  refine lv_istore_n (lv' := [(2, .int v2_1), (0, .ref (E.2.2.1 259)), (1, .int x1)]) hx hb dX12_liveOnes_1 rfl hl (by decide) rfl (fun ls hl => ?_)
  refine lv_iconst (v := 0) hx hb dX12_liveOnes_2 (by decide) ?_
  obtain ⟨v3_2, en, hf⟩ := ok_lt hf
  refine z_nm en ?_
  clear en
  refine lv_istore_n (lv' := [(3, .int v3_2), (2, .int v2_1), (0, .ref (E.2.2.1 259)), (1, .int x1)]) hx hb dX12_liveOnes_3 rfl hl (by decide) rfl (fun ls hl => ?_)
  obtain ⟨r4, hL4, hf⟩ := ok_bind hf
  have X4_0 : ∀ (v2_6 : Int32) (s_7 : St), (v2_6, s_7) = r4 → ∀ (H : Heap) (locs : List Loc) (ls : Array Slot), lv_has ls 4 [(2, .int v2_6)] → World E sh2 s_7 H → va_S E.2.2.2 s.heap H locs → W p l e (rmd 2) s m args below meth c H locs 0 0 (MQ below (QW E sh2 (some (.int rz)) sz) args s 0 0 E.2.2.2) (F0 m 39 ls []) := by
    intro v2_6 s_7 er H locs ls hl hw hS
    subst er
    replace hf := ok_un2 hf
    refine lv_iload_n hx hb dX12_liveOnes_39 rfl (lv_at hl 0 rfl) ?_
    exact z_iretE hC hlocks hw hS hf hr rfl dX12_liveOnes_40
  have L4 : ∀ (n : Nat) (v2_3 : Int32) (v3_4 : Int32) (s_5 : St), loopF (f_X12_liveOnes_L4 x1) n (v2_3, v3_4, s_5) = some r4 → ∀ (H : Heap) (locs : List Loc) (ls : Array Slot), lv_has ls 4 [(0, .ref (E.2.2.1 259)), (1, .int x1), (2, .int v2_3), (3, .int v3_4)] → World E sh2 s_5 H → va_S E.2.2.2 s.heap H locs → W p l e (rmd 2) s m args below meth c H locs 0 0 (MQ below (QW E sh2 (some (.int rz)) sz) args s 0 0 E.2.2.2) (F0 m 4 ls []) := by
    intro n
    induction n with
    | zero =>
      intro v2_3 v3_4 s_5 hf
      exact nz hf
    | succ n ih4 =>
      intro v2_3 v3_4 s_5 hf H locs ls hl hw hS
      obtain ⟨xl4, hf, hi4, he4⟩ := ok_loop hf
      unfold f_X12_liveOnes_L4 at hf
      replace hf := ok_un3 hf
      refine lv_iload_n hx hb dX12_liveOnes_4 rfl (lv_at hl 3 rfl) ?_
      refine lv_aload_n hx hb dX12_liveOnes_5 rfl (lv_at hl 0 rfl) ?_
      refine gModel_told hC hw wd597 dX12_liveOnes_6 ?_
      refine lv_iconst (v := 0) hx hb dX12_liveOnes_9 (by decide) ?_
      obtain ⟨hin, hf⟩ := ok_chk hf
      refine z_iald hC hw rfl hin dX12_liveOnes_10 ?_
      have hif := ok_if hf
      refine lv_icmp_ge (tgt := 39) hx hb dX12_liveOnes_11 (by decide) (fun hcd => ?_) (fun hcd => ?_)
      · have hf := hif.1 hcd
        clear hif
        cases hf
        exact X4_0 _ _ (he4 _ rfl) _ _ ls (lv_sub hl [2] rfl) hw hS
      · have hf := hif.2 hcd
        clear hif
        refine lv_iload_n hx hb dX12_liveOnes_14 rfl (lv_at hl 2 rfl) ?_
        refine lv_aload_n hx hb dX12_liveOnes_15 rfl (lv_at hl 0 rfl) ?_
        refine lv_iload_n hx hb dX12_liveOnes_16 rfl (lv_at hl 1 rfl) ?_
        refine lv_iload_n hx hb dX12_liveOnes_17 rfl (lv_at hl 3 rfl) ?_
        obtain ⟨r_9, s_8, hc, hf⟩ := ok_bd hf
        refine z_cV hC hl.1 hw hS (As := [.int x1, .int v3_4]) (rest := [.int v2_3]) (m_X12_isLive l E  hc) rfl rfl gc241 gc242 ⟨Nat.le_of_ble_eq_true rfl, Nat.le_of_ble_eq_true rfl⟩ ⟨Nat.le_of_ble_eq_true rfl, Nat.le_of_ble_eq_true rfl⟩ rfl rfl (Nat.le_of_ble_eq_true rfl) dX12_liveOnes_18 (fun H locs hw hS => ?_)
        clear hc
        obtain ⟨j31, ej31, hf⟩ := ok_lt hf
        have J31 : ∀ (k_10 : Int32) (s_11 : St), j31 k_10 s_11 = some xl4 → ∀ (H : Heap) (locs : List Loc) (ls : Array Slot), lv_has ls 4 [(0, .ref (E.2.2.1 259)), (1, .int x1), (3, .int v3_4)] → World E sh2 s_11 H → va_S E.2.2.2 s.heap H locs → W p l e (rmd 2) s m args below meth c H locs 0 0 (MQ below (QW E sh2 (some (.int rz)) sz) args s 0 0 E.2.2.2) (F0 m 31 ls [.int k_10, .int v2_3]) := by
          intro k_10 s_11 hf H locs ls hl hw hS
          subst ej31
          refine lv_ior hx hb dX12_liveOnes_31 ?_
          obtain ⟨v2_12, en, hf⟩ := ok_lt hf
          refine z_nm en ?_
          clear en
          refine lv_istore_n (lv' := [(2, .int v2_12), (0, .ref (E.2.2.1 259)), (1, .int x1), (3, .int v3_4)]) hx hb dX12_liveOnes_32 rfl hl (by decide) rfl (fun ls hl => ?_)
          obtain ⟨v3_13, en, hf⟩ := ok_lt hf
          refine lv_iinc (v := v3_13) (lv' := [(3, .int v3_13), (2, .int v2_12), (0, .ref (E.2.2.1 259)), (1, .int x1)]) hx hb dX12_liveOnes_33 hl (k := 3) rfl (by rw [en]; rfl) (by decide) rfl (fun ls hl => ?_)
          clear en
          refine lv_goto (tgt := 4) hx hb dX12_liveOnes_36 (by decide) ?_
          cases hf
          exact ih4 _ _ _ (hi4 _ rfl) _ _ ls (lv_sub hl [2, 3, 1, 0] rfl) hw hS
        clear ej31
        have hif := ok_if hf
        refine lv_if_eq (tgt := 30) hx hb dX12_liveOnes_21 (by decide) (fun hcd => ?_) (fun hcd => ?_)
        · have hf := hif.1 hcd
          clear hif
          refine lv_iconst (v := 0) hx hb dX12_liveOnes_30 (by decide) ?_
          exact J31 _ _ hf _ _ ls (lv_sub hl [0, 1, 3] rfl) hw hS
        · have hf := hif.2 hcd
          clear hif
          refine lv_iconst (v := 1) hx hb dX12_liveOnes_24 (by decide) ?_
          refine lv_iload_n hx hb dX12_liveOnes_25 rfl (lv_at hl 3 rfl) ?_
          refine lv_ishl hx hb dX12_liveOnes_26 ?_
          refine lv_goto (tgt := 31) hx hb dX12_liveOnes_27 (by decide) ?_
          exact J31 _ _ hf _ _ ls (lv_sub hl [0, 1, 3] rfl) hw hS
  exact L4 5000 _ _ _ hL4 _ _ ls (lv_sub hl [2, 3, 1, 0] rfl) hw hS
