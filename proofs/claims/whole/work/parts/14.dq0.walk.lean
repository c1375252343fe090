set_option maxHeartbeats 4000000 in
set_option maxRecDepth 100000 in
theorem m_X11_noRow (l : Launch) (E : Ev) {x0 : Int32}  {s0 sz : St} {rz : Int32} (hf : f_X11_noRow x0 s0 = some (rz, sz)) : MM l E sh2 yX11_noRow cX11_noRow 1 (some .boolean) (rmd 1) [.int x0] s0 (some (.int rz)) sz := by
  unfold f_X11_noRow at hf
  refine z_enter (by decide +kernel) (Nat.le_of_ble_eq_true rfl) ?_
  intro p e s m args below meth c ls hC hr hlocks hw hS hl
  have hC : Cx p s m args c cX11_noRow 1 "FuseBox" E := hC
  obtain ⟨hx, hb, hml, hown, hts, hTB⟩ := id hC
  have hl : lv_has ls 1 [(0, .int x0)] := hl
  refine lv_iload_n hx hb dX11_noRow_0 rfl (lv_at hl 0 rfl) ?_
  obtain ⟨j15, ej15, hf⟩ := ok_lt hf
  have J15 : ∀ (k_1 : Int32) (s_2 : St), j15 k_1 s_2 = some (rz, sz) → ∀ (H : Heap) (locs : List Loc) (ls : Array Slot), lv_has ls 1 [] → World E sh2 s_2 H → va_S E.2.2.2 s.heap H locs → W p l e (rmd 1) s m args below meth c H locs 0 0 (MQ below (QW E sh2 (some (.int rz)) sz) args s 0 0 E.2.2.2) (F0 m 15 ls [.int k_1]) := by
    intro k_1 s_2 hf H locs ls hl hw hS
    subst ej15
    obtain ⟨hbo, hf⟩ := ok_chk hf
    exact z_iretE hC hlocks hw hS hf hr (narB hbo) dX11_noRow_15
  clear ej15
  obtain ⟨j10, ej10, hf⟩ := ok_lt hf
  have J10 : ∀ (s_3 : St), j10 s_3 = some (rz, sz) → ∀ (H : Heap) (locs : List Loc) (ls : Array Slot), lv_has ls 1 [] → World E sh2 s_3 H → va_S E.2.2.2 s.heap H locs → W p l e (rmd 1) s m args below meth c H locs 0 0 (MQ below (QW E sh2 (some (.int rz)) sz) args s 0 0 E.2.2.2) (F0 m 10 ls []) := by
    intro s_3 hf H locs ls hl hw hS
    subst ej10
    refine lv_iconst (v := 1) hx hb dX11_noRow_10 (by decide) ?_
    refine lv_goto (tgt := 15) hx hb dX11_noRow_11 (by decide) ?_
    exact J15 _ _ hf _ _ ls hl hw hS
  clear ej10
  have hif := ok_if hf
  refine lv_if_lt (tgt := 10) hx hb dX11_noRow_1 (by decide) (fun hcd => ?_) (fun hcd => ?_)
  · have hf := hif.1 hcd
    clear hif
    exact J10 _ hf _ _ ls (lv_sub hl [] rfl) hw hS
  · have hf := hif.2 hcd
    clear hif
    refine lv_iload_n hx hb dX11_noRow_4 rfl (lv_at hl 0 rfl) ?_
    refine lv_bipush (v := 8) hx hb dX11_noRow_5 (by decide) ?_
    have hif := ok_if hf
    refine lv_icmp_lt (tgt := 14) hx hb dX11_noRow_7 (by decide) (fun hcd => ?_) (fun hcd => ?_)
    · have hf := hif.1 hcd
      clear hif
      refine lv_iconst (v := 0) hx hb dX11_noRow_14 (by decide) ?_
      exact J15 _ _ hf _ _ ls (lv_sub hl [] rfl) hw hS
    · have hf := hif.2 hcd
      clear hif
      exact J10 _ hf _ _ ls (lv_sub hl [] rfl) hw hS
set_option maxHeartbeats 4000000 in
set_option maxRecDepth 100000 in
theorem m_X11_found (l : Launch) (E : Ev) {x1 : Int32}  {s0 sz : St} {rz : Int32} (hf : f_X11_found x1 s0 = some (rz, sz)) : MM l E sh2 yX11_found cX11_found 2 (some .int) (rmd 1) [.ref (E.2.2.1 0), .int x1] s0 (some (.int rz)) sz := by
  unfold f_X11_found at hf
  refine z_enter (by decide +kernel) (Nat.le_of_ble_eq_true rfl) ?_
  intro p e s m args below meth c ls hC hr hlocks hw hS hl
  have hC : Cx p s m args c cX11_found 2 "FuseBox" E := hC
  obtain ⟨hx, hb, hml, hown, hts, hTB⟩ := id hC
  have hl : lv_has ls 2 [(0, .ref (E.2.2.1 0)), (1, .int x1)] := hl
  refine lv_aload_n hx hb dX11_found_0 rfl (lv_at hl 0 rfl) ?_
  refine lv_iload_n hx hb dX11_found_1 rfl (lv_at hl 1 rfl) ?_
  obtain ⟨s_1, en, hf⟩ := ok_lt hf
  refine pFuseBox_latestFinding hC hw hS wd299 en dX11_found_2 (fun H locs hw hS => ?_)
  clear en
  refine lv_ldc (v := -1000010) hx hb hown (hts _ wd300) dX11_found_5 ?_
  refine lv_iload_n hx hb dX11_found_7 rfl (lv_at hl 1 rfl) ?_
  refine lv_isub hx hb dX11_found_8 ?_
  exact z_iretE hC hlocks hw hS hf hr rfl dX11_found_9
set_option maxHeartbeats 4000000 in
set_option maxRecDepth 100000 in
theorem m_X11_fine (l : Launch) (E : Ev) {x1 : Int32}  {s0 sz : St} {rz : Int32} (hf : f_X11_fine x1 s0 = some (rz, sz)) : MM l E sh2 yX11_fine cX11_fine 2 (some .int) (rmd 1) [.ref (E.2.2.1 0), .int x1] s0 (some (.int rz)) sz := by
  unfold f_X11_fine at hf
  refine z_enter (by decide +kernel) (Nat.le_of_ble_eq_true rfl) ?_
  intro p e s m args below meth c ls hC hr hlocks hw hS hl
  have hC : Cx p s m args c cX11_fine 2 "FuseBox" E := hC
  obtain ⟨hx, hb, hml, hown, hts, hTB⟩ := id hC
  have hl : lv_has ls 2 [(0, .ref (E.2.2.1 0)), (1, .int x1)] := hl
  refine lv_aload_n hx hb dX11_fine_0 rfl (lv_at hl 0 rfl) ?_
  refine lv_iconst (v := 0) hx hb dX11_fine_1 (by decide) ?_
  obtain ⟨s_1, en, hf⟩ := ok_lt hf
  refine pFuseBox_latestFinding hC hw hS wd299 en dX11_fine_2 (fun H locs hw hS => ?_)
  clear en
  refine lv_iload_n hx hb dX11_fine_5 rfl (lv_at hl 1 rfl) ?_
  exact z_iretE hC hlocks hw hS hf hr rfl dX11_fine_6
set_option maxHeartbeats 4000000 in
set_option maxRecDepth 100000 in
theorem m_X11_row (l : Launch) (E : Ev) {x1 : Int32} {x2 : Int32} {x3 : Int32}  {s0 sz : St} {rz : Int32} (hf : f_X11_row x1 x2 x3 s0 = some (rz, sz)) : MM l E sh2 yX11_row cX11_row 4 (some .int) (rmd 2) [.ref (E.2.2.1 0), .int x1, .int x2, .int x3] s0 (some (.int rz)) sz := by
  unfold f_X11_row at hf
  refine z_enter (by decide +kernel) (Nat.le_of_ble_eq_true rfl) ?_
  intro p e s m args below meth c ls hC hr hlocks hw hS hl
  have hC : Cx p s m args c cX11_row 4 "FuseBox" E := hC
  obtain ⟨hx, hb, hml, hown, hts, hTB⟩ := id hC
  have hl : lv_has ls 4 [(0, .ref (E.2.2.1 0)), (1, .int x1), (2, .int x2), (3, .int x3)] := hl
  refine lv_iload_n hx hb dX11_row_0 rfl (lv_at hl 1 rfl) ?_
  obtain ⟨r_2, s_1, hc, hf⟩ := ok_bd hf
  refine z_cS hC hl.1 hw hS (As := [.int x1]) (rest := []) (m_X11_noRow l E  hc) gc119 gc120 ⟨Nat.le_of_ble_eq_true rfl, Nat.le_of_ble_eq_true rfl⟩ ⟨Nat.le_of_ble_eq_true rfl, Nat.le_of_ble_eq_true rfl⟩ rfl rfl (Nat.le_of_ble_eq_true rfl) dX11_row_1 (fun H locs hw hS => ?_)
  clear hc
  obtain ⟨j22, ej22, hf⟩ := ok_lt hf
  have J22 : ∀ (s_3 : St), j22 s_3 = some (rz, sz) → ∀ (H : Heap) (locs : List Loc) (ls : Array Slot), lv_has ls 4 [] → World E sh2 s_3 H → va_S E.2.2.2 s.heap H locs → W p l e (rmd 2) s m args below meth c H locs 0 0 (MQ below (QW E sh2 (some (.int rz)) sz) args s 0 0 E.2.2.2) (F0 m 22 ls []) := by
    intro s_3 hf H locs ls hl hw hS
    subst ej22
    refine lv_ldc (v := -1000001) hx hb hown (hts _ wd305) dX11_row_22 ?_
    exact z_iretE hC hlocks hw hS hf hr rfl dX11_row_24
  clear ej22
  have hif := ok_if hf
  refine lv_if_ne (tgt := 22) hx hb dX11_row_4 (by decide) (fun hcd => ?_) (fun hcd => ?_)
  · have hf := hif.1 hcd
    clear hif
    exact J22 _ hf _ _ ls (lv_sub hl [] rfl) hw hS
  · have hf := hif.2 (fun q => q hcd)
    clear hif
    refine lv_iload_n hx hb dX11_row_7 rfl (lv_at hl 2 rfl) ?_
    have hif := ok_if hf
    refine lv_if_lt (tgt := 22) hx hb dX11_row_8 (by decide) (fun hcd => ?_) (fun hcd => ?_)
    · have hf := hif.1 hcd
      clear hif
      exact J22 _ hf _ _ ls (lv_sub hl [] rfl) hw hS
    · have hf := hif.2 hcd
      clear hif
      refine lv_iload_n hx hb dX11_row_11 rfl (lv_at hl 2 rfl) ?_
      refine lv_iconst (v := 2) hx hb dX11_row_12 (by decide) ?_
      have hif := ok_if hf
      refine lv_icmp_gt (tgt := 22) hx hb dX11_row_13 (by decide) (fun hcd => ?_) (fun hcd => ?_)
      · have hf := hif.1 hcd
        clear hif
        exact J22 _ hf _ _ ls (lv_sub hl [] rfl) hw hS
      · have hf := hif.2 hcd
        clear hif
        refine lv_iload_n hx hb dX11_row_16 rfl (lv_at hl 3 rfl) ?_
        refine lv_bipush (v := 40) hx hb dX11_row_17 (by decide) ?_
        have hif := ok_if hf
        refine lv_icmp_le (tgt := 25) hx hb dX11_row_19 (by decide) (fun hcd => ?_) (fun hcd => ?_)
        · have hf := hif.1 hcd
          clear hif
          refine lv_iload_n hx hb dX11_row_25 rfl (lv_at hl 3 rfl) ?_
          have hif := ok_if hf
          refine lv_if_ge (tgt := 35) hx hb dX11_row_26 (by decide) (fun hcd => ?_) (fun hcd => ?_)
          · have hf := hif.1 hcd
            clear hif
            refine lv_aload_n hx hb dX11_row_35 rfl (lv_at hl 0 rfl) ?_
            refine gFuseBox_rows hC hw wd306 dX11_row_36 ?_
            refine lv_iload_n hx hb dX11_row_39 rfl (lv_at hl 1 rfl) ?_
            obtain ⟨hin, hf⟩ := ok_chk hf
            refine z_arow hC hw hin dX11_row_40 ?_
            obtain ⟨a_4, en, hf⟩ := ok_lt hf
            have ta_4 : isR a_4 := by rw [en]; exact (rowA_ok hin).2
            refine z_nma en ?_
            clear en
            refine lv_iload_n hx hb dX11_row_41 rfl (lv_at hl 2 rfl) ?_
            refine lv_iload_n hx hb dX11_row_42 rfl (lv_at hl 3 rfl) ?_
            obtain ⟨s_5, hc, hf⟩ := ok_bind hf
            refine z_cV hC hl.1 hw hS (As := [.int x2, .int x3]) (rest := []) (m_X7_begin l E ta_4 hc) (sR ta_4).1 rfl gc121 gc122 ⟨Nat.le_of_ble_eq_true rfl, Nat.le_of_ble_eq_true rfl⟩ ⟨Nat.le_of_ble_eq_true rfl, Nat.le_of_ble_eq_true rfl⟩ rfl rfl (Nat.le_of_ble_eq_true rfl) dX11_row_43 (fun H locs hw hS => ?_)
            clear hc
            refine lv_aload_n hx hb dX11_row_46 rfl (lv_at hl 0 rfl) ?_
            refine lv_iload_n hx hb dX11_row_47 rfl (lv_at hl 3 rfl) ?_
            obtain ⟨r_7, s_6, hc, hf⟩ := ok_bd hf
            refine z_cV hC hl.1 hw hS (As := [.int x3]) (rest := []) (m_X11_fine l E  hc) rfl rfl gc123 gc124 ⟨Nat.le_of_ble_eq_true rfl, Nat.le_of_ble_eq_true rfl⟩ ⟨Nat.le_of_ble_eq_true rfl, Nat.le_of_ble_eq_true rfl⟩ rfl rfl (Nat.le_of_ble_eq_true rfl) dX11_row_48 (fun H locs hw hS => ?_)
            clear hc
            exact z_iretE hC hlocks hw hS hf hr rfl dX11_row_51
          · have hf := hif.2 hcd
            clear hif
            refine lv_aload_n hx hb dX11_row_29 rfl (lv_at hl 0 rfl) ?_
            refine lv_iconst (v := 4) hx hb dX11_row_30 (by decide) ?_
            obtain ⟨r_9, s_8, hc, hf⟩ := ok_bd hf
            refine z_cV hC hl.1 hw hS (As := [.int (4 : Int32)]) (rest := []) (m_X11_found l E  hc) rfl rfl gc125 gc126 ⟨Nat.le_of_ble_eq_true rfl, Nat.le_of_ble_eq_true rfl⟩ ⟨Nat.le_of_ble_eq_true rfl, Nat.le_of_ble_eq_true rfl⟩ rfl rfl (Nat.le_of_ble_eq_true rfl) dX11_row_31 (fun H locs hw hS => ?_)
            clear hc
            exact z_iretE hC hlocks hw hS hf hr rfl dX11_row_34
        · have hf := hif.2 hcd
          clear hif
          exact J22 _ hf _ _ ls (lv_sub hl [] rfl) hw hS
set_option maxHeartbeats 4000000 in
set_option maxRecDepth 100000 in
theorem m_X11_set (l : Launch) (E : Ev) {x1 : Int32} {x2 : Int32} {x3 : Int32}  {s0 sz : St} {rz : Int32} (hf : f_X11_set x1 x2 x3 s0 = some (rz, sz)) : MM l E sh2 yX11_set cX11_set 5 (some .int) (rmd 2) [.ref (E.2.2.1 0), .int x1, .int x2, .int x3] s0 (some (.int rz)) sz := by
  unfold f_X11_set at hf
  refine z_enter (by decide +kernel) (Nat.le_of_ble_eq_true rfl) ?_
  intro p e s m args below meth c ls hC hr hlocks hw hS hl
  have hC : Cx p s m args c cX11_set 5 "FuseBox" E := hC
  obtain ⟨hx, hb, hml, hown, hts, hTB⟩ := id hC
  have hl : lv_has ls 5 [(0, .ref (E.2.2.1 0)), (1, .int x1), (2, .int x2), (3, .int x3)] := hl
  refine lv_iload_n hx hb dX11_set_0 rfl (lv_at hl 1 rfl) ?_
  obtain ⟨r_2, s_1, hc, hf⟩ := ok_bd hf
  refine z_cS hC hl.1 hw hS (As := [.int x1]) (rest := []) (m_X11_noRow l E  hc) gc119 gc120 ⟨Nat.le_of_ble_eq_true rfl, Nat.le_of_ble_eq_true rfl⟩ ⟨Nat.le_of_ble_eq_true rfl, Nat.le_of_ble_eq_true rfl⟩ rfl rfl (Nat.le_of_ble_eq_true rfl) dX11_set_1 (fun H locs hw hS => ?_)
  clear hc
  have hif := ok_if hf
  refine lv_if_eq (tgt := 10) hx hb dX11_set_4 (by decide) (fun hcd => ?_) (fun hcd => ?_)
  · have hf := hif.1 hcd
    clear hif
    refine lv_aload_n hx hb dX11_set_10 rfl (lv_at hl 0 rfl) ?_
    refine gFuseBox_rows hC hw wd306 dX11_set_11 ?_
    refine lv_iload_n hx hb dX11_set_14 rfl (lv_at hl 1 rfl) ?_
    obtain ⟨hin, hf⟩ := ok_chk hf
    refine z_arow hC hw hin dX11_set_15 ?_
    obtain ⟨a_3, en, hf⟩ := ok_lt hf
    have ta_3 : isR a_3 := by rw [en]; exact (rowA_ok hin).2
    refine z_nma en ?_
    clear en
    refine lv_astore (lv' := [(4, .ref (E.2.2.1 a_3)), (0, .ref (E.2.2.1 0)), (1, .int x1), (2, .int x2), (3, .int x3)]) hx hb dX11_set_16 hl (by decide) rfl (fun ls hl => ?_)
    refine lv_aload hx hb dX11_set_18 (lv_at hl 0 rfl) ?_
    obtain ⟨r_5, s_4, hc, hf⟩ := ok_bd hf
    refine z_cV hC hl.1 hw hS (As := []) (rest := []) (m_X7_isMissing l E ta_3 hc) (sR ta_3).1 rfl gc127 gc128 ⟨Nat.le_of_ble_eq_true rfl, Nat.le_of_ble_eq_true rfl⟩ ⟨Nat.le_of_ble_eq_true rfl, Nat.le_of_ble_eq_true rfl⟩ rfl rfl (Nat.le_of_ble_eq_true rfl) dX11_set_20 (fun H locs hw hS => ?_)
    clear hc
    have hif := ok_if hf
    refine lv_if_eq (tgt := 32) hx hb dX11_set_23 (by decide) (fun hcd => ?_) (fun hcd => ?_)
    · have hf := hif.1 hcd
      clear hif
      refine lv_aload hx hb dX11_set_32 (lv_at hl 0 rfl) ?_
      refine lv_iload_n hx hb dX11_set_34 rfl (lv_at hl 3 rfl) ?_
      refine lv_iconst (v := 1) hx hb dX11_set_35 (by decide) ?_
      obtain ⟨r_7, s_6, hc, hf⟩ := ok_bd hf
      refine z_cV hC hl.1 hw hS (As := [.int x2, .int (1 : Int32)]) (rest := []) (m_X7_has l E ta_3 hc) (sR ta_3).1 rfl gc129 gc130 ⟨Nat.le_of_ble_eq_true rfl, Nat.le_of_ble_eq_true rfl⟩ ⟨Nat.le_of_ble_eq_true rfl, Nat.le_of_ble_eq_true rfl⟩ rfl rfl (Nat.le_of_ble_eq_true rfl) dX11_set_36 (fun H locs hw hS => ?_)
      clear hc
      have hif := ok_if hf
      refine lv_if_ne (tgt := 48) hx hb dX11_set_39 (by decide) (fun hcd => ?_) (fun hcd => ?_)
      · have hf := hif.1 hcd
        clear hif
        refine lv_aload hx hb dX11_set_48 (lv_at hl 0 rfl) ?_
        refine gRow_items hC hw ta_3 wd328 dX11_set_50 ?_
        refine lv_iload_n hx hb dX11_set_53 rfl (lv_at hl 3 rfl) ?_
        refine lv_aload hx hb dX11_set_54 (lv_at hl 0 rfl) ?_
        refine lv_iload_n hx hb dX11_set_56 rfl (lv_at hl 4 rfl) ?_
        obtain ⟨r_9, s_8, hc, hf⟩ := ok_bd hf
        refine z_cV hC hl.1 hw hS (As := [.int x3]) (rest := [.int x2, .ref (E.2.2.1 (a_3 + 1))]) (m_X7_cut l E ta_3 hc) (sR ta_3).1 rfl gc131 gc132 ⟨Nat.le_of_ble_eq_true rfl, Nat.le_of_ble_eq_true rfl⟩ ⟨Nat.le_of_ble_eq_true rfl, Nat.le_of_ble_eq_true rfl⟩ rfl rfl (Nat.le_of_ble_eq_true rfl) dX11_set_57 (fun H locs hw hS => ?_)
        clear hc
        obtain ⟨hin, hf⟩ := ok_chk hf
        obtain ⟨s_10, en, hf⟩ := ok_lt hf
        refine z_iast hC hw hS (sR ta_3).2 hin en dX11_set_60 (fun H locs hw hS => ?_)
        clear en
        refine lv_aload_n hx hb dX11_set_61 rfl (lv_at hl 1 rfl) ?_
        refine lv_aload hx hb dX11_set_62 (lv_at hl 0 rfl) ?_
        refine gRow_items hC hw ta_3 wd328 dX11_set_64 ?_
        refine lv_iload_n hx hb dX11_set_67 rfl (lv_at hl 3 rfl) ?_
        obtain ⟨hin, hf⟩ := ok_chk hf
        refine z_iald hC hw (sR ta_3).2 hin dX11_set_68 ?_
        obtain ⟨r_12, s_11, hc, hf⟩ := ok_bd hf
        refine z_cV hC hl.1 hw hS (As := [.int (s_10 (a_3 + 1) (x2).toNatClampNeg)]) (rest := []) (m_X11_fine l E  hc) rfl rfl gc123 gc124 ⟨Nat.le_of_ble_eq_true rfl, Nat.le_of_ble_eq_true rfl⟩ ⟨Nat.le_of_ble_eq_true rfl, Nat.le_of_ble_eq_true rfl⟩ rfl rfl (Nat.le_of_ble_eq_true rfl) dX11_set_69 (fun H locs hw hS => ?_)
        clear hc
        exact z_iretE hC hlocks hw hS hf hr rfl dX11_set_72
      · have hf := hif.2 (fun q => q hcd)
        clear hif
        refine lv_aload_n hx hb dX11_set_42 rfl (lv_at hl 1 rfl) ?_
        refine lv_iconst (v := 2) hx hb dX11_set_43 (by decide) ?_
        obtain ⟨r_14, s_13, hc, hf⟩ := ok_bd hf
        refine z_cV hC hl.1 hw hS (As := [.int (2 : Int32)]) (rest := []) (m_X11_found l E  hc) rfl rfl gc125 gc126 ⟨Nat.le_of_ble_eq_true rfl, Nat.le_of_ble_eq_true rfl⟩ ⟨Nat.le_of_ble_eq_true rfl, Nat.le_of_ble_eq_true rfl⟩ rfl rfl (Nat.le_of_ble_eq_true rfl) dX11_set_44 (fun H locs hw hS => ?_)
        clear hc
        exact z_iretE hC hlocks hw hS hf hr rfl dX11_set_47
    · have hf := hif.2 hcd
      clear hif
      refine lv_aload_n hx hb dX11_set_26 rfl (lv_at hl 1 rfl) ?_
      refine lv_iconst (v := 1) hx hb dX11_set_27 (by decide) ?_
      obtain ⟨r_16, s_15, hc, hf⟩ := ok_bd hf
      refine z_cV hC hl.1 hw hS (As := [.int (1 : Int32)]) (rest := []) (m_X11_found l E  hc) rfl rfl gc125 gc126 ⟨Nat.le_of_ble_eq_true rfl, Nat.le_of_ble_eq_true rfl⟩ ⟨Nat.le_of_ble_eq_true rfl, Nat.le_of_ble_eq_true rfl⟩ rfl rfl (Nat.le_of_ble_eq_true rfl) dX11_set_28 (fun H locs hw hS => ?_)
      clear hc
      exact z_iretE hC hlocks hw hS hf hr rfl dX11_set_31
  · have hf := hif.2 hcd
    clear hif
    refine lv_ldc (v := -1000001) hx hb hown (hts _ wd305) dX11_set_7 ?_
    exact z_iretE hC hlocks hw hS hf hr rfl dX11_set_9
set_option maxHeartbeats 4000000 in
set_option maxRecDepth 100000 in
theorem m_X11_copy (l : Launch) (E : Ev) {x1 : Int32} {x2 : Int32} {x3 : Int32} {x4 : Int32} {x5 : Int32}  {s0 sz : St} {rz : Int32} (hf : f_X11_copy x1 x2 x3 x4 x5 s0 = some (rz, sz)) : MM l E sh2 yX11_copy cX11_copy 8 (some .int) (rmd 2) [.ref (E.2.2.1 0), .int x1, .int x2, .int x3, .int x4, .int x5] s0 (some (.int rz)) sz := by
  unfold f_X11_copy at hf
  refine z_enter (by decide +kernel) (Nat.le_of_ble_eq_true rfl) ?_
  intro p e s m args below meth c ls hC hr hlocks hw hS hl
  have hC : Cx p s m args c cX11_copy 8 "FuseBox" E := hC
  obtain ⟨hx, hb, hml, hown, hts, hTB⟩ := id hC
  have hl : lv_has ls 8 [(0, .ref (E.2.2.1 0)), (1, .int x1), (2, .int x2), (3, .int x3), (4, .int x4), (5, .int x5)] := hl
  refine lv_iload_n hx hb dX11_copy_0 rfl (lv_at hl 1 rfl) ?_
  obtain ⟨r_2, s_1, hc, hf⟩ := ok_bd hf
  refine z_cS hC hl.1 hw hS (As := [.int x1]) (rest := []) (m_X11_noRow l E  hc) gc119 gc120 ⟨Nat.le_of_ble_eq_true rfl, Nat.le_of_ble_eq_true rfl⟩ ⟨Nat.le_of_ble_eq_true rfl, Nat.le_of_ble_eq_true rfl⟩ rfl rfl (Nat.le_of_ble_eq_true rfl) dX11_copy_1 (fun H locs hw hS => ?_)
  clear hc
  obtain ⟨j14, ej14, hf⟩ := ok_lt hf
  have J14 : ∀ (s_3 : St), j14 s_3 = some (rz, sz) → ∀ (H : Heap) (locs : List Loc) (ls : Array Slot), lv_has ls 8 [] → World E sh2 s_3 H → va_S E.2.2.2 s.heap H locs → W p l e (rmd 2) s m args below meth c H locs 0 0 (MQ below (QW E sh2 (some (.int rz)) sz) args s 0 0 E.2.2.2) (F0 m 14 ls []) := by
    intro s_3 hf H locs ls hl hw hS
    subst ej14
    refine lv_ldc (v := -1000001) hx hb hown (hts _ wd305) dX11_copy_14 ?_
    exact z_iretE hC hlocks hw hS hf hr rfl dX11_copy_16
  clear ej14
  have hif := ok_if hf
  refine lv_if_ne (tgt := 14) hx hb dX11_copy_4 (by decide) (fun hcd => ?_) (fun hcd => ?_)
  · have hf := hif.1 hcd
    clear hif
    exact J14 _ hf _ _ ls (lv_sub hl [] rfl) hw hS
  · have hf := hif.2 (fun q => q hcd)
    clear hif
    refine lv_iload_n hx hb dX11_copy_7 rfl (lv_at hl 3 rfl) ?_
    obtain ⟨r_5, s_4, hc, hf⟩ := ok_bd hf
    refine z_cS hC hl.1 hw hS (As := [.int x3]) (rest := []) (m_X11_noRow l E  hc) gc119 gc120 ⟨Nat.le_of_ble_eq_true rfl, Nat.le_of_ble_eq_true rfl⟩ ⟨Nat.le_of_ble_eq_true rfl, Nat.le_of_ble_eq_true rfl⟩ rfl rfl (Nat.le_of_ble_eq_true rfl) dX11_copy_8 (fun H locs hw hS => ?_)
    clear hc
    have hif := ok_if hf
    refine lv_if_eq (tgt := 17) hx hb dX11_copy_11 (by decide) (fun hcd => ?_) (fun hcd => ?_)
    · have hf := hif.1 hcd
      clear hif
      refine lv_aload_n hx hb dX11_copy_17 rfl (lv_at hl 0 rfl) ?_
      refine gFuseBox_rows hC hw wd306 dX11_copy_18 ?_
      refine lv_iload_n hx hb dX11_copy_21 rfl (lv_at hl 1 rfl) ?_
      obtain ⟨hin, hf⟩ := ok_chk hf
      refine z_arow hC hw hin dX11_copy_22 ?_
      obtain ⟨a_6, en, hf⟩ := ok_lt hf
      have ta_6 : isR a_6 := by rw [en]; exact (rowA_ok hin).2
      refine z_nma en ?_
      clear en
      refine lv_astore (lv' := [(6, .ref (E.2.2.1 a_6)), (0, .ref (E.2.2.1 0)), (1, .int x1), (2, .int x2), (3, .int x3), (4, .int x4), (5, .int x5)]) hx hb dX11_copy_23 hl (by decide) rfl (fun ls hl => ?_)
      refine lv_aload_n hx hb dX11_copy_25 rfl (lv_at hl 1 rfl) ?_
      refine gFuseBox_rows hC hw wd306 dX11_copy_26 ?_
      refine lv_iload_n hx hb dX11_copy_29 rfl (lv_at hl 4 rfl) ?_
      obtain ⟨hin, hf⟩ := ok_chk hf
      refine z_arow hC hw hin dX11_copy_30 ?_
      obtain ⟨a_7, en, hf⟩ := ok_lt hf
      have ta_7 : isR a_7 := by rw [en]; exact (rowA_ok hin).2
      refine z_nma en ?_
      clear en
      refine lv_astore (lv' := [(7, .ref (E.2.2.1 a_7)), (6, .ref (E.2.2.1 a_6)), (0, .ref (E.2.2.1 0)), (1, .int x1), (2, .int x2), (3, .int x3), (4, .int x4), (5, .int x5)]) hx hb dX11_copy_31 hl (by decide) rfl (fun ls hl => ?_)
      refine lv_aload hx hb dX11_copy_33 (lv_at hl 1 rfl) ?_
      obtain ⟨r_9, s_8, hc, hf⟩ := ok_bd hf
      refine z_cV hC hl.1 hw hS (As := []) (rest := []) (m_X7_isMissing l E ta_6 hc) (sR ta_6).1 rfl gc127 gc128 ⟨Nat.le_of_ble_eq_true rfl, Nat.le_of_ble_eq_true rfl⟩ ⟨Nat.le_of_ble_eq_true rfl, Nat.le_of_ble_eq_true rfl⟩ rfl rfl (Nat.le_of_ble_eq_true rfl) dX11_copy_35 (fun H locs hw hS => ?_)
      clear hc
      obtain ⟨j49, ej49, hf⟩ := ok_lt hf
      have J49 : ∀ (s_10 : St), j49 s_10 = some (rz, sz) → ∀ (H : Heap) (locs : List Loc) (ls : Array Slot), lv_has ls 8 [(0, .ref (E.2.2.1 0))] → World E sh2 s_10 H → va_S E.2.2.2 s.heap H locs → W p l e (rmd 2) s m args below meth c H locs 0 0 (MQ below (QW E sh2 (some (.int rz)) sz) args s 0 0 E.2.2.2) (F0 m 49 ls []) := by
        intro s_10 hf H locs ls hl hw hS
        subst ej49
        refine lv_aload_n hx hb dX11_copy_49 rfl (lv_at hl 0 rfl) ?_
        refine lv_iconst (v := 1) hx hb dX11_copy_50 (by decide) ?_
        obtain ⟨r_12, s_11, hc, hf⟩ := ok_bd hf
        refine z_cV hC hl.1 hw hS (As := [.int (1 : Int32)]) (rest := []) (m_X11_found l E  hc) rfl rfl gc125 gc126 ⟨Nat.le_of_ble_eq_true rfl, Nat.le_of_ble_eq_true rfl⟩ ⟨Nat.le_of_ble_eq_true rfl, Nat.le_of_ble_eq_true rfl⟩ rfl rfl (Nat.le_of_ble_eq_true rfl) dX11_copy_51 (fun H locs hw hS => ?_)
        clear hc
        exact z_iretE hC hlocks hw hS hf hr rfl dX11_copy_54
      clear ej49
      have hif := ok_if hf
      refine lv_if_ne (tgt := 49) hx hb dX11_copy_38 (by decide) (fun hcd => ?_) (fun hcd => ?_)
      · have hf := hif.1 hcd
        clear hif
        exact J49 _ hf _ _ ls (lv_sub hl [2] rfl) hw hS
      · have hf := hif.2 (fun q => q hcd)
        clear hif
        refine lv_aload hx hb dX11_copy_41 (lv_at hl 0 rfl) ?_
        obtain ⟨r_14, s_13, hc, hf⟩ := ok_bd hf
        refine z_cV hC hl.1 hw hS (As := []) (rest := []) (m_X7_isMissing l E ta_7 hc) (sR ta_7).1 rfl gc127 gc128 ⟨Nat.le_of_ble_eq_true rfl, Nat.le_of_ble_eq_true rfl⟩ ⟨Nat.le_of_ble_eq_true rfl, Nat.le_of_ble_eq_true rfl⟩ rfl rfl (Nat.le_of_ble_eq_true rfl) dX11_copy_43 (fun H locs hw hS => ?_)
        clear hc
        have hif := ok_if hf
        refine lv_if_eq (tgt := 55) hx hb dX11_copy_46 (by decide) (fun hcd => ?_) (fun hcd => ?_)
        · have hf := hif.1 hcd
          clear hif
          refine lv_aload hx hb dX11_copy_55 (lv_at hl 1 rfl) ?_
          refine gRow_lane hC hw ta_6 wd333 dX11_copy_57 ?_
          refine lv_aload hx hb dX11_copy_60 (lv_at hl 0 rfl) ?_
          refine gRow_lane hC hw ta_7 wd333 dX11_copy_62 ?_
          have hif := ok_if hf
          refine lv_icmp_eq (tgt := 74) hx hb dX11_copy_65 (by decide) (fun hcd => ?_) (fun hcd => ?_)
          · have hf := hif.1 hcd
            clear hif
            refine lv_aload hx hb dX11_copy_74 (lv_at hl 1 rfl) ?_
            refine lv_iload_n hx hb dX11_copy_76 rfl (lv_at hl 4 rfl) ?_
            refine lv_iload hx hb dX11_copy_77 (lv_at hl 7 rfl) ?_
            obtain ⟨r_16, s_15, hc, hf⟩ := ok_bd hf
            refine z_cV hC hl.1 hw hS (As := [.int x2, .int x5]) (rest := []) (m_X7_has l E ta_6 hc) (sR ta_6).1 rfl gc129 gc130 ⟨Nat.le_of_ble_eq_true rfl, Nat.le_of_ble_eq_true rfl⟩ ⟨Nat.le_of_ble_eq_true rfl, Nat.le_of_ble_eq_true rfl⟩ rfl rfl (Nat.le_of_ble_eq_true rfl) dX11_copy_79 (fun H locs hw hS => ?_)
            clear hc
            obtain ⟨j97, ej97, hf⟩ := ok_lt hf
            have J97 : ∀ (s_17 : St), j97 s_17 = some (rz, sz) → ∀ (H : Heap) (locs : List Loc) (ls : Array Slot), lv_has ls 8 [(0, .ref (E.2.2.1 0))] → World E sh2 s_17 H → va_S E.2.2.2 s.heap H locs → W p l e (rmd 2) s m args below meth c H locs 0 0 (MQ below (QW E sh2 (some (.int rz)) sz) args s 0 0 E.2.2.2) (F0 m 97 ls []) := by
              intro s_17 hf H locs ls hl hw hS
              subst ej97
              refine lv_aload_n hx hb dX11_copy_97 rfl (lv_at hl 0 rfl) ?_
              refine lv_iconst (v := 2) hx hb dX11_copy_98 (by decide) ?_
              obtain ⟨r_19, s_18, hc, hf⟩ := ok_bd hf
              refine z_cV hC hl.1 hw hS (As := [.int (2 : Int32)]) (rest := []) (m_X11_found l E  hc) rfl rfl gc125 gc126 ⟨Nat.le_of_ble_eq_true rfl, Nat.le_of_ble_eq_true rfl⟩ ⟨Nat.le_of_ble_eq_true rfl, Nat.le_of_ble_eq_true rfl⟩ rfl rfl (Nat.le_of_ble_eq_true rfl) dX11_copy_99 (fun H locs hw hS => ?_)
              clear hc
              exact z_iretE hC hlocks hw hS hf hr rfl dX11_copy_102
            clear ej97
            have hif := ok_if hf
            refine lv_if_eq (tgt := 97) hx hb dX11_copy_82 (by decide) (fun hcd => ?_) (fun hcd => ?_)
            · have hf := hif.1 hcd
              clear hif
              exact J97 _ hf _ _ ls (lv_sub hl [2] rfl) hw hS
            · have hf := hif.2 hcd
              clear hif
              refine lv_aload hx hb dX11_copy_85 (lv_at hl 0 rfl) ?_
              refine lv_iload hx hb dX11_copy_87 (lv_at hl 6 rfl) ?_
              refine lv_iload hx hb dX11_copy_89 (lv_at hl 7 rfl) ?_
              obtain ⟨r_21, s_20, hc, hf⟩ := ok_bd hf
              refine z_cV hC hl.1 hw hS (As := [.int x4, .int x5]) (rest := []) (m_X7_has l E ta_7 hc) (sR ta_7).1 rfl gc129 gc130 ⟨Nat.le_of_ble_eq_true rfl, Nat.le_of_ble_eq_true rfl⟩ ⟨Nat.le_of_ble_eq_true rfl, Nat.le_of_ble_eq_true rfl⟩ rfl rfl (Nat.le_of_ble_eq_true rfl) dX11_copy_91 (fun H locs hw hS => ?_)
              clear hc
              have hif := ok_if hf
              refine lv_if_ne (tgt := 103) hx hb dX11_copy_94 (by decide) (fun hcd => ?_) (fun hcd => ?_)
              · have hf := hif.1 hcd
                clear hif
                refine lv_aload hx hb dX11_copy_103 (lv_at hl 1 rfl) ?_
                refine gRow_items hC hw ta_6 wd328 dX11_copy_105 ?_
                refine lv_iload_n hx hb dX11_copy_108 rfl (lv_at hl 4 rfl) ?_
                refine lv_aload hx hb dX11_copy_109 (lv_at hl 0 rfl) ?_
                refine gRow_items hC hw ta_7 wd328 dX11_copy_111 ?_
                refine lv_iload hx hb dX11_copy_114 (lv_at hl 6 rfl) ?_
                refine lv_iload hx hb dX11_copy_116 (lv_at hl 7 rfl) ?_
                obtain ⟨⟨hk1, hk2, hk3, hk4, hk5⟩, hf⟩ := ok_chk hf
                obtain ⟨s_22, en, hf⟩ := ok_lt hf
                refine z_copy hC hl.1 hw hS (rest := []) (sR ta_6).2 (sR ta_7).2 wd334 wd55 wd54 wd56 hk1 hk2 hk3 hk4 hk5 (Nat.le_of_ble_eq_true rfl) (Nat.le_of_ble_eq_true rfl) en dX11_copy_118 (fun H locs hw hS => ?_)
                clear en
                refine lv_aload_n hx hb dX11_copy_121 rfl (lv_at hl 2 rfl) ?_
                refine lv_iload hx hb dX11_copy_122 (lv_at hl 7 rfl) ?_
                obtain ⟨r_24, s_23, hc, hf⟩ := ok_bd hf
                refine z_cV hC hl.1 hw hS (As := [.int x5]) (rest := []) (m_X11_fine l E  hc) rfl rfl gc123 gc124 ⟨Nat.le_of_ble_eq_true rfl, Nat.le_of_ble_eq_true rfl⟩ ⟨Nat.le_of_ble_eq_true rfl, Nat.le_of_ble_eq_true rfl⟩ rfl rfl (Nat.le_of_ble_eq_true rfl) dX11_copy_124 (fun H locs hw hS => ?_)
                clear hc
                exact z_iretE hC hlocks hw hS hf hr rfl dX11_copy_127
              · have hf := hif.2 (fun q => q hcd)
                clear hif
                exact J97 _ hf _ _ ls (lv_sub hl [2] rfl) hw hS
          · have hf := hif.2 hcd
            clear hif
            refine lv_aload_n hx hb dX11_copy_68 rfl (lv_at hl 2 rfl) ?_
            refine lv_iconst (v := 5) hx hb dX11_copy_69 (by decide) ?_
            obtain ⟨r_26, s_25, hc, hf⟩ := ok_bd hf
            refine z_cV hC hl.1 hw hS (As := [.int (5 : Int32)]) (rest := []) (m_X11_found l E  hc) rfl rfl gc125 gc126 ⟨Nat.le_of_ble_eq_true rfl, Nat.le_of_ble_eq_true rfl⟩ ⟨Nat.le_of_ble_eq_true rfl, Nat.le_of_ble_eq_true rfl⟩ rfl rfl (Nat.le_of_ble_eq_true rfl) dX11_copy_70 (fun H locs hw hS => ?_)
            clear hc
            exact z_iretE hC hlocks hw hS hf hr rfl dX11_copy_73
        · have hf := hif.2 hcd
          clear hif
          exact J49 _ hf _ _ ls (lv_sub hl [2] rfl) hw hS
    · have hf := hif.2 hcd
      clear hif
      exact J14 _ hf _ _ ls (lv_sub hl [] rfl) hw hS
set_option maxHeartbeats 4000000 in
set_option maxRecDepth 100000 in
theorem m_X11_drop (l : Launch) (E : Ev) {x1 : Int32}  {s0 sz : St} {rz : Int32} (hf : f_X11_drop x1 s0 = some (rz, sz)) : MM l E sh2 yX11_drop cX11_drop 4 (some .int) (rmd 2) [.ref (E.2.2.1 0), .int x1] s0 (some (.int rz)) sz := by
  unfold f_X11_drop at hf
  refine z_enter (by decide +kernel) (Nat.le_of_ble_eq_true rfl) ?_
  intro p e s m args below meth c ls hC hr hlocks hw hS hl
  have hC : Cx p s m args c cX11_drop 4 "FuseBox" E := hC
  obtain ⟨hx, hb, hml, hown, hts, hTB⟩ := id hC
  have hl : lv_has ls 4 [(0, .ref (E.2.2.1 0)), (1, .int x1)] := hl
  refine lv_iload_n hx hb dX11_drop_0 rfl (lv_at hl 1 rfl) ?_
  obtain ⟨r_2, s_1, hc, hf⟩ := ok_bd hf
  refine z_cS hC hl.1 hw hS (As := [.int x1]) (rest := []) (m_X11_noRow l E  hc) gc119 gc120 ⟨Nat.le_of_ble_eq_true rfl, Nat.le_of_ble_eq_true rfl⟩ ⟨Nat.le_of_ble_eq_true rfl, Nat.le_of_ble_eq_true rfl⟩ rfl rfl (Nat.le_of_ble_eq_true rfl) dX11_drop_1 (fun H locs hw hS => ?_)
  clear hc
  have hif := ok_if hf
  refine lv_if_eq (tgt := 10) hx hb dX11_drop_4 (by decide) (fun hcd => ?_) (fun hcd => ?_)
  · have hf := hif.1 hcd
    clear hif
    refine lv_aload_n hx hb dX11_drop_10 rfl (lv_at hl 0 rfl) ?_
    refine gFuseBox_rows hC hw wd306 dX11_drop_11 ?_
    refine lv_iload_n hx hb dX11_drop_14 rfl (lv_at hl 1 rfl) ?_
    obtain ⟨hin, hf⟩ := ok_chk hf
    refine z_arow hC hw hin dX11_drop_15 ?_
    obtain ⟨a_3, en, hf⟩ := ok_lt hf
    have ta_3 : isR a_3 := by rw [en]; exact (rowA_ok hin).2
    refine z_nma en ?_
    clear en
    refine lv_astore_n (lv' := [(2, .ref (E.2.2.1 a_3)), (0, .ref (E.2.2.1 0)), (1, .int x1)]) hx hb dX11_drop_16 rfl hl (by decide) rfl (fun ls hl => ?_)
    refine lv_aload_n hx hb dX11_drop_17 rfl (lv_at hl 0 rfl) ?_
    obtain ⟨r_5, s_4, hc, hf⟩ := ok_bd hf
    refine z_cV hC hl.1 hw hS (As := []) (rest := []) (m_X7_isMissing l E ta_3 hc) (sR ta_3).1 rfl gc127 gc128 ⟨Nat.le_of_ble_eq_true rfl, Nat.le_of_ble_eq_true rfl⟩ ⟨Nat.le_of_ble_eq_true rfl, Nat.le_of_ble_eq_true rfl⟩ rfl rfl (Nat.le_of_ble_eq_true rfl) dX11_drop_18 (fun H locs hw hS => ?_)
    clear hc
    have hif := ok_if hf
    refine lv_if_eq (tgt := 30) hx hb dX11_drop_21 (by decide) (fun hcd => ?_) (fun hcd => ?_)
    · have hf := hif.1 hcd
      clear hif
      refine lv_aload_n hx hb dX11_drop_30 rfl (lv_at hl 0 rfl) ?_
      refine gRow_size hC hw ta_3 wd335 dX11_drop_31 ?_
      obtain ⟨v3_6, en, hf⟩ := ok_lt hf
      refine z_nm en ?_
      clear en
      refine lv_istore_n (lv' := [(3, .int v3_6), (2, .ref (E.2.2.1 a_3)), (0, .ref (E.2.2.1 0)), (1, .int x1)]) hx hb dX11_drop_34 rfl hl (by decide) rfl (fun ls hl => ?_)
      refine lv_aload_n hx hb dX11_drop_35 rfl (lv_at hl 1 rfl) ?_
      obtain ⟨s_7, hc, hf⟩ := ok_bind hf
      refine z_cV hC hl.1 hw hS (As := []) (rest := []) (m_X7_end l E ta_3 hc) (sR ta_3).1 rfl gc133 gc134 ⟨Nat.le_of_ble_eq_true rfl, Nat.le_of_ble_eq_true rfl⟩ ⟨Nat.le_of_ble_eq_true rfl, Nat.le_of_ble_eq_true rfl⟩ rfl rfl (Nat.le_of_ble_eq_true rfl) dX11_drop_36 (fun H locs hw hS => ?_)
      clear hc
      refine lv_aload_n hx hb dX11_drop_39 rfl (lv_at hl 2 rfl) ?_
      refine lv_iload_n hx hb dX11_drop_40 rfl (lv_at hl 0 rfl) ?_
      obtain ⟨r_9, s_8, hc, hf⟩ := ok_bd hf
      refine z_cV hC hl.1 hw hS (As := [.int v3_6]) (rest := []) (m_X11_fine l E  hc) rfl rfl gc123 gc124 ⟨Nat.le_of_ble_eq_true rfl, Nat.le_of_ble_eq_true rfl⟩ ⟨Nat.le_of_ble_eq_true rfl, Nat.le_of_ble_eq_true rfl⟩ rfl rfl (Nat.le_of_ble_eq_true rfl) dX11_drop_41 (fun H locs hw hS => ?_)
      clear hc
      exact z_iretE hC hlocks hw hS hf hr rfl dX11_drop_44
    · have hf := hif.2 hcd
      clear hif
      refine lv_aload_n hx hb dX11_drop_24 rfl (lv_at hl 1 rfl) ?_
      refine lv_iconst (v := 1) hx hb dX11_drop_25 (by decide) ?_
      obtain ⟨r_11, s_10, hc, hf⟩ := ok_bd hf
      refine z_cV hC hl.1 hw hS (As := [.int (1 : Int32)]) (rest := []) (m_X11_found l E  hc) rfl rfl gc125 gc126 ⟨Nat.le_of_ble_eq_true rfl, Nat.le_of_ble_eq_true rfl⟩ ⟨Nat.le_of_ble_eq_true rfl, Nat.le_of_ble_eq_true rfl⟩ rfl rfl (Nat.le_of_ble_eq_true rfl) dX11_drop_26 (fun H locs hw hS => ?_)
      clear hc
      exact z_iretE hC hlocks hw hS hf hr rfl dX11_drop_29
  · have hf := hif.2 hcd
    clear hif
    refine lv_ldc (v := -1000001) hx hb hown (hts _ wd305) dX11_drop_7 ?_
    exact z_iretE hC hlocks hw hS hf hr rfl dX11_drop_9
set_option maxHeartbeats 4000000 in
set_option maxRecDepth 100000 in
theorem m_X11_feed (l : Launch) (E : Ev) {x1 : Int32}  {s0 sz : St} {rz : Int32} (hf : f_X11_feed x1 s0 = some (rz, sz)) : MM l E sh2 yX11_feed cX11_feed 2 (some .int) (rmd 2) [.ref (E.2.2.1 0), .int x1] s0 (some (.int rz)) sz := by
  unfold f_X11_feed at hf
  refine z_enter (by decide +kernel) (Nat.le_of_ble_eq_true rfl) ?_
  intro p e s m args below meth c ls hC hr hlocks hw hS hl
  have hC : Cx p s m args c cX11_feed 2 "FuseBox" E := hC
  obtain ⟨hx, hb, hml, hown, hts, hTB⟩ := id hC
  have hl : lv_has ls 2 [(0, .ref (E.2.2.1 0)), (1, .int x1)] := hl
  refine lv_iload_n hx hb dX11_feed_0 rfl (lv_at hl 1 rfl) ?_
  obtain ⟨j11, ej11, hf⟩ := ok_lt hf
  have J11 : ∀ (s_1 : St), j11 s_1 = some (rz, sz) → ∀ (H : Heap) (locs : List Loc) (ls : Array Slot), lv_has ls 2 [] → World E sh2 s_1 H → va_S E.2.2.2 s.heap H locs → W p l e (rmd 2) s m args below meth c H locs 0 0 (MQ below (QW E sh2 (some (.int rz)) sz) args s 0 0 E.2.2.2) (F0 m 11 ls []) := by
    intro s_1 hf H locs ls hl hw hS
    subst ej11
    refine lv_ldc (v := -1000001) hx hb hown (hts _ wd305) dX11_feed_11 ?_
    exact z_iretE hC hlocks hw hS hf hr rfl dX11_feed_13
  clear ej11
  have hif := ok_if hf
  refine lv_if_lt (tgt := 11) hx hb dX11_feed_1 (by decide) (fun hcd => ?_) (fun hcd => ?_)
  · have hf := hif.1 hcd
    clear hif
    exact J11 _ hf _ _ ls (lv_sub hl [] rfl) hw hS
  · have hf := hif.2 hcd
    clear hif
    refine lv_iload_n hx hb dX11_feed_4 rfl (lv_at hl 1 rfl) ?_
    refine lv_sipush (v := 255) hx hb dX11_feed_5 (by decide) ?_
    have hif := ok_if hf
    refine lv_icmp_le (tgt := 14) hx hb dX11_feed_8 (by decide) (fun hcd => ?_) (fun hcd => ?_)
    · have hf := hif.1 hcd
      clear hif
      refine lv_aload_n hx hb dX11_feed_14 rfl (lv_at hl 0 rfl) ?_
      refine gFuseBox_reader hC hw wd340 dX11_feed_15 ?_
      refine gReader_size hC hw wd341 dX11_feed_18 ?_
      refine lv_bipush (v := 90) hx hb dX11_feed_21 (by decide) ?_
      have hif := ok_if hf
      refine lv_icmp_lt (tgt := 29) hx hb dX11_feed_23 (by decide) (fun hcd => ?_) (fun hcd => ?_)
      · have hf := hif.1 hcd
        clear hif
        refine lv_aload_n hx hb dX11_feed_29 rfl (lv_at hl 0 rfl) ?_
        refine gFuseBox_reader hC hw wd340 dX11_feed_30 ?_
        refine lv_iload_n hx hb dX11_feed_33 rfl (lv_at hl 1 rfl) ?_
        obtain ⟨r_3, s_2, hc, hf⟩ := ok_bd hf
        refine z_cV hC hl.1 hw hS (As := [.int x1]) (rest := []) (m_X6_append l E  hc) rfl rfl gc135 gc136 ⟨Nat.le_of_ble_eq_true rfl, Nat.le_of_ble_eq_true rfl⟩ ⟨Nat.le_of_ble_eq_true rfl, Nat.le_of_ble_eq_true rfl⟩ rfl rfl (Nat.le_of_ble_eq_true rfl) dX11_feed_34 (fun H locs hw hS => ?_)
        clear hc
        exact z_iretE hC hlocks hw hS hf hr rfl dX11_feed_37
      · have hf := hif.2 hcd
        clear hif
        refine lv_ldc (v := -1000003) hx hb hown (hts _ wd346) dX11_feed_26 ?_
        exact z_iretE hC hlocks hw hS hf hr rfl dX11_feed_28
    · have hf := hif.2 hcd
      clear hif
      exact J11 _ hf _ _ ls (lv_sub hl [] rfl) hw hS
set_option maxHeartbeats 4000000 in
set_option maxRecDepth 100000 in
theorem m_X11_forgetActs (l : Launch) (E : Ev)   {s0 sz : St} (hf : f_X11_forgetActs s0 = some sz) : MM l E sh2 yX11_forgetActs cX11_forgetActs 1 none (rmd 1) [.ref (E.2.2.1 0)] s0 none sz := by
  unfold f_X11_forgetActs at hf
  refine z_enter (by decide +kernel) (Nat.le_of_ble_eq_true rfl) ?_
  intro p e s m args below meth c ls hC hr hlocks hw hS hl
  have hC : Cx p s m args c cX11_forgetActs 1 "FuseBox" E := hC
  obtain ⟨hx, hb, hml, hown, hts, hTB⟩ := id hC
  have hl : lv_has ls 1 [(0, .ref (E.2.2.1 0))] := hl
  refine lv_aload_n hx hb dX11_forgetActs_0 rfl (lv_at hl 0 rfl) ?_
  refine lv_iconst (v := 0) hx hb dX11_forgetActs_1 (by decide) ?_
  obtain ⟨s_1, en, hf⟩ := ok_lt hf
  refine pFuseBox_oldestAct hC hw hS wd347 en dX11_forgetActs_2 (fun H locs hw hS => ?_)
  clear en
  refine lv_aload_n hx hb dX11_forgetActs_5 rfl (lv_at hl 0 rfl) ?_
  refine lv_iconst (v := 0) hx hb dX11_forgetActs_6 (by decide) ?_
  obtain ⟨s_2, en, hf⟩ := ok_lt hf
  refine pFuseBox_actsKept hC hw hS wd348 en dX11_forgetActs_7 (fun H locs hw hS => ?_)
  clear en
  exact z_vretE hC hlocks hw hS hf hr dX11_forgetActs_10
set_option maxHeartbeats 4000000 in
set_option maxRecDepth 100000 in
theorem m_X11_house (l : Launch) (E : Ev)   {s0 sz : St} {rz : Int32} (hf : f_X11_house s0 = some (rz, sz)) : MM l E sh2 yX11_house cX11_house 2 (some .int) (rmd 7) [.ref (E.2.2.1 0)] s0 (some (.int rz)) sz := by
  unfold f_X11_house at hf
  refine z_enter (by decide +kernel) (Nat.le_of_ble_eq_true rfl) ?_
  intro p e s m args below meth c ls hC hr hlocks hw hS hl
  have hC : Cx p s m args c cX11_house 2 "FuseBox" E := hC
  obtain ⟨hx, hb, hml, hown, hts, hTB⟩ := id hC
  have hl : lv_has ls 2 [(0, .ref (E.2.2.1 0))] := hl
  refine lv_aload_n hx hb dX11_house_0 rfl (lv_at hl 0 rfl) ?_
  refine gFuseBox_reader hC hw wd340 dX11_house_1 ?_
  refine lv_aload_n hx hb dX11_house_4 rfl (lv_at hl 0 rfl) ?_
  refine gFuseBox_trial hC hw wd349 dX11_house_5 ?_
  obtain ⟨r_2, s_1, hc, hf⟩ := ok_bd hf
  refine z_cV hC hl.1 hw hS (As := [.ref (E.2.2.1 27)]) (rest := []) (m_X6_readInto l E isH_27 hc) rfl rfl gc137 gc138 ⟨Nat.le_of_ble_eq_true rfl, Nat.le_of_ble_eq_true rfl⟩ ⟨Nat.le_of_ble_eq_true rfl, Nat.le_of_ble_eq_true rfl⟩ rfl rfl (Nat.le_of_ble_eq_true rfl) dX11_house_8 (fun H locs hw hS => ?_)
  clear hc
  refine lv_istore_n (lv' := [(1, .int r_2), (0, .ref (E.2.2.1 0))]) hx hb dX11_house_11 rfl hl (by decide) rfl (fun ls hl => ?_)
  refine lv_iload_n hx hb dX11_house_12 rfl (lv_at hl 0 rfl) ?_
  have hif := ok_if hf
  refine lv_if_eq (tgt := 32) hx hb dX11_house_13 (by decide) (fun hcd => ?_) (fun hcd => ?_)
  · have hf := hif.1 hcd
    clear hif
    refine lv_aload_n hx hb dX11_house_32 rfl (lv_at hl 1 rfl) ?_
    refine gFuseBox_now hC hw wd354 dX11_house_33 ?_
    refine lv_aload_n hx hb dX11_house_36 rfl (lv_at hl 1 rfl) ?_
    refine gFuseBox_trial hC hw wd349 dX11_house_37 ?_
    obtain ⟨s_3, hc, hf⟩ := ok_bind hf
    refine z_cV hC hl.1 hw hS (As := [.ref (E.2.2.1 27)]) (rest := []) (m_X3_become l E isH_19 isH_27 hc) (sH isH_19).1 rfl gc139 gc140 ⟨Nat.le_of_ble_eq_true rfl, Nat.le_of_ble_eq_true rfl⟩ ⟨Nat.le_of_ble_eq_true rfl, Nat.le_of_ble_eq_true rfl⟩ rfl rfl (Nat.le_of_ble_eq_true rfl) dX11_house_40 (fun H locs hw hS => ?_)
    clear hc
    refine lv_aload_n hx hb dX11_house_43 rfl (lv_at hl 1 rfl) ?_
    obtain ⟨s_4, hc, hf⟩ := ok_bind hf
    refine z_cV hC hl.1 hw hS (As := []) (rest := []) (m_X11_forgetActs l E  hc) rfl rfl gc141 gc142 ⟨Nat.le_of_ble_eq_true rfl, Nat.le_of_ble_eq_true rfl⟩ ⟨Nat.le_of_ble_eq_true rfl, Nat.le_of_ble_eq_true rfl⟩ rfl rfl (Nat.le_of_ble_eq_true rfl) dX11_house_44 (fun H locs hw hS => ?_)
    clear hc
    refine lv_aload_n hx hb dX11_house_47 rfl (lv_at hl 1 rfl) ?_
    refine gFuseBox_now hC hw wd354 dX11_house_48 ?_
    refine gHouse_lines hC hw isH_19 wd363 dX11_house_51 ?_
    exact z_iretE hC hlocks hw hS hf hr rfl dX11_house_54
  · have hf := hif.2 hcd
    clear hif
    refine lv_aload_n hx hb dX11_house_16 rfl (lv_at hl 1 rfl) ?_
    refine lv_iload_n hx hb dX11_house_17 rfl (lv_at hl 0 rfl) ?_
    obtain ⟨s_5, en, hf⟩ := ok_lt hf
    refine pFuseBox_latestFault hC hw hS wd364 en dX11_house_18 (fun H locs hw hS => ?_)
    clear en
    refine lv_ldc (v := -1000100) hx hb hown (hts _ wd365) dX11_house_21 ?_
    refine lv_aload_n hx hb dX11_house_23 rfl (lv_at hl 1 rfl) ?_
    refine gFuseBox_reader hC hw wd340 dX11_house_24 ?_
    refine gReader_start hC hw wd366 dX11_house_27 ?_
    refine lv_isub hx hb dX11_house_30 ?_
    exact z_iretE hC hlocks hw hS hf hr rfl dX11_house_31
set_option maxHeartbeats 4000000 in
set_option maxRecDepth 100000 in
theorem m_X11_fault (l : Launch) (E : Ev)   {s0 sz : St} {rz : Int32} (hf : f_X11_fault s0 = some (rz, sz)) : MM l E sh2 yX11_fault cX11_fault 1 (some .int) (rmd 1) [.ref (E.2.2.1 0)] s0 (some (.int rz)) sz := by
  unfold f_X11_fault at hf
  refine z_enter (by decide +kernel) (Nat.le_of_ble_eq_true rfl) ?_
  intro p e s m args below meth c ls hC hr hlocks hw hS hl
  have hC : Cx p s m args c cX11_fault 1 "FuseBox" E := hC
  obtain ⟨hx, hb, hml, hown, hts, hTB⟩ := id hC
  have hl : lv_has ls 1 [(0, .ref (E.2.2.1 0))] := hl
  refine lv_aload_n hx hb dX11_fault_0 rfl (lv_at hl 0 rfl) ?_
  refine gFuseBox_latestFault hC hw wd364 dX11_fault_1 ?_
  exact z_iretE hC hlocks hw hS hf hr rfl dX11_fault_4
set_option maxHeartbeats 4000000 in
set_option maxRecDepth 100000 in
theorem m_X11_noHouse (l : Launch) (E : Ev)   {s0 sz : St} {rz : Int32} (hf : f_X11_noHouse s0 = some (rz, sz)) : MM l E sh2 yX11_noHouse cX11_noHouse 1 (some .boolean) (rmd 1) [.ref (E.2.2.1 0)] s0 (some (.int rz)) sz := by
  unfold f_X11_noHouse at hf
  refine z_enter (by decide +kernel) (Nat.le_of_ble_eq_true rfl) ?_
  intro p e s m args below meth c ls hC hr hlocks hw hS hl
  have hC : Cx p s m args c cX11_noHouse 1 "FuseBox" E := hC
  obtain ⟨hx, hb, hml, hown, hts, hTB⟩ := id hC
  have hl : lv_has ls 1 [(0, .ref (E.2.2.1 0))] := hl
  refine lv_aload_n hx hb dX11_noHouse_0 rfl (lv_at hl 0 rfl) ?_
  refine gFuseBox_now hC hw wd354 dX11_noHouse_1 ?_
  refine gHouse_lines hC hw isH_19 wd363 dX11_noHouse_4 ?_
  obtain ⟨j15, ej15, hf⟩ := ok_lt hf
  have J15 : ∀ (k_1 : Int32) (s_2 : St), j15 k_1 s_2 = some (rz, sz) → ∀ (H : Heap) (locs : List Loc) (ls : Array Slot), lv_has ls 1 [] → World E sh2 s_2 H → va_S E.2.2.2 s.heap H locs → W p l e (rmd 1) s m args below meth c H locs 0 0 (MQ below (QW E sh2 (some (.int rz)) sz) args s 0 0 E.2.2.2) (F0 m 15 ls [.int k_1]) := by
    intro k_1 s_2 hf H locs ls hl hw hS
    subst ej15
    obtain ⟨hbo, hf⟩ := ok_chk hf
    exact z_iretE hC hlocks hw hS hf hr (narB hbo) dX11_noHouse_15
  clear ej15
  have hif := ok_if hf
  refine lv_if_ne (tgt := 14) hx hb dX11_noHouse_7 (by decide) (fun hcd => ?_) (fun hcd => ?_)
  · have hf := hif.1 hcd
    clear hif
    refine lv_iconst (v := 0) hx hb dX11_noHouse_14 (by decide) ?_
    exact J15 _ _ hf _ _ ls (lv_sub hl [] rfl) hw hS
  · have hf := hif.2 (fun q => q hcd)
    clear hif
    refine lv_iconst (v := 1) hx hb dX11_noHouse_10 (by decide) ?_
    refine lv_goto (tgt := 15) hx hb dX11_noHouse_11 (by decide) ?_
    exact J15 _ _ hf _ _ ls (lv_sub hl [] rfl) hw hS
set_option maxHeartbeats 4000000 in
set_option maxRecDepth 100000 in
theorem m_X11_keepAct (l : Launch) (E : Ev)   {s0 sz : St} (hf : f_X11_keepAct s0 = some sz) : MM l E sh2 yX11_keepAct cX11_keepAct 1 none (rmd 2) [.ref (E.2.2.1 0)] s0 none sz := by
  unfold f_X11_keepAct at hf
  refine z_enter (by decide +kernel) (Nat.le_of_ble_eq_true rfl) ?_
  intro p e s m args below meth c ls hC hr hlocks hw hS hl
  have hC : Cx p s m args c cX11_keepAct 1 "FuseBox" E := hC
  obtain ⟨hx, hb, hml, hown, hts, hTB⟩ := id hC
  have hl : lv_has ls 1 [(0, .ref (E.2.2.1 0))] := hl
  refine lv_aload_n hx hb dX11_keepAct_0 rfl (lv_at hl 0 rfl) ?_
  refine gFuseBox_actsKept hC hw wd348 dX11_keepAct_1 ?_
  refine lv_bipush (v := 24) hx hb dX11_keepAct_4 (by decide) ?_
  obtain ⟨j32, ej32, hf⟩ := ok_lt hf
  have J32 : ∀ (s_1 : St), j32 s_1 = some sz → ∀ (H : Heap) (locs : List Loc) (ls : Array Slot), lv_has ls 1 [(0, .ref (E.2.2.1 0))] → World E sh2 s_1 H → va_S E.2.2.2 s.heap H locs → W p l e (rmd 2) s m args below meth c H locs 0 0 (MQ below (QW E sh2 none sz) args s 0 0 E.2.2.2) (F0 m 32 ls []) := by
    intro s_1 hf H locs ls hl hw hS
    subst ej32
    refine lv_aload_n hx hb dX11_keepAct_32 rfl (lv_at hl 0 rfl) ?_
    refine gFuseBox_acts hC hw wd367 dX11_keepAct_33 ?_
    refine lv_aload_n hx hb dX11_keepAct_36 rfl (lv_at hl 0 rfl) ?_
    refine gFuseBox_oldestAct hC hw wd347 dX11_keepAct_37 ?_
    refine lv_aload_n hx hb dX11_keepAct_40 rfl (lv_at hl 0 rfl) ?_
    refine gFuseBox_actsKept hC hw wd348 dX11_keepAct_41 ?_
    refine lv_iadd hx hb dX11_keepAct_44 ?_
    refine lv_bipush (v := 24) hx hb dX11_keepAct_45 (by decide) ?_
    refine lv_irem hx hb dX11_keepAct_47 (by decide) ?_
    obtain ⟨hin, hf⟩ := ok_chk hf
    refine z_aact hC hw hin dX11_keepAct_48 ?_
    obtain ⟨a_2, en, hf⟩ := ok_lt hf
    have ta_2 : isH a_2 := by rw [en]; exact (actA_ok hin).2
    refine z_nma en ?_
    clear en
    refine lv_aload_n hx hb dX11_keepAct_49 rfl (lv_at hl 0 rfl) ?_
    refine gFuseBox_now hC hw wd354 dX11_keepAct_50 ?_
    obtain ⟨s_3, hc, hf⟩ := ok_bind hf
    refine z_cV hC hl.1 hw hS (As := [.ref (E.2.2.1 19)]) (rest := []) (m_X3_become l E ta_2 isH_19 hc) (sH ta_2).1 rfl gc139 gc140 ⟨Nat.le_of_ble_eq_true rfl, Nat.le_of_ble_eq_true rfl⟩ ⟨Nat.le_of_ble_eq_true rfl, Nat.le_of_ble_eq_true rfl⟩ rfl rfl (Nat.le_of_ble_eq_true rfl) dX11_keepAct_53 (fun H locs hw hS => ?_)
    clear hc
    refine lv_aload_n hx hb dX11_keepAct_56 rfl (lv_at hl 0 rfl) ?_
    refine lv_dup hx hb dX11_keepAct_57 rfl ?_
    refine gFuseBox_actsKept hC hw wd348 dX11_keepAct_58 ?_
    refine lv_iconst (v := 1) hx hb dX11_keepAct_61 (by decide) ?_
    refine lv_iadd hx hb dX11_keepAct_62 ?_
    obtain ⟨s_4, en, hf⟩ := ok_lt hf
    refine pFuseBox_actsKept hC hw hS wd348 en dX11_keepAct_63 (fun H locs hw hS => ?_)
    clear en
    exact z_vretE hC hlocks hw hS hf hr dX11_keepAct_66
  clear ej32
  have hif := ok_if hf
  refine lv_icmp_ne (tgt := 32) hx hb dX11_keepAct_6 (by decide) (fun hcd => ?_) (fun hcd => ?_)
  · have hf := hif.1 hcd
    clear hif
    exact J32 _ hf _ _ ls hl hw hS
  · have hf := hif.2 (fun q => q hcd)
    clear hif
    refine lv_aload_n hx hb dX11_keepAct_9 rfl (lv_at hl 0 rfl) ?_
    refine lv_aload_n hx hb dX11_keepAct_10 rfl (lv_at hl 0 rfl) ?_
    refine gFuseBox_oldestAct hC hw wd347 dX11_keepAct_11 ?_
    refine lv_iconst (v := 1) hx hb dX11_keepAct_14 (by decide) ?_
    refine lv_iadd hx hb dX11_keepAct_15 ?_
    refine lv_bipush (v := 24) hx hb dX11_keepAct_16 (by decide) ?_
    refine lv_irem hx hb dX11_keepAct_18 (by decide) ?_
    obtain ⟨s_5, en, hf⟩ := ok_lt hf
    refine pFuseBox_oldestAct hC hw hS wd347 en dX11_keepAct_19 (fun H locs hw hS => ?_)
    clear en
    refine lv_aload_n hx hb dX11_keepAct_22 rfl (lv_at hl 0 rfl) ?_
    refine lv_dup hx hb dX11_keepAct_23 rfl ?_
    refine gFuseBox_actsKept hC hw wd348 dX11_keepAct_24 ?_
    refine lv_iconst (v := 1) hx hb dX11_keepAct_27 (by decide) ?_
    refine lv_isub hx hb dX11_keepAct_28 ?_
    obtain ⟨s_6, en, hf⟩ := ok_lt hf
    refine pFuseBox_actsKept hC hw hS wd348 en dX11_keepAct_29 (fun H locs hw hS => ?_)
    clear en
    exact J32 _ hf _ _ ls hl hw hS
set_option maxHeartbeats 4000000 in
set_option maxRecDepth 100000 in
theorem m_X11_minutes (l : Launch) (E : Ev) {x1 : Int32}  {s0 sz : St} {rz : Int32} (hf : f_X11_minutes x1 s0 = some (rz, sz)) : MM l E sh2 yX11_minutes cX11_minutes 3 (some .int) (rmd 5) [.ref (E.2.2.1 0), .int x1] s0 (some (.int rz)) sz := by
  unfold f_X11_minutes at hf
  refine z_enter (by decide +kernel) (Nat.le_of_ble_eq_true rfl) ?_
  intro p e s m args below meth c ls hC hr hlocks hw hS hl
  have hC : Cx p s m args c cX11_minutes 3 "FuseBox" E := hC
  obtain ⟨hx, hb, hml, hown, hts, hTB⟩ := id hC
  have hl : lv_has ls 3 [(0, .ref (E.2.2.1 0)), (1, .int x1)] := hl
  refine lv_aload_n hx hb dX11_minutes_0 rfl (lv_at hl 0 rfl) ?_
  obtain ⟨r_2, s_1, hc, hf⟩ := ok_bd hf
  refine z_cV hC hl.1 hw hS (As := []) (rest := []) (m_X11_noHouse l E  hc) rfl rfl gc143 gc144 ⟨Nat.le_of_ble_eq_true rfl, Nat.le_of_ble_eq_true rfl⟩ ⟨Nat.le_of_ble_eq_true rfl, Nat.le_of_ble_eq_true rfl⟩ rfl rfl (Nat.le_of_ble_eq_true rfl) dX11_minutes_1 (fun H locs hw hS => ?_)
  clear hc
  have hif := ok_if hf
  refine lv_if_eq (tgt := 10) hx hb dX11_minutes_4 (by decide) (fun hcd => ?_) (fun hcd => ?_)
  · have hf := hif.1 hcd
    clear hif
    refine lv_iload_n hx hb dX11_minutes_10 rfl (lv_at hl 1 rfl) ?_
    refine lv_iconst (v := 1) hx hb dX11_minutes_11 (by decide) ?_
    obtain ⟨j21, ej21, hf⟩ := ok_lt hf
    have J21 : ∀ (s_3 : St), j21 s_3 = some (rz, sz) → ∀ (H : Heap) (locs : List Loc) (ls : Array Slot), lv_has ls 3 [] → World E sh2 s_3 H → va_S E.2.2.2 s.heap H locs → W p l e (rmd 5) s m args below meth c H locs 0 0 (MQ below (QW E sh2 (some (.int rz)) sz) args s 0 0 E.2.2.2) (F0 m 21 ls []) := by
      intro s_3 hf H locs ls hl hw hS
      subst ej21
      refine lv_ldc (v := -1000001) hx hb hown (hts _ wd305) dX11_minutes_21 ?_
      exact z_iretE hC hlocks hw hS hf hr rfl dX11_minutes_23
    clear ej21
    have hif := ok_if hf
    refine lv_icmp_lt (tgt := 21) hx hb dX11_minutes_12 (by decide) (fun hcd => ?_) (fun hcd => ?_)
    · have hf := hif.1 hcd
      clear hif
      exact J21 _ hf _ _ ls (lv_sub hl [] rfl) hw hS
    · have hf := hif.2 hcd
      clear hif
      refine lv_iload_n hx hb dX11_minutes_15 rfl (lv_at hl 1 rfl) ?_
      refine lv_bipush (v := 24) hx hb dX11_minutes_16 (by decide) ?_
      have hif := ok_if hf
      refine lv_icmp_le (tgt := 24) hx hb dX11_minutes_18 (by decide) (fun hcd => ?_) (fun hcd => ?_)
      · have hf := hif.1 hcd
        clear hif
        refine lv_aload_n hx hb dX11_minutes_24 rfl (lv_at hl 0 rfl) ?_
        refine gFuseBox_now hC hw wd354 dX11_minutes_25 ?_
        refine gHouse_minute hC hw isH_19 wd372 dX11_minutes_28 ?_
        refine lv_iload_n hx hb dX11_minutes_31 rfl (lv_at hl 1 rfl) ?_
        refine lv_iadd hx hb dX11_minutes_32 ?_
        refine lv_sipush (v := 9999) hx hb dX11_minutes_33 (by decide) ?_
        have hif := ok_if hf
        refine lv_icmp_le (tgt := 42) hx hb dX11_minutes_36 (by decide) (fun hcd => ?_) (fun hcd => ?_)
        · have hf := hif.1 hcd
          clear hif
          refine lv_iconst (v := 0) hx hb dX11_minutes_42 (by decide) ?_
          obtain ⟨v2_4, en, hf⟩ := ok_lt hf
          refine z_nm en ?_
          clear en
          refine lv_istore_n (lv' := [(2, .int v2_4), (0, .ref (E.2.2.1 0)), (1, .int x1)]) hx hb dX11_minutes_43 rfl hl (by decide) rfl (fun ls hl => ?_)
          obtain ⟨r44, hL44, hf⟩ := ok_bind hf
          have X44_0 : ∀ (s_7 : St), s_7 = r44 → ∀ (H : Heap) (locs : List Loc) (ls : Array Slot), lv_has ls 3 [(0, .ref (E.2.2.1 0))] → World E sh2 s_7 H → va_S E.2.2.2 s.heap H locs → W p l e (rmd 5) s m args below meth c H locs 0 0 (MQ below (QW E sh2 (some (.int rz)) sz) args s 0 0 E.2.2.2) (F0 m 66 ls []) := by
            intro s_7 er H locs ls hl hw hS
            subst er
            replace hf := ok_un1 hf
            refine lv_aload_n hx hb dX11_minutes_66 rfl (lv_at hl 0 rfl) ?_
            refine gFuseBox_now hC hw wd354 dX11_minutes_67 ?_
            obtain ⟨r_9, s_8, hc, hf⟩ := ok_bd hf
            refine z_cV hC hl.1 hw hS (As := []) (rest := []) (m_X3_liveLines l E isH_19 hc) (sH isH_19).1 rfl gc145 gc146 ⟨Nat.le_of_ble_eq_true rfl, Nat.le_of_ble_eq_true rfl⟩ ⟨Nat.le_of_ble_eq_true rfl, Nat.le_of_ble_eq_true rfl⟩ rfl rfl (Nat.le_of_ble_eq_true rfl) dX11_minutes_70 (fun H locs hw hS => ?_)
            clear hc
            exact z_iretE hC hlocks hw hS hf hr rfl dX11_minutes_73
          have L44 : ∀ (n : Nat) (v2_5 : Int32) (s_6 : St), loopF (f_X11_minutes_L44 x1) n (v2_5, s_6) = some r44 → ∀ (H : Heap) (locs : List Loc) (ls : Array Slot), lv_has ls 3 [(0, .ref (E.2.2.1 0)), (1, .int x1), (2, .int v2_5)] → World E sh2 s_6 H → va_S E.2.2.2 s.heap H locs → W p l e (rmd 5) s m args below meth c H locs 0 0 (MQ below (QW E sh2 (some (.int rz)) sz) args s 0 0 E.2.2.2) (F0 m 44 ls []) := by
            intro n
            induction n with
            | zero =>
              intro v2_5 s_6 hf
              exact nz hf
            | succ n ih44 =>
              intro v2_5 s_6 hf H locs ls hl hw hS
              obtain ⟨xl44, hf, hi44, he44⟩ := ok_loop hf
              unfold f_X11_minutes_L44 at hf
              replace hf := ok_un2 hf
              refine lv_iload_n hx hb dX11_minutes_44 rfl (lv_at hl 2 rfl) ?_
              refine lv_iload_n hx hb dX11_minutes_45 rfl (lv_at hl 1 rfl) ?_
              have hif := ok_if hf
              refine lv_icmp_ge (tgt := 66) hx hb dX11_minutes_46 (by decide) (fun hcd => ?_) (fun hcd => ?_)
              · have hf := hif.1 hcd
                clear hif
                cases hf
                exact X44_0 _ (he44 _ rfl) _ _ ls (lv_sub hl [0] rfl) hw hS
              · have hf := hif.2 hcd
                clear hif
                refine lv_aload_n hx hb dX11_minutes_49 rfl (lv_at hl 0 rfl) ?_
                obtain ⟨s_10, hc, hf⟩ := ok_bind hf
                refine z_cV hC hl.1 hw hS (As := []) (rest := []) (m_X11_keepAct l E  hc) rfl rfl gc147 gc148 ⟨Nat.le_of_ble_eq_true rfl, Nat.le_of_ble_eq_true rfl⟩ ⟨Nat.le_of_ble_eq_true rfl, Nat.le_of_ble_eq_true rfl⟩ rfl rfl (Nat.le_of_ble_eq_true rfl) dX11_minutes_50 (fun H locs hw hS => ?_)
                clear hc
                refine lv_aload_n hx hb dX11_minutes_53 rfl (lv_at hl 0 rfl) ?_
                refine gFuseBox_now hC hw wd354 dX11_minutes_54 ?_
                obtain ⟨s_11, hc, hf⟩ := ok_bind hf
                refine z_cV hC hl.1 hw hS (As := []) (rest := []) (m_X3_passMinute l E isH_19 hc) (sH isH_19).1 rfl gc149 gc52 ⟨Nat.le_of_ble_eq_true rfl, Nat.le_of_ble_eq_true rfl⟩ ⟨Nat.le_of_ble_eq_true rfl, Nat.le_of_ble_eq_true rfl⟩ rfl rfl (Nat.le_of_ble_eq_true rfl) dX11_minutes_57 (fun H locs hw hS => ?_)
                clear hc
                obtain ⟨v2_12, en, hf⟩ := ok_lt hf
                refine lv_iinc (v := v2_12) (lv' := [(2, .int v2_12), (0, .ref (E.2.2.1 0)), (1, .int x1)]) hx hb dX11_minutes_60 hl (k := 2) rfl (by rw [en]; rfl) (by decide) rfl (fun ls hl => ?_)
                clear en
                refine lv_goto (tgt := 44) hx hb dX11_minutes_63 (by decide) ?_
                cases hf
                exact ih44 _ _ (hi44 _ rfl) _ _ ls (lv_sub hl [1, 2, 0] rfl) hw hS
          exact L44 5000 _ _ hL44 _ _ ls (lv_sub hl [1, 2, 0] rfl) hw hS
        · have hf := hif.2 hcd
          clear hif
          refine lv_ldc (v := -1000003) hx hb hown (hts _ wd346) dX11_minutes_39 ?_
          exact z_iretE hC hlocks hw hS hf hr rfl dX11_minutes_41
      · have hf := hif.2 hcd
        clear hif
        exact J21 _ hf _ _ ls (lv_sub hl [] rfl) hw hS
  · have hf := hif.2 hcd
    clear hif
    refine lv_ldc (v := -1000002) hx hb hown (hts _ wd382) dX11_minutes_7 ?_
    exact z_iretE hC hlocks hw hS hf hr rfl dX11_minutes_9
set_option maxHeartbeats 4000000 in
set_option maxRecDepth 100000 in
theorem m_X11_noThing (l : Launch) (E : Ev) {x1 : Int32}  {s0 sz : St} {rz : Int32} (hf : f_X11_noThing x1 s0 = some (rz, sz)) : MM l E sh2 yX11_noThing cX11_noThing 2 (some .boolean) (rmd 1) [.ref (E.2.2.1 0), .int x1] s0 (some (.int rz)) sz := by
  unfold f_X11_noThing at hf
  refine z_enter (by decide +kernel) (Nat.le_of_ble_eq_true rfl) ?_
  intro p e s m args below meth c ls hC hr hlocks hw hS hl
  have hC : Cx p s m args c cX11_noThing 2 "FuseBox" E := hC
  obtain ⟨hx, hb, hml, hown, hts, hTB⟩ := id hC
  have hl : lv_has ls 2 [(0, .ref (E.2.2.1 0)), (1, .int x1)] := hl
  refine lv_iload_n hx hb dX11_noThing_0 rfl (lv_at hl 1 rfl) ?_
  obtain ⟨j20, ej20, hf⟩ := ok_lt hf
  have J20 : ∀ (k_1 : Int32) (s_2 : St), j20 k_1 s_2 = some (rz, sz) → ∀ (H : Heap) (locs : List Loc) (ls : Array Slot), lv_has ls 2 [] → World E sh2 s_2 H → va_S E.2.2.2 s.heap H locs → W p l e (rmd 1) s m args below meth c H locs 0 0 (MQ below (QW E sh2 (some (.int rz)) sz) args s 0 0 E.2.2.2) (F0 m 20 ls [.int k_1]) := by
    intro k_1 s_2 hf H locs ls hl hw hS
    subst ej20
    obtain ⟨hbo, hf⟩ := ok_chk hf
    exact z_iretE hC hlocks hw hS hf hr (narB hbo) dX11_noThing_20
  clear ej20
  obtain ⟨j15, ej15, hf⟩ := ok_lt hf
  have J15 : ∀ (s_3 : St), j15 s_3 = some (rz, sz) → ∀ (H : Heap) (locs : List Loc) (ls : Array Slot), lv_has ls 2 [] → World E sh2 s_3 H → va_S E.2.2.2 s.heap H locs → W p l e (rmd 1) s m args below meth c H locs 0 0 (MQ below (QW E sh2 (some (.int rz)) sz) args s 0 0 E.2.2.2) (F0 m 15 ls []) := by
    intro s_3 hf H locs ls hl hw hS
    subst ej15
    refine lv_iconst (v := 1) hx hb dX11_noThing_15 (by decide) ?_
    refine lv_goto (tgt := 20) hx hb dX11_noThing_16 (by decide) ?_
    exact J20 _ _ hf _ _ ls hl hw hS
  clear ej15
  have hif := ok_if hf
  refine lv_if_lt (tgt := 15) hx hb dX11_noThing_1 (by decide) (fun hcd => ?_) (fun hcd => ?_)
  · have hf := hif.1 hcd
    clear hif
    exact J15 _ hf _ _ ls (lv_sub hl [] rfl) hw hS
  · have hf := hif.2 hcd
    clear hif
    refine lv_iload_n hx hb dX11_noThing_4 rfl (lv_at hl 1 rfl) ?_
    refine lv_aload_n hx hb dX11_noThing_5 rfl (lv_at hl 0 rfl) ?_
    refine gFuseBox_now hC hw wd354 dX11_noThing_6 ?_
    refine gHouse_things hC hw isH_19 wd383 dX11_noThing_9 ?_
    have hif := ok_if hf
    refine lv_icmp_lt (tgt := 19) hx hb dX11_noThing_12 (by decide) (fun hcd => ?_) (fun hcd => ?_)
    · have hf := hif.1 hcd
      clear hif
      refine lv_iconst (v := 0) hx hb dX11_noThing_19 (by decide) ?_
      exact J20 _ _ hf _ _ ls (lv_sub hl [] rfl) hw hS
    · have hf := hif.2 hcd
      clear hif
      exact J15 _ hf _ _ ls (lv_sub hl [] rfl) hw hS
set_option maxHeartbeats 4000000 in
set_option maxRecDepth 100000 in
theorem m_X11_turn (l : Launch) (E : Ev) {x1 : Int32} {x2 : Int32}  {s0 sz : St} {rz : Int32} (hf : f_X11_turn x1 x2 s0 = some (rz, sz)) : MM l E sh2 yX11_turn cX11_turn 3 (some .int) (rmd 4) [.ref (E.2.2.1 0), .int x1, .int x2] s0 (some (.int rz)) sz := by
  unfold f_X11_turn at hf
  refine z_enter (by decide +kernel) (Nat.le_of_ble_eq_true rfl) ?_
  intro p e s m args below meth c ls hC hr hlocks hw hS hl
  have hC : Cx p s m args c cX11_turn 3 "FuseBox" E := hC
  obtain ⟨hx, hb, hml, hown, hts, hTB⟩ := id hC
  have hl : lv_has ls 3 [(0, .ref (E.2.2.1 0)), (1, .int x1), (2, .int x2)] := hl
  refine lv_aload_n hx hb dX11_turn_0 rfl (lv_at hl 0 rfl) ?_
  refine lv_iload_n hx hb dX11_turn_1 rfl (lv_at hl 1 rfl) ?_
  obtain ⟨r_2, s_1, hc, hf⟩ := ok_bd hf
  refine z_cV hC hl.1 hw hS (As := [.int x1]) (rest := []) (m_X11_noThing l E  hc) rfl rfl gc150 gc151 ⟨Nat.le_of_ble_eq_true rfl, Nat.le_of_ble_eq_true rfl⟩ ⟨Nat.le_of_ble_eq_true rfl, Nat.le_of_ble_eq_true rfl⟩ rfl rfl (Nat.le_of_ble_eq_true rfl) dX11_turn_2 (fun H locs hw hS => ?_)
  clear hc
  obtain ⟨j17, ej17, hf⟩ := ok_lt hf
  have J17 : ∀ (s_3 : St), j17 s_3 = some (rz, sz) → ∀ (H : Heap) (locs : List Loc) (ls : Array Slot), lv_has ls 3 [] → World E sh2 s_3 H → va_S E.2.2.2 s.heap H locs → W p l e (rmd 4) s m args below meth c H locs 0 0 (MQ below (QW E sh2 (some (.int rz)) sz) args s 0 0 E.2.2.2) (F0 m 17 ls []) := by
    intro s_3 hf H locs ls hl hw hS
    subst ej17
    refine lv_ldc (v := -1000001) hx hb hown (hts _ wd305) dX11_turn_17 ?_
    exact z_iretE hC hlocks hw hS hf hr rfl dX11_turn_19
  clear ej17
  have hif := ok_if hf
  refine lv_if_ne (tgt := 17) hx hb dX11_turn_5 (by decide) (fun hcd => ?_) (fun hcd => ?_)
  · have hf := hif.1 hcd
    clear hif
    exact J17 _ hf _ _ ls (lv_sub hl [] rfl) hw hS
  · have hf := hif.2 (fun q => q hcd)
    clear hif
    refine lv_iload_n hx hb dX11_turn_8 rfl (lv_at hl 2 rfl) ?_
    have hif := ok_if hf
    refine lv_if_lt (tgt := 17) hx hb dX11_turn_9 (by decide) (fun hcd => ?_) (fun hcd => ?_)
    · have hf := hif.1 hcd
      clear hif
      exact J17 _ hf _ _ ls (lv_sub hl [] rfl) hw hS
    · have hf := hif.2 hcd
      clear hif
      refine lv_iload_n hx hb dX11_turn_12 rfl (lv_at hl 2 rfl) ?_
      refine lv_iconst (v := 1) hx hb dX11_turn_13 (by decide) ?_
      have hif := ok_if hf
      refine lv_icmp_le (tgt := 20) hx hb dX11_turn_14 (by decide) (fun hcd => ?_) (fun hcd => ?_)
      · have hf := hif.1 hcd
        clear hif
        refine lv_aload_n hx hb dX11_turn_20 rfl (lv_at hl 0 rfl) ?_
        refine gFuseBox_now hC hw wd354 dX11_turn_21 ?_
        refine lv_iload_n hx hb dX11_turn_24 rfl (lv_at hl 1 rfl) ?_
        obtain ⟨r_5, s_4, hc, hf⟩ := ok_bd hf
        refine z_cV hC hl.1 hw hS (As := [.int x1]) (rest := []) (m_X3_isOn l E isH_19 hc) (sH isH_19).1 rfl gc152 gc19 ⟨Nat.le_of_ble_eq_true rfl, Nat.le_of_ble_eq_true rfl⟩ ⟨Nat.le_of_ble_eq_true rfl, Nat.le_of_ble_eq_true rfl⟩ rfl rfl (Nat.le_of_ble_eq_true rfl) dX11_turn_25 (fun H locs hw hS => ?_)
        clear hc
        refine lv_iload_n hx hb dX11_turn_28 rfl (lv_at hl 2 rfl) ?_
        refine lv_iconst (v := 1) hx hb dX11_turn_29 (by decide) ?_
        obtain ⟨j38, ej38, hf⟩ := ok_lt hf
        have J38 : ∀ (k_6 : Int32) (s_7 : St), j38 k_6 s_7 = some (rz, sz) → ∀ (H : Heap) (locs : List Loc) (ls : Array Slot), lv_has ls 3 [(0, .ref (E.2.2.1 0)), (1, .int x1)] → World E sh2 s_7 H → va_S E.2.2.2 s.heap H locs → W p l e (rmd 4) s m args below meth c H locs 0 0 (MQ below (QW E sh2 (some (.int rz)) sz) args s 0 0 E.2.2.2) (F0 m 38 ls [.int k_6, .int r_5]) := by
          intro k_6 s_7 hf H locs ls hl hw hS
          subst ej38
          have hif := ok_if hf
          refine lv_icmp_ne (tgt := 44) hx hb dX11_turn_38 (by decide) (fun hcd => ?_) (fun hcd => ?_)
          · have hf := hif.1 hcd
            clear hif
            refine lv_aload_n hx hb dX11_turn_44 rfl (lv_at hl 0 rfl) ?_
            obtain ⟨s_8, hc, hf⟩ := ok_bind hf
            refine z_cV hC hl.1 hw hS (As := []) (rest := []) (m_X11_keepAct l E  hc) rfl rfl gc147 gc148 ⟨Nat.le_of_ble_eq_true rfl, Nat.le_of_ble_eq_true rfl⟩ ⟨Nat.le_of_ble_eq_true rfl, Nat.le_of_ble_eq_true rfl⟩ rfl rfl (Nat.le_of_ble_eq_true rfl) dX11_turn_45 (fun H locs hw hS => ?_)
            clear hc
            refine lv_aload_n hx hb dX11_turn_48 rfl (lv_at hl 0 rfl) ?_
            refine gFuseBox_now hC hw wd354 dX11_turn_49 ?_
            refine lv_iload_n hx hb dX11_turn_52 rfl (lv_at hl 1 rfl) ?_
            obtain ⟨s_9, hc, hf⟩ := ok_bind hf
            refine z_cV hC hl.1 hw hS (As := [.int x1]) (rest := []) (m_X3_toggle l E isH_19 hc) (sH isH_19).1 rfl gc153 gc58 ⟨Nat.le_of_ble_eq_true rfl, Nat.le_of_ble_eq_true rfl⟩ ⟨Nat.le_of_ble_eq_true rfl, Nat.le_of_ble_eq_true rfl⟩ rfl rfl (Nat.le_of_ble_eq_true rfl) dX11_turn_53 (fun H locs hw hS => ?_)
            clear hc
            refine lv_aload_n hx hb dX11_turn_56 rfl (lv_at hl 0 rfl) ?_
            refine gFuseBox_now hC hw wd354 dX11_turn_57 ?_
            obtain ⟨r_11, s_10, hc, hf⟩ := ok_bd hf
            refine z_cV hC hl.1 hw hS (As := []) (rest := []) (m_X3_runningThings l E isH_19 hc) (sH isH_19).1 rfl gc154 gc155 ⟨Nat.le_of_ble_eq_true rfl, Nat.le_of_ble_eq_true rfl⟩ ⟨Nat.le_of_ble_eq_true rfl, Nat.le_of_ble_eq_true rfl⟩ rfl rfl (Nat.le_of_ble_eq_true rfl) dX11_turn_60 (fun H locs hw hS => ?_)
            clear hc
            exact z_iretE hC hlocks hw hS hf hr rfl dX11_turn_63
          · have hf := hif.2 (fun q => q hcd)
            clear hif
            refine lv_ldc (v := -1000002) hx hb hown (hts _ wd382) dX11_turn_41 ?_
            exact z_iretE hC hlocks hw hS hf hr rfl dX11_turn_43
        clear ej38
        have hif := ok_if hf
        refine lv_icmp_ne (tgt := 37) hx hb dX11_turn_30 (by decide) (fun hcd => ?_) (fun hcd => ?_)
        · have hf := hif.1 hcd
          clear hif
          refine lv_iconst (v := 0) hx hb dX11_turn_37 (by decide) ?_
          exact J38 _ _ hf _ _ ls (lv_sub hl [0, 1] rfl) hw hS
        · have hf := hif.2 (fun q => q hcd)
          clear hif
          refine lv_iconst (v := 1) hx hb dX11_turn_33 (by decide) ?_
          refine lv_goto (tgt := 38) hx hb dX11_turn_34 (by decide) ?_
          exact J38 _ _ hf _ _ ls (lv_sub hl [0, 1] rfl) hw hS
      · have hf := hif.2 hcd
        clear hif
        exact J17 _ hf _ _ ls (lv_sub hl [] rfl) hw hS
set_option maxHeartbeats 4000000 in
set_option maxRecDepth 100000 in
theorem m_X11_noLine (l : Launch) (E : Ev) {x1 : Int32}  {s0 sz : St} {rz : Int32} (hf : f_X11_noLine x1 s0 = some (rz, sz)) : MM l E sh2 yX11_noLine cX11_noLine 2 (some .boolean) (rmd 1) [.ref (E.2.2.1 0), .int x1] s0 (some (.int rz)) sz := by
  unfold f_X11_noLine at hf
  refine z_enter (by decide +kernel) (Nat.le_of_ble_eq_true rfl) ?_
  intro p e s m args below meth c ls hC hr hlocks hw hS hl
  have hC : Cx p s m args c cX11_noLine 2 "FuseBox" E := hC
  obtain ⟨hx, hb, hml, hown, hts, hTB⟩ := id hC
  have hl : lv_has ls 2 [(0, .ref (E.2.2.1 0)), (1, .int x1)] := hl
  refine lv_iload_n hx hb dX11_noLine_0 rfl (lv_at hl 1 rfl) ?_
  obtain ⟨j20, ej20, hf⟩ := ok_lt hf
  have J20 : ∀ (k_1 : Int32) (s_2 : St), j20 k_1 s_2 = some (rz, sz) → ∀ (H : Heap) (locs : List Loc) (ls : Array Slot), lv_has ls 2 [] → World E sh2 s_2 H → va_S E.2.2.2 s.heap H locs → W p l e (rmd 1) s m args below meth c H locs 0 0 (MQ below (QW E sh2 (some (.int rz)) sz) args s 0 0 E.2.2.2) (F0 m 20 ls [.int k_1]) := by
    intro k_1 s_2 hf H locs ls hl hw hS
    subst ej20
    obtain ⟨hbo, hf⟩ := ok_chk hf
    exact z_iretE hC hlocks hw hS hf hr (narB hbo) dX11_noLine_20
  clear ej20
  obtain ⟨j15, ej15, hf⟩ := ok_lt hf
  have J15 : ∀ (s_3 : St), j15 s_3 = some (rz, sz) → ∀ (H : Heap) (locs : List Loc) (ls : Array Slot), lv_has ls 2 [] → World E sh2 s_3 H → va_S E.2.2.2 s.heap H locs → W p l e (rmd 1) s m args below meth c H locs 0 0 (MQ below (QW E sh2 (some (.int rz)) sz) args s 0 0 E.2.2.2) (F0 m 15 ls []) := by
    intro s_3 hf H locs ls hl hw hS
    subst ej15
    refine lv_iconst (v := 1) hx hb dX11_noLine_15 (by decide) ?_
    refine lv_goto (tgt := 20) hx hb dX11_noLine_16 (by decide) ?_
    exact J20 _ _ hf _ _ ls hl hw hS
  clear ej15
  have hif := ok_if hf
  refine lv_if_lt (tgt := 15) hx hb dX11_noLine_1 (by decide) (fun hcd => ?_) (fun hcd => ?_)
  · have hf := hif.1 hcd
    clear hif
    exact J15 _ hf _ _ ls (lv_sub hl [] rfl) hw hS
  · have hf := hif.2 hcd
    clear hif
    refine lv_iload_n hx hb dX11_noLine_4 rfl (lv_at hl 1 rfl) ?_
    refine lv_aload_n hx hb dX11_noLine_5 rfl (lv_at hl 0 rfl) ?_
    refine gFuseBox_now hC hw wd354 dX11_noLine_6 ?_
    refine gHouse_lines hC hw isH_19 wd363 dX11_noLine_9 ?_
    have hif := ok_if hf
    refine lv_icmp_lt (tgt := 19) hx hb dX11_noLine_12 (by decide) (fun hcd => ?_) (fun hcd => ?_)
    · have hf := hif.1 hcd
      clear hif
      refine lv_iconst (v := 0) hx hb dX11_noLine_19 (by decide) ?_
      exact J20 _ _ hf _ _ ls (lv_sub hl [] rfl) hw hS
    · have hf := hif.2 hcd
      clear hif
      exact J15 _ hf _ _ ls (lv_sub hl [] rfl) hw hS
set_option maxHeartbeats 4000000 in
set_option maxRecDepth 100000 in
theorem m_X11_plug (l : Launch) (E : Ev) {x1 : Int32} {x2 : Int32}  {s0 sz : St} {rz : Int32} (hf : f_X11_plug x1 x2 s0 = some (rz, sz)) : MM l E sh2 yX11_plug cX11_plug 4 (some .int) (rmd 3) [.ref (E.2.2.1 0), .int x1, .int x2] s0 (some (.int rz)) sz := by
  unfold f_X11_plug at hf
  refine z_enter (by decide +kernel) (Nat.le_of_ble_eq_true rfl) ?_
  intro p e s m args below meth c ls hC hr hlocks hw hS hl
  have hC : Cx p s m args c cX11_plug 4 "FuseBox" E := hC
  obtain ⟨hx, hb, hml, hown, hts, hTB⟩ := id hC
  have hl : lv_has ls 4 [(0, .ref (E.2.2.1 0)), (1, .int x1), (2, .int x2)] := hl
  refine lv_aload_n hx hb dX11_plug_0 rfl (lv_at hl 0 rfl) ?_
  refine lv_iload_n hx hb dX11_plug_1 rfl (lv_at hl 1 rfl) ?_
  obtain ⟨r_2, s_1, hc, hf⟩ := ok_bd hf
  refine z_cV hC hl.1 hw hS (As := [.int x1]) (rest := []) (m_X11_noThing l E  hc) rfl rfl gc150 gc151 ⟨Nat.le_of_ble_eq_true rfl, Nat.le_of_ble_eq_true rfl⟩ ⟨Nat.le_of_ble_eq_true rfl, Nat.le_of_ble_eq_true rfl⟩ rfl rfl (Nat.le_of_ble_eq_true rfl) dX11_plug_2 (fun H locs hw hS => ?_)
  clear hc
  obtain ⟨j16, ej16, hf⟩ := ok_lt hf
  have J16 : ∀ (s_3 : St), j16 s_3 = some (rz, sz) → ∀ (H : Heap) (locs : List Loc) (ls : Array Slot), lv_has ls 4 [] → World E sh2 s_3 H → va_S E.2.2.2 s.heap H locs → W p l e (rmd 3) s m args below meth c H locs 0 0 (MQ below (QW E sh2 (some (.int rz)) sz) args s 0 0 E.2.2.2) (F0 m 16 ls []) := by
    intro s_3 hf H locs ls hl hw hS
    subst ej16
    refine lv_ldc (v := -1000001) hx hb hown (hts _ wd305) dX11_plug_16 ?_
    exact z_iretE hC hlocks hw hS hf hr rfl dX11_plug_18
  clear ej16
  have hif := ok_if hf
  refine lv_if_ne (tgt := 16) hx hb dX11_plug_5 (by decide) (fun hcd => ?_) (fun hcd => ?_)
  · have hf := hif.1 hcd
    clear hif
    exact J16 _ hf _ _ ls (lv_sub hl [] rfl) hw hS
  · have hf := hif.2 (fun q => q hcd)
    clear hif
    refine lv_aload_n hx hb dX11_plug_8 rfl (lv_at hl 0 rfl) ?_
    refine lv_iload_n hx hb dX11_plug_9 rfl (lv_at hl 2 rfl) ?_
    obtain ⟨r_5, s_4, hc, hf⟩ := ok_bd hf
    refine z_cV hC hl.1 hw hS (As := [.int x2]) (rest := []) (m_X11_noLine l E  hc) rfl rfl gc156 gc157 ⟨Nat.le_of_ble_eq_true rfl, Nat.le_of_ble_eq_true rfl⟩ ⟨Nat.le_of_ble_eq_true rfl, Nat.le_of_ble_eq_true rfl⟩ rfl rfl (Nat.le_of_ble_eq_true rfl) dX11_plug_10 (fun H locs hw hS => ?_)
    clear hc
    have hif := ok_if hf
    refine lv_if_eq (tgt := 19) hx hb dX11_plug_13 (by decide) (fun hcd => ?_) (fun hcd => ?_)
    · have hf := hif.1 hcd
      clear hif
      refine lv_aload_n hx hb dX11_plug_19 rfl (lv_at hl 0 rfl) ?_
      refine gFuseBox_now hC hw wd354 dX11_plug_20 ?_
      refine gHouse_plugged hC hw isH_19 wd398 dX11_plug_23 ?_
      refine lv_iload_n hx hb dX11_plug_26 rfl (lv_at hl 1 rfl) ?_
      obtain ⟨hin, hf⟩ := ok_chk hf
      refine z_iald hC hw (sH isH_19).2.2.2.2.2.2.1 hin dX11_plug_27 ?_
      obtain ⟨v3_6, en, hf⟩ := ok_lt hf
      refine z_nm en ?_
      clear en
      refine lv_istore_n (lv' := [(3, .int v3_6), (0, .ref (E.2.2.1 0)), (1, .int x1), (2, .int x2)]) hx hb dX11_plug_28 rfl hl (by decide) rfl (fun ls hl => ?_)
      refine lv_iload_n hx hb dX11_plug_29 rfl (lv_at hl 0 rfl) ?_
      refine lv_iload_n hx hb dX11_plug_30 rfl (lv_at hl 3 rfl) ?_
      have hif := ok_if hf
      refine lv_icmp_ne (tgt := 37) hx hb dX11_plug_31 (by decide) (fun hcd => ?_) (fun hcd => ?_)
      · have hf := hif.1 hcd
        clear hif
        refine lv_aload_n hx hb dX11_plug_37 rfl (lv_at hl 1 rfl) ?_
        obtain ⟨s_7, hc, hf⟩ := ok_bind hf
        refine z_cV hC hl.1 hw hS (As := []) (rest := []) (m_X11_keepAct l E  hc) rfl rfl gc147 gc148 ⟨Nat.le_of_ble_eq_true rfl, Nat.le_of_ble_eq_true rfl⟩ ⟨Nat.le_of_ble_eq_true rfl, Nat.le_of_ble_eq_true rfl⟩ rfl rfl (Nat.le_of_ble_eq_true rfl) dX11_plug_38 (fun H locs hw hS => ?_)
        clear hc
        refine lv_aload_n hx hb dX11_plug_41 rfl (lv_at hl 1 rfl) ?_
        refine gFuseBox_now hC hw wd354 dX11_plug_42 ?_
        refine gHouse_plugged hC hw isH_19 wd398 dX11_plug_45 ?_
        refine lv_iload_n hx hb dX11_plug_48 rfl (lv_at hl 2 rfl) ?_
        refine lv_iload_n hx hb dX11_plug_49 rfl (lv_at hl 3 rfl) ?_
        obtain ⟨hin, hf⟩ := ok_chk hf
        obtain ⟨s_8, en, hf⟩ := ok_lt hf
        refine z_iast hC hw hS (sH isH_19).2.2.2.2.2.2.1 hin en dX11_plug_50 (fun H locs hw hS => ?_)
        clear en
        refine lv_iload_n hx hb dX11_plug_51 rfl (lv_at hl 0 rfl) ?_
        exact z_iretE hC hlocks hw hS hf hr rfl dX11_plug_52
      · have hf := hif.2 (fun q => q hcd)
        clear hif
        refine lv_ldc (v := -1000002) hx hb hown (hts _ wd382) dX11_plug_34 ?_
        exact z_iretE hC hlocks hw hS hf hr rfl dX11_plug_36
    · have hf := hif.2 hcd
      clear hif
      exact J16 _ hf _ _ ls (lv_sub hl [] rfl) hw hS
set_option maxHeartbeats 4000000 in
set_option maxRecDepth 100000 in
theorem m_X11_mend (l : Launch) (E : Ev) {x1 : Int32}  {s0 sz : St} {rz : Int32} (hf : f_X11_mend x1 s0 = some (rz, sz)) : MM l E sh2 yX11_mend cX11_mend 2 (some .int) (rmd 3) [.ref (E.2.2.1 0), .int x1] s0 (some (.int rz)) sz := by
  unfold f_X11_mend at hf
  refine z_enter (by decide +kernel) (Nat.le_of_ble_eq_true rfl) ?_
  intro p e s m args below meth c ls hC hr hlocks hw hS hl
  have hC : Cx p s m args c cX11_mend 2 "FuseBox" E := hC
  obtain ⟨hx, hb, hml, hown, hts, hTB⟩ := id hC
  have hl : lv_has ls 2 [(0, .ref (E.2.2.1 0)), (1, .int x1)] := hl
  refine lv_aload_n hx hb dX11_mend_0 rfl (lv_at hl 0 rfl) ?_
  refine lv_iload_n hx hb dX11_mend_1 rfl (lv_at hl 1 rfl) ?_
  obtain ⟨r_2, s_1, hc, hf⟩ := ok_bd hf
  refine z_cV hC hl.1 hw hS (As := [.int x1]) (rest := []) (m_X11_noLine l E  hc) rfl rfl gc156 gc157 ⟨Nat.le_of_ble_eq_true rfl, Nat.le_of_ble_eq_true rfl⟩ ⟨Nat.le_of_ble_eq_true rfl, Nat.le_of_ble_eq_true rfl⟩ rfl rfl (Nat.le_of_ble_eq_true rfl) dX11_mend_2 (fun H locs hw hS => ?_)
  clear hc
  have hif := ok_if hf
  refine lv_if_eq (tgt := 11) hx hb dX11_mend_5 (by decide) (fun hcd => ?_) (fun hcd => ?_)
  · have hf := hif.1 hcd
    clear hif
    refine lv_aload_n hx hb dX11_mend_11 rfl (lv_at hl 0 rfl) ?_
    refine gFuseBox_now hC hw wd354 dX11_mend_12 ?_
    refine lv_iload_n hx hb dX11_mend_15 rfl (lv_at hl 1 rfl) ?_
    obtain ⟨r_4, s_3, hc, hf⟩ := ok_bd hf
    refine z_cV hC hl.1 hw hS (As := [.int x1]) (rest := []) (m_X3_isDead l E isH_19 hc) (sH isH_19).1 rfl gc158 gc23 ⟨Nat.le_of_ble_eq_true rfl, Nat.le_of_ble_eq_true rfl⟩ ⟨Nat.le_of_ble_eq_true rfl, Nat.le_of_ble_eq_true rfl⟩ rfl rfl (Nat.le_of_ble_eq_true rfl) dX11_mend_16 (fun H locs hw hS => ?_)
    clear hc
    have hif := ok_if hf
    refine lv_if_ne (tgt := 25) hx hb dX11_mend_19 (by decide) (fun hcd => ?_) (fun hcd => ?_)
    · have hf := hif.1 hcd
      clear hif
      refine lv_aload_n hx hb dX11_mend_25 rfl (lv_at hl 0 rfl) ?_
      obtain ⟨s_5, hc, hf⟩ := ok_bind hf
      refine z_cV hC hl.1 hw hS (As := []) (rest := []) (m_X11_keepAct l E  hc) rfl rfl gc147 gc148 ⟨Nat.le_of_ble_eq_true rfl, Nat.le_of_ble_eq_true rfl⟩ ⟨Nat.le_of_ble_eq_true rfl, Nat.le_of_ble_eq_true rfl⟩ rfl rfl (Nat.le_of_ble_eq_true rfl) dX11_mend_26 (fun H locs hw hS => ?_)
      clear hc
      refine lv_aload_n hx hb dX11_mend_29 rfl (lv_at hl 0 rfl) ?_
      refine gFuseBox_now hC hw wd354 dX11_mend_30 ?_
      refine lv_iload_n hx hb dX11_mend_33 rfl (lv_at hl 1 rfl) ?_
      obtain ⟨s_6, hc, hf⟩ := ok_bind hf
      refine z_cV hC hl.1 hw hS (As := [.int x1]) (rest := []) (m_X3_mendLine l E isH_19 hc) (sH isH_19).1 rfl gc159 gc54 ⟨Nat.le_of_ble_eq_true rfl, Nat.le_of_ble_eq_true rfl⟩ ⟨Nat.le_of_ble_eq_true rfl, Nat.le_of_ble_eq_true rfl⟩ rfl rfl (Nat.le_of_ble_eq_true rfl) dX11_mend_34 (fun H locs hw hS => ?_)
      clear hc
      refine lv_aload_n hx hb dX11_mend_37 rfl (lv_at hl 0 rfl) ?_
      refine gFuseBox_now hC hw wd354 dX11_mend_38 ?_
      obtain ⟨r_8, s_7, hc, hf⟩ := ok_bd hf
      refine z_cV hC hl.1 hw hS (As := []) (rest := []) (m_X3_deadLines l E isH_19 hc) (sH isH_19).1 rfl gc160 gc161 ⟨Nat.le_of_ble_eq_true rfl, Nat.le_of_ble_eq_true rfl⟩ ⟨Nat.le_of_ble_eq_true rfl, Nat.le_of_ble_eq_true rfl⟩ rfl rfl (Nat.le_of_ble_eq_true rfl) dX11_mend_41 (fun H locs hw hS => ?_)
      clear hc
      exact z_iretE hC hlocks hw hS hf hr rfl dX11_mend_44
    · have hf := hif.2 (fun q => q hcd)
      clear hif
      refine lv_ldc (v := -1000002) hx hb hown (hts _ wd382) dX11_mend_22 ?_
      exact z_iretE hC hlocks hw hS hf hr rfl dX11_mend_24
  · have hf := hif.2 hcd
    clear hif
    refine lv_ldc (v := -1000001) hx hb hown (hts _ wd305) dX11_mend_8 ?_
    exact z_iretE hC hlocks hw hS hf hr rfl dX11_mend_10
set_option maxHeartbeats 4000000 in
set_option maxRecDepth 100000 in
theorem m_X11_mains (l : Launch) (E : Ev)   {s0 sz : St} {rz : Int32} (hf : f_X11_mains s0 = some (rz, sz)) : MM l E sh2 yX11_mains cX11_mains 1 (some .int) (rmd 3) [.ref (E.2.2.1 0)] s0 (some (.int rz)) sz := by
  unfold f_X11_mains at hf
  refine z_enter (by decide +kernel) (Nat.le_of_ble_eq_true rfl) ?_
  intro p e s m args below meth c ls hC hr hlocks hw hS hl
  have hC : Cx p s m args c cX11_mains 1 "FuseBox" E := hC
  obtain ⟨hx, hb, hml, hown, hts, hTB⟩ := id hC
  have hl : lv_has ls 1 [(0, .ref (E.2.2.1 0))] := hl
  refine lv_aload_n hx hb dX11_mains_0 rfl (lv_at hl 0 rfl) ?_
  obtain ⟨r_2, s_1, hc, hf⟩ := ok_bd hf
  refine z_cV hC hl.1 hw hS (As := []) (rest := []) (m_X11_noHouse l E  hc) rfl rfl gc143 gc144 ⟨Nat.le_of_ble_eq_true rfl, Nat.le_of_ble_eq_true rfl⟩ ⟨Nat.le_of_ble_eq_true rfl, Nat.le_of_ble_eq_true rfl⟩ rfl rfl (Nat.le_of_ble_eq_true rfl) dX11_mains_1 (fun H locs hw hS => ?_)
  clear hc
  obtain ⟨j17, ej17, hf⟩ := ok_lt hf
  have J17 : ∀ (s_3 : St), j17 s_3 = some (rz, sz) → ∀ (H : Heap) (locs : List Loc) (ls : Array Slot), lv_has ls 1 [] → World E sh2 s_3 H → va_S E.2.2.2 s.heap H locs → W p l e (rmd 3) s m args below meth c H locs 0 0 (MQ below (QW E sh2 (some (.int rz)) sz) args s 0 0 E.2.2.2) (F0 m 17 ls []) := by
    intro s_3 hf H locs ls hl hw hS
    subst ej17
    refine lv_ldc (v := -1000002) hx hb hown (hts _ wd382) dX11_mains_17 ?_
    exact z_iretE hC hlocks hw hS hf hr rfl dX11_mains_19
  clear ej17
  have hif := ok_if hf
  refine lv_if_ne (tgt := 17) hx hb dX11_mains_4 (by decide) (fun hcd => ?_) (fun hcd => ?_)
  · have hf := hif.1 hcd
    clear hif
    exact J17 _ hf _ _ ls (lv_sub hl [] rfl) hw hS
  · have hf := hif.2 (fun q => q hcd)
    clear hif
    refine lv_aload_n hx hb dX11_mains_7 rfl (lv_at hl 0 rfl) ?_
    refine gFuseBox_now hC hw wd354 dX11_mains_8 ?_
    refine gHouse_mainIn hC hw isH_19 wd405 dX11_mains_11 ?_
    have hif := ok_if hf
    refine lv_if_eq (tgt := 20) hx hb dX11_mains_14 (by decide) (fun hcd => ?_) (fun hcd => ?_)
    · have hf := hif.1 hcd
      clear hif
      refine lv_aload_n hx hb dX11_mains_20 rfl (lv_at hl 0 rfl) ?_
      obtain ⟨s_4, hc, hf⟩ := ok_bind hf
      refine z_cV hC hl.1 hw hS (As := []) (rest := []) (m_X11_keepAct l E  hc) rfl rfl gc147 gc148 ⟨Nat.le_of_ble_eq_true rfl, Nat.le_of_ble_eq_true rfl⟩ ⟨Nat.le_of_ble_eq_true rfl, Nat.le_of_ble_eq_true rfl⟩ rfl rfl (Nat.le_of_ble_eq_true rfl) dX11_mains_21 (fun H locs hw hS => ?_)
      clear hc
      refine lv_aload_n hx hb dX11_mains_24 rfl (lv_at hl 0 rfl) ?_
      refine gFuseBox_now hC hw wd354 dX11_mains_25 ?_
      refine lv_iconst (v := 1) hx hb dX11_mains_28 (by decide) ?_
      obtain ⟨s_5, en, hf⟩ := ok_lt hf
      refine pHouse_mainIn hC hw hS isH_19 (by decide) wd405 en dX11_mains_29 (fun H locs hw hS => ?_)
      clear en
      refine lv_aload_n hx hb dX11_mains_32 rfl (lv_at hl 0 rfl) ?_
      refine gFuseBox_now hC hw wd354 dX11_mains_33 ?_
      obtain ⟨r_7, s_6, hc, hf⟩ := ok_bd hf
      refine z_cV hC hl.1 hw hS (As := []) (rest := []) (m_X3_liveLines l E isH_19 hc) (sH isH_19).1 rfl gc145 gc146 ⟨Nat.le_of_ble_eq_true rfl, Nat.le_of_ble_eq_true rfl⟩ ⟨Nat.le_of_ble_eq_true rfl, Nat.le_of_ble_eq_true rfl⟩ rfl rfl (Nat.le_of_ble_eq_true rfl) dX11_mains_36 (fun H locs hw hS => ?_)
      clear hc
      exact z_iretE hC hlocks hw hS hf hr rfl dX11_mains_39
    · have hf := hif.2 hcd
      clear hif
      exact J17 _ hf _ _ ls (lv_sub hl [] rfl) hw hS
set_option maxHeartbeats 4000000 in
set_option maxRecDepth 100000 in
theorem m_X11_rate (l : Launch) (E : Ev) {x1 : Int32} {x2 : Int32}  {s0 sz : St} {rz : Int32} (hf : f_X11_rate x1 x2 s0 = some (rz, sz)) : MM l E sh2 yX11_rate cX11_rate 4 (some .int) (rmd 3) [.ref (E.2.2.1 0), .int x1, .int x2] s0 (some (.int rz)) sz := by
  unfold f_X11_rate at hf
  refine z_enter (by decide +kernel) (Nat.le_of_ble_eq_true rfl) ?_
  intro p e s m args below meth c ls hC hr hlocks hw hS hl
  have hC : Cx p s m args c cX11_rate 4 "FuseBox" E := hC
  obtain ⟨hx, hb, hml, hown, hts, hTB⟩ := id hC
  have hl : lv_has ls 4 [(0, .ref (E.2.2.1 0)), (1, .int x1), (2, .int x2)] := hl
  refine lv_aload_n hx hb dX11_rate_0 rfl (lv_at hl 0 rfl) ?_
  refine lv_iload_n hx hb dX11_rate_1 rfl (lv_at hl 1 rfl) ?_
  obtain ⟨r_2, s_1, hc, hf⟩ := ok_bd hf
  refine z_cV hC hl.1 hw hS (As := [.int x1]) (rest := []) (m_X11_noLine l E  hc) rfl rfl gc156 gc157 ⟨Nat.le_of_ble_eq_true rfl, Nat.le_of_ble_eq_true rfl⟩ ⟨Nat.le_of_ble_eq_true rfl, Nat.le_of_ble_eq_true rfl⟩ rfl rfl (Nat.le_of_ble_eq_true rfl) dX11_rate_2 (fun H locs hw hS => ?_)
  clear hc
  obtain ⟨j19, ej19, hf⟩ := ok_lt hf
  have J19 : ∀ (s_3 : St), j19 s_3 = some (rz, sz) → ∀ (H : Heap) (locs : List Loc) (ls : Array Slot), lv_has ls 4 [] → World E sh2 s_3 H → va_S E.2.2.2 s.heap H locs → W p l e (rmd 3) s m args below meth c H locs 0 0 (MQ below (QW E sh2 (some (.int rz)) sz) args s 0 0 E.2.2.2) (F0 m 19 ls []) := by
    intro s_3 hf H locs ls hl hw hS
    subst ej19
    refine lv_ldc (v := -1000001) hx hb hown (hts _ wd305) dX11_rate_19 ?_
    exact z_iretE hC hlocks hw hS hf hr rfl dX11_rate_21
  clear ej19
  have hif := ok_if hf
  refine lv_if_ne (tgt := 19) hx hb dX11_rate_5 (by decide) (fun hcd => ?_) (fun hcd => ?_)
  · have hf := hif.1 hcd
    clear hif
    exact J19 _ hf _ _ ls (lv_sub hl [] rfl) hw hS
  · have hf := hif.2 (fun q => q hcd)
    clear hif
    refine lv_iload_n hx hb dX11_rate_8 rfl (lv_at hl 2 rfl) ?_
    refine lv_iconst (v := 1) hx hb dX11_rate_9 (by decide) ?_
    have hif := ok_if hf
    refine lv_icmp_lt (tgt := 19) hx hb dX11_rate_10 (by decide) (fun hcd => ?_) (fun hcd => ?_)
    · have hf := hif.1 hcd
      clear hif
      exact J19 _ hf _ _ ls (lv_sub hl [] rfl) hw hS
    · have hf := hif.2 hcd
      clear hif
      refine lv_iload_n hx hb dX11_rate_13 rfl (lv_at hl 2 rfl) ?_
      refine lv_bipush (v := 20) hx hb dX11_rate_14 (by decide) ?_
      have hif := ok_if hf
      refine lv_icmp_le (tgt := 22) hx hb dX11_rate_16 (by decide) (fun hcd => ?_) (fun hcd => ?_)
      · have hf := hif.1 hcd
        clear hif
        refine lv_aload_n hx hb dX11_rate_22 rfl (lv_at hl 0 rfl) ?_
        refine gFuseBox_now hC hw wd354 dX11_rate_23 ?_
        refine gHouse_rate hC hw isH_19 wd406 dX11_rate_26 ?_
        refine lv_iload_n hx hb dX11_rate_29 rfl (lv_at hl 1 rfl) ?_
        obtain ⟨hin, hf⟩ := ok_chk hf
        refine z_iald hC hw (sH isH_19).2.2.1 hin dX11_rate_30 ?_
        obtain ⟨v3_4, en, hf⟩ := ok_lt hf
        refine z_nm en ?_
        clear en
        refine lv_istore_n (lv' := [(3, .int v3_4), (0, .ref (E.2.2.1 0)), (1, .int x1), (2, .int x2)]) hx hb dX11_rate_31 rfl hl (by decide) rfl (fun ls hl => ?_)
        refine lv_aload_n hx hb dX11_rate_32 rfl (lv_at hl 1 rfl) ?_
        obtain ⟨s_5, hc, hf⟩ := ok_bind hf
        refine z_cV hC hl.1 hw hS (As := []) (rest := []) (m_X11_keepAct l E  hc) rfl rfl gc147 gc148 ⟨Nat.le_of_ble_eq_true rfl, Nat.le_of_ble_eq_true rfl⟩ ⟨Nat.le_of_ble_eq_true rfl, Nat.le_of_ble_eq_true rfl⟩ rfl rfl (Nat.le_of_ble_eq_true rfl) dX11_rate_33 (fun H locs hw hS => ?_)
        clear hc
        refine lv_aload_n hx hb dX11_rate_36 rfl (lv_at hl 1 rfl) ?_
        refine gFuseBox_now hC hw wd354 dX11_rate_37 ?_
        refine gHouse_rate hC hw isH_19 wd406 dX11_rate_40 ?_
        refine lv_iload_n hx hb dX11_rate_43 rfl (lv_at hl 2 rfl) ?_
        refine lv_iload_n hx hb dX11_rate_44 rfl (lv_at hl 3 rfl) ?_
        obtain ⟨hin, hf⟩ := ok_chk hf
        obtain ⟨s_6, en, hf⟩ := ok_lt hf
        refine z_iast hC hw hS (sH isH_19).2.2.1 hin en dX11_rate_45 (fun H locs hw hS => ?_)
        clear en
        refine lv_iload_n hx hb dX11_rate_46 rfl (lv_at hl 0 rfl) ?_
        exact z_iretE hC hlocks hw hS hf hr rfl dX11_rate_47
      · have hf := hif.2 hcd
        clear hif
        exact J19 _ hf _ _ ls (lv_sub hl [] rfl) hw hS
set_option maxHeartbeats 4000000 in
set_option maxRecDepth 100000 in
theorem m_X11_undo (l : Launch) (E : Ev)   {s0 sz : St} {rz : Int32} (hf : f_X11_undo s0 = some (rz, sz)) : MM l E sh2 yX11_undo cX11_undo 1 (some .int) (rmd 2) [.ref (E.2.2.1 0)] s0 (some (.int rz)) sz := by
  unfold f_X11_undo at hf
  refine z_enter (by decide +kernel) (Nat.le_of_ble_eq_true rfl) ?_
  intro p e s m args below meth c ls hC hr hlocks hw hS hl
  have hC : Cx p s m args c cX11_undo 1 "FuseBox" E := hC
  obtain ⟨hx, hb, hml, hown, hts, hTB⟩ := id hC
  have hl : lv_has ls 1 [(0, .ref (E.2.2.1 0))] := hl
  refine lv_aload_n hx hb dX11_undo_0 rfl (lv_at hl 0 rfl) ?_
  refine gFuseBox_actsKept hC hw wd348 dX11_undo_1 ?_
  have hif := ok_if hf
  refine lv_if_gt (tgt := 10) hx hb dX11_undo_4 (by decide) (fun hcd => ?_) (fun hcd => ?_)
  · have hf := hif.1 hcd
    clear hif
    refine lv_aload_n hx hb dX11_undo_10 rfl (lv_at hl 0 rfl) ?_
    refine lv_dup hx hb dX11_undo_11 rfl ?_
    refine gFuseBox_actsKept hC hw wd348 dX11_undo_12 ?_
    refine lv_iconst (v := 1) hx hb dX11_undo_15 (by decide) ?_
    refine lv_isub hx hb dX11_undo_16 ?_
    obtain ⟨s_1, en, hf⟩ := ok_lt hf
    refine pFuseBox_actsKept hC hw hS wd348 en dX11_undo_17 (fun H locs hw hS => ?_)
    clear en
    refine lv_aload_n hx hb dX11_undo_20 rfl (lv_at hl 0 rfl) ?_
    refine gFuseBox_now hC hw wd354 dX11_undo_21 ?_
    refine lv_aload_n hx hb dX11_undo_24 rfl (lv_at hl 0 rfl) ?_
    refine gFuseBox_acts hC hw wd367 dX11_undo_25 ?_
    refine lv_aload_n hx hb dX11_undo_28 rfl (lv_at hl 0 rfl) ?_
    refine gFuseBox_oldestAct hC hw wd347 dX11_undo_29 ?_
    refine lv_aload_n hx hb dX11_undo_32 rfl (lv_at hl 0 rfl) ?_
    refine gFuseBox_actsKept hC hw wd348 dX11_undo_33 ?_
    refine lv_iadd hx hb dX11_undo_36 ?_
    refine lv_bipush (v := 24) hx hb dX11_undo_37 (by decide) ?_
    refine lv_irem hx hb dX11_undo_39 (by decide) ?_
    obtain ⟨hin, hf⟩ := ok_chk hf
    refine z_aact hC hw hin dX11_undo_40 ?_
    obtain ⟨a_2, en, hf⟩ := ok_lt hf
    have ta_2 : isH a_2 := by rw [en]; exact (actA_ok hin).2
    refine z_nma en ?_
    clear en
    obtain ⟨s_3, hc, hf⟩ := ok_bind hf
    refine z_cV hC hl.1 hw hS (As := [.ref (E.2.2.1 a_2)]) (rest := []) (m_X3_become l E isH_19 ta_2 hc) (sH isH_19).1 rfl gc139 gc140 ⟨Nat.le_of_ble_eq_true rfl, Nat.le_of_ble_eq_true rfl⟩ ⟨Nat.le_of_ble_eq_true rfl, Nat.le_of_ble_eq_true rfl⟩ rfl rfl (Nat.le_of_ble_eq_true rfl) dX11_undo_41 (fun H locs hw hS => ?_)
    clear hc
    refine lv_aload_n hx hb dX11_undo_44 rfl (lv_at hl 0 rfl) ?_
    refine gFuseBox_actsKept hC hw wd348 dX11_undo_45 ?_
    exact z_iretE hC hlocks hw hS hf hr rfl dX11_undo_48
  · have hf := hif.2 hcd
    clear hif
    refine lv_ldc (v := -1000002) hx hb hown (hts _ wd382) dX11_undo_7 ?_
    exact z_iretE hC hlocks hw hS hf hr rfl dX11_undo_9
set_option maxHeartbeats 4000000 in
set_option maxRecDepth 100000 in
theorem m_X11_line (l : Launch) (E : Ev) {x1 : Int32} {x2 : Int32}  {s0 sz : St} {rz : Int32} (hf : f_X11_line x1 x2 s0 = some (rz, sz)) : MM l E sh2 yX11_line cX11_line 3 (some .int) (rmd 5) [.ref (E.2.2.1 0), .int x1, .int x2] s0 (some (.int rz)) sz := by
  unfold f_X11_line at hf
  refine z_enter (by decide +kernel) (Nat.le_of_ble_eq_true rfl) ?_
  intro p e s m args below meth c ls hC hr hlocks hw hS hl
  have hC : Cx p s m args c cX11_line 3 "FuseBox" E := hC
  obtain ⟨hx, hb, hml, hown, hts, hTB⟩ := id hC
  have hl : lv_has ls 3 [(0, .ref (E.2.2.1 0)), (1, .int x1), (2, .int x2)] := hl
  refine lv_aload_n hx hb dX11_line_0 rfl (lv_at hl 0 rfl) ?_
  refine lv_iload_n hx hb dX11_line_1 rfl (lv_at hl 1 rfl) ?_
  obtain ⟨r_2, s_1, hc, hf⟩ := ok_bd hf
  refine z_cV hC hl.1 hw hS (As := [.int x1]) (rest := []) (m_X11_noLine l E  hc) rfl rfl gc156 gc157 ⟨Nat.le_of_ble_eq_true rfl, Nat.le_of_ble_eq_true rfl⟩ ⟨Nat.le_of_ble_eq_true rfl, Nat.le_of_ble_eq_true rfl⟩ rfl rfl (Nat.le_of_ble_eq_true rfl) dX11_line_2 (fun H locs hw hS => ?_)
  clear hc
  have hif := ok_if hf
  refine lv_if_eq (tgt := 11) hx hb dX11_line_5 (by decide) (fun hcd => ?_) (fun hcd => ?_)
  · have hf := hif.1 hcd
    clear hif
    refine lv_iload_n hx hb dX11_line_11 rfl (lv_at hl 2 rfl) ?_
    have hif := ok_if hf
    by_cases hk0 : x2 = 0
    · have hf := hif.1 hk0
      clear hif
      refine lv_tableIn (off := 40) (tgt := 52) hx hb dX11_line_12 (by rw [hk0]; decide) (by rw [hk0]; decide) (by rw [hk0]; rfl) (by decide) ?_
      refine lv_aload_n hx hb dX11_line_52 rfl (lv_at hl 0 rfl) ?_
      refine gFuseBox_now hC hw wd354 dX11_line_53 ?_
      refine gHouse_rate hC hw isH_19 wd406 dX11_line_56 ?_
      refine lv_iload_n hx hb dX11_line_59 rfl (lv_at hl 1 rfl) ?_
      obtain ⟨hin, hf⟩ := ok_chk hf
      refine z_iald hC hw (sH isH_19).2.2.1 hin dX11_line_60 ?_
      exact z_iretE hC hlocks hw hS hf hr rfl dX11_line_61
    replace hf := hif.2 hk0
    clear hif
    have hif := ok_if hf
    by_cases hk1 : x2 = 1
    · have hf := hif.1 hk1
      clear hif
      refine lv_tableIn (off := 50) (tgt := 62) hx hb dX11_line_12 (by rw [hk1]; decide) (by rw [hk1]; decide) (by rw [hk1]; rfl) (by decide) ?_
      refine lv_aload_n hx hb dX11_line_62 rfl (lv_at hl 0 rfl) ?_
      refine gFuseBox_now hC hw wd354 dX11_line_63 ?_
      refine gHouse_heat hC hw isH_19 wd407 dX11_line_66 ?_
      refine lv_iload_n hx hb dX11_line_69 rfl (lv_at hl 1 rfl) ?_
      obtain ⟨hin, hf⟩ := ok_chk hf
      refine z_iald hC hw (sH isH_19).2.2.2.1 hin dX11_line_70 ?_
      exact z_iretE hC hlocks hw hS hf hr rfl dX11_line_71
    replace hf := hif.2 hk1
    clear hif
    have hif := ok_if hf
    by_cases hk2 : x2 = 2
    · have hf := hif.1 hk2
      clear hif
      refine lv_tableIn (off := 60) (tgt := 72) hx hb dX11_line_12 (by rw [hk2]; decide) (by rw [hk2]; decide) (by rw [hk2]; rfl) (by decide) ?_
      refine lv_aload_n hx hb dX11_line_72 rfl (lv_at hl 0 rfl) ?_
      refine gFuseBox_now hC hw wd354 dX11_line_73 ?_
      refine gHouse_dead hC hw isH_19 wd408 dX11_line_76 ?_
      refine lv_iload_n hx hb dX11_line_79 rfl (lv_at hl 1 rfl) ?_
      obtain ⟨hin, hf⟩ := ok_chk hf
      refine z_iald hC hw (sH isH_19).2.2.2.2.1 hin dX11_line_80 ?_
      exact z_iretE hC hlocks hw hS hf hr rfl dX11_line_81
    replace hf := hif.2 hk2
    clear hif
    have hif := ok_if hf
    by_cases hk3 : x2 = 3
    · have hf := hif.1 hk3
      clear hif
      refine lv_tableIn (off := 70) (tgt := 82) hx hb dX11_line_12 (by rw [hk3]; decide) (by rw [hk3]; decide) (by rw [hk3]; rfl) (by decide) ?_
      refine lv_aload_n hx hb dX11_line_82 rfl (lv_at hl 0 rfl) ?_
      refine gFuseBox_now hC hw wd354 dX11_line_83 ?_
      refine lv_iload_n hx hb dX11_line_86 rfl (lv_at hl 1 rfl) ?_
      obtain ⟨r_4, s_3, hc, hf⟩ := ok_bd hf
      refine z_cV hC hl.1 hw hS (As := [.int x1]) (rest := []) (m_X3_isLive l E isH_19 hc) (sH isH_19).1 rfl gc162 gc21 ⟨Nat.le_of_ble_eq_true rfl, Nat.le_of_ble_eq_true rfl⟩ ⟨Nat.le_of_ble_eq_true rfl, Nat.le_of_ble_eq_true rfl⟩ rfl rfl (Nat.le_of_ble_eq_true rfl) dX11_line_87 (fun H locs hw hS => ?_)
      clear hc
      obtain ⟨j98, ej98, hf⟩ := ok_lt hf
      have J98 : ∀ (k_5 : Int32) (s_6 : St), j98 k_5 s_6 = some (rz, sz) → ∀ (H : Heap) (locs : List Loc) (ls : Array Slot), lv_has ls 3 [] → World E sh2 s_6 H → va_S E.2.2.2 s.heap H locs → W p l e (rmd 5) s m args below meth c H locs 0 0 (MQ below (QW E sh2 (some (.int rz)) sz) args s 0 0 E.2.2.2) (F0 m 98 ls [.int k_5]) := by
        intro k_5 s_6 hf H locs ls hl hw hS
        subst ej98
        exact z_iretE hC hlocks hw hS hf hr rfl dX11_line_98
      clear ej98
      have hif := ok_if hf
      refine lv_if_eq (tgt := 97) hx hb dX11_line_90 (by decide) (fun hcd => ?_) (fun hcd => ?_)
      · have hf := hif.1 hcd
        clear hif
        refine lv_iconst (v := 0) hx hb dX11_line_97 (by decide) ?_
        exact J98 _ _ hf _ _ ls (lv_sub hl [] rfl) hw hS
      · have hf := hif.2 hcd
        clear hif
        refine lv_iconst (v := 1) hx hb dX11_line_93 (by decide) ?_
        refine lv_goto (tgt := 98) hx hb dX11_line_94 (by decide) ?_
        exact J98 _ _ hf _ _ ls (lv_sub hl [] rfl) hw hS
    replace hf := hif.2 hk3
    clear hif
    have hif := ok_if hf
    by_cases hk4 : x2 = 4
    · have hf := hif.1 hk4
      clear hif
      refine lv_tableIn (off := 87) (tgt := 99) hx hb dX11_line_12 (by rw [hk4]; decide) (by rw [hk4]; decide) (by rw [hk4]; rfl) (by decide) ?_
      refine lv_aload_n hx hb dX11_line_99 rfl (lv_at hl 0 rfl) ?_
      refine gFuseBox_now hC hw wd354 dX11_line_100 ?_
      refine lv_iload_n hx hb dX11_line_103 rfl (lv_at hl 1 rfl) ?_
      obtain ⟨r_8, s_7, hc, hf⟩ := ok_bd hf
      refine z_cV hC hl.1 hw hS (As := [.int x1]) (rest := []) (m_X3_flowOf l E isH_19 hc) (sH isH_19).1 rfl gc163 gc164 ⟨Nat.le_of_ble_eq_true rfl, Nat.le_of_ble_eq_true rfl⟩ ⟨Nat.le_of_ble_eq_true rfl, Nat.le_of_ble_eq_true rfl⟩ rfl rfl (Nat.le_of_ble_eq_true rfl) dX11_line_104 (fun H locs hw hS => ?_)
      clear hc
      exact z_iretE hC hlocks hw hS hf hr rfl dX11_line_107
    replace hf := hif.2 hk4
    clear hif
    have hif := ok_if hf
    by_cases hk5 : x2 = 5
    · have hf := hif.1 hk5
      clear hif
      refine lv_tableIn (off := 96) (tgt := 108) hx hb dX11_line_12 (by rw [hk5]; decide) (by rw [hk5]; decide) (by rw [hk5]; rfl) (by decide) ?_
      refine lv_aload_n hx hb dX11_line_108 rfl (lv_at hl 0 rfl) ?_
      refine gFuseBox_now hC hw wd354 dX11_line_109 ?_
      refine lv_iload_n hx hb dX11_line_112 rfl (lv_at hl 1 rfl) ?_
      obtain ⟨r_10, s_9, hc, hf⟩ := ok_bd hf
      refine z_cV hC hl.1 hw hS (As := [.int x1]) (rest := []) (m_X3_pluggedInto l E isH_19 hc) (sH isH_19).1 rfl gc165 gc166 ⟨Nat.le_of_ble_eq_true rfl, Nat.le_of_ble_eq_true rfl⟩ ⟨Nat.le_of_ble_eq_true rfl, Nat.le_of_ble_eq_true rfl⟩ rfl rfl (Nat.le_of_ble_eq_true rfl) dX11_line_113 (fun H locs hw hS => ?_)
      clear hc
      exact z_iretE hC hlocks hw hS hf hr rfl dX11_line_116
    replace hf := hif.2 hk5
    clear hif
    refine lv_tableOut (tgt := 117) hx hb dX11_line_12 (by have q0 := lv_neT hk0 (by decide : (0 : Int32).toInt = 0); have q1 := lv_neT hk1 (by decide : (1 : Int32).toInt = 1); have q2 := lv_neT hk2 (by decide : (2 : Int32).toInt = 2); have q3 := lv_neT hk3 (by decide : (3 : Int32).toInt = 3); have q4 := lv_neT hk4 (by decide : (4 : Int32).toInt = 4); have q5 := lv_neT hk5 (by decide : (5 : Int32).toInt = 5); omega) (by decide) ?_
    refine lv_ldc (v := -1000001) hx hb hown (hts _ wd305) dX11_line_117 ?_
    exact z_iretE hC hlocks hw hS hf hr rfl dX11_line_119
  · have hf := hif.2 hcd
    clear hif
    refine lv_ldc (v := -1000001) hx hb hown (hts _ wd305) dX11_line_8 ?_
    exact z_iretE hC hlocks hw hS hf hr rfl dX11_line_10
set_option maxHeartbeats 4000000 in
set_option maxRecDepth 100000 in
theorem m_X11_thing (l : Launch) (E : Ev) {x1 : Int32} {x2 : Int32}  {s0 sz : St} {rz : Int32} (hf : f_X11_thing x1 x2 s0 = some (rz, sz)) : MM l E sh2 yX11_thing cX11_thing 3 (some .int) (rmd 3) [.ref (E.2.2.1 0), .int x1, .int x2] s0 (some (.int rz)) sz := by
  unfold f_X11_thing at hf
  refine z_enter (by decide +kernel) (Nat.le_of_ble_eq_true rfl) ?_
  intro p e s m args below meth c ls hC hr hlocks hw hS hl
  have hC : Cx p s m args c cX11_thing 3 "FuseBox" E := hC
  obtain ⟨hx, hb, hml, hown, hts, hTB⟩ := id hC
  have hl : lv_has ls 3 [(0, .ref (E.2.2.1 0)), (1, .int x1), (2, .int x2)] := hl
  refine lv_aload_n hx hb dX11_thing_0 rfl (lv_at hl 0 rfl) ?_
  refine lv_iload_n hx hb dX11_thing_1 rfl (lv_at hl 1 rfl) ?_
  obtain ⟨r_2, s_1, hc, hf⟩ := ok_bd hf
  refine z_cV hC hl.1 hw hS (As := [.int x1]) (rest := []) (m_X11_noThing l E  hc) rfl rfl gc150 gc151 ⟨Nat.le_of_ble_eq_true rfl, Nat.le_of_ble_eq_true rfl⟩ ⟨Nat.le_of_ble_eq_true rfl, Nat.le_of_ble_eq_true rfl⟩ rfl rfl (Nat.le_of_ble_eq_true rfl) dX11_thing_2 (fun H locs hw hS => ?_)
  clear hc
  have hif := ok_if hf
  refine lv_if_eq (tgt := 11) hx hb dX11_thing_5 (by decide) (fun hcd => ?_) (fun hcd => ?_)
  · have hf := hif.1 hcd
    clear hif
    refine lv_iload_n hx hb dX11_thing_11 rfl (lv_at hl 2 rfl) ?_
    have hif := ok_if hf
    by_cases hk0 : x2 = 0
    · have hf := hif.1 hk0
      clear hif
      refine lv_tableIn (off := 32) (tgt := 44) hx hb dX11_thing_12 (by rw [hk0]; decide) (by rw [hk0]; decide) (by rw [hk0]; rfl) (by decide) ?_
      refine lv_aload_n hx hb dX11_thing_44 rfl (lv_at hl 0 rfl) ?_
      refine gFuseBox_now hC hw wd354 dX11_thing_45 ?_
      refine gHouse_plugged hC hw isH_19 wd398 dX11_thing_48 ?_
      refine lv_iload_n hx hb dX11_thing_51 rfl (lv_at hl 1 rfl) ?_
      obtain ⟨hin, hf⟩ := ok_chk hf
      refine z_iald hC hw (sH isH_19).2.2.2.2.2.2.1 hin dX11_thing_52 ?_
      exact z_iretE hC hlocks hw hS hf hr rfl dX11_thing_53
    replace hf := hif.2 hk0
    clear hif
    have hif := ok_if hf
    by_cases hk1 : x2 = 1
    · have hf := hif.1 hk1
      clear hif
      refine lv_tableIn (off := 42) (tgt := 54) hx hb dX11_thing_12 (by rw [hk1]; decide) (by rw [hk1]; decide) (by rw [hk1]; rfl) (by decide) ?_
      refine lv_aload_n hx hb dX11_thing_54 rfl (lv_at hl 0 rfl) ?_
      refine gFuseBox_now hC hw wd354 dX11_thing_55 ?_
      refine gHouse_load hC hw isH_19 wd418 dX11_thing_58 ?_
      refine lv_iload_n hx hb dX11_thing_61 rfl (lv_at hl 1 rfl) ?_
      obtain ⟨hin, hf⟩ := ok_chk hf
      refine z_iald hC hw (sH isH_19).2.2.2.2.2.2.2 hin dX11_thing_62 ?_
      exact z_iretE hC hlocks hw hS hf hr rfl dX11_thing_63
    replace hf := hif.2 hk1
    clear hif
    have hif := ok_if hf
    by_cases hk2 : x2 = 2
    · have hf := hif.1 hk2
      clear hif
      refine lv_tableIn (off := 52) (tgt := 64) hx hb dX11_thing_12 (by rw [hk2]; decide) (by rw [hk2]; decide) (by rw [hk2]; rfl) (by decide) ?_
      refine lv_aload_n hx hb dX11_thing_64 rfl (lv_at hl 0 rfl) ?_
      refine gFuseBox_now hC hw wd354 dX11_thing_65 ?_
      refine lv_iload_n hx hb dX11_thing_68 rfl (lv_at hl 1 rfl) ?_
      obtain ⟨r_4, s_3, hc, hf⟩ := ok_bd hf
      refine z_cV hC hl.1 hw hS (As := [.int x1]) (rest := []) (m_X3_isOn l E isH_19 hc) (sH isH_19).1 rfl gc152 gc19 ⟨Nat.le_of_ble_eq_true rfl, Nat.le_of_ble_eq_true rfl⟩ ⟨Nat.le_of_ble_eq_true rfl, Nat.le_of_ble_eq_true rfl⟩ rfl rfl (Nat.le_of_ble_eq_true rfl) dX11_thing_69 (fun H locs hw hS => ?_)
      clear hc
      obtain ⟨j80, ej80, hf⟩ := ok_lt hf
      have J80 : ∀ (k_5 : Int32) (s_6 : St), j80 k_5 s_6 = some (rz, sz) → ∀ (H : Heap) (locs : List Loc) (ls : Array Slot), lv_has ls 3 [] → World E sh2 s_6 H → va_S E.2.2.2 s.heap H locs → W p l e (rmd 3) s m args below meth c H locs 0 0 (MQ below (QW E sh2 (some (.int rz)) sz) args s 0 0 E.2.2.2) (F0 m 80 ls [.int k_5]) := by
        intro k_5 s_6 hf H locs ls hl hw hS
        subst ej80
        exact z_iretE hC hlocks hw hS hf hr rfl dX11_thing_80
      clear ej80
      have hif := ok_if hf
      refine lv_if_eq (tgt := 79) hx hb dX11_thing_72 (by decide) (fun hcd => ?_) (fun hcd => ?_)
      · have hf := hif.1 hcd
        clear hif
        refine lv_iconst (v := 0) hx hb dX11_thing_79 (by decide) ?_
        exact J80 _ _ hf _ _ ls (lv_sub hl [] rfl) hw hS
      · have hf := hif.2 hcd
        clear hif
        refine lv_iconst (v := 1) hx hb dX11_thing_75 (by decide) ?_
        refine lv_goto (tgt := 80) hx hb dX11_thing_76 (by decide) ?_
        exact J80 _ _ hf _ _ ls (lv_sub hl [] rfl) hw hS
    replace hf := hif.2 hk2
    clear hif
    have hif := ok_if hf
    by_cases hk3 : x2 = 3
    · have hf := hif.1 hk3
      clear hif
      refine lv_tableIn (off := 69) (tgt := 81) hx hb dX11_thing_12 (by rw [hk3]; decide) (by rw [hk3]; decide) (by rw [hk3]; rfl) (by decide) ?_
      refine lv_aload_n hx hb dX11_thing_81 rfl (lv_at hl 0 rfl) ?_
      refine gFuseBox_now hC hw wd354 dX11_thing_82 ?_
      refine lv_iload_n hx hb dX11_thing_85 rfl (lv_at hl 1 rfl) ?_
      obtain ⟨r_8, s_7, hc, hf⟩ := ok_bd hf
      refine z_cV hC hl.1 hw hS (As := [.int x1]) (rest := []) (m_X3_runs l E isH_19 hc) (sH isH_19).1 rfl gc167 gc25 ⟨Nat.le_of_ble_eq_true rfl, Nat.le_of_ble_eq_true rfl⟩ ⟨Nat.le_of_ble_eq_true rfl, Nat.le_of_ble_eq_true rfl⟩ rfl rfl (Nat.le_of_ble_eq_true rfl) dX11_thing_86 (fun H locs hw hS => ?_)
      clear hc
      obtain ⟨j97, ej97, hf⟩ := ok_lt hf
      have J97 : ∀ (k_9 : Int32) (s_10 : St), j97 k_9 s_10 = some (rz, sz) → ∀ (H : Heap) (locs : List Loc) (ls : Array Slot), lv_has ls 3 [] → World E sh2 s_10 H → va_S E.2.2.2 s.heap H locs → W p l e (rmd 3) s m args below meth c H locs 0 0 (MQ below (QW E sh2 (some (.int rz)) sz) args s 0 0 E.2.2.2) (F0 m 97 ls [.int k_9]) := by
        intro k_9 s_10 hf H locs ls hl hw hS
        subst ej97
        exact z_iretE hC hlocks hw hS hf hr rfl dX11_thing_97
      clear ej97
      have hif := ok_if hf
      refine lv_if_eq (tgt := 96) hx hb dX11_thing_89 (by decide) (fun hcd => ?_) (fun hcd => ?_)
      · have hf := hif.1 hcd
        clear hif
        refine lv_iconst (v := 0) hx hb dX11_thing_96 (by decide) ?_
        exact J97 _ _ hf _ _ ls (lv_sub hl [] rfl) hw hS
      · have hf := hif.2 hcd
        clear hif
        refine lv_iconst (v := 1) hx hb dX11_thing_92 (by decide) ?_
        refine lv_goto (tgt := 97) hx hb dX11_thing_93 (by decide) ?_
        exact J97 _ _ hf _ _ ls (lv_sub hl [] rfl) hw hS
    replace hf := hif.2 hk3
    clear hif
    refine lv_tableOut (tgt := 98) hx hb dX11_thing_12 (by have q0 := lv_neT hk0 (by decide : (0 : Int32).toInt = 0); have q1 := lv_neT hk1 (by decide : (1 : Int32).toInt = 1); have q2 := lv_neT hk2 (by decide : (2 : Int32).toInt = 2); have q3 := lv_neT hk3 (by decide : (3 : Int32).toInt = 3); omega) (by decide) ?_
    refine lv_ldc (v := -1000001) hx hb hown (hts _ wd305) dX11_thing_98 ?_
    exact z_iretE hC hlocks hw hS hf hr rfl dX11_thing_100
  · have hf := hif.2 hcd
    clear hif
    refine lv_ldc (v := -1000001) hx hb hown (hts _ wd305) dX11_thing_8 ?_
    exact z_iretE hC hlocks hw hS hf hr rfl dX11_thing_10
set_option maxHeartbeats 4000000 in
set_option maxRecDepth 100000 in
theorem m_X11_foretell (l : Launch) (E : Ev) {x1 : Int32}  {s0 sz : St} (hf : f_X11_foretell x1 s0 = some sz) : MM l E sh2 yX11_foretell cX11_foretell 3 none (rmd 5) [.ref (E.2.2.1 0), .int x1] s0 none sz := by
  unfold f_X11_foretell at hf
  refine z_enter (by decide +kernel) (Nat.le_of_ble_eq_true rfl) ?_
  intro p e s m args below meth c ls hC hr hlocks hw hS hl
  have hC : Cx p s m args c cX11_foretell 3 "FuseBox" E := hC
  obtain ⟨hx, hb, hml, hown, hts, hTB⟩ := id hC
  have hl : lv_has ls 3 [(0, .ref (E.2.2.1 0)), (1, .int x1)] := hl
  refine lv_aload_n hx hb dX11_foretell_0 rfl (lv_at hl 0 rfl) ?_
  refine gFuseBox_trial hC hw wd349 dX11_foretell_1 ?_
  refine lv_aload_n hx hb dX11_foretell_4 rfl (lv_at hl 0 rfl) ?_
  refine gFuseBox_now hC hw wd354 dX11_foretell_5 ?_
  obtain ⟨s_1, hc, hf⟩ := ok_bind hf
  refine z_cV hC hl.1 hw hS (As := [.ref (E.2.2.1 19)]) (rest := []) (m_X3_become l E isH_27 isH_19 hc) (sH isH_27).1 rfl gc139 gc140 ⟨Nat.le_of_ble_eq_true rfl, Nat.le_of_ble_eq_true rfl⟩ ⟨Nat.le_of_ble_eq_true rfl, Nat.le_of_ble_eq_true rfl⟩ rfl rfl (Nat.le_of_ble_eq_true rfl) dX11_foretell_8 (fun H locs hw hS => ?_)
  clear hc
  refine lv_iconst (v := 0) hx hb dX11_foretell_11 (by decide) ?_
  obtain ⟨v2_2, en, hf⟩ := ok_lt hf
  refine z_nm en ?_
  clear en
  refine lv_istore_n (lv' := [(2, .int v2_2), (0, .ref (E.2.2.1 0)), (1, .int x1)]) hx hb dX11_foretell_12 rfl hl (by decide) rfl (fun ls hl => ?_)
  obtain ⟨r13, hL13, hf⟩ := ok_bind hf
  have X13_0 : ∀ (s_5 : St), s_5 = r13 → ∀ (H : Heap) (locs : List Loc) (ls : Array Slot), lv_has ls 3 [] → World E sh2 s_5 H → va_S E.2.2.2 s.heap H locs → W p l e (rmd 5) s m args below meth c H locs 0 0 (MQ below (QW E sh2 none sz) args s 0 0 E.2.2.2) (F0 m 31 ls []) := by
    intro s_5 er H locs ls hl hw hS
    subst er
    replace hf := ok_un1 hf
    exact z_vretE hC hlocks hw hS hf hr dX11_foretell_31
  have L13 : ∀ (n : Nat) (v2_3 : Int32) (s_4 : St), loopF (f_X11_foretell_L13 x1) n (v2_3, s_4) = some r13 → ∀ (H : Heap) (locs : List Loc) (ls : Array Slot), lv_has ls 3 [(0, .ref (E.2.2.1 0)), (1, .int x1), (2, .int v2_3)] → World E sh2 s_4 H → va_S E.2.2.2 s.heap H locs → W p l e (rmd 5) s m args below meth c H locs 0 0 (MQ below (QW E sh2 none sz) args s 0 0 E.2.2.2) (F0 m 13 ls []) := by
    intro n
    induction n with
    | zero =>
      intro v2_3 s_4 hf
      exact nz hf
    | succ n ih13 =>
      intro v2_3 s_4 hf H locs ls hl hw hS
      obtain ⟨xl13, hf, hi13, he13⟩ := ok_loop hf
      unfold f_X11_foretell_L13 at hf
      replace hf := ok_un2 hf
      refine lv_iload_n hx hb dX11_foretell_13 rfl (lv_at hl 2 rfl) ?_
      refine lv_iload_n hx hb dX11_foretell_14 rfl (lv_at hl 1 rfl) ?_
      have hif := ok_if hf
      refine lv_icmp_ge (tgt := 31) hx hb dX11_foretell_15 (by decide) (fun hcd => ?_) (fun hcd => ?_)
      · have hf := hif.1 hcd
        clear hif
        cases hf
        exact X13_0 _ (he13 _ rfl) _ _ ls (lv_sub hl [] rfl) hw hS
      · have hf := hif.2 hcd
        clear hif
        refine lv_aload_n hx hb dX11_foretell_18 rfl (lv_at hl 0 rfl) ?_
        refine gFuseBox_trial hC hw wd349 dX11_foretell_19 ?_
        obtain ⟨s_6, hc, hf⟩ := ok_bind hf
        refine z_cV hC hl.1 hw hS (As := []) (rest := []) (m_X3_passMinute l E isH_27 hc) (sH isH_27).1 rfl gc149 gc52 ⟨Nat.le_of_ble_eq_true rfl, Nat.le_of_ble_eq_true rfl⟩ ⟨Nat.le_of_ble_eq_true rfl, Nat.le_of_ble_eq_true rfl⟩ rfl rfl (Nat.le_of_ble_eq_true rfl) dX11_foretell_22 (fun H locs hw hS => ?_)
        clear hc
        obtain ⟨v2_7, en, hf⟩ := ok_lt hf
        refine lv_iinc (v := v2_7) (lv' := [(2, .int v2_7), (0, .ref (E.2.2.1 0)), (1, .int x1)]) hx hb dX11_foretell_25 hl (k := 2) rfl (by rw [en]; rfl) (by decide) rfl (fun ls hl => ?_)
        clear en
        refine lv_goto (tgt := 13) hx hb dX11_foretell_28 (by decide) ?_
        cases hf
        exact ih13 _ _ (hi13 _ rfl) _ _ ls (lv_sub hl [1, 2, 0] rfl) hw hS
  exact L13 5000 _ _ hL13 _ _ ls (lv_sub hl [1, 2, 0] rfl) hw hS
set_option maxHeartbeats 4000000 in
set_option maxRecDepth 100000 in
theorem m_X11_heat (l : Launch) (E : Ev) {x1 : Int32} {x2 : Int32}  {s0 sz : St} {rz : Int32} (hf : f_X11_heat x1 x2 s0 = some (rz, sz)) : MM l E sh2 yX11_heat cX11_heat 3 (some .int) (rmd 6) [.ref (E.2.2.1 0), .int x1, .int x2] s0 (some (.int rz)) sz := by
  unfold f_X11_heat at hf
  refine z_enter (by decide +kernel) (Nat.le_of_ble_eq_true rfl) ?_
  intro p e s m args below meth c ls hC hr hlocks hw hS hl
  have hC : Cx p s m args c cX11_heat 3 "FuseBox" E := hC
  obtain ⟨hx, hb, hml, hown, hts, hTB⟩ := id hC
  have hl : lv_has ls 3 [(0, .ref (E.2.2.1 0)), (1, .int x1), (2, .int x2)] := hl
  refine lv_aload_n hx hb dX11_heat_0 rfl (lv_at hl 0 rfl) ?_
  refine lv_iload_n hx hb dX11_heat_1 rfl (lv_at hl 1 rfl) ?_
  obtain ⟨r_2, s_1, hc, hf⟩ := ok_bd hf
  refine z_cV hC hl.1 hw hS (As := [.int x1]) (rest := []) (m_X11_noLine l E  hc) rfl rfl gc156 gc157 ⟨Nat.le_of_ble_eq_true rfl, Nat.le_of_ble_eq_true rfl⟩ ⟨Nat.le_of_ble_eq_true rfl, Nat.le_of_ble_eq_true rfl⟩ rfl rfl (Nat.le_of_ble_eq_true rfl) dX11_heat_2 (fun H locs hw hS => ?_)
  clear hc
  obtain ⟨j18, ej18, hf⟩ := ok_lt hf
  have J18 : ∀ (s_3 : St), j18 s_3 = some (rz, sz) → ∀ (H : Heap) (locs : List Loc) (ls : Array Slot), lv_has ls 3 [] → World E sh2 s_3 H → va_S E.2.2.2 s.heap H locs → W p l e (rmd 6) s m args below meth c H locs 0 0 (MQ below (QW E sh2 (some (.int rz)) sz) args s 0 0 E.2.2.2) (F0 m 18 ls []) := by
    intro s_3 hf H locs ls hl hw hS
    subst ej18
    refine lv_ldc (v := -1000001) hx hb hown (hts _ wd305) dX11_heat_18 ?_
    exact z_iretE hC hlocks hw hS hf hr rfl dX11_heat_20
  clear ej18
  have hif := ok_if hf
  refine lv_if_ne (tgt := 18) hx hb dX11_heat_5 (by decide) (fun hcd => ?_) (fun hcd => ?_)
  · have hf := hif.1 hcd
    clear hif
    exact J18 _ hf _ _ ls (lv_sub hl [] rfl) hw hS
  · have hf := hif.2 (fun q => q hcd)
    clear hif
    refine lv_iload_n hx hb dX11_heat_8 rfl (lv_at hl 2 rfl) ?_
    have hif := ok_if hf
    refine lv_if_lt (tgt := 18) hx hb dX11_heat_9 (by decide) (fun hcd => ?_) (fun hcd => ?_)
    · have hf := hif.1 hcd
      clear hif
      exact J18 _ hf _ _ ls (lv_sub hl [] rfl) hw hS
    · have hf := hif.2 hcd
      clear hif
      refine lv_iload_n hx hb dX11_heat_12 rfl (lv_at hl 2 rfl) ?_
      refine lv_bipush (v := 60) hx hb dX11_heat_13 (by decide) ?_
      have hif := ok_if hf
      refine lv_icmp_le (tgt := 21) hx hb dX11_heat_15 (by decide) (fun hcd => ?_) (fun hcd => ?_)
      · have hf := hif.1 hcd
        clear hif
        refine lv_aload_n hx hb dX11_heat_21 rfl (lv_at hl 0 rfl) ?_
        refine lv_iload_n hx hb dX11_heat_22 rfl (lv_at hl 2 rfl) ?_
        obtain ⟨s_4, hc, hf⟩ := ok_bind hf
        refine z_cV hC hl.1 hw hS (As := [.int x2]) (rest := []) (m_X11_foretell l E  hc) rfl rfl gc168 gc169 ⟨Nat.le_of_ble_eq_true rfl, Nat.le_of_ble_eq_true rfl⟩ ⟨Nat.le_of_ble_eq_true rfl, Nat.le_of_ble_eq_true rfl⟩ rfl rfl (Nat.le_of_ble_eq_true rfl) dX11_heat_23 (fun H locs hw hS => ?_)
        clear hc
        refine lv_aload_n hx hb dX11_heat_26 rfl (lv_at hl 0 rfl) ?_
        refine gFuseBox_trial hC hw wd349 dX11_heat_27 ?_
        refine gHouse_heat hC hw isH_27 wd407 dX11_heat_30 ?_
        refine lv_iload_n hx hb dX11_heat_33 rfl (lv_at hl 1 rfl) ?_
        obtain ⟨hin, hf⟩ := ok_chk hf
        refine z_iald hC hw (sH isH_27).2.2.2.1 hin dX11_heat_34 ?_
        exact z_iretE hC hlocks hw hS hf hr rfl dX11_heat_35
      · have hf := hif.2 hcd
        clear hif
        exact J18 _ hf _ _ ls (lv_sub hl [] rfl) hw hS
set_option maxHeartbeats 4000000 in
set_option maxRecDepth 100000 in
theorem m_X11_later (l : Launch) (E : Ev) {x1 : Int32} {x2 : Int32}  {s0 sz : St} {rz : Int32} (hf : f_X11_later x1 x2 s0 = some (rz, sz)) : MM l E sh2 yX11_later cX11_later 3 (some .int) (rmd 6) [.ref (E.2.2.1 0), .int x1, .int x2] s0 (some (.int rz)) sz := by
  unfold f_X11_later at hf
  refine z_enter (by decide +kernel) (Nat.le_of_ble_eq_true rfl) ?_
  intro p e s m args below meth c ls hC hr hlocks hw hS hl
  have hC : Cx p s m args c cX11_later 3 "FuseBox" E := hC
  obtain ⟨hx, hb, hml, hown, hts, hTB⟩ := id hC
  have hl : lv_has ls 3 [(0, .ref (E.2.2.1 0)), (1, .int x1), (2, .int x2)] := hl
  refine lv_aload_n hx hb dX11_later_0 rfl (lv_at hl 0 rfl) ?_
  obtain ⟨r_2, s_1, hc, hf⟩ := ok_bd hf
  refine z_cV hC hl.1 hw hS (As := []) (rest := []) (m_X11_noHouse l E  hc) rfl rfl gc143 gc144 ⟨Nat.le_of_ble_eq_true rfl, Nat.le_of_ble_eq_true rfl⟩ ⟨Nat.le_of_ble_eq_true rfl, Nat.le_of_ble_eq_true rfl⟩ rfl rfl (Nat.le_of_ble_eq_true rfl) dX11_later_1 (fun H locs hw hS => ?_)
  clear hc
  have hif := ok_if hf
  refine lv_if_eq (tgt := 10) hx hb dX11_later_4 (by decide) (fun hcd => ?_) (fun hcd => ?_)
  · have hf := hif.1 hcd
    clear hif
    refine lv_iload_n hx hb dX11_later_10 rfl (lv_at hl 1 rfl) ?_
    obtain ⟨j29, ej29, hf⟩ := ok_lt hf
    have J29 : ∀ (s_3 : St), j29 s_3 = some (rz, sz) → ∀ (H : Heap) (locs : List Loc) (ls : Array Slot), lv_has ls 3 [] → World E sh2 s_3 H → va_S E.2.2.2 s.heap H locs → W p l e (rmd 6) s m args below meth c H locs 0 0 (MQ below (QW E sh2 (some (.int rz)) sz) args s 0 0 E.2.2.2) (F0 m 29 ls []) := by
      intro s_3 hf H locs ls hl hw hS
      subst ej29
      refine lv_ldc (v := -1000001) hx hb hown (hts _ wd305) dX11_later_29 ?_
      exact z_iretE hC hlocks hw hS hf hr rfl dX11_later_31
    clear ej29
    have hif := ok_if hf
    refine lv_if_lt (tgt := 29) hx hb dX11_later_11 (by decide) (fun hcd => ?_) (fun hcd => ?_)
    · have hf := hif.1 hcd
      clear hif
      exact J29 _ hf _ _ ls (lv_sub hl [] rfl) hw hS
    · have hf := hif.2 hcd
      clear hif
      refine lv_iload_n hx hb dX11_later_14 rfl (lv_at hl 1 rfl) ?_
      refine lv_bipush (v := 60) hx hb dX11_later_15 (by decide) ?_
      have hif := ok_if hf
      refine lv_icmp_gt (tgt := 29) hx hb dX11_later_17 (by decide) (fun hcd => ?_) (fun hcd => ?_)
      · have hf := hif.1 hcd
        clear hif
        exact J29 _ hf _ _ ls (lv_sub hl [] rfl) hw hS
      · have hf := hif.2 hcd
        clear hif
        refine lv_iload_n hx hb dX11_later_20 rfl (lv_at hl 2 rfl) ?_
        have hif := ok_if hf
        refine lv_if_lt (tgt := 29) hx hb dX11_later_21 (by decide) (fun hcd => ?_) (fun hcd => ?_)
        · have hf := hif.1 hcd
          clear hif
          exact J29 _ hf _ _ ls (lv_sub hl [] rfl) hw hS
        · have hf := hif.2 hcd
          clear hif
          refine lv_iload_n hx hb dX11_later_24 rfl (lv_at hl 2 rfl) ?_
          refine lv_iconst (v := 2) hx hb dX11_later_25 (by decide) ?_
          have hif := ok_if hf
          refine lv_icmp_le (tgt := 32) hx hb dX11_later_26 (by decide) (fun hcd => ?_) (fun hcd => ?_)
          · have hf := hif.1 hcd
            clear hif
            refine lv_aload_n hx hb dX11_later_32 rfl (lv_at hl 0 rfl) ?_
            refine lv_iload_n hx hb dX11_later_33 rfl (lv_at hl 1 rfl) ?_
            obtain ⟨s_4, hc, hf⟩ := ok_bind hf
            refine z_cV hC hl.1 hw hS (As := [.int x1]) (rest := []) (m_X11_foretell l E  hc) rfl rfl gc168 gc169 ⟨Nat.le_of_ble_eq_true rfl, Nat.le_of_ble_eq_true rfl⟩ ⟨Nat.le_of_ble_eq_true rfl, Nat.le_of_ble_eq_true rfl⟩ rfl rfl (Nat.le_of_ble_eq_true rfl) dX11_later_34 (fun H locs hw hS => ?_)
            clear hc
            refine lv_iload_n hx hb dX11_later_37 rfl (lv_at hl 2 rfl) ?_
            have hif := ok_if hf
            by_cases hk0 : x2 = 0
            · have hf := hif.1 hk0
              clear hif
              refine lv_lookup (off := 26) (tgt := 64) hx hb dX11_later_38 (by decide) (by rw [hk0]; rfl) (by decide) ?_
              refine lv_aload_n hx hb dX11_later_64 rfl (lv_at hl 0 rfl) ?_
              refine gFuseBox_trial hC hw wd349 dX11_later_65 ?_
              obtain ⟨r_6, s_5, hc, hf⟩ := ok_bd hf
              refine z_cV hC hl.1 hw hS (As := []) (rest := []) (m_X3_liveLines l E isH_27 hc) (sH isH_27).1 rfl gc145 gc146 ⟨Nat.le_of_ble_eq_true rfl, Nat.le_of_ble_eq_true rfl⟩ ⟨Nat.le_of_ble_eq_true rfl, Nat.le_of_ble_eq_true rfl⟩ rfl rfl (Nat.le_of_ble_eq_true rfl) dX11_later_68 (fun H locs hw hS => ?_)
              clear hc
              exact z_iretE hC hlocks hw hS hf hr rfl dX11_later_71
            replace hf := hif.2 hk0
            clear hif
            have hif := ok_if hf
            by_cases hk1 : x2 = 1
            · have hf := hif.1 hk1
              clear hif
              refine lv_lookup (off := 34) (tgt := 72) hx hb dX11_later_38 (by decide) (by rw [hk1]; rfl) (by decide) ?_
              refine lv_aload_n hx hb dX11_later_72 rfl (lv_at hl 0 rfl) ?_
              refine gFuseBox_trial hC hw wd349 dX11_later_73 ?_
              obtain ⟨r_8, s_7, hc, hf⟩ := ok_bd hf
              refine z_cV hC hl.1 hw hS (As := []) (rest := []) (m_X3_runningThings l E isH_27 hc) (sH isH_27).1 rfl gc154 gc155 ⟨Nat.le_of_ble_eq_true rfl, Nat.le_of_ble_eq_true rfl⟩ ⟨Nat.le_of_ble_eq_true rfl, Nat.le_of_ble_eq_true rfl⟩ rfl rfl (Nat.le_of_ble_eq_true rfl) dX11_later_76 (fun H locs hw hS => ?_)
              clear hc
              exact z_iretE hC hlocks hw hS hf hr rfl dX11_later_79
            replace hf := hif.2 hk1
            clear hif
            refine lv_lookup (off := 42) (tgt := 80) hx hb dX11_later_38 (by decide) (by show Op.lookupswitch.offset [(0, 26), (1, 34)] 42 _ = _; rw [lv_osw hk0 (by decide : (0 : Int32).toInt = 0), lv_osw hk1 (by decide : (1 : Int32).toInt = 1)]; rfl) (by decide) ?_
            refine lv_aload_n hx hb dX11_later_80 rfl (lv_at hl 0 rfl) ?_
            refine gFuseBox_trial hC hw wd349 dX11_later_81 ?_
            refine gHouse_used hC hw isH_27 wd424 dX11_later_84 ?_
            exact z_iretE hC hlocks hw hS hf hr rfl dX11_later_87
          · have hf := hif.2 hcd
            clear hif
            exact J29 _ hf _ _ ls (lv_sub hl [] rfl) hw hS
  · have hf := hif.2 hcd
    clear hif
    refine lv_ldc (v := -1000002) hx hb hown (hts _ wd382) dX11_later_7 ?_
    exact z_iretE hC hlocks hw hS hf hr rfl dX11_later_9
set_option maxHeartbeats 4000000 in
set_option maxRecDepth 100000 in
theorem m_X11_lost (l : Launch) (E : Ev) {x1 : Int32}  {s0 sz : St} {rz : Int32} (hf : f_X11_lost x1 s0 = some (rz, sz)) : MM l E sh2 yX11_lost cX11_lost 3 (some .int) (rmd 5) [.ref (E.2.2.1 0), .int x1] s0 (some (.int rz)) sz := by
  unfold f_X11_lost at hf
  refine z_enter (by decide +kernel) (Nat.le_of_ble_eq_true rfl) ?_
  intro p e s m args below meth c ls hC hr hlocks hw hS hl
  have hC : Cx p s m args c cX11_lost 3 "FuseBox" E := hC
  obtain ⟨hx, hb, hml, hown, hts, hTB⟩ := id hC
  have hl : lv_has ls 3 [(0, .ref (E.2.2.1 0)), (1, .int x1)] := hl
  refine lv_aload_n hx hb dX11_lost_0 rfl (lv_at hl 0 rfl) ?_
  refine lv_iload_n hx hb dX11_lost_1 rfl (lv_at hl 1 rfl) ?_
  obtain ⟨r_2, s_1, hc, hf⟩ := ok_bd hf
  refine z_cV hC hl.1 hw hS (As := [.int x1]) (rest := []) (m_X11_noLine l E  hc) rfl rfl gc156 gc157 ⟨Nat.le_of_ble_eq_true rfl, Nat.le_of_ble_eq_true rfl⟩ ⟨Nat.le_of_ble_eq_true rfl, Nat.le_of_ble_eq_true rfl⟩ rfl rfl (Nat.le_of_ble_eq_true rfl) dX11_lost_2 (fun H locs hw hS => ?_)
  clear hc
  have hif := ok_if hf
  refine lv_if_eq (tgt := 11) hx hb dX11_lost_5 (by decide) (fun hcd => ?_) (fun hcd => ?_)
  · have hf := hif.1 hcd
    clear hif
    refine lv_aload_n hx hb dX11_lost_11 rfl (lv_at hl 0 rfl) ?_
    refine gFuseBox_trial hC hw wd349 dX11_lost_12 ?_
    refine lv_aload_n hx hb dX11_lost_15 rfl (lv_at hl 0 rfl) ?_
    refine gFuseBox_now hC hw wd354 dX11_lost_16 ?_
    obtain ⟨s_3, hc, hf⟩ := ok_bind hf
    refine z_cV hC hl.1 hw hS (As := [.ref (E.2.2.1 19)]) (rest := []) (m_X3_become l E isH_27 isH_19 hc) (sH isH_27).1 rfl gc139 gc140 ⟨Nat.le_of_ble_eq_true rfl, Nat.le_of_ble_eq_true rfl⟩ ⟨Nat.le_of_ble_eq_true rfl, Nat.le_of_ble_eq_true rfl⟩ rfl rfl (Nat.le_of_ble_eq_true rfl) dX11_lost_19 (fun H locs hw hS => ?_)
    clear hc
    refine lv_iconst (v := 0) hx hb dX11_lost_22 (by decide) ?_
    obtain ⟨v2_4, en, hf⟩ := ok_lt hf
    refine z_nm en ?_
    clear en
    refine lv_istore_n (lv' := [(2, .int v2_4), (0, .ref (E.2.2.1 0)), (1, .int x1)]) hx hb dX11_lost_23 rfl hl (by decide) rfl (fun ls hl => ?_)
    obtain ⟨r24, hL24, hf⟩ := ok_bind hf
    have X24_0 : ∀ (s_7 : St), (.inl s_7) = r24 → ∀ (H : Heap) (locs : List Loc) (ls : Array Slot), lv_has ls 3 [] → World E sh2 s_7 H → va_S E.2.2.2 s.heap H locs → W p l e (rmd 5) s m args below meth c H locs 0 0 (MQ below (QW E sh2 (some (.int rz)) sz) args s 0 0 E.2.2.2) (F0 m 56 ls []) := by
      intro s_7 er H locs ls hl hw hS
      subst er
      replace hf := ok_sell (hf)
      replace hf := ok_un1 hf
      refine lv_ldc (v := -1000000) hx hb hown (hts _ wd425) dX11_lost_56 ?_
      exact z_iretE hC hlocks hw hS hf hr rfl dX11_lost_58
    have X24_1 : ∀ (v2_8 : Int32) (s_9 : St), (.inr (v2_8, s_9)) = r24 → ∀ (H : Heap) (locs : List Loc) (ls : Array Slot), lv_has ls 3 [(2, .int v2_8)] → World E sh2 s_9 H → va_S E.2.2.2 s.heap H locs → W p l e (rmd 5) s m args below meth c H locs 0 0 (MQ below (QW E sh2 (some (.int rz)) sz) args s 0 0 E.2.2.2) (F0 m 41 ls []) := by
      intro v2_8 s_9 er H locs ls hl hw hS
      subst er
      replace hf := ok_selr (hf)
      replace hf := ok_un2 hf
      refine lv_iload_n hx hb dX11_lost_41 rfl (lv_at hl 0 rfl) ?_
      exact z_iretE hC hlocks hw hS hf hr rfl dX11_lost_42
    have L24 : ∀ (n : Nat) (v2_5 : Int32) (s_6 : St), loopF (f_X11_lost_L24 x1) n (v2_5, s_6) = some r24 → ∀ (H : Heap) (locs : List Loc) (ls : Array Slot), lv_has ls 3 [(0, .ref (E.2.2.1 0)), (1, .int x1), (2, .int v2_5)] → World E sh2 s_6 H → va_S E.2.2.2 s.heap H locs → W p l e (rmd 5) s m args below meth c H locs 0 0 (MQ below (QW E sh2 (some (.int rz)) sz) args s 0 0 E.2.2.2) (F0 m 24 ls []) := by
      intro n
      induction n with
      | zero =>
        intro v2_5 s_6 hf
        exact nz hf
      | succ n ih24 =>
        intro v2_5 s_6 hf H locs ls hl hw hS
        obtain ⟨xl24, hf, hi24, he24⟩ := ok_loop hf
        unfold f_X11_lost_L24 at hf
        replace hf := ok_un2 hf
        refine lv_iload_n hx hb dX11_lost_24 rfl (lv_at hl 2 rfl) ?_
        refine lv_bipush (v := 60) hx hb dX11_lost_25 (by decide) ?_
        have hif := ok_if hf
        refine lv_icmp_gt (tgt := 56) hx hb dX11_lost_27 (by decide) (fun hcd => ?_) (fun hcd => ?_)
        · have hf := hif.1 hcd
          clear hif
          cases hf
          exact X24_0 _ (he24 _ rfl) _ _ ls (lv_sub hl [] rfl) hw hS
        · have hf := hif.2 hcd
          clear hif
          refine lv_aload_n hx hb dX11_lost_30 rfl (lv_at hl 0 rfl) ?_
          refine gFuseBox_trial hC hw wd349 dX11_lost_31 ?_
          refine lv_iload_n hx hb dX11_lost_34 rfl (lv_at hl 1 rfl) ?_
          obtain ⟨r_11, s_10, hc, hf⟩ := ok_bd hf
          refine z_cV hC hl.1 hw hS (As := [.int x1]) (rest := []) (m_X3_isLive l E isH_27 hc) (sH isH_27).1 rfl gc162 gc21 ⟨Nat.le_of_ble_eq_true rfl, Nat.le_of_ble_eq_true rfl⟩ ⟨Nat.le_of_ble_eq_true rfl, Nat.le_of_ble_eq_true rfl⟩ rfl rfl (Nat.le_of_ble_eq_true rfl) dX11_lost_35 (fun H locs hw hS => ?_)
          clear hc
          have hif := ok_if hf
          refine lv_if_ne (tgt := 43) hx hb dX11_lost_38 (by decide) (fun hcd => ?_) (fun hcd => ?_)
          · have hf := hif.1 hcd
            clear hif
            refine lv_aload_n hx hb dX11_lost_43 rfl (lv_at hl 0 rfl) ?_
            refine gFuseBox_trial hC hw wd349 dX11_lost_44 ?_
            obtain ⟨s_12, hc, hf⟩ := ok_bind hf
            refine z_cV hC hl.1 hw hS (As := []) (rest := []) (m_X3_passMinute l E isH_27 hc) (sH isH_27).1 rfl gc149 gc52 ⟨Nat.le_of_ble_eq_true rfl, Nat.le_of_ble_eq_true rfl⟩ ⟨Nat.le_of_ble_eq_true rfl, Nat.le_of_ble_eq_true rfl⟩ rfl rfl (Nat.le_of_ble_eq_true rfl) dX11_lost_47 (fun H locs hw hS => ?_)
            clear hc
            obtain ⟨v2_13, en, hf⟩ := ok_lt hf
            refine lv_iinc (v := v2_13) (lv' := [(2, .int v2_13), (0, .ref (E.2.2.1 0)), (1, .int x1)]) hx hb dX11_lost_50 hl (k := 2) rfl (by rw [en]; rfl) (by decide) rfl (fun ls hl => ?_)
            clear en
            refine lv_goto (tgt := 24) hx hb dX11_lost_53 (by decide) ?_
            cases hf
            exact ih24 _ _ (hi24 _ rfl) _ _ ls (lv_sub hl [1, 2, 0] rfl) hw hS
          · have hf := hif.2 (fun q => q hcd)
            clear hif
            cases hf
            exact X24_1 _ _ (he24 _ rfl) _ _ ls (lv_sub hl [2] rfl) hw hS
    exact L24 5000 _ _ hL24 _ _ ls (lv_sub hl [1, 2, 0] rfl) hw hS
  · have hf := hif.2 hcd
    clear hif
    refine lv_ldc (v := -1000001) hx hb hown (hts _ wd305) dX11_lost_8 ?_
    exact z_iretE hC hlocks hw hS hf hr rfl dX11_lost_10
set_option maxHeartbeats 4000000 in
set_option maxRecDepth 100000 in
theorem m_X11_dark (l : Launch) (E : Ev)   {s0 sz : St} {rz : Int32} (hf : f_X11_dark s0 = some (rz, sz)) : MM l E sh2 yX11_dark cX11_dark 2 (some .int) (rmd 5) [.ref (E.2.2.1 0)] s0 (some (.int rz)) sz := by
  unfold f_X11_dark at hf
  refine z_enter (by decide +kernel) (Nat.le_of_ble_eq_true rfl) ?_
  intro p e s m args below meth c ls hC hr hlocks hw hS hl
  have hC : Cx p s m args c cX11_dark 2 "FuseBox" E := hC
  obtain ⟨hx, hb, hml, hown, hts, hTB⟩ := id hC
  have hl : lv_has ls 2 [(0, .ref (E.2.2.1 0))] := hl
  refine lv_aload_n hx hb dX11_dark_0 rfl (lv_at hl 0 rfl) ?_
  obtain ⟨r_2, s_1, hc, hf⟩ := ok_bd hf
  refine z_cV hC hl.1 hw hS (As := []) (rest := []) (m_X11_noHouse l E  hc) rfl rfl gc143 gc144 ⟨Nat.le_of_ble_eq_true rfl, Nat.le_of_ble_eq_true rfl⟩ ⟨Nat.le_of_ble_eq_true rfl, Nat.le_of_ble_eq_true rfl⟩ rfl rfl (Nat.le_of_ble_eq_true rfl) dX11_dark_1 (fun H locs hw hS => ?_)
  clear hc
  have hif := ok_if hf
  refine lv_if_eq (tgt := 10) hx hb dX11_dark_4 (by decide) (fun hcd => ?_) (fun hcd => ?_)
  · have hf := hif.1 hcd
    clear hif
    refine lv_aload_n hx hb dX11_dark_10 rfl (lv_at hl 0 rfl) ?_
    refine gFuseBox_trial hC hw wd349 dX11_dark_11 ?_
    refine lv_aload_n hx hb dX11_dark_14 rfl (lv_at hl 0 rfl) ?_
    refine gFuseBox_now hC hw wd354 dX11_dark_15 ?_
    obtain ⟨s_3, hc, hf⟩ := ok_bind hf
    refine z_cV hC hl.1 hw hS (As := [.ref (E.2.2.1 19)]) (rest := []) (m_X3_become l E isH_27 isH_19 hc) (sH isH_27).1 rfl gc139 gc140 ⟨Nat.le_of_ble_eq_true rfl, Nat.le_of_ble_eq_true rfl⟩ ⟨Nat.le_of_ble_eq_true rfl, Nat.le_of_ble_eq_true rfl⟩ rfl rfl (Nat.le_of_ble_eq_true rfl) dX11_dark_18 (fun H locs hw hS => ?_)
    clear hc
    refine lv_iconst (v := 0) hx hb dX11_dark_21 (by decide) ?_
    obtain ⟨v1_4, en, hf⟩ := ok_lt hf
    refine z_nm en ?_
    clear en
    refine lv_istore_n (lv' := [(1, .int v1_4), (0, .ref (E.2.2.1 0))]) hx hb dX11_dark_22 rfl hl (by decide) rfl (fun ls hl => ?_)
    obtain ⟨r23, hL23, hf⟩ := ok_bind hf
    have X23_0 : ∀ (s_7 : St), (.inl s_7) = r23 → ∀ (H : Heap) (locs : List Loc) (ls : Array Slot), lv_has ls 2 [] → World E sh2 s_7 H → va_S E.2.2.2 s.heap H locs → W p l e (rmd 5) s m args below meth c H locs 0 0 (MQ below (QW E sh2 (some (.int rz)) sz) args s 0 0 E.2.2.2) (F0 m 54 ls []) := by
      intro s_7 er H locs ls hl hw hS
      subst er
      replace hf := ok_sell (hf)
      replace hf := ok_un1 hf
      refine lv_ldc (v := -1000000) hx hb hown (hts _ wd425) dX11_dark_54 ?_
      exact z_iretE hC hlocks hw hS hf hr rfl dX11_dark_56
    have X23_1 : ∀ (v1_8 : Int32) (s_9 : St), (.inr (v1_8, s_9)) = r23 → ∀ (H : Heap) (locs : List Loc) (ls : Array Slot), lv_has ls 2 [(1, .int v1_8)] → World E sh2 s_9 H → va_S E.2.2.2 s.heap H locs → W p l e (rmd 5) s m args below meth c H locs 0 0 (MQ below (QW E sh2 (some (.int rz)) sz) args s 0 0 E.2.2.2) (F0 m 39 ls []) := by
      intro v1_8 s_9 er H locs ls hl hw hS
      subst er
      replace hf := ok_selr (hf)
      replace hf := ok_un2 hf
      refine lv_iload_n hx hb dX11_dark_39 rfl (lv_at hl 0 rfl) ?_
      exact z_iretE hC hlocks hw hS hf hr rfl dX11_dark_40
    have L23 : ∀ (n : Nat) (v1_5 : Int32) (s_6 : St), loopF f_X11_dark_L23 n (v1_5, s_6) = some r23 → ∀ (H : Heap) (locs : List Loc) (ls : Array Slot), lv_has ls 2 [(0, .ref (E.2.2.1 0)), (1, .int v1_5)] → World E sh2 s_6 H → va_S E.2.2.2 s.heap H locs → W p l e (rmd 5) s m args below meth c H locs 0 0 (MQ below (QW E sh2 (some (.int rz)) sz) args s 0 0 E.2.2.2) (F0 m 23 ls []) := by
      intro n
      induction n with
      | zero =>
        intro v1_5 s_6 hf
        exact nz hf
      | succ n ih23 =>
        intro v1_5 s_6 hf H locs ls hl hw hS
        obtain ⟨xl23, hf, hi23, he23⟩ := ok_loop hf
        unfold f_X11_dark_L23 at hf
        replace hf := ok_un2 hf
        refine lv_iload_n hx hb dX11_dark_23 rfl (lv_at hl 1 rfl) ?_
        refine lv_bipush (v := 60) hx hb dX11_dark_24 (by decide) ?_
        have hif := ok_if hf
        refine lv_icmp_gt (tgt := 54) hx hb dX11_dark_26 (by decide) (fun hcd => ?_) (fun hcd => ?_)
        · have hf := hif.1 hcd
          clear hif
          cases hf
          exact X23_0 _ (he23 _ rfl) _ _ ls (lv_sub hl [] rfl) hw hS
        · have hf := hif.2 hcd
          clear hif
          refine lv_aload_n hx hb dX11_dark_29 rfl (lv_at hl 0 rfl) ?_
          refine gFuseBox_trial hC hw wd349 dX11_dark_30 ?_
          obtain ⟨r_11, s_10, hc, hf⟩ := ok_bd hf
          refine z_cV hC hl.1 hw hS (As := []) (rest := []) (m_X3_runningThings l E isH_27 hc) (sH isH_27).1 rfl gc154 gc155 ⟨Nat.le_of_ble_eq_true rfl, Nat.le_of_ble_eq_true rfl⟩ ⟨Nat.le_of_ble_eq_true rfl, Nat.le_of_ble_eq_true rfl⟩ rfl rfl (Nat.le_of_ble_eq_true rfl) dX11_dark_33 (fun H locs hw hS => ?_)
          clear hc
          have hif := ok_if hf
          refine lv_if_ne (tgt := 41) hx hb dX11_dark_36 (by decide) (fun hcd => ?_) (fun hcd => ?_)
          · have hf := hif.1 hcd
            clear hif
            refine lv_aload_n hx hb dX11_dark_41 rfl (lv_at hl 0 rfl) ?_
            refine gFuseBox_trial hC hw wd349 dX11_dark_42 ?_
            obtain ⟨s_12, hc, hf⟩ := ok_bind hf
            refine z_cV hC hl.1 hw hS (As := []) (rest := []) (m_X3_passMinute l E isH_27 hc) (sH isH_27).1 rfl gc149 gc52 ⟨Nat.le_of_ble_eq_true rfl, Nat.le_of_ble_eq_true rfl⟩ ⟨Nat.le_of_ble_eq_true rfl, Nat.le_of_ble_eq_true rfl⟩ rfl rfl (Nat.le_of_ble_eq_true rfl) dX11_dark_45 (fun H locs hw hS => ?_)
            clear hc
            obtain ⟨v1_13, en, hf⟩ := ok_lt hf
            refine lv_iinc (v := v1_13) (lv' := [(1, .int v1_13), (0, .ref (E.2.2.1 0))]) hx hb dX11_dark_48 hl (k := 1) rfl (by rw [en]; rfl) (by decide) rfl (fun ls hl => ?_)
            clear en
            refine lv_goto (tgt := 23) hx hb dX11_dark_51 (by decide) ?_
            cases hf
            exact ih23 _ _ (hi23 _ rfl) _ _ ls (lv_sub hl [1, 0] rfl) hw hS
          · have hf := hif.2 (fun q => q hcd)
            clear hif
            cases hf
            exact X23_1 _ _ (he23 _ rfl) _ _ ls (lv_sub hl [1] rfl) hw hS
    exact L23 5000 _ _ hL23 _ _ ls (lv_sub hl [1, 0] rfl) hw hS
  · have hf := hif.2 hcd
    clear hif
    refine lv_ldc (v := -1000002) hx hb hown (hts _ wd382) dX11_dark_7 ?_
    exact z_iretE hC hlocks hw hS hf hr rfl dX11_dark_9
set_option maxHeartbeats 4000000 in
set_option maxRecDepth 100000 in
theorem m_X11_runsWithout (l : Launch) (E : Ev) {x1 : Int32} {x2 : Int32} {x3 : Int32}  {s0 sz : St} {rz : Int32} (hf : f_X11_runsWithout x1 x2 x3 s0 = some (rz, sz)) : MM l E sh2 yX11_runsWithout cX11_runsWithout 5 (some .boolean) (rmd 5) [.ref (E.2.2.1 0), .int x1, .int x2, .int x3] s0 (some (.int rz)) sz := by
  unfold f_X11_runsWithout at hf
  refine z_enter (by decide +kernel) (Nat.le_of_ble_eq_true rfl) ?_
  intro p e s m args below meth c ls hC hr hlocks hw hS hl
  have hC : Cx p s m args c cX11_runsWithout 5 "FuseBox" E := hC
  obtain ⟨hx, hb, hml, hown, hts, hTB⟩ := id hC
  have hl : lv_has ls 5 [(0, .ref (E.2.2.1 0)), (1, .int x1), (2, .int x2), (3, .int x3)] := hl
  refine lv_aload_n hx hb dX11_runsWithout_0 rfl (lv_at hl 0 rfl) ?_
  refine gFuseBox_trial hC hw wd349 dX11_runsWithout_1 ?_
  refine lv_aload_n hx hb dX11_runsWithout_4 rfl (lv_at hl 0 rfl) ?_
  refine gFuseBox_now hC hw wd354 dX11_runsWithout_5 ?_
  obtain ⟨s_1, hc, hf⟩ := ok_bind hf
  refine z_cV hC hl.1 hw hS (As := [.ref (E.2.2.1 19)]) (rest := []) (m_X3_become l E isH_27 isH_19 hc) (sH isH_27).1 rfl gc139 gc140 ⟨Nat.le_of_ble_eq_true rfl, Nat.le_of_ble_eq_true rfl⟩ ⟨Nat.le_of_ble_eq_true rfl, Nat.le_of_ble_eq_true rfl⟩ rfl rfl (Nat.le_of_ble_eq_true rfl) dX11_runsWithout_8 (fun H locs hw hS => ?_)
  clear hc
  refine lv_aload_n hx hb dX11_runsWithout_11 rfl (lv_at hl 0 rfl) ?_
  refine gFuseBox_trial hC hw wd349 dX11_runsWithout_12 ?_
  refine lv_dup hx hb dX11_runsWithout_15 rfl ?_
  refine gHouse_on hC hw isH_27 wd426 dX11_runsWithout_16 ?_
  refine lv_iload_n hx hb dX11_runsWithout_19 rfl (lv_at hl 1 rfl) ?_
  refine lv_iconst (v := -1) hx hb dX11_runsWithout_20 (by decide) ?_
  refine lv_ixor hx hb dX11_runsWithout_21 ?_
  refine lv_iand hx hb dX11_runsWithout_22 ?_
  obtain ⟨s_2, en, hf⟩ := ok_lt hf
  refine pHouse_on hC hw hS isH_27 wd426 en dX11_runsWithout_23 (fun H locs hw hS => ?_)
  clear en
  refine lv_iconst (v := 0) hx hb dX11_runsWithout_26 (by decide) ?_
  obtain ⟨v4_3, en, hf⟩ := ok_lt hf
  refine z_nm en ?_
  clear en
  refine lv_istore (lv' := [(4, .int v4_3), (0, .ref (E.2.2.1 0)), (1, .int x1), (2, .int x2), (3, .int x3)]) hx hb dX11_runsWithout_27 hl (by decide) rfl (fun ls hl => ?_)
  obtain ⟨r29, hL29, hf⟩ := ok_bind hf
  have X29_0 : ∀ (s_6 : St), (.inl s_6) = r29 → ∀ (H : Heap) (locs : List Loc) (ls : Array Slot), lv_has ls 5 [(0, .ref (E.2.2.1 0)), (2, .int x2)] → World E sh2 s_6 H → va_S E.2.2.2 s.heap H locs → W p l e (rmd 5) s m args below meth c H locs 0 0 (MQ below (QW E sh2 (some (.int rz)) sz) args s 0 0 E.2.2.2) (F0 m 61 ls []) := by
    intro s_6 er H locs ls hl hw hS
    subst er
    replace hf := ok_sell (hf)
    replace hf := ok_un1 hf
    refine lv_aload_n hx hb dX11_runsWithout_61 rfl (lv_at hl 0 rfl) ?_
    refine gFuseBox_trial hC hw wd349 dX11_runsWithout_62 ?_
    refine lv_iload_n hx hb dX11_runsWithout_65 rfl (lv_at hl 1 rfl) ?_
    obtain ⟨r_8, s_7, hc, hf⟩ := ok_bd hf
    refine z_cV hC hl.1 hw hS (As := [.int x2]) (rest := []) (m_X3_runs l E isH_27 hc) (sH isH_27).1 rfl gc167 gc25 ⟨Nat.le_of_ble_eq_true rfl, Nat.le_of_ble_eq_true rfl⟩ ⟨Nat.le_of_ble_eq_true rfl, Nat.le_of_ble_eq_true rfl⟩ rfl rfl (Nat.le_of_ble_eq_true rfl) dX11_runsWithout_66 (fun H locs hw hS => ?_)
    clear hc
    obtain ⟨hbo, hf⟩ := ok_chk hf
    exact z_iretE hC hlocks hw hS hf hr (narB hbo) dX11_runsWithout_69
  have X29_1 : ∀ (s_9 : St), (.inr s_9) = r29 → ∀ (H : Heap) (locs : List Loc) (ls : Array Slot), lv_has ls 5 [] → World E sh2 s_9 H → va_S E.2.2.2 s.heap H locs → W p l e (rmd 5) s m args below meth c H locs 0 0 (MQ below (QW E sh2 (some (.int rz)) sz) args s 0 0 E.2.2.2) (F0 m 46 ls []) := by
    intro s_9 er H locs ls hl hw hS
    subst er
    replace hf := ok_selr (hf)
    replace hf := ok_un1 hf
    refine lv_iconst (v := 0) hx hb dX11_runsWithout_46 (by decide) ?_
    exact z_iretE hC hlocks hw hS hf hr (by decide) dX11_runsWithout_47
  have L29 : ∀ (n : Nat) (v4_4 : Int32) (s_5 : St), loopF (f_X11_runsWithout_L29 x2 x3) n (v4_4, s_5) = some r29 → ∀ (H : Heap) (locs : List Loc) (ls : Array Slot), lv_has ls 5 [(0, .ref (E.2.2.1 0)), (2, .int x2), (3, .int x3), (4, .int v4_4)] → World E sh2 s_5 H → va_S E.2.2.2 s.heap H locs → W p l e (rmd 5) s m args below meth c H locs 0 0 (MQ below (QW E sh2 (some (.int rz)) sz) args s 0 0 E.2.2.2) (F0 m 29 ls []) := by
    intro n
    induction n with
    | zero =>
      intro v4_4 s_5 hf
      exact nz hf
    | succ n ih29 =>
      intro v4_4 s_5 hf H locs ls hl hw hS
      obtain ⟨xl29, hf, hi29, he29⟩ := ok_loop hf
      unfold f_X11_runsWithout_L29 at hf
      replace hf := ok_un2 hf
      refine lv_iload hx hb dX11_runsWithout_29 (lv_at hl 3 rfl) ?_
      refine lv_iload_n hx hb dX11_runsWithout_31 rfl (lv_at hl 2 rfl) ?_
      have hif := ok_if hf
      refine lv_icmp_ge (tgt := 61) hx hb dX11_runsWithout_32 (by decide) (fun hcd => ?_) (fun hcd => ?_)
      · have hf := hif.1 hcd
        clear hif
        cases hf
        exact X29_0 _ (he29 _ rfl) _ _ ls (lv_sub hl [0, 1] rfl) hw hS
      · have hf := hif.2 hcd
        clear hif
        refine lv_aload_n hx hb dX11_runsWithout_35 rfl (lv_at hl 0 rfl) ?_
        refine gFuseBox_trial hC hw wd349 dX11_runsWithout_36 ?_
        refine lv_iload_n hx hb dX11_runsWithout_39 rfl (lv_at hl 1 rfl) ?_
        obtain ⟨r_11, s_10, hc, hf⟩ := ok_bd hf
        refine z_cV hC hl.1 hw hS (As := [.int x2]) (rest := []) (m_X3_runs l E isH_27 hc) (sH isH_27).1 rfl gc167 gc25 ⟨Nat.le_of_ble_eq_true rfl, Nat.le_of_ble_eq_true rfl⟩ ⟨Nat.le_of_ble_eq_true rfl, Nat.le_of_ble_eq_true rfl⟩ rfl rfl (Nat.le_of_ble_eq_true rfl) dX11_runsWithout_40 (fun H locs hw hS => ?_)
        clear hc
        have hif := ok_if hf
        refine lv_if_ne (tgt := 48) hx hb dX11_runsWithout_43 (by decide) (fun hcd => ?_) (fun hcd => ?_)
        · have hf := hif.1 hcd
          clear hif
          refine lv_aload_n hx hb dX11_runsWithout_48 rfl (lv_at hl 0 rfl) ?_
          refine gFuseBox_trial hC hw wd349 dX11_runsWithout_49 ?_
          obtain ⟨s_12, hc, hf⟩ := ok_bind hf
          refine z_cV hC hl.1 hw hS (As := []) (rest := []) (m_X3_passMinute l E isH_27 hc) (sH isH_27).1 rfl gc149 gc52 ⟨Nat.le_of_ble_eq_true rfl, Nat.le_of_ble_eq_true rfl⟩ ⟨Nat.le_of_ble_eq_true rfl, Nat.le_of_ble_eq_true rfl⟩ rfl rfl (Nat.le_of_ble_eq_true rfl) dX11_runsWithout_52 (fun H locs hw hS => ?_)
          clear hc
          obtain ⟨v4_13, en, hf⟩ := ok_lt hf
          refine lv_iinc (v := v4_13) (lv' := [(4, .int v4_13), (0, .ref (E.2.2.1 0)), (2, .int x2), (3, .int x3)]) hx hb dX11_runsWithout_55 hl (k := 3) rfl (by rw [en]; rfl) (by decide) rfl (fun ls hl => ?_)
          clear en
          refine lv_goto (tgt := 29) hx hb dX11_runsWithout_58 (by decide) ?_
          cases hf
          exact ih29 _ _ (hi29 _ rfl) _ _ ls (lv_sub hl [1, 2, 3, 0] rfl) hw hS
        · have hf := hif.2 (fun q => q hcd)
          clear hif
          cases hf
          exact X29_1 _ (he29 _ rfl) _ _ ls (lv_sub hl [] rfl) hw hS
  exact L29 5000 _ _ hL29 _ _ ls (lv_sub hl [1, 3, 4, 0] rfl) hw hS
set_option maxHeartbeats 4000000 in
set_option maxRecDepth 100000 in
theorem m_X11_shed (l : Launch) (E : Ev) {x1 : Int32} {x2 : Int32} {x3 : Int32}  {s0 sz : St} {rz : Int32} (hf : f_X11_shed x1 x2 x3 s0 = some (rz, sz)) : MM l E sh2 yX11_shed cX11_shed 8 (some .int) (rmd 6) [.ref (E.2.2.1 0), .int x1, .int x2, .int x3] s0 (some (.int rz)) sz := by
  unfold f_X11_shed at hf
  refine z_enter (by decide +kernel) (Nat.le_of_ble_eq_true rfl) ?_
  intro p e s m args below meth c ls hC hr hlocks hw hS hl
  have hC : Cx p s m args c cX11_shed 8 "FuseBox" E := hC
  obtain ⟨hx, hb, hml, hown, hts, hTB⟩ := id hC
  have hl : lv_has ls 8 [(0, .ref (E.2.2.1 0)), (1, .int x1), (2, .int x2), (3, .int x3)] := hl
  refine lv_aload_n hx hb dX11_shed_0 rfl (lv_at hl 0 rfl) ?_
  refine lv_iload_n hx hb dX11_shed_1 rfl (lv_at hl 1 rfl) ?_
  obtain ⟨r_2, s_1, hc, hf⟩ := ok_bd hf
  refine z_cV hC hl.1 hw hS (As := [.int x1]) (rest := []) (m_X11_noThing l E  hc) rfl rfl gc150 gc151 ⟨Nat.le_of_ble_eq_true rfl, Nat.le_of_ble_eq_true rfl⟩ ⟨Nat.le_of_ble_eq_true rfl, Nat.le_of_ble_eq_true rfl⟩ rfl rfl (Nat.le_of_ble_eq_true rfl) dX11_shed_2 (fun H locs hw hS => ?_)
  clear hc
  obtain ⟨j28, ej28, hf⟩ := ok_lt hf
  have J28 : ∀ (s_3 : St), j28 s_3 = some (rz, sz) → ∀ (H : Heap) (locs : List Loc) (ls : Array Slot), lv_has ls 8 [] → World E sh2 s_3 H → va_S E.2.2.2 s.heap H locs → W p l e (rmd 6) s m args below meth c H locs 0 0 (MQ below (QW E sh2 (some (.int rz)) sz) args s 0 0 E.2.2.2) (F0 m 28 ls []) := by
    intro s_3 hf H locs ls hl hw hS
    subst ej28
    refine lv_ldc (v := -1000001) hx hb hown (hts _ wd305) dX11_shed_28 ?_
    exact z_iretE hC hlocks hw hS hf hr rfl dX11_shed_30
  clear ej28
  have hif := ok_if hf
  refine lv_if_ne (tgt := 28) hx hb dX11_shed_5 (by decide) (fun hcd => ?_) (fun hcd => ?_)
  · have hf := hif.1 hcd
    clear hif
    exact J28 _ hf _ _ ls (lv_sub hl [] rfl) hw hS
  · have hf := hif.2 (fun q => q hcd)
    clear hif
    refine lv_iload_n hx hb dX11_shed_8 rfl (lv_at hl 2 rfl) ?_
    refine lv_iconst (v := 1) hx hb dX11_shed_9 (by decide) ?_
    have hif := ok_if hf
    refine lv_icmp_lt (tgt := 28) hx hb dX11_shed_10 (by decide) (fun hcd => ?_) (fun hcd => ?_)
    · have hf := hif.1 hcd
      clear hif
      exact J28 _ hf _ _ ls (lv_sub hl [] rfl) hw hS
    · have hf := hif.2 hcd
      clear hif
      refine lv_iload_n hx hb dX11_shed_13 rfl (lv_at hl 2 rfl) ?_
      refine lv_bipush (v := 30) hx hb dX11_shed_14 (by decide) ?_
      have hif := ok_if hf
      refine lv_icmp_gt (tgt := 28) hx hb dX11_shed_16 (by decide) (fun hcd => ?_) (fun hcd => ?_)
      · have hf := hif.1 hcd
        clear hif
        exact J28 _ hf _ _ ls (lv_sub hl [] rfl) hw hS
      · have hf := hif.2 hcd
        clear hif
        refine lv_iload_n hx hb dX11_shed_19 rfl (lv_at hl 3 rfl) ?_
        have hif := ok_if hf
        refine lv_if_lt (tgt := 28) hx hb dX11_shed_20 (by decide) (fun hcd => ?_) (fun hcd => ?_)
        · have hf := hif.1 hcd
          clear hif
          exact J28 _ hf _ _ ls (lv_sub hl [] rfl) hw hS
        · have hf := hif.2 hcd
          clear hif
          refine lv_iload_n hx hb dX11_shed_23 rfl (lv_at hl 3 rfl) ?_
          refine lv_iconst (v := 1) hx hb dX11_shed_24 (by decide) ?_
          have hif := ok_if hf
          refine lv_icmp_le (tgt := 31) hx hb dX11_shed_25 (by decide) (fun hcd => ?_) (fun hcd => ?_)
          · have hf := hif.1 hcd
            clear hif
            refine lv_aload_n hx hb dX11_shed_31 rfl (lv_at hl 0 rfl) ?_
            refine gFuseBox_now hC hw wd354 dX11_shed_32 ?_
            refine gHouse_on hC hw isH_19 wd426 dX11_shed_35 ?_
            refine lv_iconst (v := 1) hx hb dX11_shed_38 (by decide) ?_
            refine lv_iload_n hx hb dX11_shed_39 rfl (lv_at hl 1 rfl) ?_
            refine lv_ishl hx hb dX11_shed_40 ?_
            refine lv_iconst (v := -1) hx hb dX11_shed_41 (by decide) ?_
            refine lv_ixor hx hb dX11_shed_42 ?_
            refine lv_iand hx hb dX11_shed_43 ?_
            obtain ⟨v4_4, en, hf⟩ := ok_lt hf
            refine z_nm en ?_
            clear en
            refine lv_istore (lv' := [(4, .int v4_4), (0, .ref (E.2.2.1 0)), (1, .int x1), (2, .int x2), (3, .int x3)]) hx hb dX11_shed_44 hl (by decide) rfl (fun ls hl => ?_)
            refine lv_bipush (v := 7) hx hb dX11_shed_46 (by decide) ?_
            obtain ⟨v5_5, en, hf⟩ := ok_lt hf
            refine z_nm en ?_
            clear en
            refine lv_istore (lv' := [(5, .int v5_5), (4, .int v4_4), (0, .ref (E.2.2.1 0)), (1, .int x1), (2, .int x2), (3, .int x3)]) hx hb dX11_shed_48 hl (by decide) rfl (fun ls hl => ?_)
            refine lv_iconst (v := 0) hx hb dX11_shed_50 (by decide) ?_
            obtain ⟨v6_6, en, hf⟩ := ok_lt hf
            refine z_nm en ?_
            clear en
            refine lv_istore (lv' := [(6, .int v6_6), (5, .int v5_5), (4, .int v4_4), (0, .ref (E.2.2.1 0)), (1, .int x1), (2, .int x2), (3, .int x3)]) hx hb dX11_shed_51 hl (by decide) rfl (fun ls hl => ?_)
            refine lv_iconst (v := 0) hx hb dX11_shed_53 (by decide) ?_
            obtain ⟨v7_7, en, hf⟩ := ok_lt hf
            refine z_nm en ?_
            clear en
            refine lv_istore (lv' := [(7, .int v7_7), (6, .int v6_6), (5, .int v5_5), (4, .int v4_4), (0, .ref (E.2.2.1 0)), (1, .int x1), (2, .int x2), (3, .int x3)]) hx hb dX11_shed_54 hl (by decide) rfl (fun ls hl => ?_)
            obtain ⟨r56, hL56, hf⟩ := ok_bind hf
            have X56_0 : ∀ (v5_12 : Int32) (v6_13 : Int32) (s_14 : St), (v5_12, v6_13, s_14) = r56 → ∀ (H : Heap) (locs : List Loc) (ls : Array Slot), lv_has ls 8 [(3, .int x3), (5, .int v5_12), (6, .int v6_13)] → World E sh2 s_14 H → va_S E.2.2.2 s.heap H locs → W p l e (rmd 6) s m args below meth c H locs 0 0 (MQ below (QW E sh2 (some (.int rz)) sz) args s 0 0 E.2.2.2) (F0 m 111 ls []) := by
              intro v5_12 v6_13 s_14 er H locs ls hl hw hS
              subst er
              replace hf := ok_un3 hf
              refine lv_iload hx hb dX11_shed_111 (lv_at hl 1 rfl) ?_
              refine lv_bipush (v := 6) hx hb dX11_shed_113 (by decide) ?_
              have hif := ok_if hf
              refine lv_icmp_le (tgt := 121) hx hb dX11_shed_115 (by decide) (fun hcd => ?_) (fun hcd => ?_)
              · have hf := hif.1 hcd
                clear hif
                refine lv_iload_n hx hb dX11_shed_121 rfl (lv_at hl 0 rfl) ?_
                obtain ⟨j132, ej132, hf⟩ := ok_lt hf
                have J132 : ∀ (k_15 : Int32) (s_16 : St), j132 k_15 s_16 = some (rz, sz) → ∀ (H : Heap) (locs : List Loc) (ls : Array Slot), lv_has ls 8 [] → World E sh2 s_16 H → va_S E.2.2.2 s.heap H locs → W p l e (rmd 6) s m args below meth c H locs 0 0 (MQ below (QW E sh2 (some (.int rz)) sz) args s 0 0 E.2.2.2) (F0 m 132 ls [.int k_15]) := by
                  intro k_15 s_16 hf H locs ls hl hw hS
                  subst ej132
                  exact z_iretE hC hlocks hw hS hf hr rfl dX11_shed_132
                clear ej132
                have hif := ok_if hf
                refine lv_if_ne (tgt := 130) hx hb dX11_shed_122 (by decide) (fun hcd => ?_) (fun hcd => ?_)
                · have hf := hif.1 hcd
                  clear hif
                  refine lv_iload hx hb dX11_shed_130 (lv_at hl 2 rfl) ?_
                  exact J132 _ _ hf _ _ ls (lv_sub hl [] rfl) hw hS
                · have hf := hif.2 (fun q => q hcd)
                  clear hif
                  refine lv_iload hx hb dX11_shed_125 (lv_at hl 1 rfl) ?_
                  refine lv_goto (tgt := 132) hx hb dX11_shed_127 (by decide) ?_
                  exact J132 _ _ hf _ _ ls (lv_sub hl [] rfl) hw hS
              · have hf := hif.2 hcd
                clear hif
                refine lv_ldc (v := -1000000) hx hb hown (hts _ wd425) dX11_shed_118 ?_
                exact z_iretE hC hlocks hw hS hf hr rfl dX11_shed_120
            have L56 : ∀ (n : Nat) (v5_8 : Int32) (v6_9 : Int32) (v7_10 : Int32) (s_11 : St), loopF (f_X11_shed_L56 x1 x2 v4_4) n (v5_8, v6_9, v7_10, s_11) = some r56 → ∀ (H : Heap) (locs : List Loc) (ls : Array Slot), lv_has ls 8 [(0, .ref (E.2.2.1 0)), (1, .int x1), (2, .int x2), (3, .int x3), (4, .int v4_4), (5, .int v5_8), (6, .int v6_9), (7, .int v7_10)] → World E sh2 s_11 H → va_S E.2.2.2 s.heap H locs → W p l e (rmd 6) s m args below meth c H locs 0 0 (MQ below (QW E sh2 (some (.int rz)) sz) args s 0 0 E.2.2.2) (F0 m 56 ls []) := by
              intro n
              induction n with
              | zero =>
                intro v5_8 v6_9 v7_10 s_11 hf
                exact nz hf
              | succ n ih56 =>
                intro v5_8 v6_9 v7_10 s_11 hf H locs ls hl hw hS
                obtain ⟨xl56, hf, hi56, he56⟩ := ok_loop hf
                unfold f_X11_shed_L56 at hf
                replace hf := ok_un4 hf
                refine lv_iload hx hb dX11_shed_56 (lv_at hl 7 rfl) ?_
                refine lv_bipush (v := 64) hx hb dX11_shed_58 (by decide) ?_
                have hif := ok_if hf
                refine lv_icmp_ge (tgt := 111) hx hb dX11_shed_60 (by decide) (fun hcd => ?_) (fun hcd => ?_)
                · have hf := hif.1 hcd
                  clear hif
                  cases hf
                  exact X56_0 _ _ _ (he56 _ rfl) _ _ ls (lv_sub hl [3, 5, 6] rfl) hw hS
                · have hf := hif.2 hcd
                  clear hif
                  refine lv_iload hx hb dX11_shed_63 (lv_at hl 7 rfl) ?_
                  refine lv_iload hx hb dX11_shed_65 (lv_at hl 4 rfl) ?_
                  refine lv_iconst (v := -1) hx hb dX11_shed_67 (by decide) ?_
                  refine lv_ixor hx hb dX11_shed_68 ?_
                  refine lv_iand hx hb dX11_shed_69 ?_
                  obtain ⟨j105, ej105, hf⟩ := ok_lt hf
                  have J105 : ∀ (v5_17 : Int32) (v6_18 : Int32) (s_19 : St), j105 v5_17 v6_18 s_19 = some xl56 → ∀ (H : Heap) (locs : List Loc) (ls : Array Slot), lv_has ls 8 [(0, .ref (E.2.2.1 0)), (1, .int x1), (2, .int x2), (3, .int x3), (4, .int v4_4), (5, .int v5_17), (6, .int v6_18), (7, .int v7_10)] → World E sh2 s_19 H → va_S E.2.2.2 s.heap H locs → W p l e (rmd 6) s m args below meth c H locs 0 0 (MQ below (QW E sh2 (some (.int rz)) sz) args s 0 0 E.2.2.2) (F0 m 105 ls []) := by
                    intro v5_17 v6_18 s_19 hf H locs ls hl hw hS
                    subst ej105
                    obtain ⟨v7_20, en, hf⟩ := ok_lt hf
                    refine lv_iinc (v := v7_20) (lv' := [(7, .int v7_20), (0, .ref (E.2.2.1 0)), (1, .int x1), (2, .int x2), (3, .int x3), (4, .int v4_4), (5, .int v5_17), (6, .int v6_18)]) hx hb dX11_shed_105 hl (k := 7) rfl (by rw [en]; rfl) (by decide) rfl (fun ls hl => ?_)
                    clear en
                    refine lv_goto (tgt := 56) hx hb dX11_shed_108 (by decide) ?_
                    cases hf
                    exact ih56 _ _ _ _ (hi56 _ rfl) _ _ ls (lv_sub hl [1, 2, 3, 4, 5, 6, 7, 0] rfl) hw hS
                  clear ej105
                  have hif := ok_if hf
                  refine lv_if_ne (tgt := 105) hx hb dX11_shed_70 (by decide) (fun hcd => ?_) (fun hcd => ?_)
                  · have hf := hif.1 hcd
                    clear hif
                    exact J105 _ _ _ hf _ _ ls hl hw hS
                  · have hf := hif.2 (fun q => q hcd)
                    clear hif
                    refine lv_iload hx hb dX11_shed_73 (lv_at hl 7 rfl) ?_
                    obtain ⟨r_22, s_21, hc, hf⟩ := ok_bd hf
                    refine z_cS hC hl.1 hw hS (As := [.int v7_10]) (rest := []) (m_J6_bitCount_0f7a4 l E  hc) gc170 gc68 ⟨Nat.le_of_ble_eq_true rfl, Nat.le_of_ble_eq_true rfl⟩ ⟨Nat.le_of_ble_eq_true rfl, Nat.le_of_ble_eq_true rfl⟩ rfl rfl (Nat.le_of_ble_eq_true rfl) dX11_shed_75 (fun H locs hw hS => ?_)
                    clear hc
                    refine lv_iload hx hb dX11_shed_78 (lv_at hl 5 rfl) ?_
                    have hif := ok_if hf
                    refine lv_icmp_ge (tgt := 105) hx hb dX11_shed_80 (by decide) (fun hcd => ?_) (fun hcd => ?_)
                    · have hf := hif.1 hcd
                      clear hif
                      exact J105 _ _ _ hf _ _ ls hl hw hS
                    · have hf := hif.2 hcd
                      clear hif
                      refine lv_aload_n hx hb dX11_shed_83 rfl (lv_at hl 0 rfl) ?_
                      refine lv_iload hx hb dX11_shed_84 (lv_at hl 7 rfl) ?_
                      refine lv_iload_n hx hb dX11_shed_86 rfl (lv_at hl 1 rfl) ?_
                      refine lv_iload_n hx hb dX11_shed_87 rfl (lv_at hl 2 rfl) ?_
                      obtain ⟨r_24, s_23, hc, hf⟩ := ok_bd hf
                      refine z_cV hC hl.1 hw hS (As := [.int v7_10, .int x1, .int x2]) (rest := []) (m_X11_runsWithout l E  hc) rfl rfl gc171 gc172 ⟨Nat.le_of_ble_eq_true rfl, Nat.le_of_ble_eq_true rfl⟩ ⟨Nat.le_of_ble_eq_true rfl, Nat.le_of_ble_eq_true rfl⟩ rfl rfl (Nat.le_of_ble_eq_true rfl) dX11_shed_88 (fun H locs hw hS => ?_)
                      clear hc
                      have hif := ok_if hf
                      refine lv_if_eq (tgt := 105) hx hb dX11_shed_91 (by decide) (fun hcd => ?_) (fun hcd => ?_)
                      · have hf := hif.1 hcd
                        clear hif
                        exact J105 _ _ _ hf _ _ ls hl hw hS
                      · have hf := hif.2 hcd
                        clear hif
                        refine lv_iload hx hb dX11_shed_94 (lv_at hl 7 rfl) ?_
                        obtain ⟨r_26, s_25, hc, hf⟩ := ok_bd hf
                        refine z_cS hC hl.1 hw hS (As := [.int v7_10]) (rest := []) (m_J6_bitCount_0f7a4 l E  hc) gc170 gc68 ⟨Nat.le_of_ble_eq_true rfl, Nat.le_of_ble_eq_true rfl⟩ ⟨Nat.le_of_ble_eq_true rfl, Nat.le_of_ble_eq_true rfl⟩ rfl rfl (Nat.le_of_ble_eq_true rfl) dX11_shed_96 (fun H locs hw hS => ?_)
                        clear hc
                        refine lv_istore (lv' := [(5, .int r_26), (0, .ref (E.2.2.1 0)), (1, .int x1), (2, .int x2), (3, .int x3), (4, .int v4_4), (6, .int v6_9), (7, .int v7_10)]) hx hb dX11_shed_99 hl (by decide) rfl (fun ls hl => ?_)
                        refine lv_iload hx hb dX11_shed_101 (lv_at hl 7 rfl) ?_
                        refine lv_istore (lv' := [(6, .int v7_10), (5, .int r_26), (0, .ref (E.2.2.1 0)), (1, .int x1), (2, .int x2), (3, .int x3), (4, .int v4_4), (7, .int v7_10)]) hx hb dX11_shed_103 hl (by decide) rfl (fun ls hl => ?_)
                        exact J105 _ _ _ hf _ _ ls (lv_sub hl [2, 3, 4, 5, 6, 1, 0, 7] rfl) hw hS
            exact L56 5000 _ _ _ _ hL56 _ _ ls (lv_sub hl [4, 5, 6, 7, 3, 2, 1, 0] rfl) hw hS
          · have hf := hif.2 hcd
            clear hif
            exact J28 _ hf _ _ ls (lv_sub hl [] rfl) hw hS
set_option maxHeartbeats 4000000 in
set_option maxRecDepth 100000 in
theorem m_X11_plugs (l : Launch) (E : Ev) {x1 : Int32} {x2 : Int32}  {s0 sz : St} {rz : Int32} (hf : f_X11_plugs x1 x2 s0 = some (rz, sz)) : MM l E sh2 yX11_plugs cX11_plugs 3 (some .int) (rmd 13) [.ref (E.2.2.1 0), .int x1, .int x2] s0 (some (.int rz)) sz := by
  unfold f_X11_plugs at hf
  refine z_enter (by decide +kernel) (Nat.le_of_ble_eq_true rfl) ?_
  intro p e s m args below meth c ls hC hr hlocks hw hS hl
  have hC : Cx p s m args c cX11_plugs 3 "FuseBox" E := hC
  obtain ⟨hx, hb, hml, hown, hts, hTB⟩ := id hC
  have hl : lv_has ls 3 [(0, .ref (E.2.2.1 0)), (1, .int x1), (2, .int x2)] := hl
  refine lv_aload_n hx hb dX11_plugs_0 rfl (lv_at hl 0 rfl) ?_
  obtain ⟨r_2, s_1, hc, hf⟩ := ok_bd hf
  refine z_cV hC hl.1 hw hS (As := []) (rest := []) (m_X11_noHouse l E  hc) rfl rfl gc143 gc144 ⟨Nat.le_of_ble_eq_true rfl, Nat.le_of_ble_eq_true rfl⟩ ⟨Nat.le_of_ble_eq_true rfl, Nat.le_of_ble_eq_true rfl⟩ rfl rfl (Nat.le_of_ble_eq_true rfl) dX11_plugs_1 (fun H locs hw hS => ?_)
  clear hc
  have hif := ok_if hf
  refine lv_if_eq (tgt := 10) hx hb dX11_plugs_4 (by decide) (fun hcd => ?_) (fun hcd => ?_)
  · have hf := hif.1 hcd
    clear hif
    refine lv_iload_n hx hb dX11_plugs_10 rfl (lv_at hl 1 rfl) ?_
    refine lv_iconst (v := 1) hx hb dX11_plugs_11 (by decide) ?_
    obtain ⟨j37, ej37, hf⟩ := ok_lt hf
    have J37 : ∀ (s_3 : St), j37 s_3 = some (rz, sz) → ∀ (H : Heap) (locs : List Loc) (ls : Array Slot), lv_has ls 3 [] → World E sh2 s_3 H → va_S E.2.2.2 s.heap H locs → W p l e (rmd 13) s m args below meth c H locs 0 0 (MQ below (QW E sh2 (some (.int rz)) sz) args s 0 0 E.2.2.2) (F0 m 37 ls []) := by
      intro s_3 hf H locs ls hl hw hS
      subst ej37
      refine lv_ldc (v := -1000001) hx hb hown (hts _ wd305) dX11_plugs_37 ?_
      exact z_iretE hC hlocks hw hS hf hr rfl dX11_plugs_39
    clear ej37
    have hif := ok_if hf
    refine lv_icmp_lt (tgt := 37) hx hb dX11_plugs_12 (by decide) (fun hcd => ?_) (fun hcd => ?_)
    · have hf := hif.1 hcd
      clear hif
      exact J37 _ hf _ _ ls (lv_sub hl [] rfl) hw hS
    · have hf := hif.2 hcd
      clear hif
      refine lv_iload_n hx hb dX11_plugs_15 rfl (lv_at hl 1 rfl) ?_
      refine lv_bipush (v := 12) hx hb dX11_plugs_16 (by decide) ?_
      have hif := ok_if hf
      refine lv_icmp_gt (tgt := 37) hx hb dX11_plugs_18 (by decide) (fun hcd => ?_) (fun hcd => ?_)
      · have hf := hif.1 hcd
        clear hif
        exact J37 _ hf _ _ ls (lv_sub hl [] rfl) hw hS
      · have hf := hif.2 hcd
        clear hif
        refine lv_iload_n hx hb dX11_plugs_21 rfl (lv_at hl 2 rfl) ?_
        refine lv_iconst (v := -1) hx hb dX11_plugs_22 (by decide) ?_
        have hif := ok_if hf
        refine lv_icmp_lt (tgt := 37) hx hb dX11_plugs_23 (by decide) (fun hcd => ?_) (fun hcd => ?_)
        · have hf := hif.1 hcd
          clear hif
          exact J37 _ hf _ _ ls (lv_sub hl [] rfl) hw hS
        · have hf := hif.2 hcd
          clear hif
          refine lv_iload_n hx hb dX11_plugs_26 rfl (lv_at hl 2 rfl) ?_
          refine lv_aload_n hx hb dX11_plugs_27 rfl (lv_at hl 0 rfl) ?_
          refine gFuseBox_now hC hw wd354 dX11_plugs_28 ?_
          refine gHouse_things hC hw isH_19 wd383 dX11_plugs_31 ?_
          have hif := ok_if hf
          refine lv_icmp_lt (tgt := 40) hx hb dX11_plugs_34 (by decide) (fun hcd => ?_) (fun hcd => ?_)
          · have hf := hif.1 hcd
            clear hif
            refine lv_aload_n hx hb dX11_plugs_40 rfl (lv_at hl 0 rfl) ?_
            refine gFuseBox_trial hC hw wd349 dX11_plugs_41 ?_
            refine lv_aload_n hx hb dX11_plugs_44 rfl (lv_at hl 0 rfl) ?_
            refine gFuseBox_now hC hw wd354 dX11_plugs_45 ?_
            obtain ⟨s_4, hc, hf⟩ := ok_bind hf
            refine z_cV hC hl.1 hw hS (As := [.ref (E.2.2.1 19)]) (rest := []) (m_X3_become l E isH_27 isH_19 hc) (sH isH_27).1 rfl gc139 gc140 ⟨Nat.le_of_ble_eq_true rfl, Nat.le_of_ble_eq_true rfl⟩ ⟨Nat.le_of_ble_eq_true rfl, Nat.le_of_ble_eq_true rfl⟩ rfl rfl (Nat.le_of_ble_eq_true rfl) dX11_plugs_48 (fun H locs hw hS => ?_)
            clear hc
            refine lv_aload_n hx hb dX11_plugs_51 rfl (lv_at hl 0 rfl) ?_
            refine gFuseBox_plugging hC hw wd432 dX11_plugs_52 ?_
            refine lv_aload_n hx hb dX11_plugs_55 rfl (lv_at hl 0 rfl) ?_
            refine gFuseBox_trial hC hw wd349 dX11_plugs_56 ?_
            refine lv_iload_n hx hb dX11_plugs_59 rfl (lv_at hl 1 rfl) ?_
            obtain ⟨s_5, hc, hf⟩ := ok_bind hf
            refine z_cV hC hl.1 hw hS (As := [.ref (E.2.2.1 27), .int x1]) (rest := []) (m_X4_search l E  hc) rfl rfl gc173 gc174 ⟨Nat.le_of_ble_eq_true rfl, Nat.le_of_ble_eq_true rfl⟩ ⟨Nat.le_of_ble_eq_true rfl, Nat.le_of_ble_eq_true rfl⟩ rfl rfl (Nat.le_of_ble_eq_true rfl) dX11_plugs_60 (fun H locs hw hS => ?_)
            clear hc
            refine lv_iload_n hx hb dX11_plugs_63 rfl (lv_at hl 2 rfl) ?_
            refine lv_iconst (v := -1) hx hb dX11_plugs_64 (by decide) ?_
            obtain ⟨j87, ej87, hf⟩ := ok_lt hf
            have J87 : ∀ (k_6 : Int32) (s_7 : St), j87 k_6 s_7 = some (rz, sz) → ∀ (H : Heap) (locs : List Loc) (ls : Array Slot), lv_has ls 3 [] → World E sh2 s_7 H → va_S E.2.2.2 s.heap H locs → W p l e (rmd 13) s m args below meth c H locs 0 0 (MQ below (QW E sh2 (some (.int rz)) sz) args s 0 0 E.2.2.2) (F0 m 87 ls [.int k_6]) := by
              intro k_6 s_7 hf H locs ls hl hw hS
              subst ej87
              exact z_iretE hC hlocks hw hS hf hr rfl dX11_plugs_87
            clear ej87
            have hif := ok_if hf
            refine lv_icmp_ne (tgt := 78) hx hb dX11_plugs_65 (by decide) (fun hcd => ?_) (fun hcd => ?_)
            · have hf := hif.1 hcd
              clear hif
              refine lv_aload_n hx hb dX11_plugs_78 rfl (lv_at hl 0 rfl) ?_
              refine gFuseBox_plugging hC hw wd432 dX11_plugs_79 ?_
              refine gPlugging_best hC hw wd437 dX11_plugs_82 ?_
              refine lv_iload_n hx hb dX11_plugs_85 rfl (lv_at hl 2 rfl) ?_
              obtain ⟨hin, hf⟩ := ok_chk hf
              refine z_iald hC hw rfl hin dX11_plugs_86 ?_
              exact J87 _ _ hf _ _ ls (lv_sub hl [] rfl) hw hS
            · have hf := hif.2 (fun q => q hcd)
              clear hif
              refine lv_aload_n hx hb dX11_plugs_68 rfl (lv_at hl 0 rfl) ?_
              refine gFuseBox_plugging hC hw wd432 dX11_plugs_69 ?_
              refine gPlugging_most hC hw wd438 dX11_plugs_72 ?_
              refine lv_goto (tgt := 87) hx hb dX11_plugs_75 (by decide) ?_
              exact J87 _ _ hf _ _ ls (lv_sub hl [] rfl) hw hS
          · have hf := hif.2 hcd
            clear hif
            exact J37 _ hf _ _ ls (lv_sub hl [] rfl) hw hS
  · have hf := hif.2 hcd
    clear hif
    refine lv_ldc (v := -1000002) hx hb hown (hts _ wd382) dX11_plugs_7 ?_
    exact z_iretE hC hlocks hw hS hf hr rfl dX11_plugs_9
set_option maxHeartbeats 4000000 in
set_option maxRecDepth 100000 in
theorem m_X11_holds (l : Launch) (E : Ev) {x1 : Int32} {x2 : Int32}  {s0 sz : St} {rz : Int32} (hf : f_X11_holds x1 x2 s0 = some (rz, sz)) : MM l E sh2 yX11_holds cX11_holds 4 (some .int) (rmd 6) [.ref (E.2.2.1 0), .int x1, .int x2] s0 (some (.int rz)) sz := by
  unfold f_X11_holds at hf
  refine z_enter (by decide +kernel) (Nat.le_of_ble_eq_true rfl) ?_
  intro p e s m args below meth c ls hC hr hlocks hw hS hl
  have hC : Cx p s m args c cX11_holds 4 "FuseBox" E := hC
  obtain ⟨hx, hb, hml, hown, hts, hTB⟩ := id hC
  have hl : lv_has ls 4 [(0, .ref (E.2.2.1 0)), (1, .int x1), (2, .int x2)] := hl
  refine lv_aload_n hx hb dX11_holds_0 rfl (lv_at hl 0 rfl) ?_
  refine lv_iload_n hx hb dX11_holds_1 rfl (lv_at hl 1 rfl) ?_
  obtain ⟨r_2, s_1, hc, hf⟩ := ok_bd hf
  refine z_cV hC hl.1 hw hS (As := [.int x1]) (rest := []) (m_X11_noLine l E  hc) rfl rfl gc156 gc157 ⟨Nat.le_of_ble_eq_true rfl, Nat.le_of_ble_eq_true rfl⟩ ⟨Nat.le_of_ble_eq_true rfl, Nat.le_of_ble_eq_true rfl⟩ rfl rfl (Nat.le_of_ble_eq_true rfl) dX11_holds_2 (fun H locs hw hS => ?_)
  clear hc
  obtain ⟨j19, ej19, hf⟩ := ok_lt hf
  have J19 : ∀ (s_3 : St), j19 s_3 = some (rz, sz) → ∀ (H : Heap) (locs : List Loc) (ls : Array Slot), lv_has ls 4 [] → World E sh2 s_3 H → va_S E.2.2.2 s.heap H locs → W p l e (rmd 6) s m args below meth c H locs 0 0 (MQ below (QW E sh2 (some (.int rz)) sz) args s 0 0 E.2.2.2) (F0 m 19 ls []) := by
    intro s_3 hf H locs ls hl hw hS
    subst ej19
    refine lv_ldc (v := -1000001) hx hb hown (hts _ wd305) dX11_holds_19 ?_
    exact z_iretE hC hlocks hw hS hf hr rfl dX11_holds_21
  clear ej19
  have hif := ok_if hf
  refine lv_if_ne (tgt := 19) hx hb dX11_holds_5 (by decide) (fun hcd => ?_) (fun hcd => ?_)
  · have hf := hif.1 hcd
    clear hif
    exact J19 _ hf _ _ ls (lv_sub hl [] rfl) hw hS
  · have hf := hif.2 (fun q => q hcd)
    clear hif
    refine lv_iload_n hx hb dX11_holds_8 rfl (lv_at hl 2 rfl) ?_
    refine lv_iconst (v := 1) hx hb dX11_holds_9 (by decide) ?_
    have hif := ok_if hf
    refine lv_icmp_lt (tgt := 19) hx hb dX11_holds_10 (by decide) (fun hcd => ?_) (fun hcd => ?_)
    · have hf := hif.1 hcd
      clear hif
      exact J19 _ hf _ _ ls (lv_sub hl [] rfl) hw hS
    · have hf := hif.2 hcd
      clear hif
      refine lv_iload_n hx hb dX11_holds_13 rfl (lv_at hl 2 rfl) ?_
      refine lv_bipush (v := 30) hx hb dX11_holds_14 (by decide) ?_
      have hif := ok_if hf
      refine lv_icmp_le (tgt := 22) hx hb dX11_holds_16 (by decide) (fun hcd => ?_) (fun hcd => ?_)
      · have hf := hif.1 hcd
        clear hif
        refine lv_iconst (v := 1) hx hb dX11_holds_22 (by decide) ?_
        obtain ⟨v3_4, en, hf⟩ := ok_lt hf
        refine z_nm en ?_
        clear en
        refine lv_istore_n (lv' := [(3, .int v3_4), (0, .ref (E.2.2.1 0)), (1, .int x1), (2, .int x2)]) hx hb dX11_holds_23 rfl hl (by decide) rfl (fun ls hl => ?_)
        obtain ⟨r24, hL24, hf⟩ := ok_bind hf
        have X24_0 : ∀ (s_7 : St), (.inl s_7) = r24 → ∀ (H : Heap) (locs : List Loc) (ls : Array Slot), lv_has ls 4 [] → World E sh2 s_7 H → va_S E.2.2.2 s.heap H locs → W p l e (rmd 6) s m args below meth c H locs 0 0 (MQ below (QW E sh2 (some (.int rz)) sz) args s 0 0 E.2.2.2) (F0 m 71 ls []) := by
          intro s_7 er H locs ls hl hw hS
          subst er
          replace hf := ok_sell (hf)
          replace hf := ok_un1 hf
          refine lv_ldc (v := -1000000) hx hb hown (hts _ wd425) dX11_holds_71 ?_
          exact z_iretE hC hlocks hw hS hf hr rfl dX11_holds_73
        have X24_1 : ∀ (v3_8 : Int32) (s_9 : St), (.inr (v3_8, s_9)) = r24 → ∀ (H : Heap) (locs : List Loc) (ls : Array Slot), lv_has ls 4 [(3, .int v3_8)] → World E sh2 s_9 H → va_S E.2.2.2 s.heap H locs → W p l e (rmd 6) s m args below meth c H locs 0 0 (MQ below (QW E sh2 (some (.int rz)) sz) args s 0 0 E.2.2.2) (F0 m 63 ls []) := by
          intro v3_8 s_9 er H locs ls hl hw hS
          subst er
          replace hf := ok_selr (hf)
          replace hf := ok_un2 hf
          refine lv_iload_n hx hb dX11_holds_63 rfl (lv_at hl 0 rfl) ?_
          exact z_iretE hC hlocks hw hS hf hr rfl dX11_holds_64
        have L24 : ∀ (n : Nat) (v3_5 : Int32) (s_6 : St), loopF (f_X11_holds_L24 x1 x2) n (v3_5, s_6) = some r24 → ∀ (H : Heap) (locs : List Loc) (ls : Array Slot), lv_has ls 4 [(0, .ref (E.2.2.1 0)), (1, .int x1), (2, .int x2), (3, .int v3_5)] → World E sh2 s_6 H → va_S E.2.2.2 s.heap H locs → W p l e (rmd 6) s m args below meth c H locs 0 0 (MQ below (QW E sh2 (some (.int rz)) sz) args s 0 0 E.2.2.2) (F0 m 24 ls []) := by
          intro n
          induction n with
          | zero =>
            intro v3_5 s_6 hf
            exact nz hf
          | succ n ih24 =>
            intro v3_5 s_6 hf H locs ls hl hw hS
            obtain ⟨xl24, hf, hi24, he24⟩ := ok_loop hf
            unfold f_X11_holds_L24 at hf
            replace hf := ok_un2 hf
            refine lv_iload_n hx hb dX11_holds_24 rfl (lv_at hl 3 rfl) ?_
            refine lv_bipush (v := 20) hx hb dX11_holds_25 (by decide) ?_
            have hif := ok_if hf
            refine lv_icmp_gt (tgt := 71) hx hb dX11_holds_27 (by decide) (fun hcd => ?_) (fun hcd => ?_)
            · have hf := hif.1 hcd
              clear hif
              cases hf
              exact X24_0 _ (he24 _ rfl) _ _ ls (lv_sub hl [] rfl) hw hS
            · have hf := hif.2 hcd
              clear hif
              refine lv_aload_n hx hb dX11_holds_30 rfl (lv_at hl 0 rfl) ?_
              refine gFuseBox_trial hC hw wd349 dX11_holds_31 ?_
              refine lv_aload_n hx hb dX11_holds_34 rfl (lv_at hl 0 rfl) ?_
              refine gFuseBox_now hC hw wd354 dX11_holds_35 ?_
              obtain ⟨s_10, hc, hf⟩ := ok_bind hf
              refine z_cV hC hl.1 hw hS (As := [.ref (E.2.2.1 19)]) (rest := []) (m_X3_become l E isH_27 isH_19 hc) (sH isH_27).1 rfl gc139 gc140 ⟨Nat.le_of_ble_eq_true rfl, Nat.le_of_ble_eq_true rfl⟩ ⟨Nat.le_of_ble_eq_true rfl, Nat.le_of_ble_eq_true rfl⟩ rfl rfl (Nat.le_of_ble_eq_true rfl) dX11_holds_38 (fun H locs hw hS => ?_)
              clear hc
              refine lv_aload_n hx hb dX11_holds_41 rfl (lv_at hl 0 rfl) ?_
              refine gFuseBox_trial hC hw wd349 dX11_holds_42 ?_
              refine gHouse_rate hC hw isH_27 wd406 dX11_holds_45 ?_
              refine lv_iload_n hx hb dX11_holds_48 rfl (lv_at hl 1 rfl) ?_
              refine lv_iload_n hx hb dX11_holds_49 rfl (lv_at hl 3 rfl) ?_
              obtain ⟨hin, hf⟩ := ok_chk hf
              obtain ⟨s_11, en, hf⟩ := ok_lt hf
              refine z_iast hC hw hS (sH isH_27).2.2.1 hin en dX11_holds_50 (fun H locs hw hS => ?_)
              clear en
              refine lv_aload_n hx hb dX11_holds_51 rfl (lv_at hl 0 rfl) ?_
              refine gFuseBox_trial hC hw wd349 dX11_holds_52 ?_
              refine lv_iload_n hx hb dX11_holds_55 rfl (lv_at hl 1 rfl) ?_
              refine lv_iload_n hx hb dX11_holds_56 rfl (lv_at hl 2 rfl) ?_
              obtain ⟨r_13, s_12, hc, hf⟩ := ok_bd hf
              refine z_cV hC hl.1 hw hS (As := [.int x1, .int x2]) (rest := []) (m_X3_staysLive l E isH_27 hc) (sH isH_27).1 rfl gc175 gc176 ⟨Nat.le_of_ble_eq_true rfl, Nat.le_of_ble_eq_true rfl⟩ ⟨Nat.le_of_ble_eq_true rfl, Nat.le_of_ble_eq_true rfl⟩ rfl rfl (Nat.le_of_ble_eq_true rfl) dX11_holds_57 (fun H locs hw hS => ?_)
              clear hc
              have hif := ok_if hf
              refine lv_if_eq (tgt := 65) hx hb dX11_holds_60 (by decide) (fun hcd => ?_) (fun hcd => ?_)
              · have hf := hif.1 hcd
                clear hif
                obtain ⟨v3_14, en, hf⟩ := ok_lt hf
                refine lv_iinc (v := v3_14) (lv' := [(3, .int v3_14), (0, .ref (E.2.2.1 0)), (1, .int x1), (2, .int x2)]) hx hb dX11_holds_65 hl (k := 3) rfl (by rw [en]; rfl) (by decide) rfl (fun ls hl => ?_)
                clear en
                refine lv_goto (tgt := 24) hx hb dX11_holds_68 (by decide) ?_
                cases hf
                exact ih24 _ _ (hi24 _ rfl) _ _ ls (lv_sub hl [1, 2, 3, 0] rfl) hw hS
              · have hf := hif.2 hcd
                clear hif
                cases hf
                exact X24_1 _ _ (he24 _ rfl) _ _ ls (lv_sub hl [3] rfl) hw hS
        exact L24 5000 _ _ hL24 _ _ ls (lv_sub hl [1, 2, 3, 0] rfl) hw hS
      · have hf := hif.2 hcd
        clear hif
        exact J19 _ hf _ _ ls (lv_sub hl [] rfl) hw hS
set_option maxHeartbeats 4000000 in
set_option maxRecDepth 100000 in
theorem m_X11_faulty (l : Launch) (E : Ev) {x1 : Int32} {x2 : Int32}  {s0 sz : St} {rz : Int32} (hf : f_X11_faulty x1 x2 s0 = some (rz, sz)) : MM l E sh2 yX11_faulty cX11_faulty 5 (some .int) (rmd 6) [.ref (E.2.2.1 0), .int x1, .int x2] s0 (some (.int rz)) sz := by
  unfold f_X11_faulty at hf
  refine z_enter (by decide +kernel) (Nat.le_of_ble_eq_true rfl) ?_
  intro p e s m args below meth c ls hC hr hlocks hw hS hl
  have hC : Cx p s m args c cX11_faulty 5 "FuseBox" E := hC
  obtain ⟨hx, hb, hml, hown, hts, hTB⟩ := id hC
  have hl : lv_has ls 5 [(0, .ref (E.2.2.1 0)), (1, .int x1), (2, .int x2)] := hl
  refine lv_aload_n hx hb dX11_faulty_0 rfl (lv_at hl 0 rfl) ?_
  refine lv_iload_n hx hb dX11_faulty_1 rfl (lv_at hl 1 rfl) ?_
  obtain ⟨r_2, s_1, hc, hf⟩ := ok_bd hf
  refine z_cV hC hl.1 hw hS (As := [.int x1]) (rest := []) (m_X11_noLine l E  hc) rfl rfl gc156 gc157 ⟨Nat.le_of_ble_eq_true rfl, Nat.le_of_ble_eq_true rfl⟩ ⟨Nat.le_of_ble_eq_true rfl, Nat.le_of_ble_eq_true rfl⟩ rfl rfl (Nat.le_of_ble_eq_true rfl) dX11_faulty_2 (fun H locs hw hS => ?_)
  clear hc
  obtain ⟨j19, ej19, hf⟩ := ok_lt hf
  have J19 : ∀ (s_3 : St), j19 s_3 = some (rz, sz) → ∀ (H : Heap) (locs : List Loc) (ls : Array Slot), lv_has ls 5 [] → World E sh2 s_3 H → va_S E.2.2.2 s.heap H locs → W p l e (rmd 6) s m args below meth c H locs 0 0 (MQ below (QW E sh2 (some (.int rz)) sz) args s 0 0 E.2.2.2) (F0 m 19 ls []) := by
    intro s_3 hf H locs ls hl hw hS
    subst ej19
    refine lv_ldc (v := -1000001) hx hb hown (hts _ wd305) dX11_faulty_19 ?_
    exact z_iretE hC hlocks hw hS hf hr rfl dX11_faulty_21
  clear ej19
  have hif := ok_if hf
  refine lv_if_ne (tgt := 19) hx hb dX11_faulty_5 (by decide) (fun hcd => ?_) (fun hcd => ?_)
  · have hf := hif.1 hcd
    clear hif
    exact J19 _ hf _ _ ls (lv_sub hl [] rfl) hw hS
  · have hf := hif.2 (fun q => q hcd)
    clear hif
    refine lv_iload_n hx hb dX11_faulty_8 rfl (lv_at hl 2 rfl) ?_
    refine lv_iconst (v := 1) hx hb dX11_faulty_9 (by decide) ?_
    have hif := ok_if hf
    refine lv_icmp_lt (tgt := 19) hx hb dX11_faulty_10 (by decide) (fun hcd => ?_) (fun hcd => ?_)
    · have hf := hif.1 hcd
      clear hif
      exact J19 _ hf _ _ ls (lv_sub hl [] rfl) hw hS
    · have hf := hif.2 hcd
      clear hif
      refine lv_iload_n hx hb dX11_faulty_13 rfl (lv_at hl 2 rfl) ?_
      refine lv_bipush (v := 30) hx hb dX11_faulty_14 (by decide) ?_
      have hif := ok_if hf
      refine lv_icmp_le (tgt := 22) hx hb dX11_faulty_16 (by decide) (fun hcd => ?_) (fun hcd => ?_)
      · have hf := hif.1 hcd
        clear hif
        refine lv_iconst (v := 0) hx hb dX11_faulty_22 (by decide) ?_
        obtain ⟨v3_4, en, hf⟩ := ok_lt hf
        refine z_nm en ?_
        clear en
        refine lv_istore_n (lv' := [(3, .int v3_4), (0, .ref (E.2.2.1 0)), (1, .int x1), (2, .int x2)]) hx hb dX11_faulty_23 rfl hl (by decide) rfl (fun ls hl => ?_)
        refine lv_iconst (v := 0) hx hb dX11_faulty_24 (by decide) ?_
        obtain ⟨v4_5, en, hf⟩ := ok_lt hf
        refine z_nm en ?_
        clear en
        refine lv_istore (lv' := [(4, .int v4_5), (3, .int v3_4), (0, .ref (E.2.2.1 0)), (1, .int x1), (2, .int x2)]) hx hb dX11_faulty_25 hl (by decide) rfl (fun ls hl => ?_)
        obtain ⟨r27, hL27, hf⟩ := ok_bind hf
        have X27_0 : ∀ (v3_9 : Int32) (s_10 : St), (v3_9, s_10) = r27 → ∀ (H : Heap) (locs : List Loc) (ls : Array Slot), lv_has ls 5 [(3, .int v3_9)] → World E sh2 s_10 H → va_S E.2.2.2 s.heap H locs → W p l e (rmd 6) s m args below meth c H locs 0 0 (MQ below (QW E sh2 (some (.int rz)) sz) args s 0 0 E.2.2.2) (F0 m 96 ls []) := by
          intro v3_9 s_10 er H locs ls hl hw hS
          subst er
          replace hf := ok_un2 hf
          refine lv_iload_n hx hb dX11_faulty_96 rfl (lv_at hl 0 rfl) ?_
          exact z_iretE hC hlocks hw hS hf hr rfl dX11_faulty_97
        have L27 : ∀ (n : Nat) (v3_6 : Int32) (v4_7 : Int32) (s_8 : St), loopF (f_X11_faulty_L27 x1 x2) n (v3_6, v4_7, s_8) = some r27 → ∀ (H : Heap) (locs : List Loc) (ls : Array Slot), lv_has ls 5 [(0, .ref (E.2.2.1 0)), (1, .int x1), (2, .int x2), (3, .int v3_6), (4, .int v4_7)] → World E sh2 s_8 H → va_S E.2.2.2 s.heap H locs → W p l e (rmd 6) s m args below meth c H locs 0 0 (MQ below (QW E sh2 (some (.int rz)) sz) args s 0 0 E.2.2.2) (F0 m 27 ls []) := by
          intro n
          induction n with
          | zero =>
            intro v3_6 v4_7 s_8 hf
            exact nz hf
          | succ n ih27 =>
            intro v3_6 v4_7 s_8 hf H locs ls hl hw hS
            obtain ⟨xl27, hf, hi27, he27⟩ := ok_loop hf
            unfold f_X11_faulty_L27 at hf
            replace hf := ok_un3 hf
            refine lv_iload hx hb dX11_faulty_27 (lv_at hl 4 rfl) ?_
            refine lv_aload_n hx hb dX11_faulty_29 rfl (lv_at hl 0 rfl) ?_
            refine gFuseBox_now hC hw wd354 dX11_faulty_30 ?_
            refine gHouse_things hC hw isH_19 wd383 dX11_faulty_33 ?_
            have hif := ok_if hf
            refine lv_icmp_ge (tgt := 96) hx hb dX11_faulty_36 (by decide) (fun hcd => ?_) (fun hcd => ?_)
            · have hf := hif.1 hcd
              clear hif
              cases hf
              exact X27_0 _ _ (he27 _ rfl) _ _ ls (lv_sub hl [3] rfl) hw hS
            · have hf := hif.2 hcd
              clear hif
              refine lv_aload_n hx hb dX11_faulty_39 rfl (lv_at hl 0 rfl) ?_
              refine gFuseBox_now hC hw wd354 dX11_faulty_40 ?_
              refine lv_iload hx hb dX11_faulty_43 (lv_at hl 4 rfl) ?_
              obtain ⟨r_12, s_11, hc, hf⟩ := ok_bd hf
              refine z_cV hC hl.1 hw hS (As := [.int v4_7]) (rest := []) (m_X3_isOn l E isH_19 hc) (sH isH_19).1 rfl gc152 gc19 ⟨Nat.le_of_ble_eq_true rfl, Nat.le_of_ble_eq_true rfl⟩ ⟨Nat.le_of_ble_eq_true rfl, Nat.le_of_ble_eq_true rfl⟩ rfl rfl (Nat.le_of_ble_eq_true rfl) dX11_faulty_45 (fun H locs hw hS => ?_)
              clear hc
              obtain ⟨j90, ej90, hf⟩ := ok_lt hf
              have J90 : ∀ (v3_13 : Int32) (s_14 : St), j90 v3_13 s_14 = some xl27 → ∀ (H : Heap) (locs : List Loc) (ls : Array Slot), lv_has ls 5 [(0, .ref (E.2.2.1 0)), (1, .int x1), (2, .int x2), (3, .int v3_13), (4, .int v4_7)] → World E sh2 s_14 H → va_S E.2.2.2 s.heap H locs → W p l e (rmd 6) s m args below meth c H locs 0 0 (MQ below (QW E sh2 (some (.int rz)) sz) args s 0 0 E.2.2.2) (F0 m 90 ls []) := by
                intro v3_13 s_14 hf H locs ls hl hw hS
                subst ej90
                obtain ⟨v4_15, en, hf⟩ := ok_lt hf
                refine lv_iinc (v := v4_15) (lv' := [(4, .int v4_15), (0, .ref (E.2.2.1 0)), (1, .int x1), (2, .int x2), (3, .int v3_13)]) hx hb dX11_faulty_90 hl (k := 4) rfl (by rw [en]; rfl) (by decide) rfl (fun ls hl => ?_)
                clear en
                refine lv_goto (tgt := 27) hx hb dX11_faulty_93 (by decide) ?_
                cases hf
                exact ih27 _ _ _ (hi27 _ rfl) _ _ ls (lv_sub hl [1, 2, 3, 4, 0] rfl) hw hS
              clear ej90
              have hif := ok_if hf
              refine lv_if_eq (tgt := 90) hx hb dX11_faulty_48 (by decide) (fun hcd => ?_) (fun hcd => ?_)
              · have hf := hif.1 hcd
                clear hif
                exact J90 _ _ hf _ _ ls hl hw hS
              · have hf := hif.2 hcd
                clear hif
                refine lv_aload_n hx hb dX11_faulty_51 rfl (lv_at hl 0 rfl) ?_
                refine gFuseBox_trial hC hw wd349 dX11_faulty_52 ?_
                refine lv_aload_n hx hb dX11_faulty_55 rfl (lv_at hl 0 rfl) ?_
                refine gFuseBox_now hC hw wd354 dX11_faulty_56 ?_
                obtain ⟨s_16, hc, hf⟩ := ok_bind hf
                refine z_cV hC hl.1 hw hS (As := [.ref (E.2.2.1 19)]) (rest := []) (m_X3_become l E isH_27 isH_19 hc) (sH isH_27).1 rfl gc139 gc140 ⟨Nat.le_of_ble_eq_true rfl, Nat.le_of_ble_eq_true rfl⟩ ⟨Nat.le_of_ble_eq_true rfl, Nat.le_of_ble_eq_true rfl⟩ rfl rfl (Nat.le_of_ble_eq_true rfl) dX11_faulty_59 (fun H locs hw hS => ?_)
                clear hc
                refine lv_aload_n hx hb dX11_faulty_62 rfl (lv_at hl 0 rfl) ?_
                refine gFuseBox_trial hC hw wd349 dX11_faulty_63 ?_
                refine lv_iload hx hb dX11_faulty_66 (lv_at hl 4 rfl) ?_
                obtain ⟨s_17, hc, hf⟩ := ok_bind hf
                refine z_cV hC hl.1 hw hS (As := [.int v4_7]) (rest := []) (m_X3_toggle l E isH_27 hc) (sH isH_27).1 rfl gc153 gc58 ⟨Nat.le_of_ble_eq_true rfl, Nat.le_of_ble_eq_true rfl⟩ ⟨Nat.le_of_ble_eq_true rfl, Nat.le_of_ble_eq_true rfl⟩ rfl rfl (Nat.le_of_ble_eq_true rfl) dX11_faulty_68 (fun H locs hw hS => ?_)
                clear hc
                refine lv_aload_n hx hb dX11_faulty_71 rfl (lv_at hl 0 rfl) ?_
                refine gFuseBox_trial hC hw wd349 dX11_faulty_72 ?_
                refine lv_iload_n hx hb dX11_faulty_75 rfl (lv_at hl 1 rfl) ?_
                refine lv_iload_n hx hb dX11_faulty_76 rfl (lv_at hl 2 rfl) ?_
                obtain ⟨r_19, s_18, hc, hf⟩ := ok_bd hf
                refine z_cV hC hl.1 hw hS (As := [.int x1, .int x2]) (rest := []) (m_X3_staysLive l E isH_27 hc) (sH isH_27).1 rfl gc175 gc176 ⟨Nat.le_of_ble_eq_true rfl, Nat.le_of_ble_eq_true rfl⟩ ⟨Nat.le_of_ble_eq_true rfl, Nat.le_of_ble_eq_true rfl⟩ rfl rfl (Nat.le_of_ble_eq_true rfl) dX11_faulty_77 (fun H locs hw hS => ?_)
                clear hc
                have hif := ok_if hf
                refine lv_if_eq (tgt := 90) hx hb dX11_faulty_80 (by decide) (fun hcd => ?_) (fun hcd => ?_)
                · have hf := hif.1 hcd
                  clear hif
                  exact J90 _ _ hf _ _ ls hl hw hS
                · have hf := hif.2 hcd
                  clear hif
                  refine lv_iload_n hx hb dX11_faulty_83 rfl (lv_at hl 3 rfl) ?_
                  refine lv_iconst (v := 1) hx hb dX11_faulty_84 (by decide) ?_
                  refine lv_iload hx hb dX11_faulty_85 (lv_at hl 4 rfl) ?_
                  refine lv_ishl hx hb dX11_faulty_87 ?_
                  refine lv_ior hx hb dX11_faulty_88 ?_
                  obtain ⟨v3_20, en, hf⟩ := ok_lt hf
                  refine z_nm en ?_
                  clear en
                  refine lv_istore_n (lv' := [(3, .int v3_20), (0, .ref (E.2.2.1 0)), (1, .int x1), (2, .int x2), (4, .int v4_7)]) hx hb dX11_faulty_89 rfl hl (by decide) rfl (fun ls hl => ?_)
                  exact J90 _ _ hf _ _ ls (lv_sub hl [1, 2, 3, 0, 4] rfl) hw hS
        exact L27 5000 _ _ _ hL27 _ _ ls (lv_sub hl [2, 3, 4, 1, 0] rfl) hw hS
      · have hf := hif.2 hcd
        clear hif
        exact J19 _ hf _ _ ls (lv_sub hl [] rfl) hw hS
