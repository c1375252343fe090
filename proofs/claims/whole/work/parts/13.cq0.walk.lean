set_option maxHeartbeats 4000000 in
set_option maxRecDepth 100000 in
theorem m_X4_foretellLine (l : Launch) (E : Ev) {x1 : Int32}  {s0 sz : St} (hf : f_X4_foretellLine x1 s0 = some sz) : MM l E sh2 yX4_foretellLine cX4_foretellLine 4 none (rmd 5) [.ref (E.2.2.1 6), .int x1] s0 none sz := by
  unfold f_X4_foretellLine at hf
  refine z_enter (by decide +kernel) (Nat.le_of_ble_eq_true rfl) ?_
  intro p e s m args below meth c ls hC hr hlocks hw hS hl
  have hC : Cx p s m args c cX4_foretellLine 4 "FuseBox$Plugging" E := hC
  obtain ⟨hx, hb, hml, hown, hts, hTB⟩ := id hC
  have hl : lv_has ls 4 [(0, .ref (E.2.2.1 6)), (1, .int x1)] := hl
  refine lv_aload_n hx hb dX4_foretellLine_0 rfl (lv_at hl 0 rfl) ?_
  obtain ⟨hnz, hf⟩ := ok_chk hf
  refine gPlugging_house hC hw hnz wd155 dX4_foretellLine_1 ?_
  obtain ⟨r_2, s_1, hc, hf⟩ := ok_bd hf
  refine z_cV hC hl.1 hw hS (As := []) (rest := []) (m_X3_loadThatIsOn l E isH_27 hc) (sH isH_27).1 rfl gc59 gc60 ⟨Nat.le_of_ble_eq_true rfl, Nat.le_of_ble_eq_true rfl⟩ ⟨Nat.le_of_ble_eq_true rfl, Nat.le_of_ble_eq_true rfl⟩ rfl rfl (Nat.le_of_ble_eq_true rfl) dX4_foretellLine_4 (fun H locs hw hS => ?_)
  clear hc
  refine lv_istore_n (lv' := [(2, .int r_2), (0, .ref (E.2.2.1 6)), (1, .int x1)]) hx hb dX4_foretellLine_7 rfl hl (by decide) rfl (fun ls hl => ?_)
  refine lv_iconst (v := 0) hx hb dX4_foretellLine_8 (by decide) ?_
  obtain ⟨v3_3, en, hf⟩ := ok_lt hf
  refine z_nm en ?_
  clear en
  refine lv_istore_n (lv' := [(3, .int v3_3), (2, .int r_2), (0, .ref (E.2.2.1 6)), (1, .int x1)]) hx hb dX4_foretellLine_9 rfl hl (by decide) rfl (fun ls hl => ?_)
  obtain ⟨r10, hL10, hf⟩ := ok_bind hf
  have X10_0 : ∀ (s_6 : St), s_6 = r10 → ∀ (H : Heap) (locs : List Loc) (ls : Array Slot), lv_has ls 4 [] → World E sh2 s_6 H → va_S E.2.2.2 s.heap H locs → W p l e (rmd 5) s m args below meth c H locs 0 0 (MQ below (QW E sh2 none sz) args s 0 0 E.2.2.2) (F0 m 51 ls []) := by
    intro s_6 er H locs ls hl hw hS
    subst er
    replace hf := ok_un1 hf
    exact z_vretE hC hlocks hw hS hf hr dX4_foretellLine_51
  have L10 : ∀ (n : Nat) (v3_4 : Int32) (s_5 : St), loopF (f_X4_foretellLine_L10 x1 r_2) n (v3_4, s_5) = some r10 → ∀ (H : Heap) (locs : List Loc) (ls : Array Slot), lv_has ls 4 [(0, .ref (E.2.2.1 6)), (1, .int x1), (2, .int r_2), (3, .int v3_4)] → World E sh2 s_5 H → va_S E.2.2.2 s.heap H locs → W p l e (rmd 5) s m args below meth c H locs 0 0 (MQ below (QW E sh2 none sz) args s 0 0 E.2.2.2) (F0 m 10 ls []) := by
    intro n
    induction n with
    | zero =>
      intro v3_4 s_5 hf
      exact nz hf
    | succ n ih10 =>
      intro v3_4 s_5 hf H locs ls hl hw hS
      obtain ⟨xl10, hf, hi10, he10⟩ := ok_loop hf
      unfold f_X4_foretellLine_L10 at hf
      replace hf := ok_un2 hf
      refine lv_iload_n hx hb dX4_foretellLine_10 rfl (lv_at hl 3 rfl) ?_
      refine lv_iload_n hx hb dX4_foretellLine_11 rfl (lv_at hl 2 rfl) ?_
      have hif := ok_if hf
      refine lv_icmp_gt (tgt := 51) hx hb dX4_foretellLine_12 (by decide) (fun hcd => ?_) (fun hcd => ?_)
      · have hf := hif.1 hcd
        clear hif
        cases hf
        exact X10_0 _ (he10 _ rfl) _ _ ls (lv_sub hl [] rfl) hw hS
      · have hf := hif.2 hcd
        clear hif
        refine lv_iload_n hx hb dX4_foretellLine_15 rfl (lv_at hl 3 rfl) ?_
        refine lv_bipush (v := 121) hx hb dX4_foretellLine_16 (by decide) ?_
        have hif := ok_if hf
        refine lv_icmp_ge (tgt := 51) hx hb dX4_foretellLine_18 (by decide) (fun hcd => ?_) (fun hcd => ?_)
        · have hf := hif.1 hcd
          clear hif
          cases hf
          exact X10_0 _ (he10 _ rfl) _ _ ls (lv_sub hl [] rfl) hw hS
        · have hf := hif.2 hcd
          clear hif
          refine lv_aload_n hx hb dX4_foretellLine_21 rfl (lv_at hl 0 rfl) ?_
          refine gPlugging_live hC hw wd160 dX4_foretellLine_22 ?_
          refine lv_iload_n hx hb dX4_foretellLine_25 rfl (lv_at hl 1 rfl) ?_
          refine lv_bipush (v := 121) hx hb dX4_foretellLine_26 (by decide) ?_
          refine lv_imul hx hb dX4_foretellLine_28 ?_
          refine lv_iload_n hx hb dX4_foretellLine_29 rfl (lv_at hl 3 rfl) ?_
          refine lv_iadd hx hb dX4_foretellLine_30 ?_
          refine lv_aload_n hx hb dX4_foretellLine_31 rfl (lv_at hl 0 rfl) ?_
          obtain ⟨hnz, hf⟩ := ok_chk hf
          refine gPlugging_house hC hw hnz wd155 dX4_foretellLine_32 ?_
          refine lv_iload_n hx hb dX4_foretellLine_35 rfl (lv_at hl 1 rfl) ?_
          refine lv_iload_n hx hb dX4_foretellLine_36 rfl (lv_at hl 3 rfl) ?_
          refine lv_aload_n hx hb dX4_foretellLine_37 rfl (lv_at hl 0 rfl) ?_
          refine gPlugging_minutes hC hw wd161 dX4_foretellLine_38 ?_
          obtain ⟨r_8, s_7, hc, hf⟩ := ok_bd hf
          refine z_cV hC hl.1 hw hS (As := [.int x1, .int v3_4, .int (s_5 6 6)]) (rest := [.int ((x1 * (121 : Int32)) + v3_4), .ref (E.2.2.1 7)]) (m_X3_liveMinutes l E isH_27 hc) (sH isH_27).1 rfl gc61 gc62 ⟨Nat.le_of_ble_eq_true rfl, Nat.le_of_ble_eq_true rfl⟩ ⟨Nat.le_of_ble_eq_true rfl, Nat.le_of_ble_eq_true rfl⟩ rfl rfl (Nat.le_of_ble_eq_true rfl) dX4_foretellLine_41 (fun H locs hw hS => ?_)
          clear hc
          obtain ⟨hin, hf⟩ := ok_chk hf
          obtain ⟨s_9, en, hf⟩ := ok_lt hf
          refine z_iast hC hw hS rfl hin en dX4_foretellLine_44 (fun H locs hw hS => ?_)
          clear en
          obtain ⟨v3_10, en, hf⟩ := ok_lt hf
          refine lv_iinc (v := v3_10) (lv' := [(3, .int v3_10), (0, .ref (E.2.2.1 6)), (1, .int x1), (2, .int r_2)]) hx hb dX4_foretellLine_45 hl (k := 3) rfl (by rw [en]; rfl) (by decide) rfl (fun ls hl => ?_)
          clear en
          refine lv_goto (tgt := 10) hx hb dX4_foretellLine_48 (by decide) ?_
          cases hf
          exact ih10 _ _ (hi10 _ rfl) _ _ ls (lv_sub hl [1, 2, 3, 0] rfl) hw hS
  exact L10 5000 _ _ hL10 _ _ ls (lv_sub hl [2, 3, 1, 0] rfl) hw hS
set_option maxHeartbeats 4000000 in
set_option maxRecDepth 100000 in
theorem m_X4_liveMinutes (l : Launch) (E : Ev) {x1 : Int32}  {s0 sz : St} {rz : Int32} (hf : f_X4_liveMinutes x1 s0 = some (rz, sz)) : MM l E sh2 yX4_liveMinutes cX4_liveMinutes 2 (some .int) (rmd 1) [.ref (E.2.2.1 6), .int x1] s0 (some (.int rz)) sz := by
  unfold f_X4_liveMinutes at hf
  refine z_enter (by decide +kernel) (Nat.le_of_ble_eq_true rfl) ?_
  intro p e s m args below meth c ls hC hr hlocks hw hS hl
  have hC : Cx p s m args c cX4_liveMinutes 2 "FuseBox$Plugging" E := hC
  obtain ⟨hx, hb, hml, hown, hts, hTB⟩ := id hC
  have hl : lv_has ls 2 [(0, .ref (E.2.2.1 6)), (1, .int x1)] := hl
  refine lv_aload_n hx hb dX4_liveMinutes_0 rfl (lv_at hl 0 rfl) ?_
  refine gPlugging_live hC hw wd160 dX4_liveMinutes_1 ?_
  refine lv_iload_n hx hb dX4_liveMinutes_4 rfl (lv_at hl 1 rfl) ?_
  refine lv_bipush (v := 121) hx hb dX4_liveMinutes_5 (by decide) ?_
  refine lv_imul hx hb dX4_liveMinutes_7 ?_
  refine lv_aload_n hx hb dX4_liveMinutes_8 rfl (lv_at hl 0 rfl) ?_
  refine gPlugging_loads hC hw wd166 dX4_liveMinutes_9 ?_
  refine lv_iload_n hx hb dX4_liveMinutes_12 rfl (lv_at hl 1 rfl) ?_
  obtain ⟨hin, hf⟩ := ok_chk hf
  refine z_iald hC hw rfl hin dX4_liveMinutes_13 ?_
  refine lv_iadd hx hb dX4_liveMinutes_14 ?_
  obtain ⟨hin, hf⟩ := ok_chk hf
  refine z_iald hC hw rfl hin dX4_liveMinutes_15 ?_
  exact z_iretE hC hlocks hw hS hf hr rfl dX4_liveMinutes_16
set_option maxHeartbeats 4000000 in
set_option maxRecDepth 100000 in
theorem m_X4_usedUntilMainIsOut (l : Launch) (E : Ev)   {s0 sz : St} {rz : Int32} (hf : f_X4_usedUntilMainIsOut s0 = some (rz, sz)) : MM l E sh2 yX4_usedUntilMainIsOut cX4_usedUntilMainIsOut 5 (some .int) (rmd 2) [.ref (E.2.2.1 6)] s0 (some (.int rz)) sz := by
  unfold f_X4_usedUntilMainIsOut at hf
  refine z_enter (by decide +kernel) (Nat.le_of_ble_eq_true rfl) ?_
  intro p e s m args below meth c ls hC hr hlocks hw hS hl
  have hC : Cx p s m args c cX4_usedUntilMainIsOut 5 "FuseBox$Plugging" E := hC
  obtain ⟨hx, hb, hml, hown, hts, hTB⟩ := id hC
  have hl : lv_has ls 5 [(0, .ref (E.2.2.1 6))] := hl
  refine lv_iconst (v := 0) hx hb dX4_usedUntilMainIsOut_0 (by decide) ?_
  obtain ⟨v1_1, en, hf⟩ := ok_lt hf
  refine z_nm en ?_
  clear en
  refine lv_istore_n (lv' := [(1, .int v1_1), (0, .ref (E.2.2.1 6))]) hx hb dX4_usedUntilMainIsOut_1 rfl hl (by decide) rfl (fun ls hl => ?_)
  refine lv_iconst (v := 0) hx hb dX4_usedUntilMainIsOut_2 (by decide) ?_
  obtain ⟨v2_2, en, hf⟩ := ok_lt hf
  refine z_nm en ?_
  clear en
  refine lv_istore_n (lv' := [(2, .int v2_2), (1, .int v1_1), (0, .ref (E.2.2.1 6))]) hx hb dX4_usedUntilMainIsOut_3 rfl hl (by decide) rfl (fun ls hl => ?_)
  refine lv_iconst (v := 0) hx hb dX4_usedUntilMainIsOut_4 (by decide) ?_
  obtain ⟨v3_3, en, hf⟩ := ok_lt hf
  refine z_nm en ?_
  clear en
  refine lv_istore_n (lv' := [(3, .int v3_3), (2, .int v2_2), (1, .int v1_1), (0, .ref (E.2.2.1 6))]) hx hb dX4_usedUntilMainIsOut_5 rfl hl (by decide) rfl (fun ls hl => ?_)
  obtain ⟨r6, hL6, hf⟩ := ok_bind hf
  have X6_0 : ∀ (v1_8 : Int32) (s_9 : St), (v1_8, s_9) = r6 → ∀ (H : Heap) (locs : List Loc) (ls : Array Slot), lv_has ls 5 [(1, .int v1_8)] → World E sh2 s_9 H → va_S E.2.2.2 s.heap H locs → W p l e (rmd 2) s m args below meth c H locs 0 0 (MQ below (QW E sh2 (some (.int rz)) sz) args s 0 0 E.2.2.2) (F0 m 79 ls []) := by
    intro v1_8 s_9 er H locs ls hl hw hS
    subst er
    replace hf := ok_un2 hf
    refine lv_iload_n hx hb dX4_usedUntilMainIsOut_79 rfl (lv_at hl 0 rfl) ?_
    exact z_iretE hC hlocks hw hS hf hr rfl dX4_usedUntilMainIsOut_80
  have L6 : ∀ (n : Nat) (v1_4 : Int32) (v2_5 : Int32) (v3_6 : Int32) (s_7 : St), loopF f_X4_usedUntilMainIsOut_L6 n (v1_4, v2_5, v3_6, s_7) = some r6 → ∀ (H : Heap) (locs : List Loc) (ls : Array Slot), lv_has ls 5 [(0, .ref (E.2.2.1 6)), (1, .int v1_4), (2, .int v2_5), (3, .int v3_6)] → World E sh2 s_7 H → va_S E.2.2.2 s.heap H locs → W p l e (rmd 2) s m args below meth c H locs 0 0 (MQ below (QW E sh2 (some (.int rz)) sz) args s 0 0 E.2.2.2) (F0 m 6 ls []) := by
    intro n
    induction n with
    | zero =>
      intro v1_4 v2_5 v3_6 s_7 hf
      exact nz hf
    | succ n ih6 =>
      intro v1_4 v2_5 v3_6 s_7 hf H locs ls hl hw hS
      obtain ⟨xl6, hf, hi6, he6⟩ := ok_loop hf
      unfold f_X4_usedUntilMainIsOut_L6 at hf
      replace hf := ok_un4 hf
      refine lv_iload_n hx hb dX4_usedUntilMainIsOut_6 rfl (lv_at hl 3 rfl) ?_
      refine lv_aload_n hx hb dX4_usedUntilMainIsOut_7 rfl (lv_at hl 0 rfl) ?_
      refine gPlugging_minutes hC hw wd161 dX4_usedUntilMainIsOut_8 ?_
      have hif := ok_if hf
      refine lv_icmp_ge (tgt := 79) hx hb dX4_usedUntilMainIsOut_11 (by decide) (fun hcd => ?_) (fun hcd => ?_)
      · have hf := hif.1 hcd
        clear hif
        cases hf
        exact X6_0 _ _ (he6 _ rfl) _ _ ls (lv_sub hl [1] rfl) hw hS
      · have hf := hif.2 hcd
        clear hif
        refine lv_iload_n hx hb dX4_usedUntilMainIsOut_14 rfl (lv_at hl 2 rfl) ?_
        refine lv_aload_n hx hb dX4_usedUntilMainIsOut_15 rfl (lv_at hl 0 rfl) ?_
        obtain ⟨hnz, hf⟩ := ok_chk hf
        refine gPlugging_house hC hw hnz wd155 dX4_usedUntilMainIsOut_16 ?_
        refine gHouse_main hC hw isH_27 wd170 dX4_usedUntilMainIsOut_19 ?_
        have hif := ok_if hf
        refine lv_icmp_gt (tgt := 79) hx hb dX4_usedUntilMainIsOut_22 (by decide) (fun hcd => ?_) (fun hcd => ?_)
        · have hf := hif.1 hcd
          clear hif
          cases hf
          exact X6_0 _ _ (he6 _ rfl) _ _ ls (lv_sub hl [1] rfl) hw hS
        · have hf := hif.2 hcd
          clear hif
          refine lv_iconst (v := 0) hx hb dX4_usedUntilMainIsOut_25 (by decide) ?_
          obtain ⟨v2_10, en, hf⟩ := ok_lt hf
          refine z_nm en ?_
          clear en
          refine lv_istore_n (lv' := [(2, .int v2_10), (0, .ref (E.2.2.1 6)), (1, .int v1_4), (3, .int v3_6)]) hx hb dX4_usedUntilMainIsOut_26 rfl hl (by decide) rfl (fun ls hl => ?_)
          refine lv_iconst (v := 0) hx hb dX4_usedUntilMainIsOut_27 (by decide) ?_
          obtain ⟨v4_11, en, hf⟩ := ok_lt hf
          refine z_nm en ?_
          clear en
          refine lv_istore (lv' := [(4, .int v4_11), (2, .int v2_10), (0, .ref (E.2.2.1 6)), (1, .int v1_4), (3, .int v3_6)]) hx hb dX4_usedUntilMainIsOut_28 hl (by decide) rfl (fun ls hl => ?_)
          obtain ⟨r30, hL30, hf⟩ := ok_bind hf
          have X30_0 : ∀ (v2_15 : Int32) (s_16 : St), (v2_15, s_16) = r30 → ∀ (H : Heap) (locs : List Loc) (ls : Array Slot), lv_has ls 5 [(0, .ref (E.2.2.1 6)), (1, .int v1_4), (2, .int v2_15), (3, .int v3_6)] → World E sh2 s_16 H → va_S E.2.2.2 s.heap H locs → W p l e (rmd 2) s m args below meth c H locs 0 0 (MQ below (QW E sh2 (some (.int rz)) sz) args s 0 0 E.2.2.2) (F0 m 69 ls []) := by
            intro v2_15 s_16 er H locs ls hl hw hS
            subst er
            replace hf := ok_un2 hf
            refine lv_iload_n hx hb dX4_usedUntilMainIsOut_69 rfl (lv_at hl 1 rfl) ?_
            refine lv_iload_n hx hb dX4_usedUntilMainIsOut_70 rfl (lv_at hl 2 rfl) ?_
            refine lv_iadd hx hb dX4_usedUntilMainIsOut_71 ?_
            obtain ⟨v1_17, en, hf⟩ := ok_lt hf
            refine z_nm en ?_
            clear en
            refine lv_istore_n (lv' := [(1, .int v1_17), (0, .ref (E.2.2.1 6)), (2, .int v2_15), (3, .int v3_6)]) hx hb dX4_usedUntilMainIsOut_72 rfl hl (by decide) rfl (fun ls hl => ?_)
            obtain ⟨v3_18, en, hf⟩ := ok_lt hf
            refine lv_iinc (v := v3_18) (lv' := [(3, .int v3_18), (1, .int v1_17), (0, .ref (E.2.2.1 6)), (2, .int v2_15)]) hx hb dX4_usedUntilMainIsOut_73 hl (k := 3) rfl (by rw [en]; rfl) (by decide) rfl (fun ls hl => ?_)
            clear en
            refine lv_goto (tgt := 6) hx hb dX4_usedUntilMainIsOut_76 (by decide) ?_
            cases hf
            exact ih6 _ _ _ _ (hi6 _ rfl) _ _ ls (lv_sub hl [2, 1, 3, 0] rfl) hw hS
          have L30 : ∀ (n : Nat) (v2_12 : Int32) (v4_13 : Int32) (s_14 : St), loopF (f_X4_usedUntilMainIsOut_L30 v3_6) n (v2_12, v4_13, s_14) = some r30 → ∀ (H : Heap) (locs : List Loc) (ls : Array Slot), lv_has ls 5 [(0, .ref (E.2.2.1 6)), (1, .int v1_4), (2, .int v2_12), (3, .int v3_6), (4, .int v4_13)] → World E sh2 s_14 H → va_S E.2.2.2 s.heap H locs → W p l e (rmd 2) s m args below meth c H locs 0 0 (MQ below (QW E sh2 (some (.int rz)) sz) args s 0 0 E.2.2.2) (F0 m 30 ls []) := by
            intro n
            induction n with
            | zero =>
              intro v2_12 v4_13 s_14 hf
              exact nz hf
            | succ n ih30 =>
              intro v2_12 v4_13 s_14 hf H locs ls hl hw hS
              obtain ⟨xl30, hf, hi30, he30⟩ := ok_loop hf
              unfold f_X4_usedUntilMainIsOut_L30 at hf
              replace hf := ok_un3 hf
              refine lv_iload hx hb dX4_usedUntilMainIsOut_30 (lv_at hl 4 rfl) ?_
              refine lv_aload_n hx hb dX4_usedUntilMainIsOut_32 rfl (lv_at hl 0 rfl) ?_
              obtain ⟨hnz, hf⟩ := ok_chk hf
              refine gPlugging_house hC hw hnz wd155 dX4_usedUntilMainIsOut_33 ?_
              refine gHouse_lines hC hw isH_27 wd171 dX4_usedUntilMainIsOut_36 ?_
              have hif := ok_if hf
              refine lv_icmp_ge (tgt := 69) hx hb dX4_usedUntilMainIsOut_39 (by decide) (fun hcd => ?_) (fun hcd => ?_)
              · have hf := hif.1 hcd
                clear hif
                cases hf
                exact X30_0 _ _ (he30 _ rfl) _ _ ls (lv_sub hl [0, 1, 2, 3] rfl) hw hS
              · have hf := hif.2 hcd
                clear hif
                refine lv_iload_n hx hb dX4_usedUntilMainIsOut_42 rfl (lv_at hl 2 rfl) ?_
                refine lv_aload_n hx hb dX4_usedUntilMainIsOut_43 rfl (lv_at hl 0 rfl) ?_
                refine lv_iload hx hb dX4_usedUntilMainIsOut_44 (lv_at hl 4 rfl) ?_
                obtain ⟨r_20, s_19, hc, hf⟩ := ok_bd hf
                refine z_cV hC hl.1 hw hS (As := [.int v4_13]) (rest := [.int v2_12]) (m_X4_liveMinutes l E  hc) rfl rfl gc63 gc64 ⟨Nat.le_of_ble_eq_true rfl, Nat.le_of_ble_eq_true rfl⟩ ⟨Nat.le_of_ble_eq_true rfl, Nat.le_of_ble_eq_true rfl⟩ rfl rfl (Nat.le_of_ble_eq_true rfl) dX4_usedUntilMainIsOut_46 (fun H locs hw hS => ?_)
                clear hc
                refine lv_iload_n hx hb dX4_usedUntilMainIsOut_49 rfl (lv_at hl 3 rfl) ?_
                refine lv_ishr hx hb dX4_usedUntilMainIsOut_50 ?_
                refine lv_iconst (v := 1) hx hb dX4_usedUntilMainIsOut_51 (by decide) ?_
                refine lv_iand hx hb dX4_usedUntilMainIsOut_52 ?_
                refine lv_aload_n hx hb dX4_usedUntilMainIsOut_53 rfl (lv_at hl 0 rfl) ?_
                refine gPlugging_loads hC hw wd166 dX4_usedUntilMainIsOut_54 ?_
                refine lv_iload hx hb dX4_usedUntilMainIsOut_57 (lv_at hl 4 rfl) ?_
                obtain ⟨hin, hf⟩ := ok_chk hf
                refine z_iald hC hw rfl hin dX4_usedUntilMainIsOut_59 ?_
                refine lv_imul hx hb dX4_usedUntilMainIsOut_60 ?_
                refine lv_iadd hx hb dX4_usedUntilMainIsOut_61 ?_
                obtain ⟨v2_21, en, hf⟩ := ok_lt hf
                refine z_nm en ?_
                clear en
                refine lv_istore_n (lv' := [(2, .int v2_21), (0, .ref (E.2.2.1 6)), (1, .int v1_4), (3, .int v3_6), (4, .int v4_13)]) hx hb dX4_usedUntilMainIsOut_62 rfl hl (by decide) rfl (fun ls hl => ?_)
                obtain ⟨v4_22, en, hf⟩ := ok_lt hf
                refine lv_iinc (v := v4_22) (lv' := [(4, .int v4_22), (2, .int v2_21), (0, .ref (E.2.2.1 6)), (1, .int v1_4), (3, .int v3_6)]) hx hb dX4_usedUntilMainIsOut_63 hl (k := 4) rfl (by rw [en]; rfl) (by decide) rfl (fun ls hl => ?_)
                clear en
                refine lv_goto (tgt := 30) hx hb dX4_usedUntilMainIsOut_66 (by decide) ?_
                cases hf
                exact ih30 _ _ _ (hi30 _ rfl) _ _ ls (lv_sub hl [2, 3, 1, 4, 0] rfl) hw hS
          exact L30 5000 _ _ _ hL30 _ _ ls (lv_sub hl [2, 3, 1, 4, 0] rfl) hw hS
  exact L6 5000 _ _ _ _ hL6 _ _ ls (lv_sub hl [3, 2, 1, 0] rfl) hw hS
set_option maxHeartbeats 4000000 in
set_option maxRecDepth 100000 in
theorem m_X4_usedThen (l : Launch) (E : Ev)   {s0 sz : St} {rz : Int32} (hf : f_X4_usedThen s0 = some (rz, sz)) : MM l E sh2 yX4_usedThen cX4_usedThen 4 (some .int) (rmd 3) [.ref (E.2.2.1 6)] s0 (some (.int rz)) sz := by
  unfold f_X4_usedThen at hf
  refine z_enter (by decide +kernel) (Nat.le_of_ble_eq_true rfl) ?_
  intro p e s m args below meth c ls hC hr hlocks hw hS hl
  have hC : Cx p s m args c cX4_usedThen 4 "FuseBox$Plugging" E := hC
  obtain ⟨hx, hb, hml, hown, hts, hTB⟩ := id hC
  have hl : lv_has ls 4 [(0, .ref (E.2.2.1 6))] := hl
  refine lv_iconst (v := 0) hx hb dX4_usedThen_0 (by decide) ?_
  obtain ⟨v1_1, en, hf⟩ := ok_lt hf
  refine z_nm en ?_
  clear en
  refine lv_istore_n (lv' := [(1, .int v1_1), (0, .ref (E.2.2.1 6))]) hx hb dX4_usedThen_1 rfl hl (by decide) rfl (fun ls hl => ?_)
  refine lv_iconst (v := 0) hx hb dX4_usedThen_2 (by decide) ?_
  obtain ⟨v2_2, en, hf⟩ := ok_lt hf
  refine z_nm en ?_
  clear en
  refine lv_istore_n (lv' := [(2, .int v2_2), (1, .int v1_1), (0, .ref (E.2.2.1 6))]) hx hb dX4_usedThen_3 rfl hl (by decide) rfl (fun ls hl => ?_)
  refine lv_iconst (v := 0) hx hb dX4_usedThen_4 (by decide) ?_
  obtain ⟨v3_3, en, hf⟩ := ok_lt hf
  refine z_nm en ?_
  clear en
  refine lv_istore_n (lv' := [(3, .int v3_3), (2, .int v2_2), (1, .int v1_1), (0, .ref (E.2.2.1 6))]) hx hb dX4_usedThen_5 rfl hl (by decide) rfl (fun ls hl => ?_)
  obtain ⟨r6, hL6, hf⟩ := ok_bind hf
  have X6_0 : ∀ (v1_8 : Int32) (v2_9 : Int32) (s_10 : St), (v1_8, v2_9, s_10) = r6 → ∀ (H : Heap) (locs : List Loc) (ls : Array Slot), lv_has ls 4 [(0, .ref (E.2.2.1 6)), (1, .int v1_8), (2, .int v2_9)] → World E sh2 s_10 H → va_S E.2.2.2 s.heap H locs → W p l e (rmd 3) s m args below meth c H locs 0 0 (MQ below (QW E sh2 (some (.int rz)) sz) args s 0 0 E.2.2.2) (F0 m 50 ls []) := by
    intro v1_8 v2_9 s_10 er H locs ls hl hw hS
    subst er
    replace hf := ok_un3 hf
    refine lv_iload_n hx hb dX4_usedThen_50 rfl (lv_at hl 1 rfl) ?_
    refine lv_aload_n hx hb dX4_usedThen_51 rfl (lv_at hl 0 rfl) ?_
    obtain ⟨hnz, hf⟩ := ok_chk hf
    refine gPlugging_house hC hw hnz wd155 dX4_usedThen_52 ?_
    refine gHouse_main hC hw isH_27 wd170 dX4_usedThen_55 ?_
    obtain ⟨j69, ej69, hf⟩ := ok_lt hf
    have J69 : ∀ (k_11 : Int32) (s_12 : St), j69 k_11 s_12 = some (rz, sz) → ∀ (H : Heap) (locs : List Loc) (ls : Array Slot), lv_has ls 4 [] → World E sh2 s_12 H → va_S E.2.2.2 s.heap H locs → W p l e (rmd 3) s m args below meth c H locs 0 0 (MQ below (QW E sh2 (some (.int rz)) sz) args s 0 0 E.2.2.2) (F0 m 69 ls [.int k_11]) := by
      intro k_11 s_12 hf H locs ls hl hw hS
      subst ej69
      exact z_iretE hC hlocks hw hS hf hr rfl dX4_usedThen_69
    clear ej69
    have hif := ok_if hf
    refine lv_icmp_le (tgt := 68) hx hb dX4_usedThen_58 (by decide) (fun hcd => ?_) (fun hcd => ?_)
    · have hf := hif.1 hcd
      clear hif
      refine lv_iload_n hx hb dX4_usedThen_68 rfl (lv_at hl 2 rfl) ?_
      exact J69 _ _ hf _ _ ls (lv_sub hl [] rfl) hw hS
    · have hf := hif.2 hcd
      clear hif
      refine lv_aload_n hx hb dX4_usedThen_61 rfl (lv_at hl 0 rfl) ?_
      obtain ⟨r_14, s_13, hc, hf⟩ := ok_bd hf
      refine z_cV hC hl.1 hw hS (As := []) (rest := []) (m_X4_usedUntilMainIsOut l E  hc) rfl rfl gc65 gc66 ⟨Nat.le_of_ble_eq_true rfl, Nat.le_of_ble_eq_true rfl⟩ ⟨Nat.le_of_ble_eq_true rfl, Nat.le_of_ble_eq_true rfl⟩ rfl rfl (Nat.le_of_ble_eq_true rfl) dX4_usedThen_62 (fun H locs hw hS => ?_)
      clear hc
      refine lv_goto (tgt := 69) hx hb dX4_usedThen_65 (by decide) ?_
      exact J69 _ _ hf _ _ ls (lv_sub hl [] rfl) hw hS
  have L6 : ∀ (n : Nat) (v1_4 : Int32) (v2_5 : Int32) (v3_6 : Int32) (s_7 : St), loopF f_X4_usedThen_L6 n (v1_4, v2_5, v3_6, s_7) = some r6 → ∀ (H : Heap) (locs : List Loc) (ls : Array Slot), lv_has ls 4 [(0, .ref (E.2.2.1 6)), (1, .int v1_4), (2, .int v2_5), (3, .int v3_6)] → World E sh2 s_7 H → va_S E.2.2.2 s.heap H locs → W p l e (rmd 3) s m args below meth c H locs 0 0 (MQ below (QW E sh2 (some (.int rz)) sz) args s 0 0 E.2.2.2) (F0 m 6 ls []) := by
    intro n
    induction n with
    | zero =>
      intro v1_4 v2_5 v3_6 s_7 hf
      exact nz hf
    | succ n ih6 =>
      intro v1_4 v2_5 v3_6 s_7 hf H locs ls hl hw hS
      obtain ⟨xl6, hf, hi6, he6⟩ := ok_loop hf
      unfold f_X4_usedThen_L6 at hf
      replace hf := ok_un4 hf
      refine lv_iload_n hx hb dX4_usedThen_6 rfl (lv_at hl 3 rfl) ?_
      refine lv_aload_n hx hb dX4_usedThen_7 rfl (lv_at hl 0 rfl) ?_
      obtain ⟨hnz, hf⟩ := ok_chk hf
      refine gPlugging_house hC hw hnz wd155 dX4_usedThen_8 ?_
      refine gHouse_lines hC hw isH_27 wd171 dX4_usedThen_11 ?_
      have hif := ok_if hf
      refine lv_icmp_ge (tgt := 50) hx hb dX4_usedThen_14 (by decide) (fun hcd => ?_) (fun hcd => ?_)
      · have hf := hif.1 hcd
        clear hif
        cases hf
        exact X6_0 _ _ _ (he6 _ rfl) _ _ ls (lv_sub hl [0, 1, 2] rfl) hw hS
      · have hf := hif.2 hcd
        clear hif
        refine lv_iload_n hx hb dX4_usedThen_17 rfl (lv_at hl 1 rfl) ?_
        refine lv_aload_n hx hb dX4_usedThen_18 rfl (lv_at hl 0 rfl) ?_
        refine gPlugging_loads hC hw wd166 dX4_usedThen_19 ?_
        refine lv_iload_n hx hb dX4_usedThen_22 rfl (lv_at hl 3 rfl) ?_
        obtain ⟨hin, hf⟩ := ok_chk hf
        refine z_iald hC hw rfl hin dX4_usedThen_23 ?_
        refine lv_iadd hx hb dX4_usedThen_24 ?_
        obtain ⟨v1_15, en, hf⟩ := ok_lt hf
        refine z_nm en ?_
        clear en
        refine lv_istore_n (lv' := [(1, .int v1_15), (0, .ref (E.2.2.1 6)), (2, .int v2_5), (3, .int v3_6)]) hx hb dX4_usedThen_25 rfl hl (by decide) rfl (fun ls hl => ?_)
        refine lv_iload_n hx hb dX4_usedThen_26 rfl (lv_at hl 2 rfl) ?_
        refine lv_aload_n hx hb dX4_usedThen_27 rfl (lv_at hl 1 rfl) ?_
        refine gPlugging_loads hC hw wd166 dX4_usedThen_28 ?_
        refine lv_iload_n hx hb dX4_usedThen_31 rfl (lv_at hl 3 rfl) ?_
        obtain ⟨hin, hf⟩ := ok_chk hf
        refine z_iald hC hw rfl hin dX4_usedThen_32 ?_
        refine lv_aload_n hx hb dX4_usedThen_33 rfl (lv_at hl 1 rfl) ?_
        refine lv_iload_n hx hb dX4_usedThen_34 rfl (lv_at hl 3 rfl) ?_
        obtain ⟨r_17, s_16, hc, hf⟩ := ok_bd hf
        refine z_cV hC hl.1 hw hS (As := [.int v3_6]) (rest := [.int (s_7 8 (v3_6).toNatClampNeg), .int v2_5]) (m_X4_liveMinutes l E  hc) rfl rfl gc63 gc64 ⟨Nat.le_of_ble_eq_true rfl, Nat.le_of_ble_eq_true rfl⟩ ⟨Nat.le_of_ble_eq_true rfl, Nat.le_of_ble_eq_true rfl⟩ rfl rfl (Nat.le_of_ble_eq_true rfl) dX4_usedThen_35 (fun H locs hw hS => ?_)
        clear hc
        obtain ⟨r_19, s_18, hc, hf⟩ := ok_bd hf
        refine z_cS hC hl.1 hw hS (As := [.int r_17]) (rest := [.int (s_7 8 (v3_6).toNatClampNeg), .int v2_5]) (m_J6_bitCount_0f7a4 l E  hc) gc67 gc68 ⟨Nat.le_of_ble_eq_true rfl, Nat.le_of_ble_eq_true rfl⟩ ⟨Nat.le_of_ble_eq_true rfl, Nat.le_of_ble_eq_true rfl⟩ rfl rfl (Nat.le_of_ble_eq_true rfl) dX4_usedThen_38 (fun H locs hw hS => ?_)
        clear hc
        refine lv_imul hx hb dX4_usedThen_41 ?_
        refine lv_iadd hx hb dX4_usedThen_42 ?_
        obtain ⟨v2_20, en, hf⟩ := ok_lt hf
        refine z_nm en ?_
        clear en
        refine lv_istore_n (lv' := [(2, .int v2_20), (1, .int v1_15), (0, .ref (E.2.2.1 6)), (3, .int v3_6)]) hx hb dX4_usedThen_43 rfl hl (by decide) rfl (fun ls hl => ?_)
        obtain ⟨v3_21, en, hf⟩ := ok_lt hf
        refine lv_iinc (v := v3_21) (lv' := [(3, .int v3_21), (2, .int v2_20), (1, .int v1_15), (0, .ref (E.2.2.1 6))]) hx hb dX4_usedThen_44 hl (k := 3) rfl (by rw [en]; rfl) (by decide) rfl (fun ls hl => ?_)
        clear en
        refine lv_goto (tgt := 6) hx hb dX4_usedThen_47 (by decide) ?_
        cases hf
        exact ih6 _ _ _ _ (hi6 _ rfl) _ _ ls (lv_sub hl [3, 2, 1, 0] rfl) hw hS
  exact L6 5000 _ _ _ _ hL6 _ _ ls (lv_sub hl [3, 2, 1, 0] rfl) hw hS
set_option maxHeartbeats 4000000 in
set_option maxRecDepth 100000 in
theorem m_X4_weigh (l : Launch) (E : Ev)   {s0 sz : St} (hf : f_X4_weigh s0 = some sz) : MM l E sh2 yX4_weigh cX4_weigh 2 none (rmd 4) [.ref (E.2.2.1 6)] s0 none sz := by
  unfold f_X4_weigh at hf
  refine z_enter (by decide +kernel) (Nat.le_of_ble_eq_true rfl) ?_
  intro p e s m args below meth c ls hC hr hlocks hw hS hl
  have hC : Cx p s m args c cX4_weigh 2 "FuseBox$Plugging" E := hC
  obtain ⟨hx, hb, hml, hown, hts, hTB⟩ := id hC
  have hl : lv_has ls 2 [(0, .ref (E.2.2.1 6))] := hl
  refine lv_aload_n hx hb dX4_weigh_0 rfl (lv_at hl 0 rfl) ?_
  obtain ⟨r_2, s_1, hc, hf⟩ := ok_bd hf
  refine z_cV hC hl.1 hw hS (As := []) (rest := []) (m_X4_usedThen l E  hc) rfl rfl gc69 gc70 ⟨Nat.le_of_ble_eq_true rfl, Nat.le_of_ble_eq_true rfl⟩ ⟨Nat.le_of_ble_eq_true rfl, Nat.le_of_ble_eq_true rfl⟩ rfl rfl (Nat.le_of_ble_eq_true rfl) dX4_weigh_1 (fun H locs hw hS => ?_)
  clear hc
  refine lv_istore_n (lv' := [(1, .int r_2), (0, .ref (E.2.2.1 6))]) hx hb dX4_weigh_4 rfl hl (by decide) rfl (fun ls hl => ?_)
  refine lv_iload_n hx hb dX4_weigh_5 rfl (lv_at hl 0 rfl) ?_
  refine lv_aload_n hx hb dX4_weigh_6 rfl (lv_at hl 1 rfl) ?_
  refine gPlugging_most hC hw wd189 dX4_weigh_7 ?_
  obtain ⟨j33, ej33, hf⟩ := ok_lt hf
  have J33 : ∀ (s_3 : St), j33 s_3 = some sz → ∀ (H : Heap) (locs : List Loc) (ls : Array Slot), lv_has ls 2 [] → World E sh2 s_3 H → va_S E.2.2.2 s.heap H locs → W p l e (rmd 4) s m args below meth c H locs 0 0 (MQ below (QW E sh2 none sz) args s 0 0 E.2.2.2) (F0 m 33 ls []) := by
    intro s_3 hf H locs ls hl hw hS
    subst ej33
    exact z_vretE hC hlocks hw hS hf hr dX4_weigh_33
  clear ej33
  have hif := ok_if hf
  refine lv_icmp_le (tgt := 33) hx hb dX4_weigh_10 (by decide) (fun hcd => ?_) (fun hcd => ?_)
  · have hf := hif.1 hcd
    clear hif
    exact J33 _ hf _ _ ls (lv_sub hl [] rfl) hw hS
  · have hf := hif.2 hcd
    clear hif
    refine lv_aload_n hx hb dX4_weigh_13 rfl (lv_at hl 1 rfl) ?_
    refine lv_iload_n hx hb dX4_weigh_14 rfl (lv_at hl 0 rfl) ?_
    obtain ⟨s_4, en, hf⟩ := ok_lt hf
    refine pPlugging_most hC hw hS wd189 en dX4_weigh_15 (fun H locs hw hS => ?_)
    clear en
    refine lv_aload_n hx hb dX4_weigh_18 rfl (lv_at hl 1 rfl) ?_
    refine gPlugging_way hC hw wd190 dX4_weigh_19 ?_
    refine lv_iconst (v := 0) hx hb dX4_weigh_22 (by decide) ?_
    refine lv_aload_n hx hb dX4_weigh_23 rfl (lv_at hl 1 rfl) ?_
    refine gPlugging_best hC hw wd191 dX4_weigh_24 ?_
    refine lv_iconst (v := 0) hx hb dX4_weigh_27 (by decide) ?_
    refine lv_bipush (v := 6) hx hb dX4_weigh_28 (by decide) ?_
    obtain ⟨s_5, en, hf⟩ := ok_lt hf
    refine z_copy hC hl.1 hw hS (rest := []) rfl rfl wd192 wd55 wd54 wd56 (by decide) (by decide) (by decide) (by decide) (by decide) (Nat.le_of_ble_eq_true rfl) (Nat.le_of_ble_eq_true rfl) en dX4_weigh_30 (fun H locs hw hS => ?_)
    clear en
    exact J33 _ hf _ _ ls (lv_sub hl [] rfl) hw hS
set_option maxHeartbeats 4000000 in
set_option maxRecDepth 100000 in
theorem m_X4_plugFrom (l : Launch) (E : Ev) : ∀ (n : Nat) {x1 : Int32} {s0 sz : St} (hf : f_X4_plugFrom n x1 s0 = some sz), MM l E sh2 yX4_plugFrom cX4_plugFrom 3 none (rmd (4 + n)) [.ref (E.2.2.1 6), .int x1] s0 none sz := by
  intro nr
  induction nr with
  | zero => intro x1 s0 sz hf; exact nz hf
  | succ nr ih =>
  intro x1 s0 sz hf
  have hf : f_X4_plugFrom_B (f_X4_plugFrom nr) x1 s0 = some sz := hf
  unfold f_X4_plugFrom_B at hf
  refine z_enter (by decide +kernel) (Nat.le_of_ble_eq_true rfl) ?_
  intro p e s m args below meth c ls hC hr hlocks hw hS hl
  generalize hrec : f_X4_plugFrom nr = rec at hf ih
  have hC : Cx p s m args c cX4_plugFrom 3 "FuseBox$Plugging" E := hC
  obtain ⟨hx, hb, hml, hown, hts, hTB⟩ := id hC
  have hl : lv_has ls 3 [(0, .ref (E.2.2.1 6)), (1, .int x1)] := hl
  refine lv_iload_n hx hb dX4_plugFrom_0 rfl (lv_at hl 1 rfl) ?_
  refine lv_aload_n hx hb dX4_plugFrom_1 rfl (lv_at hl 0 rfl) ?_
  obtain ⟨hnz, hf⟩ := ok_chk hf
  refine gPlugging_house hC hw hnz wd155 dX4_plugFrom_2 ?_
  refine gHouse_things hC hw isH_27 wd193 dX4_plugFrom_5 ?_
  obtain ⟨j17, ej17, hf⟩ := ok_lt hf
  have J17 : ∀ (s_1 : St), j17 s_1 = some sz → ∀ (H : Heap) (locs : List Loc) (ls : Array Slot), lv_has ls 3 [(0, .ref (E.2.2.1 6))] → World E sh2 s_1 H → va_S E.2.2.2 s.heap H locs → W p l e (rmd (4 + (nr + 1))) s m args below meth c H locs 0 0 (MQ below (QW E sh2 none sz) args s 0 0 E.2.2.2) (F0 m 17 ls []) := by
    intro s_1 hf H locs ls hl hw hS
    subst ej17
    refine lv_aload_n hx hb dX4_plugFrom_17 rfl (lv_at hl 0 rfl) ?_
    obtain ⟨s_2, hc, hf⟩ := ok_bind hf
    refine z_cV (R := rmd (4 + (nr + 1))) (cells := 0) (slots := 0) hC hl.1 hw hS (As := []) (rest := []) (m_X4_weigh l E  hc) rfl rfl gc71 gc72 ⟨rmd_f0 (Nat.le_of_ble_eq_true rfl), rmd_l0 ⟨Nat.le_of_ble_eq_true rfl, Nat.le_of_ble_eq_true rfl⟩⟩ ⟨Nat.le_of_ble_eq_true rfl, Nat.le_of_ble_eq_true rfl⟩ rfl rfl (Nat.le_of_ble_eq_true rfl) dX4_plugFrom_18 (fun H locs hw hS => ?_)
    clear hc
    exact z_vretE hC hlocks hw hS hf hr dX4_plugFrom_21
  clear ej17
  have hif := ok_if hf
  refine lv_icmp_ge (tgt := 17) hx hb dX4_plugFrom_8 (by decide) (fun hcd => ?_) (fun hcd => ?_)
  · have hf := hif.1 hcd
    clear hif
    exact J17 _ hf _ _ ls (lv_sub hl [0] rfl) hw hS
  · have hf := hif.2 hcd
    clear hif
    refine lv_iload_n hx hb dX4_plugFrom_11 rfl (lv_at hl 1 rfl) ?_
    refine lv_bipush (v := 6) hx hb dX4_plugFrom_12 (by decide) ?_
    have hif := ok_if hf
    refine lv_icmp_lt (tgt := 22) hx hb dX4_plugFrom_14 (by decide) (fun hcd => ?_) (fun hcd => ?_)
    · have hf := hif.1 hcd
      clear hif
      refine lv_aload_n hx hb dX4_plugFrom_22 rfl (lv_at hl 0 rfl) ?_
      obtain ⟨hnz, hf⟩ := ok_chk hf
      refine gPlugging_house hC hw hnz wd155 dX4_plugFrom_23 ?_
      refine lv_iload_n hx hb dX4_plugFrom_26 rfl (lv_at hl 1 rfl) ?_
      obtain ⟨r_4, s_3, hc, hf⟩ := ok_bd hf
      refine z_cV (R := rmd (4 + (nr + 1))) (cells := 0) (slots := 0) hC hl.1 hw hS (As := [.int x1]) (rest := []) (m_X3_isOn l E isH_27 hc) (sH isH_27).1 rfl gc73 gc19 ⟨rmd_f0 (Nat.le_of_ble_eq_true rfl), rmd_l0 ⟨Nat.le_of_ble_eq_true rfl, Nat.le_of_ble_eq_true rfl⟩⟩ ⟨Nat.le_of_ble_eq_true rfl, Nat.le_of_ble_eq_true rfl⟩ rfl rfl (Nat.le_of_ble_eq_true rfl) dX4_plugFrom_27 (fun H locs hw hS => ?_)
      clear hc
      have hif := ok_if hf
      refine lv_if_ne (tgt := 56) hx hb dX4_plugFrom_30 (by decide) (fun hcd => ?_) (fun hcd => ?_)
      · have hf := hif.1 hcd
        clear hif
        refine lv_iconst (v := 0) hx hb dX4_plugFrom_56 (by decide) ?_
        obtain ⟨v2_5, en, hf⟩ := ok_lt hf
        refine z_nm en ?_
        clear en
        refine lv_istore_n (lv' := [(2, .int v2_5), (0, .ref (E.2.2.1 6)), (1, .int x1)]) hx hb dX4_plugFrom_57 rfl hl (by decide) rfl (fun ls hl => ?_)
        obtain ⟨r58, hL58, hf⟩ := ok_bind hf
        have X58_0 : ∀ (s_8 : St), s_8 = r58 → ∀ (H : Heap) (locs : List Loc) (ls : Array Slot), lv_has ls 3 [] → World E sh2 s_8 H → va_S E.2.2.2 s.heap H locs → W p l e (rmd (4 + (nr + 1))) s m args below meth c H locs 0 0 (MQ below (QW E sh2 none sz) args s 0 0 E.2.2.2) (F0 m 125 ls []) := by
          intro s_8 er H locs ls hl hw hS
          subst er
          replace hf := ok_un1 hf
          exact z_vretE hC hlocks hw hS hf hr dX4_plugFrom_125
        have L58 : ∀ (n : Nat) (v2_6 : Int32) (s_7 : St), loopF (f_X4_plugFrom_L58 rec x1) n (v2_6, s_7) = some r58 → ∀ (H : Heap) (locs : List Loc) (ls : Array Slot), lv_has ls 3 [(0, .ref (E.2.2.1 6)), (1, .int x1), (2, .int v2_6)] → World E sh2 s_7 H → va_S E.2.2.2 s.heap H locs → W p l e (rmd (4 + (nr + 1))) s m args below meth c H locs 0 0 (MQ below (QW E sh2 none sz) args s 0 0 E.2.2.2) (F0 m 58 ls []) := by
          intro n
          induction n with
          | zero =>
            intro v2_6 s_7 hf
            exact nz hf
          | succ n ih58 =>
            intro v2_6 s_7 hf H locs ls hl hw hS
            obtain ⟨xl58, hf, hi58, he58⟩ := ok_loop hf
            unfold f_X4_plugFrom_L58 at hf
            replace hf := ok_un2 hf
            refine lv_iload_n hx hb dX4_plugFrom_58 rfl (lv_at hl 2 rfl) ?_
            refine lv_aload_n hx hb dX4_plugFrom_59 rfl (lv_at hl 0 rfl) ?_
            obtain ⟨hnz, hf⟩ := ok_chk hf
            refine gPlugging_house hC hw hnz wd155 dX4_plugFrom_60 ?_
            refine gHouse_lines hC hw isH_27 wd171 dX4_plugFrom_63 ?_
            have hif := ok_if hf
            refine lv_icmp_ge (tgt := 125) hx hb dX4_plugFrom_66 (by decide) (fun hcd => ?_) (fun hcd => ?_)
            · have hf := hif.1 hcd
              clear hif
              cases hf
              exact X58_0 _ (he58 _ rfl) _ _ ls (lv_sub hl [] rfl) hw hS
            · have hf := hif.2 hcd
              clear hif
              refine lv_aload_n hx hb dX4_plugFrom_69 rfl (lv_at hl 0 rfl) ?_
              refine gPlugging_way hC hw wd190 dX4_plugFrom_70 ?_
              refine lv_iload_n hx hb dX4_plugFrom_73 rfl (lv_at hl 1 rfl) ?_
              refine lv_iload_n hx hb dX4_plugFrom_74 rfl (lv_at hl 2 rfl) ?_
              obtain ⟨hin, hf⟩ := ok_chk hf
              obtain ⟨s_9, en, hf⟩ := ok_lt hf
              refine z_iast hC hw hS rfl hin en dX4_plugFrom_75 (fun H locs hw hS => ?_)
              clear en
              refine lv_aload_n hx hb dX4_plugFrom_76 rfl (lv_at hl 0 rfl) ?_
              refine gPlugging_loads hC hw wd166 dX4_plugFrom_77 ?_
              refine lv_iload_n hx hb dX4_plugFrom_80 rfl (lv_at hl 2 rfl) ?_
              refine lv_dup2_11 hx hb dX4_plugFrom_81 rfl rfl ?_
              obtain ⟨hin, hf⟩ := ok_chk hf
              refine z_iald hC hw rfl hin dX4_plugFrom_82 ?_
              refine lv_aload_n hx hb dX4_plugFrom_83 rfl (lv_at hl 0 rfl) ?_
              obtain ⟨hnz, hf⟩ := ok_chk hf
              refine gPlugging_house hC hw hnz wd155 dX4_plugFrom_84 ?_
              refine gHouse_load hC hw isH_27 wd199 dX4_plugFrom_87 ?_
              refine lv_iload_n hx hb dX4_plugFrom_90 rfl (lv_at hl 1 rfl) ?_
              obtain ⟨hin, hf⟩ := ok_chk hf
              refine z_iald hC hw (sH isH_27).2.2.2.2.2.2.2 hin dX4_plugFrom_91 ?_
              refine lv_iadd hx hb dX4_plugFrom_92 ?_
              obtain ⟨hin, hf⟩ := ok_chk hf
              obtain ⟨s_10, en, hf⟩ := ok_lt hf
              refine z_iast hC hw hS rfl hin en dX4_plugFrom_93 (fun H locs hw hS => ?_)
              clear en
              refine lv_aload_n hx hb dX4_plugFrom_94 rfl (lv_at hl 0 rfl) ?_
              refine lv_iload_n hx hb dX4_plugFrom_95 rfl (lv_at hl 1 rfl) ?_
              refine lv_iconst (v := 1) hx hb dX4_plugFrom_96 (by decide) ?_
              refine lv_iadd hx hb dX4_plugFrom_97 ?_
              obtain ⟨s_11, hc, hf⟩ := ok_bind hf
              refine z_cV (R := rmd (4 + (nr + 1))) (cells := 0) (slots := 0) hC hl.1 hw hS (As := [.int (x1 + (1 : Int32))]) (rest := []) (ih  hc) rfl rfl gc74 gc75 ⟨rmd_f (Nat.le_of_ble_eq_true rfl), rmd_l ⟨Nat.le_of_ble_eq_true rfl, Nat.le_of_ble_eq_true rfl⟩⟩ ⟨Nat.le_of_ble_eq_true rfl, Nat.le_of_ble_eq_true rfl⟩ rfl rfl (Nat.le_of_ble_eq_true rfl) dX4_plugFrom_98 (fun H locs hw hS => ?_)
              clear hc
              refine lv_aload_n hx hb dX4_plugFrom_101 rfl (lv_at hl 0 rfl) ?_
              refine gPlugging_loads hC hw wd166 dX4_plugFrom_102 ?_
              refine lv_iload_n hx hb dX4_plugFrom_105 rfl (lv_at hl 2 rfl) ?_
              refine lv_dup2_11 hx hb dX4_plugFrom_106 rfl rfl ?_
              obtain ⟨hin, hf⟩ := ok_chk hf
              refine z_iald hC hw rfl hin dX4_plugFrom_107 ?_
              refine lv_aload_n hx hb dX4_plugFrom_108 rfl (lv_at hl 0 rfl) ?_
              obtain ⟨hnz, hf⟩ := ok_chk hf
              refine gPlugging_house hC hw hnz wd155 dX4_plugFrom_109 ?_
              refine gHouse_load hC hw isH_27 wd199 dX4_plugFrom_112 ?_
              refine lv_iload_n hx hb dX4_plugFrom_115 rfl (lv_at hl 1 rfl) ?_
              obtain ⟨hin, hf⟩ := ok_chk hf
              refine z_iald hC hw (sH isH_27).2.2.2.2.2.2.2 hin dX4_plugFrom_116 ?_
              refine lv_isub hx hb dX4_plugFrom_117 ?_
              obtain ⟨hin, hf⟩ := ok_chk hf
              obtain ⟨s_12, en, hf⟩ := ok_lt hf
              refine z_iast hC hw hS rfl hin en dX4_plugFrom_118 (fun H locs hw hS => ?_)
              clear en
              obtain ⟨v2_13, en, hf⟩ := ok_lt hf
              refine lv_iinc (v := v2_13) (lv' := [(2, .int v2_13), (0, .ref (E.2.2.1 6)), (1, .int x1)]) hx hb dX4_plugFrom_119 hl (k := 2) rfl (by rw [en]; rfl) (by decide) rfl (fun ls hl => ?_)
              clear en
              refine lv_goto (tgt := 58) hx hb dX4_plugFrom_122 (by decide) ?_
              cases hf
              exact ih58 _ _ (hi58 _ rfl) _ _ ls (lv_sub hl [1, 2, 0] rfl) hw hS
        exact L58 5000 _ _ hL58 _ _ ls (lv_sub hl [1, 2, 0] rfl) hw hS
      · have hf := hif.2 (fun q => q hcd)
        clear hif
        refine lv_aload_n hx hb dX4_plugFrom_33 rfl (lv_at hl 0 rfl) ?_
        refine gPlugging_way hC hw wd190 dX4_plugFrom_34 ?_
        refine lv_iload_n hx hb dX4_plugFrom_37 rfl (lv_at hl 1 rfl) ?_
        refine lv_aload_n hx hb dX4_plugFrom_38 rfl (lv_at hl 0 rfl) ?_
        obtain ⟨hnz, hf⟩ := ok_chk hf
        refine gPlugging_house hC hw hnz wd155 dX4_plugFrom_39 ?_
        refine gHouse_plugged hC hw isH_27 wd204 dX4_plugFrom_42 ?_
        refine lv_iload_n hx hb dX4_plugFrom_45 rfl (lv_at hl 1 rfl) ?_
        obtain ⟨hin, hf⟩ := ok_chk hf
        refine z_iald hC hw (sH isH_27).2.2.2.2.2.2.1 hin dX4_plugFrom_46 ?_
        obtain ⟨hin, hf⟩ := ok_chk hf
        obtain ⟨s_14, en, hf⟩ := ok_lt hf
        refine z_iast hC hw hS rfl hin en dX4_plugFrom_47 (fun H locs hw hS => ?_)
        clear en
        refine lv_aload_n hx hb dX4_plugFrom_48 rfl (lv_at hl 0 rfl) ?_
        refine lv_iload_n hx hb dX4_plugFrom_49 rfl (lv_at hl 1 rfl) ?_
        refine lv_iconst (v := 1) hx hb dX4_plugFrom_50 (by decide) ?_
        refine lv_iadd hx hb dX4_plugFrom_51 ?_
        obtain ⟨s_15, hc, hf⟩ := ok_bind hf
        refine z_cV (R := rmd (4 + (nr + 1))) (cells := 0) (slots := 0) hC hl.1 hw hS (As := [.int (x1 + (1 : Int32))]) (rest := []) (ih  hc) rfl rfl gc74 gc75 ⟨rmd_f (Nat.le_of_ble_eq_true rfl), rmd_l ⟨Nat.le_of_ble_eq_true rfl, Nat.le_of_ble_eq_true rfl⟩⟩ ⟨Nat.le_of_ble_eq_true rfl, Nat.le_of_ble_eq_true rfl⟩ rfl rfl (Nat.le_of_ble_eq_true rfl) dX4_plugFrom_52 (fun H locs hw hS => ?_)
        clear hc
        exact z_vretE hC hlocks hw hS hf hr dX4_plugFrom_55
    · have hf := hif.2 hcd
      clear hif
      exact J17 _ hf _ _ ls (lv_sub hl [0] rfl) hw hS
set_option maxHeartbeats 4000000 in
set_option maxRecDepth 100000 in
theorem m_X4_search (l : Launch) (E : Ev) {x2 : Int32}  {s0 sz : St} (hf : f_X4_search x2 s0 = some sz) : MM l E sh2 yX4_search cX4_search 4 none (rmd 12) [.ref (E.2.2.1 6), .ref (E.2.2.1 27), .int x2] s0 none sz := by
  unfold f_X4_search at hf
  refine z_enter (by decide +kernel) (Nat.le_of_ble_eq_true rfl) ?_
  intro p e s m args below meth c ls hC hr hlocks hw hS hl
  have hC : Cx p s m args c cX4_search 4 "FuseBox$Plugging" E := hC
  obtain ⟨hx, hb, hml, hown, hts, hTB⟩ := id hC
  have hl : lv_has ls 4 [(0, .ref (E.2.2.1 6)), (1, .ref (E.2.2.1 27)), (2, .int x2)] := hl
  refine lv_aload_n hx hb dX4_search_0 rfl (lv_at hl 0 rfl) ?_
  refine lv_aload_n hx hb dX4_search_1 rfl (lv_at hl 1 rfl) ?_
  obtain ⟨s_1, en, hf⟩ := ok_lt hf
  refine pPlugging_house hC hw hS wd155 en dX4_search_2 (fun H locs hw hS => ?_)
  clear en
  refine lv_aload_n hx hb dX4_search_5 rfl (lv_at hl 0 rfl) ?_
  refine lv_iload_n hx hb dX4_search_6 rfl (lv_at hl 2 rfl) ?_
  obtain ⟨s_2, en, hf⟩ := ok_lt hf
  refine pPlugging_minutes hC hw hS wd161 en dX4_search_7 (fun H locs hw hS => ?_)
  clear en
  refine lv_aload_n hx hb dX4_search_10 rfl (lv_at hl 0 rfl) ?_
  refine lv_iconst (v := -1) hx hb dX4_search_11 (by decide) ?_
  obtain ⟨s_3, en, hf⟩ := ok_lt hf
  refine pPlugging_most hC hw hS wd189 en dX4_search_12 (fun H locs hw hS => ?_)
  clear en
  refine lv_iconst (v := 0) hx hb dX4_search_15 (by decide) ?_
  obtain ⟨v3_4, en, hf⟩ := ok_lt hf
  refine z_nm en ?_
  clear en
  refine lv_istore_n (lv' := [(3, .int v3_4), (0, .ref (E.2.2.1 6)), (1, .ref (E.2.2.1 27)), (2, .int x2)]) hx hb dX4_search_16 rfl hl (by decide) rfl (fun ls hl => ?_)
  obtain ⟨r17, hL17, hf⟩ := ok_bind hf
  have X17_0 : ∀ (s_7 : St), s_7 = r17 → ∀ (H : Heap) (locs : List Loc) (ls : Array Slot), lv_has ls 4 [(0, .ref (E.2.2.1 6))] → World E sh2 s_7 H → va_S E.2.2.2 s.heap H locs → W p l e (rmd 12) s m args below meth c H locs 0 0 (MQ below (QW E sh2 none sz) args s 0 0 E.2.2.2) (F0 m 46 ls []) := by
    intro s_7 er H locs ls hl hw hS
    subst er
    replace hf := ok_un1 hf
    refine lv_aload_n hx hb dX4_search_46 rfl (lv_at hl 0 rfl) ?_
    refine lv_iconst (v := 0) hx hb dX4_search_47 (by decide) ?_
    obtain ⟨s_8, hc, hf⟩ := ok_bind hf
    refine z_cV hC hl.1 hw hS (As := [.int (0 : Int32)]) (rest := []) (m_X4_plugFrom l E 7 hc) rfl rfl gc74 gc75 ⟨Nat.le_of_ble_eq_true rfl, Nat.le_of_ble_eq_true rfl⟩ ⟨Nat.le_of_ble_eq_true rfl, Nat.le_of_ble_eq_true rfl⟩ rfl rfl (Nat.le_of_ble_eq_true rfl) dX4_search_48 (fun H locs hw hS => ?_)
    clear hc
    exact z_vretE hC hlocks hw hS hf hr dX4_search_51
  have L17 : ∀ (n : Nat) (v3_5 : Int32) (s_6 : St), loopF f_X4_search_L17 n (v3_5, s_6) = some r17 → ∀ (H : Heap) (locs : List Loc) (ls : Array Slot), lv_has ls 4 [(0, .ref (E.2.2.1 6)), (3, .int v3_5)] → World E sh2 s_6 H → va_S E.2.2.2 s.heap H locs → W p l e (rmd 12) s m args below meth c H locs 0 0 (MQ below (QW E sh2 none sz) args s 0 0 E.2.2.2) (F0 m 17 ls []) := by
    intro n
    induction n with
    | zero =>
      intro v3_5 s_6 hf
      exact nz hf
    | succ n ih17 =>
      intro v3_5 s_6 hf H locs ls hl hw hS
      obtain ⟨xl17, hf, hi17, he17⟩ := ok_loop hf
      unfold f_X4_search_L17 at hf
      replace hf := ok_un2 hf
      refine lv_iload_n hx hb dX4_search_17 rfl (lv_at hl 1 rfl) ?_
      refine lv_aload_n hx hb dX4_search_18 rfl (lv_at hl 0 rfl) ?_
      obtain ⟨hnz, hf⟩ := ok_chk hf
      refine gPlugging_house hC hw hnz wd155 dX4_search_19 ?_
      refine gHouse_lines hC hw isH_27 wd171 dX4_search_22 ?_
      have hif := ok_if hf
      refine lv_icmp_ge (tgt := 46) hx hb dX4_search_25 (by decide) (fun hcd => ?_) (fun hcd => ?_)
      · have hf := hif.1 hcd
        clear hif
        cases hf
        exact X17_0 _ (he17 _ rfl) _ _ ls (lv_sub hl [0] rfl) hw hS
      · have hf := hif.2 hcd
        clear hif
        refine lv_aload_n hx hb dX4_search_28 rfl (lv_at hl 0 rfl) ?_
        refine gPlugging_loads hC hw wd166 dX4_search_29 ?_
        refine lv_iload_n hx hb dX4_search_32 rfl (lv_at hl 1 rfl) ?_
        refine lv_iconst (v := 0) hx hb dX4_search_33 (by decide) ?_
        obtain ⟨hin, hf⟩ := ok_chk hf
        obtain ⟨s_9, en, hf⟩ := ok_lt hf
        refine z_iast hC hw hS rfl hin en dX4_search_34 (fun H locs hw hS => ?_)
        clear en
        refine lv_aload_n hx hb dX4_search_35 rfl (lv_at hl 0 rfl) ?_
        refine lv_iload_n hx hb dX4_search_36 rfl (lv_at hl 1 rfl) ?_
        obtain ⟨s_10, hc, hf⟩ := ok_bind hf
        refine z_cV hC hl.1 hw hS (As := [.int v3_5]) (rest := []) (m_X4_foretellLine l E  hc) rfl rfl gc76 gc77 ⟨Nat.le_of_ble_eq_true rfl, Nat.le_of_ble_eq_true rfl⟩ ⟨Nat.le_of_ble_eq_true rfl, Nat.le_of_ble_eq_true rfl⟩ rfl rfl (Nat.le_of_ble_eq_true rfl) dX4_search_37 (fun H locs hw hS => ?_)
        clear hc
        obtain ⟨v3_11, en, hf⟩ := ok_lt hf
        refine lv_iinc (v := v3_11) (lv' := [(3, .int v3_11), (0, .ref (E.2.2.1 6))]) hx hb dX4_search_40 hl (k := 1) rfl (by rw [en]; rfl) (by decide) rfl (fun ls hl => ?_)
        clear en
        refine lv_goto (tgt := 17) hx hb dX4_search_43 (by decide) ?_
        cases hf
        exact ih17 _ _ (hi17 _ rfl) _ _ ls (lv_sub hl [1, 0] rfl) hw hS
  exact L17 5000 _ _ hL17 _ _ ls (lv_sub hl [1, 0] rfl) hw hS
set_option maxHeartbeats 4000000 in
set_option maxRecDepth 100000 in
theorem m_X6_append (l : Launch) (E : Ev) {x1 : Int32}  {s0 sz : St} {rz : Int32} (hf : f_X6_append x1 s0 = some (rz, sz)) : MM l E sh2 yX6_append cX6_append 2 (some .int) (rmd 1) [.ref (E.2.2.1 2), .int x1] s0 (some (.int rz)) sz := by
  unfold f_X6_append at hf
  refine z_enter (by decide +kernel) (Nat.le_of_ble_eq_true rfl) ?_
  intro p e s m args below meth c ls hC hr hlocks hw hS hl
  have hC : Cx p s m args c cX6_append 2 "FuseBox$Reader" E := hC
  obtain ⟨hx, hb, hml, hown, hts, hTB⟩ := id hC
  have hl : lv_has ls 2 [(0, .ref (E.2.2.1 2)), (1, .int x1)] := hl
  refine lv_aload_n hx hb dX6_append_0 rfl (lv_at hl 0 rfl) ?_
  refine gReader_letters hC hw wd218 dX6_append_1 ?_
  refine lv_aload_n hx hb dX6_append_4 rfl (lv_at hl 0 rfl) ?_
  refine gReader_size hC hw wd219 dX6_append_5 ?_
  refine lv_iload_n hx hb dX6_append_8 rfl (lv_at hl 1 rfl) ?_
  obtain ⟨hin, hf⟩ := ok_chk hf
  obtain ⟨s_1, en, hf⟩ := ok_lt hf
  refine z_iast hC hw hS rfl hin en dX6_append_9 (fun H locs hw hS => ?_)
  clear en
  refine lv_aload_n hx hb dX6_append_10 rfl (lv_at hl 0 rfl) ?_
  refine lv_dup hx hb dX6_append_11 rfl ?_
  refine gReader_size hC hw wd219 dX6_append_12 ?_
  refine lv_iconst (v := 1) hx hb dX6_append_15 (by decide) ?_
  refine lv_iadd hx hb dX6_append_16 ?_
  obtain ⟨s_2, en, hf⟩ := ok_lt hf
  refine pReader_size hC hw hS wd219 en dX6_append_17 (fun H locs hw hS => ?_)
  clear en
  refine lv_aload_n hx hb dX6_append_20 rfl (lv_at hl 0 rfl) ?_
  refine gReader_size hC hw wd219 dX6_append_21 ?_
  exact z_iretE hC hlocks hw hS hf hr rfl dX6_append_24
set_option maxHeartbeats 4000000 in
set_option maxRecDepth 100000 in
theorem m_X6_isFigure (l : Launch) (E : Ev) {x1 : Int32}  {s0 sz : St} {rz : Int32} (hf : f_X6_isFigure x1 s0 = some (rz, sz)) : MM l E sh2 yX6_isFigure cX6_isFigure 2 (some .boolean) (rmd 1) [.ref (E.2.2.1 2), .int x1] s0 (some (.int rz)) sz := by
  unfold f_X6_isFigure at hf
  refine z_enter (by decide +kernel) (Nat.le_of_ble_eq_true rfl) ?_
  intro p e s m args below meth c ls hC hr hlocks hw hS hl
  have hC : Cx p s m args c cX6_isFigure 2 "FuseBox$Reader" E := hC
  obtain ⟨hx, hb, hml, hown, hts, hTB⟩ := id hC
  have hl : lv_has ls 2 [(0, .ref (E.2.2.1 2)), (1, .int x1)] := hl
  refine lv_iload_n hx hb dX6_isFigure_0 rfl (lv_at hl 1 rfl) ?_
  refine lv_aload_n hx hb dX6_isFigure_1 rfl (lv_at hl 0 rfl) ?_
  refine gReader_size hC hw wd219 dX6_isFigure_2 ?_
  obtain ⟨j35, ej35, hf⟩ := ok_lt hf
  have J35 : ∀ (k_1 : Int32) (s_2 : St), j35 k_1 s_2 = some (rz, sz) → ∀ (H : Heap) (locs : List Loc) (ls : Array Slot), lv_has ls 2 [] → World E sh2 s_2 H → va_S E.2.2.2 s.heap H locs → W p l e (rmd 1) s m args below meth c H locs 0 0 (MQ below (QW E sh2 (some (.int rz)) sz) args s 0 0 E.2.2.2) (F0 m 35 ls [.int k_1]) := by
    intro k_1 s_2 hf H locs ls hl hw hS
    subst ej35
    obtain ⟨hbo, hf⟩ := ok_chk hf
    exact z_iretE hC hlocks hw hS hf hr (narB hbo) dX6_isFigure_35
  clear ej35
  obtain ⟨j34, ej34, hf⟩ := ok_lt hf
  have J34 : ∀ (s_3 : St), j34 s_3 = some (rz, sz) → ∀ (H : Heap) (locs : List Loc) (ls : Array Slot), lv_has ls 2 [] → World E sh2 s_3 H → va_S E.2.2.2 s.heap H locs → W p l e (rmd 1) s m args below meth c H locs 0 0 (MQ below (QW E sh2 (some (.int rz)) sz) args s 0 0 E.2.2.2) (F0 m 34 ls []) := by
    intro s_3 hf H locs ls hl hw hS
    subst ej34
    refine lv_iconst (v := 0) hx hb dX6_isFigure_34 (by decide) ?_
    exact J35 _ _ hf _ _ ls hl hw hS
  clear ej34
  have hif := ok_if hf
  refine lv_icmp_ge (tgt := 34) hx hb dX6_isFigure_5 (by decide) (fun hcd => ?_) (fun hcd => ?_)
  · have hf := hif.1 hcd
    clear hif
    exact J34 _ hf _ _ ls (lv_sub hl [] rfl) hw hS
  · have hf := hif.2 hcd
    clear hif
    refine lv_aload_n hx hb dX6_isFigure_8 rfl (lv_at hl 0 rfl) ?_
    refine gReader_letters hC hw wd218 dX6_isFigure_9 ?_
    refine lv_iload_n hx hb dX6_isFigure_12 rfl (lv_at hl 1 rfl) ?_
    obtain ⟨hin, hf⟩ := ok_chk hf
    refine z_iald hC hw rfl hin dX6_isFigure_13 ?_
    refine lv_bipush (v := 48) hx hb dX6_isFigure_14 (by decide) ?_
    have hif := ok_if hf
    refine lv_icmp_lt (tgt := 34) hx hb dX6_isFigure_16 (by decide) (fun hcd => ?_) (fun hcd => ?_)
    · have hf := hif.1 hcd
      clear hif
      exact J34 _ hf _ _ ls (lv_sub hl [] rfl) hw hS
    · have hf := hif.2 hcd
      clear hif
      refine lv_aload_n hx hb dX6_isFigure_19 rfl (lv_at hl 0 rfl) ?_
      refine gReader_letters hC hw wd218 dX6_isFigure_20 ?_
      refine lv_iload_n hx hb dX6_isFigure_23 rfl (lv_at hl 1 rfl) ?_
      obtain ⟨hin, hf⟩ := ok_chk hf
      refine z_iald hC hw rfl hin dX6_isFigure_24 ?_
      refine lv_bipush (v := 57) hx hb dX6_isFigure_25 (by decide) ?_
      have hif := ok_if hf
      refine lv_icmp_gt (tgt := 34) hx hb dX6_isFigure_27 (by decide) (fun hcd => ?_) (fun hcd => ?_)
      · have hf := hif.1 hcd
        clear hif
        exact J34 _ hf _ _ ls (lv_sub hl [] rfl) hw hS
      · have hf := hif.2 hcd
        clear hif
        refine lv_iconst (v := 1) hx hb dX6_isFigure_30 (by decide) ?_
        refine lv_goto (tgt := 35) hx hb dX6_isFigure_31 (by decide) ?_
        exact J35 _ _ hf _ _ ls (lv_sub hl [] rfl) hw hS
set_option maxHeartbeats 4000000 in
set_option maxRecDepth 100000 in
theorem m_X6_readNumber (l : Launch) (E : Ev)   {s0 sz : St} (hf : f_X6_readNumber s0 = some sz) : MM l E sh2 yX6_readNumber cX6_readNumber 1 none (rmd 2) [.ref (E.2.2.1 2)] s0 none sz := by
  unfold f_X6_readNumber at hf
  refine z_enter (by decide +kernel) (Nat.le_of_ble_eq_true rfl) ?_
  intro p e s m args below meth c ls hC hr hlocks hw hS hl
  have hC : Cx p s m args c cX6_readNumber 1 "FuseBox$Reader" E := hC
  obtain ⟨hx, hb, hml, hown, hts, hTB⟩ := id hC
  have hl : lv_has ls 1 [(0, .ref (E.2.2.1 2))] := hl
  refine lv_aload_n hx hb dX6_readNumber_0 rfl (lv_at hl 0 rfl) ?_
  refine lv_sipush (v := 256) hx hb dX6_readNumber_1 (by decide) ?_
  obtain ⟨s_1, en, hf⟩ := ok_lt hf
  refine pReader_token hC hw hS wd220 en dX6_readNumber_4 (fun H locs hw hS => ?_)
  clear en
  refine lv_aload_n hx hb dX6_readNumber_7 rfl (lv_at hl 0 rfl) ?_
  refine lv_aload_n hx hb dX6_readNumber_8 rfl (lv_at hl 0 rfl) ?_
  refine gReader_letters hC hw wd218 dX6_readNumber_9 ?_
  refine lv_aload_n hx hb dX6_readNumber_12 rfl (lv_at hl 0 rfl) ?_
  refine gReader_start hC hw wd221 dX6_readNumber_13 ?_
  obtain ⟨hin, hf⟩ := ok_chk hf
  refine z_iald hC hw rfl hin dX6_readNumber_16 ?_
  refine lv_bipush (v := 48) hx hb dX6_readNumber_17 (by decide) ?_
  refine lv_isub hx hb dX6_readNumber_19 ?_
  obtain ⟨s_2, en, hf⟩ := ok_lt hf
  refine pReader_value hC hw hS wd222 en dX6_readNumber_20 (fun H locs hw hS => ?_)
  clear en
  refine lv_aload_n hx hb dX6_readNumber_23 rfl (lv_at hl 0 rfl) ?_
  refine lv_aload_n hx hb dX6_readNumber_24 rfl (lv_at hl 0 rfl) ?_
  refine gReader_start hC hw wd221 dX6_readNumber_25 ?_
  refine lv_iconst (v := 1) hx hb dX6_readNumber_28 (by decide) ?_
  refine lv_iadd hx hb dX6_readNumber_29 ?_
  obtain ⟨r_4, s_3, hc, hf⟩ := ok_bd hf
  refine z_cV hC hl.1 hw hS (As := [.int ((s_2 2 5) + (1 : Int32))]) (rest := []) (m_X6_isFigure l E  hc) rfl rfl gc83 gc84 ⟨Nat.le_of_ble_eq_true rfl, Nat.le_of_ble_eq_true rfl⟩ ⟨Nat.le_of_ble_eq_true rfl, Nat.le_of_ble_eq_true rfl⟩ rfl rfl (Nat.le_of_ble_eq_true rfl) dX6_readNumber_30 (fun H locs hw hS => ?_)
  clear hc
  obtain ⟨j92, ej92, hf⟩ := ok_lt hf
  have J92 : ∀ (s_5 : St), j92 s_5 = some sz → ∀ (H : Heap) (locs : List Loc) (ls : Array Slot), lv_has ls 1 [] → World E sh2 s_5 H → va_S E.2.2.2 s.heap H locs → W p l e (rmd 2) s m args below meth c H locs 0 0 (MQ below (QW E sh2 none sz) args s 0 0 E.2.2.2) (F0 m 92 ls []) := by
    intro s_5 hf H locs ls hl hw hS
    subst ej92
    exact z_vretE hC hlocks hw hS hf hr dX6_readNumber_92
  clear ej92
  have hif := ok_if hf
  refine lv_if_eq (tgt := 92) hx hb dX6_readNumber_33 (by decide) (fun hcd => ?_) (fun hcd => ?_)
  · have hf := hif.1 hcd
    clear hif
    exact J92 _ hf _ _ ls (lv_sub hl [] rfl) hw hS
  · have hf := hif.2 hcd
    clear hif
    refine lv_aload_n hx hb dX6_readNumber_36 rfl (lv_at hl 0 rfl) ?_
    refine lv_aload_n hx hb dX6_readNumber_37 rfl (lv_at hl 0 rfl) ?_
    refine gReader_value hC hw wd222 dX6_readNumber_38 ?_
    refine lv_bipush (v := 10) hx hb dX6_readNumber_41 (by decide) ?_
    refine lv_imul hx hb dX6_readNumber_43 ?_
    refine lv_aload_n hx hb dX6_readNumber_44 rfl (lv_at hl 0 rfl) ?_
    refine gReader_letters hC hw wd218 dX6_readNumber_45 ?_
    refine lv_aload_n hx hb dX6_readNumber_48 rfl (lv_at hl 0 rfl) ?_
    refine gReader_start hC hw wd221 dX6_readNumber_49 ?_
    refine lv_iconst (v := 1) hx hb dX6_readNumber_52 (by decide) ?_
    refine lv_iadd hx hb dX6_readNumber_53 ?_
    obtain ⟨hin, hf⟩ := ok_chk hf
    refine z_iald hC hw rfl hin dX6_readNumber_54 ?_
    refine lv_iadd hx hb dX6_readNumber_55 ?_
    refine lv_bipush (v := 48) hx hb dX6_readNumber_56 (by decide) ?_
    refine lv_isub hx hb dX6_readNumber_58 ?_
    obtain ⟨s_6, en, hf⟩ := ok_lt hf
    refine pReader_value hC hw hS wd222 en dX6_readNumber_59 (fun H locs hw hS => ?_)
    clear en
    refine lv_aload_n hx hb dX6_readNumber_62 rfl (lv_at hl 0 rfl) ?_
    refine lv_aload_n hx hb dX6_readNumber_63 rfl (lv_at hl 0 rfl) ?_
    refine gReader_start hC hw wd221 dX6_readNumber_64 ?_
    refine lv_iconst (v := 2) hx hb dX6_readNumber_67 (by decide) ?_
    refine lv_iadd hx hb dX6_readNumber_68 ?_
    obtain ⟨s_7, en, hf⟩ := ok_lt hf
    refine pReader_behind hC hw hS wd228 en dX6_readNumber_69 (fun H locs hw hS => ?_)
    clear en
    refine lv_aload_n hx hb dX6_readNumber_72 rfl (lv_at hl 0 rfl) ?_
    refine lv_aload_n hx hb dX6_readNumber_73 rfl (lv_at hl 0 rfl) ?_
    refine gReader_start hC hw wd221 dX6_readNumber_74 ?_
    refine lv_iconst (v := 2) hx hb dX6_readNumber_77 (by decide) ?_
    refine lv_iadd hx hb dX6_readNumber_78 ?_
    obtain ⟨r_9, s_8, hc, hf⟩ := ok_bd hf
    refine z_cV hC hl.1 hw hS (As := [.int ((s_7 2 5) + (2 : Int32))]) (rest := []) (m_X6_isFigure l E  hc) rfl rfl gc83 gc84 ⟨Nat.le_of_ble_eq_true rfl, Nat.le_of_ble_eq_true rfl⟩ ⟨Nat.le_of_ble_eq_true rfl, Nat.le_of_ble_eq_true rfl⟩ rfl rfl (Nat.le_of_ble_eq_true rfl) dX6_readNumber_79 (fun H locs hw hS => ?_)
    clear hc
    have hif := ok_if hf
    refine lv_if_eq (tgt := 92) hx hb dX6_readNumber_82 (by decide) (fun hcd => ?_) (fun hcd => ?_)
    · have hf := hif.1 hcd
      clear hif
      exact J92 _ hf _ _ ls (lv_sub hl [] rfl) hw hS
    · have hf := hif.2 hcd
      clear hif
      refine lv_aload_n hx hb dX6_readNumber_85 rfl (lv_at hl 0 rfl) ?_
      refine lv_sipush (v := 258) hx hb dX6_readNumber_86 (by decide) ?_
      obtain ⟨s_10, en, hf⟩ := ok_lt hf
      refine pReader_token hC hw hS wd220 en dX6_readNumber_89 (fun H locs hw hS => ?_)
      clear en
      exact J92 _ hf _ _ ls (lv_sub hl [] rfl) hw hS
set_option maxHeartbeats 4000000 in
set_option maxRecDepth 100000 in
theorem m_X6_readToken (l : Launch) (E : Ev)   {s0 sz : St} (hf : f_X6_readToken s0 = some sz) : MM l E sh2 yX6_readToken cX6_readToken 2 none (rmd 3) [.ref (E.2.2.1 2)] s0 none sz := by
  unfold f_X6_readToken at hf
  refine z_enter (by decide +kernel) (Nat.le_of_ble_eq_true rfl) ?_
  intro p e s m args below meth c ls hC hr hlocks hw hS hl
  have hC : Cx p s m args c cX6_readToken 2 "FuseBox$Reader" E := hC
  obtain ⟨hx, hb, hml, hown, hts, hTB⟩ := id hC
  have hl : lv_has ls 2 [(0, .ref (E.2.2.1 2))] := hl
  refine lv_aload_n hx hb dX6_readToken_0 rfl (lv_at hl 0 rfl) ?_
  refine lv_aload_n hx hb dX6_readToken_1 rfl (lv_at hl 0 rfl) ?_
  refine gReader_behind hC hw wd228 dX6_readToken_2 ?_
  obtain ⟨s_1, en, hf⟩ := ok_lt hf
  refine pReader_start hC hw hS wd221 en dX6_readToken_5 (fun H locs hw hS => ?_)
  clear en
  refine lv_aload_n hx hb dX6_readToken_8 rfl (lv_at hl 0 rfl) ?_
  refine gReader_start hC hw wd221 dX6_readToken_9 ?_
  refine lv_aload_n hx hb dX6_readToken_12 rfl (lv_at hl 0 rfl) ?_
  refine gReader_size hC hw wd219 dX6_readToken_13 ?_
  have hif := ok_if hf
  refine lv_icmp_lt (tgt := 27) hx hb dX6_readToken_16 (by decide) (fun hcd => ?_) (fun hcd => ?_)
  · have hf := hif.1 hcd
    clear hif
    refine lv_aload_n hx hb dX6_readToken_27 rfl (lv_at hl 0 rfl) ?_
    refine gReader_letters hC hw wd218 dX6_readToken_28 ?_
    refine lv_aload_n hx hb dX6_readToken_31 rfl (lv_at hl 0 rfl) ?_
    refine gReader_start hC hw wd221 dX6_readToken_32 ?_
    obtain ⟨hin, hf⟩ := ok_chk hf
    refine z_iald hC hw rfl hin dX6_readToken_35 ?_
    obtain ⟨v1_2, en, hf⟩ := ok_lt hf
    refine z_nm en ?_
    clear en
    refine lv_istore_n (lv' := [(1, .int v1_2), (0, .ref (E.2.2.1 2))]) hx hb dX6_readToken_36 rfl hl (by decide) rfl (fun ls hl => ?_)
    refine lv_aload_n hx hb dX6_readToken_37 rfl (lv_at hl 1 rfl) ?_
    refine lv_aload_n hx hb dX6_readToken_38 rfl (lv_at hl 1 rfl) ?_
    refine gReader_start hC hw wd221 dX6_readToken_39 ?_
    refine lv_iconst (v := 1) hx hb dX6_readToken_42 (by decide) ?_
    refine lv_iadd hx hb dX6_readToken_43 ?_
    obtain ⟨s_3, en, hf⟩ := ok_lt hf
    refine pReader_behind hC hw hS wd228 en dX6_readToken_44 (fun H locs hw hS => ?_)
    clear en
    refine lv_aload_n hx hb dX6_readToken_47 rfl (lv_at hl 1 rfl) ?_
    refine lv_aload_n hx hb dX6_readToken_48 rfl (lv_at hl 1 rfl) ?_
    refine gReader_start hC hw wd221 dX6_readToken_49 ?_
    obtain ⟨r_5, s_4, hc, hf⟩ := ok_bd hf
    refine z_cV hC hl.1 hw hS (As := [.int (s_3 2 5)]) (rest := []) (m_X6_isFigure l E  hc) rfl rfl gc83 gc84 ⟨Nat.le_of_ble_eq_true rfl, Nat.le_of_ble_eq_true rfl⟩ ⟨Nat.le_of_ble_eq_true rfl, Nat.le_of_ble_eq_true rfl⟩ rfl rfl (Nat.le_of_ble_eq_true rfl) dX6_readToken_52 (fun H locs hw hS => ?_)
    clear hc
    obtain ⟨j104, ej104, hf⟩ := ok_lt hf
    have J104 : ∀ (s_6 : St), j104 s_6 = some sz → ∀ (H : Heap) (locs : List Loc) (ls : Array Slot), lv_has ls 2 [] → World E sh2 s_6 H → va_S E.2.2.2 s.heap H locs → W p l e (rmd 3) s m args below meth c H locs 0 0 (MQ below (QW E sh2 none sz) args s 0 0 E.2.2.2) (F0 m 104 ls []) := by
      intro s_6 hf H locs ls hl hw hS
      subst ej104
      exact z_vretE hC hlocks hw hS hf hr dX6_readToken_104
    clear ej104
    have hif := ok_if hf
    refine lv_if_eq (tgt := 65) hx hb dX6_readToken_55 (by decide) (fun hcd => ?_) (fun hcd => ?_)
    · have hf := hif.1 hcd
      clear hif
      refine lv_iload_n hx hb dX6_readToken_65 rfl (lv_at hl 0 rfl) ?_
      refine lv_bipush (v := 97) hx hb dX6_readToken_66 (by decide) ?_
      obtain ⟨j89, ej89, hf⟩ := ok_lt hf
      have J89 : ∀ (s_7 : St), j89 s_7 = some sz → ∀ (H : Heap) (locs : List Loc) (ls : Array Slot), lv_has ls 2 [(0, .ref (E.2.2.1 2)), (1, .int v1_2)] → World E sh2 s_7 H → va_S E.2.2.2 s.heap H locs → W p l e (rmd 3) s m args below meth c H locs 0 0 (MQ below (QW E sh2 none sz) args s 0 0 E.2.2.2) (F0 m 89 ls []) := by
        intro s_7 hf H locs ls hl hw hS
        subst ej89
        refine lv_aload_n hx hb dX6_readToken_89 rfl (lv_at hl 0 rfl) ?_
        refine lv_iload_n hx hb dX6_readToken_90 rfl (lv_at hl 1 rfl) ?_
        obtain ⟨s_8, en, hf⟩ := ok_lt hf
        refine pReader_token hC hw hS wd220 en dX6_readToken_91 (fun H locs hw hS => ?_)
        clear en
        refine lv_goto (tgt := 104) hx hb dX6_readToken_94 (by decide) ?_
        exact J104 _ hf _ _ ls (lv_sub hl [] rfl) hw hS
      clear ej89
      obtain ⟨j77, ej77, hf⟩ := ok_lt hf
      have J77 : ∀ (s_9 : St), j77 s_9 = some sz → ∀ (H : Heap) (locs : List Loc) (ls : Array Slot), lv_has ls 2 [(0, .ref (E.2.2.1 2)), (1, .int v1_2)] → World E sh2 s_9 H → va_S E.2.2.2 s.heap H locs → W p l e (rmd 3) s m args below meth c H locs 0 0 (MQ below (QW E sh2 none sz) args s 0 0 E.2.2.2) (F0 m 77 ls []) := by
        intro s_9 hf H locs ls hl hw hS
        subst ej77
        refine lv_iload_n hx hb dX6_readToken_77 rfl (lv_at hl 1 rfl) ?_
        refine lv_bipush (v := 44) hx hb dX6_readToken_78 (by decide) ?_
        have hif := ok_if hf
        refine lv_icmp_eq (tgt := 89) hx hb dX6_readToken_80 (by decide) (fun hcd => ?_) (fun hcd => ?_)
        · have hf := hif.1 hcd
          clear hif
          exact J89 _ hf _ _ ls hl hw hS
        · have hf := hif.2 hcd
          clear hif
          refine lv_iload_n hx hb dX6_readToken_83 rfl (lv_at hl 1 rfl) ?_
          refine lv_bipush (v := 59) hx hb dX6_readToken_84 (by decide) ?_
          have hif := ok_if hf
          refine lv_icmp_ne (tgt := 97) hx hb dX6_readToken_86 (by decide) (fun hcd => ?_) (fun hcd => ?_)
          · have hf := hif.1 hcd
            clear hif
            refine lv_aload_n hx hb dX6_readToken_97 rfl (lv_at hl 0 rfl) ?_
            refine lv_sipush (v := 258) hx hb dX6_readToken_98 (by decide) ?_
            obtain ⟨s_10, en, hf⟩ := ok_lt hf
            refine pReader_token hC hw hS wd220 en dX6_readToken_101 (fun H locs hw hS => ?_)
            clear en
            exact J104 _ hf _ _ ls (lv_sub hl [] rfl) hw hS
          · have hf := hif.2 (fun q => q hcd)
            clear hif
            exact J89 _ hf _ _ ls hl hw hS
      clear ej77
      have hif := ok_if hf
      refine lv_icmp_lt (tgt := 77) hx hb dX6_readToken_68 (by decide) (fun hcd => ?_) (fun hcd => ?_)
      · have hf := hif.1 hcd
        clear hif
        exact J77 _ hf _ _ ls (lv_sub hl [1, 0] rfl) hw hS
      · have hf := hif.2 hcd
        clear hif
        refine lv_iload_n hx hb dX6_readToken_71 rfl (lv_at hl 0 rfl) ?_
        refine lv_bipush (v := 122) hx hb dX6_readToken_72 (by decide) ?_
        have hif := ok_if hf
        refine lv_icmp_le (tgt := 89) hx hb dX6_readToken_74 (by decide) (fun hcd => ?_) (fun hcd => ?_)
        · have hf := hif.1 hcd
          clear hif
          exact J89 _ hf _ _ ls (lv_sub hl [1, 0] rfl) hw hS
        · have hf := hif.2 hcd
          clear hif
          exact J77 _ hf _ _ ls (lv_sub hl [1, 0] rfl) hw hS
    · have hf := hif.2 hcd
      clear hif
      refine lv_aload_n hx hb dX6_readToken_58 rfl (lv_at hl 1 rfl) ?_
      obtain ⟨s_11, hc, hf⟩ := ok_bind hf
      refine z_cV hC hl.1 hw hS (As := []) (rest := []) (m_X6_readNumber l E  hc) rfl rfl gc85 gc86 ⟨Nat.le_of_ble_eq_true rfl, Nat.le_of_ble_eq_true rfl⟩ ⟨Nat.le_of_ble_eq_true rfl, Nat.le_of_ble_eq_true rfl⟩ rfl rfl (Nat.le_of_ble_eq_true rfl) dX6_readToken_59 (fun H locs hw hS => ?_)
      clear hc
      refine lv_goto (tgt := 104) hx hb dX6_readToken_62 (by decide) ?_
      exact J104 _ hf _ _ ls (lv_sub hl [] rfl) hw hS
  · have hf := hif.2 hcd
    clear hif
    refine lv_aload_n hx hb dX6_readToken_19 rfl (lv_at hl 0 rfl) ?_
    refine lv_sipush (v := 257) hx hb dX6_readToken_20 (by decide) ?_
    obtain ⟨s_12, en, hf⟩ := ok_lt hf
    refine pReader_token hC hw hS wd220 en dX6_readToken_23 (fun H locs hw hS => ?_)
    clear en
    exact z_vretE hC hlocks hw hS hf hr dX6_readToken_26
set_option maxHeartbeats 4000000 in
set_option maxRecDepth 100000 in
theorem m_X6_fail (l : Launch) (E : Ev) {x1 : Int32}  {s0 sz : St} (hf : f_X6_fail x1 s0 = some sz) : MM l E sh2 yX6_fail cX6_fail 2 none (rmd 1) [.ref (E.2.2.1 2), .int x1] s0 none sz := by
  unfold f_X6_fail at hf
  refine z_enter (by decide +kernel) (Nat.le_of_ble_eq_true rfl) ?_
  intro p e s m args below meth c ls hC hr hlocks hw hS hl
  have hC : Cx p s m args c cX6_fail 2 "FuseBox$Reader" E := hC
  obtain ⟨hx, hb, hml, hown, hts, hTB⟩ := id hC
  have hl : lv_has ls 2 [(0, .ref (E.2.2.1 2)), (1, .int x1)] := hl
  refine lv_aload_n hx hb dX6_fail_0 rfl (lv_at hl 0 rfl) ?_
  refine gReader_fault hC hw wd233 dX6_fail_1 ?_
  obtain ⟨j12, ej12, hf⟩ := ok_lt hf
  have J12 : ∀ (s_1 : St), j12 s_1 = some sz → ∀ (H : Heap) (locs : List Loc) (ls : Array Slot), lv_has ls 2 [] → World E sh2 s_1 H → va_S E.2.2.2 s.heap H locs → W p l e (rmd 1) s m args below meth c H locs 0 0 (MQ below (QW E sh2 none sz) args s 0 0 E.2.2.2) (F0 m 12 ls []) := by
    intro s_1 hf H locs ls hl hw hS
    subst ej12
    exact z_vretE hC hlocks hw hS hf hr dX6_fail_12
  clear ej12
  have hif := ok_if hf
  refine lv_if_ne (tgt := 12) hx hb dX6_fail_4 (by decide) (fun hcd => ?_) (fun hcd => ?_)
  · have hf := hif.1 hcd
    clear hif
    exact J12 _ hf _ _ ls (lv_sub hl [] rfl) hw hS
  · have hf := hif.2 (fun q => q hcd)
    clear hif
    refine lv_aload_n hx hb dX6_fail_7 rfl (lv_at hl 0 rfl) ?_
    refine lv_iload_n hx hb dX6_fail_8 rfl (lv_at hl 1 rfl) ?_
    obtain ⟨s_2, en, hf⟩ := ok_lt hf
    refine pReader_fault hC hw hS wd233 en dX6_fail_9 (fun H locs hw hS => ?_)
    clear en
    exact J12 _ hf _ _ ls (lv_sub hl [] rfl) hw hS
set_option maxHeartbeats 4000000 in
set_option maxRecDepth 100000 in
theorem m_X6_take (l : Launch) (E : Ev) {x1 : Int32}  {s0 sz : St} (hf : f_X6_take x1 s0 = some sz) : MM l E sh2 yX6_take cX6_take 2 none (rmd 4) [.ref (E.2.2.1 2), .int x1] s0 none sz := by
  unfold f_X6_take at hf
  refine z_enter (by decide +kernel) (Nat.le_of_ble_eq_true rfl) ?_
  intro p e s m args below meth c ls hC hr hlocks hw hS hl
  have hC : Cx p s m args c cX6_take 2 "FuseBox$Reader" E := hC
  obtain ⟨hx, hb, hml, hown, hts, hTB⟩ := id hC
  have hl : lv_has ls 2 [(0, .ref (E.2.2.1 2)), (1, .int x1)] := hl
  refine lv_aload_n hx hb dX6_take_0 rfl (lv_at hl 0 rfl) ?_
  refine gReader_fault hC hw wd233 dX6_take_1 ?_
  have hif := ok_if hf
  refine lv_if_eq (tgt := 8) hx hb dX6_take_4 (by decide) (fun hcd => ?_) (fun hcd => ?_)
  · have hf := hif.1 hcd
    clear hif
    refine lv_aload_n hx hb dX6_take_8 rfl (lv_at hl 0 rfl) ?_
    refine gReader_token hC hw wd220 dX6_take_9 ?_
    refine lv_iload_n hx hb dX6_take_12 rfl (lv_at hl 1 rfl) ?_
    obtain ⟨j28, ej28, hf⟩ := ok_lt hf
    have J28 : ∀ (s_1 : St), j28 s_1 = some sz → ∀ (H : Heap) (locs : List Loc) (ls : Array Slot), lv_has ls 2 [] → World E sh2 s_1 H → va_S E.2.2.2 s.heap H locs → W p l e (rmd 4) s m args below meth c H locs 0 0 (MQ below (QW E sh2 none sz) args s 0 0 E.2.2.2) (F0 m 28 ls []) := by
      intro s_1 hf H locs ls hl hw hS
      subst ej28
      exact z_vretE hC hlocks hw hS hf hr dX6_take_28
    clear ej28
    have hif := ok_if hf
    refine lv_icmp_eq (tgt := 24) hx hb dX6_take_13 (by decide) (fun hcd => ?_) (fun hcd => ?_)
    · have hf := hif.1 hcd
      clear hif
      refine lv_aload_n hx hb dX6_take_24 rfl (lv_at hl 0 rfl) ?_
      obtain ⟨s_2, hc, hf⟩ := ok_bind hf
      refine z_cV hC hl.1 hw hS (As := []) (rest := []) (m_X6_readToken l E  hc) rfl rfl gc87 gc88 ⟨Nat.le_of_ble_eq_true rfl, Nat.le_of_ble_eq_true rfl⟩ ⟨Nat.le_of_ble_eq_true rfl, Nat.le_of_ble_eq_true rfl⟩ rfl rfl (Nat.le_of_ble_eq_true rfl) dX6_take_25 (fun H locs hw hS => ?_)
      clear hc
      exact J28 _ hf _ _ ls (lv_sub hl [] rfl) hw hS
    · have hf := hif.2 hcd
      clear hif
      refine lv_aload_n hx hb dX6_take_16 rfl (lv_at hl 0 rfl) ?_
      refine lv_iconst (v := 1) hx hb dX6_take_17 (by decide) ?_
      obtain ⟨s_3, hc, hf⟩ := ok_bind hf
      refine z_cV hC hl.1 hw hS (As := [.int (1 : Int32)]) (rest := []) (m_X6_fail l E  hc) rfl rfl gc89 gc90 ⟨Nat.le_of_ble_eq_true rfl, Nat.le_of_ble_eq_true rfl⟩ ⟨Nat.le_of_ble_eq_true rfl, Nat.le_of_ble_eq_true rfl⟩ rfl rfl (Nat.le_of_ble_eq_true rfl) dX6_take_18 (fun H locs hw hS => ?_)
      clear hc
      refine lv_goto (tgt := 28) hx hb dX6_take_21 (by decide) ?_
      exact J28 _ hf _ _ ls (lv_sub hl [] rfl) hw hS
  · have hf := hif.2 hcd
    clear hif
    exact z_vretE hC hlocks hw hS hf hr dX6_take_7
set_option maxHeartbeats 4000000 in
set_option maxRecDepth 100000 in
theorem m_X6_takeNumber (l : Launch) (E : Ev) {x1 : Int32} {x2 : Int32}  {s0 sz : St} {rz : Int32} (hf : f_X6_takeNumber x1 x2 s0 = some (rz, sz)) : MM l E sh2 yX6_takeNumber cX6_takeNumber 4 (some .int) (rmd 4) [.ref (E.2.2.1 2), .int x1, .int x2] s0 (some (.int rz)) sz := by
  unfold f_X6_takeNumber at hf
  refine z_enter (by decide +kernel) (Nat.le_of_ble_eq_true rfl) ?_
  intro p e s m args below meth c ls hC hr hlocks hw hS hl
  have hC : Cx p s m args c cX6_takeNumber 4 "FuseBox$Reader" E := hC
  obtain ⟨hx, hb, hml, hown, hts, hTB⟩ := id hC
  have hl : lv_has ls 4 [(0, .ref (E.2.2.1 2)), (1, .int x1), (2, .int x2)] := hl
  refine lv_aload_n hx hb dX6_takeNumber_0 rfl (lv_at hl 0 rfl) ?_
  refine gReader_value hC hw wd222 dX6_takeNumber_1 ?_
  obtain ⟨v3_1, en, hf⟩ := ok_lt hf
  refine z_nm en ?_
  clear en
  refine lv_istore_n (lv' := [(3, .int v3_1), (0, .ref (E.2.2.1 2)), (1, .int x1), (2, .int x2)]) hx hb dX6_takeNumber_4 rfl hl (by decide) rfl (fun ls hl => ?_)
  refine lv_aload_n hx hb dX6_takeNumber_5 rfl (lv_at hl 1 rfl) ?_
  refine gReader_fault hC hw wd233 dX6_takeNumber_6 ?_
  have hif := ok_if hf
  refine lv_if_eq (tgt := 14) hx hb dX6_takeNumber_9 (by decide) (fun hcd => ?_) (fun hcd => ?_)
  · have hf := hif.1 hcd
    clear hif
    refine lv_aload_n hx hb dX6_takeNumber_14 rfl (lv_at hl 1 rfl) ?_
    refine gReader_token hC hw wd220 dX6_takeNumber_15 ?_
    refine lv_sipush (v := 256) hx hb dX6_takeNumber_18 (by decide) ?_
    obtain ⟨j54, ej54, hf⟩ := ok_lt hf
    have J54 : ∀ (s_2 : St), j54 s_2 = some (rz, sz) → ∀ (H : Heap) (locs : List Loc) (ls : Array Slot), lv_has ls 4 [(3, .int v3_1)] → World E sh2 s_2 H → va_S E.2.2.2 s.heap H locs → W p l e (rmd 4) s m args below meth c H locs 0 0 (MQ below (QW E sh2 (some (.int rz)) sz) args s 0 0 E.2.2.2) (F0 m 54 ls []) := by
      intro s_2 hf H locs ls hl hw hS
      subst ej54
      refine lv_iload_n hx hb dX6_takeNumber_54 rfl (lv_at hl 0 rfl) ?_
      exact z_iretE hC hlocks hw hS hf hr rfl dX6_takeNumber_55
    clear ej54
    have hif := ok_if hf
    refine lv_icmp_eq (tgt := 32) hx hb dX6_takeNumber_21 (by decide) (fun hcd => ?_) (fun hcd => ?_)
    · have hf := hif.1 hcd
      clear hif
      refine lv_iload_n hx hb dX6_takeNumber_32 rfl (lv_at hl 0 rfl) ?_
      refine lv_iload_n hx hb dX6_takeNumber_33 rfl (lv_at hl 2 rfl) ?_
      obtain ⟨j42, ej42, hf⟩ := ok_lt hf
      have J42 : ∀ (s_3 : St), j42 s_3 = some (rz, sz) → ∀ (H : Heap) (locs : List Loc) (ls : Array Slot), lv_has ls 4 [(0, .ref (E.2.2.1 2)), (3, .int v3_1)] → World E sh2 s_3 H → va_S E.2.2.2 s.heap H locs → W p l e (rmd 4) s m args below meth c H locs 0 0 (MQ below (QW E sh2 (some (.int rz)) sz) args s 0 0 E.2.2.2) (F0 m 42 ls []) := by
        intro s_3 hf H locs ls hl hw hS
        subst ej42
        refine lv_aload_n hx hb dX6_takeNumber_42 rfl (lv_at hl 0 rfl) ?_
        refine lv_iconst (v := 2) hx hb dX6_takeNumber_43 (by decide) ?_
        obtain ⟨s_4, hc, hf⟩ := ok_bind hf
        refine z_cV hC hl.1 hw hS (As := [.int (2 : Int32)]) (rest := []) (m_X6_fail l E  hc) rfl rfl gc89 gc90 ⟨Nat.le_of_ble_eq_true rfl, Nat.le_of_ble_eq_true rfl⟩ ⟨Nat.le_of_ble_eq_true rfl, Nat.le_of_ble_eq_true rfl⟩ rfl rfl (Nat.le_of_ble_eq_true rfl) dX6_takeNumber_44 (fun H locs hw hS => ?_)
        clear hc
        refine lv_goto (tgt := 54) hx hb dX6_takeNumber_47 (by decide) ?_
        exact J54 _ hf _ _ ls (lv_sub hl [1] rfl) hw hS
      clear ej42
      have hif := ok_if hf
      refine lv_icmp_lt (tgt := 42) hx hb dX6_takeNumber_34 (by decide) (fun hcd => ?_) (fun hcd => ?_)
      · have hf := hif.1 hcd
        clear hif
        exact J42 _ hf _ _ ls (lv_sub hl [1, 0] rfl) hw hS
      · have hf := hif.2 hcd
        clear hif
        refine lv_iload_n hx hb dX6_takeNumber_37 rfl (lv_at hl 0 rfl) ?_
        refine lv_iload_n hx hb dX6_takeNumber_38 rfl (lv_at hl 3 rfl) ?_
        have hif := ok_if hf
        refine lv_icmp_le (tgt := 50) hx hb dX6_takeNumber_39 (by decide) (fun hcd => ?_) (fun hcd => ?_)
        · have hf := hif.1 hcd
          clear hif
          refine lv_aload_n hx hb dX6_takeNumber_50 rfl (lv_at hl 1 rfl) ?_
          obtain ⟨s_5, hc, hf⟩ := ok_bind hf
          refine z_cV hC hl.1 hw hS (As := []) (rest := []) (m_X6_readToken l E  hc) rfl rfl gc87 gc88 ⟨Nat.le_of_ble_eq_true rfl, Nat.le_of_ble_eq_true rfl⟩ ⟨Nat.le_of_ble_eq_true rfl, Nat.le_of_ble_eq_true rfl⟩ rfl rfl (Nat.le_of_ble_eq_true rfl) dX6_takeNumber_51 (fun H locs hw hS => ?_)
          clear hc
          exact J54 _ hf _ _ ls (lv_sub hl [0] rfl) hw hS
        · have hf := hif.2 hcd
          clear hif
          exact J42 _ hf _ _ ls (lv_sub hl [1, 0] rfl) hw hS
    · have hf := hif.2 hcd
      clear hif
      refine lv_aload_n hx hb dX6_takeNumber_24 rfl (lv_at hl 1 rfl) ?_
      refine lv_iconst (v := 1) hx hb dX6_takeNumber_25 (by decide) ?_
      obtain ⟨s_6, hc, hf⟩ := ok_bind hf
      refine z_cV hC hl.1 hw hS (As := [.int (1 : Int32)]) (rest := []) (m_X6_fail l E  hc) rfl rfl gc89 gc90 ⟨Nat.le_of_ble_eq_true rfl, Nat.le_of_ble_eq_true rfl⟩ ⟨Nat.le_of_ble_eq_true rfl, Nat.le_of_ble_eq_true rfl⟩ rfl rfl (Nat.le_of_ble_eq_true rfl) dX6_takeNumber_26 (fun H locs hw hS => ?_)
      clear hc
      refine lv_goto (tgt := 54) hx hb dX6_takeNumber_29 (by decide) ?_
      exact J54 _ hf _ _ ls (lv_sub hl [0] rfl) hw hS
  · have hf := hif.2 hcd
    clear hif
    refine lv_iload_n hx hb dX6_takeNumber_12 rfl (lv_at hl 0 rfl) ?_
    exact z_iretE hC hlocks hw hS hf hr rfl dX6_takeNumber_13
set_option maxHeartbeats 4000000 in
set_option maxRecDepth 100000 in
theorem m_X6_readLaw (l : Launch) (E : Ev) {a1 : Nat} (t1 : isH a1) {s0 sz : St} (hf : f_X6_readLaw a1 s0 = some sz) : MM l E sh2 yX6_readLaw cX6_readLaw 2 none (rmd 5) [.ref (E.2.2.1 2), .ref (E.2.2.1 a1)] s0 none sz := by
  unfold f_X6_readLaw at hf
  refine z_enter (by decide +kernel) (Nat.le_of_ble_eq_true rfl) ?_
  intro p e s m args below meth c ls hC hr hlocks hw hS hl
  have hC : Cx p s m args c cX6_readLaw 2 "FuseBox$Reader" E := hC
  obtain ⟨hx, hb, hml, hown, hts, hTB⟩ := id hC
  have hl : lv_has ls 2 [(0, .ref (E.2.2.1 2)), (1, .ref (E.2.2.1 a1))] := hl
  refine lv_aload_n hx hb dX6_readLaw_0 rfl (lv_at hl 0 rfl) ?_
  refine lv_bipush (v := 109) hx hb dX6_readLaw_1 (by decide) ?_
  obtain ⟨s_1, hc, hf⟩ := ok_bind hf
  refine z_cV hC hl.1 hw hS (As := [.int (109 : Int32)]) (rest := []) (m_X6_take l E  hc) rfl rfl gc91 gc92 ⟨Nat.le_of_ble_eq_true rfl, Nat.le_of_ble_eq_true rfl⟩ ⟨Nat.le_of_ble_eq_true rfl, Nat.le_of_ble_eq_true rfl⟩ rfl rfl (Nat.le_of_ble_eq_true rfl) dX6_readLaw_3 (fun H locs hw hS => ?_)
  clear hc
  refine lv_aload_n hx hb dX6_readLaw_6 rfl (lv_at hl 1 rfl) ?_
  refine lv_aload_n hx hb dX6_readLaw_7 rfl (lv_at hl 0 rfl) ?_
  refine lv_iconst (v := 1) hx hb dX6_readLaw_8 (by decide) ?_
  refine lv_bipush (v := 60) hx hb dX6_readLaw_9 (by decide) ?_
  obtain ⟨r_3, s_2, hc, hf⟩ := ok_bd hf
  refine z_cV hC hl.1 hw hS (As := [.int (1 : Int32), .int (60 : Int32)]) (rest := [.ref (E.2.2.1 a1)]) (m_X6_takeNumber l E  hc) rfl rfl gc93 gc94 ⟨Nat.le_of_ble_eq_true rfl, Nat.le_of_ble_eq_true rfl⟩ ⟨Nat.le_of_ble_eq_true rfl, Nat.le_of_ble_eq_true rfl⟩ rfl rfl (Nat.le_of_ble_eq_true rfl) dX6_readLaw_11 (fun H locs hw hS => ?_)
  clear hc
  obtain ⟨s_4, en, hf⟩ := ok_lt hf
  refine pHouse_main hC hw hS t1 wd250 en dX6_readLaw_14 (fun H locs hw hS => ?_)
  clear en
  refine lv_aload_n hx hb dX6_readLaw_17 rfl (lv_at hl 0 rfl) ?_
  refine lv_bipush (v := 59) hx hb dX6_readLaw_18 (by decide) ?_
  obtain ⟨s_5, hc, hf⟩ := ok_bind hf
  refine z_cV hC hl.1 hw hS (As := [.int (59 : Int32)]) (rest := []) (m_X6_take l E  hc) rfl rfl gc91 gc92 ⟨Nat.le_of_ble_eq_true rfl, Nat.le_of_ble_eq_true rfl⟩ ⟨Nat.le_of_ble_eq_true rfl, Nat.le_of_ble_eq_true rfl⟩ rfl rfl (Nat.le_of_ble_eq_true rfl) dX6_readLaw_20 (fun H locs hw hS => ?_)
  clear hc
  exact z_vretE hC hlocks hw hS hf hr dX6_readLaw_23
set_option maxHeartbeats 4000000 in
set_option maxRecDepth 100000 in
theorem m_X6_sortOf (l : Launch) (E : Ev) {x0 : Int32}  {s0 sz : St} {rz : Int32} (hf : f_X6_sortOf x0 s0 = some (rz, sz)) : MM l E sh2 yX6_sortOf cX6_sortOf 1 (some .int) (rmd 1) [.int x0] s0 (some (.int rz)) sz := by
  unfold f_X6_sortOf at hf
  refine z_enter (by decide +kernel) (Nat.le_of_ble_eq_true rfl) ?_
  intro p e s m args below meth c ls hC hr hlocks hw hS hl
  have hC : Cx p s m args c cX6_sortOf 1 "FuseBox$Reader" E := hC
  obtain ⟨hx, hb, hml, hown, hts, hTB⟩ := id hC
  have hl : lv_has ls 1 [(0, .int x0)] := hl
  refine lv_iload_n hx hb dX6_sortOf_0 rfl (lv_at hl 0 rfl) ?_
  have hif := ok_if hf
  by_cases hk0 : x0 = 98
  · have hf := hif.1 hk0
    clear hif
    refine lv_lookup (off := 57) (tgt := 58) hx hb dX6_sortOf_1 (by decide) (by rw [hk0]; rfl) (by decide) ?_
    refine lv_iconst (v := 4) hx hb dX6_sortOf_58 (by decide) ?_
    exact z_iretE hC hlocks hw hS hf hr rfl dX6_sortOf_59
  replace hf := hif.2 hk0
  clear hif
  have hif := ok_if hf
  by_cases hk1 : x0 = 99
  · have hf := hif.1 hk1
    clear hif
    refine lv_lookup (off := 59) (tgt := 60) hx hb dX6_sortOf_1 (by decide) (by rw [hk1]; rfl) (by decide) ?_
    refine lv_iconst (v := 5) hx hb dX6_sortOf_60 (by decide) ?_
    exact z_iretE hC hlocks hw hS hf hr rfl dX6_sortOf_61
  replace hf := hif.2 hk1
  clear hif
  have hif := ok_if hf
  by_cases hk2 : x0 = 113
  · have hf := hif.1 hk2
    clear hif
    refine lv_lookup (off := 55) (tgt := 56) hx hb dX6_sortOf_1 (by decide) (by rw [hk2]; rfl) (by decide) ?_
    refine lv_iconst (v := 3) hx hb dX6_sortOf_56 (by decide) ?_
    exact z_iretE hC hlocks hw hS hf hr rfl dX6_sortOf_57
  replace hf := hif.2 hk2
  clear hif
  have hif := ok_if hf
  by_cases hk3 : x0 = 115
  · have hf := hif.1 hk3
    clear hif
    refine lv_lookup (off := 53) (tgt := 54) hx hb dX6_sortOf_1 (by decide) (by rw [hk3]; rfl) (by decide) ?_
    refine lv_iconst (v := 2) hx hb dX6_sortOf_54 (by decide) ?_
    exact z_iretE hC hlocks hw hS hf hr rfl dX6_sortOf_55
  replace hf := hif.2 hk3
  clear hif
  have hif := ok_if hf
  by_cases hk4 : x0 = 119
  · have hf := hif.1 hk4
    clear hif
    refine lv_lookup (off := 51) (tgt := 52) hx hb dX6_sortOf_1 (by decide) (by rw [hk4]; rfl) (by decide) ?_
    refine lv_iconst (v := 1) hx hb dX6_sortOf_52 (by decide) ?_
    exact z_iretE hC hlocks hw hS hf hr rfl dX6_sortOf_53
  replace hf := hif.2 hk4
  clear hif
  refine lv_lookup (off := 61) (tgt := 62) hx hb dX6_sortOf_1 (by decide) (by show Op.lookupswitch.offset [(98, 57), (99, 59), (113, 55), (115, 53), (119, 51)] 61 _ = _; rw [lv_osw hk0 (by decide : (98 : Int32).toInt = 98), lv_osw hk1 (by decide : (99 : Int32).toInt = 99), lv_osw hk2 (by decide : (113 : Int32).toInt = 113), lv_osw hk3 (by decide : (115 : Int32).toInt = 115), lv_osw hk4 (by decide : (119 : Int32).toInt = 119)]; rfl) (by decide) ?_
  refine lv_iconst (v := 0) hx hb dX6_sortOf_62 (by decide) ?_
  exact z_iretE hC hlocks hw hS hf hr rfl dX6_sortOf_63
set_option maxHeartbeats 4000000 in
set_option maxRecDepth 100000 in
theorem m_X6_readLine (l : Launch) (E : Ev) {a1 : Nat} (t1 : isH a1) {s0 sz : St} (hf : f_X6_readLine a1 s0 = some sz) : MM l E sh2 yX6_readLine cX6_readLine 4 none (rmd 5) [.ref (E.2.2.1 2), .ref (E.2.2.1 a1)] s0 none sz := by
  unfold f_X6_readLine at hf
  refine z_enter (by decide +kernel) (Nat.le_of_ble_eq_true rfl) ?_
  intro p e s m args below meth c ls hC hr hlocks hw hS hl
  have hC : Cx p s m args c cX6_readLine 4 "FuseBox$Reader" E := hC
  obtain ⟨hx, hb, hml, hown, hts, hTB⟩ := id hC
  have hl : lv_has ls 4 [(0, .ref (E.2.2.1 2)), (1, .ref (E.2.2.1 a1))] := hl
  refine lv_aload_n hx hb dX6_readLine_0 rfl (lv_at hl 0 rfl) ?_
  refine gReader_token hC hw wd220 dX6_readLine_1 ?_
  obtain ⟨r_2, s_1, hc, hf⟩ := ok_bd hf
  refine z_cS hC hl.1 hw hS (As := [.int (s0 2 2)]) (rest := []) (m_X6_sortOf l E  hc) gc95 gc96 ⟨Nat.le_of_ble_eq_true rfl, Nat.le_of_ble_eq_true rfl⟩ ⟨Nat.le_of_ble_eq_true rfl, Nat.le_of_ble_eq_true rfl⟩ rfl rfl (Nat.le_of_ble_eq_true rfl) dX6_readLine_4 (fun H locs hw hS => ?_)
  clear hc
  refine lv_istore_n (lv' := [(2, .int r_2), (0, .ref (E.2.2.1 2)), (1, .ref (E.2.2.1 a1))]) hx hb dX6_readLine_7 rfl hl (by decide) rfl (fun ls hl => ?_)
  refine lv_iload_n hx hb dX6_readLine_8 rfl (lv_at hl 0 rfl) ?_
  obtain ⟨j33, ej33, hf⟩ := ok_lt hf
  have J33 : ∀ (s_3 : St), j33 s_3 = some sz → ∀ (H : Heap) (locs : List Loc) (ls : Array Slot), lv_has ls 4 [(0, .ref (E.2.2.1 2)), (1, .ref (E.2.2.1 a1)), (2, .int r_2)] → World E sh2 s_3 H → va_S E.2.2.2 s.heap H locs → W p l e (rmd 5) s m args below meth c H locs 0 0 (MQ below (QW E sh2 none sz) args s 0 0 E.2.2.2) (F0 m 33 ls []) := by
    intro s_3 hf H locs ls hl hw hS
    subst ej33
    refine lv_aload_n hx hb dX6_readLine_33 rfl (lv_at hl 0 rfl) ?_
    refine lv_aload_n hx hb dX6_readLine_34 rfl (lv_at hl 0 rfl) ?_
    refine gReader_token hC hw wd220 dX6_readLine_35 ?_
    obtain ⟨s_4, hc, hf⟩ := ok_bind hf
    refine z_cV hC hl.1 hw hS (As := [.int (s_3 2 2)]) (rest := []) (m_X6_take l E  hc) rfl rfl gc91 gc92 ⟨Nat.le_of_ble_eq_true rfl, Nat.le_of_ble_eq_true rfl⟩ ⟨Nat.le_of_ble_eq_true rfl, Nat.le_of_ble_eq_true rfl⟩ rfl rfl (Nat.le_of_ble_eq_true rfl) dX6_readLine_38 (fun H locs hw hS => ?_)
    clear hc
    refine lv_aload_n hx hb dX6_readLine_41 rfl (lv_at hl 0 rfl) ?_
    refine lv_iconst (v := 1) hx hb dX6_readLine_42 (by decide) ?_
    refine lv_bipush (v := 20) hx hb dX6_readLine_43 (by decide) ?_
    obtain ⟨r_6, s_5, hc, hf⟩ := ok_bd hf
    refine z_cV hC hl.1 hw hS (As := [.int (1 : Int32), .int (20 : Int32)]) (rest := []) (m_X6_takeNumber l E  hc) rfl rfl gc93 gc94 ⟨Nat.le_of_ble_eq_true rfl, Nat.le_of_ble_eq_true rfl⟩ ⟨Nat.le_of_ble_eq_true rfl, Nat.le_of_ble_eq_true rfl⟩ rfl rfl (Nat.le_of_ble_eq_true rfl) dX6_readLine_45 (fun H locs hw hS => ?_)
    clear hc
    refine lv_istore_n (lv' := [(3, .int r_6), (0, .ref (E.2.2.1 2)), (1, .ref (E.2.2.1 a1)), (2, .int r_2)]) hx hb dX6_readLine_48 rfl hl (by decide) rfl (fun ls hl => ?_)
    refine lv_aload_n hx hb dX6_readLine_49 rfl (lv_at hl 1 rfl) ?_
    refine lv_bipush (v := 59) hx hb dX6_readLine_50 (by decide) ?_
    obtain ⟨s_7, hc, hf⟩ := ok_bind hf
    refine z_cV hC hl.1 hw hS (As := [.int (59 : Int32)]) (rest := []) (m_X6_take l E  hc) rfl rfl gc91 gc92 ⟨Nat.le_of_ble_eq_true rfl, Nat.le_of_ble_eq_true rfl⟩ ⟨Nat.le_of_ble_eq_true rfl, Nat.le_of_ble_eq_true rfl⟩ rfl rfl (Nat.le_of_ble_eq_true rfl) dX6_readLine_52 (fun H locs hw hS => ?_)
    clear hc
    refine lv_aload_n hx hb dX6_readLine_55 rfl (lv_at hl 1 rfl) ?_
    refine gReader_fault hC hw wd233 dX6_readLine_56 ?_
    obtain ⟨j68, ej68, hf⟩ := ok_lt hf
    have J68 : ∀ (s_8 : St), j68 s_8 = some sz → ∀ (H : Heap) (locs : List Loc) (ls : Array Slot), lv_has ls 4 [] → World E sh2 s_8 H → va_S E.2.2.2 s.heap H locs → W p l e (rmd 5) s m args below meth c H locs 0 0 (MQ below (QW E sh2 none sz) args s 0 0 E.2.2.2) (F0 m 68 ls []) := by
      intro s_8 hf H locs ls hl hw hS
      subst ej68
      exact z_vretE hC hlocks hw hS hf hr dX6_readLine_68
    clear ej68
    have hif := ok_if hf
    refine lv_if_ne (tgt := 68) hx hb dX6_readLine_59 (by decide) (fun hcd => ?_) (fun hcd => ?_)
    · have hf := hif.1 hcd
      clear hif
      exact J68 _ hf _ _ ls (lv_sub hl [] rfl) hw hS
    · have hf := hif.2 (fun q => q hcd)
      clear hif
      refine lv_aload_n hx hb dX6_readLine_62 rfl (lv_at hl 2 rfl) ?_
      refine lv_iload_n hx hb dX6_readLine_63 rfl (lv_at hl 3 rfl) ?_
      refine lv_iload_n hx hb dX6_readLine_64 rfl (lv_at hl 0 rfl) ?_
      obtain ⟨s_9, hc, hf⟩ := ok_bind hf
      refine z_cV hC hl.1 hw hS (As := [.int r_2, .int r_6]) (rest := []) (m_X3_addLine l E t1 hc) (sH t1).1 rfl gc97 gc98 ⟨Nat.le_of_ble_eq_true rfl, Nat.le_of_ble_eq_true rfl⟩ ⟨Nat.le_of_ble_eq_true rfl, Nat.le_of_ble_eq_true rfl⟩ rfl rfl (Nat.le_of_ble_eq_true rfl) dX6_readLine_65 (fun H locs hw hS => ?_)
      clear hc
      exact J68 _ hf _ _ ls (lv_sub hl [] rfl) hw hS
  clear ej33
  have hif := ok_if hf
  refine lv_if_ne (tgt := 20) hx hb dX6_readLine_9 (by decide) (fun hcd => ?_) (fun hcd => ?_)
  · have hf := hif.1 hcd
    clear hif
    refine lv_aload_n hx hb dX6_readLine_20 rfl (lv_at hl 2 rfl) ?_
    refine gHouse_lines hC hw t1 wd258 dX6_readLine_21 ?_
    refine lv_iconst (v := 4) hx hb dX6_readLine_24 (by decide) ?_
    have hif := ok_if hf
    refine lv_icmp_lt (tgt := 33) hx hb dX6_readLine_25 (by decide) (fun hcd => ?_) (fun hcd => ?_)
    · have hf := hif.1 hcd
      clear hif
      exact J33 _ hf _ _ ls (lv_sub hl [1, 2, 0] rfl) hw hS
    · have hf := hif.2 hcd
      clear hif
      refine lv_aload_n hx hb dX6_readLine_28 rfl (lv_at hl 1 rfl) ?_
      refine lv_iconst (v := 3) hx hb dX6_readLine_29 (by decide) ?_
      obtain ⟨s_10, hc, hf⟩ := ok_bind hf
      refine z_cV hC hl.1 hw hS (As := [.int (3 : Int32)]) (rest := []) (m_X6_fail l E  hc) rfl rfl gc89 gc90 ⟨Nat.le_of_ble_eq_true rfl, Nat.le_of_ble_eq_true rfl⟩ ⟨Nat.le_of_ble_eq_true rfl, Nat.le_of_ble_eq_true rfl⟩ rfl rfl (Nat.le_of_ble_eq_true rfl) dX6_readLine_30 (fun H locs hw hS => ?_)
      clear hc
      exact J33 _ hf _ _ ls (lv_sub hl [1, 2, 0] rfl) hw hS
  · have hf := hif.2 (fun q => q hcd)
    clear hif
    refine lv_aload_n hx hb dX6_readLine_12 rfl (lv_at hl 1 rfl) ?_
    refine lv_iconst (v := 1) hx hb dX6_readLine_13 (by decide) ?_
    obtain ⟨s_11, hc, hf⟩ := ok_bind hf
    refine z_cV hC hl.1 hw hS (As := [.int (1 : Int32)]) (rest := []) (m_X6_fail l E  hc) rfl rfl gc89 gc90 ⟨Nat.le_of_ble_eq_true rfl, Nat.le_of_ble_eq_true rfl⟩ ⟨Nat.le_of_ble_eq_true rfl, Nat.le_of_ble_eq_true rfl⟩ rfl rfl (Nat.le_of_ble_eq_true rfl) dX6_readLine_14 (fun H locs hw hS => ?_)
    clear hc
    refine lv_goto (tgt := 33) hx hb dX6_readLine_17 (by decide) ?_
    exact J33 _ hf _ _ ls (lv_sub hl [1, 2, 0] rfl) hw hS
set_option maxHeartbeats 4000000 in
set_option maxRecDepth 100000 in
theorem m_X6_readThing (l : Launch) (E : Ev) {a1 : Nat} (t1 : isH a1) {s0 sz : St} (hf : f_X6_readThing a1 s0 = some sz) : MM l E sh2 yX6_readThing cX6_readThing 5 none (rmd 5) [.ref (E.2.2.1 2), .ref (E.2.2.1 a1)] s0 none sz := by
  unfold f_X6_readThing at hf
  refine z_enter (by decide +kernel) (Nat.le_of_ble_eq_true rfl) ?_
  intro p e s m args below meth c ls hC hr hlocks hw hS hl
  have hC : Cx p s m args c cX6_readThing 5 "FuseBox$Reader" E := hC
  obtain ⟨hx, hb, hml, hown, hts, hTB⟩ := id hC
  have hl : lv_has ls 5 [(0, .ref (E.2.2.1 2)), (1, .ref (E.2.2.1 a1))] := hl
  refine lv_aload_n hx hb dX6_readThing_0 rfl (lv_at hl 0 rfl) ?_
  refine gReader_token hC hw wd220 dX6_readThing_1 ?_
  refine lv_bipush (v := 116) hx hb dX6_readThing_4 (by decide) ?_
  obtain ⟨j23, ej23, hf⟩ := ok_lt hf
  have J23 : ∀ (s_1 : St), j23 s_1 = some sz → ∀ (H : Heap) (locs : List Loc) (ls : Array Slot), lv_has ls 5 [(0, .ref (E.2.2.1 2)), (1, .ref (E.2.2.1 a1))] → World E sh2 s_1 H → va_S E.2.2.2 s.heap H locs → W p l e (rmd 5) s m args below meth c H locs 0 0 (MQ below (QW E sh2 none sz) args s 0 0 E.2.2.2) (F0 m 23 ls []) := by
    intro s_1 hf H locs ls hl hw hS
    subst ej23
    refine lv_aload_n hx hb dX6_readThing_23 rfl (lv_at hl 0 rfl) ?_
    refine lv_bipush (v := 116) hx hb dX6_readThing_24 (by decide) ?_
    obtain ⟨s_2, hc, hf⟩ := ok_bind hf
    refine z_cV hC hl.1 hw hS (As := [.int (116 : Int32)]) (rest := []) (m_X6_take l E  hc) rfl rfl gc91 gc92 ⟨Nat.le_of_ble_eq_true rfl, Nat.le_of_ble_eq_true rfl⟩ ⟨Nat.le_of_ble_eq_true rfl, Nat.le_of_ble_eq_true rfl⟩ rfl rfl (Nat.le_of_ble_eq_true rfl) dX6_readThing_26 (fun H locs hw hS => ?_)
    clear hc
    refine lv_aload_n hx hb dX6_readThing_29 rfl (lv_at hl 0 rfl) ?_
    refine lv_iconst (v := 0) hx hb dX6_readThing_30 (by decide) ?_
    refine lv_aload_n hx hb dX6_readThing_31 rfl (lv_at hl 1 rfl) ?_
    refine gHouse_lines hC hw t1 wd258 dX6_readThing_32 ?_
    refine lv_iconst (v := 1) hx hb dX6_readThing_35 (by decide) ?_
    refine lv_isub hx hb dX6_readThing_36 ?_
    obtain ⟨r_4, s_3, hc, hf⟩ := ok_bd hf
    refine z_cV hC hl.1 hw hS (As := [.int (0 : Int32), .int ((s_2 a1 1) - (1 : Int32))]) (rest := []) (m_X6_takeNumber l E  hc) rfl rfl gc93 gc94 ⟨Nat.le_of_ble_eq_true rfl, Nat.le_of_ble_eq_true rfl⟩ ⟨Nat.le_of_ble_eq_true rfl, Nat.le_of_ble_eq_true rfl⟩ rfl rfl (Nat.le_of_ble_eq_true rfl) dX6_readThing_37 (fun H locs hw hS => ?_)
    clear hc
    refine lv_istore_n (lv' := [(2, .int r_4), (0, .ref (E.2.2.1 2)), (1, .ref (E.2.2.1 a1))]) hx hb dX6_readThing_40 rfl hl (by decide) rfl (fun ls hl => ?_)
    refine lv_aload_n hx hb dX6_readThing_41 rfl (lv_at hl 1 rfl) ?_
    refine lv_bipush (v := 44) hx hb dX6_readThing_42 (by decide) ?_
    obtain ⟨s_5, hc, hf⟩ := ok_bind hf
    refine z_cV hC hl.1 hw hS (As := [.int (44 : Int32)]) (rest := []) (m_X6_take l E  hc) rfl rfl gc91 gc92 ⟨Nat.le_of_ble_eq_true rfl, Nat.le_of_ble_eq_true rfl⟩ ⟨Nat.le_of_ble_eq_true rfl, Nat.le_of_ble_eq_true rfl⟩ rfl rfl (Nat.le_of_ble_eq_true rfl) dX6_readThing_44 (fun H locs hw hS => ?_)
    clear hc
    refine lv_aload_n hx hb dX6_readThing_47 rfl (lv_at hl 1 rfl) ?_
    refine lv_iconst (v := 1) hx hb dX6_readThing_48 (by decide) ?_
    refine lv_bipush (v := 20) hx hb dX6_readThing_49 (by decide) ?_
    obtain ⟨r_7, s_6, hc, hf⟩ := ok_bd hf
    refine z_cV hC hl.1 hw hS (As := [.int (1 : Int32), .int (20 : Int32)]) (rest := []) (m_X6_takeNumber l E  hc) rfl rfl gc93 gc94 ⟨Nat.le_of_ble_eq_true rfl, Nat.le_of_ble_eq_true rfl⟩ ⟨Nat.le_of_ble_eq_true rfl, Nat.le_of_ble_eq_true rfl⟩ rfl rfl (Nat.le_of_ble_eq_true rfl) dX6_readThing_51 (fun H locs hw hS => ?_)
    clear hc
    refine lv_istore_n (lv' := [(3, .int r_7), (2, .int r_4), (0, .ref (E.2.2.1 2)), (1, .ref (E.2.2.1 a1))]) hx hb dX6_readThing_54 rfl hl (by decide) rfl (fun ls hl => ?_)
    refine lv_aload_n hx hb dX6_readThing_55 rfl (lv_at hl 2 rfl) ?_
    refine lv_bipush (v := 44) hx hb dX6_readThing_56 (by decide) ?_
    obtain ⟨s_8, hc, hf⟩ := ok_bind hf
    refine z_cV hC hl.1 hw hS (As := [.int (44 : Int32)]) (rest := []) (m_X6_take l E  hc) rfl rfl gc91 gc92 ⟨Nat.le_of_ble_eq_true rfl, Nat.le_of_ble_eq_true rfl⟩ ⟨Nat.le_of_ble_eq_true rfl, Nat.le_of_ble_eq_true rfl⟩ rfl rfl (Nat.le_of_ble_eq_true rfl) dX6_readThing_58 (fun H locs hw hS => ?_)
    clear hc
    refine lv_aload_n hx hb dX6_readThing_61 rfl (lv_at hl 2 rfl) ?_
    refine lv_iconst (v := 0) hx hb dX6_readThing_62 (by decide) ?_
    refine lv_iconst (v := 1) hx hb dX6_readThing_63 (by decide) ?_
    obtain ⟨r_10, s_9, hc, hf⟩ := ok_bd hf
    refine z_cV hC hl.1 hw hS (As := [.int (0 : Int32), .int (1 : Int32)]) (rest := []) (m_X6_takeNumber l E  hc) rfl rfl gc93 gc94 ⟨Nat.le_of_ble_eq_true rfl, Nat.le_of_ble_eq_true rfl⟩ ⟨Nat.le_of_ble_eq_true rfl, Nat.le_of_ble_eq_true rfl⟩ rfl rfl (Nat.le_of_ble_eq_true rfl) dX6_readThing_64 (fun H locs hw hS => ?_)
    clear hc
    refine lv_istore (lv' := [(4, .int r_10), (3, .int r_7), (2, .int r_4), (0, .ref (E.2.2.1 2)), (1, .ref (E.2.2.1 a1))]) hx hb dX6_readThing_67 hl (by decide) rfl (fun ls hl => ?_)
    refine lv_aload_n hx hb dX6_readThing_69 rfl (lv_at hl 3 rfl) ?_
    refine lv_bipush (v := 59) hx hb dX6_readThing_70 (by decide) ?_
    obtain ⟨s_11, hc, hf⟩ := ok_bind hf
    refine z_cV hC hl.1 hw hS (As := [.int (59 : Int32)]) (rest := []) (m_X6_take l E  hc) rfl rfl gc91 gc92 ⟨Nat.le_of_ble_eq_true rfl, Nat.le_of_ble_eq_true rfl⟩ ⟨Nat.le_of_ble_eq_true rfl, Nat.le_of_ble_eq_true rfl⟩ rfl rfl (Nat.le_of_ble_eq_true rfl) dX6_readThing_72 (fun H locs hw hS => ?_)
    clear hc
    refine lv_aload_n hx hb dX6_readThing_75 rfl (lv_at hl 3 rfl) ?_
    refine gReader_fault hC hw wd233 dX6_readThing_76 ?_
    obtain ⟨j90, ej90, hf⟩ := ok_lt hf
    have J90 : ∀ (s_12 : St), j90 s_12 = some sz → ∀ (H : Heap) (locs : List Loc) (ls : Array Slot), lv_has ls 5 [] → World E sh2 s_12 H → va_S E.2.2.2 s.heap H locs → W p l e (rmd 5) s m args below meth c H locs 0 0 (MQ below (QW E sh2 none sz) args s 0 0 E.2.2.2) (F0 m 90 ls []) := by
      intro s_12 hf H locs ls hl hw hS
      subst ej90
      exact z_vretE hC hlocks hw hS hf hr dX6_readThing_90
    clear ej90
    have hif := ok_if hf
    refine lv_if_ne (tgt := 90) hx hb dX6_readThing_79 (by decide) (fun hcd => ?_) (fun hcd => ?_)
    · have hf := hif.1 hcd
      clear hif
      exact J90 _ hf _ _ ls (lv_sub hl [] rfl) hw hS
    · have hf := hif.2 (fun q => q hcd)
      clear hif
      refine lv_aload_n hx hb dX6_readThing_82 rfl (lv_at hl 4 rfl) ?_
      refine lv_iload_n hx hb dX6_readThing_83 rfl (lv_at hl 2 rfl) ?_
      refine lv_iload_n hx hb dX6_readThing_84 rfl (lv_at hl 1 rfl) ?_
      refine lv_iload hx hb dX6_readThing_85 (lv_at hl 0 rfl) ?_
      obtain ⟨s_13, hc, hf⟩ := ok_bind hf
      refine z_cV hC hl.1 hw hS (As := [.int r_4, .int r_7, .int r_10]) (rest := []) (m_X3_addThing l E t1 hc) (sH t1).1 rfl gc99 gc100 ⟨Nat.le_of_ble_eq_true rfl, Nat.le_of_ble_eq_true rfl⟩ ⟨Nat.le_of_ble_eq_true rfl, Nat.le_of_ble_eq_true rfl⟩ rfl rfl (Nat.le_of_ble_eq_true rfl) dX6_readThing_87 (fun H locs hw hS => ?_)
      clear hc
      exact J90 _ hf _ _ ls (lv_sub hl [] rfl) hw hS
  clear ej23
  have hif := ok_if hf
  refine lv_icmp_ne (tgt := 23) hx hb dX6_readThing_6 (by decide) (fun hcd => ?_) (fun hcd => ?_)
  · have hf := hif.1 hcd
    clear hif
    exact J23 _ hf _ _ ls hl hw hS
  · have hf := hif.2 (fun q => q hcd)
    clear hif
    refine lv_aload_n hx hb dX6_readThing_9 rfl (lv_at hl 1 rfl) ?_
    refine gHouse_things hC hw t1 wd263 dX6_readThing_10 ?_
    refine lv_bipush (v := 6) hx hb dX6_readThing_13 (by decide) ?_
    have hif := ok_if hf
    refine lv_icmp_lt (tgt := 23) hx hb dX6_readThing_15 (by decide) (fun hcd => ?_) (fun hcd => ?_)
    · have hf := hif.1 hcd
      clear hif
      exact J23 _ hf _ _ ls hl hw hS
    · have hf := hif.2 hcd
      clear hif
      refine lv_aload_n hx hb dX6_readThing_18 rfl (lv_at hl 0 rfl) ?_
      refine lv_iconst (v := 3) hx hb dX6_readThing_19 (by decide) ?_
      obtain ⟨s_14, hc, hf⟩ := ok_bind hf
      refine z_cV hC hl.1 hw hS (As := [.int (3 : Int32)]) (rest := []) (m_X6_fail l E  hc) rfl rfl gc89 gc90 ⟨Nat.le_of_ble_eq_true rfl, Nat.le_of_ble_eq_true rfl⟩ ⟨Nat.le_of_ble_eq_true rfl, Nat.le_of_ble_eq_true rfl⟩ rfl rfl (Nat.le_of_ble_eq_true rfl) dX6_readThing_20 (fun H locs hw hS => ?_)
      clear hc
      exact J23 _ hf _ _ ls hl hw hS
set_option maxHeartbeats 4000000 in
set_option maxRecDepth 100000 in
theorem m_X6_readInto (l : Launch) (E : Ev) {a1 : Nat} (t1 : isH a1) {s0 sz : St} {rz : Int32} (hf : f_X6_readInto a1 s0 = some (rz, sz)) : MM l E sh2 yX6_readInto cX6_readInto 3 (some .int) (rmd 6) [.ref (E.2.2.1 2), .ref (E.2.2.1 a1)] s0 (some (.int rz)) sz := by
  unfold f_X6_readInto at hf
  refine z_enter (by decide +kernel) (Nat.le_of_ble_eq_true rfl) ?_
  intro p e s m args below meth c ls hC hr hlocks hw hS hl
  have hC : Cx p s m args c cX6_readInto 3 "FuseBox$Reader" E := hC
  obtain ⟨hx, hb, hml, hown, hts, hTB⟩ := id hC
  have hl : lv_has ls 3 [(0, .ref (E.2.2.1 2)), (1, .ref (E.2.2.1 a1))] := hl
  refine lv_aload_n hx hb dX6_readInto_0 rfl (lv_at hl 0 rfl) ?_
  refine lv_iconst (v := 0) hx hb dX6_readInto_1 (by decide) ?_
  obtain ⟨s_1, en, hf⟩ := ok_lt hf
  refine pReader_fault hC hw hS wd233 en dX6_readInto_2 (fun H locs hw hS => ?_)
  clear en
  refine lv_aload_n hx hb dX6_readInto_5 rfl (lv_at hl 0 rfl) ?_
  refine lv_iconst (v := 0) hx hb dX6_readInto_6 (by decide) ?_
  obtain ⟨s_2, en, hf⟩ := ok_lt hf
  refine pReader_behind hC hw hS wd228 en dX6_readInto_7 (fun H locs hw hS => ?_)
  clear en
  refine lv_aload_n hx hb dX6_readInto_10 rfl (lv_at hl 1 rfl) ?_
  obtain ⟨s_3, hc, hf⟩ := ok_bind hf
  refine z_cV hC hl.1 hw hS (As := []) (rest := []) (m_X3_clear l E t1 hc) (sH t1).1 rfl gc101 gc102 ⟨Nat.le_of_ble_eq_true rfl, Nat.le_of_ble_eq_true rfl⟩ ⟨Nat.le_of_ble_eq_true rfl, Nat.le_of_ble_eq_true rfl⟩ rfl rfl (Nat.le_of_ble_eq_true rfl) dX6_readInto_11 (fun H locs hw hS => ?_)
  clear hc
  refine lv_aload_n hx hb dX6_readInto_14 rfl (lv_at hl 0 rfl) ?_
  obtain ⟨s_4, hc, hf⟩ := ok_bind hf
  refine z_cV hC hl.1 hw hS (As := []) (rest := []) (m_X6_readToken l E  hc) rfl rfl gc87 gc88 ⟨Nat.le_of_ble_eq_true rfl, Nat.le_of_ble_eq_true rfl⟩ ⟨Nat.le_of_ble_eq_true rfl, Nat.le_of_ble_eq_true rfl⟩ rfl rfl (Nat.le_of_ble_eq_true rfl) dX6_readInto_15 (fun H locs hw hS => ?_)
  clear hc
  refine lv_aload_n hx hb dX6_readInto_18 rfl (lv_at hl 0 rfl) ?_
  refine lv_aload_n hx hb dX6_readInto_19 rfl (lv_at hl 1 rfl) ?_
  obtain ⟨s_5, hc, hf⟩ := ok_bind hf
  refine z_cV hC hl.1 hw hS (As := [.ref (E.2.2.1 a1)]) (rest := []) (m_X6_readLaw l E t1 hc) rfl rfl gc103 gc104 ⟨Nat.le_of_ble_eq_true rfl, Nat.le_of_ble_eq_true rfl⟩ ⟨Nat.le_of_ble_eq_true rfl, Nat.le_of_ble_eq_true rfl⟩ rfl rfl (Nat.le_of_ble_eq_true rfl) dX6_readInto_20 (fun H locs hw hS => ?_)
  clear hc
  refine lv_aload_n hx hb dX6_readInto_23 rfl (lv_at hl 0 rfl) ?_
  refine lv_aload_n hx hb dX6_readInto_24 rfl (lv_at hl 1 rfl) ?_
  obtain ⟨s_6, hc, hf⟩ := ok_bind hf
  refine z_cV hC hl.1 hw hS (As := [.ref (E.2.2.1 a1)]) (rest := []) (m_X6_readLine l E t1 hc) rfl rfl gc105 gc106 ⟨Nat.le_of_ble_eq_true rfl, Nat.le_of_ble_eq_true rfl⟩ ⟨Nat.le_of_ble_eq_true rfl, Nat.le_of_ble_eq_true rfl⟩ rfl rfl (Nat.le_of_ble_eq_true rfl) dX6_readInto_25 (fun H locs hw hS => ?_)
  clear hc
  refine lv_iconst (v := 0) hx hb dX6_readInto_28 (by decide) ?_
  obtain ⟨v2_7, en, hf⟩ := ok_lt hf
  refine z_nm en ?_
  clear en
  refine lv_istore_n (lv' := [(2, .int v2_7), (0, .ref (E.2.2.1 2)), (1, .ref (E.2.2.1 a1))]) hx hb dX6_readInto_29 rfl hl (by decide) rfl (fun ls hl => ?_)
  obtain ⟨r30, hL30, hf⟩ := ok_bind hf
  have X30_0 : ∀ (s_10 : St), s_10 = r30 → ∀ (H : Heap) (locs : List Loc) (ls : Array Slot), lv_has ls 3 [(0, .ref (E.2.2.1 2)), (1, .ref (E.2.2.1 a1))] → World E sh2 s_10 H → va_S E.2.2.2 s.heap H locs → W p l e (rmd 6) s m args below meth c H locs 0 0 (MQ below (QW E sh2 (some (.int rz)) sz) args s 0 0 E.2.2.2) (F0 m 56 ls []) := by
    intro s_10 er H locs ls hl hw hS
    subst er
    replace hf := ok_un1 hf
    refine lv_aload_n hx hb dX6_readInto_56 rfl (lv_at hl 0 rfl) ?_
    refine lv_aload_n hx hb dX6_readInto_57 rfl (lv_at hl 1 rfl) ?_
    obtain ⟨s_11, hc, hf⟩ := ok_bind hf
    refine z_cV hC hl.1 hw hS (As := [.ref (E.2.2.1 a1)]) (rest := []) (m_X6_readThing l E t1 hc) rfl rfl gc107 gc108 ⟨Nat.le_of_ble_eq_true rfl, Nat.le_of_ble_eq_true rfl⟩ ⟨Nat.le_of_ble_eq_true rfl, Nat.le_of_ble_eq_true rfl⟩ rfl rfl (Nat.le_of_ble_eq_true rfl) dX6_readInto_58 (fun H locs hw hS => ?_)
    clear hc
    refine lv_iconst (v := 0) hx hb dX6_readInto_61 (by decide) ?_
    obtain ⟨v2_12, en, hf⟩ := ok_lt hf
    refine z_nm en ?_
    clear en
    refine lv_istore_n (lv' := [(2, .int v2_12), (0, .ref (E.2.2.1 2)), (1, .ref (E.2.2.1 a1))]) hx hb dX6_readInto_62 rfl hl (by decide) rfl (fun ls hl => ?_)
    obtain ⟨r63, hL63, hf⟩ := ok_bind hf
    have X63_0 : ∀ (s_15 : St), s_15 = r63 → ∀ (H : Heap) (locs : List Loc) (ls : Array Slot), lv_has ls 3 [(0, .ref (E.2.2.1 2))] → World E sh2 s_15 H → va_S E.2.2.2 s.heap H locs → W p l e (rmd 6) s m args below meth c H locs 0 0 (MQ below (QW E sh2 (some (.int rz)) sz) args s 0 0 E.2.2.2) (F0 m 89 ls []) := by
      intro s_15 er H locs ls hl hw hS
      subst er
      replace hf := ok_un1 hf
      refine lv_aload_n hx hb dX6_readInto_89 rfl (lv_at hl 0 rfl) ?_
      refine lv_sipush (v := 257) hx hb dX6_readInto_90 (by decide) ?_
      obtain ⟨s_16, hc, hf⟩ := ok_bind hf
      refine z_cV hC hl.1 hw hS (As := [.int (257 : Int32)]) (rest := []) (m_X6_take l E  hc) rfl rfl gc91 gc92 ⟨Nat.le_of_ble_eq_true rfl, Nat.le_of_ble_eq_true rfl⟩ ⟨Nat.le_of_ble_eq_true rfl, Nat.le_of_ble_eq_true rfl⟩ rfl rfl (Nat.le_of_ble_eq_true rfl) dX6_readInto_93 (fun H locs hw hS => ?_)
      clear hc
      refine lv_aload_n hx hb dX6_readInto_96 rfl (lv_at hl 0 rfl) ?_
      refine lv_iconst (v := 0) hx hb dX6_readInto_97 (by decide) ?_
      obtain ⟨s_17, en, hf⟩ := ok_lt hf
      refine pReader_size hC hw hS wd219 en dX6_readInto_98 (fun H locs hw hS => ?_)
      clear en
      refine lv_aload_n hx hb dX6_readInto_101 rfl (lv_at hl 0 rfl) ?_
      refine gReader_fault hC hw wd233 dX6_readInto_102 ?_
      exact z_iretE hC hlocks hw hS hf hr rfl dX6_readInto_105
    have L63 : ∀ (n : Nat) (v2_13 : Int32) (s_14 : St), loopF (f_X6_readInto_L63 a1) n (v2_13, s_14) = some r63 → ∀ (H : Heap) (locs : List Loc) (ls : Array Slot), lv_has ls 3 [(0, .ref (E.2.2.1 2)), (1, .ref (E.2.2.1 a1)), (2, .int v2_13)] → World E sh2 s_14 H → va_S E.2.2.2 s.heap H locs → W p l e (rmd 6) s m args below meth c H locs 0 0 (MQ below (QW E sh2 (some (.int rz)) sz) args s 0 0 E.2.2.2) (F0 m 63 ls []) := by
      intro n
      induction n with
      | zero =>
        intro v2_13 s_14 hf
        exact nz hf
      | succ n ih63 =>
        intro v2_13 s_14 hf H locs ls hl hw hS
        obtain ⟨xl63, hf, hi63, he63⟩ := ok_loop hf
        unfold f_X6_readInto_L63 at hf
        replace hf := ok_un2 hf
        refine lv_iload_n hx hb dX6_readInto_63 rfl (lv_at hl 2 rfl) ?_
        refine lv_bipush (v := 6) hx hb dX6_readInto_64 (by decide) ?_
        have hif := ok_if hf
        refine lv_icmp_ge (tgt := 89) hx hb dX6_readInto_66 (by decide) (fun hcd => ?_) (fun hcd => ?_)
        · have hf := hif.1 hcd
          clear hif
          cases hf
          exact X63_0 _ (he63 _ rfl) _ _ ls (lv_sub hl [0] rfl) hw hS
        · have hf := hif.2 hcd
          clear hif
          refine lv_aload_n hx hb dX6_readInto_69 rfl (lv_at hl 0 rfl) ?_
          refine gReader_token hC hw wd220 dX6_readInto_70 ?_
          refine lv_bipush (v := 116) hx hb dX6_readInto_73 (by decide) ?_
          have hif := ok_if hf
          refine lv_icmp_ne (tgt := 89) hx hb dX6_readInto_75 (by decide) (fun hcd => ?_) (fun hcd => ?_)
          · have hf := hif.1 hcd
            clear hif
            cases hf
            exact X63_0 _ (he63 _ rfl) _ _ ls (lv_sub hl [0] rfl) hw hS
          · have hf := hif.2 (fun q => q hcd)
            clear hif
            refine lv_aload_n hx hb dX6_readInto_78 rfl (lv_at hl 0 rfl) ?_
            refine lv_aload_n hx hb dX6_readInto_79 rfl (lv_at hl 1 rfl) ?_
            obtain ⟨s_18, hc, hf⟩ := ok_bind hf
            refine z_cV hC hl.1 hw hS (As := [.ref (E.2.2.1 a1)]) (rest := []) (m_X6_readThing l E t1 hc) rfl rfl gc107 gc108 ⟨Nat.le_of_ble_eq_true rfl, Nat.le_of_ble_eq_true rfl⟩ ⟨Nat.le_of_ble_eq_true rfl, Nat.le_of_ble_eq_true rfl⟩ rfl rfl (Nat.le_of_ble_eq_true rfl) dX6_readInto_80 (fun H locs hw hS => ?_)
            clear hc
            obtain ⟨v2_19, en, hf⟩ := ok_lt hf
            refine lv_iinc (v := v2_19) (lv' := [(2, .int v2_19), (0, .ref (E.2.2.1 2)), (1, .ref (E.2.2.1 a1))]) hx hb dX6_readInto_83 hl (k := 2) rfl (by rw [en]; rfl) (by decide) rfl (fun ls hl => ?_)
            clear en
            refine lv_goto (tgt := 63) hx hb dX6_readInto_86 (by decide) ?_
            cases hf
            exact ih63 _ _ (hi63 _ rfl) _ _ ls (lv_sub hl [1, 2, 0] rfl) hw hS
    exact L63 5000 _ _ hL63 _ _ ls (lv_sub hl [1, 2, 0] rfl) hw hS
  have L30 : ∀ (n : Nat) (v2_8 : Int32) (s_9 : St), loopF (f_X6_readInto_L30 a1) n (v2_8, s_9) = some r30 → ∀ (H : Heap) (locs : List Loc) (ls : Array Slot), lv_has ls 3 [(0, .ref (E.2.2.1 2)), (1, .ref (E.2.2.1 a1)), (2, .int v2_8)] → World E sh2 s_9 H → va_S E.2.2.2 s.heap H locs → W p l e (rmd 6) s m args below meth c H locs 0 0 (MQ below (QW E sh2 (some (.int rz)) sz) args s 0 0 E.2.2.2) (F0 m 30 ls []) := by
    intro n
    induction n with
    | zero =>
      intro v2_8 s_9 hf
      exact nz hf
    | succ n ih30 =>
      intro v2_8 s_9 hf H locs ls hl hw hS
      obtain ⟨xl30, hf, hi30, he30⟩ := ok_loop hf
      unfold f_X6_readInto_L30 at hf
      replace hf := ok_un2 hf
      refine lv_iload_n hx hb dX6_readInto_30 rfl (lv_at hl 2 rfl) ?_
      refine lv_iconst (v := 4) hx hb dX6_readInto_31 (by decide) ?_
      have hif := ok_if hf
      refine lv_icmp_ge (tgt := 56) hx hb dX6_readInto_32 (by decide) (fun hcd => ?_) (fun hcd => ?_)
      · have hf := hif.1 hcd
        clear hif
        cases hf
        exact X30_0 _ (he30 _ rfl) _ _ ls (lv_sub hl [0, 1] rfl) hw hS
      · have hf := hif.2 hcd
        clear hif
        refine lv_aload_n hx hb dX6_readInto_35 rfl (lv_at hl 0 rfl) ?_
        refine gReader_token hC hw wd220 dX6_readInto_36 ?_
        obtain ⟨r_21, s_20, hc, hf⟩ := ok_bd hf
        refine z_cS hC hl.1 hw hS (As := [.int (s_9 2 2)]) (rest := []) (m_X6_sortOf l E  hc) gc95 gc96 ⟨Nat.le_of_ble_eq_true rfl, Nat.le_of_ble_eq_true rfl⟩ ⟨Nat.le_of_ble_eq_true rfl, Nat.le_of_ble_eq_true rfl⟩ rfl rfl (Nat.le_of_ble_eq_true rfl) dX6_readInto_39 (fun H locs hw hS => ?_)
        clear hc
        have hif := ok_if hf
        refine lv_if_eq (tgt := 56) hx hb dX6_readInto_42 (by decide) (fun hcd => ?_) (fun hcd => ?_)
        · have hf := hif.1 hcd
          clear hif
          cases hf
          exact X30_0 _ (he30 _ rfl) _ _ ls (lv_sub hl [0, 1] rfl) hw hS
        · have hf := hif.2 hcd
          clear hif
          refine lv_aload_n hx hb dX6_readInto_45 rfl (lv_at hl 0 rfl) ?_
          refine lv_aload_n hx hb dX6_readInto_46 rfl (lv_at hl 1 rfl) ?_
          obtain ⟨s_22, hc, hf⟩ := ok_bind hf
          refine z_cV hC hl.1 hw hS (As := [.ref (E.2.2.1 a1)]) (rest := []) (m_X6_readLine l E t1 hc) rfl rfl gc105 gc106 ⟨Nat.le_of_ble_eq_true rfl, Nat.le_of_ble_eq_true rfl⟩ ⟨Nat.le_of_ble_eq_true rfl, Nat.le_of_ble_eq_true rfl⟩ rfl rfl (Nat.le_of_ble_eq_true rfl) dX6_readInto_47 (fun H locs hw hS => ?_)
          clear hc
          obtain ⟨v2_23, en, hf⟩ := ok_lt hf
          refine lv_iinc (v := v2_23) (lv' := [(2, .int v2_23), (0, .ref (E.2.2.1 2)), (1, .ref (E.2.2.1 a1))]) hx hb dX6_readInto_50 hl (k := 2) rfl (by rw [en]; rfl) (by decide) rfl (fun ls hl => ?_)
          clear en
          refine lv_goto (tgt := 30) hx hb dX6_readInto_53 (by decide) ?_
          cases hf
          exact ih30 _ _ (hi30 _ rfl) _ _ ls (lv_sub hl [1, 2, 0] rfl) hw hS
  exact L30 5000 _ _ hL30 _ _ ls (lv_sub hl [1, 2, 0] rfl) hw hS
