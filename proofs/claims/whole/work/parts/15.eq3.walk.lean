set_option maxHeartbeats 4000000 in
set_option maxRecDepth 100000 in
theorem m_X12_image (l : Launch) (E : Ev) {x1 : Int32}  {s0 sz : St} {rz : Int32} (hf : f_X12_image x1 s0 = some (rz, sz)) : MM l E sh2 yX12_image cX12_image 3 (some .int) (rmd 2) [.ref (E.2.2.1 259), .int x1] s0 (some (.int rz)) sz := by
  unfold f_X12_image at hf
  refine z_enter (by decide +kernel) (Nat.le_of_ble_eq_true rfl) ?_
  intro p e s m args below meth c ls hC hr hlocks hw hS hl
  have hC : Cx p s m args c cX12_image 3 "FuseBoxModel" E := hC
  obtain ⟨hx, hb, hml, hown, hts, hTB⟩ := id hC
  have hl : lv_has ls 3 [(0, .ref (E.2.2.1 259)), (1, .int x1)] := hl
  refine lv_iload_n hx hb dX12_image_0 rfl (lv_at hl 1 rfl) ?_
  refine lv_i2l (v := x1.toInt64) hx hb dX12_image_1 rfl ?_
  refine lv_lconst (v := 0) hx hb dX12_image_2 (by decide) ?_
  refine lv_lconst (v := 1) hx hb dX12_image_3 (by decide) ?_
  obtain ⟨r_2, s_1, hc, hf⟩ := ok_bd hf
  refine z_cS hC hl.1 hw hS (As := [.long (x1.toInt64), .long (0 : Int64), .long (1 : Int64)]) (rest := []) (m_X12_in l E  hc) gc219 gc220 ⟨Nat.le_of_ble_eq_true rfl, Nat.le_of_ble_eq_true rfl⟩ ⟨Nat.le_of_ble_eq_true rfl, Nat.le_of_ble_eq_true rfl⟩ rfl rfl (Nat.le_of_ble_eq_true rfl) dX12_image_4 (fun H locs hw hS => ?_)
  clear hc
  have hif := ok_if hf
  refine lv_if_ne (tgt := 13) hx hb dX12_image_7 (by decide) (fun hcd => ?_) (fun hcd => ?_)
  · have hf := hif.1 hcd
    clear hif
    refine lv_aload_n hx hb dX12_image_13 rfl (lv_at hl 0 rfl) ?_
    obtain ⟨r_4, s_3, hc, hf⟩ := ok_bd hf
    refine z_cV hC hl.1 hw hS (As := []) (rest := []) (m_X12_isHouse l E  hc) rfl rfl gc259 gc260 ⟨Nat.le_of_ble_eq_true rfl, Nat.le_of_ble_eq_true rfl⟩ ⟨Nat.le_of_ble_eq_true rfl, Nat.le_of_ble_eq_true rfl⟩ rfl rfl (Nat.le_of_ble_eq_true rfl) dX12_image_14 (fun H locs hw hS => ?_)
    clear hc
    have hif := ok_if hf
    refine lv_if_ne (tgt := 23) hx hb dX12_image_17 (by decide) (fun hcd => ?_) (fun hcd => ?_)
    · have hf := hif.1 hcd
      clear hif
      refine lv_aload_n hx hb dX12_image_23 rfl (lv_at hl 0 rfl) ?_
      refine lv_iconst (v := 0) hx hb dX12_image_24 (by decide) ?_
      refine lv_sipush (v := 675) hx hb dX12_image_25 (by decide) ?_
      refine lv_iload_n hx hb dX12_image_28 rfl (lv_at hl 1 rfl) ?_
      refine lv_bipush (v := 27) hx hb dX12_image_29 (by decide) ?_
      refine lv_imul hx hb dX12_image_31 ?_
      refine lv_iadd hx hb dX12_image_32 ?_
      obtain ⟨s_5, hc, hf⟩ := ok_bind hf
      refine z_cV hC hl.1 hw hS (As := [.int (0 : Int32), .int ((675 : Int32) + (x1 * (27 : Int32)))]) (rest := []) (m_X12_copies l E  hc) rfl rfl gc257 gc258 ⟨Nat.le_of_ble_eq_true rfl, Nat.le_of_ble_eq_true rfl⟩ ⟨Nat.le_of_ble_eq_true rfl, Nat.le_of_ble_eq_true rfl⟩ rfl rfl (Nat.le_of_ble_eq_true rfl) dX12_image_33 (fun H locs hw hS => ?_)
      clear hc
      refine lv_iconst (v := 0) hx hb dX12_image_36 (by decide) ?_
      obtain ⟨v2_6, en, hf⟩ := ok_lt hf
      refine z_nm en ?_
      clear en
      refine lv_istore_n (lv' := [(2, .int v2_6), (0, .ref (E.2.2.1 259)), (1, .int x1)]) hx hb dX12_image_37 rfl hl (by decide) rfl (fun ls hl => ?_)
      obtain ⟨r38, hL38, hf⟩ := ok_bind hf
      have X38_0 : ∀ (s_9 : St), s_9 = r38 → ∀ (H : Heap) (locs : List Loc) (ls : Array Slot), lv_has ls 3 [(0, .ref (E.2.2.1 259)), (1, .int x1)] → World E sh2 s_9 H → va_S E.2.2.2 s.heap H locs → W p l e (rmd 2) s m args below meth c H locs 0 0 (MQ below (QW E sh2 (some (.int rz)) sz) args s 0 0 E.2.2.2) (F0 m 69 ls []) := by
        intro s_9 er H locs ls hl hw hS
        subst er
        replace hf := ok_un1 hf
        refine lv_aload_n hx hb dX12_image_69 rfl (lv_at hl 0 rfl) ?_
        refine gModel_kept hC hw wd724 dX12_image_70 ?_
        refine lv_iload_n hx hb dX12_image_73 rfl (lv_at hl 1 rfl) ?_
        refine lv_iconst (v := 1) hx hb dX12_image_74 (by decide) ?_
        obtain ⟨hin, hf⟩ := ok_chk hf
        obtain ⟨s_10, en, hf⟩ := ok_lt hf
        refine z_iast hC hw hS rfl hin en dX12_image_75 (fun H locs hw hS => ?_)
        clear en
        refine lv_iconst (v := 1) hx hb dX12_image_76 (by decide) ?_
        exact z_iretE hC hlocks hw hS hf hr rfl dX12_image_77
      have L38 : ∀ (n : Nat) (v2_7 : Int32) (s_8 : St), loopF (f_X12_image_L38 x1) n (v2_7, s_8) = some r38 → ∀ (H : Heap) (locs : List Loc) (ls : Array Slot), lv_has ls 3 [(0, .ref (E.2.2.1 259)), (1, .int x1), (2, .int v2_7)] → World E sh2 s_8 H → va_S E.2.2.2 s.heap H locs → W p l e (rmd 2) s m args below meth c H locs 0 0 (MQ below (QW E sh2 (some (.int rz)) sz) args s 0 0 E.2.2.2) (F0 m 38 ls []) := by
        intro n
        induction n with
        | zero =>
          intro v2_7 s_8 hf
          exact nz hf
        | succ n ih38 =>
          intro v2_7 s_8 hf H locs ls hl hw hS
          obtain ⟨xl38, hf, hi38, he38⟩ := ok_loop hf
          unfold f_X12_image_L38 at hf
          replace hf := ok_un2 hf
          refine lv_iload_n hx hb dX12_image_38 rfl (lv_at hl 2 rfl) ?_
          refine lv_bipush (v := 13) hx hb dX12_image_39 (by decide) ?_
          have hif := ok_if hf
          refine lv_icmp_ge (tgt := 69) hx hb dX12_image_41 (by decide) (fun hcd => ?_) (fun hcd => ?_)
          · have hf := hif.1 hcd
            clear hif
            cases hf
            exact X38_0 _ (he38 _ rfl) _ _ ls (lv_sub hl [0, 1] rfl) hw hS
          · have hf := hif.2 hcd
            clear hif
            refine lv_aload_n hx hb dX12_image_44 rfl (lv_at hl 0 rfl) ?_
            refine gModel_told hC hw wd597 dX12_image_45 ?_
            refine lv_bipush (v := 13) hx hb dX12_image_48 (by decide) ?_
            refine lv_iload_n hx hb dX12_image_50 rfl (lv_at hl 1 rfl) ?_
            refine lv_iconst (v := 1) hx hb dX12_image_51 (by decide) ?_
            refine lv_iadd hx hb dX12_image_52 ?_
            refine lv_imul hx hb dX12_image_53 ?_
            refine lv_iload_n hx hb dX12_image_54 rfl (lv_at hl 2 rfl) ?_
            refine lv_iadd hx hb dX12_image_55 ?_
            refine lv_aload_n hx hb dX12_image_56 rfl (lv_at hl 0 rfl) ?_
            refine gModel_told hC hw wd597 dX12_image_57 ?_
            refine lv_iload_n hx hb dX12_image_60 rfl (lv_at hl 2 rfl) ?_
            obtain ⟨hin, hf⟩ := ok_chk hf
            refine z_iald hC hw rfl hin dX12_image_61 ?_
            obtain ⟨hin, hf⟩ := ok_chk hf
            obtain ⟨s_11, en, hf⟩ := ok_lt hf
            refine z_iast hC hw hS rfl hin en dX12_image_62 (fun H locs hw hS => ?_)
            clear en
            obtain ⟨v2_12, en, hf⟩ := ok_lt hf
            refine lv_iinc (v := v2_12) (lv' := [(2, .int v2_12), (0, .ref (E.2.2.1 259)), (1, .int x1)]) hx hb dX12_image_63 hl (k := 2) rfl (by rw [en]; rfl) (by decide) rfl (fun ls hl => ?_)
            clear en
            refine lv_goto (tgt := 38) hx hb dX12_image_66 (by decide) ?_
            cases hf
            exact ih38 _ _ (hi38 _ rfl) _ _ ls (lv_sub hl [1, 2, 0] rfl) hw hS
      exact L38 5000 _ _ hL38 _ _ ls (lv_sub hl [1, 2, 0] rfl) hw hS
    · have hf := hif.2 (fun q => q hcd)
      clear hif
      refine lv_ldc (v := -1000002) hx hb hown (hts _ wd650) dX12_image_20 ?_
      exact z_iretE hC hlocks hw hS hf hr rfl dX12_image_22
  · have hf := hif.2 (fun q => q hcd)
    clear hif
    refine lv_ldc (v := -1000001) hx hb hown (hts _ wd535) dX12_image_10 ?_
    exact z_iretE hC hlocks hw hS hf hr rfl dX12_image_12
set_option maxHeartbeats 4000000 in
set_option maxRecDepth 100000 in
theorem m_X12_restore (l : Launch) (E : Ev) {x1 : Int32}  {s0 sz : St} {rz : Int32} (hf : f_X12_restore x1 s0 = some (rz, sz)) : MM l E sh2 yX12_restore cX12_restore 3 (some .int) (rmd 2) [.ref (E.2.2.1 259), .int x1] s0 (some (.int rz)) sz := by
  unfold f_X12_restore at hf
  refine z_enter (by decide +kernel) (Nat.le_of_ble_eq_true rfl) ?_
  intro p e s m args below meth c ls hC hr hlocks hw hS hl
  have hC : Cx p s m args c cX12_restore 3 "FuseBoxModel" E := hC
  obtain ⟨hx, hb, hml, hown, hts, hTB⟩ := id hC
  have hl : lv_has ls 3 [(0, .ref (E.2.2.1 259)), (1, .int x1)] := hl
  refine lv_iload_n hx hb dX12_restore_0 rfl (lv_at hl 1 rfl) ?_
  refine lv_i2l (v := x1.toInt64) hx hb dX12_restore_1 rfl ?_
  refine lv_lconst (v := 0) hx hb dX12_restore_2 (by decide) ?_
  refine lv_lconst (v := 1) hx hb dX12_restore_3 (by decide) ?_
  obtain ⟨r_2, s_1, hc, hf⟩ := ok_bd hf
  refine z_cS hC hl.1 hw hS (As := [.long (x1.toInt64), .long (0 : Int64), .long (1 : Int64)]) (rest := []) (m_X12_in l E  hc) gc219 gc220 ⟨Nat.le_of_ble_eq_true rfl, Nat.le_of_ble_eq_true rfl⟩ ⟨Nat.le_of_ble_eq_true rfl, Nat.le_of_ble_eq_true rfl⟩ rfl rfl (Nat.le_of_ble_eq_true rfl) dX12_restore_4 (fun H locs hw hS => ?_)
  clear hc
  have hif := ok_if hf
  refine lv_if_ne (tgt := 13) hx hb dX12_restore_7 (by decide) (fun hcd => ?_) (fun hcd => ?_)
  · have hf := hif.1 hcd
    clear hif
    refine lv_aload_n hx hb dX12_restore_13 rfl (lv_at hl 0 rfl) ?_
    refine gModel_kept hC hw wd724 dX12_restore_14 ?_
    refine lv_iload_n hx hb dX12_restore_17 rfl (lv_at hl 1 rfl) ?_
    obtain ⟨hin, hf⟩ := ok_chk hf
    refine z_iald hC hw rfl hin dX12_restore_18 ?_
    have hif := ok_if hf
    refine lv_if_ne (tgt := 25) hx hb dX12_restore_19 (by decide) (fun hcd => ?_) (fun hcd => ?_)
    · have hf := hif.1 hcd
      clear hif
      refine lv_aload_n hx hb dX12_restore_25 rfl (lv_at hl 0 rfl) ?_
      refine lv_sipush (v := 675) hx hb dX12_restore_26 (by decide) ?_
      refine lv_iload_n hx hb dX12_restore_29 rfl (lv_at hl 1 rfl) ?_
      refine lv_bipush (v := 27) hx hb dX12_restore_30 (by decide) ?_
      refine lv_imul hx hb dX12_restore_32 ?_
      refine lv_iadd hx hb dX12_restore_33 ?_
      refine lv_iconst (v := 0) hx hb dX12_restore_34 (by decide) ?_
      obtain ⟨s_3, hc, hf⟩ := ok_bind hf
      refine z_cV hC hl.1 hw hS (As := [.int ((675 : Int32) + (x1 * (27 : Int32))), .int (0 : Int32)]) (rest := []) (m_X12_copies l E  hc) rfl rfl gc257 gc258 ⟨Nat.le_of_ble_eq_true rfl, Nat.le_of_ble_eq_true rfl⟩ ⟨Nat.le_of_ble_eq_true rfl, Nat.le_of_ble_eq_true rfl⟩ rfl rfl (Nat.le_of_ble_eq_true rfl) dX12_restore_35 (fun H locs hw hS => ?_)
      clear hc
      refine lv_iconst (v := 0) hx hb dX12_restore_38 (by decide) ?_
      obtain ⟨v2_4, en, hf⟩ := ok_lt hf
      refine z_nm en ?_
      clear en
      refine lv_istore_n (lv' := [(2, .int v2_4), (0, .ref (E.2.2.1 259)), (1, .int x1)]) hx hb dX12_restore_39 rfl hl (by decide) rfl (fun ls hl => ?_)
      obtain ⟨r40, hL40, hf⟩ := ok_bind hf
      have X40_0 : ∀ (s_7 : St), s_7 = r40 → ∀ (H : Heap) (locs : List Loc) (ls : Array Slot), lv_has ls 3 [(0, .ref (E.2.2.1 259))] → World E sh2 s_7 H → va_S E.2.2.2 s.heap H locs → W p l e (rmd 2) s m args below meth c H locs 0 0 (MQ below (QW E sh2 (some (.int rz)) sz) args s 0 0 E.2.2.2) (F0 m 71 ls []) := by
        intro s_7 er H locs ls hl hw hS
        subst er
        replace hf := ok_un1 hf
        refine lv_aload_n hx hb dX12_restore_71 rfl (lv_at hl 0 rfl) ?_
        refine lv_iconst (v := 0) hx hb dX12_restore_72 (by decide) ?_
        obtain ⟨s_8, en, hf⟩ := ok_lt hf
        refine pModel_acts hC hw hS wd596 en dX12_restore_73 (fun H locs hw hS => ?_)
        clear en
        refine lv_iconst (v := 1) hx hb dX12_restore_76 (by decide) ?_
        exact z_iretE hC hlocks hw hS hf hr rfl dX12_restore_77
      have L40 : ∀ (n : Nat) (v2_5 : Int32) (s_6 : St), loopF (f_X12_restore_L40 x1) n (v2_5, s_6) = some r40 → ∀ (H : Heap) (locs : List Loc) (ls : Array Slot), lv_has ls 3 [(0, .ref (E.2.2.1 259)), (1, .int x1), (2, .int v2_5)] → World E sh2 s_6 H → va_S E.2.2.2 s.heap H locs → W p l e (rmd 2) s m args below meth c H locs 0 0 (MQ below (QW E sh2 (some (.int rz)) sz) args s 0 0 E.2.2.2) (F0 m 40 ls []) := by
        intro n
        induction n with
        | zero =>
          intro v2_5 s_6 hf
          exact nz hf
        | succ n ih40 =>
          intro v2_5 s_6 hf H locs ls hl hw hS
          obtain ⟨xl40, hf, hi40, he40⟩ := ok_loop hf
          unfold f_X12_restore_L40 at hf
          replace hf := ok_un2 hf
          refine lv_iload_n hx hb dX12_restore_40 rfl (lv_at hl 2 rfl) ?_
          refine lv_bipush (v := 13) hx hb dX12_restore_41 (by decide) ?_
          have hif := ok_if hf
          refine lv_icmp_ge (tgt := 71) hx hb dX12_restore_43 (by decide) (fun hcd => ?_) (fun hcd => ?_)
          · have hf := hif.1 hcd
            clear hif
            cases hf
            exact X40_0 _ (he40 _ rfl) _ _ ls (lv_sub hl [0] rfl) hw hS
          · have hf := hif.2 hcd
            clear hif
            refine lv_aload_n hx hb dX12_restore_46 rfl (lv_at hl 0 rfl) ?_
            refine gModel_told hC hw wd597 dX12_restore_47 ?_
            refine lv_iload_n hx hb dX12_restore_50 rfl (lv_at hl 2 rfl) ?_
            refine lv_aload_n hx hb dX12_restore_51 rfl (lv_at hl 0 rfl) ?_
            refine gModel_told hC hw wd597 dX12_restore_52 ?_
            refine lv_bipush (v := 13) hx hb dX12_restore_55 (by decide) ?_
            refine lv_iload_n hx hb dX12_restore_57 rfl (lv_at hl 1 rfl) ?_
            refine lv_iconst (v := 1) hx hb dX12_restore_58 (by decide) ?_
            refine lv_iadd hx hb dX12_restore_59 ?_
            refine lv_imul hx hb dX12_restore_60 ?_
            refine lv_iload_n hx hb dX12_restore_61 rfl (lv_at hl 2 rfl) ?_
            refine lv_iadd hx hb dX12_restore_62 ?_
            obtain ⟨hin, hf⟩ := ok_chk hf
            refine z_iald hC hw rfl hin dX12_restore_63 ?_
            obtain ⟨hin, hf⟩ := ok_chk hf
            obtain ⟨s_9, en, hf⟩ := ok_lt hf
            refine z_iast hC hw hS rfl hin en dX12_restore_64 (fun H locs hw hS => ?_)
            clear en
            obtain ⟨v2_10, en, hf⟩ := ok_lt hf
            refine lv_iinc (v := v2_10) (lv' := [(2, .int v2_10), (0, .ref (E.2.2.1 259)), (1, .int x1)]) hx hb dX12_restore_65 hl (k := 2) rfl (by rw [en]; rfl) (by decide) rfl (fun ls hl => ?_)
            clear en
            refine lv_goto (tgt := 40) hx hb dX12_restore_68 (by decide) ?_
            cases hf
            exact ih40 _ _ (hi40 _ rfl) _ _ ls (lv_sub hl [1, 2, 0] rfl) hw hS
      exact L40 5000 _ _ hL40 _ _ ls (lv_sub hl [1, 2, 0] rfl) hw hS
    · have hf := hif.2 (fun q => q hcd)
      clear hif
      refine lv_ldc (v := -1000002) hx hb hown (hts _ wd650) dX12_restore_22 ?_
      exact z_iretE hC hlocks hw hS hf hr rfl dX12_restore_24
  · have hf := hif.2 (fun q => q hcd)
    clear hif
    refine lv_ldc (v := -1000001) hx hb hown (hts _ wd535) dX12_restore_10 ?_
    exact z_iretE hC hlocks hw hS hf hr rfl dX12_restore_12
set_option maxHeartbeats 4000000 in
set_option maxRecDepth 100000 in
theorem m_X12_kind (l : Launch) (E : Ev) {x1 : Int32}  {s0 sz : St} {rz : Int32} (hf : f_X12_kind x1 s0 = some (rz, sz)) : MM l E sh2 yX12_kind cX12_kind 2 (some .int) (rmd 3) [.ref (E.2.2.1 259), .int x1] s0 (some (.int rz)) sz := by
  unfold f_X12_kind at hf
  refine z_enter (by decide +kernel) (Nat.le_of_ble_eq_true rfl) ?_
  intro p e s m args below meth c ls hC hr hlocks hw hS hl
  have hC : Cx p s m args c cX12_kind 2 "FuseBoxModel" E := hC
  obtain ⟨hx, hb, hml, hown, hts, hTB⟩ := id hC
  have hl : lv_has ls 2 [(0, .ref (E.2.2.1 259)), (1, .int x1)] := hl
  refine lv_aload_n hx hb dX12_kind_0 rfl (lv_at hl 0 rfl) ?_
  refine lv_iload_n hx hb dX12_kind_1 rfl (lv_at hl 1 rfl) ?_
  obtain ⟨r_2, s_1, hc, hf⟩ := ok_bd hf
  refine z_cV hC hl.1 hw hS (As := [.int x1]) (rest := []) (m_X12_isLine l E  hc) rfl rfl gc269 gc270 ⟨Nat.le_of_ble_eq_true rfl, Nat.le_of_ble_eq_true rfl⟩ ⟨Nat.le_of_ble_eq_true rfl, Nat.le_of_ble_eq_true rfl⟩ rfl rfl (Nat.le_of_ble_eq_true rfl) dX12_kind_2 (fun H locs hw hS => ?_)
  clear hc
  obtain ⟨j21, ej21, hf⟩ := ok_lt hf
  have J21 : ∀ (k_3 : Int32) (s_4 : St), j21 k_3 s_4 = some (rz, sz) → ∀ (H : Heap) (locs : List Loc) (ls : Array Slot), lv_has ls 2 [] → World E sh2 s_4 H → va_S E.2.2.2 s.heap H locs → W p l e (rmd 3) s m args below meth c H locs 0 0 (MQ below (QW E sh2 (some (.int rz)) sz) args s 0 0 E.2.2.2) (F0 m 21 ls [.int k_3]) := by
    intro k_3 s_4 hf H locs ls hl hw hS
    subst ej21
    exact z_iretE hC hlocks hw hS hf hr rfl dX12_kind_21
  clear ej21
  have hif := ok_if hf
  refine lv_if_eq (tgt := 19) hx hb dX12_kind_5 (by decide) (fun hcd => ?_) (fun hcd => ?_)
  · have hf := hif.1 hcd
    clear hif
    refine lv_ldc (v := -1000001) hx hb hown (hts _ wd535) dX12_kind_19 ?_
    exact J21 _ _ hf _ _ ls (lv_sub hl [] rfl) hw hS
  · have hf := hif.2 hcd
    clear hif
    refine lv_aload_n hx hb dX12_kind_8 rfl (lv_at hl 0 rfl) ?_
    refine gModel_told hC hw wd597 dX12_kind_9 ?_
    refine lv_iconst (v := 3) hx hb dX12_kind_12 (by decide) ?_
    refine lv_iload_n hx hb dX12_kind_13 rfl (lv_at hl 1 rfl) ?_
    refine lv_iadd hx hb dX12_kind_14 ?_
    obtain ⟨hin, hf⟩ := ok_chk hf
    refine z_iald hC hw rfl hin dX12_kind_15 ?_
    refine lv_goto (tgt := 21) hx hb dX12_kind_16 (by decide) ?_
    exact J21 _ _ hf _ _ ls (lv_sub hl [] rfl) hw hS
set_option maxHeartbeats 4000000 in
set_option maxRecDepth 100000 in
theorem m_X12_as (l : Launch) (E : Ev) {x1 : Int32} {x2 : Int32}  {s0 sz : St} {rz : Int32} (hf : f_X12_as x1 x2 s0 = some (rz, sz)) : MM l E sh2 yX12_as cX12_as 5 (some .int) (rmd 3) [.ref (E.2.2.1 259), .int x1, .int x2] s0 (some (.int rz)) sz := by
  unfold f_X12_as at hf
  refine z_enter (by decide +kernel) (Nat.le_of_ble_eq_true rfl) ?_
  intro p e s m args below meth c ls hC hr hlocks hw hS hl
  have hC : Cx p s m args c cX12_as 5 "FuseBoxModel" E := hC
  obtain ⟨hx, hb, hml, hown, hts, hTB⟩ := id hC
  have hl : lv_has ls 5 [(0, .ref (E.2.2.1 259)), (1, .int x1), (2, .int x2)] := hl
  refine lv_aload_n hx hb dX12_as_0 rfl (lv_at hl 0 rfl) ?_
  refine lv_iload_n hx hb dX12_as_1 rfl (lv_at hl 1 rfl) ?_
  obtain ⟨r_2, s_1, hc, hf⟩ := ok_bd hf
  refine z_cV hC hl.1 hw hS (As := [.int x1]) (rest := []) (m_X12_isLine l E  hc) rfl rfl gc269 gc270 ⟨Nat.le_of_ble_eq_true rfl, Nat.le_of_ble_eq_true rfl⟩ ⟨Nat.le_of_ble_eq_true rfl, Nat.le_of_ble_eq_true rfl⟩ rfl rfl (Nat.le_of_ble_eq_true rfl) dX12_as_2 (fun H locs hw hS => ?_)
  clear hc
  obtain ⟨j20, ej20, hf⟩ := ok_lt hf
  have J20 : ∀ (s_3 : St), j20 s_3 = some (rz, sz) → ∀ (H : Heap) (locs : List Loc) (ls : Array Slot), lv_has ls 5 [] → World E sh2 s_3 H → va_S E.2.2.2 s.heap H locs → W p l e (rmd 3) s m args below meth c H locs 0 0 (MQ below (QW E sh2 (some (.int rz)) sz) args s 0 0 E.2.2.2) (F0 m 20 ls []) := by
    intro s_3 hf H locs ls hl hw hS
    subst ej20
    refine lv_ldc (v := -1000001) hx hb hown (hts _ wd535) dX12_as_20 ?_
    exact z_iretE hC hlocks hw hS hf hr rfl dX12_as_22
  clear ej20
  have hif := ok_if hf
  refine lv_if_eq (tgt := 20) hx hb dX12_as_5 (by decide) (fun hcd => ?_) (fun hcd => ?_)
  · have hf := hif.1 hcd
    clear hif
    exact J20 _ hf _ _ ls (lv_sub hl [] rfl) hw hS
  · have hf := hif.2 hcd
    clear hif
    refine lv_iload_n hx hb dX12_as_8 rfl (lv_at hl 2 rfl) ?_
    refine lv_i2l (v := x2.toInt64) hx hb dX12_as_9 rfl ?_
    refine lv_lconst (v := 0) hx hb dX12_as_10 (by decide) ?_
    refine lv_ldc2 (v := 5) hx hb hown (hts _ wd672) dX12_as_11 ?_
    obtain ⟨r_5, s_4, hc, hf⟩ := ok_bd hf
    refine z_cS hC hl.1 hw hS (As := [.long (x2.toInt64), .long (0 : Int64), .long (5 : Int64)]) (rest := []) (m_X12_in l E  hc) gc219 gc220 ⟨Nat.le_of_ble_eq_true rfl, Nat.le_of_ble_eq_true rfl⟩ ⟨Nat.le_of_ble_eq_true rfl, Nat.le_of_ble_eq_true rfl⟩ rfl rfl (Nat.le_of_ble_eq_true rfl) dX12_as_14 (fun H locs hw hS => ?_)
    clear hc
    have hif := ok_if hf
    refine lv_if_ne (tgt := 23) hx hb dX12_as_17 (by decide) (fun hcd => ?_) (fun hcd => ?_)
    · have hf := hif.1 hcd
      clear hif
      refine lv_aload_n hx hb dX12_as_23 rfl (lv_at hl 0 rfl) ?_
      refine gModel_told hC hw wd597 dX12_as_24 ?_
      refine lv_iconst (v := 3) hx hb dX12_as_27 (by decide) ?_
      refine lv_iload_n hx hb dX12_as_28 rfl (lv_at hl 1 rfl) ?_
      refine lv_iadd hx hb dX12_as_29 ?_
      obtain ⟨hin, hf⟩ := ok_chk hf
      refine z_iald hC hw rfl hin dX12_as_30 ?_
      obtain ⟨v3_6, en, hf⟩ := ok_lt hf
      refine z_nm en ?_
      clear en
      refine lv_istore_n (lv' := [(3, .int v3_6), (0, .ref (E.2.2.1 259)), (1, .int x1), (2, .int x2)]) hx hb dX12_as_31 rfl hl (by decide) rfl (fun ls hl => ?_)
      refine lv_iload_n hx hb dX12_as_32 rfl (lv_at hl 3 rfl) ?_
      obtain ⟨j71, ej71, hf⟩ := ok_lt hf
      have J71 : ∀ (k_7 : Int32) (s_8 : St), j71 k_7 s_8 = some (rz, sz) → ∀ (H : Heap) (locs : List Loc) (ls : Array Slot), lv_has ls 5 [(0, .ref (E.2.2.1 259)), (1, .int x1)] → World E sh2 s_8 H → va_S E.2.2.2 s.heap H locs → W p l e (rmd 3) s m args below meth c H locs 0 0 (MQ below (QW E sh2 (some (.int rz)) sz) args s 0 0 E.2.2.2) (F0 m 71 ls [.int k_7]) := by
        intro k_7 s_8 hf H locs ls hl hw hS
        subst ej71
        refine lv_istore (lv' := [(4, .int k_7), (0, .ref (E.2.2.1 259)), (1, .int x1)]) hx hb dX12_as_71 hl (by decide) rfl (fun ls hl => ?_)
        refine lv_iload hx hb dX12_as_73 (lv_at hl 0 rfl) ?_
        obtain ⟨j91, ej91, hf⟩ := ok_lt hf
        have J91 : ∀ (k_9 : Int32) (s_10 : St), j91 k_9 s_10 = some (rz, sz) → ∀ (H : Heap) (locs : List Loc) (ls : Array Slot), lv_has ls 5 [] → World E sh2 s_10 H → va_S E.2.2.2 s.heap H locs → W p l e (rmd 3) s m args below meth c H locs 0 0 (MQ below (QW E sh2 (some (.int rz)) sz) args s 0 0 E.2.2.2) (F0 m 91 ls [.int k_9]) := by
          intro k_9 s_10 hf H locs ls hl hw hS
          subst ej91
          exact z_iretE hC hlocks hw hS hf hr rfl dX12_as_91
        clear ej91
        have hif := ok_if hf
        refine lv_if_eq (tgt := 86) hx hb dX12_as_75 (by decide) (fun hcd => ?_) (fun hcd => ?_)
        · have hf := hif.1 hcd
          clear hif
          refine lv_aload_n hx hb dX12_as_86 rfl (lv_at hl 1 rfl) ?_
          refine lv_iconst (v := 3) hx hb dX12_as_87 (by decide) ?_
          obtain ⟨r_12, s_11, hc, hf⟩ := ok_bd hf
          refine z_cV hC hl.1 hw hS (As := [.int (3 : Int32)]) (rest := []) (m_X12_finds l E  hc) rfl rfl gc223 gc224 ⟨Nat.le_of_ble_eq_true rfl, Nat.le_of_ble_eq_true rfl⟩ ⟨Nat.le_of_ble_eq_true rfl, Nat.le_of_ble_eq_true rfl⟩ rfl rfl (Nat.le_of_ble_eq_true rfl) dX12_as_88 (fun H locs hw hS => ?_)
          clear hc
          exact J91 _ _ hf _ _ ls (lv_sub hl [] rfl) hw hS
        · have hf := hif.2 hcd
          clear hif
          refine lv_aload_n hx hb dX12_as_78 rfl (lv_at hl 1 rfl) ?_
          refine lv_iload_n hx hb dX12_as_79 rfl (lv_at hl 2 rfl) ?_
          obtain ⟨r_14, s_13, hc, hf⟩ := ok_bd hf
          refine z_cV hC hl.1 hw hS (As := [.int x1]) (rest := []) (m_X12_fine l E  hc) rfl rfl gc221 gc222 ⟨Nat.le_of_ble_eq_true rfl, Nat.le_of_ble_eq_true rfl⟩ ⟨Nat.le_of_ble_eq_true rfl, Nat.le_of_ble_eq_true rfl⟩ rfl rfl (Nat.le_of_ble_eq_true rfl) dX12_as_80 (fun H locs hw hS => ?_)
          clear hc
          refine lv_goto (tgt := 91) hx hb dX12_as_83 (by decide) ?_
          exact J91 _ _ hf _ _ ls (lv_sub hl [] rfl) hw hS
      clear ej71
      obtain ⟨j66, ej66, hf⟩ := ok_lt hf
      have J66 : ∀ (s_15 : St), j66 s_15 = some (rz, sz) → ∀ (H : Heap) (locs : List Loc) (ls : Array Slot), lv_has ls 5 [(0, .ref (E.2.2.1 259)), (1, .int x1)] → World E sh2 s_15 H → va_S E.2.2.2 s.heap H locs → W p l e (rmd 3) s m args below meth c H locs 0 0 (MQ below (QW E sh2 (some (.int rz)) sz) args s 0 0 E.2.2.2) (F0 m 66 ls []) := by
        intro s_15 hf H locs ls hl hw hS
        subst ej66
        refine lv_iconst (v := 1) hx hb dX12_as_66 (by decide) ?_
        refine lv_goto (tgt := 71) hx hb dX12_as_67 (by decide) ?_
        exact J71 _ _ hf _ _ ls hl hw hS
      clear ej66
      have hif := ok_if hf
      refine lv_if_eq (tgt := 66) hx hb dX12_as_33 (by decide) (fun hcd => ?_) (fun hcd => ?_)
      · have hf := hif.1 hcd
        clear hif
        exact J66 _ hf _ _ ls (lv_sub hl [1, 2] rfl) hw hS
      · have hf := hif.2 hcd
        clear hif
        refine lv_iload_n hx hb dX12_as_36 rfl (lv_at hl 3 rfl) ?_
        refine lv_iload_n hx hb dX12_as_37 rfl (lv_at hl 0 rfl) ?_
        have hif := ok_if hf
        refine lv_icmp_eq (tgt := 66) hx hb dX12_as_38 (by decide) (fun hcd => ?_) (fun hcd => ?_)
        · have hf := hif.1 hcd
          clear hif
          exact J66 _ hf _ _ ls (lv_sub hl [1, 2] rfl) hw hS
        · have hf := hif.2 hcd
          clear hif
          refine lv_iload_n hx hb dX12_as_41 rfl (lv_at hl 3 rfl) ?_
          refine lv_iconst (v := 1) hx hb dX12_as_42 (by decide) ?_
          obtain ⟨j56, ej56, hf⟩ := ok_lt hf
          have J56 : ∀ (s_16 : St), j56 s_16 = some (rz, sz) → ∀ (H : Heap) (locs : List Loc) (ls : Array Slot), lv_has ls 5 [(0, .ref (E.2.2.1 259)), (1, .int x1), (2, .int x2), (3, .int v3_6)] → World E sh2 s_16 H → va_S E.2.2.2 s.heap H locs → W p l e (rmd 3) s m args below meth c H locs 0 0 (MQ below (QW E sh2 (some (.int rz)) sz) args s 0 0 E.2.2.2) (F0 m 56 ls []) := by
            intro s_16 hf H locs ls hl hw hS
            subst ej56
            refine lv_iload_n hx hb dX12_as_56 rfl (lv_at hl 2 rfl) ?_
            refine lv_iconst (v := 4) hx hb dX12_as_57 (by decide) ?_
            obtain ⟨j70, ej70, hf⟩ := ok_lt hf
            have J70 : ∀ (s_17 : St), j70 s_17 = some (rz, sz) → ∀ (H : Heap) (locs : List Loc) (ls : Array Slot), lv_has ls 5 [(0, .ref (E.2.2.1 259)), (1, .int x1)] → World E sh2 s_17 H → va_S E.2.2.2 s.heap H locs → W p l e (rmd 3) s m args below meth c H locs 0 0 (MQ below (QW E sh2 (some (.int rz)) sz) args s 0 0 E.2.2.2) (F0 m 70 ls []) := by
              intro s_17 hf H locs ls hl hw hS
              subst ej70
              refine lv_iconst (v := 0) hx hb dX12_as_70 (by decide) ?_
              exact J71 _ _ hf _ _ ls hl hw hS
            clear ej70
            have hif := ok_if hf
            refine lv_icmp_ne (tgt := 70) hx hb dX12_as_58 (by decide) (fun hcd => ?_) (fun hcd => ?_)
            · have hf := hif.1 hcd
              clear hif
              exact J70 _ hf _ _ ls (lv_sub hl [0, 1] rfl) hw hS
            · have hf := hif.2 (fun q => q hcd)
              clear hif
              refine lv_iload_n hx hb dX12_as_61 rfl (lv_at hl 3 rfl) ?_
              refine lv_iconst (v := 5) hx hb dX12_as_62 (by decide) ?_
              have hif := ok_if hf
              refine lv_icmp_ne (tgt := 70) hx hb dX12_as_63 (by decide) (fun hcd => ?_) (fun hcd => ?_)
              · have hf := hif.1 hcd
                clear hif
                exact J70 _ hf _ _ ls (lv_sub hl [0, 1] rfl) hw hS
              · have hf := hif.2 (fun q => q hcd)
                clear hif
                exact J66 _ hf _ _ ls (lv_sub hl [0, 1] rfl) hw hS
          clear ej56
          have hif := ok_if hf
          refine lv_icmp_ne (tgt := 56) hx hb dX12_as_43 (by decide) (fun hcd => ?_) (fun hcd => ?_)
          · have hf := hif.1 hcd
            clear hif
            exact J56 _ hf _ _ ls (lv_sub hl [1, 2, 3, 0] rfl) hw hS
          · have hf := hif.2 (fun q => q hcd)
            clear hif
            refine lv_iload_n hx hb dX12_as_46 rfl (lv_at hl 0 rfl) ?_
            refine lv_iconst (v := 2) hx hb dX12_as_47 (by decide) ?_
            have hif := ok_if hf
            refine lv_icmp_eq (tgt := 66) hx hb dX12_as_48 (by decide) (fun hcd => ?_) (fun hcd => ?_)
            · have hf := hif.1 hcd
              clear hif
              exact J66 _ hf _ _ ls (lv_sub hl [1, 2] rfl) hw hS
            · have hf := hif.2 hcd
              clear hif
              refine lv_iload_n hx hb dX12_as_51 rfl (lv_at hl 0 rfl) ?_
              refine lv_iconst (v := 3) hx hb dX12_as_52 (by decide) ?_
              have hif := ok_if hf
              refine lv_icmp_eq (tgt := 66) hx hb dX12_as_53 (by decide) (fun hcd => ?_) (fun hcd => ?_)
              · have hf := hif.1 hcd
                clear hif
                exact J66 _ hf _ _ ls (lv_sub hl [1, 2] rfl) hw hS
              · have hf := hif.2 hcd
                clear hif
                exact J56 _ hf _ _ ls (lv_sub hl [1, 2, 3, 0] rfl) hw hS
    · have hf := hif.2 (fun q => q hcd)
      clear hif
      exact J20 _ hf _ _ ls (lv_sub hl [] rfl) hw hS
set_option maxHeartbeats 4000000 in
set_option maxRecDepth 100000 in
theorem m_X12_leaves (l : Launch) (E : Ev) {x1 : Int32}  {s0 sz : St} (hf : f_X12_leaves x1 s0 = some sz) : MM l E sh2 yX12_leaves cX12_leaves 2 none (rmd 1) [.ref (E.2.2.1 259), .int x1] s0 none sz := by
  unfold f_X12_leaves at hf
  refine z_enter (by decide +kernel) (Nat.le_of_ble_eq_true rfl) ?_
  intro p e s m args below meth c ls hC hr hlocks hw hS hl
  have hC : Cx p s m args c cX12_leaves 2 "FuseBoxModel" E := hC
  obtain ⟨hx, hb, hml, hown, hts, hTB⟩ := id hC
  have hl : lv_has ls 2 [(0, .ref (E.2.2.1 259)), (1, .int x1)] := hl
  refine lv_aload_n hx hb dX12_leaves_0 rfl (lv_at hl 0 rfl) ?_
  refine gModel_traces hC hw wd725 dX12_leaves_1 ?_
  refine lv_bipush (v := 16) hx hb dX12_leaves_4 (by decide) ?_
  obtain ⟨j29, ej29, hf⟩ := ok_lt hf
  have J29 : ∀ (s_1 : St), j29 s_1 = some sz → ∀ (H : Heap) (locs : List Loc) (ls : Array Slot), lv_has ls 2 [] → World E sh2 s_1 H → va_S E.2.2.2 s.heap H locs → W p l e (rmd 1) s m args below meth c H locs 0 0 (MQ below (QW E sh2 none sz) args s 0 0 E.2.2.2) (F0 m 29 ls []) := by
    intro s_1 hf H locs ls hl hw hS
    subst ej29
    exact z_vretE hC hlocks hw hS hf hr dX12_leaves_29
  clear ej29
  have hif := ok_if hf
  refine lv_icmp_ge (tgt := 29) hx hb dX12_leaves_6 (by decide) (fun hcd => ?_) (fun hcd => ?_)
  · have hf := hif.1 hcd
    clear hif
    exact J29 _ hf _ _ ls (lv_sub hl [] rfl) hw hS
  · have hf := hif.2 hcd
    clear hif
    refine lv_aload_n hx hb dX12_leaves_9 rfl (lv_at hl 0 rfl) ?_
    refine gModel_traced hC hw wd726 dX12_leaves_10 ?_
    refine lv_aload_n hx hb dX12_leaves_13 rfl (lv_at hl 0 rfl) ?_
    refine gModel_traces hC hw wd725 dX12_leaves_14 ?_
    refine lv_iload_n hx hb dX12_leaves_17 rfl (lv_at hl 1 rfl) ?_
    obtain ⟨hin, hf⟩ := ok_chk hf
    obtain ⟨s_2, en, hf⟩ := ok_lt hf
    refine z_iast hC hw hS rfl hin en dX12_leaves_18 (fun H locs hw hS => ?_)
    clear en
    refine lv_aload_n hx hb dX12_leaves_19 rfl (lv_at hl 0 rfl) ?_
    refine lv_dup hx hb dX12_leaves_20 rfl ?_
    refine gModel_traces hC hw wd725 dX12_leaves_21 ?_
    refine lv_iconst (v := 1) hx hb dX12_leaves_24 (by decide) ?_
    refine lv_iadd hx hb dX12_leaves_25 ?_
    obtain ⟨s_3, en, hf⟩ := ok_lt hf
    refine pModel_traces hC hw hS wd725 en dX12_leaves_26 (fun H locs hw hS => ?_)
    clear en
    exact J29 _ hf _ _ ls (lv_sub hl [] rfl) hw hS
set_option maxHeartbeats 4000000 in
set_option maxRecDepth 100000 in
theorem m_X12_lent (l : Launch) (E : Ev) {x1 : Int32} {x2 : Int32}  {s0 sz : St} {rz : Int32} (hf : f_X12_lent x1 x2 s0 = some (rz, sz)) : MM l E sh2 yX12_lent cX12_lent 3 (some .int) (rmd 2) [.ref (E.2.2.1 259), .int x1, .int x2] s0 (some (.int rz)) sz := by
  unfold f_X12_lent at hf
  refine z_enter (by decide +kernel) (Nat.le_of_ble_eq_true rfl) ?_
  intro p e s m args below meth c ls hC hr hlocks hw hS hl
  have hC : Cx p s m args c cX12_lent 3 "FuseBoxModel" E := hC
  obtain ⟨hx, hb, hml, hown, hts, hTB⟩ := id hC
  have hl : lv_has ls 3 [(0, .ref (E.2.2.1 259)), (1, .int x1), (2, .int x2)] := hl
  refine lv_aload_n hx hb dX12_lent_0 rfl (lv_at hl 0 rfl) ?_
  refine lv_iload_n hx hb dX12_lent_1 rfl (lv_at hl 2 rfl) ?_
  obtain ⟨j12, ej12, hf⟩ := ok_lt hf
  have J12 : ∀ (k_1 : Int32) (s_2 : St), j12 k_1 s_2 = some (rz, sz) → ∀ (H : Heap) (locs : List Loc) (ls : Array Slot), lv_has ls 3 [(0, .ref (E.2.2.1 259)), (1, .int x1), (2, .int x2)] → World E sh2 s_2 H → va_S E.2.2.2 s.heap H locs → W p l e (rmd 2) s m args below meth c H locs 0 0 (MQ below (QW E sh2 (some (.int rz)) sz) args s 0 0 E.2.2.2) (F0 m 12 ls [.int k_1, .ref (E.2.2.1 259)]) := by
    intro k_1 s_2 hf H locs ls hl hw hS
    subst ej12
    obtain ⟨s_3, hc, hf⟩ := ok_bind hf
    refine z_cV hC hl.1 hw hS (As := [.int k_1]) (rest := []) (m_X12_leaves l E  hc) rfl rfl gc295 gc296 ⟨Nat.le_of_ble_eq_true rfl, Nat.le_of_ble_eq_true rfl⟩ ⟨Nat.le_of_ble_eq_true rfl, Nat.le_of_ble_eq_true rfl⟩ rfl rfl (Nat.le_of_ble_eq_true rfl) dX12_lent_12 (fun H locs hw hS => ?_)
    clear hc
    refine lv_iload_n hx hb dX12_lent_15 rfl (lv_at hl 2 rfl) ?_
    obtain ⟨j32, ej32, hf⟩ := ok_lt hf
    have J32 : ∀ (k_4 : Int32) (s_5 : St), j32 k_4 s_5 = some (rz, sz) → ∀ (H : Heap) (locs : List Loc) (ls : Array Slot), lv_has ls 3 [] → World E sh2 s_5 H → va_S E.2.2.2 s.heap H locs → W p l e (rmd 2) s m args below meth c H locs 0 0 (MQ below (QW E sh2 (some (.int rz)) sz) args s 0 0 E.2.2.2) (F0 m 32 ls [.int k_4]) := by
      intro k_4 s_5 hf H locs ls hl hw hS
      subst ej32
      exact z_iretE hC hlocks hw hS hf hr rfl dX12_lent_32
    clear ej32
    have hif := ok_if hf
    refine lv_if_eq (tgt := 23) hx hb dX12_lent_16 (by decide) (fun hcd => ?_) (fun hcd => ?_)
    · have hf := hif.1 hcd
      clear hif
      refine lv_aload_n hx hb dX12_lent_23 rfl (lv_at hl 0 rfl) ?_
      refine gModel_slot hC hw wd598 dX12_lent_24 ?_
      refine lv_bipush (v := 8) hx hb dX12_lent_27 (by decide) ?_
      refine lv_iload_n hx hb dX12_lent_29 rfl (lv_at hl 1 rfl) ?_
      refine lv_iadd hx hb dX12_lent_30 ?_
      obtain ⟨hin, hf⟩ := ok_chk hf
      refine z_iald hC hw rfl hin dX12_lent_31 ?_
      exact J32 _ _ hf _ _ ls (lv_sub hl [] rfl) hw hS
    · have hf := hif.2 hcd
      clear hif
      refine lv_iload_n hx hb dX12_lent_19 rfl (lv_at hl 1 rfl) ?_
      refine lv_goto (tgt := 32) hx hb dX12_lent_20 (by decide) ?_
      exact J32 _ _ hf _ _ ls (lv_sub hl [] rfl) hw hS
  clear ej12
  have hif := ok_if hf
  refine lv_if_eq (tgt := 10) hx hb dX12_lent_2 (by decide) (fun hcd => ?_) (fun hcd => ?_)
  · have hf := hif.1 hcd
    clear hif
    refine lv_bipush (v := 10) hx hb dX12_lent_10 (by decide) ?_
    exact J12 _ _ hf _ _ ls hl hw hS
  · have hf := hif.2 hcd
    clear hif
    refine lv_bipush (v := 20) hx hb dX12_lent_5 (by decide) ?_
    refine lv_goto (tgt := 12) hx hb dX12_lent_7 (by decide) ?_
    exact J12 _ _ hf _ _ ls hl hw hS
set_option maxHeartbeats 4000000 in
set_option maxRecDepth 100000 in
theorem m_X12_wireMark (l : Launch) (E : Ev) {x1 : Int32} {x2 : Int32}  {s0 sz : St} {rz : Int32} (hf : f_X12_wireMark x1 x2 s0 = some (rz, sz)) : MM l E sh2 yX12_wireMark cX12_wireMark 4 (some .int) (rmd 3) [.ref (E.2.2.1 259), .int x1, .int x2] s0 (some (.int rz)) sz := by
  unfold f_X12_wireMark at hf
  refine z_enter (by decide +kernel) (Nat.le_of_ble_eq_true rfl) ?_
  intro p e s m args below meth c ls hC hr hlocks hw hS hl
  have hC : Cx p s m args c cX12_wireMark 4 "FuseBoxModel" E := hC
  obtain ⟨hx, hb, hml, hown, hts, hTB⟩ := id hC
  have hl : lv_has ls 4 [(0, .ref (E.2.2.1 259)), (1, .int x1), (2, .int x2)] := hl
  refine lv_iload_n hx hb dX12_wireMark_0 rfl (lv_at hl 2 rfl) ?_
  refine lv_iconst (v := 1) hx hb dX12_wireMark_1 (by decide) ?_
  obtain ⟨j21, ej21, hf⟩ := ok_lt hf
  have J21 : ∀ (s_1 : St), j21 s_1 = some (rz, sz) → ∀ (H : Heap) (locs : List Loc) (ls : Array Slot), lv_has ls 4 [(0, .ref (E.2.2.1 259)), (1, .int x1), (2, .int x2)] → World E sh2 s_1 H → va_S E.2.2.2 s.heap H locs → W p l e (rmd 3) s m args below meth c H locs 0 0 (MQ below (QW E sh2 (some (.int rz)) sz) args s 0 0 E.2.2.2) (F0 m 21 ls []) := by
    intro s_1 hf H locs ls hl hw hS
    subst ej21
    refine lv_aload_n hx hb dX12_wireMark_21 rfl (lv_at hl 0 rfl) ?_
    refine lv_bipush (v := 21) hx hb dX12_wireMark_22 (by decide) ?_
    obtain ⟨s_2, hc, hf⟩ := ok_bind hf
    refine z_cV hC hl.1 hw hS (As := [.int (21 : Int32)]) (rest := []) (m_X12_leaves l E  hc) rfl rfl gc295 gc296 ⟨Nat.le_of_ble_eq_true rfl, Nat.le_of_ble_eq_true rfl⟩ ⟨Nat.le_of_ble_eq_true rfl, Nat.le_of_ble_eq_true rfl⟩ rfl rfl (Nat.le_of_ble_eq_true rfl) dX12_wireMark_24 (fun H locs hw hS => ?_)
    clear hc
    refine lv_aload_n hx hb dX12_wireMark_27 rfl (lv_at hl 0 rfl) ?_
    refine lv_iload_n hx hb dX12_wireMark_28 rfl (lv_at hl 1 rfl) ?_
    refine lv_iconst (v := 1) hx hb dX12_wireMark_29 (by decide) ?_
    obtain ⟨r_4, s_3, hc, hf⟩ := ok_bd hf
    refine z_cV hC hl.1 hw hS (As := [.int x1, .int (1 : Int32)]) (rest := []) (m_X12_lent l E  hc) rfl rfl gc297 gc298 ⟨Nat.le_of_ble_eq_true rfl, Nat.le_of_ble_eq_true rfl⟩ ⟨Nat.le_of_ble_eq_true rfl, Nat.le_of_ble_eq_true rfl⟩ rfl rfl (Nat.le_of_ble_eq_true rfl) dX12_wireMark_30 (fun H locs hw hS => ?_)
    clear hc
    refine lv_aload_n hx hb dX12_wireMark_33 rfl (lv_at hl 0 rfl) ?_
    refine gModel_slot hC hw wd598 dX12_wireMark_34 ?_
    refine lv_iload_n hx hb dX12_wireMark_37 rfl (lv_at hl 1 rfl) ?_
    obtain ⟨hin, hf⟩ := ok_chk hf
    refine z_iald hC hw rfl hin dX12_wireMark_38 ?_
    refine lv_iadd hx hb dX12_wireMark_39 ?_
    obtain ⟨v3_5, en, hf⟩ := ok_lt hf
    refine z_nm en ?_
    clear en
    refine lv_istore_n (lv' := [(3, .int v3_5), (0, .ref (E.2.2.1 259)), (1, .int x1), (2, .int x2)]) hx hb dX12_wireMark_40 rfl hl (by decide) rfl (fun ls hl => ?_)
    refine lv_iload_n hx hb dX12_wireMark_41 rfl (lv_at hl 3 rfl) ?_
    refine lv_iconst (v := 1) hx hb dX12_wireMark_42 (by decide) ?_
    obtain ⟨j66, ej66, hf⟩ := ok_lt hf
    have J66 : ∀ (k_6 : Int32) (s_7 : St), j66 k_6 s_7 = some (rz, sz) → ∀ (H : Heap) (locs : List Loc) (ls : Array Slot), lv_has ls 4 [] → World E sh2 s_7 H → va_S E.2.2.2 s.heap H locs → W p l e (rmd 3) s m args below meth c H locs 0 0 (MQ below (QW E sh2 (some (.int rz)) sz) args s 0 0 E.2.2.2) (F0 m 66 ls [.int k_6]) := by
      intro k_6 s_7 hf H locs ls hl hw hS
      subst ej66
      exact z_iretE hC hlocks hw hS hf hr rfl dX12_wireMark_66
    clear ej66
    have hif := ok_if hf
    refine lv_icmp_ne (tgt := 50) hx hb dX12_wireMark_43 (by decide) (fun hcd => ?_) (fun hcd => ?_)
    · have hf := hif.1 hcd
      clear hif
      refine lv_iload_n hx hb dX12_wireMark_50 rfl (lv_at hl 3 rfl) ?_
      refine lv_iconst (v := 2) hx hb dX12_wireMark_51 (by decide) ?_
      have hif := ok_if hf
      refine lv_icmp_ne (tgt := 61) hx hb dX12_wireMark_52 (by decide) (fun hcd => ?_) (fun hcd => ?_)
      · have hf := hif.1 hcd
        clear hif
        refine lv_iload_n hx hb dX12_wireMark_61 rfl (lv_at hl 0 rfl) ?_
        refine lv_sipush (v := 1000) hx hb dX12_wireMark_62 (by decide) ?_
        refine lv_isub hx hb dX12_wireMark_65 ?_
        exact J66 _ _ hf _ _ ls (lv_sub hl [] rfl) hw hS
      · have hf := hif.2 (fun q => q hcd)
        clear hif
        refine lv_iconst (v := 2) hx hb dX12_wireMark_55 (by decide) ?_
        refine lv_iload_n hx hb dX12_wireMark_56 rfl (lv_at hl 0 rfl) ?_
        refine lv_imul hx hb dX12_wireMark_57 ?_
        refine lv_goto (tgt := 66) hx hb dX12_wireMark_58 (by decide) ?_
        exact J66 _ _ hf _ _ ls (lv_sub hl [] rfl) hw hS
    · have hf := hif.2 (fun q => q hcd)
      clear hif
      refine lv_iload_n hx hb dX12_wireMark_46 rfl (lv_at hl 0 rfl) ?_
      refine lv_goto (tgt := 66) hx hb dX12_wireMark_47 (by decide) ?_
      exact J66 _ _ hf _ _ ls (lv_sub hl [] rfl) hw hS
  clear ej21
  have hif := ok_if hf
  refine lv_icmp_le (tgt := 21) hx hb dX12_wireMark_2 (by decide) (fun hcd => ?_) (fun hcd => ?_)
  · have hf := hif.1 hcd
    clear hif
    exact J21 _ hf _ _ ls hl hw hS
  · have hf := hif.2 hcd
    clear hif
    refine lv_aload_n hx hb dX12_wireMark_5 rfl (lv_at hl 0 rfl) ?_
    refine lv_iload_n hx hb dX12_wireMark_6 rfl (lv_at hl 2 rfl) ?_
    refine lv_iconst (v := 2) hx hb dX12_wireMark_7 (by decide) ?_
    obtain ⟨j18, ej18, hf⟩ := ok_lt hf
    have J18 : ∀ (k_8 : Int32) (s_9 : St), j18 k_8 s_9 = some (rz, sz) → ∀ (H : Heap) (locs : List Loc) (ls : Array Slot), lv_has ls 4 [(0, .ref (E.2.2.1 259)), (1, .int x1), (2, .int x2)] → World E sh2 s_9 H → va_S E.2.2.2 s.heap H locs → W p l e (rmd 3) s m args below meth c H locs 0 0 (MQ below (QW E sh2 (some (.int rz)) sz) args s 0 0 E.2.2.2) (F0 m 18 ls [.int k_8, .ref (E.2.2.1 259)]) := by
      intro k_8 s_9 hf H locs ls hl hw hS
      subst ej18
      obtain ⟨s_10, hc, hf⟩ := ok_bind hf
      refine z_cV hC hl.1 hw hS (As := [.int k_8]) (rest := []) (m_X12_leaves l E  hc) rfl rfl gc295 gc296 ⟨Nat.le_of_ble_eq_true rfl, Nat.le_of_ble_eq_true rfl⟩ ⟨Nat.le_of_ble_eq_true rfl, Nat.le_of_ble_eq_true rfl⟩ rfl rfl (Nat.le_of_ble_eq_true rfl) dX12_wireMark_18 (fun H locs hw hS => ?_)
      clear hc
      exact J21 _ hf _ _ ls hl hw hS
    clear ej18
    have hif := ok_if hf
    refine lv_icmp_ne (tgt := 16) hx hb dX12_wireMark_8 (by decide) (fun hcd => ?_) (fun hcd => ?_)
    · have hf := hif.1 hcd
      clear hif
      refine lv_bipush (v := 22) hx hb dX12_wireMark_16 (by decide) ?_
      exact J18 _ _ hf _ _ ls hl hw hS
    · have hf := hif.2 (fun q => q hcd)
      clear hif
      refine lv_bipush (v := 24) hx hb dX12_wireMark_11 (by decide) ?_
      refine lv_goto (tgt := 18) hx hb dX12_wireMark_13 (by decide) ?_
      exact J18 _ _ hf _ _ ls hl hw hS
set_option maxHeartbeats 4000000 in
set_option maxRecDepth 100000 in
theorem m_X12_wireSize (l : Launch) (E : Ev) {x1 : Int32} {x2 : Int32}  {s0 sz : St} {rz : Int32} (hf : f_X12_wireSize x1 x2 s0 = some (rz, sz)) : MM l E sh2 yX12_wireSize cX12_wireSize 4 (some .int) (rmd 4) [.ref (E.2.2.1 259), .int x1, .int x2] s0 (some (.int rz)) sz := by
  unfold f_X12_wireSize at hf
  refine z_enter (by decide +kernel) (Nat.le_of_ble_eq_true rfl) ?_
  intro p e s m args below meth c ls hC hr hlocks hw hS hl
  have hC : Cx p s m args c cX12_wireSize 4 "FuseBoxModel" E := hC
  obtain ⟨hx, hb, hml, hown, hts, hTB⟩ := id hC
  have hl : lv_has ls 4 [(0, .ref (E.2.2.1 259)), (1, .int x1), (2, .int x2)] := hl
  refine lv_iload_n hx hb dX12_wireSize_0 rfl (lv_at hl 2 rfl) ?_
  refine lv_iconst (v := 2) hx hb dX12_wireSize_1 (by decide) ?_
  obtain ⟨j11, ej11, hf⟩ := ok_lt hf
  have J11 : ∀ (s_1 : St), j11 s_1 = some (rz, sz) → ∀ (H : Heap) (locs : List Loc) (ls : Array Slot), lv_has ls 4 [(0, .ref (E.2.2.1 259)), (1, .int x1), (2, .int x2)] → World E sh2 s_1 H → va_S E.2.2.2 s.heap H locs → W p l e (rmd 4) s m args below meth c H locs 0 0 (MQ below (QW E sh2 (some (.int rz)) sz) args s 0 0 E.2.2.2) (F0 m 11 ls []) := by
    intro s_1 hf H locs ls hl hw hS
    subst ej11
    refine lv_aload_n hx hb dX12_wireSize_11 rfl (lv_at hl 0 rfl) ?_
    refine lv_bipush (v := 11) hx hb dX12_wireSize_12 (by decide) ?_
    obtain ⟨s_2, hc, hf⟩ := ok_bind hf
    refine z_cV hC hl.1 hw hS (As := [.int (11 : Int32)]) (rest := []) (m_X12_leaves l E  hc) rfl rfl gc295 gc296 ⟨Nat.le_of_ble_eq_true rfl, Nat.le_of_ble_eq_true rfl⟩ ⟨Nat.le_of_ble_eq_true rfl, Nat.le_of_ble_eq_true rfl⟩ rfl rfl (Nat.le_of_ble_eq_true rfl) dX12_wireSize_14 (fun H locs hw hS => ?_)
    clear hc
    refine lv_aload_n hx hb dX12_wireSize_17 rfl (lv_at hl 0 rfl) ?_
    refine lv_iload_n hx hb dX12_wireSize_18 rfl (lv_at hl 1 rfl) ?_
    refine lv_iconst (v := 0) hx hb dX12_wireSize_19 (by decide) ?_
    obtain ⟨r_4, s_3, hc, hf⟩ := ok_bd hf
    refine z_cV hC hl.1 hw hS (As := [.int x1, .int (0 : Int32)]) (rest := []) (m_X12_lent l E  hc) rfl rfl gc297 gc298 ⟨Nat.le_of_ble_eq_true rfl, Nat.le_of_ble_eq_true rfl⟩ ⟨Nat.le_of_ble_eq_true rfl, Nat.le_of_ble_eq_true rfl⟩ rfl rfl (Nat.le_of_ble_eq_true rfl) dX12_wireSize_20 (fun H locs hw hS => ?_)
    clear hc
    refine lv_aload_n hx hb dX12_wireSize_23 rfl (lv_at hl 0 rfl) ?_
    refine lv_iload_n hx hb dX12_wireSize_24 rfl (lv_at hl 1 rfl) ?_
    refine lv_iload_n hx hb dX12_wireSize_25 rfl (lv_at hl 2 rfl) ?_
    obtain ⟨r_6, s_5, hc, hf⟩ := ok_bd hf
    refine z_cV hC hl.1 hw hS (As := [.int x1, .int x2]) (rest := [.int r_4]) (m_X12_wireMark l E  hc) rfl rfl gc299 gc300 ⟨Nat.le_of_ble_eq_true rfl, Nat.le_of_ble_eq_true rfl⟩ ⟨Nat.le_of_ble_eq_true rfl, Nat.le_of_ble_eq_true rfl⟩ rfl rfl (Nat.le_of_ble_eq_true rfl) dX12_wireSize_26 (fun H locs hw hS => ?_)
    clear hc
    refine lv_iadd hx hb dX12_wireSize_29 ?_
    obtain ⟨v3_7, en, hf⟩ := ok_lt hf
    refine z_nm en ?_
    clear en
    refine lv_istore_n (lv' := [(3, .int v3_7), (0, .ref (E.2.2.1 259)), (1, .int x1), (2, .int x2)]) hx hb dX12_wireSize_30 rfl hl (by decide) rfl (fun ls hl => ?_)
    refine lv_iload_n hx hb dX12_wireSize_31 rfl (lv_at hl 3 rfl) ?_
    refine lv_iconst (v := 2) hx hb dX12_wireSize_32 (by decide) ?_
    obtain ⟨j42, ej42, hf⟩ := ok_lt hf
    have J42 : ∀ (k_8 : Int32) (s_9 : St), j42 k_8 s_9 = some (rz, sz) → ∀ (H : Heap) (locs : List Loc) (ls : Array Slot), lv_has ls 4 [] → World E sh2 s_9 H → va_S E.2.2.2 s.heap H locs → W p l e (rmd 4) s m args below meth c H locs 0 0 (MQ below (QW E sh2 (some (.int rz)) sz) args s 0 0 E.2.2.2) (F0 m 42 ls [.int k_8]) := by
      intro k_8 s_9 hf H locs ls hl hw hS
      subst ej42
      exact z_iretE hC hlocks hw hS hf hr rfl dX12_wireSize_42
    clear ej42
    have hif := ok_if hf
    refine lv_icmp_ne (tgt := 41) hx hb dX12_wireSize_33 (by decide) (fun hcd => ?_) (fun hcd => ?_)
    · have hf := hif.1 hcd
      clear hif
      refine lv_iload_n hx hb dX12_wireSize_41 rfl (lv_at hl 0 rfl) ?_
      exact J42 _ _ hf _ _ ls (lv_sub hl [] rfl) hw hS
    · have hf := hif.2 (fun q => q hcd)
      clear hif
      refine lv_iload_n hx hb dX12_wireSize_36 rfl (lv_at hl 0 rfl) ?_
      refine lv_ineg hx hb dX12_wireSize_37 ?_
      refine lv_goto (tgt := 42) hx hb dX12_wireSize_38 (by decide) ?_
      exact J42 _ _ hf _ _ ls (lv_sub hl [] rfl) hw hS
  clear ej11
  have hif := ok_if hf
  refine lv_icmp_ne (tgt := 11) hx hb dX12_wireSize_2 (by decide) (fun hcd => ?_) (fun hcd => ?_)
  · have hf := hif.1 hcd
    clear hif
    exact J11 _ hf _ _ ls hl hw hS
  · have hf := hif.2 (fun q => q hcd)
    clear hif
    refine lv_aload_n hx hb dX12_wireSize_5 rfl (lv_at hl 0 rfl) ?_
    refine lv_bipush (v := 12) hx hb dX12_wireSize_6 (by decide) ?_
    obtain ⟨s_10, hc, hf⟩ := ok_bind hf
    refine z_cV hC hl.1 hw hS (As := [.int (12 : Int32)]) (rest := []) (m_X12_leaves l E  hc) rfl rfl gc295 gc296 ⟨Nat.le_of_ble_eq_true rfl, Nat.le_of_ble_eq_true rfl⟩ ⟨Nat.le_of_ble_eq_true rfl, Nat.le_of_ble_eq_true rfl⟩ rfl rfl (Nat.le_of_ble_eq_true rfl) dX12_wireSize_8 (fun H locs hw hS => ?_)
    clear hc
    exact J11 _ hf _ _ ls hl hw hS
set_option maxHeartbeats 4000000 in
set_option maxRecDepth 100000 in
theorem m_X12_breakerSize (l : Launch) (E : Ev) {x1 : Int32} {x2 : Int32}  {s0 sz : St} {rz : Int32} (hf : f_X12_breakerSize x1 x2 s0 = some (rz, sz)) : MM l E sh2 yX12_breakerSize cX12_breakerSize 4 (some .int) (rmd 3) [.ref (E.2.2.1 259), .int x1, .int x2] s0 (some (.int rz)) sz := by
  unfold f_X12_breakerSize at hf
  refine z_enter (by decide +kernel) (Nat.le_of_ble_eq_true rfl) ?_
  intro p e s m args below meth c ls hC hr hlocks hw hS hl
  have hC : Cx p s m args c cX12_breakerSize 4 "FuseBoxModel" E := hC
  obtain ⟨hx, hb, hml, hown, hts, hTB⟩ := id hC
  have hl : lv_has ls 4 [(0, .ref (E.2.2.1 259)), (1, .int x1), (2, .int x2)] := hl
  refine lv_iload_n hx hb dX12_breakerSize_0 rfl (lv_at hl 2 rfl) ?_
  refine lv_iconst (v := 5) hx hb dX12_breakerSize_1 (by decide) ?_
  obtain ⟨j11, ej11, hf⟩ := ok_lt hf
  have J11 : ∀ (s_1 : St), j11 s_1 = some (rz, sz) → ∀ (H : Heap) (locs : List Loc) (ls : Array Slot), lv_has ls 4 [(0, .ref (E.2.2.1 259)), (1, .int x1), (2, .int x2)] → World E sh2 s_1 H → va_S E.2.2.2 s.heap H locs → W p l e (rmd 3) s m args below meth c H locs 0 0 (MQ below (QW E sh2 (some (.int rz)) sz) args s 0 0 E.2.2.2) (F0 m 11 ls []) := by
    intro s_1 hf H locs ls hl hw hS
    subst ej11
    refine lv_aload_n hx hb dX12_breakerSize_11 rfl (lv_at hl 0 rfl) ?_
    refine lv_bipush (v := 13) hx hb dX12_breakerSize_12 (by decide) ?_
    obtain ⟨s_2, hc, hf⟩ := ok_bind hf
    refine z_cV hC hl.1 hw hS (As := [.int (13 : Int32)]) (rest := []) (m_X12_leaves l E  hc) rfl rfl gc295 gc296 ⟨Nat.le_of_ble_eq_true rfl, Nat.le_of_ble_eq_true rfl⟩ ⟨Nat.le_of_ble_eq_true rfl, Nat.le_of_ble_eq_true rfl⟩ rfl rfl (Nat.le_of_ble_eq_true rfl) dX12_breakerSize_14 (fun H locs hw hS => ?_)
    clear hc
    refine lv_aload_n hx hb dX12_breakerSize_17 rfl (lv_at hl 0 rfl) ?_
    refine lv_iload_n hx hb dX12_breakerSize_18 rfl (lv_at hl 1 rfl) ?_
    refine lv_iconst (v := 0) hx hb dX12_breakerSize_19 (by decide) ?_
    obtain ⟨r_4, s_3, hc, hf⟩ := ok_bd hf
    refine z_cV hC hl.1 hw hS (As := [.int x1, .int (0 : Int32)]) (rest := []) (m_X12_lent l E  hc) rfl rfl gc297 gc298 ⟨Nat.le_of_ble_eq_true rfl, Nat.le_of_ble_eq_true rfl⟩ ⟨Nat.le_of_ble_eq_true rfl, Nat.le_of_ble_eq_true rfl⟩ rfl rfl (Nat.le_of_ble_eq_true rfl) dX12_breakerSize_20 (fun H locs hw hS => ?_)
    clear hc
    refine lv_bipush (v := 100) hx hb dX12_breakerSize_23 (by decide) ?_
    refine lv_isub hx hb dX12_breakerSize_25 ?_
    obtain ⟨v3_5, en, hf⟩ := ok_lt hf
    refine z_nm en ?_
    clear en
    refine lv_istore_n (lv' := [(3, .int v3_5), (0, .ref (E.2.2.1 259)), (1, .int x1), (2, .int x2)]) hx hb dX12_breakerSize_26 rfl hl (by decide) rfl (fun ls hl => ?_)
    refine lv_iload_n hx hb dX12_breakerSize_27 rfl (lv_at hl 3 rfl) ?_
    refine lv_iconst (v := 5) hx hb dX12_breakerSize_28 (by decide) ?_
    obtain ⟨j39, ej39, hf⟩ := ok_lt hf
    have J39 : ∀ (k_6 : Int32) (s_7 : St), j39 k_6 s_7 = some (rz, sz) → ∀ (H : Heap) (locs : List Loc) (ls : Array Slot), lv_has ls 4 [] → World E sh2 s_7 H → va_S E.2.2.2 s.heap H locs → W p l e (rmd 3) s m args below meth c H locs 0 0 (MQ below (QW E sh2 (some (.int rz)) sz) args s 0 0 E.2.2.2) (F0 m 39 ls [.int k_6]) := by
      intro k_6 s_7 hf H locs ls hl hw hS
      subst ej39
      exact z_iretE hC hlocks hw hS hf hr rfl dX12_breakerSize_39
    clear ej39
    have hif := ok_if hf
    refine lv_icmp_ne (tgt := 38) hx hb dX12_breakerSize_29 (by decide) (fun hcd => ?_) (fun hcd => ?_)
    · have hf := hif.1 hcd
      clear hif
      refine lv_iload_n hx hb dX12_breakerSize_38 rfl (lv_at hl 0 rfl) ?_
      exact J39 _ _ hf _ _ ls (lv_sub hl [] rfl) hw hS
    · have hf := hif.2 (fun q => q hcd)
      clear hif
      refine lv_iconst (v := 2) hx hb dX12_breakerSize_32 (by decide) ?_
      refine lv_iload_n hx hb dX12_breakerSize_33 rfl (lv_at hl 0 rfl) ?_
      refine lv_imul hx hb dX12_breakerSize_34 ?_
      refine lv_goto (tgt := 39) hx hb dX12_breakerSize_35 (by decide) ?_
      exact J39 _ _ hf _ _ ls (lv_sub hl [] rfl) hw hS
  clear ej11
  have hif := ok_if hf
  refine lv_icmp_ne (tgt := 11) hx hb dX12_breakerSize_2 (by decide) (fun hcd => ?_) (fun hcd => ?_)
  · have hf := hif.1 hcd
    clear hif
    exact J11 _ hf _ _ ls hl hw hS
  · have hf := hif.2 (fun q => q hcd)
    clear hif
    refine lv_aload_n hx hb dX12_breakerSize_5 rfl (lv_at hl 0 rfl) ?_
    refine lv_bipush (v := 14) hx hb dX12_breakerSize_6 (by decide) ?_
    obtain ⟨s_8, hc, hf⟩ := ok_bind hf
    refine z_cV hC hl.1 hw hS (As := [.int (14 : Int32)]) (rest := []) (m_X12_leaves l E  hc) rfl rfl gc295 gc296 ⟨Nat.le_of_ble_eq_true rfl, Nat.le_of_ble_eq_true rfl⟩ ⟨Nat.le_of_ble_eq_true rfl, Nat.le_of_ble_eq_true rfl⟩ rfl rfl (Nat.le_of_ble_eq_true rfl) dX12_breakerSize_8 (fun H locs hw hS => ?_)
    clear hc
    exact J11 _ hf _ _ ls hl hw hS
set_option maxHeartbeats 4000000 in
set_option maxRecDepth 100000 in
theorem m_X12_breakerMark (l : Launch) (E : Ev) {x1 : Int32} {x2 : Int32}  {s0 sz : St} {rz : Int32} (hf : f_X12_breakerMark x1 x2 s0 = some (rz, sz)) : MM l E sh2 yX12_breakerMark cX12_breakerMark 4 (some .int) (rmd 4) [.ref (E.2.2.1 259), .int x1, .int x2] s0 (some (.int rz)) sz := by
  unfold f_X12_breakerMark at hf
  refine z_enter (by decide +kernel) (Nat.le_of_ble_eq_true rfl) ?_
  intro p e s m args below meth c ls hC hr hlocks hw hS hl
  have hC : Cx p s m args c cX12_breakerMark 4 "FuseBoxModel" E := hC
  obtain ⟨hx, hb, hml, hown, hts, hTB⟩ := id hC
  have hl : lv_has ls 4 [(0, .ref (E.2.2.1 259)), (1, .int x1), (2, .int x2)] := hl
  refine lv_aload_n hx hb dX12_breakerMark_0 rfl (lv_at hl 0 rfl) ?_
  refine lv_bipush (v := 23) hx hb dX12_breakerMark_1 (by decide) ?_
  obtain ⟨s_1, hc, hf⟩ := ok_bind hf
  refine z_cV hC hl.1 hw hS (As := [.int (23 : Int32)]) (rest := []) (m_X12_leaves l E  hc) rfl rfl gc295 gc296 ⟨Nat.le_of_ble_eq_true rfl, Nat.le_of_ble_eq_true rfl⟩ ⟨Nat.le_of_ble_eq_true rfl, Nat.le_of_ble_eq_true rfl⟩ rfl rfl (Nat.le_of_ble_eq_true rfl) dX12_breakerMark_3 (fun H locs hw hS => ?_)
  clear hc
  refine lv_aload_n hx hb dX12_breakerMark_6 rfl (lv_at hl 0 rfl) ?_
  refine lv_iload_n hx hb dX12_breakerMark_7 rfl (lv_at hl 1 rfl) ?_
  refine lv_iconst (v := 1) hx hb dX12_breakerMark_8 (by decide) ?_
  obtain ⟨r_3, s_2, hc, hf⟩ := ok_bd hf
  refine z_cV hC hl.1 hw hS (As := [.int x1, .int (1 : Int32)]) (rest := []) (m_X12_lent l E  hc) rfl rfl gc297 gc298 ⟨Nat.le_of_ble_eq_true rfl, Nat.le_of_ble_eq_true rfl⟩ ⟨Nat.le_of_ble_eq_true rfl, Nat.le_of_ble_eq_true rfl⟩ rfl rfl (Nat.le_of_ble_eq_true rfl) dX12_breakerMark_9 (fun H locs hw hS => ?_)
  clear hc
  refine lv_istore_n (lv' := [(3, .int r_3), (0, .ref (E.2.2.1 259)), (1, .int x1), (2, .int x2)]) hx hb dX12_breakerMark_12 rfl hl (by decide) rfl (fun ls hl => ?_)
  refine lv_iload_n hx hb dX12_breakerMark_13 rfl (lv_at hl 0 rfl) ?_
  refine lv_aload_n hx hb dX12_breakerMark_14 rfl (lv_at hl 1 rfl) ?_
  refine lv_iload_n hx hb dX12_breakerMark_15 rfl (lv_at hl 2 rfl) ?_
  refine lv_iload_n hx hb dX12_breakerMark_16 rfl (lv_at hl 3 rfl) ?_
  obtain ⟨r_5, s_4, hc, hf⟩ := ok_bd hf
  refine z_cV hC hl.1 hw hS (As := [.int x1, .int x2]) (rest := [.int r_3]) (m_X12_breakerSize l E  hc) rfl rfl gc301 gc302 ⟨Nat.le_of_ble_eq_true rfl, Nat.le_of_ble_eq_true rfl⟩ ⟨Nat.le_of_ble_eq_true rfl, Nat.le_of_ble_eq_true rfl⟩ rfl rfl (Nat.le_of_ble_eq_true rfl) dX12_breakerMark_17 (fun H locs hw hS => ?_)
  clear hc
  refine lv_isub hx hb dX12_breakerMark_20 ?_
  exact z_iretE hC hlocks hw hS hf hr rfl dX12_breakerMark_21
set_option maxHeartbeats 4000000 in
set_option maxRecDepth 100000 in
theorem m_X12_ask (l : Launch) (E : Ev) {x1 : Int32} {x2 : Int32}  {s0 sz : St} {rz : Int32} (hf : f_X12_ask x1 x2 s0 = some (rz, sz)) : MM l E sh2 yX12_ask cX12_ask 4 (some .int) (rmd 5) [.ref (E.2.2.1 259), .int x1, .int x2] s0 (some (.int rz)) sz := by
  unfold f_X12_ask at hf
  refine z_enter (by decide +kernel) (Nat.le_of_ble_eq_true rfl) ?_
  intro p e s m args below meth c ls hC hr hlocks hw hS hl
  have hC : Cx p s m args c cX12_ask 4 "FuseBoxModel" E := hC
  obtain ⟨hx, hb, hml, hown, hts, hTB⟩ := id hC
  have hl : lv_has ls 4 [(0, .ref (E.2.2.1 259)), (1, .int x1), (2, .int x2)] := hl
  refine lv_aload_n hx hb dX12_ask_0 rfl (lv_at hl 0 rfl) ?_
  refine lv_iload_n hx hb dX12_ask_1 rfl (lv_at hl 1 rfl) ?_
  obtain ⟨r_2, s_1, hc, hf⟩ := ok_bd hf
  refine z_cV hC hl.1 hw hS (As := [.int x1]) (rest := []) (m_X12_isLine l E  hc) rfl rfl gc269 gc270 ⟨Nat.le_of_ble_eq_true rfl, Nat.le_of_ble_eq_true rfl⟩ ⟨Nat.le_of_ble_eq_true rfl, Nat.le_of_ble_eq_true rfl⟩ rfl rfl (Nat.le_of_ble_eq_true rfl) dX12_ask_2 (fun H locs hw hS => ?_)
  clear hc
  obtain ⟨j18, ej18, hf⟩ := ok_lt hf
  have J18 : ∀ (s_3 : St), j18 s_3 = some (rz, sz) → ∀ (H : Heap) (locs : List Loc) (ls : Array Slot), lv_has ls 4 [] → World E sh2 s_3 H → va_S E.2.2.2 s.heap H locs → W p l e (rmd 5) s m args below meth c H locs 0 0 (MQ below (QW E sh2 (some (.int rz)) sz) args s 0 0 E.2.2.2) (F0 m 18 ls []) := by
    intro s_3 hf H locs ls hl hw hS
    subst ej18
    refine lv_ldc (v := -1000001) hx hb hown (hts _ wd535) dX12_ask_18 ?_
    exact z_iretE hC hlocks hw hS hf hr rfl dX12_ask_20
  clear ej18
  have hif := ok_if hf
  refine lv_if_eq (tgt := 18) hx hb dX12_ask_5 (by decide) (fun hcd => ?_) (fun hcd => ?_)
  · have hf := hif.1 hcd
    clear hif
    exact J18 _ hf _ _ ls (lv_sub hl [] rfl) hw hS
  · have hf := hif.2 hcd
    clear hif
    refine lv_iload_n hx hb dX12_ask_8 rfl (lv_at hl 2 rfl) ?_
    refine lv_i2l (v := x2.toInt64) hx hb dX12_ask_9 rfl ?_
    refine lv_lconst (v := 0) hx hb dX12_ask_10 (by decide) ?_
    refine lv_lconst (v := 1) hx hb dX12_ask_11 (by decide) ?_
    obtain ⟨r_5, s_4, hc, hf⟩ := ok_bd hf
    refine z_cS hC hl.1 hw hS (As := [.long (x2.toInt64), .long (0 : Int64), .long (1 : Int64)]) (rest := []) (m_X12_in l E  hc) gc219 gc220 ⟨Nat.le_of_ble_eq_true rfl, Nat.le_of_ble_eq_true rfl⟩ ⟨Nat.le_of_ble_eq_true rfl, Nat.le_of_ble_eq_true rfl⟩ rfl rfl (Nat.le_of_ble_eq_true rfl) dX12_ask_12 (fun H locs hw hS => ?_)
    clear hc
    have hif := ok_if hf
    refine lv_if_ne (tgt := 21) hx hb dX12_ask_15 (by decide) (fun hcd => ?_) (fun hcd => ?_)
    · have hf := hif.1 hcd
      clear hif
      refine lv_aload_n hx hb dX12_ask_21 rfl (lv_at hl 0 rfl) ?_
      refine lv_iconst (v := 0) hx hb dX12_ask_22 (by decide) ?_
      obtain ⟨s_6, en, hf⟩ := ok_lt hf
      refine pModel_traces hC hw hS wd725 en dX12_ask_23 (fun H locs hw hS => ?_)
      clear en
      refine lv_aload_n hx hb dX12_ask_26 rfl (lv_at hl 0 rfl) ?_
      refine gModel_told hC hw wd597 dX12_ask_27 ?_
      refine lv_iconst (v := 3) hx hb dX12_ask_30 (by decide) ?_
      refine lv_iload_n hx hb dX12_ask_31 rfl (lv_at hl 1 rfl) ?_
      refine lv_iadd hx hb dX12_ask_32 ?_
      obtain ⟨hin, hf⟩ := ok_chk hf
      refine z_iald hC hw rfl hin dX12_ask_33 ?_
      obtain ⟨v3_7, en, hf⟩ := ok_lt hf
      refine z_nm en ?_
      clear en
      refine lv_istore_n (lv' := [(3, .int v3_7), (0, .ref (E.2.2.1 259)), (1, .int x1), (2, .int x2)]) hx hb dX12_ask_34 rfl hl (by decide) rfl (fun ls hl => ?_)
      refine lv_iload_n hx hb dX12_ask_35 rfl (lv_at hl 0 rfl) ?_
      refine lv_iconst (v := 4) hx hb dX12_ask_36 (by decide) ?_
      have hif := ok_if hf
      refine lv_icmp_ge (tgt := 60) hx hb dX12_ask_37 (by decide) (fun hcd => ?_) (fun hcd => ?_)
      · have hf := hif.1 hcd
        clear hif
        refine lv_iload_n hx hb dX12_ask_60 rfl (lv_at hl 3 rfl) ?_
        obtain ⟨j79, ej79, hf⟩ := ok_lt hf
        have J79 : ∀ (k_8 : Int32) (s_9 : St), j79 k_8 s_9 = some (rz, sz) → ∀ (H : Heap) (locs : List Loc) (ls : Array Slot), lv_has ls 4 [] → World E sh2 s_9 H → va_S E.2.2.2 s.heap H locs → W p l e (rmd 5) s m args below meth c H locs 0 0 (MQ below (QW E sh2 (some (.int rz)) sz) args s 0 0 E.2.2.2) (F0 m 79 ls [.int k_8]) := by
          intro k_8 s_9 hf H locs ls hl hw hS
          subst ej79
          exact z_iretE hC hlocks hw hS hf hr rfl dX12_ask_79
        clear ej79
        have hif := ok_if hf
        refine lv_if_ne (tgt := 73) hx hb dX12_ask_61 (by decide) (fun hcd => ?_) (fun hcd => ?_)
        · have hf := hif.1 hcd
          clear hif
          refine lv_aload_n hx hb dX12_ask_73 rfl (lv_at hl 1 rfl) ?_
          refine lv_iload_n hx hb dX12_ask_74 rfl (lv_at hl 2 rfl) ?_
          refine lv_iload_n hx hb dX12_ask_75 rfl (lv_at hl 0 rfl) ?_
          obtain ⟨r_11, s_10, hc, hf⟩ := ok_bd hf
          refine z_cV hC hl.1 hw hS (As := [.int x1, .int v3_7]) (rest := []) (m_X12_breakerMark l E  hc) rfl rfl gc303 gc304 ⟨Nat.le_of_ble_eq_true rfl, Nat.le_of_ble_eq_true rfl⟩ ⟨Nat.le_of_ble_eq_true rfl, Nat.le_of_ble_eq_true rfl⟩ rfl rfl (Nat.le_of_ble_eq_true rfl) dX12_ask_76 (fun H locs hw hS => ?_)
          clear hc
          exact J79 _ _ hf _ _ ls (lv_sub hl [] rfl) hw hS
        · have hf := hif.2 (fun q => q hcd)
          clear hif
          refine lv_aload_n hx hb dX12_ask_64 rfl (lv_at hl 1 rfl) ?_
          refine lv_iload_n hx hb dX12_ask_65 rfl (lv_at hl 2 rfl) ?_
          refine lv_iload_n hx hb dX12_ask_66 rfl (lv_at hl 0 rfl) ?_
          obtain ⟨r_13, s_12, hc, hf⟩ := ok_bd hf
          refine z_cV hC hl.1 hw hS (As := [.int x1, .int v3_7]) (rest := []) (m_X12_breakerSize l E  hc) rfl rfl gc301 gc302 ⟨Nat.le_of_ble_eq_true rfl, Nat.le_of_ble_eq_true rfl⟩ ⟨Nat.le_of_ble_eq_true rfl, Nat.le_of_ble_eq_true rfl⟩ rfl rfl (Nat.le_of_ble_eq_true rfl) dX12_ask_67 (fun H locs hw hS => ?_)
          clear hc
          refine lv_goto (tgt := 79) hx hb dX12_ask_70 (by decide) ?_
          exact J79 _ _ hf _ _ ls (lv_sub hl [] rfl) hw hS
      · have hf := hif.2 hcd
        clear hif
        refine lv_iload_n hx hb dX12_ask_40 rfl (lv_at hl 3 rfl) ?_
        obtain ⟨j59, ej59, hf⟩ := ok_lt hf
        have J59 : ∀ (k_14 : Int32) (s_15 : St), j59 k_14 s_15 = some (rz, sz) → ∀ (H : Heap) (locs : List Loc) (ls : Array Slot), lv_has ls 4 [] → World E sh2 s_15 H → va_S E.2.2.2 s.heap H locs → W p l e (rmd 5) s m args below meth c H locs 0 0 (MQ below (QW E sh2 (some (.int rz)) sz) args s 0 0 E.2.2.2) (F0 m 59 ls [.int k_14]) := by
          intro k_14 s_15 hf H locs ls hl hw hS
          subst ej59
          exact z_iretE hC hlocks hw hS hf hr rfl dX12_ask_59
        clear ej59
        have hif := ok_if hf
        refine lv_if_ne (tgt := 53) hx hb dX12_ask_41 (by decide) (fun hcd => ?_) (fun hcd => ?_)
        · have hf := hif.1 hcd
          clear hif
          refine lv_aload_n hx hb dX12_ask_53 rfl (lv_at hl 1 rfl) ?_
          refine lv_iload_n hx hb dX12_ask_54 rfl (lv_at hl 2 rfl) ?_
          refine lv_iload_n hx hb dX12_ask_55 rfl (lv_at hl 0 rfl) ?_
          obtain ⟨r_17, s_16, hc, hf⟩ := ok_bd hf
          refine z_cV hC hl.1 hw hS (As := [.int x1, .int v3_7]) (rest := []) (m_X12_wireMark l E  hc) rfl rfl gc299 gc300 ⟨Nat.le_of_ble_eq_true rfl, Nat.le_of_ble_eq_true rfl⟩ ⟨Nat.le_of_ble_eq_true rfl, Nat.le_of_ble_eq_true rfl⟩ rfl rfl (Nat.le_of_ble_eq_true rfl) dX12_ask_56 (fun H locs hw hS => ?_)
          clear hc
          exact J59 _ _ hf _ _ ls (lv_sub hl [] rfl) hw hS
        · have hf := hif.2 (fun q => q hcd)
          clear hif
          refine lv_aload_n hx hb dX12_ask_44 rfl (lv_at hl 1 rfl) ?_
          refine lv_iload_n hx hb dX12_ask_45 rfl (lv_at hl 2 rfl) ?_
          refine lv_iload_n hx hb dX12_ask_46 rfl (lv_at hl 0 rfl) ?_
          obtain ⟨r_19, s_18, hc, hf⟩ := ok_bd hf
          refine z_cV hC hl.1 hw hS (As := [.int x1, .int v3_7]) (rest := []) (m_X12_wireSize l E  hc) rfl rfl gc305 gc306 ⟨Nat.le_of_ble_eq_true rfl, Nat.le_of_ble_eq_true rfl⟩ ⟨Nat.le_of_ble_eq_true rfl, Nat.le_of_ble_eq_true rfl⟩ rfl rfl (Nat.le_of_ble_eq_true rfl) dX12_ask_47 (fun H locs hw hS => ?_)
          clear hc
          refine lv_goto (tgt := 59) hx hb dX12_ask_50 (by decide) ?_
          exact J59 _ _ hf _ _ ls (lv_sub hl [] rfl) hw hS
    · have hf := hif.2 (fun q => q hcd)
      clear hif
      exact J18 _ hf _ _ ls (lv_sub hl [] rfl) hw hS
set_option maxHeartbeats 4000000 in
set_option maxRecDepth 100000 in
theorem m_X12_trace (l : Launch) (E : Ev) {x1 : Int32}  {s0 sz : St} {rz : Int32} (hf : f_X12_trace x1 s0 = some (rz, sz)) : MM l E sh2 yX12_trace cX12_trace 2 (some .int) (rmd 2) [.ref (E.2.2.1 259), .int x1] s0 (some (.int rz)) sz := by
  unfold f_X12_trace at hf
  refine z_enter (by decide +kernel) (Nat.le_of_ble_eq_true rfl) ?_
  intro p e s m args below meth c ls hC hr hlocks hw hS hl
  have hC : Cx p s m args c cX12_trace 2 "FuseBoxModel" E := hC
  obtain ⟨hx, hb, hml, hown, hts, hTB⟩ := id hC
  have hl : lv_has ls 2 [(0, .ref (E.2.2.1 259)), (1, .int x1)] := hl
  refine lv_iload_n hx hb dX12_trace_0 rfl (lv_at hl 1 rfl) ?_
  refine lv_i2l (v := x1.toInt64) hx hb dX12_trace_1 rfl ?_
  refine lv_lconst (v := 0) hx hb dX12_trace_2 (by decide) ?_
  refine lv_aload_n hx hb dX12_trace_3 rfl (lv_at hl 0 rfl) ?_
  refine gModel_traces hC hw wd725 dX12_trace_4 ?_
  refine lv_iconst (v := 1) hx hb dX12_trace_7 (by decide) ?_
  refine lv_isub hx hb dX12_trace_8 ?_
  refine lv_i2l (v := (((s0 259 20) - (1 : Int32))).toInt64) hx hb dX12_trace_9 rfl ?_
  obtain ⟨r_2, s_1, hc, hf⟩ := ok_bd hf
  refine z_cS hC hl.1 hw hS (As := [.long (x1.toInt64), .long (0 : Int64), .long ((((s0 259 20) - (1 : Int32))).toInt64)]) (rest := []) (m_X12_in l E  hc) gc219 gc220 ⟨Nat.le_of_ble_eq_true rfl, Nat.le_of_ble_eq_true rfl⟩ ⟨Nat.le_of_ble_eq_true rfl, Nat.le_of_ble_eq_true rfl⟩ rfl rfl (Nat.le_of_ble_eq_true rfl) dX12_trace_10 (fun H locs hw hS => ?_)
  clear hc
  obtain ⟨j27, ej27, hf⟩ := ok_lt hf
  have J27 : ∀ (k_3 : Int32) (s_4 : St), j27 k_3 s_4 = some (rz, sz) → ∀ (H : Heap) (locs : List Loc) (ls : Array Slot), lv_has ls 2 [] → World E sh2 s_4 H → va_S E.2.2.2 s.heap H locs → W p l e (rmd 2) s m args below meth c H locs 0 0 (MQ below (QW E sh2 (some (.int rz)) sz) args s 0 0 E.2.2.2) (F0 m 27 ls [.int k_3]) := by
    intro k_3 s_4 hf H locs ls hl hw hS
    subst ej27
    exact z_iretE hC hlocks hw hS hf hr rfl dX12_trace_27
  clear ej27
  have hif := ok_if hf
  refine lv_if_eq (tgt := 25) hx hb dX12_trace_13 (by decide) (fun hcd => ?_) (fun hcd => ?_)
  · have hf := hif.1 hcd
    clear hif
    refine lv_ldc (v := -1000000) hx hb hown (hts _ wd679) dX12_trace_25 ?_
    exact J27 _ _ hf _ _ ls (lv_sub hl [] rfl) hw hS
  · have hf := hif.2 hcd
    clear hif
    refine lv_aload_n hx hb dX12_trace_16 rfl (lv_at hl 0 rfl) ?_
    refine gModel_traced hC hw wd726 dX12_trace_17 ?_
    refine lv_iload_n hx hb dX12_trace_20 rfl (lv_at hl 1 rfl) ?_
    obtain ⟨hin, hf⟩ := ok_chk hf
    refine z_iald hC hw rfl hin dX12_trace_21 ?_
    refine lv_goto (tgt := 27) hx hb dX12_trace_22 (by decide) ?_
    exact J27 _ _ hf _ _ ls (lv_sub hl [] rfl) hw hS
set_option maxHeartbeats 4000000 in
set_option maxRecDepth 100000 in
theorem m_X12_count (l : Launch) (E : Ev) {x1 : Int32}  {s0 sz : St} {rz : Int32} (hf : f_X12_count x1 s0 = some (rz, sz)) : MM l E sh2 yX12_count cX12_count 4 (some .int) (rmd 2) [.ref (E.2.2.1 259), .int x1] s0 (some (.int rz)) sz := by
  unfold f_X12_count at hf
  refine z_enter (by decide +kernel) (Nat.le_of_ble_eq_true rfl) ?_
  intro p e s m args below meth c ls hC hr hlocks hw hS hl
  have hC : Cx p s m args c cX12_count 4 "FuseBoxModel" E := hC
  obtain ⟨hx, hb, hml, hown, hts, hTB⟩ := id hC
  have hl : lv_has ls 4 [(0, .ref (E.2.2.1 259)), (1, .int x1)] := hl
  refine lv_iload_n hx hb dX12_count_0 rfl (lv_at hl 1 rfl) ?_
  refine lv_i2l (v := x1.toInt64) hx hb dX12_count_1 rfl ?_
  refine lv_lconst (v := 0) hx hb dX12_count_2 (by decide) ?_
  refine lv_ldc2 (v := 9) hx hb hown (hts _ wd751) dX12_count_3 ?_
  obtain ⟨r_2, s_1, hc, hf⟩ := ok_bd hf
  refine z_cS hC hl.1 hw hS (As := [.long (x1.toInt64), .long (0 : Int64), .long (9 : Int64)]) (rest := []) (m_X12_in l E  hc) gc219 gc220 ⟨Nat.le_of_ble_eq_true rfl, Nat.le_of_ble_eq_true rfl⟩ ⟨Nat.le_of_ble_eq_true rfl, Nat.le_of_ble_eq_true rfl⟩ rfl rfl (Nat.le_of_ble_eq_true rfl) dX12_count_6 (fun H locs hw hS => ?_)
  clear hc
  have hif := ok_if hf
  refine lv_if_ne (tgt := 15) hx hb dX12_count_9 (by decide) (fun hcd => ?_) (fun hcd => ?_)
  · have hf := hif.1 hcd
    clear hif
    refine lv_iconst (v := 0) hx hb dX12_count_15 (by decide) ?_
    obtain ⟨v2_3, en, hf⟩ := ok_lt hf
    refine z_nm en ?_
    clear en
    refine lv_istore_n (lv' := [(2, .int v2_3), (0, .ref (E.2.2.1 259)), (1, .int x1)]) hx hb dX12_count_16 rfl hl (by decide) rfl (fun ls hl => ?_)
    refine lv_iconst (v := 0) hx hb dX12_count_17 (by decide) ?_
    obtain ⟨v3_4, en, hf⟩ := ok_lt hf
    refine z_nm en ?_
    clear en
    refine lv_istore_n (lv' := [(3, .int v3_4), (2, .int v2_3), (0, .ref (E.2.2.1 259)), (1, .int x1)]) hx hb dX12_count_18 rfl hl (by decide) rfl (fun ls hl => ?_)
    obtain ⟨r19, hL19, hf⟩ := ok_bind hf
    have X19_0 : ∀ (v2_8 : Int32) (s_9 : St), (v2_8, s_9) = r19 → ∀ (H : Heap) (locs : List Loc) (ls : Array Slot), lv_has ls 4 [(0, .ref (E.2.2.1 259)), (1, .int x1), (2, .int v2_8)] → World E sh2 s_9 H → va_S E.2.2.2 s.heap H locs → W p l e (rmd 2) s m args below meth c H locs 0 0 (MQ below (QW E sh2 (some (.int rz)) sz) args s 0 0 E.2.2.2) (F0 m 48 ls []) := by
      intro v2_8 s_9 er H locs ls hl hw hS
      subst er
      replace hf := ok_un2 hf
      refine lv_iload_n hx hb dX12_count_48 rfl (lv_at hl 1 rfl) ?_
      obtain ⟨j187, ej187, hf⟩ := ok_lt hf
      have J187 : ∀ (k_10 : Int32) (s_11 : St), j187 k_10 s_11 = some (rz, sz) → ∀ (H : Heap) (locs : List Loc) (ls : Array Slot), lv_has ls 4 [] → World E sh2 s_11 H → va_S E.2.2.2 s.heap H locs → W p l e (rmd 2) s m args below meth c H locs 0 0 (MQ below (QW E sh2 (some (.int rz)) sz) args s 0 0 E.2.2.2) (F0 m 187 ls [.int k_10]) := by
        intro k_10 s_11 hf H locs ls hl hw hS
        subst ej187
        exact z_iretE hC hlocks hw hS hf hr rfl dX12_count_187
      clear ej187
      have hif := ok_if hf
      refine lv_if_ne (tgt := 56) hx hb dX12_count_49 (by decide) (fun hcd => ?_) (fun hcd => ?_)
      · have hf := hif.1 hcd
        clear hif
        refine lv_iload_n hx hb dX12_count_56 rfl (lv_at hl 1 rfl) ?_
        refine lv_iconst (v := 1) hx hb dX12_count_57 (by decide) ?_
        have hif := ok_if hf
        refine lv_icmp_ne (tgt := 70) hx hb dX12_count_58 (by decide) (fun hcd => ?_) (fun hcd => ?_)
        · have hf := hif.1 hcd
          clear hif
          refine lv_iload_n hx hb dX12_count_70 rfl (lv_at hl 1 rfl) ?_
          refine lv_iconst (v := 2) hx hb dX12_count_71 (by decide) ?_
          have hif := ok_if hf
          refine lv_icmp_ne (tgt := 84) hx hb dX12_count_72 (by decide) (fun hcd => ?_) (fun hcd => ?_)
          · have hf := hif.1 hcd
            clear hif
            refine lv_iload_n hx hb dX12_count_84 rfl (lv_at hl 1 rfl) ?_
            refine lv_iconst (v := 3) hx hb dX12_count_85 (by decide) ?_
            have hif := ok_if hf
            refine lv_icmp_ne (tgt := 99) hx hb dX12_count_86 (by decide) (fun hcd => ?_) (fun hcd => ?_)
            · have hf := hif.1 hcd
              clear hif
              refine lv_iload_n hx hb dX12_count_99 rfl (lv_at hl 1 rfl) ?_
              refine lv_iconst (v := 4) hx hb dX12_count_100 (by decide) ?_
              have hif := ok_if hf
              refine lv_icmp_ne (tgt := 113) hx hb dX12_count_101 (by decide) (fun hcd => ?_) (fun hcd => ?_)
              · have hf := hif.1 hcd
                clear hif
                refine lv_iload_n hx hb dX12_count_113 rfl (lv_at hl 1 rfl) ?_
                refine lv_iconst (v := 5) hx hb dX12_count_114 (by decide) ?_
                have hif := ok_if hf
                refine lv_icmp_ne (tgt := 141) hx hb dX12_count_115 (by decide) (fun hcd => ?_) (fun hcd => ?_)
                · have hf := hif.1 hcd
                  clear hif
                  refine lv_iload_n hx hb dX12_count_141 rfl (lv_at hl 1 rfl) ?_
                  refine lv_bipush (v := 6) hx hb dX12_count_142 (by decide) ?_
                  have hif := ok_if hf
                  refine lv_icmp_ne (tgt := 154) hx hb dX12_count_144 (by decide) (fun hcd => ?_) (fun hcd => ?_)
                  · have hf := hif.1 hcd
                    clear hif
                    refine lv_iload_n hx hb dX12_count_154 rfl (lv_at hl 1 rfl) ?_
                    refine lv_bipush (v := 7) hx hb dX12_count_155 (by decide) ?_
                    have hif := ok_if hf
                    refine lv_icmp_ne (tgt := 170) hx hb dX12_count_157 (by decide) (fun hcd => ?_) (fun hcd => ?_)
                    · have hf := hif.1 hcd
                      clear hif
                      refine lv_iload_n hx hb dX12_count_170 rfl (lv_at hl 1 rfl) ?_
                      refine lv_bipush (v := 8) hx hb dX12_count_171 (by decide) ?_
                      have hif := ok_if hf
                      refine lv_icmp_ne (tgt := 183) hx hb dX12_count_173 (by decide) (fun hcd => ?_) (fun hcd => ?_)
                      · have hf := hif.1 hcd
                        clear hif
                        refine lv_aload_n hx hb dX12_count_183 rfl (lv_at hl 0 rfl) ?_
                        refine gModel_length hC hw wd550 dX12_count_184 ?_
                        exact J187 _ _ hf _ _ ls (lv_sub hl [] rfl) hw hS
                      · have hf := hif.2 (fun q => q hcd)
                        clear hif
                        refine lv_aload_n hx hb dX12_count_176 rfl (lv_at hl 0 rfl) ?_
                        refine gModel_acts hC hw wd596 dX12_count_177 ?_
                        refine lv_goto (tgt := 187) hx hb dX12_count_180 (by decide) ?_
                        exact J187 _ _ hf _ _ ls (lv_sub hl [] rfl) hw hS
                    · have hf := hif.2 (fun q => q hcd)
                      clear hif
                      refine lv_aload_n hx hb dX12_count_160 rfl (lv_at hl 0 rfl) ?_
                      refine gModel_slot hC hw wd598 dX12_count_161 ?_
                      refine lv_bipush (v := 25) hx hb dX12_count_164 (by decide) ?_
                      obtain ⟨hin, hf⟩ := ok_chk hf
                      refine z_iald hC hw rfl hin dX12_count_166 ?_
                      refine lv_goto (tgt := 187) hx hb dX12_count_167 (by decide) ?_
                      exact J187 _ _ hf _ _ ls (lv_sub hl [] rfl) hw hS
                  · have hf := hif.2 (fun q => q hcd)
                    clear hif
                    refine lv_aload_n hx hb dX12_count_147 rfl (lv_at hl 0 rfl) ?_
                    obtain ⟨r_13, s_12, hc, hf⟩ := ok_bd hf
                    refine z_cV hC hl.1 hw hS (As := []) (rest := []) (m_X12_deadOnes l E  hc) rfl rfl gc273 gc274 ⟨Nat.le_of_ble_eq_true rfl, Nat.le_of_ble_eq_true rfl⟩ ⟨Nat.le_of_ble_eq_true rfl, Nat.le_of_ble_eq_true rfl⟩ rfl rfl (Nat.le_of_ble_eq_true rfl) dX12_count_148 (fun H locs hw hS => ?_)
                    clear hc
                    refine lv_goto (tgt := 187) hx hb dX12_count_151 (by decide) ?_
                    exact J187 _ _ hf _ _ ls (lv_sub hl [] rfl) hw hS
                · have hf := hif.2 (fun q => q hcd)
                  clear hif
                  refine lv_aload_n hx hb dX12_count_118 rfl (lv_at hl 0 rfl) ?_
                  obtain ⟨r_15, s_14, hc, hf⟩ := ok_bd hf
                  refine z_cV hC hl.1 hw hS (As := []) (rest := []) (m_X12_isHouse l E  hc) rfl rfl gc259 gc260 ⟨Nat.le_of_ble_eq_true rfl, Nat.le_of_ble_eq_true rfl⟩ ⟨Nat.le_of_ble_eq_true rfl, Nat.le_of_ble_eq_true rfl⟩ rfl rfl (Nat.le_of_ble_eq_true rfl) dX12_count_119 (fun H locs hw hS => ?_)
                  clear hc
                  have hif := ok_if hf
                  refine lv_if_eq (tgt := 137) hx hb dX12_count_122 (by decide) (fun hcd => ?_) (fun hcd => ?_)
                  · have hf := hif.1 hcd
                    clear hif
                    refine lv_iconst (v := 0) hx hb dX12_count_137 (by decide) ?_
                    refine lv_goto (tgt := 187) hx hb dX12_count_138 (by decide) ?_
                    exact J187 _ _ hf _ _ ls (lv_sub hl [] rfl) hw hS
                  · have hf := hif.2 hcd
                    clear hif
                    refine lv_iconst (v := 1) hx hb dX12_count_125 (by decide) ?_
                    refine lv_aload_n hx hb dX12_count_126 rfl (lv_at hl 0 rfl) ?_
                    refine gModel_slot hC hw wd598 dX12_count_127 ?_
                    refine lv_bipush (v := 24) hx hb dX12_count_130 (by decide) ?_
                    obtain ⟨hin, hf⟩ := ok_chk hf
                    refine z_iald hC hw rfl hin dX12_count_132 ?_
                    refine lv_isub hx hb dX12_count_133 ?_
                    refine lv_goto (tgt := 187) hx hb dX12_count_134 (by decide) ?_
                    exact J187 _ _ hf _ _ ls (lv_sub hl [] rfl) hw hS
              · have hf := hif.2 (fun q => q hcd)
                clear hif
                refine lv_aload_n hx hb dX12_count_104 rfl (lv_at hl 0 rfl) ?_
                refine gModel_told hC hw wd597 dX12_count_105 ?_
                refine lv_iconst (v := 2) hx hb dX12_count_108 (by decide) ?_
                obtain ⟨hin, hf⟩ := ok_chk hf
                refine z_iald hC hw rfl hin dX12_count_109 ?_
                refine lv_goto (tgt := 187) hx hb dX12_count_110 (by decide) ?_
                exact J187 _ _ hf _ _ ls (lv_sub hl [] rfl) hw hS
            · have hf := hif.2 (fun q => q hcd)
              clear hif
              refine lv_aload_n hx hb dX12_count_89 rfl (lv_at hl 0 rfl) ?_
              refine gModel_slot hC hw wd598 dX12_count_90 ?_
              refine lv_bipush (v := 26) hx hb dX12_count_93 (by decide) ?_
              obtain ⟨hin, hf⟩ := ok_chk hf
              refine z_iald hC hw rfl hin dX12_count_95 ?_
              refine lv_goto (tgt := 187) hx hb dX12_count_96 (by decide) ?_
              exact J187 _ _ hf _ _ ls (lv_sub hl [] rfl) hw hS
          · have hf := hif.2 (fun q => q hcd)
            clear hif
            refine lv_aload_n hx hb dX12_count_75 rfl (lv_at hl 0 rfl) ?_
            refine gModel_told hC hw wd597 dX12_count_76 ?_
            refine lv_iconst (v := 1) hx hb dX12_count_79 (by decide) ?_
            obtain ⟨hin, hf⟩ := ok_chk hf
            refine z_iald hC hw rfl hin dX12_count_80 ?_
            refine lv_goto (tgt := 187) hx hb dX12_count_81 (by decide) ?_
            exact J187 _ _ hf _ _ ls (lv_sub hl [] rfl) hw hS
        · have hf := hif.2 (fun q => q hcd)
          clear hif
          refine lv_aload_n hx hb dX12_count_61 rfl (lv_at hl 0 rfl) ?_
          refine gModel_told hC hw wd597 dX12_count_62 ?_
          refine lv_iconst (v := 0) hx hb dX12_count_65 (by decide) ?_
          obtain ⟨hin, hf⟩ := ok_chk hf
          refine z_iald hC hw rfl hin dX12_count_66 ?_
          refine lv_goto (tgt := 187) hx hb dX12_count_67 (by decide) ?_
          exact J187 _ _ hf _ _ ls (lv_sub hl [] rfl) hw hS
      · have hf := hif.2 (fun q => q hcd)
        clear hif
        refine lv_iload_n hx hb dX12_count_52 rfl (lv_at hl 2 rfl) ?_
        refine lv_goto (tgt := 187) hx hb dX12_count_53 (by decide) ?_
        exact J187 _ _ hf _ _ ls (lv_sub hl [] rfl) hw hS
    have L19 : ∀ (n : Nat) (v2_5 : Int32) (v3_6 : Int32) (s_7 : St), loopF f_X12_count_L19 n (v2_5, v3_6, s_7) = some r19 → ∀ (H : Heap) (locs : List Loc) (ls : Array Slot), lv_has ls 4 [(0, .ref (E.2.2.1 259)), (1, .int x1), (2, .int v2_5), (3, .int v3_6)] → World E sh2 s_7 H → va_S E.2.2.2 s.heap H locs → W p l e (rmd 2) s m args below meth c H locs 0 0 (MQ below (QW E sh2 (some (.int rz)) sz) args s 0 0 E.2.2.2) (F0 m 19 ls []) := by
      intro n
      induction n with
      | zero =>
        intro v2_5 v3_6 s_7 hf
        exact nz hf
      | succ n ih19 =>
        intro v2_5 v3_6 s_7 hf H locs ls hl hw hS
        obtain ⟨xl19, hf, hi19, he19⟩ := ok_loop hf
        unfold f_X12_count_L19 at hf
        replace hf := ok_un3 hf
        refine lv_iload_n hx hb dX12_count_19 rfl (lv_at hl 3 rfl) ?_
        refine lv_bipush (v := 8) hx hb dX12_count_20 (by decide) ?_
        have hif := ok_if hf
        refine lv_icmp_ge (tgt := 48) hx hb dX12_count_22 (by decide) (fun hcd => ?_) (fun hcd => ?_)
        · have hf := hif.1 hcd
          clear hif
          cases hf
          exact X19_0 _ _ (he19 _ rfl) _ _ ls (lv_sub hl [0, 1, 2] rfl) hw hS
        · have hf := hif.2 hcd
          clear hif
          refine lv_iload_n hx hb dX12_count_25 rfl (lv_at hl 2 rfl) ?_
          refine lv_aload_n hx hb dX12_count_26 rfl (lv_at hl 0 rfl) ?_
          refine gModel_size hC hw wd538 dX12_count_27 ?_
          refine lv_iload_n hx hb dX12_count_30 rfl (lv_at hl 3 rfl) ?_
          obtain ⟨hin, hf⟩ := ok_chk hf
          refine z_iald hC hw rfl hin dX12_count_31 ?_
          obtain ⟨j40, ej40, hf⟩ := ok_lt hf
          have J40 : ∀ (k_16 : Int32) (s_17 : St), j40 k_16 s_17 = some xl19 → ∀ (H : Heap) (locs : List Loc) (ls : Array Slot), lv_has ls 4 [(0, .ref (E.2.2.1 259)), (1, .int x1), (3, .int v3_6)] → World E sh2 s_17 H → va_S E.2.2.2 s.heap H locs → W p l e (rmd 2) s m args below meth c H locs 0 0 (MQ below (QW E sh2 (some (.int rz)) sz) args s 0 0 E.2.2.2) (F0 m 40 ls [.int k_16, .int v2_5]) := by
            intro k_16 s_17 hf H locs ls hl hw hS
            subst ej40
            refine lv_iadd hx hb dX12_count_40 ?_
            obtain ⟨v2_18, en, hf⟩ := ok_lt hf
            refine z_nm en ?_
            clear en
            refine lv_istore_n (lv' := [(2, .int v2_18), (0, .ref (E.2.2.1 259)), (1, .int x1), (3, .int v3_6)]) hx hb dX12_count_41 rfl hl (by decide) rfl (fun ls hl => ?_)
            obtain ⟨v3_19, en, hf⟩ := ok_lt hf
            refine lv_iinc (v := v3_19) (lv' := [(3, .int v3_19), (2, .int v2_18), (0, .ref (E.2.2.1 259)), (1, .int x1)]) hx hb dX12_count_42 hl (k := 3) rfl (by rw [en]; rfl) (by decide) rfl (fun ls hl => ?_)
            clear en
            refine lv_goto (tgt := 19) hx hb dX12_count_45 (by decide) ?_
            cases hf
            exact ih19 _ _ _ (hi19 _ rfl) _ _ ls (lv_sub hl [2, 3, 1, 0] rfl) hw hS
          clear ej40
          have hif := ok_if hf
          refine lv_if_ge (tgt := 39) hx hb dX12_count_32 (by decide) (fun hcd => ?_) (fun hcd => ?_)
          · have hf := hif.1 hcd
            clear hif
            refine lv_iconst (v := 1) hx hb dX12_count_39 (by decide) ?_
            exact J40 _ _ hf _ _ ls (lv_sub hl [0, 1, 3] rfl) hw hS
          · have hf := hif.2 hcd
            clear hif
            refine lv_iconst (v := 0) hx hb dX12_count_35 (by decide) ?_
            refine lv_goto (tgt := 40) hx hb dX12_count_36 (by decide) ?_
            exact J40 _ _ hf _ _ ls (lv_sub hl [0, 1, 3] rfl) hw hS
    exact L19 5000 _ _ _ hL19 _ _ ls (lv_sub hl [2, 3, 1, 0] rfl) hw hS
  · have hf := hif.2 (fun q => q hcd)
    clear hif
    refine lv_ldc (v := -1000001) hx hb hown (hts _ wd535) dX12_count_12 ?_
    exact z_iretE hC hlocks hw hS hf hr rfl dX12_count_14
set_option maxHeartbeats 4000000 in
set_option maxRecDepth 100000 in
theorem m_X12_status (l : Launch) (E : Ev)   {s0 sz : St} {rz : Int32} (hf : f_X12_status s0 = some (rz, sz)) : MM l E sh2 yX12_status cX12_status 1 (some .int) (rmd 1) [.ref (E.2.2.1 259)] s0 (some (.int rz)) sz := by
  unfold f_X12_status at hf
  refine z_enter (by decide +kernel) (Nat.le_of_ble_eq_true rfl) ?_
  intro p e s m args below meth c ls hC hr hlocks hw hS hl
  have hC : Cx p s m args c cX12_status 1 "FuseBoxModel" E := hC
  obtain ⟨hx, hb, hml, hown, hts, hTB⟩ := id hC
  have hl : lv_has ls 1 [(0, .ref (E.2.2.1 259))] := hl
  refine lv_aload_n hx hb dX12_status_0 rfl (lv_at hl 0 rfl) ?_
  refine gModel_found hC hw wd528 dX12_status_1 ?_
  exact z_iretE hC hlocks hw hS hf hr rfl dX12_status_4
