set_option maxHeartbeats 4000000 in
set_option maxRecDepth 100000 in
theorem m_X12_usedBehind (l : Launch) (E : Ev) {x1 : Int32}  {s0 sz : St} {rz : Int32} (hf : f_X12_usedBehind x1 s0 = some (rz, sz)) : MM l E sh2 yX12_usedBehind cX12_usedBehind 2 (some .int) (rmd 6) [.ref (E.2.2.1 259), .int x1] s0 (some (.int rz)) sz := by
  unfold f_X12_usedBehind at hf
  refine z_enter (by decide +kernel) (Nat.le_of_ble_eq_true rfl) ?_
  intro p e s m args below meth c ls hC hr hlocks hw hS hl
  have hC : Cx p s m args c cX12_usedBehind 2 "FuseBoxModel" E := hC
  obtain ⟨hx, hb, hml, hown, hts, hTB⟩ := id hC
  have hl : lv_has ls 2 [(0, .ref (E.2.2.1 259)), (1, .int x1)] := hl
  refine lv_aload_n hx hb dX12_usedBehind_0 rfl (lv_at hl 0 rfl) ?_
  refine gModel_slot hC hw wd598 dX12_usedBehind_1 ?_
  refine lv_sipush (v := 754) hx hb dX12_usedBehind_4 (by decide) ?_
  refine lv_iconst (v := 0) hx hb dX12_usedBehind_7 (by decide) ?_
  obtain ⟨hin, hf⟩ := ok_chk hf
  obtain ⟨s_1, en, hf⟩ := ok_lt hf
  refine z_iast hC hw hS rfl hin en dX12_usedBehind_8 (fun H locs hw hS => ?_)
  clear en
  refine lv_aload_n hx hb dX12_usedBehind_9 rfl (lv_at hl 0 rfl) ?_
  refine lv_iload_n hx hb dX12_usedBehind_10 rfl (lv_at hl 1 rfl) ?_
  obtain ⟨s_2, hc, hf⟩ := ok_bind hf
  refine z_cV hC hl.1 hw hS (As := [.int x1]) (rest := []) (m_X12_goesOn l E  hc) rfl rfl gc275 gc276 ⟨Nat.le_of_ble_eq_true rfl, Nat.le_of_ble_eq_true rfl⟩ ⟨Nat.le_of_ble_eq_true rfl, Nat.le_of_ble_eq_true rfl⟩ rfl rfl (Nat.le_of_ble_eq_true rfl) dX12_usedBehind_11 (fun H locs hw hS => ?_)
  clear hc
  refine lv_aload_n hx hb dX12_usedBehind_14 rfl (lv_at hl 0 rfl) ?_
  refine gModel_slot hC hw wd598 dX12_usedBehind_15 ?_
  refine lv_sipush (v := 754) hx hb dX12_usedBehind_18 (by decide) ?_
  obtain ⟨hin, hf⟩ := ok_chk hf
  refine z_iald hC hw rfl hin dX12_usedBehind_21 ?_
  exact z_iretE hC hlocks hw hS hf hr rfl dX12_usedBehind_22
set_option maxHeartbeats 4000000 in
set_option maxRecDepth 100000 in
theorem m_X12_plugged (l : Launch) (E : Ev) {x1 : Int32} {x2 : Int32}  {s0 sz : St} {rz : Int32} (hf : f_X12_plugged x1 x2 s0 = some (rz, sz)) : MM l E sh2 yX12_plugged cX12_plugged 5 (some .int) (rmd 1) [.ref (E.2.2.1 259), .int x1, .int x2] s0 (some (.int rz)) sz := by
  unfold f_X12_plugged at hf
  refine z_enter (by decide +kernel) (Nat.le_of_ble_eq_true rfl) ?_
  intro p e s m args below meth c ls hC hr hlocks hw hS hl
  have hC : Cx p s m args c cX12_plugged 5 "FuseBoxModel" E := hC
  obtain ⟨hx, hb, hml, hown, hts, hTB⟩ := id hC
  have hl : lv_has ls 5 [(0, .ref (E.2.2.1 259)), (1, .int x1), (2, .int x2)] := hl
  refine lv_iload_n hx hb dX12_plugged_0 rfl (lv_at hl 1 rfl) ?_
  refine lv_istore_n (lv' := [(3, .int x1), (0, .ref (E.2.2.1 259)), (1, .int x1), (2, .int x2)]) hx hb dX12_plugged_1 rfl hl (by decide) rfl (fun ls hl => ?_)
  refine lv_aload_n hx hb dX12_plugged_2 rfl (lv_at hl 1 rfl) ?_
  refine gModel_told hC hw wd597 dX12_plugged_3 ?_
  refine lv_iconst (v := 1) hx hb dX12_plugged_6 (by decide) ?_
  obtain ⟨hin, hf⟩ := ok_chk hf
  refine z_iald hC hw rfl hin dX12_plugged_7 ?_
  refine lv_iconst (v := 1) hx hb dX12_plugged_8 (by decide) ?_
  refine lv_isub hx hb dX12_plugged_9 ?_
  obtain ⟨v4_1, en, hf⟩ := ok_lt hf
  refine z_nm en ?_
  clear en
  refine lv_istore (lv' := [(4, .int v4_1), (3, .int x1), (0, .ref (E.2.2.1 259)), (1, .int x1), (2, .int x2)]) hx hb dX12_plugged_10 hl (by decide) rfl (fun ls hl => ?_)
  obtain ⟨r12, hL12, hf⟩ := ok_bind hf
  have X12_0 : ∀ (v3_5 : Int32) (s_6 : St), (v3_5, s_6) = r12 → ∀ (H : Heap) (locs : List Loc) (ls : Array Slot), lv_has ls 5 [(0, .ref (E.2.2.1 259)), (2, .int x2), (3, .int v3_5)] → World E sh2 s_6 H → va_S E.2.2.2 s.heap H locs → W p l e (rmd 1) s m args below meth c H locs 0 0 (MQ below (QW E sh2 (some (.int rz)) sz) args s 0 0 E.2.2.2) (F0 m 51 ls []) := by
    intro v3_5 s_6 er H locs ls hl hw hS
    subst er
    replace hf := ok_un2 hf
    refine lv_aload_n hx hb dX12_plugged_51 rfl (lv_at hl 0 rfl) ?_
    refine gModel_slot hC hw wd598 dX12_plugged_52 ?_
    refine lv_bipush (v := 18) hx hb dX12_plugged_55 (by decide) ?_
    refine lv_iload_n hx hb dX12_plugged_57 rfl (lv_at hl 1 rfl) ?_
    refine lv_iadd hx hb dX12_plugged_58 ?_
    obtain ⟨hin, hf⟩ := ok_chk hf
    refine z_iald hC hw rfl hin dX12_plugged_59 ?_
    refine lv_iconst (v := 1) hx hb dX12_plugged_60 (by decide) ?_
    obtain ⟨j84, ej84, hf⟩ := ok_lt hf
    have J84 : ∀ (k_7 : Int32) (s_8 : St), j84 k_7 s_8 = some (rz, sz) → ∀ (H : Heap) (locs : List Loc) (ls : Array Slot), lv_has ls 5 [] → World E sh2 s_8 H → va_S E.2.2.2 s.heap H locs → W p l e (rmd 1) s m args below meth c H locs 0 0 (MQ below (QW E sh2 (some (.int rz)) sz) args s 0 0 E.2.2.2) (F0 m 84 ls [.int k_7]) := by
      intro k_7 s_8 hf H locs ls hl hw hS
      subst ej84
      exact z_iretE hC hlocks hw hS hf hr rfl dX12_plugged_84
    clear ej84
    have hif := ok_if hf
    refine lv_icmp_ne (tgt := 75) hx hb dX12_plugged_61 (by decide) (fun hcd => ?_) (fun hcd => ?_)
    · have hf := hif.1 hcd
      clear hif
      refine lv_aload_n hx hb dX12_plugged_75 rfl (lv_at hl 0 rfl) ?_
      refine gModel_slot hC hw wd598 dX12_plugged_76 ?_
      refine lv_bipush (v := 12) hx hb dX12_plugged_79 (by decide) ?_
      refine lv_iload_n hx hb dX12_plugged_81 rfl (lv_at hl 1 rfl) ?_
      refine lv_iadd hx hb dX12_plugged_82 ?_
      obtain ⟨hin, hf⟩ := ok_chk hf
      refine z_iald hC hw rfl hin dX12_plugged_83 ?_
      exact J84 _ _ hf _ _ ls (lv_sub hl [] rfl) hw hS
    · have hf := hif.2 (fun q => q hcd)
      clear hif
      refine lv_iload_n hx hb dX12_plugged_64 rfl (lv_at hl 2 rfl) ?_
      refine lv_aload_n hx hb dX12_plugged_65 rfl (lv_at hl 0 rfl) ?_
      refine gModel_told hC hw wd597 dX12_plugged_66 ?_
      refine lv_iconst (v := 0) hx hb dX12_plugged_69 (by decide) ?_
      obtain ⟨hin, hf⟩ := ok_chk hf
      refine z_iald hC hw rfl hin dX12_plugged_70 ?_
      obtain ⟨hnz, hf⟩ := ok_chk hf
      refine lv_irem hx hb dX12_plugged_71 hnz ?_
      refine lv_goto (tgt := 84) hx hb dX12_plugged_72 (by decide) ?_
      exact J84 _ _ hf _ _ ls (lv_sub hl [] rfl) hw hS
  have L12 : ∀ (n : Nat) (v3_2 : Int32) (v4_3 : Int32) (s_4 : St), loopF (f_X12_plugged_L12 x2) n (v3_2, v4_3, s_4) = some r12 → ∀ (H : Heap) (locs : List Loc) (ls : Array Slot), lv_has ls 5 [(0, .ref (E.2.2.1 259)), (2, .int x2), (3, .int v3_2), (4, .int v4_3)] → World E sh2 s_4 H → va_S E.2.2.2 s.heap H locs → W p l e (rmd 1) s m args below meth c H locs 0 0 (MQ below (QW E sh2 (some (.int rz)) sz) args s 0 0 E.2.2.2) (F0 m 12 ls []) := by
    intro n
    induction n with
    | zero =>
      intro v3_2 v4_3 s_4 hf
      exact nz hf
    | succ n ih12 =>
      intro v3_2 v4_3 s_4 hf H locs ls hl hw hS
      obtain ⟨xl12, hf, hi12, he12⟩ := ok_loop hf
      unfold f_X12_plugged_L12 at hf
      replace hf := ok_un3 hf
      refine lv_iload hx hb dX12_plugged_12 (lv_at hl 3 rfl) ?_
      refine lv_iload_n hx hb dX12_plugged_14 rfl (lv_at hl 1 rfl) ?_
      have hif := ok_if hf
      refine lv_icmp_le (tgt := 51) hx hb dX12_plugged_15 (by decide) (fun hcd => ?_) (fun hcd => ?_)
      · have hf := hif.1 hcd
        clear hif
        cases hf
        exact X12_0 _ _ (he12 _ rfl) _ _ ls (lv_sub hl [0, 1, 2] rfl) hw hS
      · have hf := hif.2 hcd
        clear hif
        refine lv_iload_n hx hb dX12_plugged_18 rfl (lv_at hl 2 rfl) ?_
        refine lv_aload_n hx hb dX12_plugged_19 rfl (lv_at hl 0 rfl) ?_
        refine gModel_slot hC hw wd598 dX12_plugged_20 ?_
        refine lv_bipush (v := 18) hx hb dX12_plugged_23 (by decide) ?_
        refine lv_iload hx hb dX12_plugged_25 (lv_at hl 3 rfl) ?_
        refine lv_iadd hx hb dX12_plugged_27 ?_
        obtain ⟨hin, hf⟩ := ok_chk hf
        refine z_iald hC hw rfl hin dX12_plugged_28 ?_
        refine lv_iconst (v := 1) hx hb dX12_plugged_29 (by decide) ?_
        obtain ⟨j43, ej43, hf⟩ := ok_lt hf
        have J43 : ∀ (k_9 : Int32) (s_10 : St), j43 k_9 s_10 = some xl12 → ∀ (H : Heap) (locs : List Loc) (ls : Array Slot), lv_has ls 5 [(0, .ref (E.2.2.1 259)), (2, .int x2), (4, .int v4_3)] → World E sh2 s_10 H → va_S E.2.2.2 s.heap H locs → W p l e (rmd 1) s m args below meth c H locs 0 0 (MQ below (QW E sh2 (some (.int rz)) sz) args s 0 0 E.2.2.2) (F0 m 43 ls [.int k_9, .int v3_2]) := by
          intro k_9 s_10 hf H locs ls hl hw hS
          subst ej43
          obtain ⟨hnz, hf⟩ := ok_chk hf
          refine lv_idiv hx hb dX12_plugged_43 hnz ?_
          obtain ⟨v3_11, en, hf⟩ := ok_lt hf
          refine z_nm en ?_
          clear en
          refine lv_istore_n (lv' := [(3, .int v3_11), (0, .ref (E.2.2.1 259)), (2, .int x2), (4, .int v4_3)]) hx hb dX12_plugged_44 rfl hl (by decide) rfl (fun ls hl => ?_)
          obtain ⟨v4_12, en, hf⟩ := ok_lt hf
          refine lv_iinc (v := v4_12) (lv' := [(4, .int v4_12), (3, .int v3_11), (0, .ref (E.2.2.1 259)), (2, .int x2)]) hx hb dX12_plugged_45 hl (k := 3) rfl (by rw [en]; rfl) (by decide) rfl (fun ls hl => ?_)
          clear en
          refine lv_goto (tgt := 12) hx hb dX12_plugged_48 (by decide) ?_
          cases hf
          exact ih12 _ _ _ (hi12 _ rfl) _ _ ls (lv_sub hl [2, 3, 1, 0] rfl) hw hS
        clear ej43
        have hif := ok_if hf
        refine lv_icmp_ne (tgt := 42) hx hb dX12_plugged_30 (by decide) (fun hcd => ?_) (fun hcd => ?_)
        · have hf := hif.1 hcd
          clear hif
          refine lv_iconst (v := 1) hx hb dX12_plugged_42 (by decide) ?_
          exact J43 _ _ hf _ _ ls (lv_sub hl [0, 1, 3] rfl) hw hS
        · have hf := hif.2 (fun q => q hcd)
          clear hif
          refine lv_aload_n hx hb dX12_plugged_33 rfl (lv_at hl 0 rfl) ?_
          refine gModel_told hC hw wd597 dX12_plugged_34 ?_
          refine lv_iconst (v := 0) hx hb dX12_plugged_37 (by decide) ?_
          obtain ⟨hin, hf⟩ := ok_chk hf
          refine z_iald hC hw rfl hin dX12_plugged_38 ?_
          refine lv_goto (tgt := 43) hx hb dX12_plugged_39 (by decide) ?_
          exact J43 _ _ hf _ _ ls (lv_sub hl [0, 1, 3] rfl) hw hS
  exact L12 5000 _ _ _ hL12 _ _ ls (lv_sub hl [2, 4, 1, 0] rfl) hw hS
set_option maxHeartbeats 4000000 in
set_option maxRecDepth 100000 in
theorem m_X12_plugs (l : Launch) (E : Ev) {x1 : Int32} {x2 : Int32}  {s0 sz : St} {rz : Int32} (hf : f_X12_plugs x1 x2 s0 = some (rz, sz)) : MM l E sh2 yX12_plugs cX12_plugs 8 (some .int) (rmd 7) [.ref (E.2.2.1 259), .int x1, .int x2] s0 (some (.int rz)) sz := by
  unfold f_X12_plugs at hf
  refine z_enter (by decide +kernel) (Nat.le_of_ble_eq_true rfl) ?_
  intro p e s m args below meth c ls hC hr hlocks hw hS hl
  have hC : Cx p s m args c cX12_plugs 8 "FuseBoxModel" E := hC
  obtain ⟨hx, hb, hml, hown, hts, hTB⟩ := id hC
  have hl : lv_has ls 8 [(0, .ref (E.2.2.1 259)), (1, .int x1), (2, .int x2)] := hl
  refine lv_aload_n hx hb dX12_plugs_0 rfl (lv_at hl 0 rfl) ?_
  obtain ⟨r_2, s_1, hc, hf⟩ := ok_bd hf
  refine z_cV hC hl.1 hw hS (As := []) (rest := []) (m_X12_isHouse l E  hc) rfl rfl gc259 gc260 ⟨Nat.le_of_ble_eq_true rfl, Nat.le_of_ble_eq_true rfl⟩ ⟨Nat.le_of_ble_eq_true rfl, Nat.le_of_ble_eq_true rfl⟩ rfl rfl (Nat.le_of_ble_eq_true rfl) dX12_plugs_1 (fun H locs hw hS => ?_)
  clear hc
  have hif := ok_if hf
  refine lv_if_ne (tgt := 10) hx hb dX12_plugs_4 (by decide) (fun hcd => ?_) (fun hcd => ?_)
  · have hf := hif.1 hcd
    clear hif
    refine lv_iload_n hx hb dX12_plugs_10 rfl (lv_at hl 1 rfl) ?_
    refine lv_i2l (v := x1.toInt64) hx hb dX12_plugs_11 rfl ?_
    refine lv_lconst (v := 1) hx hb dX12_plugs_12 (by decide) ?_
    refine lv_ldc2 (v := 12) hx hb hown (hts _ wd696) dX12_plugs_13 ?_
    obtain ⟨r_4, s_3, hc, hf⟩ := ok_bd hf
    refine z_cS hC hl.1 hw hS (As := [.long (x1.toInt64), .long (1 : Int64), .long (12 : Int64)]) (rest := []) (m_X12_in l E  hc) gc219 gc220 ⟨Nat.le_of_ble_eq_true rfl, Nat.le_of_ble_eq_true rfl⟩ ⟨Nat.le_of_ble_eq_true rfl, Nat.le_of_ble_eq_true rfl⟩ rfl rfl (Nat.le_of_ble_eq_true rfl) dX12_plugs_16 (fun H locs hw hS => ?_)
    clear hc
    obtain ⟨j42, ej42, hf⟩ := ok_lt hf
    have J42 : ∀ (s_5 : St), j42 s_5 = some (rz, sz) → ∀ (H : Heap) (locs : List Loc) (ls : Array Slot), lv_has ls 8 [] → World E sh2 s_5 H → va_S E.2.2.2 s.heap H locs → W p l e (rmd 7) s m args below meth c H locs 0 0 (MQ below (QW E sh2 (some (.int rz)) sz) args s 0 0 E.2.2.2) (F0 m 42 ls []) := by
      intro s_5 hf H locs ls hl hw hS
      subst ej42
      refine lv_ldc (v := -1000001) hx hb hown (hts _ wd535) dX12_plugs_42 ?_
      exact z_iretE hC hlocks hw hS hf hr rfl dX12_plugs_44
    clear ej42
    have hif := ok_if hf
    refine lv_if_eq (tgt := 42) hx hb dX12_plugs_19 (by decide) (fun hcd => ?_) (fun hcd => ?_)
    · have hf := hif.1 hcd
      clear hif
      exact J42 _ hf _ _ ls (lv_sub hl [] rfl) hw hS
    · have hf := hif.2 hcd
      clear hif
      refine lv_iload_n hx hb dX12_plugs_22 rfl (lv_at hl 2 rfl) ?_
      refine lv_i2l (v := x2.toInt64) hx hb dX12_plugs_23 rfl ?_
      refine lv_ldc2 (v := -1) hx hb hown (hts _ wd697) dX12_plugs_24 ?_
      refine lv_aload_n hx hb dX12_plugs_27 rfl (lv_at hl 0 rfl) ?_
      refine gModel_told hC hw wd597 dX12_plugs_28 ?_
      refine lv_iconst (v := 1) hx hb dX12_plugs_31 (by decide) ?_
      obtain ⟨hin, hf⟩ := ok_chk hf
      refine z_iald hC hw rfl hin dX12_plugs_32 ?_
      refine lv_iconst (v := 1) hx hb dX12_plugs_33 (by decide) ?_
      refine lv_isub hx hb dX12_plugs_34 ?_
      refine lv_i2l (v := (((s_3 261 ((1 : Int32)).toNatClampNeg) - (1 : Int32))).toInt64) hx hb dX12_plugs_35 rfl ?_
      obtain ⟨r_7, s_6, hc, hf⟩ := ok_bd hf
      refine z_cS hC hl.1 hw hS (As := [.long (x2.toInt64), .long (-1 : Int64), .long ((((s_3 261 ((1 : Int32)).toNatClampNeg) - (1 : Int32))).toInt64)]) (rest := []) (m_X12_in l E  hc) gc219 gc220 ⟨Nat.le_of_ble_eq_true rfl, Nat.le_of_ble_eq_true rfl⟩ ⟨Nat.le_of_ble_eq_true rfl, Nat.le_of_ble_eq_true rfl⟩ rfl rfl (Nat.le_of_ble_eq_true rfl) dX12_plugs_36 (fun H locs hw hS => ?_)
      clear hc
      have hif := ok_if hf
      refine lv_if_ne (tgt := 45) hx hb dX12_plugs_39 (by decide) (fun hcd => ?_) (fun hcd => ?_)
      · have hf := hif.1 hcd
        clear hif
        refine lv_iconst (v := 1) hx hb dX12_plugs_45 (by decide) ?_
        obtain ⟨v3_8, en, hf⟩ := ok_lt hf
        refine z_nm en ?_
        clear en
        refine lv_istore_n (lv' := [(3, .int v3_8), (0, .ref (E.2.2.1 259)), (1, .int x1), (2, .int x2)]) hx hb dX12_plugs_46 rfl hl (by decide) rfl (fun ls hl => ?_)
        refine lv_iconst (v := 0) hx hb dX12_plugs_47 (by decide) ?_
        obtain ⟨v4_9, en, hf⟩ := ok_lt hf
        refine z_nm en ?_
        clear en
        refine lv_istore (lv' := [(4, .int v4_9), (3, .int v3_8), (0, .ref (E.2.2.1 259)), (1, .int x1), (2, .int x2)]) hx hb dX12_plugs_48 hl (by decide) rfl (fun ls hl => ?_)
        obtain ⟨r50, hL50, hf⟩ := ok_bind hf
        have X50_0 : ∀ (v3_13 : Int32) (s_14 : St), (v3_13, s_14) = r50 → ∀ (H : Heap) (locs : List Loc) (ls : Array Slot), lv_has ls 8 [(0, .ref (E.2.2.1 259)), (1, .int x1), (2, .int x2), (3, .int v3_13)] → World E sh2 s_14 H → va_S E.2.2.2 s.heap H locs → W p l e (rmd 7) s m args below meth c H locs 0 0 (MQ below (QW E sh2 (some (.int rz)) sz) args s 0 0 E.2.2.2) (F0 m 94 ls []) := by
          intro v3_13 s_14 er H locs ls hl hw hS
          subst er
          replace hf := ok_un2 hf
          refine lv_iconst (v := 0) hx hb dX12_plugs_94 (by decide) ?_
          obtain ⟨v4_15, en, hf⟩ := ok_lt hf
          refine z_nm en ?_
          clear en
          refine lv_istore (lv' := [(4, .int v4_15), (0, .ref (E.2.2.1 259)), (1, .int x1), (2, .int x2), (3, .int v3_13)]) hx hb dX12_plugs_95 hl (by decide) rfl (fun ls hl => ?_)
          refine lv_iconst (v := -1) hx hb dX12_plugs_97 (by decide) ?_
          obtain ⟨v5_16, en, hf⟩ := ok_lt hf
          refine z_nm en ?_
          clear en
          refine lv_istore (lv' := [(5, .int v5_16), (4, .int v4_15), (0, .ref (E.2.2.1 259)), (1, .int x1), (2, .int x2), (3, .int v3_13)]) hx hb dX12_plugs_98 hl (by decide) rfl (fun ls hl => ?_)
          refine lv_iconst (v := 0) hx hb dX12_plugs_100 (by decide) ?_
          obtain ⟨v6_17, en, hf⟩ := ok_lt hf
          refine z_nm en ?_
          clear en
          refine lv_istore (lv' := [(6, .int v6_17), (5, .int v5_16), (4, .int v4_15), (0, .ref (E.2.2.1 259)), (1, .int x1), (2, .int x2), (3, .int v3_13)]) hx hb dX12_plugs_101 hl (by decide) rfl (fun ls hl => ?_)
          obtain ⟨r103, hL103, hf⟩ := ok_bind hf
          have X103_0 : ∀ (v4_22 : Int32) (v5_23 : Int32) (s_24 : St), (v4_22, v5_23, s_24) = r103 → ∀ (H : Heap) (locs : List Loc) (ls : Array Slot), lv_has ls 8 [(0, .ref (E.2.2.1 259)), (2, .int x2), (4, .int v4_22), (5, .int v5_23)] → World E sh2 s_24 H → va_S E.2.2.2 s.heap H locs → W p l e (rmd 7) s m args below meth c H locs 0 0 (MQ below (QW E sh2 (some (.int rz)) sz) args s 0 0 E.2.2.2) (F0 m 194 ls []) := by
            intro v4_22 v5_23 s_24 er H locs ls hl hw hS
            subst er
            replace hf := ok_un3 hf
            refine lv_iload_n hx hb dX12_plugs_194 rfl (lv_at hl 1 rfl) ?_
            obtain ⟨j210, ej210, hf⟩ := ok_lt hf
            have J210 : ∀ (k_25 : Int32) (s_26 : St), j210 k_25 s_26 = some (rz, sz) → ∀ (H : Heap) (locs : List Loc) (ls : Array Slot), lv_has ls 8 [] → World E sh2 s_26 H → va_S E.2.2.2 s.heap H locs → W p l e (rmd 7) s m args below meth c H locs 0 0 (MQ below (QW E sh2 (some (.int rz)) sz) args s 0 0 E.2.2.2) (F0 m 210 ls [.int k_25]) := by
              intro k_25 s_26 hf H locs ls hl hw hS
              subst ej210
              exact z_iretE hC hlocks hw hS hf hr rfl dX12_plugs_210
            clear ej210
            have hif := ok_if hf
            refine lv_if_ge (tgt := 203) hx hb dX12_plugs_195 (by decide) (fun hcd => ?_) (fun hcd => ?_)
            · have hf := hif.1 hcd
              clear hif
              refine lv_aload_n hx hb dX12_plugs_203 rfl (lv_at hl 0 rfl) ?_
              refine lv_iload hx hb dX12_plugs_204 (lv_at hl 2 rfl) ?_
              refine lv_iload_n hx hb dX12_plugs_206 rfl (lv_at hl 1 rfl) ?_
              obtain ⟨r_28, s_27, hc, hf⟩ := ok_bd hf
              refine z_cV hC hl.1 hw hS (As := [.int v4_22, .int x2]) (rest := []) (m_X12_plugged l E  hc) rfl rfl gc285 gc286 ⟨Nat.le_of_ble_eq_true rfl, Nat.le_of_ble_eq_true rfl⟩ ⟨Nat.le_of_ble_eq_true rfl, Nat.le_of_ble_eq_true rfl⟩ rfl rfl (Nat.le_of_ble_eq_true rfl) dX12_plugs_207 (fun H locs hw hS => ?_)
              clear hc
              exact J210 _ _ hf _ _ ls (lv_sub hl [] rfl) hw hS
            · have hf := hif.2 hcd
              clear hif
              refine lv_iload hx hb dX12_plugs_198 (lv_at hl 3 rfl) ?_
              refine lv_goto (tgt := 210) hx hb dX12_plugs_200 (by decide) ?_
              exact J210 _ _ hf _ _ ls (lv_sub hl [] rfl) hw hS
          have L103 : ∀ (n : Nat) (v4_18 : Int32) (v5_19 : Int32) (v6_20 : Int32) (s_21 : St), loopF (f_X12_plugs_L103 x1 v3_13) n (v4_18, v5_19, v6_20, s_21) = some r103 → ∀ (H : Heap) (locs : List Loc) (ls : Array Slot), lv_has ls 8 [(0, .ref (E.2.2.1 259)), (1, .int x1), (2, .int x2), (3, .int v3_13), (4, .int v4_18), (5, .int v5_19), (6, .int v6_20)] → World E sh2 s_21 H → va_S E.2.2.2 s.heap H locs → W p l e (rmd 7) s m args below meth c H locs 0 0 (MQ below (QW E sh2 (some (.int rz)) sz) args s 0 0 E.2.2.2) (F0 m 103 ls []) := by
            intro n
            induction n with
            | zero =>
              intro v4_18 v5_19 v6_20 s_21 hf
              exact nz hf
            | succ n ih103 =>
              intro v4_18 v5_19 v6_20 s_21 hf H locs ls hl hw hS
              obtain ⟨xl103, hf, hi103, he103⟩ := ok_loop hf
              unfold f_X12_plugs_L103 at hf
              replace hf := ok_un4 hf
              refine lv_iload hx hb dX12_plugs_103 (lv_at hl 6 rfl) ?_
              refine lv_iload_n hx hb dX12_plugs_105 rfl (lv_at hl 3 rfl) ?_
              have hif := ok_if hf
              refine lv_icmp_ge (tgt := 194) hx hb dX12_plugs_106 (by decide) (fun hcd => ?_) (fun hcd => ?_)
              · have hf := hif.1 hcd
                clear hif
                cases hf
                exact X103_0 _ _ _ (he103 _ rfl) _ _ ls (lv_sub hl [0, 2, 4, 5] rfl) hw hS
              · have hf := hif.2 hcd
                clear hif
                refine lv_aload_n hx hb dX12_plugs_109 rfl (lv_at hl 0 rfl) ?_
                refine lv_iconst (v := 0) hx hb dX12_plugs_110 (by decide) ?_
                refine lv_sipush (v := 729) hx hb dX12_plugs_111 (by decide) ?_
                obtain ⟨s_29, hc, hf⟩ := ok_bind hf
                refine z_cV hC hl.1 hw hS (As := [.int (0 : Int32), .int (729 : Int32)]) (rest := []) (m_X12_copies l E  hc) rfl rfl gc257 gc258 ⟨Nat.le_of_ble_eq_true rfl, Nat.le_of_ble_eq_true rfl⟩ ⟨Nat.le_of_ble_eq_true rfl, Nat.le_of_ble_eq_true rfl⟩ rfl rfl (Nat.le_of_ble_eq_true rfl) dX12_plugs_114 (fun H locs hw hS => ?_)
                clear hc
                refine lv_iconst (v := 0) hx hb dX12_plugs_117 (by decide) ?_
                obtain ⟨v7_30, en, hf⟩ := ok_lt hf
                refine z_nm en ?_
                clear en
                refine lv_istore (lv' := [(7, .int v7_30), (0, .ref (E.2.2.1 259)), (1, .int x1), (2, .int x2), (3, .int v3_13), (4, .int v4_18), (5, .int v5_19), (6, .int v6_20)]) hx hb dX12_plugs_118 hl (by decide) rfl (fun ls hl => ?_)
                obtain ⟨r120, hL120, hf⟩ := ok_bind hf
                have X120_0 : ∀ (s_33 : St), s_33 = r120 → ∀ (H : Heap) (locs : List Loc) (ls : Array Slot), lv_has ls 8 [(0, .ref (E.2.2.1 259)), (1, .int x1), (2, .int x2), (3, .int v3_13), (4, .int v4_18), (5, .int v5_19), (6, .int v6_20)] → World E sh2 s_33 H → va_S E.2.2.2 s.heap H locs → W p l e (rmd 7) s m args below meth c H locs 0 0 (MQ below (QW E sh2 (some (.int rz)) sz) args s 0 0 E.2.2.2) (F0 m 156 ls []) := by
                  intro s_33 er H locs ls hl hw hS
                  subst er
                  replace hf := ok_un1 hf
                  refine lv_aload_n hx hb dX12_plugs_156 rfl (lv_at hl 0 rfl) ?_
                  refine lv_iload_n hx hb dX12_plugs_157 rfl (lv_at hl 1 rfl) ?_
                  obtain ⟨r_35, s_34, hc, hf⟩ := ok_bd hf
                  refine z_cV hC hl.1 hw hS (As := [.int x1]) (rest := []) (m_X12_usedBehind l E  hc) rfl rfl gc287 gc288 ⟨Nat.le_of_ble_eq_true rfl, Nat.le_of_ble_eq_true rfl⟩ ⟨Nat.le_of_ble_eq_true rfl, Nat.le_of_ble_eq_true rfl⟩ rfl rfl (Nat.le_of_ble_eq_true rfl) dX12_plugs_158 (fun H locs hw hS => ?_)
                  clear hc
                  refine lv_istore (lv' := [(7, .int r_35), (0, .ref (E.2.2.1 259)), (1, .int x1), (2, .int x2), (3, .int v3_13), (4, .int v4_18), (5, .int v5_19), (6, .int v6_20)]) hx hb dX12_plugs_161 hl (by decide) rfl (fun ls hl => ?_)
                  refine lv_iload hx hb dX12_plugs_163 (lv_at hl 0 rfl) ?_
                  refine lv_iload hx hb dX12_plugs_165 (lv_at hl 6 rfl) ?_
                  obtain ⟨j177, ej177, hf⟩ := ok_lt hf
                  have J177 : ∀ (k_36 : Int32) (s_37 : St), j177 k_36 s_37 = some xl103 → ∀ (H : Heap) (locs : List Loc) (ls : Array Slot), lv_has ls 8 [(0, .ref (E.2.2.1 259)), (1, .int x1), (2, .int x2), (3, .int v3_13), (5, .int v5_19), (6, .int v6_20), (7, .int r_35)] → World E sh2 s_37 H → va_S E.2.2.2 s.heap H locs → W p l e (rmd 7) s m args below meth c H locs 0 0 (MQ below (QW E sh2 (some (.int rz)) sz) args s 0 0 E.2.2.2) (F0 m 177 ls [.int k_36]) := by
                    intro k_36 s_37 hf H locs ls hl hw hS
                    subst ej177
                    refine lv_istore (lv' := [(4, .int k_36), (0, .ref (E.2.2.1 259)), (1, .int x1), (2, .int x2), (3, .int v3_13), (5, .int v5_19), (6, .int v6_20), (7, .int r_35)]) hx hb dX12_plugs_177 hl (by decide) rfl (fun ls hl => ?_)
                    refine lv_iload hx hb dX12_plugs_179 (lv_at hl 5 rfl) ?_
                    refine lv_iload hx hb dX12_plugs_181 (lv_at hl 7 rfl) ?_
                    obtain ⟨r_39, s_38, hc, hf⟩ := ok_bd hf
                    refine z_cS hC hl.1 hw hS (As := [.int v5_19, .int r_35]) (rest := []) (m_X12_larger l E  hc) gc245 gc246 ⟨Nat.le_of_ble_eq_true rfl, Nat.le_of_ble_eq_true rfl⟩ ⟨Nat.le_of_ble_eq_true rfl, Nat.le_of_ble_eq_true rfl⟩ rfl rfl (Nat.le_of_ble_eq_true rfl) dX12_plugs_183 (fun H locs hw hS => ?_)
                    clear hc
                    refine lv_istore (lv' := [(5, .int r_39), (4, .int k_36), (0, .ref (E.2.2.1 259)), (1, .int x1), (2, .int x2), (3, .int v3_13), (6, .int v6_20), (7, .int r_35)]) hx hb dX12_plugs_186 hl (by decide) rfl (fun ls hl => ?_)
                    obtain ⟨v6_40, en, hf⟩ := ok_lt hf
                    refine lv_iinc (v := v6_40) (lv' := [(6, .int v6_40), (5, .int r_39), (4, .int k_36), (0, .ref (E.2.2.1 259)), (1, .int x1), (2, .int x2), (3, .int v3_13), (7, .int r_35)]) hx hb dX12_plugs_188 hl (k := 6) rfl (by rw [en]; rfl) (by decide) rfl (fun ls hl => ?_)
                    clear en
                    refine lv_goto (tgt := 103) hx hb dX12_plugs_191 (by decide) ?_
                    cases hf
                    exact ih103 _ _ _ _ (hi103 _ rfl) _ _ ls (lv_sub hl [3, 4, 5, 6, 2, 1, 0] rfl) hw hS
                  clear ej177
                  have hif := ok_if hf
                  refine lv_icmp_le (tgt := 175) hx hb dX12_plugs_167 (by decide) (fun hcd => ?_) (fun hcd => ?_)
                  · have hf := hif.1 hcd
                    clear hif
                    refine lv_iload hx hb dX12_plugs_175 (lv_at hl 5 rfl) ?_
                    exact J177 _ _ hf _ _ ls (lv_sub hl [1, 2, 3, 4, 6, 7, 0] rfl) hw hS
                  · have hf := hif.2 hcd
                    clear hif
                    refine lv_iload hx hb dX12_plugs_170 (lv_at hl 7 rfl) ?_
                    refine lv_goto (tgt := 177) hx hb dX12_plugs_172 (by decide) ?_
                    exact J177 _ _ hf _ _ ls (lv_sub hl [1, 2, 3, 4, 6, 7, 0] rfl) hw hS
                have L120 : ∀ (n : Nat) (v7_31 : Int32) (s_32 : St), loopF (f_X12_plugs_L120 v6_20) n (v7_31, s_32) = some r120 → ∀ (H : Heap) (locs : List Loc) (ls : Array Slot), lv_has ls 8 [(0, .ref (E.2.2.1 259)), (1, .int x1), (2, .int x2), (3, .int v3_13), (4, .int v4_18), (5, .int v5_19), (6, .int v6_20), (7, .int v7_31)] → World E sh2 s_32 H → va_S E.2.2.2 s.heap H locs → W p l e (rmd 7) s m args below meth c H locs 0 0 (MQ below (QW E sh2 (some (.int rz)) sz) args s 0 0 E.2.2.2) (F0 m 120 ls []) := by
                  intro n
                  induction n with
                  | zero =>
                    intro v7_31 s_32 hf
                    exact nz hf
                  | succ n ih120 =>
                    intro v7_31 s_32 hf H locs ls hl hw hS
                    obtain ⟨xl120, hf, hi120, he120⟩ := ok_loop hf
                    unfold f_X12_plugs_L120 at hf
                    replace hf := ok_un2 hf
                    refine lv_iload hx hb dX12_plugs_120 (lv_at hl 7 rfl) ?_
                    refine lv_aload_n hx hb dX12_plugs_122 rfl (lv_at hl 0 rfl) ?_
                    refine gModel_told hC hw wd597 dX12_plugs_123 ?_
                    refine lv_iconst (v := 1) hx hb dX12_plugs_126 (by decide) ?_
                    obtain ⟨hin, hf⟩ := ok_chk hf
                    refine z_iald hC hw rfl hin dX12_plugs_127 ?_
                    have hif := ok_if hf
                    refine lv_icmp_ge (tgt := 156) hx hb dX12_plugs_128 (by decide) (fun hcd => ?_) (fun hcd => ?_)
                    · have hf := hif.1 hcd
                      clear hif
                      cases hf
                      exact X120_0 _ (he120 _ rfl) _ _ ls (lv_sub hl [0, 1, 2, 3, 4, 5, 6] rfl) hw hS
                    · have hf := hif.2 hcd
                      clear hif
                      refine lv_aload_n hx hb dX12_plugs_131 rfl (lv_at hl 0 rfl) ?_
                      refine gModel_slot hC hw wd598 dX12_plugs_132 ?_
                      refine lv_sipush (v := 741) hx hb dX12_plugs_135 (by decide) ?_
                      refine lv_iload hx hb dX12_plugs_138 (lv_at hl 7 rfl) ?_
                      refine lv_iadd hx hb dX12_plugs_140 ?_
                      refine lv_aload_n hx hb dX12_plugs_141 rfl (lv_at hl 0 rfl) ?_
                      refine lv_iload hx hb dX12_plugs_142 (lv_at hl 6 rfl) ?_
                      refine lv_iload hx hb dX12_plugs_144 (lv_at hl 7 rfl) ?_
                      obtain ⟨r_42, s_41, hc, hf⟩ := ok_bd hf
                      refine z_cV hC hl.1 hw hS (As := [.int v6_20, .int v7_31]) (rest := [.int ((741 : Int32) + v7_31), .ref (E.2.2.1 260)]) (m_X12_plugged l E  hc) rfl rfl gc285 gc286 ⟨Nat.le_of_ble_eq_true rfl, Nat.le_of_ble_eq_true rfl⟩ ⟨Nat.le_of_ble_eq_true rfl, Nat.le_of_ble_eq_true rfl⟩ rfl rfl (Nat.le_of_ble_eq_true rfl) dX12_plugs_146 (fun H locs hw hS => ?_)
                      clear hc
                      obtain ⟨hin, hf⟩ := ok_chk hf
                      obtain ⟨s_43, en, hf⟩ := ok_lt hf
                      refine z_iast hC hw hS rfl hin en dX12_plugs_149 (fun H locs hw hS => ?_)
                      clear en
                      obtain ⟨v7_44, en, hf⟩ := ok_lt hf
                      refine lv_iinc (v := v7_44) (lv' := [(7, .int v7_44), (0, .ref (E.2.2.1 259)), (1, .int x1), (2, .int x2), (3, .int v3_13), (4, .int v4_18), (5, .int v5_19), (6, .int v6_20)]) hx hb dX12_plugs_150 hl (k := 7) rfl (by rw [en]; rfl) (by decide) rfl (fun ls hl => ?_)
                      clear en
                      refine lv_goto (tgt := 120) hx hb dX12_plugs_153 (by decide) ?_
                      cases hf
                      exact ih120 _ _ (hi120 _ rfl) _ _ ls (lv_sub hl [1, 2, 3, 4, 5, 6, 7, 0] rfl) hw hS
                exact L120 5000 _ _ hL120 _ _ ls (lv_sub hl [1, 2, 3, 4, 5, 6, 7, 0] rfl) hw hS
          exact L103 5000 _ _ _ _ hL103 _ _ ls (lv_sub hl [3, 4, 5, 6, 2, 1, 0] rfl) hw hS
        have L50 : ∀ (n : Nat) (v3_10 : Int32) (v4_11 : Int32) (s_12 : St), loopF f_X12_plugs_L50 n (v3_10, v4_11, s_12) = some r50 → ∀ (H : Heap) (locs : List Loc) (ls : Array Slot), lv_has ls 8 [(0, .ref (E.2.2.1 259)), (1, .int x1), (2, .int x2), (3, .int v3_10), (4, .int v4_11)] → World E sh2 s_12 H → va_S E.2.2.2 s.heap H locs → W p l e (rmd 7) s m args below meth c H locs 0 0 (MQ below (QW E sh2 (some (.int rz)) sz) args s 0 0 E.2.2.2) (F0 m 50 ls []) := by
          intro n
          induction n with
          | zero =>
            intro v3_10 v4_11 s_12 hf
            exact nz hf
          | succ n ih50 =>
            intro v3_10 v4_11 s_12 hf H locs ls hl hw hS
            obtain ⟨xl50, hf, hi50, he50⟩ := ok_loop hf
            unfold f_X12_plugs_L50 at hf
            replace hf := ok_un3 hf
            refine lv_iload hx hb dX12_plugs_50 (lv_at hl 4 rfl) ?_
            refine lv_aload_n hx hb dX12_plugs_52 rfl (lv_at hl 0 rfl) ?_
            refine gModel_told hC hw wd597 dX12_plugs_53 ?_
            refine lv_iconst (v := 1) hx hb dX12_plugs_56 (by decide) ?_
            obtain ⟨hin, hf⟩ := ok_chk hf
            refine z_iald hC hw rfl hin dX12_plugs_57 ?_
            have hif := ok_if hf
            refine lv_icmp_ge (tgt := 94) hx hb dX12_plugs_58 (by decide) (fun hcd => ?_) (fun hcd => ?_)
            · have hf := hif.1 hcd
              clear hif
              cases hf
              exact X50_0 _ _ (he50 _ rfl) _ _ ls (lv_sub hl [0, 1, 2, 3] rfl) hw hS
            · have hf := hif.2 hcd
              clear hif
              refine lv_iload_n hx hb dX12_plugs_61 rfl (lv_at hl 3 rfl) ?_
              refine lv_aload_n hx hb dX12_plugs_62 rfl (lv_at hl 0 rfl) ?_
              refine gModel_slot hC hw wd598 dX12_plugs_63 ?_
              refine lv_bipush (v := 18) hx hb dX12_plugs_66 (by decide) ?_
              refine lv_iload hx hb dX12_plugs_68 (lv_at hl 4 rfl) ?_
              refine lv_iadd hx hb dX12_plugs_70 ?_
              obtain ⟨hin, hf⟩ := ok_chk hf
              refine z_iald hC hw rfl hin dX12_plugs_71 ?_
              refine lv_iconst (v := 1) hx hb dX12_plugs_72 (by decide) ?_
              obtain ⟨j86, ej86, hf⟩ := ok_lt hf
              have J86 : ∀ (k_45 : Int32) (s_46 : St), j86 k_45 s_46 = some xl50 → ∀ (H : Heap) (locs : List Loc) (ls : Array Slot), lv_has ls 8 [(0, .ref (E.2.2.1 259)), (1, .int x1), (2, .int x2), (4, .int v4_11)] → World E sh2 s_46 H → va_S E.2.2.2 s.heap H locs → W p l e (rmd 7) s m args below meth c H locs 0 0 (MQ below (QW E sh2 (some (.int rz)) sz) args s 0 0 E.2.2.2) (F0 m 86 ls [.int k_45, .int v3_10]) := by
                intro k_45 s_46 hf H locs ls hl hw hS
                subst ej86
                refine lv_imul hx hb dX12_plugs_86 ?_
                obtain ⟨v3_47, en, hf⟩ := ok_lt hf
                refine z_nm en ?_
                clear en
                refine lv_istore_n (lv' := [(3, .int v3_47), (0, .ref (E.2.2.1 259)), (1, .int x1), (2, .int x2), (4, .int v4_11)]) hx hb dX12_plugs_87 rfl hl (by decide) rfl (fun ls hl => ?_)
                obtain ⟨v4_48, en, hf⟩ := ok_lt hf
                refine lv_iinc (v := v4_48) (lv' := [(4, .int v4_48), (3, .int v3_47), (0, .ref (E.2.2.1 259)), (1, .int x1), (2, .int x2)]) hx hb dX12_plugs_88 hl (k := 4) rfl (by rw [en]; rfl) (by decide) rfl (fun ls hl => ?_)
                clear en
                refine lv_goto (tgt := 50) hx hb dX12_plugs_91 (by decide) ?_
                cases hf
                exact ih50 _ _ _ (hi50 _ rfl) _ _ ls (lv_sub hl [2, 3, 4, 1, 0] rfl) hw hS
              clear ej86
              have hif := ok_if hf
              refine lv_icmp_ne (tgt := 85) hx hb dX12_plugs_73 (by decide) (fun hcd => ?_) (fun hcd => ?_)
              · have hf := hif.1 hcd
                clear hif
                refine lv_iconst (v := 1) hx hb dX12_plugs_85 (by decide) ?_
                exact J86 _ _ hf _ _ ls (lv_sub hl [0, 1, 2, 4] rfl) hw hS
              · have hf := hif.2 (fun q => q hcd)
                clear hif
                refine lv_aload_n hx hb dX12_plugs_76 rfl (lv_at hl 0 rfl) ?_
                refine gModel_told hC hw wd597 dX12_plugs_77 ?_
                refine lv_iconst (v := 0) hx hb dX12_plugs_80 (by decide) ?_
                obtain ⟨hin, hf⟩ := ok_chk hf
                refine z_iald hC hw rfl hin dX12_plugs_81 ?_
                refine lv_goto (tgt := 86) hx hb dX12_plugs_82 (by decide) ?_
                exact J86 _ _ hf _ _ ls (lv_sub hl [0, 1, 2, 4] rfl) hw hS
        exact L50 5000 _ _ _ hL50 _ _ ls (lv_sub hl [2, 3, 4, 1, 0] rfl) hw hS
      · have hf := hif.2 (fun q => q hcd)
        clear hif
        exact J42 _ hf _ _ ls (lv_sub hl [] rfl) hw hS
  · have hf := hif.2 (fun q => q hcd)
    clear hif
    refine lv_ldc (v := -1000002) hx hb hown (hts _ wd650) dX12_plugs_7 ?_
    exact z_iretE hC hlocks hw hS hf hr rfl dX12_plugs_9
set_option maxHeartbeats 4000000 in
set_option maxRecDepth 100000 in
theorem m_X12_holds (l : Launch) (E : Ev) {x1 : Int32} {x2 : Int32}  {s0 sz : St} {rz : Int32} (hf : f_X12_holds x1 x2 s0 = some (rz, sz)) : MM l E sh2 yX12_holds cX12_holds 4 (some .int) (rmd 7) [.ref (E.2.2.1 259), .int x1, .int x2] s0 (some (.int rz)) sz := by
  unfold f_X12_holds at hf
  refine z_enter (by decide +kernel) (Nat.le_of_ble_eq_true rfl) ?_
  intro p e s m args below meth c ls hC hr hlocks hw hS hl
  have hC : Cx p s m args c cX12_holds 4 "FuseBoxModel" E := hC
  obtain ⟨hx, hb, hml, hown, hts, hTB⟩ := id hC
  have hl : lv_has ls 4 [(0, .ref (E.2.2.1 259)), (1, .int x1), (2, .int x2)] := hl
  refine lv_aload_n hx hb dX12_holds_0 rfl (lv_at hl 0 rfl) ?_
  refine lv_iload_n hx hb dX12_holds_1 rfl (lv_at hl 1 rfl) ?_
  obtain ⟨r_2, s_1, hc, hf⟩ := ok_bd hf
  refine z_cV hC hl.1 hw hS (As := [.int x1]) (rest := []) (m_X12_isLine l E  hc) rfl rfl gc269 gc270 ⟨Nat.le_of_ble_eq_true rfl, Nat.le_of_ble_eq_true rfl⟩ ⟨Nat.le_of_ble_eq_true rfl, Nat.le_of_ble_eq_true rfl⟩ rfl rfl (Nat.le_of_ble_eq_true rfl) dX12_holds_2 (fun H locs hw hS => ?_)
  clear hc
  obtain ⟨j20, ej20, hf⟩ := ok_lt hf
  have J20 : ∀ (s_3 : St), j20 s_3 = some (rz, sz) → ∀ (H : Heap) (locs : List Loc) (ls : Array Slot), lv_has ls 4 [] → World E sh2 s_3 H → va_S E.2.2.2 s.heap H locs → W p l e (rmd 7) s m args below meth c H locs 0 0 (MQ below (QW E sh2 (some (.int rz)) sz) args s 0 0 E.2.2.2) (F0 m 20 ls []) := by
    intro s_3 hf H locs ls hl hw hS
    subst ej20
    refine lv_ldc (v := -1000001) hx hb hown (hts _ wd535) dX12_holds_20 ?_
    exact z_iretE hC hlocks hw hS hf hr rfl dX12_holds_22
  clear ej20
  have hif := ok_if hf
  refine lv_if_eq (tgt := 20) hx hb dX12_holds_5 (by decide) (fun hcd => ?_) (fun hcd => ?_)
  · have hf := hif.1 hcd
    clear hif
    exact J20 _ hf _ _ ls (lv_sub hl [] rfl) hw hS
  · have hf := hif.2 hcd
    clear hif
    refine lv_iload_n hx hb dX12_holds_8 rfl (lv_at hl 2 rfl) ?_
    refine lv_i2l (v := x2.toInt64) hx hb dX12_holds_9 rfl ?_
    refine lv_lconst (v := 1) hx hb dX12_holds_10 (by decide) ?_
    refine lv_ldc2 (v := 30) hx hb hown (hts _ wd680) dX12_holds_11 ?_
    obtain ⟨r_5, s_4, hc, hf⟩ := ok_bd hf
    refine z_cS hC hl.1 hw hS (As := [.long (x2.toInt64), .long (1 : Int64), .long (30 : Int64)]) (rest := []) (m_X12_in l E  hc) gc219 gc220 ⟨Nat.le_of_ble_eq_true rfl, Nat.le_of_ble_eq_true rfl⟩ ⟨Nat.le_of_ble_eq_true rfl, Nat.le_of_ble_eq_true rfl⟩ rfl rfl (Nat.le_of_ble_eq_true rfl) dX12_holds_14 (fun H locs hw hS => ?_)
    clear hc
    have hif := ok_if hf
    refine lv_if_ne (tgt := 23) hx hb dX12_holds_17 (by decide) (fun hcd => ?_) (fun hcd => ?_)
    · have hf := hif.1 hcd
      clear hif
      refine lv_iconst (v := 1) hx hb dX12_holds_23 (by decide) ?_
      obtain ⟨v3_6, en, hf⟩ := ok_lt hf
      refine z_nm en ?_
      clear en
      refine lv_istore_n (lv' := [(3, .int v3_6), (0, .ref (E.2.2.1 259)), (1, .int x1), (2, .int x2)]) hx hb dX12_holds_24 rfl hl (by decide) rfl (fun ls hl => ?_)
      obtain ⟨r25, hL25, hf⟩ := ok_bind hf
      have X25_0 : ∀ (s_9 : St), (.inl s_9) = r25 → ∀ (H : Heap) (locs : List Loc) (ls : Array Slot), lv_has ls 4 [] → World E sh2 s_9 H → va_S E.2.2.2 s.heap H locs → W p l e (rmd 7) s m args below meth c H locs 0 0 (MQ below (QW E sh2 (some (.int rz)) sz) args s 0 0 E.2.2.2) (F0 m 67 ls []) := by
        intro s_9 er H locs ls hl hw hS
        subst er
        replace hf := ok_sell (hf)
        replace hf := ok_un1 hf
        refine lv_ldc (v := -1000000) hx hb hown (hts _ wd679) dX12_holds_67 ?_
        exact z_iretE hC hlocks hw hS hf hr rfl dX12_holds_69
      have X25_1 : ∀ (v3_10 : Int32) (s_11 : St), (.inr (v3_10, s_11)) = r25 → ∀ (H : Heap) (locs : List Loc) (ls : Array Slot), lv_has ls 4 [(3, .int v3_10)] → World E sh2 s_11 H → va_S E.2.2.2 s.heap H locs → W p l e (rmd 7) s m args below meth c H locs 0 0 (MQ below (QW E sh2 (some (.int rz)) sz) args s 0 0 E.2.2.2) (F0 m 59 ls []) := by
        intro v3_10 s_11 er H locs ls hl hw hS
        subst er
        replace hf := ok_selr (hf)
        replace hf := ok_un2 hf
        refine lv_iload_n hx hb dX12_holds_59 rfl (lv_at hl 0 rfl) ?_
        exact z_iretE hC hlocks hw hS hf hr rfl dX12_holds_60
      have L25 : ∀ (n : Nat) (v3_7 : Int32) (s_8 : St), loopF (f_X12_holds_L25 x1 x2) n (v3_7, s_8) = some r25 → ∀ (H : Heap) (locs : List Loc) (ls : Array Slot), lv_has ls 4 [(0, .ref (E.2.2.1 259)), (1, .int x1), (2, .int x2), (3, .int v3_7)] → World E sh2 s_8 H → va_S E.2.2.2 s.heap H locs → W p l e (rmd 7) s m args below meth c H locs 0 0 (MQ below (QW E sh2 (some (.int rz)) sz) args s 0 0 E.2.2.2) (F0 m 25 ls []) := by
        intro n
        induction n with
        | zero =>
          intro v3_7 s_8 hf
          exact nz hf
        | succ n ih25 =>
          intro v3_7 s_8 hf H locs ls hl hw hS
          obtain ⟨xl25, hf, hi25, he25⟩ := ok_loop hf
          unfold f_X12_holds_L25 at hf
          replace hf := ok_un2 hf
          refine lv_iload_n hx hb dX12_holds_25 rfl (lv_at hl 3 rfl) ?_
          refine lv_bipush (v := 21) hx hb dX12_holds_26 (by decide) ?_
          have hif := ok_if hf
          refine lv_icmp_ge (tgt := 67) hx hb dX12_holds_28 (by decide) (fun hcd => ?_) (fun hcd => ?_)
          · have hf := hif.1 hcd
            clear hif
            cases hf
            exact X25_0 _ (he25 _ rfl) _ _ ls (lv_sub hl [] rfl) hw hS
          · have hf := hif.2 hcd
            clear hif
            refine lv_aload_n hx hb dX12_holds_31 rfl (lv_at hl 0 rfl) ?_
            refine lv_iconst (v := 0) hx hb dX12_holds_32 (by decide) ?_
            refine lv_sipush (v := 729) hx hb dX12_holds_33 (by decide) ?_
            obtain ⟨s_12, hc, hf⟩ := ok_bind hf
            refine z_cV hC hl.1 hw hS (As := [.int (0 : Int32), .int (729 : Int32)]) (rest := []) (m_X12_copies l E  hc) rfl rfl gc257 gc258 ⟨Nat.le_of_ble_eq_true rfl, Nat.le_of_ble_eq_true rfl⟩ ⟨Nat.le_of_ble_eq_true rfl, Nat.le_of_ble_eq_true rfl⟩ rfl rfl (Nat.le_of_ble_eq_true rfl) dX12_holds_36 (fun H locs hw hS => ?_)
            clear hc
            refine lv_aload_n hx hb dX12_holds_39 rfl (lv_at hl 0 rfl) ?_
            refine gModel_slot hC hw wd598 dX12_holds_40 ?_
            refine lv_sipush (v := 737) hx hb dX12_holds_43 (by decide) ?_
            refine lv_iload_n hx hb dX12_holds_46 rfl (lv_at hl 1 rfl) ?_
            refine lv_iadd hx hb dX12_holds_47 ?_
            refine lv_iload_n hx hb dX12_holds_48 rfl (lv_at hl 3 rfl) ?_
            obtain ⟨hin, hf⟩ := ok_chk hf
            obtain ⟨s_13, en, hf⟩ := ok_lt hf
            refine z_iast hC hw hS rfl hin en dX12_holds_49 (fun H locs hw hS => ?_)
            clear en
            refine lv_aload_n hx hb dX12_holds_50 rfl (lv_at hl 0 rfl) ?_
            refine lv_iload_n hx hb dX12_holds_51 rfl (lv_at hl 1 rfl) ?_
            refine lv_iload_n hx hb dX12_holds_52 rfl (lv_at hl 2 rfl) ?_
            obtain ⟨r_15, s_14, hc, hf⟩ := ok_bd hf
            refine z_cV hC hl.1 hw hS (As := [.int x1, .int x2]) (rest := []) (m_X12_isLiveFor l E  hc) rfl rfl gc283 gc284 ⟨Nat.le_of_ble_eq_true rfl, Nat.le_of_ble_eq_true rfl⟩ ⟨Nat.le_of_ble_eq_true rfl, Nat.le_of_ble_eq_true rfl⟩ rfl rfl (Nat.le_of_ble_eq_true rfl) dX12_holds_53 (fun H locs hw hS => ?_)
            clear hc
            have hif := ok_if hf
            refine lv_if_eq (tgt := 61) hx hb dX12_holds_56 (by decide) (fun hcd => ?_) (fun hcd => ?_)
            · have hf := hif.1 hcd
              clear hif
              obtain ⟨v3_16, en, hf⟩ := ok_lt hf
              refine lv_iinc (v := v3_16) (lv' := [(3, .int v3_16), (0, .ref (E.2.2.1 259)), (1, .int x1), (2, .int x2)]) hx hb dX12_holds_61 hl (k := 3) rfl (by rw [en]; rfl) (by decide) rfl (fun ls hl => ?_)
              clear en
              refine lv_goto (tgt := 25) hx hb dX12_holds_64 (by decide) ?_
              cases hf
              exact ih25 _ _ (hi25 _ rfl) _ _ ls (lv_sub hl [1, 2, 3, 0] rfl) hw hS
            · have hf := hif.2 hcd
              clear hif
              cases hf
              exact X25_1 _ _ (he25 _ rfl) _ _ ls (lv_sub hl [3] rfl) hw hS
      exact L25 5000 _ _ hL25 _ _ ls (lv_sub hl [1, 2, 3, 0] rfl) hw hS
    · have hf := hif.2 (fun q => q hcd)
      clear hif
      exact J20 _ hf _ _ ls (lv_sub hl [] rfl) hw hS
set_option maxHeartbeats 4000000 in
set_option maxRecDepth 100000 in
theorem m_X12_faulty (l : Launch) (E : Ev) {x1 : Int32} {x2 : Int32}  {s0 sz : St} {rz : Int32} (hf : f_X12_faulty x1 x2 s0 = some (rz, sz)) : MM l E sh2 yX12_faulty cX12_faulty 5 (some .int) (rmd 7) [.ref (E.2.2.1 259), .int x1, .int x2] s0 (some (.int rz)) sz := by
  unfold f_X12_faulty at hf
  refine z_enter (by decide +kernel) (Nat.le_of_ble_eq_true rfl) ?_
  intro p e s m args below meth c ls hC hr hlocks hw hS hl
  have hC : Cx p s m args c cX12_faulty 5 "FuseBoxModel" E := hC
  obtain ⟨hx, hb, hml, hown, hts, hTB⟩ := id hC
  have hl : lv_has ls 5 [(0, .ref (E.2.2.1 259)), (1, .int x1), (2, .int x2)] := hl
  refine lv_aload_n hx hb dX12_faulty_0 rfl (lv_at hl 0 rfl) ?_
  refine lv_iload_n hx hb dX12_faulty_1 rfl (lv_at hl 1 rfl) ?_
  obtain ⟨r_2, s_1, hc, hf⟩ := ok_bd hf
  refine z_cV hC hl.1 hw hS (As := [.int x1]) (rest := []) (m_X12_isLine l E  hc) rfl rfl gc269 gc270 ⟨Nat.le_of_ble_eq_true rfl, Nat.le_of_ble_eq_true rfl⟩ ⟨Nat.le_of_ble_eq_true rfl, Nat.le_of_ble_eq_true rfl⟩ rfl rfl (Nat.le_of_ble_eq_true rfl) dX12_faulty_2 (fun H locs hw hS => ?_)
  clear hc
  obtain ⟨j20, ej20, hf⟩ := ok_lt hf
  have J20 : ∀ (s_3 : St), j20 s_3 = some (rz, sz) → ∀ (H : Heap) (locs : List Loc) (ls : Array Slot), lv_has ls 5 [] → World E sh2 s_3 H → va_S E.2.2.2 s.heap H locs → W p l e (rmd 7) s m args below meth c H locs 0 0 (MQ below (QW E sh2 (some (.int rz)) sz) args s 0 0 E.2.2.2) (F0 m 20 ls []) := by
    intro s_3 hf H locs ls hl hw hS
    subst ej20
    refine lv_ldc (v := -1000001) hx hb hown (hts _ wd535) dX12_faulty_20 ?_
    exact z_iretE hC hlocks hw hS hf hr rfl dX12_faulty_22
  clear ej20
  have hif := ok_if hf
  refine lv_if_eq (tgt := 20) hx hb dX12_faulty_5 (by decide) (fun hcd => ?_) (fun hcd => ?_)
  · have hf := hif.1 hcd
    clear hif
    exact J20 _ hf _ _ ls (lv_sub hl [] rfl) hw hS
  · have hf := hif.2 hcd
    clear hif
    refine lv_iload_n hx hb dX12_faulty_8 rfl (lv_at hl 2 rfl) ?_
    refine lv_i2l (v := x2.toInt64) hx hb dX12_faulty_9 rfl ?_
    refine lv_lconst (v := 1) hx hb dX12_faulty_10 (by decide) ?_
    refine lv_ldc2 (v := 30) hx hb hown (hts _ wd680) dX12_faulty_11 ?_
    obtain ⟨r_5, s_4, hc, hf⟩ := ok_bd hf
    refine z_cS hC hl.1 hw hS (As := [.long (x2.toInt64), .long (1 : Int64), .long (30 : Int64)]) (rest := []) (m_X12_in l E  hc) gc219 gc220 ⟨Nat.le_of_ble_eq_true rfl, Nat.le_of_ble_eq_true rfl⟩ ⟨Nat.le_of_ble_eq_true rfl, Nat.le_of_ble_eq_true rfl⟩ rfl rfl (Nat.le_of_ble_eq_true rfl) dX12_faulty_14 (fun H locs hw hS => ?_)
    clear hc
    have hif := ok_if hf
    refine lv_if_ne (tgt := 23) hx hb dX12_faulty_17 (by decide) (fun hcd => ?_) (fun hcd => ?_)
    · have hf := hif.1 hcd
      clear hif
      refine lv_iconst (v := 0) hx hb dX12_faulty_23 (by decide) ?_
      obtain ⟨v3_6, en, hf⟩ := ok_lt hf
      refine z_nm en ?_
      clear en
      refine lv_istore_n (lv' := [(3, .int v3_6), (0, .ref (E.2.2.1 259)), (1, .int x1), (2, .int x2)]) hx hb dX12_faulty_24 rfl hl (by decide) rfl (fun ls hl => ?_)
      refine lv_iconst (v := 0) hx hb dX12_faulty_25 (by decide) ?_
      obtain ⟨v4_7, en, hf⟩ := ok_lt hf
      refine z_nm en ?_
      clear en
      refine lv_istore (lv' := [(4, .int v4_7), (3, .int v3_6), (0, .ref (E.2.2.1 259)), (1, .int x1), (2, .int x2)]) hx hb dX12_faulty_26 hl (by decide) rfl (fun ls hl => ?_)
      obtain ⟨r28, hL28, hf⟩ := ok_bind hf
      have X28_0 : ∀ (v3_11 : Int32) (s_12 : St), (v3_11, s_12) = r28 → ∀ (H : Heap) (locs : List Loc) (ls : Array Slot), lv_has ls 5 [(3, .int v3_11)] → World E sh2 s_12 H → va_S E.2.2.2 s.heap H locs → W p l e (rmd 7) s m args below meth c H locs 0 0 (MQ below (QW E sh2 (some (.int rz)) sz) args s 0 0 E.2.2.2) (F0 m 95 ls []) := by
        intro v3_11 s_12 er H locs ls hl hw hS
        subst er
        replace hf := ok_un2 hf
        refine lv_iload_n hx hb dX12_faulty_95 rfl (lv_at hl 0 rfl) ?_
        exact z_iretE hC hlocks hw hS hf hr rfl dX12_faulty_96
      have L28 : ∀ (n : Nat) (v3_8 : Int32) (v4_9 : Int32) (s_10 : St), loopF (f_X12_faulty_L28 x1 x2) n (v3_8, v4_9, s_10) = some r28 → ∀ (H : Heap) (locs : List Loc) (ls : Array Slot), lv_has ls 5 [(0, .ref (E.2.2.1 259)), (1, .int x1), (2, .int x2), (3, .int v3_8), (4, .int v4_9)] → World E sh2 s_10 H → va_S E.2.2.2 s.heap H locs → W p l e (rmd 7) s m args below meth c H locs 0 0 (MQ below (QW E sh2 (some (.int rz)) sz) args s 0 0 E.2.2.2) (F0 m 28 ls []) := by
        intro n
        induction n with
        | zero =>
          intro v3_8 v4_9 s_10 hf
          exact nz hf
        | succ n ih28 =>
          intro v3_8 v4_9 s_10 hf H locs ls hl hw hS
          obtain ⟨xl28, hf, hi28, he28⟩ := ok_loop hf
          unfold f_X12_faulty_L28 at hf
          replace hf := ok_un3 hf
          refine lv_iload hx hb dX12_faulty_28 (lv_at hl 4 rfl) ?_
          refine lv_aload_n hx hb dX12_faulty_30 rfl (lv_at hl 0 rfl) ?_
          refine gModel_told hC hw wd597 dX12_faulty_31 ?_
          refine lv_iconst (v := 1) hx hb dX12_faulty_34 (by decide) ?_
          obtain ⟨hin, hf⟩ := ok_chk hf
          refine z_iald hC hw rfl hin dX12_faulty_35 ?_
          have hif := ok_if hf
          refine lv_icmp_ge (tgt := 95) hx hb dX12_faulty_36 (by decide) (fun hcd => ?_) (fun hcd => ?_)
          · have hf := hif.1 hcd
            clear hif
            cases hf
            exact X28_0 _ _ (he28 _ rfl) _ _ ls (lv_sub hl [3] rfl) hw hS
          · have hf := hif.2 hcd
            clear hif
            refine lv_aload_n hx hb dX12_faulty_39 rfl (lv_at hl 0 rfl) ?_
            refine gModel_slot hC hw wd598 dX12_faulty_40 ?_
            refine lv_bipush (v := 18) hx hb dX12_faulty_43 (by decide) ?_
            refine lv_iload hx hb dX12_faulty_45 (lv_at hl 4 rfl) ?_
            refine lv_iadd hx hb dX12_faulty_47 ?_
            obtain ⟨hin, hf⟩ := ok_chk hf
            refine z_iald hC hw rfl hin dX12_faulty_48 ?_
            refine lv_iconst (v := 1) hx hb dX12_faulty_49 (by decide) ?_
            obtain ⟨j89, ej89, hf⟩ := ok_lt hf
            have J89 : ∀ (v3_13 : Int32) (s_14 : St), j89 v3_13 s_14 = some xl28 → ∀ (H : Heap) (locs : List Loc) (ls : Array Slot), lv_has ls 5 [(0, .ref (E.2.2.1 259)), (1, .int x1), (2, .int x2), (3, .int v3_13), (4, .int v4_9)] → World E sh2 s_14 H → va_S E.2.2.2 s.heap H locs → W p l e (rmd 7) s m args below meth c H locs 0 0 (MQ below (QW E sh2 (some (.int rz)) sz) args s 0 0 E.2.2.2) (F0 m 89 ls []) := by
              intro v3_13 s_14 hf H locs ls hl hw hS
              subst ej89
              obtain ⟨v4_15, en, hf⟩ := ok_lt hf
              refine lv_iinc (v := v4_15) (lv' := [(4, .int v4_15), (0, .ref (E.2.2.1 259)), (1, .int x1), (2, .int x2), (3, .int v3_13)]) hx hb dX12_faulty_89 hl (k := 4) rfl (by rw [en]; rfl) (by decide) rfl (fun ls hl => ?_)
              clear en
              refine lv_goto (tgt := 28) hx hb dX12_faulty_92 (by decide) ?_
              cases hf
              exact ih28 _ _ _ (hi28 _ rfl) _ _ ls (lv_sub hl [1, 2, 3, 4, 0] rfl) hw hS
            clear ej89
            have hif := ok_if hf
            refine lv_icmp_ne (tgt := 89) hx hb dX12_faulty_50 (by decide) (fun hcd => ?_) (fun hcd => ?_)
            · have hf := hif.1 hcd
              clear hif
              exact J89 _ _ hf _ _ ls hl hw hS
            · have hf := hif.2 (fun q => q hcd)
              clear hif
              refine lv_aload_n hx hb dX12_faulty_53 rfl (lv_at hl 0 rfl) ?_
              refine lv_iconst (v := 0) hx hb dX12_faulty_54 (by decide) ?_
              refine lv_sipush (v := 729) hx hb dX12_faulty_55 (by decide) ?_
              obtain ⟨s_16, hc, hf⟩ := ok_bind hf
              refine z_cV hC hl.1 hw hS (As := [.int (0 : Int32), .int (729 : Int32)]) (rest := []) (m_X12_copies l E  hc) rfl rfl gc257 gc258 ⟨Nat.le_of_ble_eq_true rfl, Nat.le_of_ble_eq_true rfl⟩ ⟨Nat.le_of_ble_eq_true rfl, Nat.le_of_ble_eq_true rfl⟩ rfl rfl (Nat.le_of_ble_eq_true rfl) dX12_faulty_58 (fun H locs hw hS => ?_)
              clear hc
              refine lv_aload_n hx hb dX12_faulty_61 rfl (lv_at hl 0 rfl) ?_
              refine lv_iconst (v := 1) hx hb dX12_faulty_62 (by decide) ?_
              refine lv_iload hx hb dX12_faulty_63 (lv_at hl 4 rfl) ?_
              refine lv_ishl hx hb dX12_faulty_65 ?_
              obtain ⟨s_17, hc, hf⟩ := ok_bind hf
              refine z_cV hC hl.1 hw hS (As := [.int ((1 : Int32) <<< (v4_9 &&& 31))]) (rest := []) (m_X12_offs l E  hc) rfl rfl gc281 gc282 ⟨Nat.le_of_ble_eq_true rfl, Nat.le_of_ble_eq_true rfl⟩ ⟨Nat.le_of_ble_eq_true rfl, Nat.le_of_ble_eq_true rfl⟩ rfl rfl (Nat.le_of_ble_eq_true rfl) dX12_faulty_66 (fun H locs hw hS => ?_)
              clear hc
              refine lv_iload_n hx hb dX12_faulty_69 rfl (lv_at hl 3 rfl) ?_
              refine lv_aload_n hx hb dX12_faulty_70 rfl (lv_at hl 0 rfl) ?_
              refine lv_iload_n hx hb dX12_faulty_71 rfl (lv_at hl 1 rfl) ?_
              refine lv_iload_n hx hb dX12_faulty_72 rfl (lv_at hl 2 rfl) ?_
              obtain ⟨r_19, s_18, hc, hf⟩ := ok_bd hf
              refine z_cV hC hl.1 hw hS (As := [.int x1, .int x2]) (rest := [.int v3_8]) (m_X12_isLiveFor l E  hc) rfl rfl gc283 gc284 ⟨Nat.le_of_ble_eq_true rfl, Nat.le_of_ble_eq_true rfl⟩ ⟨Nat.le_of_ble_eq_true rfl, Nat.le_of_ble_eq_true rfl⟩ rfl rfl (Nat.le_of_ble_eq_true rfl) dX12_faulty_73 (fun H locs hw hS => ?_)
              clear hc
              obtain ⟨j87, ej87, hf⟩ := ok_lt hf
              have J87 : ∀ (k_20 : Int32) (s_21 : St), j87 k_20 s_21 = some xl28 → ∀ (H : Heap) (locs : List Loc) (ls : Array Slot), lv_has ls 5 [(0, .ref (E.2.2.1 259)), (1, .int x1), (2, .int x2), (4, .int v4_9)] → World E sh2 s_21 H → va_S E.2.2.2 s.heap H locs → W p l e (rmd 7) s m args below meth c H locs 0 0 (MQ below (QW E sh2 (some (.int rz)) sz) args s 0 0 E.2.2.2) (F0 m 87 ls [.int k_20, .int v3_8]) := by
                intro k_20 s_21 hf H locs ls hl hw hS
                subst ej87
                refine lv_ior hx hb dX12_faulty_87 ?_
                obtain ⟨v3_22, en, hf⟩ := ok_lt hf
                refine z_nm en ?_
                clear en
                refine lv_istore_n (lv' := [(3, .int v3_22), (0, .ref (E.2.2.1 259)), (1, .int x1), (2, .int x2), (4, .int v4_9)]) hx hb dX12_faulty_88 rfl hl (by decide) rfl (fun ls hl => ?_)
                exact J89 _ _ hf _ _ ls (lv_sub hl [1, 2, 3, 0, 4] rfl) hw hS
              clear ej87
              have hif := ok_if hf
              refine lv_if_eq (tgt := 86) hx hb dX12_faulty_76 (by decide) (fun hcd => ?_) (fun hcd => ?_)
              · have hf := hif.1 hcd
                clear hif
                refine lv_iconst (v := 0) hx hb dX12_faulty_86 (by decide) ?_
                exact J87 _ _ hf _ _ ls (lv_sub hl [0, 1, 2, 4] rfl) hw hS
              · have hf := hif.2 hcd
                clear hif
                refine lv_iconst (v := 1) hx hb dX12_faulty_79 (by decide) ?_
                refine lv_iload hx hb dX12_faulty_80 (lv_at hl 4 rfl) ?_
                refine lv_ishl hx hb dX12_faulty_82 ?_
                refine lv_goto (tgt := 87) hx hb dX12_faulty_83 (by decide) ?_
                exact J87 _ _ hf _ _ ls (lv_sub hl [0, 1, 2, 4] rfl) hw hS
      exact L28 5000 _ _ _ hL28 _ _ ls (lv_sub hl [2, 3, 4, 1, 0] rfl) hw hS
    · have hf := hif.2 (fun q => q hcd)
      clear hif
      exact J20 _ hf _ _ ls (lv_sub hl [] rfl) hw hS
set_option maxHeartbeats 4000000 in
set_option maxRecDepth 100000 in
theorem m_X12_bill (l : Launch) (E : Ev) {x1 : Int32} {x2 : Int32}  {s0 sz : St} {rz : Int32} (hf : f_X12_bill x1 x2 s0 = some (rz, sz)) : MM l E sh2 yX12_bill cX12_bill 7 (some .int) (rmd 3) [.ref (E.2.2.1 259), .int x1, .int x2] s0 (some (.int rz)) sz := by
  unfold f_X12_bill at hf
  refine z_enter (by decide +kernel) (Nat.le_of_ble_eq_true rfl) ?_
  intro p e s m args below meth c ls hC hr hlocks hw hS hl
  have hC : Cx p s m args c cX12_bill 7 "FuseBoxModel" E := hC
  obtain ⟨hx, hb, hml, hown, hts, hTB⟩ := id hC
  have hl : lv_has ls 7 [(0, .ref (E.2.2.1 259)), (1, .int x1), (2, .int x2)] := hl
  refine lv_aload_n hx hb dX12_bill_0 rfl (lv_at hl 0 rfl) ?_
  refine lv_iload_n hx hb dX12_bill_1 rfl (lv_at hl 1 rfl) ?_
  obtain ⟨r_2, s_1, hc, hf⟩ := ok_bd hf
  refine z_cV hC hl.1 hw hS (As := [.int x1]) (rest := []) (m_X12_isThing l E  hc) rfl rfl gc265 gc266 ⟨Nat.le_of_ble_eq_true rfl, Nat.le_of_ble_eq_true rfl⟩ ⟨Nat.le_of_ble_eq_true rfl, Nat.le_of_ble_eq_true rfl⟩ rfl rfl (Nat.le_of_ble_eq_true rfl) dX12_bill_2 (fun H locs hw hS => ?_)
  clear hc
  obtain ⟨j20, ej20, hf⟩ := ok_lt hf
  have J20 : ∀ (s_3 : St), j20 s_3 = some (rz, sz) → ∀ (H : Heap) (locs : List Loc) (ls : Array Slot), lv_has ls 7 [] → World E sh2 s_3 H → va_S E.2.2.2 s.heap H locs → W p l e (rmd 3) s m args below meth c H locs 0 0 (MQ below (QW E sh2 (some (.int rz)) sz) args s 0 0 E.2.2.2) (F0 m 20 ls []) := by
    intro s_3 hf H locs ls hl hw hS
    subst ej20
    refine lv_ldc (v := -1000001) hx hb hown (hts _ wd535) dX12_bill_20 ?_
    exact z_iretE hC hlocks hw hS hf hr rfl dX12_bill_22
  clear ej20
  have hif := ok_if hf
  refine lv_if_eq (tgt := 20) hx hb dX12_bill_5 (by decide) (fun hcd => ?_) (fun hcd => ?_)
  · have hf := hif.1 hcd
    clear hif
    exact J20 _ hf _ _ ls (lv_sub hl [] rfl) hw hS
  · have hf := hif.2 hcd
    clear hif
    refine lv_iload_n hx hb dX12_bill_8 rfl (lv_at hl 2 rfl) ?_
    refine lv_i2l (v := x2.toInt64) hx hb dX12_bill_9 rfl ?_
    refine lv_lconst (v := 0) hx hb dX12_bill_10 (by decide) ?_
    refine lv_ldc2 (v := 999) hx hb hown (hts _ wd706) dX12_bill_11 ?_
    obtain ⟨r_5, s_4, hc, hf⟩ := ok_bd hf
    refine z_cS hC hl.1 hw hS (As := [.long (x2.toInt64), .long (0 : Int64), .long (999 : Int64)]) (rest := []) (m_X12_in l E  hc) gc219 gc220 ⟨Nat.le_of_ble_eq_true rfl, Nat.le_of_ble_eq_true rfl⟩ ⟨Nat.le_of_ble_eq_true rfl, Nat.le_of_ble_eq_true rfl⟩ rfl rfl (Nat.le_of_ble_eq_true rfl) dX12_bill_14 (fun H locs hw hS => ?_)
    clear hc
    have hif := ok_if hf
    refine lv_if_ne (tgt := 23) hx hb dX12_bill_17 (by decide) (fun hcd => ?_) (fun hcd => ?_)
    · have hf := hif.1 hcd
      clear hif
      refine lv_iconst (v := 0) hx hb dX12_bill_23 (by decide) ?_
      obtain ⟨v3_6, en, hf⟩ := ok_lt hf
      refine z_nm en ?_
      clear en
      refine lv_istore_n (lv' := [(3, .int v3_6), (0, .ref (E.2.2.1 259)), (1, .int x1), (2, .int x2)]) hx hb dX12_bill_24 rfl hl (by decide) rfl (fun ls hl => ?_)
      refine lv_iconst (v := 0) hx hb dX12_bill_25 (by decide) ?_
      obtain ⟨v4_7, en, hf⟩ := ok_lt hf
      refine z_nm en ?_
      clear en
      refine lv_istore (lv' := [(4, .int v4_7), (3, .int v3_6), (0, .ref (E.2.2.1 259)), (1, .int x1), (2, .int x2)]) hx hb dX12_bill_26 hl (by decide) rfl (fun ls hl => ?_)
      obtain ⟨r28, hL28, hf⟩ := ok_bind hf
      have X28_0 : ∀ (v3_11 : Int32) (s_12 : St), (v3_11, s_12) = r28 → ∀ (H : Heap) (locs : List Loc) (ls : Array Slot), lv_has ls 7 [(0, .ref (E.2.2.1 259)), (1, .int x1), (2, .int x2), (3, .int v3_11)] → World E sh2 s_12 H → va_S E.2.2.2 s.heap H locs → W p l e (rmd 3) s m args below meth c H locs 0 0 (MQ below (QW E sh2 (some (.int rz)) sz) args s 0 0 E.2.2.2) (F0 m 72 ls []) := by
        intro v3_11 s_12 er H locs ls hl hw hS
        subst er
        replace hf := ok_un2 hf
        refine lv_iload_n hx hb dX12_bill_72 rfl (lv_at hl 2 rfl) ?_
        refine lv_istore (lv' := [(4, .int x2), (0, .ref (E.2.2.1 259)), (1, .int x1), (2, .int x2), (3, .int v3_11)]) hx hb dX12_bill_73 hl (by decide) rfl (fun ls hl => ?_)
        refine lv_iconst (v := 0) hx hb dX12_bill_75 (by decide) ?_
        obtain ⟨v5_13, en, hf⟩ := ok_lt hf
        refine z_nm en ?_
        clear en
        refine lv_istore (lv' := [(5, .int v5_13), (4, .int x2), (0, .ref (E.2.2.1 259)), (1, .int x1), (2, .int x2), (3, .int v3_11)]) hx hb dX12_bill_76 hl (by decide) rfl (fun ls hl => ?_)
        refine lv_iconst (v := 0) hx hb dX12_bill_78 (by decide) ?_
        obtain ⟨v6_14, en, hf⟩ := ok_lt hf
        refine z_nm en ?_
        clear en
        refine lv_istore (lv' := [(6, .int v6_14), (5, .int v5_13), (4, .int x2), (0, .ref (E.2.2.1 259)), (1, .int x1), (2, .int x2), (3, .int v3_11)]) hx hb dX12_bill_79 hl (by decide) rfl (fun ls hl => ?_)
        obtain ⟨r81, hL81, hf⟩ := ok_bind hf
        have X81_0 : ∀ (v4_19 : Int32) (v5_20 : Int32) (s_21 : St), (v4_19, v5_20, s_21) = r81 → ∀ (H : Heap) (locs : List Loc) (ls : Array Slot), lv_has ls 7 [(0, .ref (E.2.2.1 259)), (1, .int x1), (2, .int x2), (3, .int v3_11), (4, .int v4_19), (5, .int v5_20)] → World E sh2 s_21 H → va_S E.2.2.2 s.heap H locs → W p l e (rmd 3) s m args below meth c H locs 0 0 (MQ below (QW E sh2 (some (.int rz)) sz) args s 0 0 E.2.2.2) (F0 m 157 ls []) := by
          intro v4_19 v5_20 s_21 er H locs ls hl hw hS
          subst er
          replace hf := ok_un3 hf
          refine lv_aload_n hx hb dX12_bill_157 rfl (lv_at hl 0 rfl) ?_
          refine lv_iconst (v := 0) hx hb dX12_bill_158 (by decide) ?_
          refine lv_iload_n hx hb dX12_bill_159 rfl (lv_at hl 1 rfl) ?_
          obtain ⟨r_23, s_22, hc, hf⟩ := ok_bd hf
          refine z_cV hC hl.1 hw hS (As := [.int (0 : Int32), .int x1]) (rest := []) (m_X12_runs l E  hc) rfl rfl gc243 gc244 ⟨Nat.le_of_ble_eq_true rfl, Nat.le_of_ble_eq_true rfl⟩ ⟨Nat.le_of_ble_eq_true rfl, Nat.le_of_ble_eq_true rfl⟩ rfl rfl (Nat.le_of_ble_eq_true rfl) dX12_bill_160 (fun H locs hw hS => ?_)
          clear hc
          obtain ⟨j196, ej196, hf⟩ := ok_lt hf
          have J196 : ∀ (k_24 : Int32) (s_25 : St), j196 k_24 s_25 = some (rz, sz) → ∀ (H : Heap) (locs : List Loc) (ls : Array Slot), lv_has ls 7 [] → World E sh2 s_25 H → va_S E.2.2.2 s.heap H locs → W p l e (rmd 3) s m args below meth c H locs 0 0 (MQ below (QW E sh2 (some (.int rz)) sz) args s 0 0 E.2.2.2) (F0 m 196 ls [.int k_24]) := by
            intro k_24 s_25 hf H locs ls hl hw hS
            subst ej196
            exact z_iretE hC hlocks hw hS hf hr rfl dX12_bill_196
          clear ej196
          have hif := ok_if hf
          refine lv_if_eq (tgt := 195) hx hb dX12_bill_163 (by decide) (fun hcd => ?_) (fun hcd => ?_)
          · have hf := hif.1 hcd
            clear hif
            refine lv_iconst (v := 0) hx hb dX12_bill_195 (by decide) ?_
            exact J196 _ _ hf _ _ ls (lv_sub hl [] rfl) hw hS
          · have hf := hif.2 hcd
            clear hif
            refine lv_iload_n hx hb dX12_bill_166 rfl (lv_at hl 2 rfl) ?_
            refine lv_aload_n hx hb dX12_bill_167 rfl (lv_at hl 0 rfl) ?_
            refine gModel_told hC hw wd597 dX12_bill_168 ?_
            refine lv_bipush (v := 7) hx hb dX12_bill_171 (by decide) ?_
            refine lv_iload_n hx hb dX12_bill_173 rfl (lv_at hl 1 rfl) ?_
            refine lv_iadd hx hb dX12_bill_174 ?_
            obtain ⟨hin, hf⟩ := ok_chk hf
            refine z_iald hC hw rfl hin dX12_bill_175 ?_
            refine lv_imul hx hb dX12_bill_176 ?_
            refine lv_iload_n hx hb dX12_bill_177 rfl (lv_at hl 3 rfl) ?_
            obtain ⟨hnz, hf⟩ := ok_chk hf
            refine lv_idiv hx hb dX12_bill_178 hnz ?_
            refine lv_iload hx hb dX12_bill_179 (lv_at hl 5 rfl) ?_
            refine lv_iload hx hb dX12_bill_181 (lv_at hl 4 rfl) ?_
            obtain ⟨j191, ej191, hf⟩ := ok_lt hf
            have J191 : ∀ (k_26 : Int32) (s_27 : St), j191 k_26 s_27 = some (rz, sz) → ∀ (H : Heap) (locs : List Loc) (ls : Array Slot), lv_has ls 7 [] → World E sh2 s_27 H → va_S E.2.2.2 s.heap H locs → W p l e (rmd 3) s m args below meth c H locs 0 0 (MQ below (QW E sh2 (some (.int rz)) sz) args s 0 0 E.2.2.2) (F0 m 191 ls [.int k_26, .int ((x2 * (s_22 261 (((7 : Int32) + x1)).toNatClampNeg)) / v3_11)]) := by
              intro k_26 s_27 hf H locs ls hl hw hS
              subst ej191
              refine lv_iadd hx hb dX12_bill_191 ?_
              refine lv_goto (tgt := 196) hx hb dX12_bill_192 (by decide) ?_
              exact J196 _ _ hf _ _ ls hl hw hS
            clear ej191
            have hif := ok_if hf
            refine lv_icmp_ge (tgt := 190) hx hb dX12_bill_183 (by decide) (fun hcd => ?_) (fun hcd => ?_)
            · have hf := hif.1 hcd
              clear hif
              refine lv_iconst (v := 0) hx hb dX12_bill_190 (by decide) ?_
              exact J191 _ _ hf _ _ ls (lv_sub hl [] rfl) hw hS
            · have hf := hif.2 hcd
              clear hif
              refine lv_iconst (v := 1) hx hb dX12_bill_186 (by decide) ?_
              refine lv_goto (tgt := 191) hx hb dX12_bill_187 (by decide) ?_
              exact J191 _ _ hf _ _ ls (lv_sub hl [] rfl) hw hS
        have L81 : ∀ (n : Nat) (v4_15 : Int32) (v5_16 : Int32) (v6_17 : Int32) (s_18 : St), loopF (f_X12_bill_L81 x1 x2 v3_11) n (v4_15, v5_16, v6_17, s_18) = some r81 → ∀ (H : Heap) (locs : List Loc) (ls : Array Slot), lv_has ls 7 [(0, .ref (E.2.2.1 259)), (1, .int x1), (2, .int x2), (3, .int v3_11), (4, .int v4_15), (5, .int v5_16), (6, .int v6_17)] → World E sh2 s_18 H → va_S E.2.2.2 s.heap H locs → W p l e (rmd 3) s m args below meth c H locs 0 0 (MQ below (QW E sh2 (some (.int rz)) sz) args s 0 0 E.2.2.2) (F0 m 81 ls []) := by
          intro n
          induction n with
          | zero =>
            intro v4_15 v5_16 v6_17 s_18 hf
            exact nz hf
          | succ n ih81 =>
            intro v4_15 v5_16 v6_17 s_18 hf H locs ls hl hw hS
            obtain ⟨xl81, hf, hi81, he81⟩ := ok_loop hf
            unfold f_X12_bill_L81 at hf
            replace hf := ok_un4 hf
            refine lv_iload hx hb dX12_bill_81 (lv_at hl 6 rfl) ?_
            refine lv_aload_n hx hb dX12_bill_83 rfl (lv_at hl 0 rfl) ?_
            refine gModel_told hC hw wd597 dX12_bill_84 ?_
            refine lv_iconst (v := 1) hx hb dX12_bill_87 (by decide) ?_
            obtain ⟨hin, hf⟩ := ok_chk hf
            refine z_iald hC hw rfl hin dX12_bill_88 ?_
            have hif := ok_if hf
            refine lv_icmp_ge (tgt := 157) hx hb dX12_bill_89 (by decide) (fun hcd => ?_) (fun hcd => ?_)
            · have hf := hif.1 hcd
              clear hif
              cases hf
              exact X81_0 _ _ _ (he81 _ rfl) _ _ ls (lv_sub hl [0, 1, 2, 3, 4, 5] rfl) hw hS
            · have hf := hif.2 hcd
              clear hif
              refine lv_iload hx hb dX12_bill_92 (lv_at hl 4 rfl) ?_
              refine lv_aload_n hx hb dX12_bill_94 rfl (lv_at hl 0 rfl) ?_
              refine lv_iconst (v := 0) hx hb dX12_bill_95 (by decide) ?_
              refine lv_iload hx hb dX12_bill_96 (lv_at hl 6 rfl) ?_
              obtain ⟨r_29, s_28, hc, hf⟩ := ok_bd hf
              refine z_cV hC hl.1 hw hS (As := [.int (0 : Int32), .int v6_17]) (rest := [.int v4_15]) (m_X12_runs l E  hc) rfl rfl gc243 gc244 ⟨Nat.le_of_ble_eq_true rfl, Nat.le_of_ble_eq_true rfl⟩ ⟨Nat.le_of_ble_eq_true rfl, Nat.le_of_ble_eq_true rfl⟩ rfl rfl (Nat.le_of_ble_eq_true rfl) dX12_bill_98 (fun H locs hw hS => ?_)
              clear hc
              obtain ⟨j122, ej122, hf⟩ := ok_lt hf
              have J122 : ∀ (k_30 : Int32) (s_31 : St), j122 k_30 s_31 = some xl81 → ∀ (H : Heap) (locs : List Loc) (ls : Array Slot), lv_has ls 7 [(0, .ref (E.2.2.1 259)), (1, .int x1), (2, .int x2), (3, .int v3_11), (5, .int v5_16), (6, .int v6_17)] → World E sh2 s_31 H → va_S E.2.2.2 s.heap H locs → W p l e (rmd 3) s m args below meth c H locs 0 0 (MQ below (QW E sh2 (some (.int rz)) sz) args s 0 0 E.2.2.2) (F0 m 122 ls [.int k_30, .int v4_15]) := by
                intro k_30 s_31 hf H locs ls hl hw hS
                subst ej122
                refine lv_isub hx hb dX12_bill_122 ?_
                obtain ⟨v4_32, en, hf⟩ := ok_lt hf
                refine z_nm en ?_
                clear en
                refine lv_istore (lv' := [(4, .int v4_32), (0, .ref (E.2.2.1 259)), (1, .int x1), (2, .int x2), (3, .int v3_11), (5, .int v5_16), (6, .int v6_17)]) hx hb dX12_bill_123 hl (by decide) rfl (fun ls hl => ?_)
                refine lv_iload hx hb dX12_bill_125 (lv_at hl 5 rfl) ?_
                refine lv_iload hx hb dX12_bill_127 (lv_at hl 6 rfl) ?_
                refine lv_iload_n hx hb dX12_bill_129 rfl (lv_at hl 2 rfl) ?_
                obtain ⟨j148, ej148, hf⟩ := ok_lt hf
                have J148 : ∀ (k_33 : Int32) (s_34 : St), j148 k_33 s_34 = some xl81 → ∀ (H : Heap) (locs : List Loc) (ls : Array Slot), lv_has ls 7 [(0, .ref (E.2.2.1 259)), (1, .int x1), (2, .int x2), (3, .int v3_11), (4, .int v4_32), (6, .int v6_17)] → World E sh2 s_34 H → va_S E.2.2.2 s.heap H locs → W p l e (rmd 3) s m args below meth c H locs 0 0 (MQ below (QW E sh2 (some (.int rz)) sz) args s 0 0 E.2.2.2) (F0 m 148 ls [.int k_33, .int v5_16]) := by
                  intro k_33 s_34 hf H locs ls hl hw hS
                  subst ej148
                  refine lv_iadd hx hb dX12_bill_148 ?_
                  obtain ⟨v5_35, en, hf⟩ := ok_lt hf
                  refine z_nm en ?_
                  clear en
                  refine lv_istore (lv' := [(5, .int v5_35), (0, .ref (E.2.2.1 259)), (1, .int x1), (2, .int x2), (3, .int v3_11), (4, .int v4_32), (6, .int v6_17)]) hx hb dX12_bill_149 hl (by decide) rfl (fun ls hl => ?_)
                  obtain ⟨v6_36, en, hf⟩ := ok_lt hf
                  refine lv_iinc (v := v6_36) (lv' := [(6, .int v6_36), (5, .int v5_35), (0, .ref (E.2.2.1 259)), (1, .int x1), (2, .int x2), (3, .int v3_11), (4, .int v4_32)]) hx hb dX12_bill_151 hl (k := 6) rfl (by rw [en]; rfl) (by decide) rfl (fun ls hl => ?_)
                  clear en
                  refine lv_goto (tgt := 81) hx hb dX12_bill_154 (by decide) ?_
                  cases hf
                  exact ih81 _ _ _ _ (hi81 _ rfl) _ _ ls (lv_sub hl [2, 3, 4, 5, 6, 1, 0] rfl) hw hS
                clear ej148
                obtain ⟨j147, ej147, hf⟩ := ok_lt hf
                have J147 : ∀ (s_37 : St), j147 s_37 = some xl81 → ∀ (H : Heap) (locs : List Loc) (ls : Array Slot), lv_has ls 7 [(0, .ref (E.2.2.1 259)), (1, .int x1), (2, .int x2), (3, .int v3_11), (4, .int v4_32), (6, .int v6_17)] → World E sh2 s_37 H → va_S E.2.2.2 s.heap H locs → W p l e (rmd 3) s m args below meth c H locs 0 0 (MQ below (QW E sh2 (some (.int rz)) sz) args s 0 0 E.2.2.2) (F0 m 147 ls [.int v5_16]) := by
                  intro s_37 hf H locs ls hl hw hS
                  subst ej147
                  refine lv_iconst (v := 0) hx hb dX12_bill_147 (by decide) ?_
                  exact J148 _ _ hf _ _ ls hl hw hS
                clear ej147
                have hif := ok_if hf
                refine lv_icmp_ge (tgt := 147) hx hb dX12_bill_130 (by decide) (fun hcd => ?_) (fun hcd => ?_)
                · have hf := hif.1 hcd
                  clear hif
                  exact J147 _ hf _ _ ls (lv_sub hl [1, 2, 3, 4, 0, 6] rfl) hw hS
                · have hf := hif.2 hcd
                  clear hif
                  refine lv_aload_n hx hb dX12_bill_133 rfl (lv_at hl 1 rfl) ?_
                  refine lv_iconst (v := 0) hx hb dX12_bill_134 (by decide) ?_
                  refine lv_iload hx hb dX12_bill_135 (lv_at hl 6 rfl) ?_
                  obtain ⟨r_39, s_38, hc, hf⟩ := ok_bd hf
                  refine z_cV hC hl.1 hw hS (As := [.int (0 : Int32), .int v6_17]) (rest := [.int v5_16]) (m_X12_runs l E  hc) rfl rfl gc243 gc244 ⟨Nat.le_of_ble_eq_true rfl, Nat.le_of_ble_eq_true rfl⟩ ⟨Nat.le_of_ble_eq_true rfl, Nat.le_of_ble_eq_true rfl⟩ rfl rfl (Nat.le_of_ble_eq_true rfl) dX12_bill_137 (fun H locs hw hS => ?_)
                  clear hc
                  have hif := ok_if hf
                  refine lv_if_eq (tgt := 147) hx hb dX12_bill_140 (by decide) (fun hcd => ?_) (fun hcd => ?_)
                  · have hf := hif.1 hcd
                    clear hif
                    exact J147 _ hf _ _ ls (lv_sub hl [1, 2, 3, 4, 0, 6] rfl) hw hS
                  · have hf := hif.2 hcd
                    clear hif
                    refine lv_iconst (v := 1) hx hb dX12_bill_143 (by decide) ?_
                    refine lv_goto (tgt := 148) hx hb dX12_bill_144 (by decide) ?_
                    exact J148 _ _ hf _ _ ls (lv_sub hl [1, 2, 3, 4, 0, 6] rfl) hw hS
              clear ej122
              have hif := ok_if hf
              refine lv_if_eq (tgt := 121) hx hb dX12_bill_101 (by decide) (fun hcd => ?_) (fun hcd => ?_)
              · have hf := hif.1 hcd
                clear hif
                refine lv_iconst (v := 0) hx hb dX12_bill_121 (by decide) ?_
                exact J122 _ _ hf _ _ ls (lv_sub hl [0, 1, 2, 3, 5, 6] rfl) hw hS
              · have hf := hif.2 hcd
                clear hif
                refine lv_iload_n hx hb dX12_bill_104 rfl (lv_at hl 2 rfl) ?_
                refine lv_aload_n hx hb dX12_bill_105 rfl (lv_at hl 0 rfl) ?_
                refine gModel_told hC hw wd597 dX12_bill_106 ?_
                refine lv_bipush (v := 7) hx hb dX12_bill_109 (by decide) ?_
                refine lv_iload hx hb dX12_bill_111 (lv_at hl 6 rfl) ?_
                refine lv_iadd hx hb dX12_bill_113 ?_
                obtain ⟨hin, hf⟩ := ok_chk hf
                refine z_iald hC hw rfl hin dX12_bill_114 ?_
                refine lv_imul hx hb dX12_bill_115 ?_
                refine lv_iload_n hx hb dX12_bill_116 rfl (lv_at hl 3 rfl) ?_
                obtain ⟨hnz, hf⟩ := ok_chk hf
                refine lv_idiv hx hb dX12_bill_117 hnz ?_
                refine lv_goto (tgt := 122) hx hb dX12_bill_118 (by decide) ?_
                exact J122 _ _ hf _ _ ls (lv_sub hl [0, 1, 2, 3, 5, 6] rfl) hw hS
        exact L81 5000 _ _ _ _ hL81 _ _ ls (lv_sub hl [3, 4, 5, 6, 2, 1, 0] rfl) hw hS
      have L28 : ∀ (n : Nat) (v3_8 : Int32) (v4_9 : Int32) (s_10 : St), loopF f_X12_bill_L28 n (v3_8, v4_9, s_10) = some r28 → ∀ (H : Heap) (locs : List Loc) (ls : Array Slot), lv_has ls 7 [(0, .ref (E.2.2.1 259)), (1, .int x1), (2, .int x2), (3, .int v3_8), (4, .int v4_9)] → World E sh2 s_10 H → va_S E.2.2.2 s.heap H locs → W p l e (rmd 3) s m args below meth c H locs 0 0 (MQ below (QW E sh2 (some (.int rz)) sz) args s 0 0 E.2.2.2) (F0 m 28 ls []) := by
        intro n
        induction n with
        | zero =>
          intro v3_8 v4_9 s_10 hf
          exact nz hf
        | succ n ih28 =>
          intro v3_8 v4_9 s_10 hf H locs ls hl hw hS
          obtain ⟨xl28, hf, hi28, he28⟩ := ok_loop hf
          unfold f_X12_bill_L28 at hf
          replace hf := ok_un3 hf
          refine lv_iload hx hb dX12_bill_28 (lv_at hl 4 rfl) ?_
          refine lv_aload_n hx hb dX12_bill_30 rfl (lv_at hl 0 rfl) ?_
          refine gModel_told hC hw wd597 dX12_bill_31 ?_
          refine lv_iconst (v := 1) hx hb dX12_bill_34 (by decide) ?_
          obtain ⟨hin, hf⟩ := ok_chk hf
          refine z_iald hC hw rfl hin dX12_bill_35 ?_
          have hif := ok_if hf
          refine lv_icmp_ge (tgt := 72) hx hb dX12_bill_36 (by decide) (fun hcd => ?_) (fun hcd => ?_)
          · have hf := hif.1 hcd
            clear hif
            cases hf
            exact X28_0 _ _ (he28 _ rfl) _ _ ls (lv_sub hl [0, 1, 2, 3] rfl) hw hS
          · have hf := hif.2 hcd
            clear hif
            refine lv_iload_n hx hb dX12_bill_39 rfl (lv_at hl 3 rfl) ?_
            refine lv_aload_n hx hb dX12_bill_40 rfl (lv_at hl 0 rfl) ?_
            refine lv_iconst (v := 0) hx hb dX12_bill_41 (by decide) ?_
            refine lv_iload hx hb dX12_bill_42 (lv_at hl 4 rfl) ?_
            obtain ⟨r_41, s_40, hc, hf⟩ := ok_bd hf
            refine z_cV hC hl.1 hw hS (As := [.int (0 : Int32), .int v4_9]) (rest := [.int v3_8]) (m_X12_runs l E  hc) rfl rfl gc243 gc244 ⟨Nat.le_of_ble_eq_true rfl, Nat.le_of_ble_eq_true rfl⟩ ⟨Nat.le_of_ble_eq_true rfl, Nat.le_of_ble_eq_true rfl⟩ rfl rfl (Nat.le_of_ble_eq_true rfl) dX12_bill_44 (fun H locs hw hS => ?_)
            clear hc
            obtain ⟨j64, ej64, hf⟩ := ok_lt hf
            have J64 : ∀ (k_42 : Int32) (s_43 : St), j64 k_42 s_43 = some xl28 → ∀ (H : Heap) (locs : List Loc) (ls : Array Slot), lv_has ls 7 [(0, .ref (E.2.2.1 259)), (1, .int x1), (2, .int x2), (4, .int v4_9)] → World E sh2 s_43 H → va_S E.2.2.2 s.heap H locs → W p l e (rmd 3) s m args below meth c H locs 0 0 (MQ below (QW E sh2 (some (.int rz)) sz) args s 0 0 E.2.2.2) (F0 m 64 ls [.int k_42, .int v3_8]) := by
              intro k_42 s_43 hf H locs ls hl hw hS
              subst ej64
              refine lv_iadd hx hb dX12_bill_64 ?_
              obtain ⟨v3_44, en, hf⟩ := ok_lt hf
              refine z_nm en ?_
              clear en
              refine lv_istore_n (lv' := [(3, .int v3_44), (0, .ref (E.2.2.1 259)), (1, .int x1), (2, .int x2), (4, .int v4_9)]) hx hb dX12_bill_65 rfl hl (by decide) rfl (fun ls hl => ?_)
              obtain ⟨v4_45, en, hf⟩ := ok_lt hf
              refine lv_iinc (v := v4_45) (lv' := [(4, .int v4_45), (3, .int v3_44), (0, .ref (E.2.2.1 259)), (1, .int x1), (2, .int x2)]) hx hb dX12_bill_66 hl (k := 4) rfl (by rw [en]; rfl) (by decide) rfl (fun ls hl => ?_)
              clear en
              refine lv_goto (tgt := 28) hx hb dX12_bill_69 (by decide) ?_
              cases hf
              exact ih28 _ _ _ (hi28 _ rfl) _ _ ls (lv_sub hl [2, 3, 4, 1, 0] rfl) hw hS
            clear ej64
            have hif := ok_if hf
            refine lv_if_eq (tgt := 63) hx hb dX12_bill_47 (by decide) (fun hcd => ?_) (fun hcd => ?_)
            · have hf := hif.1 hcd
              clear hif
              refine lv_iconst (v := 0) hx hb dX12_bill_63 (by decide) ?_
              exact J64 _ _ hf _ _ ls (lv_sub hl [0, 1, 2, 4] rfl) hw hS
            · have hf := hif.2 hcd
              clear hif
              refine lv_aload_n hx hb dX12_bill_50 rfl (lv_at hl 0 rfl) ?_
              refine gModel_told hC hw wd597 dX12_bill_51 ?_
              refine lv_bipush (v := 7) hx hb dX12_bill_54 (by decide) ?_
              refine lv_iload hx hb dX12_bill_56 (lv_at hl 4 rfl) ?_
              refine lv_iadd hx hb dX12_bill_58 ?_
              obtain ⟨hin, hf⟩ := ok_chk hf
              refine z_iald hC hw rfl hin dX12_bill_59 ?_
              refine lv_goto (tgt := 64) hx hb dX12_bill_60 (by decide) ?_
              exact J64 _ _ hf _ _ ls (lv_sub hl [0, 1, 2, 4] rfl) hw hS
      exact L28 5000 _ _ _ hL28 _ _ ls (lv_sub hl [2, 3, 4, 1, 0] rfl) hw hS
    · have hf := hif.2 (fun q => q hcd)
      clear hif
      exact J20 _ hf _ _ ls (lv_sub hl [] rfl) hw hS
set_option maxHeartbeats 4000000 in
set_option maxRecDepth 100000 in
theorem m_X12_isSo (l : Launch) (E : Ev) {x1 : Int32} {x2 : Int32} {x3 : Int32} {x4 : Int32}  {s0 sz : St} {rz : Int32} (hf : f_X12_isSo x1 x2 x3 x4 s0 = some (rz, sz)) : MM l E sh2 yX12_isSo cX12_isSo 7 (some .boolean) (rmd 6) [.ref (E.2.2.1 259), .int x1, .int x2, .int x3, .int x4] s0 (some (.int rz)) sz := by
  unfold f_X12_isSo at hf
  refine z_enter (by decide +kernel) (Nat.le_of_ble_eq_true rfl) ?_
  intro p e s m args below meth c ls hC hr hlocks hw hS hl
  have hC : Cx p s m args c cX12_isSo 7 "FuseBoxModel" E := hC
  obtain ⟨hx, hb, hml, hown, hts, hTB⟩ := id hC
  have hl : lv_has ls 7 [(0, .ref (E.2.2.1 259)), (1, .int x1), (2, .int x2), (3, .int x3), (4, .int x4)] := hl
  refine lv_iconst (v := 1) hx hb dX12_isSo_0 (by decide) ?_
  obtain ⟨v5_1, en, hf⟩ := ok_lt hf
  refine z_nm en ?_
  clear en
  refine lv_istore (lv' := [(5, .int v5_1), (0, .ref (E.2.2.1 259)), (1, .int x1), (2, .int x2), (3, .int x3), (4, .int x4)]) hx hb dX12_isSo_1 hl (by decide) rfl (fun ls hl => ?_)
  refine lv_iconst (v := 0) hx hb dX12_isSo_3 (by decide) ?_
  obtain ⟨v6_2, en, hf⟩ := ok_lt hf
  refine z_nm en ?_
  clear en
  refine lv_istore (lv' := [(6, .int v6_2), (5, .int v5_1), (0, .ref (E.2.2.1 259)), (1, .int x1), (2, .int x2), (3, .int x3), (4, .int x4)]) hx hb dX12_isSo_4 hl (by decide) rfl (fun ls hl => ?_)
  obtain ⟨r6, hL6, hf⟩ := ok_bind hf
  have X6_0 : ∀ (v5_6 : Int32) (s_7 : St), (v5_6, s_7) = r6 → ∀ (H : Heap) (locs : List Loc) (ls : Array Slot), lv_has ls 7 [(5, .int v5_6)] → World E sh2 s_7 H → va_S E.2.2.2 s.heap H locs → W p l e (rmd 6) s m args below meth c H locs 0 0 (MQ below (QW E sh2 (some (.int rz)) sz) args s 0 0 E.2.2.2) (F0 m 63 ls []) := by
    intro v5_6 s_7 er H locs ls hl hw hS
    subst er
    replace hf := ok_un2 hf
    refine lv_iload hx hb dX12_isSo_63 (lv_at hl 0 rfl) ?_
    obtain ⟨hbo, hf⟩ := ok_chk hf
    exact z_iretE hC hlocks hw hS hf hr (narB hbo) dX12_isSo_65
  have L6 : ∀ (n : Nat) (v5_3 : Int32) (v6_4 : Int32) (s_5 : St), loopF (f_X12_isSo_L6 x1 x2 x3 x4) n (v5_3, v6_4, s_5) = some r6 → ∀ (H : Heap) (locs : List Loc) (ls : Array Slot), lv_has ls 7 [(0, .ref (E.2.2.1 259)), (1, .int x1), (2, .int x2), (3, .int x3), (4, .int x4), (5, .int v5_3), (6, .int v6_4)] → World E sh2 s_5 H → va_S E.2.2.2 s.heap H locs → W p l e (rmd 6) s m args below meth c H locs 0 0 (MQ below (QW E sh2 (some (.int rz)) sz) args s 0 0 E.2.2.2) (F0 m 6 ls []) := by
    intro n
    induction n with
    | zero =>
      intro v5_3 v6_4 s_5 hf
      exact nz hf
    | succ n ih6 =>
      intro v5_3 v6_4 s_5 hf H locs ls hl hw hS
      obtain ⟨xl6, hf, hi6, he6⟩ := ok_loop hf
      unfold f_X12_isSo_L6 at hf
      replace hf := ok_un3 hf
      refine lv_iload hx hb dX12_isSo_6 (lv_at hl 6 rfl) ?_
      refine lv_iload hx hb dX12_isSo_8 (lv_at hl 4 rfl) ?_
      have hif := ok_if hf
      refine lv_icmp_ge (tgt := 63) hx hb dX12_isSo_10 (by decide) (fun hcd => ?_) (fun hcd => ?_)
      · have hf := hif.1 hcd
        clear hif
        cases hf
        exact X6_0 _ _ (he6 _ rfl) _ _ ls (lv_sub hl [5] rfl) hw hS
      · have hf := hif.2 hcd
        clear hif
        refine lv_aload_n hx hb dX12_isSo_13 rfl (lv_at hl 0 rfl) ?_
        refine lv_iconst (v := 1) hx hb dX12_isSo_14 (by decide) ?_
        obtain ⟨s_8, hc, hf⟩ := ok_bind hf
        refine z_cV hC hl.1 hw hS (As := [.int (1 : Int32)]) (rest := []) (m_X12_goesOn l E  hc) rfl rfl gc275 gc276 ⟨Nat.le_of_ble_eq_true rfl, Nat.le_of_ble_eq_true rfl⟩ ⟨Nat.le_of_ble_eq_true rfl, Nat.le_of_ble_eq_true rfl⟩ rfl rfl (Nat.le_of_ble_eq_true rfl) dX12_isSo_15 (fun H locs hw hS => ?_)
        clear hc
        refine lv_iload hx hb dX12_isSo_18 (lv_at hl 5 rfl) ?_
        obtain ⟨j55, ej55, hf⟩ := ok_lt hf
        have J55 : ∀ (k_9 : Int32) (s_10 : St), j55 k_9 s_10 = some xl6 → ∀ (H : Heap) (locs : List Loc) (ls : Array Slot), lv_has ls 7 [(0, .ref (E.2.2.1 259)), (1, .int x1), (2, .int x2), (3, .int x3), (4, .int x4), (6, .int v6_4)] → World E sh2 s_10 H → va_S E.2.2.2 s.heap H locs → W p l e (rmd 6) s m args below meth c H locs 0 0 (MQ below (QW E sh2 (some (.int rz)) sz) args s 0 0 E.2.2.2) (F0 m 55 ls [.int k_9]) := by
          intro k_9 s_10 hf H locs ls hl hw hS
          subst ej55
          refine lv_istore (lv' := [(5, .int k_9), (0, .ref (E.2.2.1 259)), (1, .int x1), (2, .int x2), (3, .int x3), (4, .int x4), (6, .int v6_4)]) hx hb dX12_isSo_55 hl (by decide) rfl (fun ls hl => ?_)
          obtain ⟨v6_11, en, hf⟩ := ok_lt hf
          refine lv_iinc (v := v6_11) (lv' := [(6, .int v6_11), (5, .int k_9), (0, .ref (E.2.2.1 259)), (1, .int x1), (2, .int x2), (3, .int x3), (4, .int x4)]) hx hb dX12_isSo_57 hl (k := 6) rfl (by rw [en]; rfl) (by decide) rfl (fun ls hl => ?_)
          clear en
          refine lv_goto (tgt := 6) hx hb dX12_isSo_60 (by decide) ?_
          cases hf
          exact ih6 _ _ _ (hi6 _ rfl) _ _ ls (lv_sub hl [2, 3, 4, 5, 6, 1, 0] rfl) hw hS
        clear ej55
        obtain ⟨j54, ej54, hf⟩ := ok_lt hf
        have J54 : ∀ (s_12 : St), j54 s_12 = some xl6 → ∀ (H : Heap) (locs : List Loc) (ls : Array Slot), lv_has ls 7 [(0, .ref (E.2.2.1 259)), (1, .int x1), (2, .int x2), (3, .int x3), (4, .int x4), (6, .int v6_4)] → World E sh2 s_12 H → va_S E.2.2.2 s.heap H locs → W p l e (rmd 6) s m args below meth c H locs 0 0 (MQ below (QW E sh2 (some (.int rz)) sz) args s 0 0 E.2.2.2) (F0 m 54 ls []) := by
          intro s_12 hf H locs ls hl hw hS
          subst ej54
          refine lv_iconst (v := 0) hx hb dX12_isSo_54 (by decide) ?_
          exact J55 _ _ hf _ _ ls hl hw hS
        clear ej54
        have hif := ok_if hf
        refine lv_if_eq (tgt := 54) hx hb dX12_isSo_20 (by decide) (fun hcd => ?_) (fun hcd => ?_)
        · have hf := hif.1 hcd
          clear hif
          exact J54 _ hf _ _ ls (lv_sub hl [0, 1, 2, 3, 4, 6] rfl) hw hS
        · have hf := hif.2 hcd
          clear hif
          refine lv_aload_n hx hb dX12_isSo_23 rfl (lv_at hl 0 rfl) ?_
          refine gModel_slot hC hw wd598 dX12_isSo_24 ?_
          refine lv_sipush (v := 729) hx hb dX12_isSo_27 (by decide) ?_
          refine lv_iload_n hx hb dX12_isSo_30 rfl (lv_at hl 1 rfl) ?_
          refine lv_iadd hx hb dX12_isSo_31 ?_
          obtain ⟨hin, hf⟩ := ok_chk hf
          refine z_iald hC hw rfl hin dX12_isSo_32 ?_
          refine lv_aload_n hx hb dX12_isSo_33 rfl (lv_at hl 0 rfl) ?_
          refine gModel_items hC hw wd543 dX12_isSo_34 ?_
          refine lv_bipush (v := 40) hx hb dX12_isSo_37 (by decide) ?_
          refine lv_iload_n hx hb dX12_isSo_39 rfl (lv_at hl 2 rfl) ?_
          refine lv_imul hx hb dX12_isSo_40 ?_
          refine lv_iload_n hx hb dX12_isSo_41 rfl (lv_at hl 3 rfl) ?_
          refine lv_iadd hx hb dX12_isSo_42 ?_
          refine lv_iload hx hb dX12_isSo_43 (lv_at hl 6 rfl) ?_
          refine lv_iadd hx hb dX12_isSo_45 ?_
          obtain ⟨hin, hf⟩ := ok_chk hf
          refine z_iald hC hw rfl hin dX12_isSo_46 ?_
          have hif := ok_if hf
          refine lv_icmp_ne (tgt := 54) hx hb dX12_isSo_47 (by decide) (fun hcd => ?_) (fun hcd => ?_)
          · have hf := hif.1 hcd
            clear hif
            exact J54 _ hf _ _ ls (lv_sub hl [0, 1, 2, 3, 4, 6] rfl) hw hS
          · have hf := hif.2 (fun q => q hcd)
            clear hif
            refine lv_iconst (v := 1) hx hb dX12_isSo_50 (by decide) ?_
            refine lv_goto (tgt := 55) hx hb dX12_isSo_51 (by decide) ?_
            exact J55 _ _ hf _ _ ls (lv_sub hl [0, 1, 2, 3, 4, 6] rfl) hw hS
  exact L6 5000 _ _ _ hL6 _ _ ls (lv_sub hl [2, 3, 4, 5, 6, 1, 0] rfl) hw hS
set_option maxHeartbeats 4000000 in
set_option maxRecDepth 100000 in
theorem m_X12_sorts (l : Launch) (E : Ev) {x1 : Int32} {x2 : Int32} {x3 : Int32} {x4 : Int32}  {s0 sz : St} {rz : Int32} (hf : f_X12_sorts x1 x2 x3 x4 s0 = some (rz, sz)) : MM l E sh2 yX12_sorts cX12_sorts 9 (some .int) (rmd 7) [.ref (E.2.2.1 259), .int x1, .int x2, .int x3, .int x4] s0 (some (.int rz)) sz := by
  unfold f_X12_sorts at hf
  refine z_enter (by decide +kernel) (Nat.le_of_ble_eq_true rfl) ?_
  intro p e s m args below meth c ls hC hr hlocks hw hS hl
  have hC : Cx p s m args c cX12_sorts 9 "FuseBoxModel" E := hC
  obtain ⟨hx, hb, hml, hown, hts, hTB⟩ := id hC
  have hl : lv_has ls 9 [(0, .ref (E.2.2.1 259)), (1, .int x1), (2, .int x2), (3, .int x3), (4, .int x4)] := hl
  refine lv_aload_n hx hb dX12_sorts_0 rfl (lv_at hl 0 rfl) ?_
  refine gModel_told hC hw wd597 dX12_sorts_1 ?_
  refine lv_iconst (v := 3) hx hb dX12_sorts_4 (by decide) ?_
  refine lv_iload_n hx hb dX12_sorts_5 rfl (lv_at hl 1 rfl) ?_
  refine lv_iadd hx hb dX12_sorts_6 ?_
  obtain ⟨hin, hf⟩ := ok_chk hf
  refine z_iald hC hw rfl hin dX12_sorts_7 ?_
  obtain ⟨v5_1, en, hf⟩ := ok_lt hf
  refine z_nm en ?_
  clear en
  refine lv_istore (lv' := [(5, .int v5_1), (0, .ref (E.2.2.1 259)), (1, .int x1), (2, .int x2), (3, .int x3), (4, .int x4)]) hx hb dX12_sorts_8 hl (by decide) rfl (fun ls hl => ?_)
  refine lv_iconst (v := 0) hx hb dX12_sorts_10 (by decide) ?_
  obtain ⟨v6_2, en, hf⟩ := ok_lt hf
  refine z_nm en ?_
  clear en
  refine lv_istore (lv' := [(6, .int v6_2), (5, .int v5_1), (0, .ref (E.2.2.1 259)), (1, .int x1), (2, .int x2), (3, .int x3), (4, .int x4)]) hx hb dX12_sorts_11 hl (by decide) rfl (fun ls hl => ?_)
  refine lv_iconst (v := 1) hx hb dX12_sorts_13 (by decide) ?_
  obtain ⟨v7_3, en, hf⟩ := ok_lt hf
  refine z_nm en ?_
  clear en
  refine lv_istore (lv' := [(7, .int v7_3), (6, .int v6_2), (5, .int v5_1), (0, .ref (E.2.2.1 259)), (1, .int x1), (2, .int x2), (3, .int x3), (4, .int x4)]) hx hb dX12_sorts_14 hl (by decide) rfl (fun ls hl => ?_)
  obtain ⟨r16, hL16, hf⟩ := ok_bind hf
  have X16_0 : ∀ (v6_7 : Int32) (s_8 : St), (v6_7, s_8) = r16 → ∀ (H : Heap) (locs : List Loc) (ls : Array Slot), lv_has ls 9 [(0, .ref (E.2.2.1 259)), (1, .int x1), (5, .int v5_1), (6, .int v6_7)] → World E sh2 s_8 H → va_S E.2.2.2 s.heap H locs → W p l e (rmd 7) s m args below meth c H locs 0 0 (MQ below (QW E sh2 (some (.int rz)) sz) args s 0 0 E.2.2.2) (F0 m 120 ls []) := by
    intro v6_7 s_8 er H locs ls hl hw hS
    subst er
    replace hf := ok_un2 hf
    refine lv_aload_n hx hb dX12_sorts_120 rfl (lv_at hl 0 rfl) ?_
    refine gModel_told hC hw wd597 dX12_sorts_121 ?_
    refine lv_iconst (v := 3) hx hb dX12_sorts_124 (by decide) ?_
    refine lv_iload_n hx hb dX12_sorts_125 rfl (lv_at hl 1 rfl) ?_
    refine lv_iadd hx hb dX12_sorts_126 ?_
    refine lv_iload hx hb dX12_sorts_127 (lv_at hl 2 rfl) ?_
    obtain ⟨hin, hf⟩ := ok_chk hf
    obtain ⟨s_9, en, hf⟩ := ok_lt hf
    refine z_iast hC hw hS rfl hin en dX12_sorts_129 (fun H locs hw hS => ?_)
    clear en
    refine lv_iload hx hb dX12_sorts_130 (lv_at hl 3 rfl) ?_
    exact z_iretE hC hlocks hw hS hf hr rfl dX12_sorts_132
  have L16 : ∀ (n : Nat) (v6_4 : Int32) (v7_5 : Int32) (s_6 : St), loopF (f_X12_sorts_L16 x1 x2 x3 x4 v5_1) n (v6_4, v7_5, s_6) = some r16 → ∀ (H : Heap) (locs : List Loc) (ls : Array Slot), lv_has ls 9 [(0, .ref (E.2.2.1 259)), (1, .int x1), (2, .int x2), (3, .int x3), (4, .int x4), (5, .int v5_1), (6, .int v6_4), (7, .int v7_5)] → World E sh2 s_6 H → va_S E.2.2.2 s.heap H locs → W p l e (rmd 7) s m args below meth c H locs 0 0 (MQ below (QW E sh2 (some (.int rz)) sz) args s 0 0 E.2.2.2) (F0 m 16 ls []) := by
    intro n
    induction n with
    | zero =>
      intro v6_4 v7_5 s_6 hf
      exact nz hf
    | succ n ih16 =>
      intro v6_4 v7_5 s_6 hf H locs ls hl hw hS
      obtain ⟨xl16, hf, hi16, he16⟩ := ok_loop hf
      unfold f_X12_sorts_L16 at hf
      replace hf := ok_un3 hf
      refine lv_iload hx hb dX12_sorts_16 (lv_at hl 7 rfl) ?_
      refine lv_bipush (v := 6) hx hb dX12_sorts_18 (by decide) ?_
      have hif := ok_if hf
      refine lv_icmp_ge (tgt := 120) hx hb dX12_sorts_20 (by decide) (fun hcd => ?_) (fun hcd => ?_)
      · have hf := hif.1 hcd
        clear hif
        cases hf
        exact X16_0 _ _ (he16 _ rfl) _ _ ls (lv_sub hl [0, 1, 5, 6] rfl) hw hS
      · have hf := hif.2 hcd
        clear hif
        refine lv_aload_n hx hb dX12_sorts_23 rfl (lv_at hl 0 rfl) ?_
        refine lv_iconst (v := 0) hx hb dX12_sorts_24 (by decide) ?_
        refine lv_sipush (v := 729) hx hb dX12_sorts_25 (by decide) ?_
        obtain ⟨s_10, hc, hf⟩ := ok_bind hf
        refine z_cV hC hl.1 hw hS (As := [.int (0 : Int32), .int (729 : Int32)]) (rest := []) (m_X12_copies l E  hc) rfl rfl gc257 gc258 ⟨Nat.le_of_ble_eq_true rfl, Nat.le_of_ble_eq_true rfl⟩ ⟨Nat.le_of_ble_eq_true rfl, Nat.le_of_ble_eq_true rfl⟩ rfl rfl (Nat.le_of_ble_eq_true rfl) dX12_sorts_28 (fun H locs hw hS => ?_)
        clear hc
        refine lv_aload_n hx hb dX12_sorts_31 rfl (lv_at hl 0 rfl) ?_
        refine gModel_slot hC hw wd598 dX12_sorts_32 ?_
        refine lv_iconst (v := 4) hx hb dX12_sorts_35 (by decide) ?_
        refine lv_iload_n hx hb dX12_sorts_36 rfl (lv_at hl 1 rfl) ?_
        refine lv_iadd hx hb dX12_sorts_37 ?_
        obtain ⟨hin, hf⟩ := ok_chk hf
        refine z_iald hC hw rfl hin dX12_sorts_38 ?_
        obtain ⟨v8_11, en, hf⟩ := ok_lt hf
        refine z_nm en ?_
        clear en
        refine lv_istore (lv' := [(8, .int v8_11), (0, .ref (E.2.2.1 259)), (1, .int x1), (2, .int x2), (3, .int x3), (4, .int x4), (5, .int v5_1), (6, .int v6_4), (7, .int v7_5)]) hx hb dX12_sorts_39 hl (by decide) rfl (fun ls hl => ?_)
        refine lv_aload_n hx hb dX12_sorts_41 rfl (lv_at hl 1 rfl) ?_
        refine gModel_slot hC hw wd598 dX12_sorts_42 ?_
        refine lv_sipush (v := 733) hx hb dX12_sorts_45 (by decide) ?_
        refine lv_iload_n hx hb dX12_sorts_48 rfl (lv_at hl 2 rfl) ?_
        refine lv_iadd hx hb dX12_sorts_49 ?_
        refine lv_iload hx hb dX12_sorts_50 (lv_at hl 0 rfl) ?_
        obtain ⟨j78, ej78, hf⟩ := ok_lt hf
        have J78 : ∀ (k_12 : Int32) (s_13 : St), j78 k_12 s_13 = some xl16 → ∀ (H : Heap) (locs : List Loc) (ls : Array Slot), lv_has ls 9 [(0, .ref (E.2.2.1 259)), (1, .int x1), (2, .int x2), (3, .int x3), (4, .int x4), (5, .int v5_1), (6, .int v6_4), (7, .int v7_5)] → World E sh2 s_13 H → va_S E.2.2.2 s.heap H locs → W p l e (rmd 7) s m args below meth c H locs 0 0 (MQ below (QW E sh2 (some (.int rz)) sz) args s 0 0 E.2.2.2) (F0 m 78 ls [.int k_12, .int ((733 : Int32) + x1), .ref (E.2.2.1 260)]) := by
          intro k_12 s_13 hf H locs ls hl hw hS
          subst ej78
          obtain ⟨hin, hf⟩ := ok_chk hf
          obtain ⟨s_14, en, hf⟩ := ok_lt hf
          refine z_iast hC hw hS rfl hin en dX12_sorts_78 (fun H locs hw hS => ?_)
          clear en
          refine lv_aload_n hx hb dX12_sorts_79 rfl (lv_at hl 0 rfl) ?_
          refine gModel_told hC hw wd597 dX12_sorts_80 ?_
          refine lv_iconst (v := 3) hx hb dX12_sorts_83 (by decide) ?_
          refine lv_iload_n hx hb dX12_sorts_84 rfl (lv_at hl 1 rfl) ?_
          refine lv_iadd hx hb dX12_sorts_85 ?_
          refine lv_iload hx hb dX12_sorts_86 (lv_at hl 7 rfl) ?_
          obtain ⟨hin, hf⟩ := ok_chk hf
          obtain ⟨s_15, en, hf⟩ := ok_lt hf
          refine z_iast hC hw hS rfl hin en dX12_sorts_88 (fun H locs hw hS => ?_)
          clear en
          refine lv_iload hx hb dX12_sorts_89 (lv_at hl 6 rfl) ?_
          refine lv_aload_n hx hb dX12_sorts_91 rfl (lv_at hl 0 rfl) ?_
          refine lv_iload_n hx hb dX12_sorts_92 rfl (lv_at hl 1 rfl) ?_
          refine lv_iload_n hx hb dX12_sorts_93 rfl (lv_at hl 2 rfl) ?_
          refine lv_iload_n hx hb dX12_sorts_94 rfl (lv_at hl 3 rfl) ?_
          refine lv_iload hx hb dX12_sorts_95 (lv_at hl 4 rfl) ?_
          obtain ⟨r_17, s_16, hc, hf⟩ := ok_bd hf
          refine z_cV hC hl.1 hw hS (As := [.int x1, .int x2, .int x3, .int x4]) (rest := [.int v6_4]) (m_X12_isSo l E  hc) rfl rfl gc289 gc290 ⟨Nat.le_of_ble_eq_true rfl, Nat.le_of_ble_eq_true rfl⟩ ⟨Nat.le_of_ble_eq_true rfl, Nat.le_of_ble_eq_true rfl⟩ rfl rfl (Nat.le_of_ble_eq_true rfl) dX12_sorts_97 (fun H locs hw hS => ?_)
          clear hc
          obtain ⟨j111, ej111, hf⟩ := ok_lt hf
          have J111 : ∀ (k_18 : Int32) (s_19 : St), j111 k_18 s_19 = some xl16 → ∀ (H : Heap) (locs : List Loc) (ls : Array Slot), lv_has ls 9 [(0, .ref (E.2.2.1 259)), (1, .int x1), (2, .int x2), (3, .int x3), (4, .int x4), (5, .int v5_1), (7, .int v7_5)] → World E sh2 s_19 H → va_S E.2.2.2 s.heap H locs → W p l e (rmd 7) s m args below meth c H locs 0 0 (MQ below (QW E sh2 (some (.int rz)) sz) args s 0 0 E.2.2.2) (F0 m 111 ls [.int k_18, .int v6_4]) := by
            intro k_18 s_19 hf H locs ls hl hw hS
            subst ej111
            refine lv_ior hx hb dX12_sorts_111 ?_
            obtain ⟨v6_20, en, hf⟩ := ok_lt hf
            refine z_nm en ?_
            clear en
            refine lv_istore (lv' := [(6, .int v6_20), (0, .ref (E.2.2.1 259)), (1, .int x1), (2, .int x2), (3, .int x3), (4, .int x4), (5, .int v5_1), (7, .int v7_5)]) hx hb dX12_sorts_112 hl (by decide) rfl (fun ls hl => ?_)
            obtain ⟨v7_21, en, hf⟩ := ok_lt hf
            refine lv_iinc (v := v7_21) (lv' := [(7, .int v7_21), (6, .int v6_20), (0, .ref (E.2.2.1 259)), (1, .int x1), (2, .int x2), (3, .int x3), (4, .int x4), (5, .int v5_1)]) hx hb dX12_sorts_114 hl (k := 7) rfl (by rw [en]; rfl) (by decide) rfl (fun ls hl => ?_)
            clear en
            refine lv_goto (tgt := 16) hx hb dX12_sorts_117 (by decide) ?_
            cases hf
            exact ih16 _ _ _ (hi16 _ rfl) _ _ ls (lv_sub hl [2, 3, 4, 5, 6, 7, 1, 0] rfl) hw hS
          clear ej111
          have hif := ok_if hf
          refine lv_if_eq (tgt := 110) hx hb dX12_sorts_100 (by decide) (fun hcd => ?_) (fun hcd => ?_)
          · have hf := hif.1 hcd
            clear hif
            refine lv_iconst (v := 0) hx hb dX12_sorts_110 (by decide) ?_
            exact J111 _ _ hf _ _ ls (lv_sub hl [0, 1, 2, 3, 4, 5, 7] rfl) hw hS
          · have hf := hif.2 hcd
            clear hif
            refine lv_iconst (v := 1) hx hb dX12_sorts_103 (by decide) ?_
            refine lv_iload hx hb dX12_sorts_104 (lv_at hl 7 rfl) ?_
            refine lv_ishl hx hb dX12_sorts_106 ?_
            refine lv_goto (tgt := 111) hx hb dX12_sorts_107 (by decide) ?_
            exact J111 _ _ hf _ _ ls (lv_sub hl [0, 1, 2, 3, 4, 5, 7] rfl) hw hS
        clear ej78
        obtain ⟨j62, ej62, hf⟩ := ok_lt hf
        have J62 : ∀ (s_22 : St), j62 s_22 = some xl16 → ∀ (H : Heap) (locs : List Loc) (ls : Array Slot), lv_has ls 9 [(0, .ref (E.2.2.1 259)), (1, .int x1), (2, .int x2), (3, .int x3), (4, .int x4), (5, .int v5_1), (6, .int v6_4), (7, .int v7_5), (8, .int v8_11)] → World E sh2 s_22 H → va_S E.2.2.2 s.heap H locs → W p l e (rmd 7) s m args below meth c H locs 0 0 (MQ below (QW E sh2 (some (.int rz)) sz) args s 0 0 E.2.2.2) (F0 m 62 ls [.int ((733 : Int32) + x1), .ref (E.2.2.1 260)]) := by
          intro s_22 hf H locs ls hl hw hS
          subst ej62
          refine lv_iload hx hb dX12_sorts_62 (lv_at hl 8 rfl) ?_
          refine lv_goto (tgt := 78) hx hb dX12_sorts_64 (by decide) ?_
          exact J78 _ _ hf _ _ ls (lv_sub hl [0, 1, 2, 3, 4, 5, 6, 7] rfl) hw hS
        clear ej62
        have hif := ok_if hf
        refine lv_if_eq (tgt := 62) hx hb dX12_sorts_52 (by decide) (fun hcd => ?_) (fun hcd => ?_)
        · have hf := hif.1 hcd
          clear hif
          exact J62 _ hf _ _ ls (lv_sub hl [1, 2, 3, 4, 5, 6, 7, 8, 0] rfl) hw hS
        · have hf := hif.2 hcd
          clear hif
          refine lv_iload hx hb dX12_sorts_55 (lv_at hl 8 rfl) ?_
          refine lv_iload hx hb dX12_sorts_57 (lv_at hl 6 rfl) ?_
          have hif := ok_if hf
          refine lv_icmp_ne (tgt := 67) hx hb dX12_sorts_59 (by decide) (fun hcd => ?_) (fun hcd => ?_)
          · have hf := hif.1 hcd
            clear hif
            refine lv_iload hx hb dX12_sorts_67 (lv_at hl 8 rfl) ?_
            refine lv_iconst (v := 5) hx hb dX12_sorts_69 (by decide) ?_
            have hif := ok_if hf
            refine lv_icmp_ne (tgt := 77) hx hb dX12_sorts_70 (by decide) (fun hcd => ?_) (fun hcd => ?_)
            · have hf := hif.1 hcd
              clear hif
              refine lv_iconst (v := 1) hx hb dX12_sorts_77 (by decide) ?_
              exact J78 _ _ hf _ _ ls (lv_sub hl [1, 2, 3, 4, 5, 6, 7, 8] rfl) hw hS
            · have hf := hif.2 (fun q => q hcd)
              clear hif
              refine lv_iconst (v := 3) hx hb dX12_sorts_73 (by decide) ?_
              refine lv_goto (tgt := 78) hx hb dX12_sorts_74 (by decide) ?_
              exact J78 _ _ hf _ _ ls (lv_sub hl [1, 2, 3, 4, 5, 6, 7, 8] rfl) hw hS
          · have hf := hif.2 (fun q => q hcd)
            clear hif
            exact J62 _ hf _ _ ls (lv_sub hl [1, 2, 3, 4, 5, 6, 7, 8, 0] rfl) hw hS
  exact L16 5000 _ _ _ hL16 _ _ ls (lv_sub hl [3, 4, 5, 6, 7, 2, 1, 0] rfl) hw hS
set_option maxHeartbeats 4000000 in
set_option maxRecDepth 100000 in
theorem m_X12_mainsThat (l : Launch) (E : Ev) {x1 : Int32} {x2 : Int32} {x3 : Int32} {x4 : Int32} {x5 : Int32}  {s0 sz : St} {rz : Int32} (hf : f_X12_mainsThat x1 x2 x3 x4 x5 s0 = some (rz, sz)) : MM l E sh2 yX12_mainsThat cX12_mainsThat 11 (some .int) (rmd 7) [.ref (E.2.2.1 259), .int x1, .int x2, .int x3, .int x4, .int x5] s0 (some (.int rz)) sz := by
  unfold f_X12_mainsThat at hf
  refine z_enter (by decide +kernel) (Nat.le_of_ble_eq_true rfl) ?_
  intro p e s m args below meth c ls hC hr hlocks hw hS hl
  have hC : Cx p s m args c cX12_mainsThat 11 "FuseBoxModel" E := hC
  obtain ⟨hx, hb, hml, hown, hts, hTB⟩ := id hC
  have hl : lv_has ls 11 [(0, .ref (E.2.2.1 259)), (1, .int x1), (2, .int x2), (3, .int x3), (4, .int x4), (5, .int x5)] := hl
  refine lv_aload_n hx hb dX12_mainsThat_0 rfl (lv_at hl 0 rfl) ?_
  refine gModel_told hC hw wd597 dX12_mainsThat_1 ?_
  refine lv_iconst (v := 2) hx hb dX12_mainsThat_4 (by decide) ?_
  obtain ⟨hin, hf⟩ := ok_chk hf
  refine z_iald hC hw rfl hin dX12_mainsThat_5 ?_
  obtain ⟨v6_1, en, hf⟩ := ok_lt hf
  refine z_nm en ?_
  clear en
  refine lv_istore (lv' := [(6, .int v6_1), (0, .ref (E.2.2.1 259)), (1, .int x1), (2, .int x2), (3, .int x3), (4, .int x4), (5, .int x5)]) hx hb dX12_mainsThat_6 hl (by decide) rfl (fun ls hl => ?_)
  refine lv_iconst (v := 0) hx hb dX12_mainsThat_8 (by decide) ?_
  obtain ⟨v7_2, en, hf⟩ := ok_lt hf
  refine z_nm en ?_
  clear en
  refine lv_istore (lv' := [(7, .int v7_2), (6, .int v6_1), (0, .ref (E.2.2.1 259)), (1, .int x1), (2, .int x2), (3, .int x3), (4, .int x4), (5, .int x5)]) hx hb dX12_mainsThat_9 hl (by decide) rfl (fun ls hl => ?_)
  refine lv_ldc (v := -1000000) hx hb hown (hts _ wd679) dX12_mainsThat_11 ?_
  obtain ⟨v8_3, en, hf⟩ := ok_lt hf
  refine z_nm en ?_
  clear en
  refine lv_istore (lv' := [(8, .int v8_3), (7, .int v7_2), (6, .int v6_1), (0, .ref (E.2.2.1 259)), (1, .int x1), (2, .int x2), (3, .int x3), (4, .int x4), (5, .int x5)]) hx hb dX12_mainsThat_13 hl (by decide) rfl (fun ls hl => ?_)
  refine lv_bipush (v := 60) hx hb dX12_mainsThat_15 (by decide) ?_
  obtain ⟨v9_4, en, hf⟩ := ok_lt hf
  refine z_nm en ?_
  clear en
  refine lv_istore (lv' := [(9, .int v9_4), (8, .int v8_3), (7, .int v7_2), (6, .int v6_1), (0, .ref (E.2.2.1 259)), (1, .int x1), (2, .int x2), (3, .int x3), (4, .int x4), (5, .int x5)]) hx hb dX12_mainsThat_17 hl (by decide) rfl (fun ls hl => ?_)
  obtain ⟨r19, hL19, hf⟩ := ok_bind hf
  have X19_0 : ∀ (v7_9 : Int32) (v8_10 : Int32) (s_11 : St), (v7_9, v8_10, s_11) = r19 → ∀ (H : Heap) (locs : List Loc) (ls : Array Slot), lv_has ls 11 [(0, .ref (E.2.2.1 259)), (5, .int x5), (6, .int v6_1), (7, .int v7_9), (8, .int v8_10)] → World E sh2 s_11 H → va_S E.2.2.2 s.heap H locs → W p l e (rmd 7) s m args below meth c H locs 0 0 (MQ below (QW E sh2 (some (.int rz)) sz) args s 0 0 E.2.2.2) (F0 m 86 ls []) := by
    intro v7_9 v8_10 s_11 er H locs ls hl hw hS
    subst er
    replace hf := ok_un3 hf
    refine lv_aload_n hx hb dX12_mainsThat_86 rfl (lv_at hl 0 rfl) ?_
    refine gModel_told hC hw wd597 dX12_mainsThat_87 ?_
    refine lv_iconst (v := 2) hx hb dX12_mainsThat_90 (by decide) ?_
    refine lv_iload hx hb dX12_mainsThat_91 (lv_at hl 2 rfl) ?_
    obtain ⟨hin, hf⟩ := ok_chk hf
    obtain ⟨s_12, en, hf⟩ := ok_lt hf
    refine z_iast hC hw hS rfl hin en dX12_mainsThat_93 (fun H locs hw hS => ?_)
    clear en
    refine lv_iload hx hb dX12_mainsThat_94 (lv_at hl 1 rfl) ?_
    obtain ⟨j106, ej106, hf⟩ := ok_lt hf
    have J106 : ∀ (k_13 : Int32) (s_14 : St), j106 k_13 s_14 = some (rz, sz) → ∀ (H : Heap) (locs : List Loc) (ls : Array Slot), lv_has ls 11 [] → World E sh2 s_14 H → va_S E.2.2.2 s.heap H locs → W p l e (rmd 7) s m args below meth c H locs 0 0 (MQ below (QW E sh2 (some (.int rz)) sz) args s 0 0 E.2.2.2) (F0 m 106 ls [.int k_13]) := by
      intro k_13 s_14 hf H locs ls hl hw hS
      subst ej106
      exact z_iretE hC hlocks hw hS hf hr rfl dX12_mainsThat_106
    clear ej106
    have hif := ok_if hf
    refine lv_if_eq (tgt := 104) hx hb dX12_mainsThat_96 (by decide) (fun hcd => ?_) (fun hcd => ?_)
    · have hf := hif.1 hcd
      clear hif
      refine lv_iload hx hb dX12_mainsThat_104 (lv_at hl 3 rfl) ?_
      exact J106 _ _ hf _ _ ls (lv_sub hl [] rfl) hw hS
    · have hf := hif.2 hcd
      clear hif
      refine lv_iload hx hb dX12_mainsThat_99 (lv_at hl 4 rfl) ?_
      refine lv_goto (tgt := 106) hx hb dX12_mainsThat_101 (by decide) ?_
      exact J106 _ _ hf _ _ ls (lv_sub hl [] rfl) hw hS
  have L19 : ∀ (n : Nat) (v7_5 : Int32) (v8_6 : Int32) (v9_7 : Int32) (s_8 : St), loopF (f_X12_mainsThat_L19 x1 x2 x3 x4) n (v7_5, v8_6, v9_7, s_8) = some r19 → ∀ (H : Heap) (locs : List Loc) (ls : Array Slot), lv_has ls 11 [(0, .ref (E.2.2.1 259)), (1, .int x1), (2, .int x2), (3, .int x3), (4, .int x4), (5, .int x5), (6, .int v6_1), (7, .int v7_5), (8, .int v8_6), (9, .int v9_7)] → World E sh2 s_8 H → va_S E.2.2.2 s.heap H locs → W p l e (rmd 7) s m args below meth c H locs 0 0 (MQ below (QW E sh2 (some (.int rz)) sz) args s 0 0 E.2.2.2) (F0 m 19 ls []) := by
    intro n
    induction n with
    | zero =>
      intro v7_5 v8_6 v9_7 s_8 hf
      exact nz hf
    | succ n ih19 =>
      intro v7_5 v8_6 v9_7 s_8 hf H locs ls hl hw hS
      obtain ⟨xl19, hf, hi19, he19⟩ := ok_loop hf
      unfold f_X12_mainsThat_L19 at hf
      replace hf := ok_un4 hf
      refine lv_iload hx hb dX12_mainsThat_19 (lv_at hl 9 rfl) ?_
      have hif := ok_if hf
      refine lv_if_le (tgt := 86) hx hb dX12_mainsThat_21 (by decide) (fun hcd => ?_) (fun hcd => ?_)
      · have hf := hif.1 hcd
        clear hif
        cases hf
        exact X19_0 _ _ _ (he19 _ rfl) _ _ ls (lv_sub hl [0, 5, 6, 7, 8] rfl) hw hS
      · have hf := hif.2 hcd
        clear hif
        refine lv_aload_n hx hb dX12_mainsThat_24 rfl (lv_at hl 0 rfl) ?_
        refine lv_iconst (v := 0) hx hb dX12_mainsThat_25 (by decide) ?_
        refine lv_sipush (v := 729) hx hb dX12_mainsThat_26 (by decide) ?_
        obtain ⟨s_15, hc, hf⟩ := ok_bind hf
        refine z_cV hC hl.1 hw hS (As := [.int (0 : Int32), .int (729 : Int32)]) (rest := []) (m_X12_copies l E  hc) rfl rfl gc257 gc258 ⟨Nat.le_of_ble_eq_true rfl, Nat.le_of_ble_eq_true rfl⟩ ⟨Nat.le_of_ble_eq_true rfl, Nat.le_of_ble_eq_true rfl⟩ rfl rfl (Nat.le_of_ble_eq_true rfl) dX12_mainsThat_29 (fun H locs hw hS => ?_)
        clear hc
        refine lv_aload_n hx hb dX12_mainsThat_32 rfl (lv_at hl 0 rfl) ?_
        refine gModel_told hC hw wd597 dX12_mainsThat_33 ?_
        refine lv_iconst (v := 2) hx hb dX12_mainsThat_36 (by decide) ?_
        refine lv_iload hx hb dX12_mainsThat_37 (lv_at hl 9 rfl) ?_
        obtain ⟨hin, hf⟩ := ok_chk hf
        obtain ⟨s_16, en, hf⟩ := ok_lt hf
        refine z_iast hC hw hS rfl hin en dX12_mainsThat_39 (fun H locs hw hS => ?_)
        clear en
        refine lv_aload_n hx hb dX12_mainsThat_40 rfl (lv_at hl 0 rfl) ?_
        refine lv_iload_n hx hb dX12_mainsThat_41 rfl (lv_at hl 1 rfl) ?_
        refine lv_iload_n hx hb dX12_mainsThat_42 rfl (lv_at hl 2 rfl) ?_
        refine lv_iload_n hx hb dX12_mainsThat_43 rfl (lv_at hl 3 rfl) ?_
        refine lv_iload hx hb dX12_mainsThat_44 (lv_at hl 4 rfl) ?_
        obtain ⟨r_18, s_17, hc, hf⟩ := ok_bd hf
        refine z_cV hC hl.1 hw hS (As := [.int x1, .int x2, .int x3, .int x4]) (rest := []) (m_X12_isSo l E  hc) rfl rfl gc289 gc290 ⟨Nat.le_of_ble_eq_true rfl, Nat.le_of_ble_eq_true rfl⟩ ⟨Nat.le_of_ble_eq_true rfl, Nat.le_of_ble_eq_true rfl⟩ rfl rfl (Nat.le_of_ble_eq_true rfl) dX12_mainsThat_46 (fun H locs hw hS => ?_)
        clear hc
        refine lv_istore (lv' := [(10, .int r_18), (0, .ref (E.2.2.1 259)), (1, .int x1), (2, .int x2), (3, .int x3), (4, .int x4), (5, .int x5), (6, .int v6_1), (7, .int v7_5), (8, .int v8_6), (9, .int v9_7)]) hx hb dX12_mainsThat_49 hl (by decide) rfl (fun ls hl => ?_)
        refine lv_iload hx hb dX12_mainsThat_51 (lv_at hl 8 rfl) ?_
        refine lv_iload hx hb dX12_mainsThat_53 (lv_at hl 0 rfl) ?_
        obtain ⟨j63, ej63, hf⟩ := ok_lt hf
        have J63 : ∀ (k_19 : Int32) (s_20 : St), j63 k_19 s_20 = some xl19 → ∀ (H : Heap) (locs : List Loc) (ls : Array Slot), lv_has ls 11 [(0, .ref (E.2.2.1 259)), (1, .int x1), (2, .int x2), (3, .int x3), (4, .int x4), (5, .int x5), (6, .int v6_1), (8, .int v8_6), (9, .int v9_7), (10, .int r_18)] → World E sh2 s_20 H → va_S E.2.2.2 s.heap H locs → W p l e (rmd 7) s m args below meth c H locs 0 0 (MQ below (QW E sh2 (some (.int rz)) sz) args s 0 0 E.2.2.2) (F0 m 63 ls [.int k_19, .int v7_5]) := by
          intro k_19 s_20 hf H locs ls hl hw hS
          subst ej63
          refine lv_iadd hx hb dX12_mainsThat_63 ?_
          obtain ⟨v7_21, en, hf⟩ := ok_lt hf
          refine z_nm en ?_
          clear en
          refine lv_istore (lv' := [(7, .int v7_21), (0, .ref (E.2.2.1 259)), (1, .int x1), (2, .int x2), (3, .int x3), (4, .int x4), (5, .int x5), (6, .int v6_1), (8, .int v8_6), (9, .int v9_7), (10, .int r_18)]) hx hb dX12_mainsThat_64 hl (by decide) rfl (fun ls hl => ?_)
          refine lv_iload hx hb dX12_mainsThat_66 (lv_at hl 10 rfl) ?_
          obtain ⟨j78, ej78, hf⟩ := ok_lt hf
          have J78 : ∀ (k_22 : Int32) (s_23 : St), j78 k_22 s_23 = some xl19 → ∀ (H : Heap) (locs : List Loc) (ls : Array Slot), lv_has ls 11 [(0, .ref (E.2.2.1 259)), (1, .int x1), (2, .int x2), (3, .int x3), (4, .int x4), (5, .int x5), (6, .int v6_1), (7, .int v7_21), (9, .int v9_7)] → World E sh2 s_23 H → va_S E.2.2.2 s.heap H locs → W p l e (rmd 7) s m args below meth c H locs 0 0 (MQ below (QW E sh2 (some (.int rz)) sz) args s 0 0 E.2.2.2) (F0 m 78 ls [.int k_22]) := by
            intro k_22 s_23 hf H locs ls hl hw hS
            subst ej78
            refine lv_istore (lv' := [(8, .int k_22), (0, .ref (E.2.2.1 259)), (1, .int x1), (2, .int x2), (3, .int x3), (4, .int x4), (5, .int x5), (6, .int v6_1), (7, .int v7_21), (9, .int v9_7)]) hx hb dX12_mainsThat_78 hl (by decide) rfl (fun ls hl => ?_)
            obtain ⟨v9_24, en, hf⟩ := ok_lt hf
            refine lv_iinc (v := v9_24) (lv' := [(9, .int v9_24), (8, .int k_22), (0, .ref (E.2.2.1 259)), (1, .int x1), (2, .int x2), (3, .int x3), (4, .int x4), (5, .int x5), (6, .int v6_1), (7, .int v7_21)]) hx hb dX12_mainsThat_80 hl (k := 9) rfl (by rw [en]; rfl) (by decide) rfl (fun ls hl => ?_)
            clear en
            refine lv_goto (tgt := 19) hx hb dX12_mainsThat_83 (by decide) ?_
            cases hf
            exact ih19 _ _ _ _ (hi19 _ rfl) _ _ ls (lv_sub hl [2, 3, 4, 5, 6, 7, 8, 9, 1, 0] rfl) hw hS
          clear ej78
          have hif := ok_if hf
          refine lv_if_eq (tgt := 76) hx hb dX12_mainsThat_68 (by decide) (fun hcd => ?_) (fun hcd => ?_)
          · have hf := hif.1 hcd
            clear hif
            refine lv_iload hx hb dX12_mainsThat_76 (lv_at hl 8 rfl) ?_
            exact J78 _ _ hf _ _ ls (lv_sub hl [1, 2, 3, 4, 5, 6, 7, 0, 9] rfl) hw hS
          · have hf := hif.2 hcd
            clear hif
            refine lv_iload hx hb dX12_mainsThat_71 (lv_at hl 9 rfl) ?_
            refine lv_goto (tgt := 78) hx hb dX12_mainsThat_73 (by decide) ?_
            exact J78 _ _ hf _ _ ls (lv_sub hl [1, 2, 3, 4, 5, 6, 7, 0, 9] rfl) hw hS
        clear ej63
        have hif := ok_if hf
        refine lv_if_eq (tgt := 62) hx hb dX12_mainsThat_55 (by decide) (fun hcd => ?_) (fun hcd => ?_)
        · have hf := hif.1 hcd
          clear hif
          refine lv_iconst (v := 0) hx hb dX12_mainsThat_62 (by decide) ?_
          exact J63 _ _ hf _ _ ls (lv_sub hl [1, 2, 3, 4, 5, 6, 7, 9, 10, 0] rfl) hw hS
        · have hf := hif.2 hcd
          clear hif
          refine lv_iconst (v := 1) hx hb dX12_mainsThat_58 (by decide) ?_
          refine lv_goto (tgt := 63) hx hb dX12_mainsThat_59 (by decide) ?_
          exact J63 _ _ hf _ _ ls (lv_sub hl [1, 2, 3, 4, 5, 6, 7, 9, 10, 0] rfl) hw hS
  exact L19 5000 _ _ _ _ hL19 _ _ ls (lv_sub hl [4, 5, 6, 7, 8, 9, 3, 2, 1, 0] rfl) hw hS
set_option maxHeartbeats 4000000 in
set_option maxRecDepth 100000 in
theorem m_X12_fits (l : Launch) (E : Ev) {x1 : Int32} {x2 : Int32} {x3 : Int32} {x4 : Int32} {x5 : Int32}  {s0 sz : St} {rz : Int32} (hf : f_X12_fits x1 x2 x3 x4 x5 s0 = some (rz, sz)) : MM l E sh2 yX12_fits cX12_fits 8 (some .int) (rmd 8) [.ref (E.2.2.1 259), .int x1, .int x2, .int x3, .int x4, .int x5] s0 (some (.int rz)) sz := by
  unfold f_X12_fits at hf
  refine z_enter (by decide +kernel) (Nat.le_of_ble_eq_true rfl) ?_
  intro p e s m args below meth c ls hC hr hlocks hw hS hl
  have hC : Cx p s m args c cX12_fits 8 "FuseBoxModel" E := hC
  obtain ⟨hx, hb, hml, hown, hts, hTB⟩ := id hC
  have hl : lv_has ls 8 [(0, .ref (E.2.2.1 259)), (1, .int x1), (2, .int x2), (3, .int x3), (4, .int x4), (5, .int x5)] := hl
  refine lv_aload_n hx hb dX12_fits_0 rfl (lv_at hl 0 rfl) ?_
  refine lv_iload_n hx hb dX12_fits_1 rfl (lv_at hl 1 rfl) ?_
  obtain ⟨r_2, s_1, hc, hf⟩ := ok_bd hf
  refine z_cV hC hl.1 hw hS (As := [.int x1]) (rest := []) (m_X12_isLine l E  hc) rfl rfl gc269 gc270 ⟨Nat.le_of_ble_eq_true rfl, Nat.le_of_ble_eq_true rfl⟩ ⟨Nat.le_of_ble_eq_true rfl, Nat.le_of_ble_eq_true rfl⟩ rfl rfl (Nat.le_of_ble_eq_true rfl) dX12_fits_2 (fun H locs hw hS => ?_)
  clear hc
  obtain ⟨j46, ej46, hf⟩ := ok_lt hf
  have J46 : ∀ (s_3 : St), j46 s_3 = some (rz, sz) → ∀ (H : Heap) (locs : List Loc) (ls : Array Slot), lv_has ls 8 [] → World E sh2 s_3 H → va_S E.2.2.2 s.heap H locs → W p l e (rmd 8) s m args below meth c H locs 0 0 (MQ below (QW E sh2 (some (.int rz)) sz) args s 0 0 E.2.2.2) (F0 m 46 ls []) := by
    intro s_3 hf H locs ls hl hw hS
    subst ej46
    refine lv_ldc (v := -1000001) hx hb hown (hts _ wd535) dX12_fits_46 ?_
    exact z_iretE hC hlocks hw hS hf hr rfl dX12_fits_48
  clear ej46
  have hif := ok_if hf
  refine lv_if_eq (tgt := 46) hx hb dX12_fits_5 (by decide) (fun hcd => ?_) (fun hcd => ?_)
  · have hf := hif.1 hcd
    clear hif
    exact J46 _ hf _ _ ls (lv_sub hl [] rfl) hw hS
  · have hf := hif.2 hcd
    clear hif
    refine lv_iload_n hx hb dX12_fits_8 rfl (lv_at hl 2 rfl) ?_
    refine lv_i2l (v := x2.toInt64) hx hb dX12_fits_9 rfl ?_
    refine lv_lconst (v := 0) hx hb dX12_fits_10 (by decide) ?_
    refine lv_ldc2 (v := 7) hx hb hown (hts _ wd530) dX12_fits_11 ?_
    obtain ⟨r_5, s_4, hc, hf⟩ := ok_bd hf
    refine z_cS hC hl.1 hw hS (As := [.long (x2.toInt64), .long (0 : Int64), .long (7 : Int64)]) (rest := []) (m_X12_in l E  hc) gc219 gc220 ⟨Nat.le_of_ble_eq_true rfl, Nat.le_of_ble_eq_true rfl⟩ ⟨Nat.le_of_ble_eq_true rfl, Nat.le_of_ble_eq_true rfl⟩ rfl rfl (Nat.le_of_ble_eq_true rfl) dX12_fits_14 (fun H locs hw hS => ?_)
    clear hc
    have hif := ok_if hf
    refine lv_if_eq (tgt := 46) hx hb dX12_fits_17 (by decide) (fun hcd => ?_) (fun hcd => ?_)
    · have hf := hif.1 hcd
      clear hif
      exact J46 _ hf _ _ ls (lv_sub hl [] rfl) hw hS
    · have hf := hif.2 hcd
      clear hif
      refine lv_iload hx hb dX12_fits_20 (lv_at hl 4 rfl) ?_
      refine lv_i2l (v := x4.toInt64) hx hb dX12_fits_22 rfl ?_
      refine lv_lconst (v := 1) hx hb dX12_fits_23 (by decide) ?_
      refine lv_ldc2 (v := 12) hx hb hown (hts _ wd696) dX12_fits_24 ?_
      obtain ⟨r_7, s_6, hc, hf⟩ := ok_bd hf
      refine z_cS hC hl.1 hw hS (As := [.long (x4.toInt64), .long (1 : Int64), .long (12 : Int64)]) (rest := []) (m_X12_in l E  hc) gc219 gc220 ⟨Nat.le_of_ble_eq_true rfl, Nat.le_of_ble_eq_true rfl⟩ ⟨Nat.le_of_ble_eq_true rfl, Nat.le_of_ble_eq_true rfl⟩ rfl rfl (Nat.le_of_ble_eq_true rfl) dX12_fits_27 (fun H locs hw hS => ?_)
      clear hc
      have hif := ok_if hf
      refine lv_if_eq (tgt := 46) hx hb dX12_fits_30 (by decide) (fun hcd => ?_) (fun hcd => ?_)
      · have hf := hif.1 hcd
        clear hif
        exact J46 _ hf _ _ ls (lv_sub hl [] rfl) hw hS
      · have hf := hif.2 hcd
        clear hif
        refine lv_iload hx hb dX12_fits_33 (lv_at hl 5 rfl) ?_
        refine lv_i2l (v := x5.toInt64) hx hb dX12_fits_35 rfl ?_
        refine lv_lconst (v := 0) hx hb dX12_fits_36 (by decide) ?_
        refine lv_ldc2 (v := 4) hx hb hown (hts _ wd711) dX12_fits_37 ?_
        obtain ⟨r_9, s_8, hc, hf⟩ := ok_bd hf
        refine z_cS hC hl.1 hw hS (As := [.long (x5.toInt64), .long (0 : Int64), .long (4 : Int64)]) (rest := []) (m_X12_in l E  hc) gc219 gc220 ⟨Nat.le_of_ble_eq_true rfl, Nat.le_of_ble_eq_true rfl⟩ ⟨Nat.le_of_ble_eq_true rfl, Nat.le_of_ble_eq_true rfl⟩ rfl rfl (Nat.le_of_ble_eq_true rfl) dX12_fits_40 (fun H locs hw hS => ?_)
        clear hc
        have hif := ok_if hf
        refine lv_if_ne (tgt := 49) hx hb dX12_fits_43 (by decide) (fun hcd => ?_) (fun hcd => ?_)
        · have hf := hif.1 hcd
          clear hif
          refine lv_aload_n hx hb dX12_fits_49 rfl (lv_at hl 0 rfl) ?_
          refine gModel_size hC hw wd538 dX12_fits_50 ?_
          refine lv_iload_n hx hb dX12_fits_53 rfl (lv_at hl 2 rfl) ?_
          obtain ⟨hin, hf⟩ := ok_chk hf
          refine z_iald hC hw rfl hin dX12_fits_54 ?_
          have hif := ok_if hf
          refine lv_if_ge (tgt := 64) hx hb dX12_fits_55 (by decide) (fun hcd => ?_) (fun hcd => ?_)
          · have hf := hif.1 hcd
            clear hif
            refine lv_iload_n hx hb dX12_fits_64 rfl (lv_at hl 3 rfl) ?_
            obtain ⟨j85, ej85, hf⟩ := ok_lt hf
            have J85 : ∀ (s_10 : St), j85 s_10 = some (rz, sz) → ∀ (H : Heap) (locs : List Loc) (ls : Array Slot), lv_has ls 8 [(0, .ref (E.2.2.1 259))] → World E sh2 s_10 H → va_S E.2.2.2 s.heap H locs → W p l e (rmd 8) s m args below meth c H locs 0 0 (MQ below (QW E sh2 (some (.int rz)) sz) args s 0 0 E.2.2.2) (F0 m 85 ls []) := by
              intro s_10 hf H locs ls hl hw hS
              subst ej85
              refine lv_aload_n hx hb dX12_fits_85 rfl (lv_at hl 0 rfl) ?_
              refine lv_iconst (v := 2) hx hb dX12_fits_86 (by decide) ?_
              obtain ⟨r_12, s_11, hc, hf⟩ := ok_bd hf
              refine z_cV hC hl.1 hw hS (As := [.int (2 : Int32)]) (rest := []) (m_X12_finds l E  hc) rfl rfl gc223 gc224 ⟨Nat.le_of_ble_eq_true rfl, Nat.le_of_ble_eq_true rfl⟩ ⟨Nat.le_of_ble_eq_true rfl, Nat.le_of_ble_eq_true rfl⟩ rfl rfl (Nat.le_of_ble_eq_true rfl) dX12_fits_87 (fun H locs hw hS => ?_)
              clear hc
              exact z_iretE hC hlocks hw hS hf hr rfl dX12_fits_90
            clear ej85
            have hif := ok_if hf
            refine lv_if_lt (tgt := 85) hx hb dX12_fits_65 (by decide) (fun hcd => ?_) (fun hcd => ?_)
            · have hf := hif.1 hcd
              clear hif
              exact J85 _ hf _ _ ls (lv_sub hl [0] rfl) hw hS
            · have hf := hif.2 hcd
              clear hif
              refine lv_iload_n hx hb dX12_fits_68 rfl (lv_at hl 3 rfl) ?_
              refine lv_i2l (v := x3.toInt64) hx hb dX12_fits_69 rfl ?_
              refine lv_iload hx hb dX12_fits_70 (lv_at hl 4 rfl) ?_
              refine lv_i2l (v := x4.toInt64) hx hb dX12_fits_72 rfl ?_
              refine lv_ladd hx hb dX12_fits_73 ?_
              refine lv_aload_n hx hb dX12_fits_74 rfl (lv_at hl 0 rfl) ?_
              refine gModel_size hC hw wd538 dX12_fits_75 ?_
              refine lv_iload_n hx hb dX12_fits_78 rfl (lv_at hl 2 rfl) ?_
              obtain ⟨hin, hf⟩ := ok_chk hf
              refine z_iald hC hw rfl hin dX12_fits_79 ?_
              refine lv_i2l (v := ((s_8 264 (x2).toNatClampNeg)).toInt64) hx hb dX12_fits_80 rfl ?_
              refine W.lcmp hx hb dX12_fits_81 ?_
              have hif := ok_if hf
              refine lv_if_le (tgt := 91) hx hb dX12_fits_82 (by decide) (fun hcd => ?_) (fun hcd => ?_)
              · have hf := hif.1 hcd
                clear hif
                refine lv_iload hx hb dX12_fits_91 (lv_at hl 5 rfl) ?_
                obtain ⟨j102, ej102, hf⟩ := ok_lt hf
                have J102 : ∀ (s_13 : St), j102 s_13 = some (rz, sz) → ∀ (H : Heap) (locs : List Loc) (ls : Array Slot), lv_has ls 8 [(0, .ref (E.2.2.1 259)), (1, .int x1), (2, .int x2), (3, .int x3), (4, .int x4), (5, .int x5)] → World E sh2 s_13 H → va_S E.2.2.2 s.heap H locs → W p l e (rmd 8) s m args below meth c H locs 0 0 (MQ below (QW E sh2 (some (.int rz)) sz) args s 0 0 E.2.2.2) (F0 m 102 ls []) := by
                  intro s_13 hf H locs ls hl hw hS
                  subst ej102
                  refine lv_aload_n hx hb dX12_fits_102 rfl (lv_at hl 0 rfl) ?_
                  refine lv_iload hx hb dX12_fits_103 (lv_at hl 5 rfl) ?_
                  obtain ⟨j140, ej140, hf⟩ := ok_lt hf
                  have J140 : ∀ (k_14 : Int32) (s_15 : St), j140 k_14 s_15 = some (rz, sz) → ∀ (H : Heap) (locs : List Loc) (ls : Array Slot), lv_has ls 8 [] → World E sh2 s_15 H → va_S E.2.2.2 s.heap H locs → W p l e (rmd 8) s m args below meth c H locs 0 0 (MQ below (QW E sh2 (some (.int rz)) sz) args s 0 0 E.2.2.2) (F0 m 140 ls [.int k_14, .ref (E.2.2.1 259)]) := by
                    intro k_14 s_15 hf H locs ls hl hw hS
                    subst ej140
                    obtain ⟨r_17, s_16, hc, hf⟩ := ok_bd hf
                    refine z_cV hC hl.1 hw hS (As := [.int k_14]) (rest := []) (m_X12_fine l E  hc) rfl rfl gc221 gc222 ⟨Nat.le_of_ble_eq_true rfl, Nat.le_of_ble_eq_true rfl⟩ ⟨Nat.le_of_ble_eq_true rfl, Nat.le_of_ble_eq_true rfl⟩ rfl rfl (Nat.le_of_ble_eq_true rfl) dX12_fits_140 (fun H locs hw hS => ?_)
                    clear hc
                    exact z_iretE hC hlocks hw hS hf hr rfl dX12_fits_143
                  clear ej140
                  have hif := ok_if hf
                  refine lv_if_ne (tgt := 120) hx hb dX12_fits_105 (by decide) (fun hcd => ?_) (fun hcd => ?_)
                  · have hf := hif.1 hcd
                    clear hif
                    refine lv_aload_n hx hb dX12_fits_120 rfl (lv_at hl 0 rfl) ?_
                    refine lv_iload_n hx hb dX12_fits_121 rfl (lv_at hl 1 rfl) ?_
                    refine lv_iload_n hx hb dX12_fits_122 rfl (lv_at hl 2 rfl) ?_
                    refine lv_iload_n hx hb dX12_fits_123 rfl (lv_at hl 3 rfl) ?_
                    refine lv_iload hx hb dX12_fits_124 (lv_at hl 4 rfl) ?_
                    refine lv_iload hx hb dX12_fits_126 (lv_at hl 5 rfl) ?_
                    refine lv_iconst (v := 4) hx hb dX12_fits_128 (by decide) ?_
                    obtain ⟨j137, ej137, hf⟩ := ok_lt hf
                    have J137 : ∀ (k_18 : Int32) (s_19 : St), j137 k_18 s_19 = some (rz, sz) → ∀ (H : Heap) (locs : List Loc) (ls : Array Slot), lv_has ls 8 [] → World E sh2 s_19 H → va_S E.2.2.2 s.heap H locs → W p l e (rmd 8) s m args below meth c H locs 0 0 (MQ below (QW E sh2 (some (.int rz)) sz) args s 0 0 E.2.2.2) (F0 m 137 ls [.int k_18, .int x4, .int x3, .int x2, .int x1, .ref (E.2.2.1 259), .ref (E.2.2.1 259)]) := by
                      intro k_18 s_19 hf H locs ls hl hw hS
                      subst ej137
                      obtain ⟨r_21, s_20, hc, hf⟩ := ok_bd hf
                      refine z_cV hC hl.1 hw hS (As := [.int x1, .int x2, .int x3, .int x4, .int k_18]) (rest := [.ref (E.2.2.1 259)]) (m_X12_mainsThat l E  hc) rfl rfl gc291 gc292 ⟨Nat.le_of_ble_eq_true rfl, Nat.le_of_ble_eq_true rfl⟩ ⟨Nat.le_of_ble_eq_true rfl, Nat.le_of_ble_eq_true rfl⟩ rfl rfl (Nat.le_of_ble_eq_true rfl) dX12_fits_137 (fun H locs hw hS => ?_)
                      clear hc
                      exact J140 _ _ hf _ _ ls hl hw hS
                    clear ej137
                    have hif := ok_if hf
                    refine lv_icmp_ne (tgt := 136) hx hb dX12_fits_129 (by decide) (fun hcd => ?_) (fun hcd => ?_)
                    · have hf := hif.1 hcd
                      clear hif
                      refine lv_iconst (v := 0) hx hb dX12_fits_136 (by decide) ?_
                      exact J137 _ _ hf _ _ ls (lv_sub hl [] rfl) hw hS
                    · have hf := hif.2 (fun q => q hcd)
                      clear hif
                      refine lv_iconst (v := 1) hx hb dX12_fits_132 (by decide) ?_
                      refine lv_goto (tgt := 137) hx hb dX12_fits_133 (by decide) ?_
                      exact J137 _ _ hf _ _ ls (lv_sub hl [] rfl) hw hS
                  · have hf := hif.2 (fun q => q hcd)
                    clear hif
                    refine lv_aload_n hx hb dX12_fits_108 rfl (lv_at hl 0 rfl) ?_
                    refine lv_iload_n hx hb dX12_fits_109 rfl (lv_at hl 1 rfl) ?_
                    refine lv_iload_n hx hb dX12_fits_110 rfl (lv_at hl 2 rfl) ?_
                    refine lv_iload_n hx hb dX12_fits_111 rfl (lv_at hl 3 rfl) ?_
                    refine lv_iload hx hb dX12_fits_112 (lv_at hl 4 rfl) ?_
                    obtain ⟨r_23, s_22, hc, hf⟩ := ok_bd hf
                    refine z_cV hC hl.1 hw hS (As := [.int x1, .int x2, .int x3, .int x4]) (rest := [.ref (E.2.2.1 259)]) (m_X12_sorts l E  hc) rfl rfl gc293 gc294 ⟨Nat.le_of_ble_eq_true rfl, Nat.le_of_ble_eq_true rfl⟩ ⟨Nat.le_of_ble_eq_true rfl, Nat.le_of_ble_eq_true rfl⟩ rfl rfl (Nat.le_of_ble_eq_true rfl) dX12_fits_114 (fun H locs hw hS => ?_)
                    clear hc
                    refine lv_goto (tgt := 140) hx hb dX12_fits_117 (by decide) ?_
                    exact J140 _ _ hf _ _ ls (lv_sub hl [] rfl) hw hS
                clear ej102
                have hif := ok_if hf
                refine lv_if_eq (tgt := 102) hx hb dX12_fits_93 (by decide) (fun hcd => ?_) (fun hcd => ?_)
                · have hf := hif.1 hcd
                  clear hif
                  exact J102 _ hf _ _ ls hl hw hS
                · have hf := hif.2 hcd
                  clear hif
                  refine lv_iload hx hb dX12_fits_96 (lv_at hl 5 rfl) ?_
                  refine lv_iconst (v := 2) hx hb dX12_fits_98 (by decide) ?_
                  have hif := ok_if hf
                  refine lv_icmp_le (tgt := 144) hx hb dX12_fits_99 (by decide) (fun hcd => ?_) (fun hcd => ?_)
                  · have hf := hif.1 hcd
                    clear hif
                    refine lv_iconst (v := 0) hx hb dX12_fits_144 (by decide) ?_
                    obtain ⟨v6_24, en, hf⟩ := ok_lt hf
                    refine z_nm en ?_
                    clear en
                    refine lv_istore (lv' := [(6, .int v6_24), (0, .ref (E.2.2.1 259)), (1, .int x1), (2, .int x2), (3, .int x3), (4, .int x4), (5, .int x5)]) hx hb dX12_fits_145 hl (by decide) rfl (fun ls hl => ?_)
                    refine lv_iload hx hb dX12_fits_147 (lv_at hl 6 rfl) ?_
                    refine lv_iconst (v := 1) hx hb dX12_fits_149 (by decide) ?_
                    obtain ⟨j158, ej158, hf⟩ := ok_lt hf
                    have J158 : ∀ (k_25 : Int32) (s_26 : St), j158 k_25 s_26 = some (rz, sz) → ∀ (H : Heap) (locs : List Loc) (ls : Array Slot), lv_has ls 8 [(0, .ref (E.2.2.1 259)), (1, .int x1), (2, .int x2), (3, .int x3), (4, .int x4), (5, .int x5), (6, .int v6_24)] → World E sh2 s_26 H → va_S E.2.2.2 s.heap H locs → W p l e (rmd 8) s m args below meth c H locs 0 0 (MQ below (QW E sh2 (some (.int rz)) sz) args s 0 0 E.2.2.2) (F0 m 158 ls [.int k_25]) := by
                      intro k_25 s_26 hf H locs ls hl hw hS
                      subst ej158
                      refine lv_istore (lv' := [(7, .int k_25), (0, .ref (E.2.2.1 259)), (1, .int x1), (2, .int x2), (3, .int x3), (4, .int x4), (5, .int x5), (6, .int v6_24)]) hx hb dX12_fits_158 hl (by decide) rfl (fun ls hl => ?_)
                      obtain ⟨r160, hL160, hf⟩ := ok_bind hf
                      have X160_0 : ∀ (v6_30 : Int32) (s_31 : St), (v6_30, s_31) = r160 → ∀ (H : Heap) (locs : List Loc) (ls : Array Slot), lv_has ls 8 [(0, .ref (E.2.2.1 259)), (6, .int v6_30)] → World E sh2 s_31 H → va_S E.2.2.2 s.heap H locs → W p l e (rmd 8) s m args below meth c H locs 0 0 (MQ below (QW E sh2 (some (.int rz)) sz) args s 0 0 E.2.2.2) (F0 m 242 ls []) := by
                        intro v6_30 s_31 er H locs ls hl hw hS
                        subst er
                        replace hf := ok_un2 hf
                        refine lv_aload_n hx hb dX12_fits_242 rfl (lv_at hl 0 rfl) ?_
                        refine lv_iload hx hb dX12_fits_243 (lv_at hl 1 rfl) ?_
                        obtain ⟨r_33, s_32, hc, hf⟩ := ok_bd hf
                        refine z_cV hC hl.1 hw hS (As := [.int v6_30]) (rest := []) (m_X12_fine l E  hc) rfl rfl gc221 gc222 ⟨Nat.le_of_ble_eq_true rfl, Nat.le_of_ble_eq_true rfl⟩ ⟨Nat.le_of_ble_eq_true rfl, Nat.le_of_ble_eq_true rfl⟩ rfl rfl (Nat.le_of_ble_eq_true rfl) dX12_fits_245 (fun H locs hw hS => ?_)
                        clear hc
                        exact z_iretE hC hlocks hw hS hf hr rfl dX12_fits_248
                      have L160 : ∀ (n : Nat) (v6_27 : Int32) (v7_28 : Int32) (s_29 : St), loopF (f_X12_fits_L160 x1 x2 x3 x4 x5) n (v6_27, v7_28, s_29) = some r160 → ∀ (H : Heap) (locs : List Loc) (ls : Array Slot), lv_has ls 8 [(0, .ref (E.2.2.1 259)), (1, .int x1), (2, .int x2), (3, .int x3), (4, .int x4), (5, .int x5), (6, .int v6_27), (7, .int v7_28)] → World E sh2 s_29 H → va_S E.2.2.2 s.heap H locs → W p l e (rmd 8) s m args below meth c H locs 0 0 (MQ below (QW E sh2 (some (.int rz)) sz) args s 0 0 E.2.2.2) (F0 m 160 ls []) := by
                        intro n
                        induction n with
                        | zero =>
                          intro v6_27 v7_28 s_29 hf
                          exact nz hf
                        | succ n ih160 =>
                          intro v6_27 v7_28 s_29 hf H locs ls hl hw hS
                          obtain ⟨xl160, hf, hi160, he160⟩ := ok_loop hf
                          unfold f_X12_fits_L160 at hf
                          replace hf := ok_un3 hf
                          refine lv_iload hx hb dX12_fits_160 (lv_at hl 7 rfl) ?_
                          refine lv_iload hx hb dX12_fits_162 (lv_at hl 5 rfl) ?_
                          refine lv_iconst (v := 1) hx hb dX12_fits_164 (by decide) ?_
                          obtain ⟨j175, ej175, hf⟩ := ok_lt hf
                          have J175 : ∀ (k_34 : Int32) (s_35 : St), j175 k_34 s_35 = some xl160 → ∀ (H : Heap) (locs : List Loc) (ls : Array Slot), lv_has ls 8 [(0, .ref (E.2.2.1 259)), (1, .int x1), (2, .int x2), (3, .int x3), (4, .int x4), (5, .int x5), (6, .int v6_27), (7, .int v7_28)] → World E sh2 s_35 H → va_S E.2.2.2 s.heap H locs → W p l e (rmd 8) s m args below meth c H locs 0 0 (MQ below (QW E sh2 (some (.int rz)) sz) args s 0 0 E.2.2.2) (F0 m 175 ls [.int k_34, .int v7_28]) := by
                            intro k_34 s_35 hf H locs ls hl hw hS
                            subst ej175
                            have hif := ok_if hf
                            refine lv_icmp_ge (tgt := 242) hx hb dX12_fits_175 (by decide) (fun hcd => ?_) (fun hcd => ?_)
                            · have hf := hif.1 hcd
                              clear hif
                              cases hf
                              exact X160_0 _ _ (he160 _ rfl) _ _ ls (lv_sub hl [0, 6] rfl) hw hS
                            · have hf := hif.2 hcd
                              clear hif
                              refine lv_aload_n hx hb dX12_fits_178 rfl (lv_at hl 0 rfl) ?_
                              refine lv_iconst (v := 0) hx hb dX12_fits_179 (by decide) ?_
                              refine lv_sipush (v := 729) hx hb dX12_fits_180 (by decide) ?_
                              obtain ⟨s_36, hc, hf⟩ := ok_bind hf
                              refine z_cV hC hl.1 hw hS (As := [.int (0 : Int32), .int (729 : Int32)]) (rest := []) (m_X12_copies l E  hc) rfl rfl gc257 gc258 ⟨Nat.le_of_ble_eq_true rfl, Nat.le_of_ble_eq_true rfl⟩ ⟨Nat.le_of_ble_eq_true rfl, Nat.le_of_ble_eq_true rfl⟩ rfl rfl (Nat.le_of_ble_eq_true rfl) dX12_fits_183 (fun H locs hw hS => ?_)
                              clear hc
                              refine lv_aload_n hx hb dX12_fits_186 rfl (lv_at hl 0 rfl) ?_
                              refine gModel_slot hC hw wd598 dX12_fits_187 ?_
                              refine lv_sipush (v := 729) hx hb dX12_fits_190 (by decide) ?_
                              refine lv_iload hx hb dX12_fits_193 (lv_at hl 5 rfl) ?_
                              refine lv_iconst (v := 1) hx hb dX12_fits_195 (by decide) ?_
                              obtain ⟨j207, ej207, hf⟩ := ok_lt hf
                              have J207 : ∀ (k_37 : Int32) (s_38 : St), j207 k_37 s_38 = some xl160 → ∀ (H : Heap) (locs : List Loc) (ls : Array Slot), lv_has ls 8 [(0, .ref (E.2.2.1 259)), (1, .int x1), (2, .int x2), (3, .int x3), (4, .int x4), (5, .int x5), (6, .int v6_27), (7, .int v7_28)] → World E sh2 s_38 H → va_S E.2.2.2 s.heap H locs → W p l e (rmd 8) s m args below meth c H locs 0 0 (MQ below (QW E sh2 (some (.int rz)) sz) args s 0 0 E.2.2.2) (F0 m 207 ls [.int k_37, .int (729 : Int32), .ref (E.2.2.1 260)]) := by
                                intro k_37 s_38 hf H locs ls hl hw hS
                                subst ej207
                                refine lv_iadd hx hb dX12_fits_207 ?_
                                refine lv_iload hx hb dX12_fits_208 (lv_at hl 7 rfl) ?_
                                obtain ⟨hin, hf⟩ := ok_chk hf
                                obtain ⟨s_39, en, hf⟩ := ok_lt hf
                                refine z_iast hC hw hS rfl hin en dX12_fits_210 (fun H locs hw hS => ?_)
                                clear en
                                refine lv_iload hx hb dX12_fits_211 (lv_at hl 6 rfl) ?_
                                refine lv_aload_n hx hb dX12_fits_213 rfl (lv_at hl 0 rfl) ?_
                                refine lv_iload_n hx hb dX12_fits_214 rfl (lv_at hl 1 rfl) ?_
                                refine lv_iload_n hx hb dX12_fits_215 rfl (lv_at hl 2 rfl) ?_
                                refine lv_iload_n hx hb dX12_fits_216 rfl (lv_at hl 3 rfl) ?_
                                refine lv_iload hx hb dX12_fits_217 (lv_at hl 4 rfl) ?_
                                obtain ⟨r_41, s_40, hc, hf⟩ := ok_bd hf
                                refine z_cV hC hl.1 hw hS (As := [.int x1, .int x2, .int x3, .int x4]) (rest := [.int v6_27]) (m_X12_isSo l E  hc) rfl rfl gc289 gc290 ⟨Nat.le_of_ble_eq_true rfl, Nat.le_of_ble_eq_true rfl⟩ ⟨Nat.le_of_ble_eq_true rfl, Nat.le_of_ble_eq_true rfl⟩ rfl rfl (Nat.le_of_ble_eq_true rfl) dX12_fits_219 (fun H locs hw hS => ?_)
                                clear hc
                                obtain ⟨j233, ej233, hf⟩ := ok_lt hf
                                have J233 : ∀ (k_42 : Int32) (s_43 : St), j233 k_42 s_43 = some xl160 → ∀ (H : Heap) (locs : List Loc) (ls : Array Slot), lv_has ls 8 [(0, .ref (E.2.2.1 259)), (1, .int x1), (2, .int x2), (3, .int x3), (4, .int x4), (5, .int x5), (7, .int v7_28)] → World E sh2 s_43 H → va_S E.2.2.2 s.heap H locs → W p l e (rmd 8) s m args below meth c H locs 0 0 (MQ below (QW E sh2 (some (.int rz)) sz) args s 0 0 E.2.2.2) (F0 m 233 ls [.int k_42, .int v6_27]) := by
                                  intro k_42 s_43 hf H locs ls hl hw hS
                                  subst ej233
                                  refine lv_ior hx hb dX12_fits_233 ?_
                                  obtain ⟨v6_44, en, hf⟩ := ok_lt hf
                                  refine z_nm en ?_
                                  clear en
                                  refine lv_istore (lv' := [(6, .int v6_44), (0, .ref (E.2.2.1 259)), (1, .int x1), (2, .int x2), (3, .int x3), (4, .int x4), (5, .int x5), (7, .int v7_28)]) hx hb dX12_fits_234 hl (by decide) rfl (fun ls hl => ?_)
                                  obtain ⟨v7_45, en, hf⟩ := ok_lt hf
                                  refine lv_iinc (v := v7_45) (lv' := [(7, .int v7_45), (6, .int v6_44), (0, .ref (E.2.2.1 259)), (1, .int x1), (2, .int x2), (3, .int x3), (4, .int x4), (5, .int x5)]) hx hb dX12_fits_236 hl (k := 7) rfl (by rw [en]; rfl) (by decide) rfl (fun ls hl => ?_)
                                  clear en
                                  refine lv_goto (tgt := 160) hx hb dX12_fits_239 (by decide) ?_
                                  cases hf
                                  exact ih160 _ _ _ (hi160 _ rfl) _ _ ls (lv_sub hl [2, 3, 4, 5, 6, 7, 1, 0] rfl) hw hS
                                clear ej233
                                have hif := ok_if hf
                                refine lv_if_eq (tgt := 232) hx hb dX12_fits_222 (by decide) (fun hcd => ?_) (fun hcd => ?_)
                                · have hf := hif.1 hcd
                                  clear hif
                                  refine lv_iconst (v := 0) hx hb dX12_fits_232 (by decide) ?_
                                  exact J233 _ _ hf _ _ ls (lv_sub hl [0, 1, 2, 3, 4, 5, 7] rfl) hw hS
                                · have hf := hif.2 hcd
                                  clear hif
                                  refine lv_iconst (v := 1) hx hb dX12_fits_225 (by decide) ?_
                                  refine lv_iload hx hb dX12_fits_226 (lv_at hl 7 rfl) ?_
                                  refine lv_ishl hx hb dX12_fits_228 ?_
                                  refine lv_goto (tgt := 233) hx hb dX12_fits_229 (by decide) ?_
                                  exact J233 _ _ hf _ _ ls (lv_sub hl [0, 1, 2, 3, 4, 5, 7] rfl) hw hS
                              clear ej207
                              have hif := ok_if hf
                              refine lv_icmp_ne (tgt := 206) hx hb dX12_fits_196 (by decide) (fun hcd => ?_) (fun hcd => ?_)
                              · have hf := hif.1 hcd
                                clear hif
                                refine lv_iload_n hx hb dX12_fits_206 rfl (lv_at hl 1 rfl) ?_
                                exact J207 _ _ hf _ _ ls hl hw hS
                              · have hf := hif.2 (fun q => q hcd)
                                clear hif
                                refine lv_bipush (v := 8) hx hb dX12_fits_199 (by decide) ?_
                                refine lv_iload_n hx hb dX12_fits_201 rfl (lv_at hl 1 rfl) ?_
                                refine lv_iadd hx hb dX12_fits_202 ?_
                                refine lv_goto (tgt := 207) hx hb dX12_fits_203 (by decide) ?_
                                exact J207 _ _ hf _ _ ls hl hw hS
                          clear ej175
                          have hif := ok_if hf
                          refine lv_icmp_ne (tgt := 173) hx hb dX12_fits_165 (by decide) (fun hcd => ?_) (fun hcd => ?_)
                          · have hf := hif.1 hcd
                            clear hif
                            refine lv_bipush (v := 10) hx hb dX12_fits_173 (by decide) ?_
                            exact J175 _ _ hf _ _ ls hl hw hS
                          · have hf := hif.2 (fun q => q hcd)
                            clear hif
                            refine lv_bipush (v := 21) hx hb dX12_fits_168 (by decide) ?_
                            refine lv_goto (tgt := 175) hx hb dX12_fits_170 (by decide) ?_
                            exact J175 _ _ hf _ _ ls hl hw hS
                      exact L160 5000 _ _ _ hL160 _ _ ls (lv_sub hl [1, 2, 3, 4, 5, 6, 7, 0] rfl) hw hS
                    clear ej158
                    have hif := ok_if hf
                    refine lv_icmp_ne (tgt := 157) hx hb dX12_fits_150 (by decide) (fun hcd => ?_) (fun hcd => ?_)
                    · have hf := hif.1 hcd
                      clear hif
                      refine lv_iconst (v := 0) hx hb dX12_fits_157 (by decide) ?_
                      exact J158 _ _ hf _ _ ls (lv_sub hl [1, 2, 3, 4, 5, 6, 0] rfl) hw hS
                    · have hf := hif.2 (fun q => q hcd)
                      clear hif
                      refine lv_iconst (v := 1) hx hb dX12_fits_153 (by decide) ?_
                      refine lv_goto (tgt := 158) hx hb dX12_fits_154 (by decide) ?_
                      exact J158 _ _ hf _ _ ls (lv_sub hl [1, 2, 3, 4, 5, 6, 0] rfl) hw hS
                  · have hf := hif.2 hcd
                    clear hif
                    exact J102 _ hf _ _ ls hl hw hS
              · have hf := hif.2 hcd
                clear hif
                exact J85 _ hf _ _ ls (lv_sub hl [0] rfl) hw hS
          · have hf := hif.2 hcd
            clear hif
            refine lv_aload_n hx hb dX12_fits_58 rfl (lv_at hl 0 rfl) ?_
            refine lv_iconst (v := 1) hx hb dX12_fits_59 (by decide) ?_
            obtain ⟨r_47, s_46, hc, hf⟩ := ok_bd hf
            refine z_cV hC hl.1 hw hS (As := [.int (1 : Int32)]) (rest := []) (m_X12_finds l E  hc) rfl rfl gc223 gc224 ⟨Nat.le_of_ble_eq_true rfl, Nat.le_of_ble_eq_true rfl⟩ ⟨Nat.le_of_ble_eq_true rfl, Nat.le_of_ble_eq_true rfl⟩ rfl rfl (Nat.le_of_ble_eq_true rfl) dX12_fits_60 (fun H locs hw hS => ?_)
            clear hc
            exact z_iretE hC hlocks hw hS hf hr rfl dX12_fits_63
        · have hf := hif.2 (fun q => q hcd)
          clear hif
          exact J46 _ hf _ _ ls (lv_sub hl [] rfl) hw hS
set_option maxHeartbeats 4000000 in
set_option maxRecDepth 100000 in
theorem m_X12_chance (l : Launch) (E : Ev) {x1 : Int32} {x2 : Int32} {x3 : Int32} {x4 : Int32}  {s0 sz : St} {rz : Int32} (hf : f_X12_chance x1 x2 x3 x4 s0 = some (rz, sz)) : MM l E sh2 yX12_chance cX12_chance 16 (some .int) (rmd 6) [.ref (E.2.2.1 259), .int x1, .int x2, .int x3, .int x4] s0 (some (.int rz)) sz := by
  unfold f_X12_chance at hf
  refine z_enter (by decide +kernel) (Nat.le_of_ble_eq_true rfl) ?_
  intro p e s m args below meth c ls hC hr hlocks hw hS hl
  have hC : Cx p s m args c cX12_chance 16 "FuseBoxModel" E := hC
  obtain ⟨hx, hb, hml, hown, hts, hTB⟩ := id hC
  have hl : lv_has ls 16 [(0, .ref (E.2.2.1 259)), (1, .int x1), (2, .int x2), (3, .int x3), (4, .int x4)] := hl
  refine lv_aload_n hx hb dX12_chance_0 rfl (lv_at hl 0 rfl) ?_
  refine lv_iload_n hx hb dX12_chance_1 rfl (lv_at hl 1 rfl) ?_
  obtain ⟨r_2, s_1, hc, hf⟩ := ok_bd hf
  refine z_cV hC hl.1 hw hS (As := [.int x1]) (rest := []) (m_X12_isLine l E  hc) rfl rfl gc269 gc270 ⟨Nat.le_of_ble_eq_true rfl, Nat.le_of_ble_eq_true rfl⟩ ⟨Nat.le_of_ble_eq_true rfl, Nat.le_of_ble_eq_true rfl⟩ rfl rfl (Nat.le_of_ble_eq_true rfl) dX12_chance_2 (fun H locs hw hS => ?_)
  clear hc
  obtain ⟨j43, ej43, hf⟩ := ok_lt hf
  have J43 : ∀ (s_3 : St), j43 s_3 = some (rz, sz) → ∀ (H : Heap) (locs : List Loc) (ls : Array Slot), lv_has ls 16 [] → World E sh2 s_3 H → va_S E.2.2.2 s.heap H locs → W p l e (rmd 6) s m args below meth c H locs 0 0 (MQ below (QW E sh2 (some (.int rz)) sz) args s 0 0 E.2.2.2) (F0 m 43 ls []) := by
    intro s_3 hf H locs ls hl hw hS
    subst ej43
    refine lv_ldc (v := -1000001) hx hb hown (hts _ wd535) dX12_chance_43 ?_
    exact z_iretE hC hlocks hw hS hf hr rfl dX12_chance_45
  clear ej43
  have hif := ok_if hf
  refine lv_if_eq (tgt := 43) hx hb dX12_chance_5 (by decide) (fun hcd => ?_) (fun hcd => ?_)
  · have hf := hif.1 hcd
    clear hif
    exact J43 _ hf _ _ ls (lv_sub hl [] rfl) hw hS
  · have hf := hif.2 hcd
    clear hif
    refine lv_iload_n hx hb dX12_chance_8 rfl (lv_at hl 2 rfl) ?_
    refine lv_i2l (v := x2.toInt64) hx hb dX12_chance_9 rfl ?_
    refine lv_lconst (v := 0) hx hb dX12_chance_10 (by decide) ?_
    refine lv_ldc2 (v := 60) hx hb hown (hts _ wd674) dX12_chance_11 ?_
    obtain ⟨r_5, s_4, hc, hf⟩ := ok_bd hf
    refine z_cS hC hl.1 hw hS (As := [.long (x2.toInt64), .long (0 : Int64), .long (60 : Int64)]) (rest := []) (m_X12_in l E  hc) gc219 gc220 ⟨Nat.le_of_ble_eq_true rfl, Nat.le_of_ble_eq_true rfl⟩ ⟨Nat.le_of_ble_eq_true rfl, Nat.le_of_ble_eq_true rfl⟩ rfl rfl (Nat.le_of_ble_eq_true rfl) dX12_chance_14 (fun H locs hw hS => ?_)
    clear hc
    have hif := ok_if hf
    refine lv_if_eq (tgt := 43) hx hb dX12_chance_17 (by decide) (fun hcd => ?_) (fun hcd => ?_)
    · have hf := hif.1 hcd
      clear hif
      exact J43 _ hf _ _ ls (lv_sub hl [] rfl) hw hS
    · have hf := hif.2 hcd
      clear hif
      refine lv_iload_n hx hb dX12_chance_20 rfl (lv_at hl 3 rfl) ?_
      refine lv_i2l (v := x3.toInt64) hx hb dX12_chance_21 rfl ?_
      refine lv_lconst (v := 0) hx hb dX12_chance_22 (by decide) ?_
      refine lv_ldc2 (v := 10) hx hb hown (hts _ wd720) dX12_chance_23 ?_
      obtain ⟨r_7, s_6, hc, hf⟩ := ok_bd hf
      refine z_cS hC hl.1 hw hS (As := [.long (x3.toInt64), .long (0 : Int64), .long (10 : Int64)]) (rest := []) (m_X12_in l E  hc) gc219 gc220 ⟨Nat.le_of_ble_eq_true rfl, Nat.le_of_ble_eq_true rfl⟩ ⟨Nat.le_of_ble_eq_true rfl, Nat.le_of_ble_eq_true rfl⟩ rfl rfl (Nat.le_of_ble_eq_true rfl) dX12_chance_26 (fun H locs hw hS => ?_)
      clear hc
      have hif := ok_if hf
      refine lv_if_eq (tgt := 43) hx hb dX12_chance_29 (by decide) (fun hcd => ?_) (fun hcd => ?_)
      · have hf := hif.1 hcd
        clear hif
        exact J43 _ hf _ _ ls (lv_sub hl [] rfl) hw hS
      · have hf := hif.2 hcd
        clear hif
        refine lv_iload hx hb dX12_chance_32 (lv_at hl 4 rfl) ?_
        refine lv_i2l (v := x4.toInt64) hx hb dX12_chance_34 rfl ?_
        refine lv_lconst (v := 0) hx hb dX12_chance_35 (by decide) ?_
        refine lv_lconst (v := 1) hx hb dX12_chance_36 (by decide) ?_
        obtain ⟨r_9, s_8, hc, hf⟩ := ok_bd hf
        refine z_cS hC hl.1 hw hS (As := [.long (x4.toInt64), .long (0 : Int64), .long (1 : Int64)]) (rest := []) (m_X12_in l E  hc) gc219 gc220 ⟨Nat.le_of_ble_eq_true rfl, Nat.le_of_ble_eq_true rfl⟩ ⟨Nat.le_of_ble_eq_true rfl, Nat.le_of_ble_eq_true rfl⟩ rfl rfl (Nat.le_of_ble_eq_true rfl) dX12_chance_37 (fun H locs hw hS => ?_)
        clear hc
        have hif := ok_if hf
        refine lv_if_ne (tgt := 46) hx hb dX12_chance_40 (by decide) (fun hcd => ?_) (fun hcd => ?_)
        · have hf := hif.1 hcd
          clear hif
          refine lv_aload_n hx hb dX12_chance_46 rfl (lv_at hl 0 rfl) ?_
          obtain ⟨r_11, s_10, hc, hf⟩ := ok_bd hf
          refine z_cV hC hl.1 hw hS (As := []) (rest := []) (m_X12_onOnes l E  hc) rfl rfl gc277 gc278 ⟨Nat.le_of_ble_eq_true rfl, Nat.le_of_ble_eq_true rfl⟩ ⟨Nat.le_of_ble_eq_true rfl, Nat.le_of_ble_eq_true rfl⟩ rfl rfl (Nat.le_of_ble_eq_true rfl) dX12_chance_47 (fun H locs hw hS => ?_)
          clear hc
          refine lv_istore (lv' := [(5, .int r_11), (0, .ref (E.2.2.1 259)), (1, .int x1), (2, .int x2), (3, .int x3), (4, .int x4)]) hx hb dX12_chance_50 hl (by decide) rfl (fun ls hl => ?_)
          refine lv_lconst (v := 0) hx hb dX12_chance_52 (by decide) ?_
          obtain ⟨v6_12, en, hf⟩ := ok_lt hf
          refine z_nml en ?_
          clear en
          refine lv_lstore (lv' := [(6, .long v6_12), (5, .int r_11), (0, .ref (E.2.2.1 259)), (1, .int x1), (2, .int x2), (3, .int x3), (4, .int x4)]) hx hb dX12_chance_53 hl (by decide) rfl (fun ls hl => ?_)
          refine lv_lconst (v := 0) hx hb dX12_chance_55 (by decide) ?_
          obtain ⟨v8_13, en, hf⟩ := ok_lt hf
          refine z_nml en ?_
          clear en
          refine lv_lstore (lv' := [(8, .long v8_13), (6, .long v6_12), (5, .int r_11), (0, .ref (E.2.2.1 259)), (1, .int x1), (2, .int x2), (3, .int x3), (4, .int x4)]) hx hb dX12_chance_56 hl (by decide) rfl (fun ls hl => ?_)
          refine lv_iconst (v := 0) hx hb dX12_chance_58 (by decide) ?_
          obtain ⟨v10_14, en, hf⟩ := ok_lt hf
          refine z_nm en ?_
          clear en
          refine lv_istore (lv' := [(10, .int v10_14), (8, .long v8_13), (6, .long v6_12), (5, .int r_11), (0, .ref (E.2.2.1 259)), (1, .int x1), (2, .int x2), (3, .int x3), (4, .int x4)]) hx hb dX12_chance_59 hl (by decide) rfl (fun ls hl => ?_)
          obtain ⟨r61, hL61, hf⟩ := ok_bind hf
          have X61_0 : ∀ (v6_19 : Int64) (v8_20 : Int64) (s_21 : St), (v6_19, v8_20, s_21) = r61 → ∀ (H : Heap) (locs : List Loc) (ls : Array Slot), lv_has ls 16 [(4, .int x4), (6, .long v6_19), (8, .long v8_20)] → World E sh2 s_21 H → va_S E.2.2.2 s.heap H locs → W p l e (rmd 6) s m args below meth c H locs 0 0 (MQ below (QW E sh2 (some (.int rz)) sz) args s 0 0 E.2.2.2) (F0 m 194 ls []) := by
            intro v6_19 v8_20 s_21 er H locs ls hl hw hS
            subst er
            replace hf := ok_un3 hf
            refine lv_lload hx hb dX12_chance_194 (lv_at hl 1 rfl) ?_
            refine lv_lstore (lv' := [(10, .long v6_19), (4, .int x4), (6, .long v6_19), (8, .long v8_20)]) hx hb dX12_chance_196 hl (by decide) rfl (fun ls hl => ?_)
            refine lv_lload hx hb dX12_chance_198 (lv_at hl 3 rfl) ?_
            refine lv_lstore (lv' := [(12, .long v8_20), (10, .long v6_19), (4, .int x4), (6, .long v6_19), (8, .long v8_20)]) hx hb dX12_chance_200 hl (by decide) rfl (fun ls hl => ?_)
            obtain ⟨r202, hL202, hf⟩ := ok_bind hf
            have X202_0 : ∀ (v10_25 : Int64) (s_26 : St), (v10_25, s_26) = r202 → ∀ (H : Heap) (locs : List Loc) (ls : Array Slot), lv_has ls 16 [(4, .int x4), (6, .long v6_19), (8, .long v8_20), (10, .long v10_25)] → World E sh2 s_26 H → va_S E.2.2.2 s.heap H locs → W p l e (rmd 6) s m args below meth c H locs 0 0 (MQ below (QW E sh2 (some (.int rz)) sz) args s 0 0 E.2.2.2) (F0 m 227 ls []) := by
              intro v10_25 s_26 er H locs ls hl hw hS
              subst er
              replace hf := ok_un2 hf
              refine lv_iload hx hb dX12_chance_227 (lv_at hl 0 rfl) ?_
              obtain ⟨j245, ej245, hf⟩ := ok_lt hf
              have J245 : ∀ (k_27 : Int64) (s_28 : St), j245 k_27 s_28 = some (rz, sz) → ∀ (H : Heap) (locs : List Loc) (ls : Array Slot), lv_has ls 16 [] → World E sh2 s_28 H → va_S E.2.2.2 s.heap H locs → W p l e (rmd 6) s m args below meth c H locs 0 0 (MQ below (QW E sh2 (some (.int rz)) sz) args s 0 0 E.2.2.2) (F0 m 245 ls [.long k_27]) := by
                intro k_27 s_28 hf H locs ls hl hw hS
                subst ej245
                refine lv_l2i (v := (k_27).toInt32) hx hb dX12_chance_245 rfl ?_
                exact z_iretE hC hlocks hw hS hf hr rfl dX12_chance_246
              clear ej245
              have hif := ok_if hf
              refine lv_if_ne (tgt := 240) hx hb dX12_chance_229 (by decide) (fun hcd => ?_) (fun hcd => ?_)
              · have hf := hif.1 hcd
                clear hif
                refine lv_lload hx hb dX12_chance_240 (lv_at hl 2 rfl) ?_
                refine lv_lload hx hb dX12_chance_242 (lv_at hl 3 rfl) ?_
                obtain ⟨hnz, hf⟩ := ok_chk hf
                refine lv_ldiv hx hb dX12_chance_244 hnz ?_
                exact J245 _ _ hf _ _ ls (lv_sub hl [] rfl) hw hS
              · have hf := hif.2 (fun q => q hcd)
                clear hif
                refine lv_lload hx hb dX12_chance_232 (lv_at hl 1 rfl) ?_
                refine lv_lload hx hb dX12_chance_234 (lv_at hl 3 rfl) ?_
                obtain ⟨hnz, hf⟩ := ok_chk hf
                refine lv_ldiv hx hb dX12_chance_236 hnz ?_
                refine lv_goto (tgt := 245) hx hb dX12_chance_237 (by decide) ?_
                exact J245 _ _ hf _ _ ls (lv_sub hl [] rfl) hw hS
            have L202 : ∀ (n : Nat) (v10_22 : Int64) (v12_23 : Int64) (s_24 : St), loopF f_X12_chance_L202 n (v10_22, v12_23, s_24) = some r202 → ∀ (H : Heap) (locs : List Loc) (ls : Array Slot), lv_has ls 16 [(4, .int x4), (6, .long v6_19), (8, .long v8_20), (10, .long v10_22), (12, .long v12_23)] → World E sh2 s_24 H → va_S E.2.2.2 s.heap H locs → W p l e (rmd 6) s m args below meth c H locs 0 0 (MQ below (QW E sh2 (some (.int rz)) sz) args s 0 0 E.2.2.2) (F0 m 202 ls []) := by
              intro n
              induction n with
              | zero =>
                intro v10_22 v12_23 s_24 hf
                exact nz hf
              | succ n ih202 =>
                intro v10_22 v12_23 s_24 hf H locs ls hl hw hS
                obtain ⟨xl202, hf, hi202, he202⟩ := ok_loop hf
                unfold f_X12_chance_L202 at hf
                replace hf := ok_un3 hf
                refine lv_lload hx hb dX12_chance_202 (lv_at hl 4 rfl) ?_
                refine lv_lconst (v := 0) hx hb dX12_chance_204 (by decide) ?_
                refine W.lcmp hx hb dX12_chance_205 ?_
                have hif := ok_if hf
                refine lv_if_eq (tgt := 227) hx hb dX12_chance_206 (by decide) (fun hcd => ?_) (fun hcd => ?_)
                · have hf := hif.1 hcd
                  clear hif
                  cases hf
                  exact X202_0 _ _ (he202 _ rfl) _ _ ls (lv_sub hl [0, 1, 2, 3] rfl) hw hS
                · have hf := hif.2 hcd
                  clear hif
                  refine lv_lload hx hb dX12_chance_209 (lv_at hl 3 rfl) ?_
                  refine lv_lload hx hb dX12_chance_211 (lv_at hl 4 rfl) ?_
                  obtain ⟨hnz, hf⟩ := ok_chk hf
                  refine lv_lrem hx hb dX12_chance_213 hnz ?_
                  obtain ⟨v14_29, en, hf⟩ := ok_lt hf
                  refine z_nml en ?_
                  clear en
                  refine lv_lstore (lv' := [(14, .long v14_29), (4, .int x4), (6, .long v6_19), (8, .long v8_20), (10, .long v10_22), (12, .long v12_23)]) hx hb dX12_chance_214 hl (by decide) rfl (fun ls hl => ?_)
                  refine lv_lload hx hb dX12_chance_216 (lv_at hl 5 rfl) ?_
                  refine lv_lstore (lv' := [(10, .long v12_23), (14, .long v14_29), (4, .int x4), (6, .long v6_19), (8, .long v8_20), (12, .long v12_23)]) hx hb dX12_chance_218 hl (by decide) rfl (fun ls hl => ?_)
                  refine lv_lload hx hb dX12_chance_220 (lv_at hl 1 rfl) ?_
                  refine lv_lstore (lv' := [(12, .long v14_29), (10, .long v12_23), (14, .long v14_29), (4, .int x4), (6, .long v6_19), (8, .long v8_20)]) hx hb dX12_chance_222 hl (by decide) rfl (fun ls hl => ?_)
                  refine lv_goto (tgt := 202) hx hb dX12_chance_224 (by decide) ?_
                  cases hf
                  exact ih202 _ _ _ (hi202 _ rfl) _ _ ls (lv_sub hl [3, 4, 5, 1, 0] rfl) hw hS
            exact L202 5000 _ _ _ hL202 _ _ ls (lv_sub hl [2, 3, 4, 1, 0] rfl) hw hS
          have L61 : ∀ (n : Nat) (v6_15 : Int64) (v8_16 : Int64) (v10_17 : Int32) (s_18 : St), loopF (f_X12_chance_L61 x1 x2 x3 r_11) n (v6_15, v8_16, v10_17, s_18) = some r61 → ∀ (H : Heap) (locs : List Loc) (ls : Array Slot), lv_has ls 16 [(0, .ref (E.2.2.1 259)), (1, .int x1), (2, .int x2), (3, .int x3), (4, .int x4), (5, .int r_11), (6, .long v6_15), (8, .long v8_16), (10, .int v10_17)] → World E sh2 s_18 H → va_S E.2.2.2 s.heap H locs → W p l e (rmd 6) s m args below meth c H locs 0 0 (MQ below (QW E sh2 (some (.int rz)) sz) args s 0 0 E.2.2.2) (F0 m 61 ls []) := by
            intro n
            induction n with
            | zero =>
              intro v6_15 v8_16 v10_17 s_18 hf
              exact nz hf
            | succ n ih61 =>
              intro v6_15 v8_16 v10_17 s_18 hf H locs ls hl hw hS
              obtain ⟨xl61, hf, hi61, he61⟩ := ok_loop hf
              unfold f_X12_chance_L61 at hf
              replace hf := ok_un4 hf
              refine lv_iload hx hb dX12_chance_61 (lv_at hl 8 rfl) ?_
              refine lv_bipush (v := 64) hx hb dX12_chance_63 (by decide) ?_
              have hif := ok_if hf
              refine lv_icmp_ge (tgt := 194) hx hb dX12_chance_65 (by decide) (fun hcd => ?_) (fun hcd => ?_)
              · have hf := hif.1 hcd
                clear hif
                cases hf
                exact X61_0 _ _ _ (he61 _ rfl) _ _ ls (lv_sub hl [4, 6, 7] rfl) hw hS
              · have hf := hif.2 hcd
                clear hif
                refine lv_iload hx hb dX12_chance_68 (lv_at hl 8 rfl) ?_
                refine lv_iload hx hb dX12_chance_70 (lv_at hl 5 rfl) ?_
                refine lv_iconst (v := -1) hx hb dX12_chance_72 (by decide) ?_
                refine lv_ixor hx hb dX12_chance_73 ?_
                refine lv_iand hx hb dX12_chance_74 ?_
                obtain ⟨j188, ej188, hf⟩ := ok_lt hf
                have J188 : ∀ (v6_30 : Int64) (v8_31 : Int64) (s_32 : St), j188 v6_30 v8_31 s_32 = some xl61 → ∀ (H : Heap) (locs : List Loc) (ls : Array Slot), lv_has ls 16 [(0, .ref (E.2.2.1 259)), (1, .int x1), (2, .int x2), (3, .int x3), (4, .int x4), (5, .int r_11), (6, .long v6_30), (8, .long v8_31), (10, .int v10_17)] → World E sh2 s_32 H → va_S E.2.2.2 s.heap H locs → W p l e (rmd 6) s m args below meth c H locs 0 0 (MQ below (QW E sh2 (some (.int rz)) sz) args s 0 0 E.2.2.2) (F0 m 188 ls []) := by
                  intro v6_30 v8_31 s_32 hf H locs ls hl hw hS
                  subst ej188
                  obtain ⟨v10_33, en, hf⟩ := ok_lt hf
                  refine lv_iinc (v := v10_33) (lv' := [(10, .int v10_33), (0, .ref (E.2.2.1 259)), (1, .int x1), (2, .int x2), (3, .int x3), (4, .int x4), (5, .int r_11), (6, .long v6_30), (8, .long v8_31)]) hx hb dX12_chance_188 hl (k := 8) rfl (by rw [en]; rfl) (by decide) rfl (fun ls hl => ?_)
                  clear en
                  refine lv_goto (tgt := 61) hx hb dX12_chance_191 (by decide) ?_
                  cases hf
                  exact ih61 _ _ _ _ (hi61 _ rfl) _ _ ls (lv_sub hl [1, 2, 3, 4, 5, 6, 7, 8, 0] rfl) hw hS
                clear ej188
                have hif := ok_if hf
                refine lv_if_ne (tgt := 188) hx hb dX12_chance_75 (by decide) (fun hcd => ?_) (fun hcd => ?_)
                · have hf := hif.1 hcd
                  clear hif
                  exact J188 _ _ _ hf _ _ ls hl hw hS
                · have hf := hif.2 (fun q => q hcd)
                  clear hif
                  refine lv_aload_n hx hb dX12_chance_78 rfl (lv_at hl 0 rfl) ?_
                  refine lv_iconst (v := 0) hx hb dX12_chance_79 (by decide) ?_
                  refine lv_sipush (v := 729) hx hb dX12_chance_80 (by decide) ?_
                  obtain ⟨s_34, hc, hf⟩ := ok_bind hf
                  refine z_cV hC hl.1 hw hS (As := [.int (0 : Int32), .int (729 : Int32)]) (rest := []) (m_X12_copies l E  hc) rfl rfl gc257 gc258 ⟨Nat.le_of_ble_eq_true rfl, Nat.le_of_ble_eq_true rfl⟩ ⟨Nat.le_of_ble_eq_true rfl, Nat.le_of_ble_eq_true rfl⟩ rfl rfl (Nat.le_of_ble_eq_true rfl) dX12_chance_83 (fun H locs hw hS => ?_)
                  clear hc
                  refine lv_aload_n hx hb dX12_chance_86 rfl (lv_at hl 0 rfl) ?_
                  refine lv_iload hx hb dX12_chance_87 (lv_at hl 8 rfl) ?_
                  obtain ⟨s_35, hc, hf⟩ := ok_bind hf
                  refine z_cV hC hl.1 hw hS (As := [.int v10_17]) (rest := []) (m_X12_offs l E  hc) rfl rfl gc281 gc282 ⟨Nat.le_of_ble_eq_true rfl, Nat.le_of_ble_eq_true rfl⟩ ⟨Nat.le_of_ble_eq_true rfl, Nat.le_of_ble_eq_true rfl⟩ rfl rfl (Nat.le_of_ble_eq_true rfl) dX12_chance_89 (fun H locs hw hS => ?_)
                  clear hc
                  refine lv_lconst (v := 1) hx hb dX12_chance_92 (by decide) ?_
                  obtain ⟨v11_36, en, hf⟩ := ok_lt hf
                  refine z_nml en ?_
                  clear en
                  refine lv_lstore (lv' := [(11, .long v11_36), (0, .ref (E.2.2.1 259)), (1, .int x1), (2, .int x2), (3, .int x3), (4, .int x4), (5, .int r_11), (6, .long v6_15), (8, .long v8_16), (10, .int v10_17)]) hx hb dX12_chance_93 hl (by decide) rfl (fun ls hl => ?_)
                  refine lv_iconst (v := 0) hx hb dX12_chance_95 (by decide) ?_
                  obtain ⟨v13_37, en, hf⟩ := ok_lt hf
                  refine z_nm en ?_
                  clear en
                  refine lv_istore (lv' := [(13, .int v13_37), (11, .long v11_36), (0, .ref (E.2.2.1 259)), (1, .int x1), (2, .int x2), (3, .int x3), (4, .int x4), (5, .int r_11), (6, .long v6_15), (8, .long v8_16), (10, .int v10_17)]) hx hb dX12_chance_96 hl (by decide) rfl (fun ls hl => ?_)
                  obtain ⟨r98, hL98, hf⟩ := ok_bind hf
                  have X98_0 : ∀ (v11_41 : Int64) (s_42 : St), (v11_41, s_42) = r98 → ∀ (H : Heap) (locs : List Loc) (ls : Array Slot), lv_has ls 16 [(0, .ref (E.2.2.1 259)), (1, .int x1), (2, .int x2), (3, .int x3), (4, .int x4), (5, .int r_11), (6, .long v6_15), (8, .long v8_16), (10, .int v10_17), (11, .long v11_41)] → World E sh2 s_42 H → va_S E.2.2.2 s.heap H locs → W p l e (rmd 6) s m args below meth c H locs 0 0 (MQ below (QW E sh2 (some (.int rz)) sz) args s 0 0 E.2.2.2) (F0 m 154 ls []) := by
                    intro v11_41 s_42 er H locs ls hl hw hS
                    subst er
                    replace hf := ok_un2 hf
                    refine lv_aload_n hx hb dX12_chance_154 rfl (lv_at hl 0 rfl) ?_
                    refine lv_iload_n hx hb dX12_chance_155 rfl (lv_at hl 2 rfl) ?_
                    obtain ⟨s_43, hc, hf⟩ := ok_bind hf
                    refine z_cV hC hl.1 hw hS (As := [.int x2]) (rest := []) (m_X12_goesOn l E  hc) rfl rfl gc275 gc276 ⟨Nat.le_of_ble_eq_true rfl, Nat.le_of_ble_eq_true rfl⟩ ⟨Nat.le_of_ble_eq_true rfl, Nat.le_of_ble_eq_true rfl⟩ rfl rfl (Nat.le_of_ble_eq_true rfl) dX12_chance_156 (fun H locs hw hS => ?_)
                    clear hc
                    refine lv_lload hx hb dX12_chance_159 (lv_at hl 7 rfl) ?_
                    refine lv_lload hx hb dX12_chance_161 (lv_at hl 9 rfl) ?_
                    refine lv_ladd hx hb dX12_chance_163 ?_
                    obtain ⟨v8_44, en, hf⟩ := ok_lt hf
                    refine z_nml en ?_
                    clear en
                    refine lv_lstore (lv' := [(8, .long v8_44), (0, .ref (E.2.2.1 259)), (1, .int x1), (2, .int x2), (3, .int x3), (4, .int x4), (5, .int r_11), (6, .long v6_15), (10, .int v10_17), (11, .long v11_41)]) hx hb dX12_chance_164 hl (by decide) rfl (fun ls hl => ?_)
                    refine lv_lload hx hb dX12_chance_166 (lv_at hl 7 rfl) ?_
                    refine lv_aload_n hx hb dX12_chance_168 rfl (lv_at hl 1 rfl) ?_
                    refine lv_sipush (v := 729) hx hb dX12_chance_169 (by decide) ?_
                    refine lv_iload_n hx hb dX12_chance_172 rfl (lv_at hl 2 rfl) ?_
                    obtain ⟨r_46, s_45, hc, hf⟩ := ok_bd hf
                    refine z_cV hC hl.1 hw hS (As := [.int (729 : Int32), .int x1]) (rest := [.long v6_15]) (m_X12_isLive l E  hc) rfl rfl gc241 gc242 ⟨Nat.le_of_ble_eq_true rfl, Nat.le_of_ble_eq_true rfl⟩ ⟨Nat.le_of_ble_eq_true rfl, Nat.le_of_ble_eq_true rfl⟩ rfl rfl (Nat.le_of_ble_eq_true rfl) dX12_chance_173 (fun H locs hw hS => ?_)
                    clear hc
                    obtain ⟨j185, ej185, hf⟩ := ok_lt hf
                    have J185 : ∀ (k_47 : Int64) (s_48 : St), j185 k_47 s_48 = some xl61 → ∀ (H : Heap) (locs : List Loc) (ls : Array Slot), lv_has ls 16 [(0, .ref (E.2.2.1 259)), (1, .int x1), (2, .int x2), (3, .int x3), (4, .int x4), (5, .int r_11), (8, .long v8_44), (10, .int v10_17)] → World E sh2 s_48 H → va_S E.2.2.2 s.heap H locs → W p l e (rmd 6) s m args below meth c H locs 0 0 (MQ below (QW E sh2 (some (.int rz)) sz) args s 0 0 E.2.2.2) (F0 m 185 ls [.long k_47, .long v6_15]) := by
                      intro k_47 s_48 hf H locs ls hl hw hS
                      subst ej185
                      refine lv_ladd hx hb dX12_chance_185 ?_
                      obtain ⟨v6_49, en, hf⟩ := ok_lt hf
                      refine z_nml en ?_
                      clear en
                      refine lv_lstore (lv' := [(6, .long v6_49), (0, .ref (E.2.2.1 259)), (1, .int x1), (2, .int x2), (3, .int x3), (4, .int x4), (5, .int r_11), (8, .long v8_44), (10, .int v10_17)]) hx hb dX12_chance_186 hl (by decide) rfl (fun ls hl => ?_)
                      exact J188 _ _ _ hf _ _ ls (lv_sub hl [1, 2, 3, 4, 5, 6, 0, 7, 8] rfl) hw hS
                    clear ej185
                    have hif := ok_if hf
                    refine lv_if_eq (tgt := 184) hx hb dX12_chance_176 (by decide) (fun hcd => ?_) (fun hcd => ?_)
                    · have hf := hif.1 hcd
                      clear hif
                      refine lv_lconst (v := 0) hx hb dX12_chance_184 (by decide) ?_
                      exact J185 _ _ hf _ _ ls (lv_sub hl [1, 2, 3, 4, 5, 6, 0, 8] rfl) hw hS
                    · have hf := hif.2 hcd
                      clear hif
                      refine lv_lload hx hb dX12_chance_179 (lv_at hl 9 rfl) ?_
                      refine lv_goto (tgt := 185) hx hb dX12_chance_181 (by decide) ?_
                      exact J185 _ _ hf _ _ ls (lv_sub hl [1, 2, 3, 4, 5, 6, 0, 8] rfl) hw hS
                  have L98 : ∀ (n : Nat) (v11_38 : Int64) (v13_39 : Int32) (s_40 : St), loopF (f_X12_chance_L98 x3 r_11 v10_17) n (v11_38, v13_39, s_40) = some r98 → ∀ (H : Heap) (locs : List Loc) (ls : Array Slot), lv_has ls 16 [(0, .ref (E.2.2.1 259)), (1, .int x1), (2, .int x2), (3, .int x3), (4, .int x4), (5, .int r_11), (6, .long v6_15), (8, .long v8_16), (10, .int v10_17), (11, .long v11_38), (13, .int v13_39)] → World E sh2 s_40 H → va_S E.2.2.2 s.heap H locs → W p l e (rmd 6) s m args below meth c H locs 0 0 (MQ below (QW E sh2 (some (.int rz)) sz) args s 0 0 E.2.2.2) (F0 m 98 ls []) := by
                    intro n
                    induction n with
                    | zero =>
                      intro v11_38 v13_39 s_40 hf
                      exact nz hf
                    | succ n ih98 =>
                      intro v11_38 v13_39 s_40 hf H locs ls hl hw hS
                      obtain ⟨xl98, hf, hi98, he98⟩ := ok_loop hf
                      unfold f_X12_chance_L98 at hf
                      replace hf := ok_un3 hf
                      refine lv_iload hx hb dX12_chance_98 (lv_at hl 10 rfl) ?_
                      refine lv_aload_n hx hb dX12_chance_100 rfl (lv_at hl 0 rfl) ?_
                      refine gModel_told hC hw wd597 dX12_chance_101 ?_
                      refine lv_iconst (v := 1) hx hb dX12_chance_104 (by decide) ?_
                      obtain ⟨hin, hf⟩ := ok_chk hf
                      refine z_iald hC hw rfl hin dX12_chance_105 ?_
                      have hif := ok_if hf
                      refine lv_icmp_ge (tgt := 154) hx hb dX12_chance_106 (by decide) (fun hcd => ?_) (fun hcd => ?_)
                      · have hf := hif.1 hcd
                        clear hif
                        cases hf
                        exact X98_0 _ _ (he98 _ rfl) _ _ ls (lv_sub hl [0, 1, 2, 3, 4, 5, 6, 7, 8, 9] rfl) hw hS
                      · have hf := hif.2 hcd
                        clear hif
                        refine lv_lload hx hb dX12_chance_109 (lv_at hl 9 rfl) ?_
                        refine lv_iload hx hb dX12_chance_111 (lv_at hl 5 rfl) ?_
                        refine lv_iload hx hb dX12_chance_113 (lv_at hl 10 rfl) ?_
                        obtain ⟨r_51, s_50, hc, hf⟩ := ok_bd hf
                        refine z_cS hC hl.1 hw hS (As := [.int r_11, .int v13_39]) (rest := [.long v11_38]) (m_X12_has l E  hc) gc249 gc250 ⟨Nat.le_of_ble_eq_true rfl, Nat.le_of_ble_eq_true rfl⟩ ⟨Nat.le_of_ble_eq_true rfl, Nat.le_of_ble_eq_true rfl⟩ rfl rfl (Nat.le_of_ble_eq_true rfl) dX12_chance_115 (fun H locs hw hS => ?_)
                        clear hc
                        obtain ⟨j145, ej145, hf⟩ := ok_lt hf
                        have J145 : ∀ (k_52 : Int64) (s_53 : St), j145 k_52 s_53 = some xl98 → ∀ (H : Heap) (locs : List Loc) (ls : Array Slot), lv_has ls 16 [(0, .ref (E.2.2.1 259)), (1, .int x1), (2, .int x2), (3, .int x3), (4, .int x4), (5, .int r_11), (6, .long v6_15), (8, .long v8_16), (10, .int v10_17), (13, .int v13_39)] → World E sh2 s_53 H → va_S E.2.2.2 s.heap H locs → W p l e (rmd 6) s m args below meth c H locs 0 0 (MQ below (QW E sh2 (some (.int rz)) sz) args s 0 0 E.2.2.2) (F0 m 145 ls [.long k_52, .long v11_38]) := by
                          intro k_52 s_53 hf H locs ls hl hw hS
                          subst ej145
                          refine lv_lmul hx hb dX12_chance_145 ?_
                          obtain ⟨v11_54, en, hf⟩ := ok_lt hf
                          refine z_nml en ?_
                          clear en
                          refine lv_lstore (lv' := [(11, .long v11_54), (0, .ref (E.2.2.1 259)), (1, .int x1), (2, .int x2), (3, .int x3), (4, .int x4), (5, .int r_11), (6, .long v6_15), (8, .long v8_16), (10, .int v10_17), (13, .int v13_39)]) hx hb dX12_chance_146 hl (by decide) rfl (fun ls hl => ?_)
                          obtain ⟨v13_55, en, hf⟩ := ok_lt hf
                          refine lv_iinc (v := v13_55) (lv' := [(13, .int v13_55), (11, .long v11_54), (0, .ref (E.2.2.1 259)), (1, .int x1), (2, .int x2), (3, .int x3), (4, .int x4), (5, .int r_11), (6, .long v6_15), (8, .long v8_16), (10, .int v10_17)]) hx hb dX12_chance_148 hl (k := 10) rfl (by rw [en]; rfl) (by decide) rfl (fun ls hl => ?_)
                          clear en
                          refine lv_goto (tgt := 98) hx hb dX12_chance_151 (by decide) ?_
                          cases hf
                          exact ih98 _ _ _ (hi98 _ rfl) _ _ ls (lv_sub hl [2, 3, 4, 5, 6, 7, 8, 9, 10, 1, 0] rfl) hw hS
                        clear ej145
                        have hif := ok_if hf
                        refine lv_if_ne (tgt := 125) hx hb dX12_chance_118 (by decide) (fun hcd => ?_) (fun hcd => ?_)
                        · have hf := hif.1 hcd
                          clear hif
                          refine lv_iload hx hb dX12_chance_125 (lv_at hl 8 rfl) ?_
                          refine lv_iload hx hb dX12_chance_127 (lv_at hl 10 rfl) ?_
                          obtain ⟨r_57, s_56, hc, hf⟩ := ok_bd hf
                          refine z_cS hC hl.1 hw hS (As := [.int v10_17, .int v13_39]) (rest := [.long v11_38]) (m_X12_has l E  hc) gc249 gc250 ⟨Nat.le_of_ble_eq_true rfl, Nat.le_of_ble_eq_true rfl⟩ ⟨Nat.le_of_ble_eq_true rfl, Nat.le_of_ble_eq_true rfl⟩ rfl rfl (Nat.le_of_ble_eq_true rfl) dX12_chance_129 (fun H locs hw hS => ?_)
                          clear hc
                          have hif := ok_if hf
                          refine lv_if_eq (tgt := 140) hx hb dX12_chance_132 (by decide) (fun hcd => ?_) (fun hcd => ?_)
                          · have hf := hif.1 hcd
                            clear hif
                            refine lv_bipush (v := 10) hx hb dX12_chance_140 (by decide) ?_
                            refine lv_iload_n hx hb dX12_chance_142 rfl (lv_at hl 3 rfl) ?_
                            refine lv_isub hx hb dX12_chance_143 ?_
                            refine lv_i2l (v := (((10 : Int32) - x3)).toInt64) hx hb dX12_chance_144 rfl ?_
                            exact J145 _ _ hf _ _ ls (lv_sub hl [0, 1, 2, 3, 4, 5, 6, 7, 8, 10] rfl) hw hS
                          · have hf := hif.2 hcd
                            clear hif
                            refine lv_iload_n hx hb dX12_chance_135 rfl (lv_at hl 3 rfl) ?_
                            refine lv_i2l (v := x3.toInt64) hx hb dX12_chance_136 rfl ?_
                            refine lv_goto (tgt := 145) hx hb dX12_chance_137 (by decide) ?_
                            exact J145 _ _ hf _ _ ls (lv_sub hl [0, 1, 2, 3, 4, 5, 6, 7, 8, 10] rfl) hw hS
                        · have hf := hif.2 (fun q => q hcd)
                          clear hif
                          refine lv_lconst (v := 1) hx hb dX12_chance_121 (by decide) ?_
                          refine lv_goto (tgt := 145) hx hb dX12_chance_122 (by decide) ?_
                          exact J145 _ _ hf _ _ ls (lv_sub hl [0, 1, 2, 3, 4, 5, 6, 7, 8, 10] rfl) hw hS
                  exact L98 5000 _ _ _ hL98 _ _ ls (lv_sub hl [2, 3, 4, 5, 6, 7, 8, 9, 10, 1, 0] rfl) hw hS
          exact L61 5000 _ _ _ _ hL61 _ _ ls (lv_sub hl [4, 5, 6, 7, 8, 3, 2, 1, 0] rfl) hw hS
        · have hf := hif.2 (fun q => q hcd)
          clear hif
          exact J43 _ hf _ _ ls (lv_sub hl [] rfl) hw hS
set_option maxHeartbeats 4000000 in
set_option maxRecDepth 100000 in
theorem m_X12_drawn (l : Launch) (E : Ev) {x1 : Int32} {x2 : Int32} {x3 : Int32}  {s0 sz : St} {rz : Int32} (hf : f_X12_drawn x1 x2 x3 s0 = some (rz, sz)) : MM l E sh2 yX12_drawn cX12_drawn 9 (some .int) (rmd 6) [.ref (E.2.2.1 259), .int x1, .int x2, .int x3] s0 (some (.int rz)) sz := by
  unfold f_X12_drawn at hf
  refine z_enter (by decide +kernel) (Nat.le_of_ble_eq_true rfl) ?_
  intro p e s m args below meth c ls hC hr hlocks hw hS hl
  have hC : Cx p s m args c cX12_drawn 9 "FuseBoxModel" E := hC
  obtain ⟨hx, hb, hml, hown, hts, hTB⟩ := id hC
  have hl : lv_has ls 9 [(0, .ref (E.2.2.1 259)), (1, .int x1), (2, .int x2), (3, .int x3)] := hl
  refine lv_aload_n hx hb dX12_drawn_0 rfl (lv_at hl 0 rfl) ?_
  obtain ⟨r_2, s_1, hc, hf⟩ := ok_bd hf
  refine z_cV hC hl.1 hw hS (As := []) (rest := []) (m_X12_isHouse l E  hc) rfl rfl gc259 gc260 ⟨Nat.le_of_ble_eq_true rfl, Nat.le_of_ble_eq_true rfl⟩ ⟨Nat.le_of_ble_eq_true rfl, Nat.le_of_ble_eq_true rfl⟩ rfl rfl (Nat.le_of_ble_eq_true rfl) dX12_drawn_1 (fun H locs hw hS => ?_)
  clear hc
  have hif := ok_if hf
  refine lv_if_ne (tgt := 10) hx hb dX12_drawn_4 (by decide) (fun hcd => ?_) (fun hcd => ?_)
  · have hf := hif.1 hcd
    clear hif
    refine lv_iload_n hx hb dX12_drawn_10 rfl (lv_at hl 1 rfl) ?_
    refine lv_i2l (v := x1.toInt64) hx hb dX12_drawn_11 rfl ?_
    refine lv_lconst (v := 0) hx hb dX12_drawn_12 (by decide) ?_
    refine lv_ldc2 (v := 60) hx hb hown (hts _ wd674) dX12_drawn_13 ?_
    obtain ⟨r_4, s_3, hc, hf⟩ := ok_bd hf
    refine z_cS hC hl.1 hw hS (As := [.long (x1.toInt64), .long (0 : Int64), .long (60 : Int64)]) (rest := []) (m_X12_in l E  hc) gc219 gc220 ⟨Nat.le_of_ble_eq_true rfl, Nat.le_of_ble_eq_true rfl⟩ ⟨Nat.le_of_ble_eq_true rfl, Nat.le_of_ble_eq_true rfl⟩ rfl rfl (Nat.le_of_ble_eq_true rfl) dX12_drawn_16 (fun H locs hw hS => ?_)
    clear hc
    obtain ⟨j44, ej44, hf⟩ := ok_lt hf
    have J44 : ∀ (s_5 : St), j44 s_5 = some (rz, sz) → ∀ (H : Heap) (locs : List Loc) (ls : Array Slot), lv_has ls 9 [] → World E sh2 s_5 H → va_S E.2.2.2 s.heap H locs → W p l e (rmd 6) s m args below meth c H locs 0 0 (MQ below (QW E sh2 (some (.int rz)) sz) args s 0 0 E.2.2.2) (F0 m 44 ls []) := by
      intro s_5 hf H locs ls hl hw hS
      subst ej44
      refine lv_ldc (v := -1000001) hx hb hown (hts _ wd535) dX12_drawn_44 ?_
      exact z_iretE hC hlocks hw hS hf hr rfl dX12_drawn_46
    clear ej44
    have hif := ok_if hf
    refine lv_if_eq (tgt := 44) hx hb dX12_drawn_19 (by decide) (fun hcd => ?_) (fun hcd => ?_)
    · have hf := hif.1 hcd
      clear hif
      exact J44 _ hf _ _ ls (lv_sub hl [] rfl) hw hS
    · have hf := hif.2 hcd
      clear hif
      refine lv_iload_n hx hb dX12_drawn_22 rfl (lv_at hl 2 rfl) ?_
      refine lv_i2l (v := x2.toInt64) hx hb dX12_drawn_23 rfl ?_
      refine lv_lconst (v := 1) hx hb dX12_drawn_24 (by decide) ?_
      refine lv_ldc2 (v := 999999) hx hb hown (hts _ wd721) dX12_drawn_25 ?_
      obtain ⟨r_7, s_6, hc, hf⟩ := ok_bd hf
      refine z_cS hC hl.1 hw hS (As := [.long (x2.toInt64), .long (1 : Int64), .long (999999 : Int64)]) (rest := []) (m_X12_in l E  hc) gc219 gc220 ⟨Nat.le_of_ble_eq_true rfl, Nat.le_of_ble_eq_true rfl⟩ ⟨Nat.le_of_ble_eq_true rfl, Nat.le_of_ble_eq_true rfl⟩ rfl rfl (Nat.le_of_ble_eq_true rfl) dX12_drawn_28 (fun H locs hw hS => ?_)
      clear hc
      have hif := ok_if hf
      refine lv_if_eq (tgt := 44) hx hb dX12_drawn_31 (by decide) (fun hcd => ?_) (fun hcd => ?_)
      · have hf := hif.1 hcd
        clear hif
        exact J44 _ hf _ _ ls (lv_sub hl [] rfl) hw hS
      · have hf := hif.2 hcd
        clear hif
        refine lv_iload_n hx hb dX12_drawn_34 rfl (lv_at hl 3 rfl) ?_
        refine lv_i2l (v := x3.toInt64) hx hb dX12_drawn_35 rfl ?_
        refine lv_lconst (v := 0) hx hb dX12_drawn_36 (by decide) ?_
        refine lv_lconst (v := 1) hx hb dX12_drawn_37 (by decide) ?_
        obtain ⟨r_9, s_8, hc, hf⟩ := ok_bd hf
        refine z_cS hC hl.1 hw hS (As := [.long (x3.toInt64), .long (0 : Int64), .long (1 : Int64)]) (rest := []) (m_X12_in l E  hc) gc219 gc220 ⟨Nat.le_of_ble_eq_true rfl, Nat.le_of_ble_eq_true rfl⟩ ⟨Nat.le_of_ble_eq_true rfl, Nat.le_of_ble_eq_true rfl⟩ rfl rfl (Nat.le_of_ble_eq_true rfl) dX12_drawn_38 (fun H locs hw hS => ?_)
        clear hc
        have hif := ok_if hf
        refine lv_if_ne (tgt := 47) hx hb dX12_drawn_41 (by decide) (fun hcd => ?_) (fun hcd => ?_)
        · have hf := hif.1 hcd
          clear hif
          refine lv_aload_n hx hb dX12_drawn_47 rfl (lv_at hl 0 rfl) ?_
          refine lv_iconst (v := 0) hx hb dX12_drawn_48 (by decide) ?_
          refine lv_sipush (v := 729) hx hb dX12_drawn_49 (by decide) ?_
          obtain ⟨s_10, hc, hf⟩ := ok_bind hf
          refine z_cV hC hl.1 hw hS (As := [.int (0 : Int32), .int (729 : Int32)]) (rest := []) (m_X12_copies l E  hc) rfl rfl gc257 gc258 ⟨Nat.le_of_ble_eq_true rfl, Nat.le_of_ble_eq_true rfl⟩ ⟨Nat.le_of_ble_eq_true rfl, Nat.le_of_ble_eq_true rfl⟩ rfl rfl (Nat.le_of_ble_eq_true rfl) dX12_drawn_52 (fun H locs hw hS => ?_)
          clear hc
          refine lv_aload_n hx hb dX12_drawn_55 rfl (lv_at hl 0 rfl) ?_
          refine gModel_slot hC hw wd598 dX12_drawn_56 ?_
          refine lv_sipush (v := 754) hx hb dX12_drawn_59 (by decide) ?_
          refine lv_iconst (v := 0) hx hb dX12_drawn_62 (by decide) ?_
          obtain ⟨hin, hf⟩ := ok_chk hf
          obtain ⟨s_11, en, hf⟩ := ok_lt hf
          refine z_iast hC hw hS rfl hin en dX12_drawn_63 (fun H locs hw hS => ?_)
          clear en
          refine lv_iload_n hx hb dX12_drawn_64 rfl (lv_at hl 2 rfl) ?_
          refine lv_i2l (v := x2.toInt64) hx hb dX12_drawn_65 rfl ?_
          obtain ⟨v4_12, en, hf⟩ := ok_lt hf
          refine z_nml en ?_
          clear en
          refine lv_lstore (lv' := [(4, .long v4_12), (0, .ref (E.2.2.1 259)), (1, .int x1), (2, .int x2), (3, .int x3)]) hx hb dX12_drawn_66 hl (by decide) rfl (fun ls hl => ?_)
          refine lv_iconst (v := 0) hx hb dX12_drawn_68 (by decide) ?_
          obtain ⟨v6_13, en, hf⟩ := ok_lt hf
          refine z_nm en ?_
          clear en
          refine lv_istore (lv' := [(6, .int v6_13), (4, .long v4_12), (0, .ref (E.2.2.1 259)), (1, .int x1), (2, .int x2), (3, .int x3)]) hx hb dX12_drawn_69 hl (by decide) rfl (fun ls hl => ?_)
          obtain ⟨r71, hL71, hf⟩ := ok_bind hf
          have X71_0 : ∀ (s_17 : St), s_17 = r71 → ∀ (H : Heap) (locs : List Loc) (ls : Array Slot), lv_has ls 9 [(0, .ref (E.2.2.1 259)), (3, .int x3)] → World E sh2 s_17 H → va_S E.2.2.2 s.heap H locs → W p l e (rmd 6) s m args below meth c H locs 0 0 (MQ below (QW E sh2 (some (.int rz)) sz) args s 0 0 E.2.2.2) (F0 m 214 ls []) := by
            intro s_17 er H locs ls hl hw hS
            subst er
            replace hf := ok_un1 hf
            refine lv_iload_n hx hb dX12_drawn_214 rfl (lv_at hl 1 rfl) ?_
            obtain ⟨j239, ej239, hf⟩ := ok_lt hf
            have J239 : ∀ (k_18 : Int32) (s_19 : St), j239 k_18 s_19 = some (rz, sz) → ∀ (H : Heap) (locs : List Loc) (ls : Array Slot), lv_has ls 9 [] → World E sh2 s_19 H → va_S E.2.2.2 s.heap H locs → W p l e (rmd 6) s m args below meth c H locs 0 0 (MQ below (QW E sh2 (some (.int rz)) sz) args s 0 0 E.2.2.2) (F0 m 239 ls [.int k_18]) := by
              intro k_18 s_19 hf H locs ls hl hw hS
              subst ej239
              exact z_iretE hC hlocks hw hS hf hr rfl dX12_drawn_239
            clear ej239
            have hif := ok_if hf
            refine lv_if_ne (tgt := 229) hx hb dX12_drawn_215 (by decide) (fun hcd => ?_) (fun hcd => ?_)
            · have hf := hif.1 hcd
              clear hif
              refine lv_aload_n hx hb dX12_drawn_229 rfl (lv_at hl 0 rfl) ?_
              refine lv_sipush (v := 729) hx hb dX12_drawn_230 (by decide) ?_
              obtain ⟨r_21, s_20, hc, hf⟩ := ok_bd hf
              refine z_cV hC hl.1 hw hS (As := [.int (729 : Int32)]) (rest := []) (m_X12_liveOnes l E  hc) rfl rfl gc247 gc248 ⟨Nat.le_of_ble_eq_true rfl, Nat.le_of_ble_eq_true rfl⟩ ⟨Nat.le_of_ble_eq_true rfl, Nat.le_of_ble_eq_true rfl⟩ rfl rfl (Nat.le_of_ble_eq_true rfl) dX12_drawn_233 (fun H locs hw hS => ?_)
              clear hc
              obtain ⟨r_23, s_22, hc, hf⟩ := ok_bd hf
              refine z_cS hC hl.1 hw hS (As := [.int r_21]) (rest := []) (m_X12_bits l E  hc) gc279 gc280 ⟨Nat.le_of_ble_eq_true rfl, Nat.le_of_ble_eq_true rfl⟩ ⟨Nat.le_of_ble_eq_true rfl, Nat.le_of_ble_eq_true rfl⟩ rfl rfl (Nat.le_of_ble_eq_true rfl) dX12_drawn_236 (fun H locs hw hS => ?_)
              clear hc
              exact J239 _ _ hf _ _ ls (lv_sub hl [] rfl) hw hS
            · have hf := hif.2 (fun q => q hcd)
              clear hif
              refine lv_aload_n hx hb dX12_drawn_218 rfl (lv_at hl 0 rfl) ?_
              refine gModel_slot hC hw wd598 dX12_drawn_219 ?_
              refine lv_sipush (v := 754) hx hb dX12_drawn_222 (by decide) ?_
              obtain ⟨hin, hf⟩ := ok_chk hf
              refine z_iald hC hw rfl hin dX12_drawn_225 ?_
              refine lv_goto (tgt := 239) hx hb dX12_drawn_226 (by decide) ?_
              exact J239 _ _ hf _ _ ls (lv_sub hl [] rfl) hw hS
          have L71 : ∀ (n : Nat) (v4_14 : Int64) (v6_15 : Int32) (s_16 : St), loopF (f_X12_drawn_L71 x1) n (v4_14, v6_15, s_16) = some r71 → ∀ (H : Heap) (locs : List Loc) (ls : Array Slot), lv_has ls 9 [(0, .ref (E.2.2.1 259)), (1, .int x1), (3, .int x3), (4, .long v4_14), (6, .int v6_15)] → World E sh2 s_16 H → va_S E.2.2.2 s.heap H locs → W p l e (rmd 6) s m args below meth c H locs 0 0 (MQ below (QW E sh2 (some (.int rz)) sz) args s 0 0 E.2.2.2) (F0 m 71 ls []) := by
            intro n
            induction n with
            | zero =>
              intro v4_14 v6_15 s_16 hf
              exact nz hf
            | succ n ih71 =>
              intro v4_14 v6_15 s_16 hf H locs ls hl hw hS
              obtain ⟨xl71, hf, hi71, he71⟩ := ok_loop hf
              unfold f_X12_drawn_L71 at hf
              replace hf := ok_un3 hf
              refine lv_iload hx hb dX12_drawn_71 (lv_at hl 4 rfl) ?_
              refine lv_iload_n hx hb dX12_drawn_73 rfl (lv_at hl 1 rfl) ?_
              have hif := ok_if hf
              refine lv_icmp_ge (tgt := 214) hx hb dX12_drawn_74 (by decide) (fun hcd => ?_) (fun hcd => ?_)
              · have hf := hif.1 hcd
                clear hif
                cases hf
                exact X71_0 _ (he71 _ rfl) _ _ ls (lv_sub hl [0, 2] rfl) hw hS
              · have hf := hif.2 hcd
                clear hif
                refine lv_lload hx hb dX12_drawn_77 (lv_at hl 3 rfl) ?_
                refine lv_ldc2 (v := 16807) hx hb hown (hts _ wd722) dX12_drawn_79 ?_
                refine lv_lmul hx hb dX12_drawn_82 ?_
                refine lv_ldc2 (v := 2147483647) hx hb hown (hts _ wd723) dX12_drawn_83 ?_
                refine lv_lrem hx hb dX12_drawn_86 (by decide) ?_
                obtain ⟨v4_24, en, hf⟩ := ok_lt hf
                refine z_nml en ?_
                clear en
                refine lv_lstore (lv' := [(4, .long v4_24), (0, .ref (E.2.2.1 259)), (1, .int x1), (3, .int x3), (6, .int v6_15)]) hx hb dX12_drawn_87 hl (by decide) rfl (fun ls hl => ?_)
                refine lv_lload hx hb dX12_drawn_89 (lv_at hl 0 rfl) ?_
                refine lv_aload_n hx hb dX12_drawn_91 rfl (lv_at hl 1 rfl) ?_
                refine gModel_told hC hw wd597 dX12_drawn_92 ?_
                refine lv_iconst (v := 1) hx hb dX12_drawn_95 (by decide) ?_
                obtain ⟨hin, hf⟩ := ok_chk hf
                refine z_iald hC hw rfl hin dX12_drawn_96 ?_
                refine lv_i2l (v := ((s_16 261 ((1 : Int32)).toNatClampNeg)).toInt64) hx hb dX12_drawn_97 rfl ?_
                obtain ⟨hnz, hf⟩ := ok_chk hf
                refine lv_lrem hx hb dX12_drawn_98 hnz ?_
                refine lv_l2i (v := ((v4_24 - v4_24 / (((s_16 261 ((1 : Int32)).toNatClampNeg)).toInt64) * (((s_16 261 ((1 : Int32)).toNatClampNeg)).toInt64))).toInt32) hx hb dX12_drawn_99 rfl ?_
                obtain ⟨v7_25, en, hf⟩ := ok_lt hf
                refine z_nm en ?_
                clear en
                refine lv_istore (lv' := [(7, .int v7_25), (4, .long v4_24), (0, .ref (E.2.2.1 259)), (1, .int x1), (3, .int x3), (6, .int v6_15)]) hx hb dX12_drawn_100 hl (by decide) rfl (fun ls hl => ?_)
                refine lv_lload hx hb dX12_drawn_102 (lv_at hl 1 rfl) ?_
                refine lv_ldc2 (v := 3) hx hb hown (hts _ wd673) dX12_drawn_104 ?_
                refine lv_lrem hx hb dX12_drawn_107 (by decide) ?_
                refine lv_lconst (v := 0) hx hb dX12_drawn_108 (by decide) ?_
                refine W.lcmp hx hb dX12_drawn_109 ?_
                obtain ⟨j203, ej203, hf⟩ := ok_lt hf
                have J203 : ∀ (s_26 : St), j203 s_26 = some xl71 → ∀ (H : Heap) (locs : List Loc) (ls : Array Slot), lv_has ls 9 [(0, .ref (E.2.2.1 259)), (1, .int x1), (3, .int x3), (4, .long v4_24), (6, .int v6_15)] → World E sh2 s_26 H → va_S E.2.2.2 s.heap H locs → W p l e (rmd 6) s m args below meth c H locs 0 0 (MQ below (QW E sh2 (some (.int rz)) sz) args s 0 0 E.2.2.2) (F0 m 203 ls []) := by
                  intro s_26 hf H locs ls hl hw hS
                  subst ej203
                  refine lv_aload_n hx hb dX12_drawn_203 rfl (lv_at hl 0 rfl) ?_
                  refine lv_iconst (v := 1) hx hb dX12_drawn_204 (by decide) ?_
                  obtain ⟨s_27, hc, hf⟩ := ok_bind hf
                  refine z_cV hC hl.1 hw hS (As := [.int (1 : Int32)]) (rest := []) (m_X12_goesOn l E  hc) rfl rfl gc275 gc276 ⟨Nat.le_of_ble_eq_true rfl, Nat.le_of_ble_eq_true rfl⟩ ⟨Nat.le_of_ble_eq_true rfl, Nat.le_of_ble_eq_true rfl⟩ rfl rfl (Nat.le_of_ble_eq_true rfl) dX12_drawn_205 (fun H locs hw hS => ?_)
                  clear hc
                  obtain ⟨v6_28, en, hf⟩ := ok_lt hf
                  refine lv_iinc (v := v6_28) (lv' := [(6, .int v6_28), (0, .ref (E.2.2.1 259)), (1, .int x1), (3, .int x3), (4, .long v4_24)]) hx hb dX12_drawn_208 hl (k := 4) rfl (by rw [en]; rfl) (by decide) rfl (fun ls hl => ?_)
                  clear en
                  refine lv_goto (tgt := 71) hx hb dX12_drawn_211 (by decide) ?_
                  cases hf
                  exact ih71 _ _ _ (hi71 _ rfl) _ _ ls (lv_sub hl [1, 2, 3, 4, 0] rfl) hw hS
                clear ej203
                have hif := ok_if hf
                refine lv_if_ne (tgt := 140) hx hb dX12_drawn_110 (by decide) (fun hcd => ?_) (fun hcd => ?_)
                · have hf := hif.1 hcd
                  clear hif
                  refine lv_lload hx hb dX12_drawn_140 (lv_at hl 1 rfl) ?_
                  refine lv_ldc2 (v := 5) hx hb hown (hts _ wd672) dX12_drawn_142 ?_
                  refine lv_lrem hx hb dX12_drawn_145 (by decide) ?_
                  refine lv_lconst (v := 0) hx hb dX12_drawn_146 (by decide) ?_
                  refine W.lcmp hx hb dX12_drawn_147 ?_
                  have hif := ok_if hf
                  refine lv_if_ne (tgt := 203) hx hb dX12_drawn_148 (by decide) (fun hcd => ?_) (fun hcd => ?_)
                  · have hf := hif.1 hcd
                    clear hif
                    exact J203 _ hf _ _ ls (lv_sub hl [2, 3, 4, 1, 5] rfl) hw hS
                  · have hf := hif.2 (fun q => q hcd)
                    clear hif
                    refine lv_iconst (v := 0) hx hb dX12_drawn_151 (by decide) ?_
                    obtain ⟨v8_29, en, hf⟩ := ok_lt hf
                    refine z_nm en ?_
                    clear en
                    refine lv_istore (lv' := [(8, .int v8_29), (7, .int v7_25), (4, .long v4_24), (0, .ref (E.2.2.1 259)), (1, .int x1), (3, .int x3), (6, .int v6_15)]) hx hb dX12_drawn_152 hl (by decide) rfl (fun ls hl => ?_)
                    obtain ⟨r154, hL154, hf⟩ := ok_bind hf
                    have X154_0 : ∀ (s_32 : St), s_32 = r154 → ∀ (H : Heap) (locs : List Loc) (ls : Array Slot), lv_has ls 9 [(0, .ref (E.2.2.1 259)), (1, .int x1), (3, .int x3), (4, .long v4_24), (6, .int v6_15)] → World E sh2 s_32 H → va_S E.2.2.2 s.heap H locs → W p l e (rmd 6) s m args below meth c H locs 0 0 (MQ below (QW E sh2 (some (.int rz)) sz) args s 0 0 E.2.2.2) (F0 m 194 ls []) := by
                      intro s_32 er H locs ls hl hw hS
                      subst er
                      replace hf := ok_un1 hf
                      refine lv_aload_n hx hb dX12_drawn_194 rfl (lv_at hl 0 rfl) ?_
                      refine gModel_slot hC hw wd598 dX12_drawn_195 ?_
                      refine lv_sipush (v := 753) hx hb dX12_drawn_198 (by decide) ?_
                      refine lv_iconst (v := 0) hx hb dX12_drawn_201 (by decide) ?_
                      obtain ⟨hin, hf⟩ := ok_chk hf
                      obtain ⟨s_33, en, hf⟩ := ok_lt hf
                      refine z_iast hC hw hS rfl hin en dX12_drawn_202 (fun H locs hw hS => ?_)
                      clear en
                      exact J203 _ hf _ _ ls hl hw hS
                    have L154 : ∀ (n : Nat) (v8_30 : Int32) (s_31 : St), loopF f_X12_drawn_L154 n (v8_30, s_31) = some r154 → ∀ (H : Heap) (locs : List Loc) (ls : Array Slot), lv_has ls 9 [(0, .ref (E.2.2.1 259)), (1, .int x1), (3, .int x3), (4, .long v4_24), (6, .int v6_15), (8, .int v8_30)] → World E sh2 s_31 H → va_S E.2.2.2 s.heap H locs → W p l e (rmd 6) s m args below meth c H locs 0 0 (MQ below (QW E sh2 (some (.int rz)) sz) args s 0 0 E.2.2.2) (F0 m 154 ls []) := by
                      intro n
                      induction n with
                      | zero =>
                        intro v8_30 s_31 hf
                        exact nz hf
                      | succ n ih154 =>
                        intro v8_30 s_31 hf H locs ls hl hw hS
                        obtain ⟨xl154, hf, hi154, he154⟩ := ok_loop hf
                        unfold f_X12_drawn_L154 at hf
                        replace hf := ok_un2 hf
                        refine lv_iload hx hb dX12_drawn_154 (lv_at hl 5 rfl) ?_
                        refine lv_aload_n hx hb dX12_drawn_156 rfl (lv_at hl 0 rfl) ?_
                        refine gModel_told hC hw wd597 dX12_drawn_157 ?_
                        refine lv_iconst (v := 0) hx hb dX12_drawn_160 (by decide) ?_
                        obtain ⟨hin, hf⟩ := ok_chk hf
                        refine z_iald hC hw rfl hin dX12_drawn_161 ?_
                        have hif := ok_if hf
                        refine lv_icmp_ge (tgt := 194) hx hb dX12_drawn_162 (by decide) (fun hcd => ?_) (fun hcd => ?_)
                        · have hf := hif.1 hcd
                          clear hif
                          cases hf
                          exact X154_0 _ (he154 _ rfl) _ _ ls (lv_sub hl [0, 1, 2, 3, 4] rfl) hw hS
                        · have hf := hif.2 hcd
                          clear hif
                          refine lv_aload_n hx hb dX12_drawn_165 rfl (lv_at hl 0 rfl) ?_
                          refine gModel_slot hC hw wd598 dX12_drawn_166 ?_
                          refine lv_sipush (v := 733) hx hb dX12_drawn_169 (by decide) ?_
                          refine lv_iload hx hb dX12_drawn_172 (lv_at hl 5 rfl) ?_
                          refine lv_iadd hx hb dX12_drawn_174 ?_
                          obtain ⟨hin, hf⟩ := ok_chk hf
                          refine z_iald hC hw rfl hin dX12_drawn_175 ?_
                          obtain ⟨j188, ej188, hf⟩ := ok_lt hf
                          have J188 : ∀ (s_34 : St), j188 s_34 = some xl154 → ∀ (H : Heap) (locs : List Loc) (ls : Array Slot), lv_has ls 9 [(0, .ref (E.2.2.1 259)), (1, .int x1), (3, .int x3), (4, .long v4_24), (6, .int v6_15), (8, .int v8_30)] → World E sh2 s_34 H → va_S E.2.2.2 s.heap H locs → W p l e (rmd 6) s m args below meth c H locs 0 0 (MQ below (QW E sh2 (some (.int rz)) sz) args s 0 0 E.2.2.2) (F0 m 188 ls []) := by
                            intro s_34 hf H locs ls hl hw hS
                            subst ej188
                            obtain ⟨v8_35, en, hf⟩ := ok_lt hf
                            refine lv_iinc (v := v8_35) (lv' := [(8, .int v8_35), (0, .ref (E.2.2.1 259)), (1, .int x1), (3, .int x3), (4, .long v4_24), (6, .int v6_15)]) hx hb dX12_drawn_188 hl (k := 5) rfl (by rw [en]; rfl) (by decide) rfl (fun ls hl => ?_)
                            clear en
                            refine lv_goto (tgt := 154) hx hb dX12_drawn_191 (by decide) ?_
                            cases hf
                            exact ih154 _ _ (hi154 _ rfl) _ _ ls (lv_sub hl [1, 2, 3, 4, 5, 0] rfl) hw hS
                          clear ej188
                          have hif := ok_if hf
                          refine lv_if_le (tgt := 188) hx hb dX12_drawn_176 (by decide) (fun hcd => ?_) (fun hcd => ?_)
                          · have hf := hif.1 hcd
                            clear hif
                            exact J188 _ hf _ _ ls hl hw hS
                          · have hf := hif.2 hcd
                            clear hif
                            refine lv_aload_n hx hb dX12_drawn_179 rfl (lv_at hl 0 rfl) ?_
                            refine lv_sipush (v := 729) hx hb dX12_drawn_180 (by decide) ?_
                            refine lv_iload hx hb dX12_drawn_183 (lv_at hl 5 rfl) ?_
                            obtain ⟨s_36, hc, hf⟩ := ok_bind hf
                            refine z_cV hC hl.1 hw hS (As := [.int (729 : Int32), .int v8_30]) (rest := []) (m_X12_mends l E  hc) rfl rfl gc271 gc272 ⟨Nat.le_of_ble_eq_true rfl, Nat.le_of_ble_eq_true rfl⟩ ⟨Nat.le_of_ble_eq_true rfl, Nat.le_of_ble_eq_true rfl⟩ rfl rfl (Nat.le_of_ble_eq_true rfl) dX12_drawn_185 (fun H locs hw hS => ?_)
                            clear hc
                            exact J188 _ hf _ _ ls hl hw hS
                    exact L154 5000 _ _ hL154 _ _ ls (lv_sub hl [3, 4, 5, 2, 6, 0] rfl) hw hS
                · have hf := hif.2 (fun q => q hcd)
                  clear hif
                  refine lv_aload_n hx hb dX12_drawn_113 rfl (lv_at hl 2 rfl) ?_
                  refine gModel_slot hC hw wd598 dX12_drawn_114 ?_
                  refine lv_sipush (v := 747) hx hb dX12_drawn_117 (by decide) ?_
                  refine lv_iload hx hb dX12_drawn_120 (lv_at hl 0 rfl) ?_
                  refine lv_iadd hx hb dX12_drawn_122 ?_
                  refine lv_iconst (v := 1) hx hb dX12_drawn_123 (by decide) ?_
                  refine lv_aload_n hx hb dX12_drawn_124 rfl (lv_at hl 2 rfl) ?_
                  refine gModel_slot hC hw wd598 dX12_drawn_125 ?_
                  refine lv_sipush (v := 747) hx hb dX12_drawn_128 (by decide) ?_
                  refine lv_iload hx hb dX12_drawn_131 (lv_at hl 0 rfl) ?_
                  refine lv_iadd hx hb dX12_drawn_133 ?_
                  obtain ⟨hin, hf⟩ := ok_chk hf
                  refine z_iald hC hw rfl hin dX12_drawn_134 ?_
                  refine lv_isub hx hb dX12_drawn_135 ?_
                  obtain ⟨hin, hf⟩ := ok_chk hf
                  obtain ⟨s_37, en, hf⟩ := ok_lt hf
                  refine z_iast hC hw hS rfl hin en dX12_drawn_136 (fun H locs hw hS => ?_)
                  clear en
                  refine lv_goto (tgt := 203) hx hb dX12_drawn_137 (by decide) ?_
                  exact J203 _ hf _ _ ls (lv_sub hl [2, 3, 4, 1, 5] rfl) hw hS
          exact L71 5000 _ _ _ hL71 _ _ ls (lv_sub hl [2, 3, 5, 1, 0] rfl) hw hS
        · have hf := hif.2 (fun q => q hcd)
          clear hif
          exact J44 _ hf _ _ ls (lv_sub hl [] rfl) hw hS
  · have hf := hif.2 (fun q => q hcd)
    clear hif
    refine lv_ldc (v := -1000002) hx hb hown (hts _ wd650) dX12_drawn_7 ?_
    exact z_iretE hC hlocks hw hS hf hr rfl dX12_drawn_9
