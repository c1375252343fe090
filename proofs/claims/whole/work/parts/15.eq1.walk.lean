set_option maxHeartbeats 4000000 in
set_option maxRecDepth 100000 in
theorem m_X12_running (l : Launch) (E : Ev) {x1 : Int32}  {s0 sz : St} {rz : Int32} (hf : f_X12_running x1 s0 = some (rz, sz)) : MM l E sh2 yX12_running cX12_running 4 (some .int) (rmd 3) [.ref (E.2.2.1 259), .int x1] s0 (some (.int rz)) sz := by
  unfold f_X12_running at hf
  refine z_enter (by decide +kernel) (Nat.le_of_ble_eq_true rfl) ?_
  intro p e s m args below meth c ls hC hr hlocks hw hS hl
  have hC : Cx p s m args c cX12_running 4 "FuseBoxModel" E := hC
  obtain ⟨hx, hb, hml, hown, hts, hTB⟩ := id hC
  have hl : lv_has ls 4 [(0, .ref (E.2.2.1 259)), (1, .int x1)] := hl
  refine lv_iconst (v := 0) hx hb dX12_running_0 (by decide) ?_
  obtain ⟨v2_1, en, hf⟩ := ok_lt hf
  refine z_nm en ?_
  clear en
  refine lv_istore_n (lv' := [(2, .int v2_1), (0, .ref (E.2.2.1 259)), (1, .int x1)]) hx hb dX12_running_1 rfl hl (by decide) rfl (fun ls hl => ?_)
  refine lv_iconst (v := 0) hx hb dX12_running_2 (by decide) ?_
  obtain ⟨v3_2, en, hf⟩ := ok_lt hf
  refine z_nm en ?_
  clear en
  refine lv_istore_n (lv' := [(3, .int v3_2), (2, .int v2_1), (0, .ref (E.2.2.1 259)), (1, .int x1)]) hx hb dX12_running_3 rfl hl (by decide) rfl (fun ls hl => ?_)
  obtain ⟨r4, hL4, hf⟩ := ok_bind hf
  have X4_0 : ∀ (v2_6 : Int32) (s_7 : St), (v2_6, s_7) = r4 → ∀ (H : Heap) (locs : List Loc) (ls : Array Slot), lv_has ls 4 [(2, .int v2_6)] → World E sh2 s_7 H → va_S E.2.2.2 s.heap H locs → W p l e (rmd 3) s m args below meth c H locs 0 0 (MQ below (QW E sh2 (some (.int rz)) sz) args s 0 0 E.2.2.2) (F0 m 39 ls []) := by
    intro v2_6 s_7 er H locs ls hl hw hS
    subst er
    replace hf := ok_un2 hf
    refine lv_iload_n hx hb dX12_running_39 rfl (lv_at hl 0 rfl) ?_
    exact z_iretE hC hlocks hw hS hf hr rfl dX12_running_40
  have L4 : ∀ (n : Nat) (v2_3 : Int32) (v3_4 : Int32) (s_5 : St), loopF (f_X12_running_L4 x1) n (v2_3, v3_4, s_5) = some r4 → ∀ (H : Heap) (locs : List Loc) (ls : Array Slot), lv_has ls 4 [(0, .ref (E.2.2.1 259)), (1, .int x1), (2, .int v2_3), (3, .int v3_4)] → World E sh2 s_5 H → va_S E.2.2.2 s.heap H locs → W p l e (rmd 3) s m args below meth c H locs 0 0 (MQ below (QW E sh2 (some (.int rz)) sz) args s 0 0 E.2.2.2) (F0 m 4 ls []) := by
    intro n
    induction n with
    | zero =>
      intro v2_3 v3_4 s_5 hf
      exact nz hf
    | succ n ih4 =>
      intro v2_3 v3_4 s_5 hf H locs ls hl hw hS
      obtain ⟨xl4, hf, hi4, he4⟩ := ok_loop hf
      unfold f_X12_running_L4 at hf
      replace hf := ok_un3 hf
      refine lv_iload_n hx hb dX12_running_4 rfl (lv_at hl 3 rfl) ?_
      refine lv_aload_n hx hb dX12_running_5 rfl (lv_at hl 0 rfl) ?_
      refine gModel_told hC hw wd597 dX12_running_6 ?_
      refine lv_iconst (v := 1) hx hb dX12_running_9 (by decide) ?_
      obtain ⟨hin, hf⟩ := ok_chk hf
      refine z_iald hC hw rfl hin dX12_running_10 ?_
      have hif := ok_if hf
      refine lv_icmp_ge (tgt := 39) hx hb dX12_running_11 (by decide) (fun hcd => ?_) (fun hcd => ?_)
      · have hf := hif.1 hcd
        clear hif
        cases hf
        exact X4_0 _ _ (he4 _ rfl) _ _ ls (lv_sub hl [2] rfl) hw hS
      · have hf := hif.2 hcd
        clear hif
        refine lv_iload_n hx hb dX12_running_14 rfl (lv_at hl 2 rfl) ?_
        refine lv_aload_n hx hb dX12_running_15 rfl (lv_at hl 0 rfl) ?_
        refine lv_iload_n hx hb dX12_running_16 rfl (lv_at hl 1 rfl) ?_
        refine lv_iload_n hx hb dX12_running_17 rfl (lv_at hl 3 rfl) ?_
        obtain ⟨r_9, s_8, hc, hf⟩ := ok_bd hf
        refine z_cV hC hl.1 hw hS (As := [.int x1, .int v3_4]) (rest := [.int v2_3]) (m_X12_runs l E  hc) rfl rfl gc243 gc244 ⟨Nat.le_of_ble_eq_true rfl, Nat.le_of_ble_eq_true rfl⟩ ⟨Nat.le_of_ble_eq_true rfl, Nat.le_of_ble_eq_true rfl⟩ rfl rfl (Nat.le_of_ble_eq_true rfl) dX12_running_18 (fun H locs hw hS => ?_)
        clear hc
        obtain ⟨j31, ej31, hf⟩ := ok_lt hf
        have J31 : ∀ (k_10 : Int32) (s_11 : St), j31 k_10 s_11 = some xl4 → ∀ (H : Heap) (locs : List Loc) (ls : Array Slot), lv_has ls 4 [(0, .ref (E.2.2.1 259)), (1, .int x1), (3, .int v3_4)] → World E sh2 s_11 H → va_S E.2.2.2 s.heap H locs → W p l e (rmd 3) s m args below meth c H locs 0 0 (MQ below (QW E sh2 (some (.int rz)) sz) args s 0 0 E.2.2.2) (F0 m 31 ls [.int k_10, .int v2_3]) := by
          intro k_10 s_11 hf H locs ls hl hw hS
          subst ej31
          refine lv_ior hx hb dX12_running_31 ?_
          obtain ⟨v2_12, en, hf⟩ := ok_lt hf
          refine z_nm en ?_
          clear en
          refine lv_istore_n (lv' := [(2, .int v2_12), (0, .ref (E.2.2.1 259)), (1, .int x1), (3, .int v3_4)]) hx hb dX12_running_32 rfl hl (by decide) rfl (fun ls hl => ?_)
          obtain ⟨v3_13, en, hf⟩ := ok_lt hf
          refine lv_iinc (v := v3_13) (lv' := [(3, .int v3_13), (2, .int v2_12), (0, .ref (E.2.2.1 259)), (1, .int x1)]) hx hb dX12_running_33 hl (k := 3) rfl (by rw [en]; rfl) (by decide) rfl (fun ls hl => ?_)
          clear en
          refine lv_goto (tgt := 4) hx hb dX12_running_36 (by decide) ?_
          cases hf
          exact ih4 _ _ _ (hi4 _ rfl) _ _ ls (lv_sub hl [2, 3, 1, 0] rfl) hw hS
        clear ej31
        have hif := ok_if hf
        refine lv_if_eq (tgt := 30) hx hb dX12_running_21 (by decide) (fun hcd => ?_) (fun hcd => ?_)
        · have hf := hif.1 hcd
          clear hif
          refine lv_iconst (v := 0) hx hb dX12_running_30 (by decide) ?_
          exact J31 _ _ hf _ _ ls (lv_sub hl [0, 1, 3] rfl) hw hS
        · have hf := hif.2 hcd
          clear hif
          refine lv_iconst (v := 1) hx hb dX12_running_24 (by decide) ?_
          refine lv_iload_n hx hb dX12_running_25 rfl (lv_at hl 3 rfl) ?_
          refine lv_ishl hx hb dX12_running_26 ?_
          refine lv_goto (tgt := 31) hx hb dX12_running_27 (by decide) ?_
          exact J31 _ _ hf _ _ ls (lv_sub hl [0, 1, 3] rfl) hw hS
  exact L4 5000 _ _ _ hL4 _ _ ls (lv_sub hl [2, 3, 1, 0] rfl) hw hS
set_option maxHeartbeats 4000000 in
set_option maxRecDepth 100000 in
theorem m_X12_deadOnes (l : Launch) (E : Ev)   {s0 sz : St} {rz : Int32} (hf : f_X12_deadOnes s0 = some (rz, sz)) : MM l E sh2 yX12_deadOnes cX12_deadOnes 3 (some .int) (rmd 1) [.ref (E.2.2.1 259)] s0 (some (.int rz)) sz := by
  unfold f_X12_deadOnes at hf
  refine z_enter (by decide +kernel) (Nat.le_of_ble_eq_true rfl) ?_
  intro p e s m args below meth c ls hC hr hlocks hw hS hl
  have hC : Cx p s m args c cX12_deadOnes 3 "FuseBoxModel" E := hC
  obtain ⟨hx, hb, hml, hown, hts, hTB⟩ := id hC
  have hl : lv_has ls 3 [(0, .ref (E.2.2.1 259))] := hl
  refine lv_iconst (v := 0) hx hb dX12_deadOnes_0 (by decide) ?_
  obtain ⟨v1_1, en, hf⟩ := ok_lt hf
  refine z_nm en ?_
  clear en
  refine lv_istore_n (lv' := [(1, .int v1_1), (0, .ref (E.2.2.1 259))]) hx hb dX12_deadOnes_1 rfl hl (by decide) rfl (fun ls hl => ?_)
  refine lv_iconst (v := 0) hx hb dX12_deadOnes_2 (by decide) ?_
  obtain ⟨v2_2, en, hf⟩ := ok_lt hf
  refine z_nm en ?_
  clear en
  refine lv_istore_n (lv' := [(2, .int v2_2), (1, .int v1_1), (0, .ref (E.2.2.1 259))]) hx hb dX12_deadOnes_3 rfl hl (by decide) rfl (fun ls hl => ?_)
  obtain ⟨r4, hL4, hf⟩ := ok_bind hf
  have X4_0 : ∀ (v1_6 : Int32) (s_7 : St), (v1_6, s_7) = r4 → ∀ (H : Heap) (locs : List Loc) (ls : Array Slot), lv_has ls 3 [(1, .int v1_6)] → World E sh2 s_7 H → va_S E.2.2.2 s.heap H locs → W p l e (rmd 1) s m args below meth c H locs 0 0 (MQ below (QW E sh2 (some (.int rz)) sz) args s 0 0 E.2.2.2) (F0 m 41 ls []) := by
    intro v1_6 s_7 er H locs ls hl hw hS
    subst er
    replace hf := ok_un2 hf
    refine lv_iload_n hx hb dX12_deadOnes_41 rfl (lv_at hl 0 rfl) ?_
    exact z_iretE hC hlocks hw hS hf hr rfl dX12_deadOnes_42
  have L4 : ∀ (n : Nat) (v1_3 : Int32) (v2_4 : Int32) (s_5 : St), loopF f_X12_deadOnes_L4 n (v1_3, v2_4, s_5) = some r4 → ∀ (H : Heap) (locs : List Loc) (ls : Array Slot), lv_has ls 3 [(0, .ref (E.2.2.1 259)), (1, .int v1_3), (2, .int v2_4)] → World E sh2 s_5 H → va_S E.2.2.2 s.heap H locs → W p l e (rmd 1) s m args below meth c H locs 0 0 (MQ below (QW E sh2 (some (.int rz)) sz) args s 0 0 E.2.2.2) (F0 m 4 ls []) := by
    intro n
    induction n with
    | zero =>
      intro v1_3 v2_4 s_5 hf
      exact nz hf
    | succ n ih4 =>
      intro v1_3 v2_4 s_5 hf H locs ls hl hw hS
      obtain ⟨xl4, hf, hi4, he4⟩ := ok_loop hf
      unfold f_X12_deadOnes_L4 at hf
      replace hf := ok_un3 hf
      refine lv_iload_n hx hb dX12_deadOnes_4 rfl (lv_at hl 2 rfl) ?_
      refine lv_aload_n hx hb dX12_deadOnes_5 rfl (lv_at hl 0 rfl) ?_
      refine gModel_told hC hw wd597 dX12_deadOnes_6 ?_
      refine lv_iconst (v := 0) hx hb dX12_deadOnes_9 (by decide) ?_
      obtain ⟨hin, hf⟩ := ok_chk hf
      refine z_iald hC hw rfl hin dX12_deadOnes_10 ?_
      have hif := ok_if hf
      refine lv_icmp_ge (tgt := 41) hx hb dX12_deadOnes_11 (by decide) (fun hcd => ?_) (fun hcd => ?_)
      · have hf := hif.1 hcd
        clear hif
        cases hf
        exact X4_0 _ _ (he4 _ rfl) _ _ ls (lv_sub hl [1] rfl) hw hS
      · have hf := hif.2 hcd
        clear hif
        refine lv_iload_n hx hb dX12_deadOnes_14 rfl (lv_at hl 1 rfl) ?_
        refine lv_aload_n hx hb dX12_deadOnes_15 rfl (lv_at hl 0 rfl) ?_
        refine gModel_slot hC hw wd598 dX12_deadOnes_16 ?_
        refine lv_iconst (v := 4) hx hb dX12_deadOnes_19 (by decide) ?_
        refine lv_iload_n hx hb dX12_deadOnes_20 rfl (lv_at hl 2 rfl) ?_
        refine lv_iadd hx hb dX12_deadOnes_21 ?_
        obtain ⟨hin, hf⟩ := ok_chk hf
        refine z_iald hC hw rfl hin dX12_deadOnes_22 ?_
        obtain ⟨j33, ej33, hf⟩ := ok_lt hf
        have J33 : ∀ (k_8 : Int32) (s_9 : St), j33 k_8 s_9 = some xl4 → ∀ (H : Heap) (locs : List Loc) (ls : Array Slot), lv_has ls 3 [(0, .ref (E.2.2.1 259)), (2, .int v2_4)] → World E sh2 s_9 H → va_S E.2.2.2 s.heap H locs → W p l e (rmd 1) s m args below meth c H locs 0 0 (MQ below (QW E sh2 (some (.int rz)) sz) args s 0 0 E.2.2.2) (F0 m 33 ls [.int k_8, .int v1_3]) := by
          intro k_8 s_9 hf H locs ls hl hw hS
          subst ej33
          refine lv_ior hx hb dX12_deadOnes_33 ?_
          obtain ⟨v1_10, en, hf⟩ := ok_lt hf
          refine z_nm en ?_
          clear en
          refine lv_istore_n (lv' := [(1, .int v1_10), (0, .ref (E.2.2.1 259)), (2, .int v2_4)]) hx hb dX12_deadOnes_34 rfl hl (by decide) rfl (fun ls hl => ?_)
          obtain ⟨v2_11, en, hf⟩ := ok_lt hf
          refine lv_iinc (v := v2_11) (lv' := [(2, .int v2_11), (1, .int v1_10), (0, .ref (E.2.2.1 259))]) hx hb dX12_deadOnes_35 hl (k := 2) rfl (by rw [en]; rfl) (by decide) rfl (fun ls hl => ?_)
          clear en
          refine lv_goto (tgt := 4) hx hb dX12_deadOnes_38 (by decide) ?_
          cases hf
          exact ih4 _ _ _ (hi4 _ rfl) _ _ ls (lv_sub hl [2, 1, 0] rfl) hw hS
        clear ej33
        have hif := ok_if hf
        refine lv_if_le (tgt := 32) hx hb dX12_deadOnes_23 (by decide) (fun hcd => ?_) (fun hcd => ?_)
        · have hf := hif.1 hcd
          clear hif
          refine lv_iconst (v := 0) hx hb dX12_deadOnes_32 (by decide) ?_
          exact J33 _ _ hf _ _ ls (lv_sub hl [0, 2] rfl) hw hS
        · have hf := hif.2 hcd
          clear hif
          refine lv_iconst (v := 1) hx hb dX12_deadOnes_26 (by decide) ?_
          refine lv_iload_n hx hb dX12_deadOnes_27 rfl (lv_at hl 2 rfl) ?_
          refine lv_ishl hx hb dX12_deadOnes_28 ?_
          refine lv_goto (tgt := 33) hx hb dX12_deadOnes_29 (by decide) ?_
          exact J33 _ _ hf _ _ ls (lv_sub hl [0, 2] rfl) hw hS
  exact L4 5000 _ _ _ hL4 _ _ ls (lv_sub hl [2, 1, 0] rfl) hw hS
set_option maxHeartbeats 4000000 in
set_option maxRecDepth 100000 in
theorem m_X12_heats (l : Launch) (E : Ev) {x1 : Int32} {x2 : Int32} {x3 : Int32}  {s0 sz : St} (hf : f_X12_heats x1 x2 x3 s0 = some sz) : MM l E sh2 yX12_heats cX12_heats 9 none (rmd 1) [.ref (E.2.2.1 259), .int x1, .int x2, .int x3] s0 none sz := by
  unfold f_X12_heats at hf
  refine z_enter (by decide +kernel) (Nat.le_of_ble_eq_true rfl) ?_
  intro p e s m args below meth c ls hC hr hlocks hw hS hl
  have hC : Cx p s m args c cX12_heats 9 "FuseBoxModel" E := hC
  obtain ⟨hx, hb, hml, hown, hts, hTB⟩ := id hC
  have hl : lv_has ls 9 [(0, .ref (E.2.2.1 259)), (1, .int x1), (2, .int x2), (3, .int x3)] := hl
  refine lv_aload_n hx hb dX12_heats_0 rfl (lv_at hl 0 rfl) ?_
  refine gModel_told hC hw wd597 dX12_heats_1 ?_
  refine lv_iconst (v := 3) hx hb dX12_heats_4 (by decide) ?_
  refine lv_iload_n hx hb dX12_heats_5 rfl (lv_at hl 2 rfl) ?_
  refine lv_iadd hx hb dX12_heats_6 ?_
  obtain ⟨hin, hf⟩ := ok_chk hf
  refine z_iald hC hw rfl hin dX12_heats_7 ?_
  obtain ⟨v4_1, en, hf⟩ := ok_lt hf
  refine z_nm en ?_
  clear en
  refine lv_istore (lv' := [(4, .int v4_1), (0, .ref (E.2.2.1 259)), (1, .int x1), (2, .int x2), (3, .int x3)]) hx hb dX12_heats_8 hl (by decide) rfl (fun ls hl => ?_)
  refine lv_iload_n hx hb dX12_heats_10 rfl (lv_at hl 4 rfl) ?_
  refine lv_aload_n hx hb dX12_heats_11 rfl (lv_at hl 1 rfl) ?_
  refine gModel_slot hC hw wd598 dX12_heats_12 ?_
  refine lv_iload_n hx hb dX12_heats_15 rfl (lv_at hl 2 rfl) ?_
  refine lv_bipush (v := 8) hx hb dX12_heats_16 (by decide) ?_
  refine lv_iadd hx hb dX12_heats_18 ?_
  refine lv_iload_n hx hb dX12_heats_19 rfl (lv_at hl 3 rfl) ?_
  refine lv_iadd hx hb dX12_heats_20 ?_
  obtain ⟨hin, hf⟩ := ok_chk hf
  refine z_iald hC hw rfl hin dX12_heats_21 ?_
  refine lv_isub hx hb dX12_heats_22 ?_
  obtain ⟨v5_2, en, hf⟩ := ok_lt hf
  refine z_nm en ?_
  clear en
  refine lv_istore (lv' := [(5, .int v5_2), (4, .int v4_1), (0, .ref (E.2.2.1 259)), (1, .int x1), (2, .int x2), (3, .int x3)]) hx hb dX12_heats_23 hl (by decide) rfl (fun ls hl => ?_)
  refine lv_iload hx hb dX12_heats_25 (lv_at hl 1 rfl) ?_
  refine lv_iconst (v := 3) hx hb dX12_heats_27 (by decide) ?_
  have hif := ok_if hf
  refine lv_icmp_le (tgt := 62) hx hb dX12_heats_28 (by decide) (fun hcd => ?_) (fun hcd => ?_)
  · have hf := hif.1 hcd
    clear hif
    refine lv_iload hx hb dX12_heats_62 (lv_at hl 0 rfl) ?_
    obtain ⟨j86, ej86, hf⟩ := ok_lt hf
    have J86 : ∀ (k_3 : Int32) (s_4 : St), j86 k_3 s_4 = some sz → ∀ (H : Heap) (locs : List Loc) (ls : Array Slot), lv_has ls 9 [(0, .ref (E.2.2.1 259)), (1, .int x1), (2, .int x2), (3, .int x3), (4, .int v4_1)] → World E sh2 s_4 H → va_S E.2.2.2 s.heap H locs → W p l e (rmd 1) s m args below meth c H locs 0 0 (MQ below (QW E sh2 none sz) args s 0 0 E.2.2.2) (F0 m 86 ls [.int k_3]) := by
      intro k_3 s_4 hf H locs ls hl hw hS
      subst ej86
      refine lv_istore (lv' := [(6, .int k_3), (0, .ref (E.2.2.1 259)), (1, .int x1), (2, .int x2), (3, .int x3), (4, .int v4_1)]) hx hb dX12_heats_86 hl (by decide) rfl (fun ls hl => ?_)
      refine lv_aload_n hx hb dX12_heats_88 rfl (lv_at hl 1 rfl) ?_
      refine gModel_slot hC hw wd598 dX12_heats_89 ?_
      refine lv_iload_n hx hb dX12_heats_92 rfl (lv_at hl 2 rfl) ?_
      refine lv_iload_n hx hb dX12_heats_93 rfl (lv_at hl 3 rfl) ?_
      refine lv_iadd hx hb dX12_heats_94 ?_
      obtain ⟨hin, hf⟩ := ok_chk hf
      refine z_iald hC hw rfl hin dX12_heats_95 ?_
      refine lv_iload hx hb dX12_heats_96 (lv_at hl 0 rfl) ?_
      refine lv_iadd hx hb dX12_heats_98 ?_
      obtain ⟨v7_5, en, hf⟩ := ok_lt hf
      refine z_nm en ?_
      clear en
      refine lv_istore (lv' := [(7, .int v7_5), (6, .int k_3), (0, .ref (E.2.2.1 259)), (1, .int x1), (2, .int x2), (3, .int x3), (4, .int v4_1)]) hx hb dX12_heats_99 hl (by decide) rfl (fun ls hl => ?_)
      refine lv_iload hx hb dX12_heats_101 (lv_at hl 0 rfl) ?_
      obtain ⟨j124, ej124, hf⟩ := ok_lt hf
      have J124 : ∀ (k_6 : Int32) (s_7 : St), j124 k_6 s_7 = some sz → ∀ (H : Heap) (locs : List Loc) (ls : Array Slot), lv_has ls 9 [(0, .ref (E.2.2.1 259)), (1, .int x1), (2, .int x2), (3, .int x3), (4, .int v4_1)] → World E sh2 s_7 H → va_S E.2.2.2 s.heap H locs → W p l e (rmd 1) s m args below meth c H locs 0 0 (MQ below (QW E sh2 none sz) args s 0 0 E.2.2.2) (F0 m 124 ls [.int k_6]) := by
        intro k_6 s_7 hf H locs ls hl hw hS
        subst ej124
        refine lv_istore (lv' := [(7, .int k_6), (0, .ref (E.2.2.1 259)), (1, .int x1), (2, .int x2), (3, .int x3), (4, .int v4_1)]) hx hb dX12_heats_124 hl (by decide) rfl (fun ls hl => ?_)
        refine lv_aload_n hx hb dX12_heats_126 rfl (lv_at hl 1 rfl) ?_
        refine gModel_slot hC hw wd598 dX12_heats_127 ?_
        refine lv_iload_n hx hb dX12_heats_130 rfl (lv_at hl 2 rfl) ?_
        refine lv_iload_n hx hb dX12_heats_131 rfl (lv_at hl 3 rfl) ?_
        refine lv_iadd hx hb dX12_heats_132 ?_
        refine lv_iload hx hb dX12_heats_133 (lv_at hl 0 rfl) ?_
        obtain ⟨hin, hf⟩ := ok_chk hf
        obtain ⟨s_8, en, hf⟩ := ok_lt hf
        refine z_iast hC hw hS rfl hin en dX12_heats_135 (fun H locs hw hS => ?_)
        clear en
        refine lv_iload hx hb dX12_heats_136 (lv_at hl 0 rfl) ?_
        refine lv_bipush (v := 10) hx hb dX12_heats_138 (by decide) ?_
        obtain ⟨j171, ej171, hf⟩ := ok_lt hf
        have J171 : ∀ (k_9 : Int32) (s_10 : St), j171 k_9 s_10 = some sz → ∀ (H : Heap) (locs : List Loc) (ls : Array Slot), lv_has ls 9 [(0, .ref (E.2.2.1 259)), (1, .int x1), (2, .int x2)] → World E sh2 s_10 H → va_S E.2.2.2 s.heap H locs → W p l e (rmd 1) s m args below meth c H locs 0 0 (MQ below (QW E sh2 none sz) args s 0 0 E.2.2.2) (F0 m 171 ls [.int k_9]) := by
          intro k_9 s_10 hf H locs ls hl hw hS
          subst ej171
          refine lv_istore (lv' := [(8, .int k_9), (0, .ref (E.2.2.1 259)), (1, .int x1), (2, .int x2)]) hx hb dX12_heats_171 hl (by decide) rfl (fun ls hl => ?_)
          refine lv_aload_n hx hb dX12_heats_173 rfl (lv_at hl 1 rfl) ?_
          refine gModel_slot hC hw wd598 dX12_heats_174 ?_
          refine lv_iload_n hx hb dX12_heats_177 rfl (lv_at hl 2 rfl) ?_
          refine lv_iconst (v := 4) hx hb dX12_heats_178 (by decide) ?_
          refine lv_iadd hx hb dX12_heats_179 ?_
          refine lv_iload_n hx hb dX12_heats_180 rfl (lv_at hl 3 rfl) ?_
          refine lv_iadd hx hb dX12_heats_181 ?_
          refine lv_iload hx hb dX12_heats_182 (lv_at hl 0 rfl) ?_
          obtain ⟨j192, ej192, hf⟩ := ok_lt hf
          have J192 : ∀ (k_11 : Int32) (s_12 : St), j192 k_11 s_12 = some sz → ∀ (H : Heap) (locs : List Loc) (ls : Array Slot), lv_has ls 9 [] → World E sh2 s_12 H → va_S E.2.2.2 s.heap H locs → W p l e (rmd 1) s m args below meth c H locs 0 0 (MQ below (QW E sh2 none sz) args s 0 0 E.2.2.2) (F0 m 192 ls [.int k_11, .int ((x1 + (4 : Int32)) + x2), .ref (E.2.2.1 260)]) := by
            intro k_11 s_12 hf H locs ls hl hw hS
            subst ej192
            obtain ⟨hin, hf⟩ := ok_chk hf
            obtain ⟨s_13, en, hf⟩ := ok_lt hf
            refine z_iast hC hw hS rfl hin en dX12_heats_192 (fun H locs hw hS => ?_)
            clear en
            exact z_vretE hC hlocks hw hS hf hr dX12_heats_193
          clear ej192
          have hif := ok_if hf
          refine lv_if_eq (tgt := 191) hx hb dX12_heats_184 (by decide) (fun hcd => ?_) (fun hcd => ?_)
          · have hf := hif.1 hcd
            clear hif
            refine lv_iconst (v := 0) hx hb dX12_heats_191 (by decide) ?_
            exact J192 _ _ hf _ _ ls (lv_sub hl [] rfl) hw hS
          · have hf := hif.2 hcd
            clear hif
            refine lv_iconst (v := 1) hx hb dX12_heats_187 (by decide) ?_
            refine lv_goto (tgt := 192) hx hb dX12_heats_188 (by decide) ?_
            exact J192 _ _ hf _ _ ls (lv_sub hl [] rfl) hw hS
        clear ej171
        obtain ⟨j166, ej166, hf⟩ := ok_lt hf
        have J166 : ∀ (s_14 : St), j166 s_14 = some sz → ∀ (H : Heap) (locs : List Loc) (ls : Array Slot), lv_has ls 9 [(0, .ref (E.2.2.1 259)), (1, .int x1), (2, .int x2)] → World E sh2 s_14 H → va_S E.2.2.2 s.heap H locs → W p l e (rmd 1) s m args below meth c H locs 0 0 (MQ below (QW E sh2 none sz) args s 0 0 E.2.2.2) (F0 m 166 ls []) := by
          intro s_14 hf H locs ls hl hw hS
          subst ej166
          refine lv_iconst (v := 1) hx hb dX12_heats_166 (by decide) ?_
          refine lv_goto (tgt := 171) hx hb dX12_heats_167 (by decide) ?_
          exact J171 _ _ hf _ _ ls hl hw hS
        clear ej166
        have hif := ok_if hf
        refine lv_icmp_ge (tgt := 166) hx hb dX12_heats_140 (by decide) (fun hcd => ?_) (fun hcd => ?_)
        · have hf := hif.1 hcd
          clear hif
          exact J166 _ hf _ _ ls (lv_sub hl [1, 2, 3] rfl) hw hS
        · have hf := hif.2 hcd
          clear hif
          refine lv_iload hx hb dX12_heats_143 (lv_at hl 5 rfl) ?_
          refine lv_iconst (v := 3) hx hb dX12_heats_145 (by decide) ?_
          obtain ⟨j170, ej170, hf⟩ := ok_lt hf
          have J170 : ∀ (s_15 : St), j170 s_15 = some sz → ∀ (H : Heap) (locs : List Loc) (ls : Array Slot), lv_has ls 9 [(0, .ref (E.2.2.1 259)), (1, .int x1), (2, .int x2)] → World E sh2 s_15 H → va_S E.2.2.2 s.heap H locs → W p l e (rmd 1) s m args below meth c H locs 0 0 (MQ below (QW E sh2 none sz) args s 0 0 E.2.2.2) (F0 m 170 ls []) := by
            intro s_15 hf H locs ls hl hw hS
            subst ej170
            refine lv_iconst (v := 0) hx hb dX12_heats_170 (by decide) ?_
            exact J171 _ _ hf _ _ ls hl hw hS
          clear ej170
          have hif := ok_if hf
          refine lv_icmp_ne (tgt := 170) hx hb dX12_heats_146 (by decide) (fun hcd => ?_) (fun hcd => ?_)
          · have hf := hif.1 hcd
            clear hif
            exact J170 _ hf _ _ ls (lv_sub hl [1, 2, 3] rfl) hw hS
          · have hf := hif.2 (fun q => q hcd)
            clear hif
            refine lv_iload_n hx hb dX12_heats_149 rfl (lv_at hl 4 rfl) ?_
            refine lv_iconst (v := 2) hx hb dX12_heats_150 (by decide) ?_
            refine lv_aload_n hx hb dX12_heats_151 rfl (lv_at hl 1 rfl) ?_
            refine gModel_slot hC hw wd598 dX12_heats_152 ?_
            refine lv_iload_n hx hb dX12_heats_155 rfl (lv_at hl 2 rfl) ?_
            refine lv_bipush (v := 8) hx hb dX12_heats_156 (by decide) ?_
            refine lv_iadd hx hb dX12_heats_158 ?_
            refine lv_iload_n hx hb dX12_heats_159 rfl (lv_at hl 3 rfl) ?_
            refine lv_iadd hx hb dX12_heats_160 ?_
            obtain ⟨hin, hf⟩ := ok_chk hf
            refine z_iald hC hw rfl hin dX12_heats_161 ?_
            refine lv_imul hx hb dX12_heats_162 ?_
            have hif := ok_if hf
            refine lv_icmp_lt (tgt := 170) hx hb dX12_heats_163 (by decide) (fun hcd => ?_) (fun hcd => ?_)
            · have hf := hif.1 hcd
              clear hif
              exact J170 _ hf _ _ ls (lv_sub hl [1, 2, 3] rfl) hw hS
            · have hf := hif.2 hcd
              clear hif
              exact J166 _ hf _ _ ls (lv_sub hl [1, 2, 3] rfl) hw hS
      clear ej124
      have hif := ok_if hf
      refine lv_if_ge (tgt := 110) hx hb dX12_heats_103 (by decide) (fun hcd => ?_) (fun hcd => ?_)
      · have hf := hif.1 hcd
        clear hif
        refine lv_iload hx hb dX12_heats_110 (lv_at hl 0 rfl) ?_
        refine lv_bipush (v := 99) hx hb dX12_heats_112 (by decide) ?_
        have hif := ok_if hf
        refine lv_icmp_le (tgt := 122) hx hb dX12_heats_114 (by decide) (fun hcd => ?_) (fun hcd => ?_)
        · have hf := hif.1 hcd
          clear hif
          refine lv_iload hx hb dX12_heats_122 (lv_at hl 0 rfl) ?_
          exact J124 _ _ hf _ _ ls (lv_sub hl [2, 3, 4, 5, 6] rfl) hw hS
        · have hf := hif.2 hcd
          clear hif
          refine lv_bipush (v := 99) hx hb dX12_heats_117 (by decide) ?_
          refine lv_goto (tgt := 124) hx hb dX12_heats_119 (by decide) ?_
          exact J124 _ _ hf _ _ ls (lv_sub hl [2, 3, 4, 5, 6] rfl) hw hS
      · have hf := hif.2 hcd
        clear hif
        refine lv_iconst (v := 0) hx hb dX12_heats_106 (by decide) ?_
        refine lv_goto (tgt := 124) hx hb dX12_heats_107 (by decide) ?_
        exact J124 _ _ hf _ _ ls (lv_sub hl [2, 3, 4, 5, 6] rfl) hw hS
    clear ej86
    have hif := ok_if hf
    refine lv_if_gt (tgt := 71) hx hb dX12_heats_64 (by decide) (fun hcd => ?_) (fun hcd => ?_)
    · have hf := hif.1 hcd
      clear hif
      refine lv_iload hx hb dX12_heats_71 (lv_at hl 1 rfl) ?_
      refine lv_iconst (v := 2) hx hb dX12_heats_73 (by decide) ?_
      have hif := ok_if hf
      refine lv_icmp_ne (tgt := 84) hx hb dX12_heats_74 (by decide) (fun hcd => ?_) (fun hcd => ?_)
      · have hf := hif.1 hcd
        clear hif
        refine lv_iload hx hb dX12_heats_84 (lv_at hl 0 rfl) ?_
        exact J86 _ _ hf _ _ ls (lv_sub hl [2, 3, 4, 5, 1] rfl) hw hS
      · have hf := hif.2 (fun q => q hcd)
        clear hif
        refine lv_iload hx hb dX12_heats_77 (lv_at hl 0 rfl) ?_
        refine lv_iconst (v := 2) hx hb dX12_heats_79 (by decide) ?_
        refine lv_idiv hx hb dX12_heats_80 (by decide) ?_
        refine lv_goto (tgt := 86) hx hb dX12_heats_81 (by decide) ?_
        exact J86 _ _ hf _ _ ls (lv_sub hl [2, 3, 4, 5, 1] rfl) hw hS
    · have hf := hif.2 hcd
      clear hif
      refine lv_iconst (v := -1) hx hb dX12_heats_67 (by decide) ?_
      refine lv_goto (tgt := 86) hx hb dX12_heats_68 (by decide) ?_
      exact J86 _ _ hf _ _ ls (lv_sub hl [2, 3, 4, 5, 1] rfl) hw hS
  · have hf := hif.2 hcd
    clear hif
    refine lv_aload_n hx hb dX12_heats_31 rfl (lv_at hl 2 rfl) ?_
    refine gModel_slot hC hw wd598 dX12_heats_32 ?_
    refine lv_iload_n hx hb dX12_heats_35 rfl (lv_at hl 3 rfl) ?_
    refine lv_iconst (v := 4) hx hb dX12_heats_36 (by decide) ?_
    refine lv_iadd hx hb dX12_heats_37 ?_
    refine lv_iload_n hx hb dX12_heats_38 rfl (lv_at hl 4 rfl) ?_
    refine lv_iadd hx hb dX12_heats_39 ?_
    refine lv_iload hx hb dX12_heats_40 (lv_at hl 0 rfl) ?_
    obtain ⟨j60, ej60, hf⟩ := ok_lt hf
    have J60 : ∀ (k_16 : Int32) (s_17 : St), j60 k_16 s_17 = some sz → ∀ (H : Heap) (locs : List Loc) (ls : Array Slot), lv_has ls 9 [] → World E sh2 s_17 H → va_S E.2.2.2 s.heap H locs → W p l e (rmd 1) s m args below meth c H locs 0 0 (MQ below (QW E sh2 none sz) args s 0 0 E.2.2.2) (F0 m 60 ls [.int k_16, .int ((x1 + (4 : Int32)) + x2), .ref (E.2.2.1 260)]) := by
      intro k_16 s_17 hf H locs ls hl hw hS
      subst ej60
      obtain ⟨hin, hf⟩ := ok_chk hf
      obtain ⟨s_18, en, hf⟩ := ok_lt hf
      refine z_iast hC hw hS rfl hin en dX12_heats_60 (fun H locs hw hS => ?_)
      clear en
      exact z_vretE hC hlocks hw hS hf hr dX12_heats_61
    clear ej60
    have hif := ok_if hf
    refine lv_if_gt (tgt := 49) hx hb dX12_heats_42 (by decide) (fun hcd => ?_) (fun hcd => ?_)
    · have hf := hif.1 hcd
      clear hif
      refine lv_iload hx hb dX12_heats_49 (lv_at hl 1 rfl) ?_
      refine lv_iconst (v := 5) hx hb dX12_heats_51 (by decide) ?_
      have hif := ok_if hf
      refine lv_icmp_ne (tgt := 59) hx hb dX12_heats_52 (by decide) (fun hcd => ?_) (fun hcd => ?_)
      · have hf := hif.1 hcd
        clear hif
        refine lv_iconst (v := 1) hx hb dX12_heats_59 (by decide) ?_
        exact J60 _ _ hf _ _ ls (lv_sub hl [] rfl) hw hS
      · have hf := hif.2 (fun q => q hcd)
        clear hif
        refine lv_iconst (v := 3) hx hb dX12_heats_55 (by decide) ?_
        refine lv_goto (tgt := 60) hx hb dX12_heats_56 (by decide) ?_
        exact J60 _ _ hf _ _ ls (lv_sub hl [] rfl) hw hS
    · have hf := hif.2 hcd
      clear hif
      refine lv_iconst (v := 0) hx hb dX12_heats_45 (by decide) ?_
      refine lv_goto (tgt := 60) hx hb dX12_heats_46 (by decide) ?_
      exact J60 _ _ hf _ _ ls (lv_sub hl [] rfl) hw hS
set_option maxHeartbeats 4000000 in
set_option maxRecDepth 100000 in
theorem m_X12_cools (l : Launch) (E : Ev) {x1 : Int32} {x2 : Int32}  {s0 sz : St} (hf : f_X12_cools x1 x2 s0 = some sz) : MM l E sh2 yX12_cools cX12_cools 3 none (rmd 2) [.ref (E.2.2.1 259), .int x1, .int x2] s0 none sz := by
  unfold f_X12_cools at hf
  refine z_enter (by decide +kernel) (Nat.le_of_ble_eq_true rfl) ?_
  intro p e s m args below meth c ls hC hr hlocks hw hS hl
  have hC : Cx p s m args c cX12_cools 3 "FuseBoxModel" E := hC
  obtain ⟨hx, hb, hml, hown, hts, hTB⟩ := id hC
  have hl : lv_has ls 3 [(0, .ref (E.2.2.1 259)), (1, .int x1), (2, .int x2)] := hl
  refine lv_aload_n hx hb dX12_cools_0 rfl (lv_at hl 0 rfl) ?_
  refine gModel_slot hC hw wd598 dX12_cools_1 ?_
  refine lv_iload_n hx hb dX12_cools_4 rfl (lv_at hl 1 rfl) ?_
  refine lv_iload_n hx hb dX12_cools_5 rfl (lv_at hl 2 rfl) ?_
  refine lv_iadd hx hb dX12_cools_6 ?_
  refine lv_iconst (v := 0) hx hb dX12_cools_7 (by decide) ?_
  refine lv_aload_n hx hb dX12_cools_8 rfl (lv_at hl 0 rfl) ?_
  refine gModel_slot hC hw wd598 dX12_cools_9 ?_
  refine lv_iload_n hx hb dX12_cools_12 rfl (lv_at hl 1 rfl) ?_
  refine lv_iload_n hx hb dX12_cools_13 rfl (lv_at hl 2 rfl) ?_
  refine lv_iadd hx hb dX12_cools_14 ?_
  obtain ⟨hin, hf⟩ := ok_chk hf
  refine z_iald hC hw rfl hin dX12_cools_15 ?_
  refine lv_iconst (v := 1) hx hb dX12_cools_16 (by decide) ?_
  refine lv_isub hx hb dX12_cools_17 ?_
  obtain ⟨r_2, s_1, hc, hf⟩ := ok_bd hf
  refine z_cS hC hl.1 hw hS (As := [.int (0 : Int32), .int ((s0 260 ((x1 + x2)).toNatClampNeg) - (1 : Int32))]) (rest := [.int (x1 + x2), .ref (E.2.2.1 260)]) (m_X12_larger l E  hc) gc245 gc246 ⟨Nat.le_of_ble_eq_true rfl, Nat.le_of_ble_eq_true rfl⟩ ⟨Nat.le_of_ble_eq_true rfl, Nat.le_of_ble_eq_true rfl⟩ rfl rfl (Nat.le_of_ble_eq_true rfl) dX12_cools_18 (fun H locs hw hS => ?_)
  clear hc
  obtain ⟨hin, hf⟩ := ok_chk hf
  obtain ⟨s_3, en, hf⟩ := ok_lt hf
  refine z_iast hC hw hS rfl hin en dX12_cools_21 (fun H locs hw hS => ?_)
  clear en
  refine lv_aload_n hx hb dX12_cools_22 rfl (lv_at hl 0 rfl) ?_
  refine gModel_told hC hw wd597 dX12_cools_23 ?_
  refine lv_iconst (v := 3) hx hb dX12_cools_26 (by decide) ?_
  refine lv_iload_n hx hb dX12_cools_27 rfl (lv_at hl 2 rfl) ?_
  refine lv_iadd hx hb dX12_cools_28 ?_
  obtain ⟨hin, hf⟩ := ok_chk hf
  refine z_iald hC hw rfl hin dX12_cools_29 ?_
  refine lv_iconst (v := 5) hx hb dX12_cools_30 (by decide) ?_
  obtain ⟨j61, ej61, hf⟩ := ok_lt hf
  have J61 : ∀ (s_4 : St), j61 s_4 = some sz → ∀ (H : Heap) (locs : List Loc) (ls : Array Slot), lv_has ls 3 [] → World E sh2 s_4 H → va_S E.2.2.2 s.heap H locs → W p l e (rmd 2) s m args below meth c H locs 0 0 (MQ below (QW E sh2 none sz) args s 0 0 E.2.2.2) (F0 m 61 ls []) := by
    intro s_4 hf H locs ls hl hw hS
    subst ej61
    exact z_vretE hC hlocks hw hS hf hr dX12_cools_61
  clear ej61
  have hif := ok_if hf
  refine lv_icmp_ne (tgt := 61) hx hb dX12_cools_31 (by decide) (fun hcd => ?_) (fun hcd => ?_)
  · have hf := hif.1 hcd
    clear hif
    exact J61 _ hf _ _ ls (lv_sub hl [] rfl) hw hS
  · have hf := hif.2 (fun q => q hcd)
    clear hif
    refine lv_aload_n hx hb dX12_cools_34 rfl (lv_at hl 0 rfl) ?_
    refine gModel_slot hC hw wd598 dX12_cools_35 ?_
    refine lv_iload_n hx hb dX12_cools_38 rfl (lv_at hl 1 rfl) ?_
    refine lv_iconst (v := 4) hx hb dX12_cools_39 (by decide) ?_
    refine lv_iadd hx hb dX12_cools_40 ?_
    refine lv_iload_n hx hb dX12_cools_41 rfl (lv_at hl 2 rfl) ?_
    refine lv_iadd hx hb dX12_cools_42 ?_
    obtain ⟨hin, hf⟩ := ok_chk hf
    refine z_iald hC hw rfl hin dX12_cools_43 ?_
    have hif := ok_if hf
    refine lv_if_le (tgt := 61) hx hb dX12_cools_44 (by decide) (fun hcd => ?_) (fun hcd => ?_)
    · have hf := hif.1 hcd
      clear hif
      exact J61 _ hf _ _ ls (lv_sub hl [] rfl) hw hS
    · have hf := hif.2 hcd
      clear hif
      refine lv_aload_n hx hb dX12_cools_47 rfl (lv_at hl 0 rfl) ?_
      refine gModel_slot hC hw wd598 dX12_cools_48 ?_
      refine lv_iload_n hx hb dX12_cools_51 rfl (lv_at hl 1 rfl) ?_
      refine lv_iconst (v := 4) hx hb dX12_cools_52 (by decide) ?_
      refine lv_iadd hx hb dX12_cools_53 ?_
      refine lv_iload_n hx hb dX12_cools_54 rfl (lv_at hl 2 rfl) ?_
      refine lv_iadd hx hb dX12_cools_55 ?_
      refine lv_dup2_11 hx hb dX12_cools_56 rfl rfl ?_
      obtain ⟨hin, hf⟩ := ok_chk hf
      refine z_iald hC hw rfl hin dX12_cools_57 ?_
      refine lv_iconst (v := 1) hx hb dX12_cools_58 (by decide) ?_
      refine lv_isub hx hb dX12_cools_59 ?_
      obtain ⟨hin, hf⟩ := ok_chk hf
      obtain ⟨s_5, en, hf⟩ := ok_lt hf
      refine z_iast hC hw hS rfl hin en dX12_cools_60 (fun H locs hw hS => ?_)
      clear en
      exact J61 _ hf _ _ ls (lv_sub hl [] rfl) hw hS
set_option maxHeartbeats 4000000 in
set_option maxRecDepth 100000 in
theorem m_X12_passes (l : Launch) (E : Ev) {x1 : Int32}  {s0 sz : St} (hf : f_X12_passes x1 s0 = some sz) : MM l E sh2 yX12_passes cX12_passes 5 none (rmd 4) [.ref (E.2.2.1 259), .int x1] s0 none sz := by
  unfold f_X12_passes at hf
  refine z_enter (by decide +kernel) (Nat.le_of_ble_eq_true rfl) ?_
  intro p e s m args below meth c ls hC hr hlocks hw hS hl
  have hC : Cx p s m args c cX12_passes 5 "FuseBoxModel" E := hC
  obtain ⟨hx, hb, hml, hown, hts, hTB⟩ := id hC
  have hl : lv_has ls 5 [(0, .ref (E.2.2.1 259)), (1, .int x1)] := hl
  refine lv_aload_n hx hb dX12_passes_0 rfl (lv_at hl 0 rfl) ?_
  refine lv_iload_n hx hb dX12_passes_1 rfl (lv_at hl 1 rfl) ?_
  obtain ⟨r_2, s_1, hc, hf⟩ := ok_bd hf
  refine z_cV hC hl.1 hw hS (As := [.int x1]) (rest := []) (m_X12_liveOnes l E  hc) rfl rfl gc247 gc248 ⟨Nat.le_of_ble_eq_true rfl, Nat.le_of_ble_eq_true rfl⟩ ⟨Nat.le_of_ble_eq_true rfl, Nat.le_of_ble_eq_true rfl⟩ rfl rfl (Nat.le_of_ble_eq_true rfl) dX12_passes_2 (fun H locs hw hS => ?_)
  clear hc
  refine lv_istore_n (lv' := [(2, .int r_2), (0, .ref (E.2.2.1 259)), (1, .int x1)]) hx hb dX12_passes_5 rfl hl (by decide) rfl (fun ls hl => ?_)
  refine lv_iconst (v := 0) hx hb dX12_passes_6 (by decide) ?_
  obtain ⟨v3_3, en, hf⟩ := ok_lt hf
  refine z_nm en ?_
  clear en
  refine lv_istore_n (lv' := [(3, .int v3_3), (2, .int r_2), (0, .ref (E.2.2.1 259)), (1, .int x1)]) hx hb dX12_passes_7 rfl hl (by decide) rfl (fun ls hl => ?_)
  refine lv_iconst (v := 0) hx hb dX12_passes_8 (by decide) ?_
  obtain ⟨v4_4, en, hf⟩ := ok_lt hf
  refine z_nm en ?_
  clear en
  refine lv_istore (lv' := [(4, .int v4_4), (3, .int v3_3), (2, .int r_2), (0, .ref (E.2.2.1 259)), (1, .int x1)]) hx hb dX12_passes_9 hl (by decide) rfl (fun ls hl => ?_)
  obtain ⟨r11, hL11, hf⟩ := ok_bind hf
  have X11_0 : ∀ (v3_8 : Int32) (s_9 : St), (v3_8, s_9) = r11 → ∀ (H : Heap) (locs : List Loc) (ls : Array Slot), lv_has ls 5 [(0, .ref (E.2.2.1 259)), (1, .int x1), (2, .int r_2), (3, .int v3_8)] → World E sh2 s_9 H → va_S E.2.2.2 s.heap H locs → W p l e (rmd 4) s m args below meth c H locs 0 0 (MQ below (QW E sh2 none sz) args s 0 0 E.2.2.2) (F0 m 52 ls []) := by
    intro v3_8 s_9 er H locs ls hl hw hS
    subst er
    replace hf := ok_un2 hf
    refine lv_iconst (v := 0) hx hb dX12_passes_52 (by decide) ?_
    obtain ⟨v4_10, en, hf⟩ := ok_lt hf
    refine z_nm en ?_
    clear en
    refine lv_istore (lv' := [(4, .int v4_10), (0, .ref (E.2.2.1 259)), (1, .int x1), (2, .int r_2), (3, .int v3_8)]) hx hb dX12_passes_53 hl (by decide) rfl (fun ls hl => ?_)
    obtain ⟨r55, hL55, hf⟩ := ok_bind hf
    have X55_0 : ∀ (s_13 : St), s_13 = r55 → ∀ (H : Heap) (locs : List Loc) (ls : Array Slot), lv_has ls 5 [(0, .ref (E.2.2.1 259)), (1, .int x1), (3, .int v3_8)] → World E sh2 s_13 H → va_S E.2.2.2 s.heap H locs → W p l e (rmd 4) s m args below meth c H locs 0 0 (MQ below (QW E sh2 none sz) args s 0 0 E.2.2.2) (F0 m 105 ls []) := by
      intro s_13 er H locs ls hl hw hS
      subst er
      replace hf := ok_un1 hf
      refine lv_aload_n hx hb dX12_passes_105 rfl (lv_at hl 0 rfl) ?_
      refine gModel_slot hC hw wd598 dX12_passes_106 ?_
      refine lv_iload_n hx hb dX12_passes_109 rfl (lv_at hl 1 rfl) ?_
      refine lv_bipush (v := 24) hx hb dX12_passes_110 (by decide) ?_
      refine lv_iadd hx hb dX12_passes_112 ?_
      refine lv_iload_n hx hb dX12_passes_113 rfl (lv_at hl 2 rfl) ?_
      refine lv_aload_n hx hb dX12_passes_114 rfl (lv_at hl 0 rfl) ?_
      refine gModel_told hC hw wd597 dX12_passes_115 ?_
      refine lv_iconst (v := 2) hx hb dX12_passes_118 (by decide) ?_
      obtain ⟨hin, hf⟩ := ok_chk hf
      refine z_iald hC hw rfl hin dX12_passes_119 ?_
      obtain ⟨j136, ej136, hf⟩ := ok_lt hf
      have J136 : ∀ (k_14 : Int32) (s_15 : St), j136 k_14 s_15 = some sz → ∀ (H : Heap) (locs : List Loc) (ls : Array Slot), lv_has ls 5 [(0, .ref (E.2.2.1 259)), (1, .int x1), (3, .int v3_8)] → World E sh2 s_15 H → va_S E.2.2.2 s.heap H locs → W p l e (rmd 4) s m args below meth c H locs 0 0 (MQ below (QW E sh2 none sz) args s 0 0 E.2.2.2) (F0 m 136 ls [.int k_14, .int (x1 + (24 : Int32)), .ref (E.2.2.1 260)]) := by
        intro k_14 s_15 hf H locs ls hl hw hS
        subst ej136
        obtain ⟨hin, hf⟩ := ok_chk hf
        obtain ⟨s_16, en, hf⟩ := ok_lt hf
        refine z_iast hC hw hS rfl hin en dX12_passes_136 (fun H locs hw hS => ?_)
        clear en
        refine lv_aload_n hx hb dX12_passes_137 rfl (lv_at hl 0 rfl) ?_
        refine gModel_slot hC hw wd598 dX12_passes_138 ?_
        refine lv_iload_n hx hb dX12_passes_141 rfl (lv_at hl 1 rfl) ?_
        refine lv_bipush (v := 25) hx hb dX12_passes_142 (by decide) ?_
        refine lv_iadd hx hb dX12_passes_144 ?_
        refine lv_aload_n hx hb dX12_passes_145 rfl (lv_at hl 0 rfl) ?_
        refine gModel_slot hC hw wd598 dX12_passes_146 ?_
        refine lv_iload_n hx hb dX12_passes_149 rfl (lv_at hl 1 rfl) ?_
        refine lv_bipush (v := 25) hx hb dX12_passes_150 (by decide) ?_
        refine lv_iadd hx hb dX12_passes_152 ?_
        obtain ⟨hin, hf⟩ := ok_chk hf
        refine z_iald hC hw rfl hin dX12_passes_153 ?_
        refine lv_iload_n hx hb dX12_passes_154 rfl (lv_at hl 2 rfl) ?_
        refine lv_iadd hx hb dX12_passes_155 ?_
        refine lv_ldc (v := 99999) hx hb hown (hts _ wd616) dX12_passes_156 ?_
        obtain ⟨j177, ej177, hf⟩ := ok_lt hf
        have J177 : ∀ (k_17 : Int32) (s_18 : St), j177 k_17 s_18 = some sz → ∀ (H : Heap) (locs : List Loc) (ls : Array Slot), lv_has ls 5 [(0, .ref (E.2.2.1 259)), (1, .int x1)] → World E sh2 s_18 H → va_S E.2.2.2 s.heap H locs → W p l e (rmd 4) s m args below meth c H locs 0 0 (MQ below (QW E sh2 none sz) args s 0 0 E.2.2.2) (F0 m 177 ls [.int k_17, .int (x1 + (25 : Int32)), .ref (E.2.2.1 260)]) := by
          intro k_17 s_18 hf H locs ls hl hw hS
          subst ej177
          obtain ⟨hin, hf⟩ := ok_chk hf
          obtain ⟨s_19, en, hf⟩ := ok_lt hf
          refine z_iast hC hw hS rfl hin en dX12_passes_177 (fun H locs hw hS => ?_)
          clear en
          refine lv_aload_n hx hb dX12_passes_178 rfl (lv_at hl 0 rfl) ?_
          refine gModel_slot hC hw wd598 dX12_passes_179 ?_
          refine lv_iload_n hx hb dX12_passes_182 rfl (lv_at hl 1 rfl) ?_
          refine lv_bipush (v := 26) hx hb dX12_passes_183 (by decide) ?_
          refine lv_iadd hx hb dX12_passes_185 ?_
          refine lv_dup2_11 hx hb dX12_passes_186 rfl rfl ?_
          obtain ⟨hin, hf⟩ := ok_chk hf
          refine z_iald hC hw rfl hin dX12_passes_187 ?_
          refine lv_iconst (v := 1) hx hb dX12_passes_188 (by decide) ?_
          refine lv_iadd hx hb dX12_passes_189 ?_
          obtain ⟨hin, hf⟩ := ok_chk hf
          obtain ⟨s_20, en, hf⟩ := ok_lt hf
          refine z_iast hC hw hS rfl hin en dX12_passes_190 (fun H locs hw hS => ?_)
          clear en
          exact z_vretE hC hlocks hw hS hf hr dX12_passes_191
        clear ej177
        have hif := ok_if hf
        refine lv_icmp_le (tgt := 166) hx hb dX12_passes_158 (by decide) (fun hcd => ?_) (fun hcd => ?_)
        · have hf := hif.1 hcd
          clear hif
          refine lv_aload_n hx hb dX12_passes_166 rfl (lv_at hl 0 rfl) ?_
          refine gModel_slot hC hw wd598 dX12_passes_167 ?_
          refine lv_iload_n hx hb dX12_passes_170 rfl (lv_at hl 1 rfl) ?_
          refine lv_bipush (v := 25) hx hb dX12_passes_171 (by decide) ?_
          refine lv_iadd hx hb dX12_passes_173 ?_
          obtain ⟨hin, hf⟩ := ok_chk hf
          refine z_iald hC hw rfl hin dX12_passes_174 ?_
          refine lv_iload_n hx hb dX12_passes_175 rfl (lv_at hl 2 rfl) ?_
          refine lv_iadd hx hb dX12_passes_176 ?_
          exact J177 _ _ hf _ _ ls (lv_sub hl [0, 1] rfl) hw hS
        · have hf := hif.2 hcd
          clear hif
          refine lv_ldc (v := 99999) hx hb hown (hts _ wd616) dX12_passes_161 ?_
          refine lv_goto (tgt := 177) hx hb dX12_passes_163 (by decide) ?_
          exact J177 _ _ hf _ _ ls (lv_sub hl [0, 1] rfl) hw hS
      clear ej136
      have hif := ok_if hf
      refine lv_icmp_le (tgt := 127) hx hb dX12_passes_120 (by decide) (fun hcd => ?_) (fun hcd => ?_)
      · have hf := hif.1 hcd
        clear hif
        refine lv_aload_n hx hb dX12_passes_127 rfl (lv_at hl 0 rfl) ?_
        refine gModel_slot hC hw wd598 dX12_passes_128 ?_
        refine lv_iload_n hx hb dX12_passes_131 rfl (lv_at hl 1 rfl) ?_
        refine lv_bipush (v := 24) hx hb dX12_passes_132 (by decide) ?_
        refine lv_iadd hx hb dX12_passes_134 ?_
        obtain ⟨hin, hf⟩ := ok_chk hf
        refine z_iald hC hw rfl hin dX12_passes_135 ?_
        exact J136 _ _ hf _ _ ls hl hw hS
      · have hf := hif.2 hcd
        clear hif
        refine lv_iconst (v := 1) hx hb dX12_passes_123 (by decide) ?_
        refine lv_goto (tgt := 136) hx hb dX12_passes_124 (by decide) ?_
        exact J136 _ _ hf _ _ ls hl hw hS
    have L55 : ∀ (n : Nat) (v4_11 : Int32) (s_12 : St), loopF (f_X12_passes_L55 x1 r_2) n (v4_11, s_12) = some r55 → ∀ (H : Heap) (locs : List Loc) (ls : Array Slot), lv_has ls 5 [(0, .ref (E.2.2.1 259)), (1, .int x1), (2, .int r_2), (3, .int v3_8), (4, .int v4_11)] → World E sh2 s_12 H → va_S E.2.2.2 s.heap H locs → W p l e (rmd 4) s m args below meth c H locs 0 0 (MQ below (QW E sh2 none sz) args s 0 0 E.2.2.2) (F0 m 55 ls []) := by
      intro n
      induction n with
      | zero =>
        intro v4_11 s_12 hf
        exact nz hf
      | succ n ih55 =>
        intro v4_11 s_12 hf H locs ls hl hw hS
        obtain ⟨xl55, hf, hi55, he55⟩ := ok_loop hf
        unfold f_X12_passes_L55 at hf
        replace hf := ok_un2 hf
        refine lv_iload hx hb dX12_passes_55 (lv_at hl 4 rfl) ?_
        refine lv_aload_n hx hb dX12_passes_57 rfl (lv_at hl 0 rfl) ?_
        refine gModel_told hC hw wd597 dX12_passes_58 ?_
        refine lv_iconst (v := 0) hx hb dX12_passes_61 (by decide) ?_
        obtain ⟨hin, hf⟩ := ok_chk hf
        refine z_iald hC hw rfl hin dX12_passes_62 ?_
        have hif := ok_if hf
        refine lv_icmp_ge (tgt := 105) hx hb dX12_passes_63 (by decide) (fun hcd => ?_) (fun hcd => ?_)
        · have hf := hif.1 hcd
          clear hif
          cases hf
          exact X55_0 _ (he55 _ rfl) _ _ ls (lv_sub hl [0, 1, 3] rfl) hw hS
        · have hf := hif.2 hcd
          clear hif
          refine lv_iload_n hx hb dX12_passes_66 rfl (lv_at hl 2 rfl) ?_
          refine lv_iload hx hb dX12_passes_67 (lv_at hl 4 rfl) ?_
          obtain ⟨r_22, s_21, hc, hf⟩ := ok_bd hf
          refine z_cS hC hl.1 hw hS (As := [.int r_2, .int v4_11]) (rest := []) (m_X12_has l E  hc) gc249 gc250 ⟨Nat.le_of_ble_eq_true rfl, Nat.le_of_ble_eq_true rfl⟩ ⟨Nat.le_of_ble_eq_true rfl, Nat.le_of_ble_eq_true rfl⟩ rfl rfl (Nat.le_of_ble_eq_true rfl) dX12_passes_69 (fun H locs hw hS => ?_)
          clear hc
          obtain ⟨j99, ej99, hf⟩ := ok_lt hf
          have J99 : ∀ (s_23 : St), j99 s_23 = some xl55 → ∀ (H : Heap) (locs : List Loc) (ls : Array Slot), lv_has ls 5 [(0, .ref (E.2.2.1 259)), (1, .int x1), (2, .int r_2), (3, .int v3_8), (4, .int v4_11)] → World E sh2 s_23 H → va_S E.2.2.2 s.heap H locs → W p l e (rmd 4) s m args below meth c H locs 0 0 (MQ below (QW E sh2 none sz) args s 0 0 E.2.2.2) (F0 m 99 ls []) := by
            intro s_23 hf H locs ls hl hw hS
            subst ej99
            obtain ⟨v4_24, en, hf⟩ := ok_lt hf
            refine lv_iinc (v := v4_24) (lv' := [(4, .int v4_24), (0, .ref (E.2.2.1 259)), (1, .int x1), (2, .int r_2), (3, .int v3_8)]) hx hb dX12_passes_99 hl (k := 4) rfl (by rw [en]; rfl) (by decide) rfl (fun ls hl => ?_)
            clear en
            refine lv_goto (tgt := 55) hx hb dX12_passes_102 (by decide) ?_
            cases hf
            exact ih55 _ _ (hi55 _ rfl) _ _ ls (lv_sub hl [1, 2, 3, 4, 0] rfl) hw hS
          clear ej99
          have hif := ok_if hf
          refine lv_if_eq (tgt := 92) hx hb dX12_passes_72 (by decide) (fun hcd => ?_) (fun hcd => ?_)
          · have hf := hif.1 hcd
            clear hif
            refine lv_aload_n hx hb dX12_passes_92 rfl (lv_at hl 0 rfl) ?_
            refine lv_iload_n hx hb dX12_passes_93 rfl (lv_at hl 1 rfl) ?_
            refine lv_iload hx hb dX12_passes_94 (lv_at hl 4 rfl) ?_
            obtain ⟨s_25, hc, hf⟩ := ok_bind hf
            refine z_cV hC hl.1 hw hS (As := [.int x1, .int v4_11]) (rest := []) (m_X12_cools l E  hc) rfl rfl gc251 gc252 ⟨Nat.le_of_ble_eq_true rfl, Nat.le_of_ble_eq_true rfl⟩ ⟨Nat.le_of_ble_eq_true rfl, Nat.le_of_ble_eq_true rfl⟩ rfl rfl (Nat.le_of_ble_eq_true rfl) dX12_passes_96 (fun H locs hw hS => ?_)
            clear hc
            exact J99 _ hf _ _ ls hl hw hS
          · have hf := hif.2 hcd
            clear hif
            refine lv_aload_n hx hb dX12_passes_75 rfl (lv_at hl 0 rfl) ?_
            refine lv_iload_n hx hb dX12_passes_76 rfl (lv_at hl 1 rfl) ?_
            refine lv_iload hx hb dX12_passes_77 (lv_at hl 4 rfl) ?_
            refine lv_aload_n hx hb dX12_passes_79 rfl (lv_at hl 0 rfl) ?_
            refine gModel_flows hC hw wd624 dX12_passes_80 ?_
            refine lv_iload hx hb dX12_passes_83 (lv_at hl 4 rfl) ?_
            obtain ⟨hin, hf⟩ := ok_chk hf
            refine z_iald hC hw rfl hin dX12_passes_85 ?_
            obtain ⟨s_26, hc, hf⟩ := ok_bind hf
            refine z_cV hC hl.1 hw hS (As := [.int x1, .int v4_11, .int (s_21 273 (v4_11).toNatClampNeg)]) (rest := []) (m_X12_heats l E  hc) rfl rfl gc253 gc254 ⟨Nat.le_of_ble_eq_true rfl, Nat.le_of_ble_eq_true rfl⟩ ⟨Nat.le_of_ble_eq_true rfl, Nat.le_of_ble_eq_true rfl⟩ rfl rfl (Nat.le_of_ble_eq_true rfl) dX12_passes_86 (fun H locs hw hS => ?_)
            clear hc
            refine lv_goto (tgt := 99) hx hb dX12_passes_89 (by decide) ?_
            exact J99 _ hf _ _ ls hl hw hS
    exact L55 5000 _ _ hL55 _ _ ls (lv_sub hl [1, 2, 3, 4, 0] rfl) hw hS
  have L11 : ∀ (n : Nat) (v3_5 : Int32) (v4_6 : Int32) (s_7 : St), loopF (f_X12_passes_L11 x1) n (v3_5, v4_6, s_7) = some r11 → ∀ (H : Heap) (locs : List Loc) (ls : Array Slot), lv_has ls 5 [(0, .ref (E.2.2.1 259)), (1, .int x1), (2, .int r_2), (3, .int v3_5), (4, .int v4_6)] → World E sh2 s_7 H → va_S E.2.2.2 s.heap H locs → W p l e (rmd 4) s m args below meth c H locs 0 0 (MQ below (QW E sh2 none sz) args s 0 0 E.2.2.2) (F0 m 11 ls []) := by
    intro n
    induction n with
    | zero =>
      intro v3_5 v4_6 s_7 hf
      exact nz hf
    | succ n ih11 =>
      intro v3_5 v4_6 s_7 hf H locs ls hl hw hS
      obtain ⟨xl11, hf, hi11, he11⟩ := ok_loop hf
      unfold f_X12_passes_L11 at hf
      replace hf := ok_un3 hf
      refine lv_iload hx hb dX12_passes_11 (lv_at hl 4 rfl) ?_
      refine lv_aload_n hx hb dX12_passes_13 rfl (lv_at hl 0 rfl) ?_
      refine gModel_told hC hw wd597 dX12_passes_14 ?_
      refine lv_iconst (v := 0) hx hb dX12_passes_17 (by decide) ?_
      obtain ⟨hin, hf⟩ := ok_chk hf
      refine z_iald hC hw rfl hin dX12_passes_18 ?_
      have hif := ok_if hf
      refine lv_icmp_ge (tgt := 52) hx hb dX12_passes_19 (by decide) (fun hcd => ?_) (fun hcd => ?_)
      · have hf := hif.1 hcd
        clear hif
        cases hf
        exact X11_0 _ _ (he11 _ rfl) _ _ ls (lv_sub hl [0, 1, 2, 3] rfl) hw hS
      · have hf := hif.2 hcd
        clear hif
        refine lv_aload_n hx hb dX12_passes_22 rfl (lv_at hl 0 rfl) ?_
        refine gModel_flows hC hw wd624 dX12_passes_23 ?_
        refine lv_iload hx hb dX12_passes_26 (lv_at hl 4 rfl) ?_
        refine lv_aload_n hx hb dX12_passes_28 rfl (lv_at hl 0 rfl) ?_
        refine lv_iload_n hx hb dX12_passes_29 rfl (lv_at hl 1 rfl) ?_
        refine lv_iload hx hb dX12_passes_30 (lv_at hl 4 rfl) ?_
        obtain ⟨r_28, s_27, hc, hf⟩ := ok_bd hf
        refine z_cV hC hl.1 hw hS (As := [.int x1, .int v4_6]) (rest := [.int v4_6, .ref (E.2.2.1 273)]) (m_X12_flowOf l E  hc) rfl rfl gc255 gc256 ⟨Nat.le_of_ble_eq_true rfl, Nat.le_of_ble_eq_true rfl⟩ ⟨Nat.le_of_ble_eq_true rfl, Nat.le_of_ble_eq_true rfl⟩ rfl rfl (Nat.le_of_ble_eq_true rfl) dX12_passes_32 (fun H locs hw hS => ?_)
        clear hc
        obtain ⟨hin, hf⟩ := ok_chk hf
        obtain ⟨s_29, en, hf⟩ := ok_lt hf
        refine z_iast hC hw hS rfl hin en dX12_passes_35 (fun H locs hw hS => ?_)
        clear en
        refine lv_iload_n hx hb dX12_passes_36 rfl (lv_at hl 3 rfl) ?_
        refine lv_aload_n hx hb dX12_passes_37 rfl (lv_at hl 0 rfl) ?_
        refine gModel_flows hC hw wd624 dX12_passes_38 ?_
        refine lv_iload hx hb dX12_passes_41 (lv_at hl 4 rfl) ?_
        obtain ⟨hin, hf⟩ := ok_chk hf
        refine z_iald hC hw rfl hin dX12_passes_43 ?_
        refine lv_iadd hx hb dX12_passes_44 ?_
        obtain ⟨v3_30, en, hf⟩ := ok_lt hf
        refine z_nm en ?_
        clear en
        refine lv_istore_n (lv' := [(3, .int v3_30), (0, .ref (E.2.2.1 259)), (1, .int x1), (2, .int r_2), (4, .int v4_6)]) hx hb dX12_passes_45 rfl hl (by decide) rfl (fun ls hl => ?_)
        obtain ⟨v4_31, en, hf⟩ := ok_lt hf
        refine lv_iinc (v := v4_31) (lv' := [(4, .int v4_31), (3, .int v3_30), (0, .ref (E.2.2.1 259)), (1, .int x1), (2, .int r_2)]) hx hb dX12_passes_46 hl (k := 4) rfl (by rw [en]; rfl) (by decide) rfl (fun ls hl => ?_)
        clear en
        refine lv_goto (tgt := 11) hx hb dX12_passes_49 (by decide) ?_
        cases hf
        exact ih11 _ _ _ (hi11 _ rfl) _ _ ls (lv_sub hl [2, 3, 4, 1, 0] rfl) hw hS
  exact L11 5000 _ _ _ hL11 _ _ ls (lv_sub hl [3, 4, 2, 1, 0] rfl) hw hS
set_option maxHeartbeats 4000000 in
set_option maxRecDepth 100000 in
theorem m_X12_copies (l : Launch) (E : Ev) {x1 : Int32} {x2 : Int32}  {s0 sz : St} (hf : f_X12_copies x1 x2 s0 = some sz) : MM l E sh2 yX12_copies cX12_copies 4 none (rmd 1) [.ref (E.2.2.1 259), .int x1, .int x2] s0 none sz := by
  unfold f_X12_copies at hf
  refine z_enter (by decide +kernel) (Nat.le_of_ble_eq_true rfl) ?_
  intro p e s m args below meth c ls hC hr hlocks hw hS hl
  have hC : Cx p s m args c cX12_copies 4 "FuseBoxModel" E := hC
  obtain ⟨hx, hb, hml, hown, hts, hTB⟩ := id hC
  have hl : lv_has ls 4 [(0, .ref (E.2.2.1 259)), (1, .int x1), (2, .int x2)] := hl
  refine lv_iconst (v := 0) hx hb dX12_copies_0 (by decide) ?_
  obtain ⟨v3_1, en, hf⟩ := ok_lt hf
  refine z_nm en ?_
  clear en
  refine lv_istore_n (lv' := [(3, .int v3_1), (0, .ref (E.2.2.1 259)), (1, .int x1), (2, .int x2)]) hx hb dX12_copies_1 rfl hl (by decide) rfl (fun ls hl => ?_)
  obtain ⟨r2, hL2, hf⟩ := ok_bind hf
  have X2_0 : ∀ (s_4 : St), s_4 = r2 → ∀ (H : Heap) (locs : List Loc) (ls : Array Slot), lv_has ls 4 [] → World E sh2 s_4 H → va_S E.2.2.2 s.heap H locs → W p l e (rmd 1) s m args below meth c H locs 0 0 (MQ below (QW E sh2 none sz) args s 0 0 E.2.2.2) (F0 m 30 ls []) := by
    intro s_4 er H locs ls hl hw hS
    subst er
    replace hf := ok_un1 hf
    exact z_vretE hC hlocks hw hS hf hr dX12_copies_30
  have L2 : ∀ (n : Nat) (v3_2 : Int32) (s_3 : St), loopF (f_X12_copies_L2 x1 x2) n (v3_2, s_3) = some r2 → ∀ (H : Heap) (locs : List Loc) (ls : Array Slot), lv_has ls 4 [(0, .ref (E.2.2.1 259)), (1, .int x1), (2, .int x2), (3, .int v3_2)] → World E sh2 s_3 H → va_S E.2.2.2 s.heap H locs → W p l e (rmd 1) s m args below meth c H locs 0 0 (MQ below (QW E sh2 none sz) args s 0 0 E.2.2.2) (F0 m 2 ls []) := by
    intro n
    induction n with
    | zero =>
      intro v3_2 s_3 hf
      exact nz hf
    | succ n ih2 =>
      intro v3_2 s_3 hf H locs ls hl hw hS
      obtain ⟨xl2, hf, hi2, he2⟩ := ok_loop hf
      unfold f_X12_copies_L2 at hf
      replace hf := ok_un2 hf
      refine lv_iload_n hx hb dX12_copies_2 rfl (lv_at hl 3 rfl) ?_
      refine lv_bipush (v := 27) hx hb dX12_copies_3 (by decide) ?_
      have hif := ok_if hf
      refine lv_icmp_ge (tgt := 30) hx hb dX12_copies_5 (by decide) (fun hcd => ?_) (fun hcd => ?_)
      · have hf := hif.1 hcd
        clear hif
        cases hf
        exact X2_0 _ (he2 _ rfl) _ _ ls (lv_sub hl [] rfl) hw hS
      · have hf := hif.2 hcd
        clear hif
        refine lv_aload_n hx hb dX12_copies_8 rfl (lv_at hl 0 rfl) ?_
        refine gModel_slot hC hw wd598 dX12_copies_9 ?_
        refine lv_iload_n hx hb dX12_copies_12 rfl (lv_at hl 2 rfl) ?_
        refine lv_iload_n hx hb dX12_copies_13 rfl (lv_at hl 3 rfl) ?_
        refine lv_iadd hx hb dX12_copies_14 ?_
        refine lv_aload_n hx hb dX12_copies_15 rfl (lv_at hl 0 rfl) ?_
        refine gModel_slot hC hw wd598 dX12_copies_16 ?_
        refine lv_iload_n hx hb dX12_copies_19 rfl (lv_at hl 1 rfl) ?_
        refine lv_iload_n hx hb dX12_copies_20 rfl (lv_at hl 3 rfl) ?_
        refine lv_iadd hx hb dX12_copies_21 ?_
        obtain ⟨hin, hf⟩ := ok_chk hf
        refine z_iald hC hw rfl hin dX12_copies_22 ?_
        obtain ⟨hin, hf⟩ := ok_chk hf
        obtain ⟨s_5, en, hf⟩ := ok_lt hf
        refine z_iast hC hw hS rfl hin en dX12_copies_23 (fun H locs hw hS => ?_)
        clear en
        obtain ⟨v3_6, en, hf⟩ := ok_lt hf
        refine lv_iinc (v := v3_6) (lv' := [(3, .int v3_6), (0, .ref (E.2.2.1 259)), (1, .int x1), (2, .int x2)]) hx hb dX12_copies_24 hl (k := 3) rfl (by rw [en]; rfl) (by decide) rfl (fun ls hl => ?_)
        clear en
        refine lv_goto (tgt := 2) hx hb dX12_copies_27 (by decide) ?_
        cases hf
        exact ih2 _ _ (hi2 _ rfl) _ _ ls (lv_sub hl [1, 2, 3, 0] rfl) hw hS
  exact L2 5000 _ _ hL2 _ _ ls (lv_sub hl [1, 2, 3, 0] rfl) hw hS
set_option maxHeartbeats 4000000 in
set_option maxRecDepth 100000 in
theorem m_X12_known (l : Launch) (E : Ev)   {s0 sz : St} (hf : f_X12_known s0 = some sz) : MM l E sh2 yX12_known cX12_known 2 none (rmd 2) [.ref (E.2.2.1 259)] s0 none sz := by
  unfold f_X12_known at hf
  refine z_enter (by decide +kernel) (Nat.le_of_ble_eq_true rfl) ?_
  intro p e s m args below meth c ls hC hr hlocks hw hS hl
  have hC : Cx p s m args c cX12_known 2 "FuseBoxModel" E := hC
  obtain ⟨hx, hb, hml, hown, hts, hTB⟩ := id hC
  have hl : lv_has ls 2 [(0, .ref (E.2.2.1 259))] := hl
  refine lv_aload_n hx hb dX12_known_0 rfl (lv_at hl 0 rfl) ?_
  refine gModel_acts hC hw wd596 dX12_known_1 ?_
  refine lv_bipush (v := 24) hx hb dX12_known_4 (by decide) ?_
  obtain ⟨j46, ej46, hf⟩ := ok_lt hf
  have J46 : ∀ (s_1 : St), j46 s_1 = some sz → ∀ (H : Heap) (locs : List Loc) (ls : Array Slot), lv_has ls 2 [(0, .ref (E.2.2.1 259))] → World E sh2 s_1 H → va_S E.2.2.2 s.heap H locs → W p l e (rmd 2) s m args below meth c H locs 0 0 (MQ below (QW E sh2 none sz) args s 0 0 E.2.2.2) (F0 m 46 ls []) := by
    intro s_1 hf H locs ls hl hw hS
    subst ej46
    refine lv_aload_n hx hb dX12_known_46 rfl (lv_at hl 0 rfl) ?_
    refine lv_dup hx hb dX12_known_47 rfl ?_
    refine gModel_acts hC hw wd596 dX12_known_48 ?_
    refine lv_iconst (v := 1) hx hb dX12_known_51 (by decide) ?_
    refine lv_iadd hx hb dX12_known_52 ?_
    obtain ⟨s_2, en, hf⟩ := ok_lt hf
    refine pModel_acts hC hw hS wd596 en dX12_known_53 (fun H locs hw hS => ?_)
    clear en
    refine lv_aload_n hx hb dX12_known_56 rfl (lv_at hl 0 rfl) ?_
    refine lv_iconst (v := 0) hx hb dX12_known_57 (by decide) ?_
    refine lv_aload_n hx hb dX12_known_58 rfl (lv_at hl 0 rfl) ?_
    refine gModel_acts hC hw wd596 dX12_known_59 ?_
    refine lv_bipush (v := 27) hx hb dX12_known_62 (by decide) ?_
    refine lv_imul hx hb dX12_known_64 ?_
    obtain ⟨s_3, hc, hf⟩ := ok_bind hf
    refine z_cV hC hl.1 hw hS (As := [.int (0 : Int32), .int ((s_2 259 3) * (27 : Int32))]) (rest := []) (m_X12_copies l E  hc) rfl rfl gc257 gc258 ⟨Nat.le_of_ble_eq_true rfl, Nat.le_of_ble_eq_true rfl⟩ ⟨Nat.le_of_ble_eq_true rfl, Nat.le_of_ble_eq_true rfl⟩ rfl rfl (Nat.le_of_ble_eq_true rfl) dX12_known_65 (fun H locs hw hS => ?_)
    clear hc
    exact z_vretE hC hlocks hw hS hf hr dX12_known_68
  clear ej46
  have hif := ok_if hf
  refine lv_icmp_ne (tgt := 46) hx hb dX12_known_6 (by decide) (fun hcd => ?_) (fun hcd => ?_)
  · have hf := hif.1 hcd
    clear hif
    exact J46 _ hf _ _ ls hl hw hS
  · have hf := hif.2 (fun q => q hcd)
    clear hif
    refine lv_bipush (v := 27) hx hb dX12_known_9 (by decide) ?_
    obtain ⟨v1_4, en, hf⟩ := ok_lt hf
    refine z_nm en ?_
    clear en
    refine lv_istore_n (lv' := [(1, .int v1_4), (0, .ref (E.2.2.1 259))]) hx hb dX12_known_11 rfl hl (by decide) rfl (fun ls hl => ?_)
    obtain ⟨r12, hL12, hf⟩ := ok_bind hf
    have X12_0 : ∀ (s_7 : St), s_7 = r12 → ∀ (H : Heap) (locs : List Loc) (ls : Array Slot), lv_has ls 2 [(0, .ref (E.2.2.1 259))] → World E sh2 s_7 H → va_S E.2.2.2 s.heap H locs → W p l e (rmd 2) s m args below meth c H locs 0 0 (MQ below (QW E sh2 none sz) args s 0 0 E.2.2.2) (F0 m 40 ls []) := by
      intro s_7 er H locs ls hl hw hS
      subst er
      replace hf := ok_un1 hf
      refine lv_aload_n hx hb dX12_known_40 rfl (lv_at hl 0 rfl) ?_
      refine lv_bipush (v := 23) hx hb dX12_known_41 (by decide) ?_
      obtain ⟨s_8, en, hf⟩ := ok_lt hf
      refine pModel_acts hC hw hS wd596 en dX12_known_43 (fun H locs hw hS => ?_)
      clear en
      exact J46 _ hf _ _ ls hl hw hS
    have L12 : ∀ (n : Nat) (v1_5 : Int32) (s_6 : St), loopF f_X12_known_L12 n (v1_5, s_6) = some r12 → ∀ (H : Heap) (locs : List Loc) (ls : Array Slot), lv_has ls 2 [(0, .ref (E.2.2.1 259)), (1, .int v1_5)] → World E sh2 s_6 H → va_S E.2.2.2 s.heap H locs → W p l e (rmd 2) s m args below meth c H locs 0 0 (MQ below (QW E sh2 none sz) args s 0 0 E.2.2.2) (F0 m 12 ls []) := by
      intro n
      induction n with
      | zero =>
        intro v1_5 s_6 hf
        exact nz hf
      | succ n ih12 =>
        intro v1_5 s_6 hf H locs ls hl hw hS
        obtain ⟨xl12, hf, hi12, he12⟩ := ok_loop hf
        unfold f_X12_known_L12 at hf
        replace hf := ok_un2 hf
        refine lv_iload_n hx hb dX12_known_12 rfl (lv_at hl 1 rfl) ?_
        refine lv_sipush (v := 648) hx hb dX12_known_13 (by decide) ?_
        have hif := ok_if hf
        refine lv_icmp_ge (tgt := 40) hx hb dX12_known_16 (by decide) (fun hcd => ?_) (fun hcd => ?_)
        · have hf := hif.1 hcd
          clear hif
          cases hf
          exact X12_0 _ (he12 _ rfl) _ _ ls (lv_sub hl [0] rfl) hw hS
        · have hf := hif.2 hcd
          clear hif
          refine lv_aload_n hx hb dX12_known_19 rfl (lv_at hl 0 rfl) ?_
          refine gModel_slot hC hw wd598 dX12_known_20 ?_
          refine lv_iload_n hx hb dX12_known_23 rfl (lv_at hl 1 rfl) ?_
          refine lv_aload_n hx hb dX12_known_24 rfl (lv_at hl 0 rfl) ?_
          refine gModel_slot hC hw wd598 dX12_known_25 ?_
          refine lv_iload_n hx hb dX12_known_28 rfl (lv_at hl 1 rfl) ?_
          refine lv_bipush (v := 27) hx hb dX12_known_29 (by decide) ?_
          refine lv_iadd hx hb dX12_known_31 ?_
          obtain ⟨hin, hf⟩ := ok_chk hf
          refine z_iald hC hw rfl hin dX12_known_32 ?_
          obtain ⟨hin, hf⟩ := ok_chk hf
          obtain ⟨s_9, en, hf⟩ := ok_lt hf
          refine z_iast hC hw hS rfl hin en dX12_known_33 (fun H locs hw hS => ?_)
          clear en
          obtain ⟨v1_10, en, hf⟩ := ok_lt hf
          refine lv_iinc (v := v1_10) (lv' := [(1, .int v1_10), (0, .ref (E.2.2.1 259))]) hx hb dX12_known_34 hl (k := 1) rfl (by rw [en]; rfl) (by decide) rfl (fun ls hl => ?_)
          clear en
          refine lv_goto (tgt := 12) hx hb dX12_known_37 (by decide) ?_
          cases hf
          exact ih12 _ _ (hi12 _ rfl) _ _ ls (lv_sub hl [1, 0] rfl) hw hS
    exact L12 5000 _ _ hL12 _ _ ls (lv_sub hl [1, 0] rfl) hw hS
set_option maxHeartbeats 4000000 in
set_option maxRecDepth 100000 in
theorem m_X12_minutes (l : Launch) (E : Ev) {x1 : Int32}  {s0 sz : St} {rz : Int32} (hf : f_X12_minutes x1 s0 = some (rz, sz)) : MM l E sh2 yX12_minutes cX12_minutes 3 (some .int) (rmd 5) [.ref (E.2.2.1 259), .int x1] s0 (some (.int rz)) sz := by
  unfold f_X12_minutes at hf
  refine z_enter (by decide +kernel) (Nat.le_of_ble_eq_true rfl) ?_
  intro p e s m args below meth c ls hC hr hlocks hw hS hl
  have hC : Cx p s m args c cX12_minutes 3 "FuseBoxModel" E := hC
  obtain ⟨hx, hb, hml, hown, hts, hTB⟩ := id hC
  have hl : lv_has ls 3 [(0, .ref (E.2.2.1 259)), (1, .int x1)] := hl
  refine lv_aload_n hx hb dX12_minutes_0 rfl (lv_at hl 0 rfl) ?_
  obtain ⟨r_2, s_1, hc, hf⟩ := ok_bd hf
  refine z_cV hC hl.1 hw hS (As := []) (rest := []) (m_X12_isHouse l E  hc) rfl rfl gc259 gc260 ⟨Nat.le_of_ble_eq_true rfl, Nat.le_of_ble_eq_true rfl⟩ ⟨Nat.le_of_ble_eq_true rfl, Nat.le_of_ble_eq_true rfl⟩ rfl rfl (Nat.le_of_ble_eq_true rfl) dX12_minutes_1 (fun H locs hw hS => ?_)
  clear hc
  have hif := ok_if hf
  refine lv_if_ne (tgt := 10) hx hb dX12_minutes_4 (by decide) (fun hcd => ?_) (fun hcd => ?_)
  · have hf := hif.1 hcd
    clear hif
    refine lv_iload_n hx hb dX12_minutes_10 rfl (lv_at hl 1 rfl) ?_
    refine lv_i2l (v := x1.toInt64) hx hb dX12_minutes_11 rfl ?_
    refine lv_lconst (v := 1) hx hb dX12_minutes_12 (by decide) ?_
    refine lv_ldc2 (v := 24) hx hb hown (hts _ wd641) dX12_minutes_13 ?_
    obtain ⟨r_4, s_3, hc, hf⟩ := ok_bd hf
    refine z_cS hC hl.1 hw hS (As := [.long (x1.toInt64), .long (1 : Int64), .long (24 : Int64)]) (rest := []) (m_X12_in l E  hc) gc219 gc220 ⟨Nat.le_of_ble_eq_true rfl, Nat.le_of_ble_eq_true rfl⟩ ⟨Nat.le_of_ble_eq_true rfl, Nat.le_of_ble_eq_true rfl⟩ rfl rfl (Nat.le_of_ble_eq_true rfl) dX12_minutes_16 (fun H locs hw hS => ?_)
    clear hc
    have hif := ok_if hf
    refine lv_if_ne (tgt := 25) hx hb dX12_minutes_19 (by decide) (fun hcd => ?_) (fun hcd => ?_)
    · have hf := hif.1 hcd
      clear hif
      refine lv_aload_n hx hb dX12_minutes_25 rfl (lv_at hl 0 rfl) ?_
      refine gModel_slot hC hw wd598 dX12_minutes_26 ?_
      refine lv_bipush (v := 26) hx hb dX12_minutes_29 (by decide) ?_
      obtain ⟨hin, hf⟩ := ok_chk hf
      refine z_iald hC hw rfl hin dX12_minutes_31 ?_
      refine lv_iload_n hx hb dX12_minutes_32 rfl (lv_at hl 1 rfl) ?_
      refine lv_iadd hx hb dX12_minutes_33 ?_
      refine lv_sipush (v := 9999) hx hb dX12_minutes_34 (by decide) ?_
      have hif := ok_if hf
      refine lv_icmp_le (tgt := 43) hx hb dX12_minutes_37 (by decide) (fun hcd => ?_) (fun hcd => ?_)
      · have hf := hif.1 hcd
        clear hif
        refine lv_iconst (v := 0) hx hb dX12_minutes_43 (by decide) ?_
        obtain ⟨v2_5, en, hf⟩ := ok_lt hf
        refine z_nm en ?_
        clear en
        refine lv_istore_n (lv' := [(2, .int v2_5), (0, .ref (E.2.2.1 259)), (1, .int x1)]) hx hb dX12_minutes_44 rfl hl (by decide) rfl (fun ls hl => ?_)
        obtain ⟨r45, hL45, hf⟩ := ok_bind hf
        have X45_0 : ∀ (s_8 : St), s_8 = r45 → ∀ (H : Heap) (locs : List Loc) (ls : Array Slot), lv_has ls 3 [(0, .ref (E.2.2.1 259))] → World E sh2 s_8 H → va_S E.2.2.2 s.heap H locs → W p l e (rmd 5) s m args below meth c H locs 0 0 (MQ below (QW E sh2 (some (.int rz)) sz) args s 0 0 E.2.2.2) (F0 m 65 ls []) := by
          intro s_8 er H locs ls hl hw hS
          subst er
          replace hf := ok_un1 hf
          refine lv_aload_n hx hb dX12_minutes_65 rfl (lv_at hl 0 rfl) ?_
          refine lv_iconst (v := 0) hx hb dX12_minutes_66 (by decide) ?_
          obtain ⟨r_10, s_9, hc, hf⟩ := ok_bd hf
          refine z_cV hC hl.1 hw hS (As := [.int (0 : Int32)]) (rest := []) (m_X12_liveOnes l E  hc) rfl rfl gc247 gc248 ⟨Nat.le_of_ble_eq_true rfl, Nat.le_of_ble_eq_true rfl⟩ ⟨Nat.le_of_ble_eq_true rfl, Nat.le_of_ble_eq_true rfl⟩ rfl rfl (Nat.le_of_ble_eq_true rfl) dX12_minutes_67 (fun H locs hw hS => ?_)
          clear hc
          exact z_iretE hC hlocks hw hS hf hr rfl dX12_minutes_70
        have L45 : ∀ (n : Nat) (v2_6 : Int32) (s_7 : St), loopF (f_X12_minutes_L45 x1) n (v2_6, s_7) = some r45 → ∀ (H : Heap) (locs : List Loc) (ls : Array Slot), lv_has ls 3 [(0, .ref (E.2.2.1 259)), (1, .int x1), (2, .int v2_6)] → World E sh2 s_7 H → va_S E.2.2.2 s.heap H locs → W p l e (rmd 5) s m args below meth c H locs 0 0 (MQ below (QW E sh2 (some (.int rz)) sz) args s 0 0 E.2.2.2) (F0 m 45 ls []) := by
          intro n
          induction n with
          | zero =>
            intro v2_6 s_7 hf
            exact nz hf
          | succ n ih45 =>
            intro v2_6 s_7 hf H locs ls hl hw hS
            obtain ⟨xl45, hf, hi45, he45⟩ := ok_loop hf
            unfold f_X12_minutes_L45 at hf
            replace hf := ok_un2 hf
            refine lv_iload_n hx hb dX12_minutes_45 rfl (lv_at hl 2 rfl) ?_
            refine lv_iload_n hx hb dX12_minutes_46 rfl (lv_at hl 1 rfl) ?_
            have hif := ok_if hf
            refine lv_icmp_ge (tgt := 65) hx hb dX12_minutes_47 (by decide) (fun hcd => ?_) (fun hcd => ?_)
            · have hf := hif.1 hcd
              clear hif
              cases hf
              exact X45_0 _ (he45 _ rfl) _ _ ls (lv_sub hl [0] rfl) hw hS
            · have hf := hif.2 hcd
              clear hif
              refine lv_aload_n hx hb dX12_minutes_50 rfl (lv_at hl 0 rfl) ?_
              obtain ⟨s_11, hc, hf⟩ := ok_bind hf
              refine z_cV hC hl.1 hw hS (As := []) (rest := []) (m_X12_known l E  hc) rfl rfl gc261 gc262 ⟨Nat.le_of_ble_eq_true rfl, Nat.le_of_ble_eq_true rfl⟩ ⟨Nat.le_of_ble_eq_true rfl, Nat.le_of_ble_eq_true rfl⟩ rfl rfl (Nat.le_of_ble_eq_true rfl) dX12_minutes_51 (fun H locs hw hS => ?_)
              clear hc
              refine lv_aload_n hx hb dX12_minutes_54 rfl (lv_at hl 0 rfl) ?_
              refine lv_iconst (v := 0) hx hb dX12_minutes_55 (by decide) ?_
              obtain ⟨s_12, hc, hf⟩ := ok_bind hf
              refine z_cV hC hl.1 hw hS (As := [.int (0 : Int32)]) (rest := []) (m_X12_passes l E  hc) rfl rfl gc263 gc264 ⟨Nat.le_of_ble_eq_true rfl, Nat.le_of_ble_eq_true rfl⟩ ⟨Nat.le_of_ble_eq_true rfl, Nat.le_of_ble_eq_true rfl⟩ rfl rfl (Nat.le_of_ble_eq_true rfl) dX12_minutes_56 (fun H locs hw hS => ?_)
              clear hc
              obtain ⟨v2_13, en, hf⟩ := ok_lt hf
              refine lv_iinc (v := v2_13) (lv' := [(2, .int v2_13), (0, .ref (E.2.2.1 259)), (1, .int x1)]) hx hb dX12_minutes_59 hl (k := 2) rfl (by rw [en]; rfl) (by decide) rfl (fun ls hl => ?_)
              clear en
              refine lv_goto (tgt := 45) hx hb dX12_minutes_62 (by decide) ?_
              cases hf
              exact ih45 _ _ (hi45 _ rfl) _ _ ls (lv_sub hl [1, 2, 0] rfl) hw hS
        exact L45 5000 _ _ hL45 _ _ ls (lv_sub hl [1, 2, 0] rfl) hw hS
      · have hf := hif.2 hcd
        clear hif
        refine lv_ldc (v := -1000003) hx hb hown (hts _ wd552) dX12_minutes_40 ?_
        exact z_iretE hC hlocks hw hS hf hr rfl dX12_minutes_42
    · have hf := hif.2 (fun q => q hcd)
      clear hif
      refine lv_ldc (v := -1000001) hx hb hown (hts _ wd535) dX12_minutes_22 ?_
      exact z_iretE hC hlocks hw hS hf hr rfl dX12_minutes_24
  · have hf := hif.2 (fun q => q hcd)
    clear hif
    refine lv_ldc (v := -1000002) hx hb hown (hts _ wd650) dX12_minutes_7 ?_
    exact z_iretE hC hlocks hw hS hf hr rfl dX12_minutes_9
set_option maxHeartbeats 4000000 in
set_option maxRecDepth 100000 in
theorem m_X12_turn (l : Launch) (E : Ev) {x1 : Int32} {x2 : Int32}  {s0 sz : St} {rz : Int32} (hf : f_X12_turn x1 x2 s0 = some (rz, sz)) : MM l E sh2 yX12_turn cX12_turn 3 (some .int) (rmd 4) [.ref (E.2.2.1 259), .int x1, .int x2] s0 (some (.int rz)) sz := by
  unfold f_X12_turn at hf
  refine z_enter (by decide +kernel) (Nat.le_of_ble_eq_true rfl) ?_
  intro p e s m args below meth c ls hC hr hlocks hw hS hl
  have hC : Cx p s m args c cX12_turn 3 "FuseBoxModel" E := hC
  obtain ⟨hx, hb, hml, hown, hts, hTB⟩ := id hC
  have hl : lv_has ls 3 [(0, .ref (E.2.2.1 259)), (1, .int x1), (2, .int x2)] := hl
  refine lv_aload_n hx hb dX12_turn_0 rfl (lv_at hl 0 rfl) ?_
  refine lv_iload_n hx hb dX12_turn_1 rfl (lv_at hl 1 rfl) ?_
  obtain ⟨r_2, s_1, hc, hf⟩ := ok_bd hf
  refine z_cV hC hl.1 hw hS (As := [.int x1]) (rest := []) (m_X12_isThing l E  hc) rfl rfl gc265 gc266 ⟨Nat.le_of_ble_eq_true rfl, Nat.le_of_ble_eq_true rfl⟩ ⟨Nat.le_of_ble_eq_true rfl, Nat.le_of_ble_eq_true rfl⟩ rfl rfl (Nat.le_of_ble_eq_true rfl) dX12_turn_2 (fun H locs hw hS => ?_)
  clear hc
  obtain ⟨j18, ej18, hf⟩ := ok_lt hf
  have J18 : ∀ (s_3 : St), j18 s_3 = some (rz, sz) → ∀ (H : Heap) (locs : List Loc) (ls : Array Slot), lv_has ls 3 [] → World E sh2 s_3 H → va_S E.2.2.2 s.heap H locs → W p l e (rmd 4) s m args below meth c H locs 0 0 (MQ below (QW E sh2 (some (.int rz)) sz) args s 0 0 E.2.2.2) (F0 m 18 ls []) := by
    intro s_3 hf H locs ls hl hw hS
    subst ej18
    refine lv_ldc (v := -1000001) hx hb hown (hts _ wd535) dX12_turn_18 ?_
    exact z_iretE hC hlocks hw hS hf hr rfl dX12_turn_20
  clear ej18
  have hif := ok_if hf
  refine lv_if_eq (tgt := 18) hx hb dX12_turn_5 (by decide) (fun hcd => ?_) (fun hcd => ?_)
  · have hf := hif.1 hcd
    clear hif
    exact J18 _ hf _ _ ls (lv_sub hl [] rfl) hw hS
  · have hf := hif.2 hcd
    clear hif
    refine lv_iload_n hx hb dX12_turn_8 rfl (lv_at hl 2 rfl) ?_
    refine lv_i2l (v := x2.toInt64) hx hb dX12_turn_9 rfl ?_
    refine lv_lconst (v := 0) hx hb dX12_turn_10 (by decide) ?_
    refine lv_lconst (v := 1) hx hb dX12_turn_11 (by decide) ?_
    obtain ⟨r_5, s_4, hc, hf⟩ := ok_bd hf
    refine z_cS hC hl.1 hw hS (As := [.long (x2.toInt64), .long (0 : Int64), .long (1 : Int64)]) (rest := []) (m_X12_in l E  hc) gc219 gc220 ⟨Nat.le_of_ble_eq_true rfl, Nat.le_of_ble_eq_true rfl⟩ ⟨Nat.le_of_ble_eq_true rfl, Nat.le_of_ble_eq_true rfl⟩ rfl rfl (Nat.le_of_ble_eq_true rfl) dX12_turn_12 (fun H locs hw hS => ?_)
    clear hc
    have hif := ok_if hf
    refine lv_if_ne (tgt := 21) hx hb dX12_turn_15 (by decide) (fun hcd => ?_) (fun hcd => ?_)
    · have hf := hif.1 hcd
      clear hif
      refine lv_aload_n hx hb dX12_turn_21 rfl (lv_at hl 0 rfl) ?_
      refine gModel_slot hC hw wd598 dX12_turn_22 ?_
      refine lv_bipush (v := 18) hx hb dX12_turn_25 (by decide) ?_
      refine lv_iload_n hx hb dX12_turn_27 rfl (lv_at hl 1 rfl) ?_
      refine lv_iadd hx hb dX12_turn_28 ?_
      obtain ⟨hin, hf⟩ := ok_chk hf
      refine z_iald hC hw rfl hin dX12_turn_29 ?_
      refine lv_iload_n hx hb dX12_turn_30 rfl (lv_at hl 2 rfl) ?_
      have hif := ok_if hf
      refine lv_icmp_ne (tgt := 37) hx hb dX12_turn_31 (by decide) (fun hcd => ?_) (fun hcd => ?_)
      · have hf := hif.1 hcd
        clear hif
        refine lv_aload_n hx hb dX12_turn_37 rfl (lv_at hl 0 rfl) ?_
        obtain ⟨s_6, hc, hf⟩ := ok_bind hf
        refine z_cV hC hl.1 hw hS (As := []) (rest := []) (m_X12_known l E  hc) rfl rfl gc261 gc262 ⟨Nat.le_of_ble_eq_true rfl, Nat.le_of_ble_eq_true rfl⟩ ⟨Nat.le_of_ble_eq_true rfl, Nat.le_of_ble_eq_true rfl⟩ rfl rfl (Nat.le_of_ble_eq_true rfl) dX12_turn_38 (fun H locs hw hS => ?_)
        clear hc
        refine lv_aload_n hx hb dX12_turn_41 rfl (lv_at hl 0 rfl) ?_
        refine gModel_slot hC hw wd598 dX12_turn_42 ?_
        refine lv_bipush (v := 18) hx hb dX12_turn_45 (by decide) ?_
        refine lv_iload_n hx hb dX12_turn_47 rfl (lv_at hl 1 rfl) ?_
        refine lv_iadd hx hb dX12_turn_48 ?_
        refine lv_iload_n hx hb dX12_turn_49 rfl (lv_at hl 2 rfl) ?_
        obtain ⟨hin, hf⟩ := ok_chk hf
        obtain ⟨s_7, en, hf⟩ := ok_lt hf
        refine z_iast hC hw hS rfl hin en dX12_turn_50 (fun H locs hw hS => ?_)
        clear en
        refine lv_aload_n hx hb dX12_turn_51 rfl (lv_at hl 0 rfl) ?_
        refine lv_iconst (v := 0) hx hb dX12_turn_52 (by decide) ?_
        obtain ⟨r_9, s_8, hc, hf⟩ := ok_bd hf
        refine z_cV hC hl.1 hw hS (As := [.int (0 : Int32)]) (rest := []) (m_X12_running l E  hc) rfl rfl gc267 gc268 ⟨Nat.le_of_ble_eq_true rfl, Nat.le_of_ble_eq_true rfl⟩ ⟨Nat.le_of_ble_eq_true rfl, Nat.le_of_ble_eq_true rfl⟩ rfl rfl (Nat.le_of_ble_eq_true rfl) dX12_turn_53 (fun H locs hw hS => ?_)
        clear hc
        exact z_iretE hC hlocks hw hS hf hr rfl dX12_turn_56
      · have hf := hif.2 (fun q => q hcd)
        clear hif
        refine lv_ldc (v := -1000002) hx hb hown (hts _ wd650) dX12_turn_34 ?_
        exact z_iretE hC hlocks hw hS hf hr rfl dX12_turn_36
    · have hf := hif.2 (fun q => q hcd)
      clear hif
      exact J18 _ hf _ _ ls (lv_sub hl [] rfl) hw hS
set_option maxHeartbeats 4000000 in
set_option maxRecDepth 100000 in
theorem m_X12_plug (l : Launch) (E : Ev) {x1 : Int32} {x2 : Int32}  {s0 sz : St} {rz : Int32} (hf : f_X12_plug x1 x2 s0 = some (rz, sz)) : MM l E sh2 yX12_plug cX12_plug 4 (some .int) (rmd 3) [.ref (E.2.2.1 259), .int x1, .int x2] s0 (some (.int rz)) sz := by
  unfold f_X12_plug at hf
  refine z_enter (by decide +kernel) (Nat.le_of_ble_eq_true rfl) ?_
  intro p e s m args below meth c ls hC hr hlocks hw hS hl
  have hC : Cx p s m args c cX12_plug 4 "FuseBoxModel" E := hC
  obtain ⟨hx, hb, hml, hown, hts, hTB⟩ := id hC
  have hl : lv_has ls 4 [(0, .ref (E.2.2.1 259)), (1, .int x1), (2, .int x2)] := hl
  refine lv_aload_n hx hb dX12_plug_0 rfl (lv_at hl 0 rfl) ?_
  refine lv_iload_n hx hb dX12_plug_1 rfl (lv_at hl 1 rfl) ?_
  obtain ⟨r_2, s_1, hc, hf⟩ := ok_bd hf
  refine z_cV hC hl.1 hw hS (As := [.int x1]) (rest := []) (m_X12_isThing l E  hc) rfl rfl gc265 gc266 ⟨Nat.le_of_ble_eq_true rfl, Nat.le_of_ble_eq_true rfl⟩ ⟨Nat.le_of_ble_eq_true rfl, Nat.le_of_ble_eq_true rfl⟩ rfl rfl (Nat.le_of_ble_eq_true rfl) dX12_plug_2 (fun H locs hw hS => ?_)
  clear hc
  obtain ⟨j16, ej16, hf⟩ := ok_lt hf
  have J16 : ∀ (s_3 : St), j16 s_3 = some (rz, sz) → ∀ (H : Heap) (locs : List Loc) (ls : Array Slot), lv_has ls 4 [] → World E sh2 s_3 H → va_S E.2.2.2 s.heap H locs → W p l e (rmd 3) s m args below meth c H locs 0 0 (MQ below (QW E sh2 (some (.int rz)) sz) args s 0 0 E.2.2.2) (F0 m 16 ls []) := by
    intro s_3 hf H locs ls hl hw hS
    subst ej16
    refine lv_ldc (v := -1000001) hx hb hown (hts _ wd535) dX12_plug_16 ?_
    exact z_iretE hC hlocks hw hS hf hr rfl dX12_plug_18
  clear ej16
  have hif := ok_if hf
  refine lv_if_eq (tgt := 16) hx hb dX12_plug_5 (by decide) (fun hcd => ?_) (fun hcd => ?_)
  · have hf := hif.1 hcd
    clear hif
    exact J16 _ hf _ _ ls (lv_sub hl [] rfl) hw hS
  · have hf := hif.2 hcd
    clear hif
    refine lv_aload_n hx hb dX12_plug_8 rfl (lv_at hl 0 rfl) ?_
    refine lv_iload_n hx hb dX12_plug_9 rfl (lv_at hl 2 rfl) ?_
    obtain ⟨r_5, s_4, hc, hf⟩ := ok_bd hf
    refine z_cV hC hl.1 hw hS (As := [.int x2]) (rest := []) (m_X12_isLine l E  hc) rfl rfl gc269 gc270 ⟨Nat.le_of_ble_eq_true rfl, Nat.le_of_ble_eq_true rfl⟩ ⟨Nat.le_of_ble_eq_true rfl, Nat.le_of_ble_eq_true rfl⟩ rfl rfl (Nat.le_of_ble_eq_true rfl) dX12_plug_10 (fun H locs hw hS => ?_)
    clear hc
    have hif := ok_if hf
    refine lv_if_ne (tgt := 19) hx hb dX12_plug_13 (by decide) (fun hcd => ?_) (fun hcd => ?_)
    · have hf := hif.1 hcd
      clear hif
      refine lv_aload_n hx hb dX12_plug_19 rfl (lv_at hl 0 rfl) ?_
      refine gModel_slot hC hw wd598 dX12_plug_20 ?_
      refine lv_bipush (v := 12) hx hb dX12_plug_23 (by decide) ?_
      refine lv_iload_n hx hb dX12_plug_25 rfl (lv_at hl 1 rfl) ?_
      refine lv_iadd hx hb dX12_plug_26 ?_
      obtain ⟨hin, hf⟩ := ok_chk hf
      refine z_iald hC hw rfl hin dX12_plug_27 ?_
      refine lv_iload_n hx hb dX12_plug_28 rfl (lv_at hl 2 rfl) ?_
      have hif := ok_if hf
      refine lv_icmp_ne (tgt := 35) hx hb dX12_plug_29 (by decide) (fun hcd => ?_) (fun hcd => ?_)
      · have hf := hif.1 hcd
        clear hif
        refine lv_aload_n hx hb dX12_plug_35 rfl (lv_at hl 0 rfl) ?_
        obtain ⟨s_6, hc, hf⟩ := ok_bind hf
        refine z_cV hC hl.1 hw hS (As := []) (rest := []) (m_X12_known l E  hc) rfl rfl gc261 gc262 ⟨Nat.le_of_ble_eq_true rfl, Nat.le_of_ble_eq_true rfl⟩ ⟨Nat.le_of_ble_eq_true rfl, Nat.le_of_ble_eq_true rfl⟩ rfl rfl (Nat.le_of_ble_eq_true rfl) dX12_plug_36 (fun H locs hw hS => ?_)
        clear hc
        refine lv_aload_n hx hb dX12_plug_39 rfl (lv_at hl 0 rfl) ?_
        refine gModel_slot hC hw wd598 dX12_plug_40 ?_
        refine lv_bipush (v := 12) hx hb dX12_plug_43 (by decide) ?_
        refine lv_iload_n hx hb dX12_plug_45 rfl (lv_at hl 1 rfl) ?_
        refine lv_iadd hx hb dX12_plug_46 ?_
        obtain ⟨hin, hf⟩ := ok_chk hf
        refine z_iald hC hw rfl hin dX12_plug_47 ?_
        obtain ⟨v3_7, en, hf⟩ := ok_lt hf
        refine z_nm en ?_
        clear en
        refine lv_istore_n (lv' := [(3, .int v3_7), (0, .ref (E.2.2.1 259)), (1, .int x1), (2, .int x2)]) hx hb dX12_plug_48 rfl hl (by decide) rfl (fun ls hl => ?_)
        refine lv_aload_n hx hb dX12_plug_49 rfl (lv_at hl 1 rfl) ?_
        refine gModel_slot hC hw wd598 dX12_plug_50 ?_
        refine lv_bipush (v := 12) hx hb dX12_plug_53 (by decide) ?_
        refine lv_iload_n hx hb dX12_plug_55 rfl (lv_at hl 2 rfl) ?_
        refine lv_iadd hx hb dX12_plug_56 ?_
        refine lv_iload_n hx hb dX12_plug_57 rfl (lv_at hl 3 rfl) ?_
        obtain ⟨hin, hf⟩ := ok_chk hf
        obtain ⟨s_8, en, hf⟩ := ok_lt hf
        refine z_iast hC hw hS rfl hin en dX12_plug_58 (fun H locs hw hS => ?_)
        clear en
        refine lv_iload_n hx hb dX12_plug_59 rfl (lv_at hl 0 rfl) ?_
        exact z_iretE hC hlocks hw hS hf hr rfl dX12_plug_60
      · have hf := hif.2 (fun q => q hcd)
        clear hif
        refine lv_ldc (v := -1000002) hx hb hown (hts _ wd650) dX12_plug_32 ?_
        exact z_iretE hC hlocks hw hS hf hr rfl dX12_plug_34
    · have hf := hif.2 (fun q => q hcd)
      clear hif
      exact J16 _ hf _ _ ls (lv_sub hl [] rfl) hw hS
set_option maxHeartbeats 4000000 in
set_option maxRecDepth 100000 in
theorem m_X12_mends (l : Launch) (E : Ev) {x1 : Int32} {x2 : Int32}  {s0 sz : St} (hf : f_X12_mends x1 x2 s0 = some sz) : MM l E sh2 yX12_mends cX12_mends 3 none (rmd 1) [.ref (E.2.2.1 259), .int x1, .int x2] s0 none sz := by
  unfold f_X12_mends at hf
  refine z_enter (by decide +kernel) (Nat.le_of_ble_eq_true rfl) ?_
  intro p e s m args below meth c ls hC hr hlocks hw hS hl
  have hC : Cx p s m args c cX12_mends 3 "FuseBoxModel" E := hC
  obtain ⟨hx, hb, hml, hown, hts, hTB⟩ := id hC
  have hl : lv_has ls 3 [(0, .ref (E.2.2.1 259)), (1, .int x1), (2, .int x2)] := hl
  refine lv_aload_n hx hb dX12_mends_0 rfl (lv_at hl 0 rfl) ?_
  refine gModel_slot hC hw wd598 dX12_mends_1 ?_
  refine lv_iload_n hx hb dX12_mends_4 rfl (lv_at hl 1 rfl) ?_
  refine lv_iconst (v := 4) hx hb dX12_mends_5 (by decide) ?_
  refine lv_iadd hx hb dX12_mends_6 ?_
  refine lv_iload_n hx hb dX12_mends_7 rfl (lv_at hl 2 rfl) ?_
  refine lv_iadd hx hb dX12_mends_8 ?_
  refine lv_iconst (v := 0) hx hb dX12_mends_9 (by decide) ?_
  obtain ⟨hin, hf⟩ := ok_chk hf
  obtain ⟨s_1, en, hf⟩ := ok_lt hf
  refine z_iast hC hw hS rfl hin en dX12_mends_10 (fun H locs hw hS => ?_)
  clear en
  refine lv_aload_n hx hb dX12_mends_11 rfl (lv_at hl 0 rfl) ?_
  refine gModel_slot hC hw wd598 dX12_mends_12 ?_
  refine lv_iload_n hx hb dX12_mends_15 rfl (lv_at hl 1 rfl) ?_
  refine lv_iload_n hx hb dX12_mends_16 rfl (lv_at hl 2 rfl) ?_
  refine lv_iadd hx hb dX12_mends_17 ?_
  refine lv_iconst (v := 0) hx hb dX12_mends_18 (by decide) ?_
  obtain ⟨hin, hf⟩ := ok_chk hf
  obtain ⟨s_2, en, hf⟩ := ok_lt hf
  refine z_iast hC hw hS rfl hin en dX12_mends_19 (fun H locs hw hS => ?_)
  clear en
  exact z_vretE hC hlocks hw hS hf hr dX12_mends_20
set_option maxHeartbeats 4000000 in
set_option maxRecDepth 100000 in
theorem m_X12_mend (l : Launch) (E : Ev) {x1 : Int32}  {s0 sz : St} {rz : Int32} (hf : f_X12_mend x1 s0 = some (rz, sz)) : MM l E sh2 yX12_mend cX12_mend 2 (some .int) (rmd 3) [.ref (E.2.2.1 259), .int x1] s0 (some (.int rz)) sz := by
  unfold f_X12_mend at hf
  refine z_enter (by decide +kernel) (Nat.le_of_ble_eq_true rfl) ?_
  intro p e s m args below meth c ls hC hr hlocks hw hS hl
  have hC : Cx p s m args c cX12_mend 2 "FuseBoxModel" E := hC
  obtain ⟨hx, hb, hml, hown, hts, hTB⟩ := id hC
  have hl : lv_has ls 2 [(0, .ref (E.2.2.1 259)), (1, .int x1)] := hl
  refine lv_aload_n hx hb dX12_mend_0 rfl (lv_at hl 0 rfl) ?_
  refine lv_iload_n hx hb dX12_mend_1 rfl (lv_at hl 1 rfl) ?_
  obtain ⟨r_2, s_1, hc, hf⟩ := ok_bd hf
  refine z_cV hC hl.1 hw hS (As := [.int x1]) (rest := []) (m_X12_isLine l E  hc) rfl rfl gc269 gc270 ⟨Nat.le_of_ble_eq_true rfl, Nat.le_of_ble_eq_true rfl⟩ ⟨Nat.le_of_ble_eq_true rfl, Nat.le_of_ble_eq_true rfl⟩ rfl rfl (Nat.le_of_ble_eq_true rfl) dX12_mend_2 (fun H locs hw hS => ?_)
  clear hc
  have hif := ok_if hf
  refine lv_if_ne (tgt := 11) hx hb dX12_mend_5 (by decide) (fun hcd => ?_) (fun hcd => ?_)
  · have hf := hif.1 hcd
    clear hif
    refine lv_aload_n hx hb dX12_mend_11 rfl (lv_at hl 0 rfl) ?_
    refine gModel_slot hC hw wd598 dX12_mend_12 ?_
    refine lv_iconst (v := 4) hx hb dX12_mend_15 (by decide) ?_
    refine lv_iload_n hx hb dX12_mend_16 rfl (lv_at hl 1 rfl) ?_
    refine lv_iadd hx hb dX12_mend_17 ?_
    obtain ⟨hin, hf⟩ := ok_chk hf
    refine z_iald hC hw rfl hin dX12_mend_18 ?_
    have hif := ok_if hf
    refine lv_if_ne (tgt := 25) hx hb dX12_mend_19 (by decide) (fun hcd => ?_) (fun hcd => ?_)
    · have hf := hif.1 hcd
      clear hif
      refine lv_aload_n hx hb dX12_mend_25 rfl (lv_at hl 0 rfl) ?_
      obtain ⟨s_3, hc, hf⟩ := ok_bind hf
      refine z_cV hC hl.1 hw hS (As := []) (rest := []) (m_X12_known l E  hc) rfl rfl gc261 gc262 ⟨Nat.le_of_ble_eq_true rfl, Nat.le_of_ble_eq_true rfl⟩ ⟨Nat.le_of_ble_eq_true rfl, Nat.le_of_ble_eq_true rfl⟩ rfl rfl (Nat.le_of_ble_eq_true rfl) dX12_mend_26 (fun H locs hw hS => ?_)
      clear hc
      refine lv_aload_n hx hb dX12_mend_29 rfl (lv_at hl 0 rfl) ?_
      refine lv_iconst (v := 0) hx hb dX12_mend_30 (by decide) ?_
      refine lv_iload_n hx hb dX12_mend_31 rfl (lv_at hl 1 rfl) ?_
      obtain ⟨s_4, hc, hf⟩ := ok_bind hf
      refine z_cV hC hl.1 hw hS (As := [.int (0 : Int32), .int x1]) (rest := []) (m_X12_mends l E  hc) rfl rfl gc271 gc272 ⟨Nat.le_of_ble_eq_true rfl, Nat.le_of_ble_eq_true rfl⟩ ⟨Nat.le_of_ble_eq_true rfl, Nat.le_of_ble_eq_true rfl⟩ rfl rfl (Nat.le_of_ble_eq_true rfl) dX12_mend_32 (fun H locs hw hS => ?_)
      clear hc
      refine lv_aload_n hx hb dX12_mend_35 rfl (lv_at hl 0 rfl) ?_
      obtain ⟨r_6, s_5, hc, hf⟩ := ok_bd hf
      refine z_cV hC hl.1 hw hS (As := []) (rest := []) (m_X12_deadOnes l E  hc) rfl rfl gc273 gc274 ⟨Nat.le_of_ble_eq_true rfl, Nat.le_of_ble_eq_true rfl⟩ ⟨Nat.le_of_ble_eq_true rfl, Nat.le_of_ble_eq_true rfl⟩ rfl rfl (Nat.le_of_ble_eq_true rfl) dX12_mend_36 (fun H locs hw hS => ?_)
      clear hc
      exact z_iretE hC hlocks hw hS hf hr rfl dX12_mend_39
    · have hf := hif.2 (fun q => q hcd)
      clear hif
      refine lv_ldc (v := -1000002) hx hb hown (hts _ wd650) dX12_mend_22 ?_
      exact z_iretE hC hlocks hw hS hf hr rfl dX12_mend_24
  · have hf := hif.2 (fun q => q hcd)
    clear hif
    refine lv_ldc (v := -1000001) hx hb hown (hts _ wd535) dX12_mend_8 ?_
    exact z_iretE hC hlocks hw hS hf hr rfl dX12_mend_10
set_option maxHeartbeats 4000000 in
set_option maxRecDepth 100000 in
theorem m_X12_mains (l : Launch) (E : Ev)   {s0 sz : St} {rz : Int32} (hf : f_X12_mains s0 = some (rz, sz)) : MM l E sh2 yX12_mains cX12_mains 1 (some .int) (rmd 3) [.ref (E.2.2.1 259)] s0 (some (.int rz)) sz := by
  unfold f_X12_mains at hf
  refine z_enter (by decide +kernel) (Nat.le_of_ble_eq_true rfl) ?_
  intro p e s m args below meth c ls hC hr hlocks hw hS hl
  have hC : Cx p s m args c cX12_mains 1 "FuseBoxModel" E := hC
  obtain ⟨hx, hb, hml, hown, hts, hTB⟩ := id hC
  have hl : lv_has ls 1 [(0, .ref (E.2.2.1 259))] := hl
  refine lv_aload_n hx hb dX12_mains_0 rfl (lv_at hl 0 rfl) ?_
  obtain ⟨r_2, s_1, hc, hf⟩ := ok_bd hf
  refine z_cV hC hl.1 hw hS (As := []) (rest := []) (m_X12_isHouse l E  hc) rfl rfl gc259 gc260 ⟨Nat.le_of_ble_eq_true rfl, Nat.le_of_ble_eq_true rfl⟩ ⟨Nat.le_of_ble_eq_true rfl, Nat.le_of_ble_eq_true rfl⟩ rfl rfl (Nat.le_of_ble_eq_true rfl) dX12_mains_1 (fun H locs hw hS => ?_)
  clear hc
  obtain ⟨j17, ej17, hf⟩ := ok_lt hf
  have J17 : ∀ (s_3 : St), j17 s_3 = some (rz, sz) → ∀ (H : Heap) (locs : List Loc) (ls : Array Slot), lv_has ls 1 [] → World E sh2 s_3 H → va_S E.2.2.2 s.heap H locs → W p l e (rmd 3) s m args below meth c H locs 0 0 (MQ below (QW E sh2 (some (.int rz)) sz) args s 0 0 E.2.2.2) (F0 m 17 ls []) := by
    intro s_3 hf H locs ls hl hw hS
    subst ej17
    refine lv_ldc (v := -1000002) hx hb hown (hts _ wd650) dX12_mains_17 ?_
    exact z_iretE hC hlocks hw hS hf hr rfl dX12_mains_19
  clear ej17
  have hif := ok_if hf
  refine lv_if_eq (tgt := 17) hx hb dX12_mains_4 (by decide) (fun hcd => ?_) (fun hcd => ?_)
  · have hf := hif.1 hcd
    clear hif
    exact J17 _ hf _ _ ls (lv_sub hl [] rfl) hw hS
  · have hf := hif.2 hcd
    clear hif
    refine lv_aload_n hx hb dX12_mains_7 rfl (lv_at hl 0 rfl) ?_
    refine gModel_slot hC hw wd598 dX12_mains_8 ?_
    refine lv_bipush (v := 24) hx hb dX12_mains_11 (by decide) ?_
    obtain ⟨hin, hf⟩ := ok_chk hf
    refine z_iald hC hw rfl hin dX12_mains_13 ?_
    have hif := ok_if hf
    refine lv_if_ne (tgt := 20) hx hb dX12_mains_14 (by decide) (fun hcd => ?_) (fun hcd => ?_)
    · have hf := hif.1 hcd
      clear hif
      refine lv_aload_n hx hb dX12_mains_20 rfl (lv_at hl 0 rfl) ?_
      obtain ⟨s_4, hc, hf⟩ := ok_bind hf
      refine z_cV hC hl.1 hw hS (As := []) (rest := []) (m_X12_known l E  hc) rfl rfl gc261 gc262 ⟨Nat.le_of_ble_eq_true rfl, Nat.le_of_ble_eq_true rfl⟩ ⟨Nat.le_of_ble_eq_true rfl, Nat.le_of_ble_eq_true rfl⟩ rfl rfl (Nat.le_of_ble_eq_true rfl) dX12_mains_21 (fun H locs hw hS => ?_)
      clear hc
      refine lv_aload_n hx hb dX12_mains_24 rfl (lv_at hl 0 rfl) ?_
      refine gModel_slot hC hw wd598 dX12_mains_25 ?_
      refine lv_bipush (v := 24) hx hb dX12_mains_28 (by decide) ?_
      refine lv_iconst (v := 0) hx hb dX12_mains_30 (by decide) ?_
      obtain ⟨hin, hf⟩ := ok_chk hf
      obtain ⟨s_5, en, hf⟩ := ok_lt hf
      refine z_iast hC hw hS rfl hin en dX12_mains_31 (fun H locs hw hS => ?_)
      clear en
      refine lv_aload_n hx hb dX12_mains_32 rfl (lv_at hl 0 rfl) ?_
      refine lv_iconst (v := 0) hx hb dX12_mains_33 (by decide) ?_
      obtain ⟨r_7, s_6, hc, hf⟩ := ok_bd hf
      refine z_cV hC hl.1 hw hS (As := [.int (0 : Int32)]) (rest := []) (m_X12_liveOnes l E  hc) rfl rfl gc247 gc248 ⟨Nat.le_of_ble_eq_true rfl, Nat.le_of_ble_eq_true rfl⟩ ⟨Nat.le_of_ble_eq_true rfl, Nat.le_of_ble_eq_true rfl⟩ rfl rfl (Nat.le_of_ble_eq_true rfl) dX12_mains_34 (fun H locs hw hS => ?_)
      clear hc
      exact z_iretE hC hlocks hw hS hf hr rfl dX12_mains_37
    · have hf := hif.2 (fun q => q hcd)
      clear hif
      exact J17 _ hf _ _ ls (lv_sub hl [] rfl) hw hS
set_option maxHeartbeats 4000000 in
set_option maxRecDepth 100000 in
theorem m_X12_rate (l : Launch) (E : Ev) {x1 : Int32} {x2 : Int32}  {s0 sz : St} {rz : Int32} (hf : f_X12_rate x1 x2 s0 = some (rz, sz)) : MM l E sh2 yX12_rate cX12_rate 4 (some .int) (rmd 3) [.ref (E.2.2.1 259), .int x1, .int x2] s0 (some (.int rz)) sz := by
  unfold f_X12_rate at hf
  refine z_enter (by decide +kernel) (Nat.le_of_ble_eq_true rfl) ?_
  intro p e s m args below meth c ls hC hr hlocks hw hS hl
  have hC : Cx p s m args c cX12_rate 4 "FuseBoxModel" E := hC
  obtain ⟨hx, hb, hml, hown, hts, hTB⟩ := id hC
  have hl : lv_has ls 4 [(0, .ref (E.2.2.1 259)), (1, .int x1), (2, .int x2)] := hl
  refine lv_aload_n hx hb dX12_rate_0 rfl (lv_at hl 0 rfl) ?_
  refine lv_iload_n hx hb dX12_rate_1 rfl (lv_at hl 1 rfl) ?_
  obtain ⟨r_2, s_1, hc, hf⟩ := ok_bd hf
  refine z_cV hC hl.1 hw hS (As := [.int x1]) (rest := []) (m_X12_isLine l E  hc) rfl rfl gc269 gc270 ⟨Nat.le_of_ble_eq_true rfl, Nat.le_of_ble_eq_true rfl⟩ ⟨Nat.le_of_ble_eq_true rfl, Nat.le_of_ble_eq_true rfl⟩ rfl rfl (Nat.le_of_ble_eq_true rfl) dX12_rate_2 (fun H locs hw hS => ?_)
  clear hc
  obtain ⟨j20, ej20, hf⟩ := ok_lt hf
  have J20 : ∀ (s_3 : St), j20 s_3 = some (rz, sz) → ∀ (H : Heap) (locs : List Loc) (ls : Array Slot), lv_has ls 4 [] → World E sh2 s_3 H → va_S E.2.2.2 s.heap H locs → W p l e (rmd 3) s m args below meth c H locs 0 0 (MQ below (QW E sh2 (some (.int rz)) sz) args s 0 0 E.2.2.2) (F0 m 20 ls []) := by
    intro s_3 hf H locs ls hl hw hS
    subst ej20
    refine lv_ldc (v := -1000001) hx hb hown (hts _ wd535) dX12_rate_20 ?_
    exact z_iretE hC hlocks hw hS hf hr rfl dX12_rate_22
  clear ej20
  have hif := ok_if hf
  refine lv_if_eq (tgt := 20) hx hb dX12_rate_5 (by decide) (fun hcd => ?_) (fun hcd => ?_)
  · have hf := hif.1 hcd
    clear hif
    exact J20 _ hf _ _ ls (lv_sub hl [] rfl) hw hS
  · have hf := hif.2 hcd
    clear hif
    refine lv_iload_n hx hb dX12_rate_8 rfl (lv_at hl 2 rfl) ?_
    refine lv_i2l (v := x2.toInt64) hx hb dX12_rate_9 rfl ?_
    refine lv_lconst (v := 1) hx hb dX12_rate_10 (by decide) ?_
    refine lv_ldc2 (v := 20) hx hb hown (hts _ wd671) dX12_rate_11 ?_
    obtain ⟨r_5, s_4, hc, hf⟩ := ok_bd hf
    refine z_cS hC hl.1 hw hS (As := [.long (x2.toInt64), .long (1 : Int64), .long (20 : Int64)]) (rest := []) (m_X12_in l E  hc) gc219 gc220 ⟨Nat.le_of_ble_eq_true rfl, Nat.le_of_ble_eq_true rfl⟩ ⟨Nat.le_of_ble_eq_true rfl, Nat.le_of_ble_eq_true rfl⟩ rfl rfl (Nat.le_of_ble_eq_true rfl) dX12_rate_14 (fun H locs hw hS => ?_)
    clear hc
    have hif := ok_if hf
    refine lv_if_ne (tgt := 23) hx hb dX12_rate_17 (by decide) (fun hcd => ?_) (fun hcd => ?_)
    · have hf := hif.1 hcd
      clear hif
      refine lv_aload_n hx hb dX12_rate_23 rfl (lv_at hl 0 rfl) ?_
      obtain ⟨s_6, hc, hf⟩ := ok_bind hf
      refine z_cV hC hl.1 hw hS (As := []) (rest := []) (m_X12_known l E  hc) rfl rfl gc261 gc262 ⟨Nat.le_of_ble_eq_true rfl, Nat.le_of_ble_eq_true rfl⟩ ⟨Nat.le_of_ble_eq_true rfl, Nat.le_of_ble_eq_true rfl⟩ rfl rfl (Nat.le_of_ble_eq_true rfl) dX12_rate_24 (fun H locs hw hS => ?_)
      clear hc
      refine lv_aload_n hx hb dX12_rate_27 rfl (lv_at hl 0 rfl) ?_
      refine gModel_slot hC hw wd598 dX12_rate_28 ?_
      refine lv_bipush (v := 8) hx hb dX12_rate_31 (by decide) ?_
      refine lv_iload_n hx hb dX12_rate_33 rfl (lv_at hl 1 rfl) ?_
      refine lv_iadd hx hb dX12_rate_34 ?_
      obtain ⟨hin, hf⟩ := ok_chk hf
      refine z_iald hC hw rfl hin dX12_rate_35 ?_
      obtain ⟨v3_7, en, hf⟩ := ok_lt hf
      refine z_nm en ?_
      clear en
      refine lv_istore_n (lv' := [(3, .int v3_7), (0, .ref (E.2.2.1 259)), (1, .int x1), (2, .int x2)]) hx hb dX12_rate_36 rfl hl (by decide) rfl (fun ls hl => ?_)
      refine lv_aload_n hx hb dX12_rate_37 rfl (lv_at hl 1 rfl) ?_
      refine gModel_slot hC hw wd598 dX12_rate_38 ?_
      refine lv_bipush (v := 8) hx hb dX12_rate_41 (by decide) ?_
      refine lv_iload_n hx hb dX12_rate_43 rfl (lv_at hl 2 rfl) ?_
      refine lv_iadd hx hb dX12_rate_44 ?_
      refine lv_iload_n hx hb dX12_rate_45 rfl (lv_at hl 3 rfl) ?_
      obtain ⟨hin, hf⟩ := ok_chk hf
      obtain ⟨s_8, en, hf⟩ := ok_lt hf
      refine z_iast hC hw hS rfl hin en dX12_rate_46 (fun H locs hw hS => ?_)
      clear en
      refine lv_iload_n hx hb dX12_rate_47 rfl (lv_at hl 0 rfl) ?_
      exact z_iretE hC hlocks hw hS hf hr rfl dX12_rate_48
    · have hf := hif.2 (fun q => q hcd)
      clear hif
      exact J20 _ hf _ _ ls (lv_sub hl [] rfl) hw hS
set_option maxHeartbeats 4000000 in
set_option maxRecDepth 100000 in
theorem m_X12_undo (l : Launch) (E : Ev)   {s0 sz : St} {rz : Int32} (hf : f_X12_undo s0 = some (rz, sz)) : MM l E sh2 yX12_undo cX12_undo 1 (some .int) (rmd 2) [.ref (E.2.2.1 259)] s0 (some (.int rz)) sz := by
  unfold f_X12_undo at hf
  refine z_enter (by decide +kernel) (Nat.le_of_ble_eq_true rfl) ?_
  intro p e s m args below meth c ls hC hr hlocks hw hS hl
  have hC : Cx p s m args c cX12_undo 1 "FuseBoxModel" E := hC
  obtain ⟨hx, hb, hml, hown, hts, hTB⟩ := id hC
  have hl : lv_has ls 1 [(0, .ref (E.2.2.1 259))] := hl
  refine lv_aload_n hx hb dX12_undo_0 rfl (lv_at hl 0 rfl) ?_
  refine gModel_acts hC hw wd596 dX12_undo_1 ?_
  have hif := ok_if hf
  refine lv_if_ne (tgt := 10) hx hb dX12_undo_4 (by decide) (fun hcd => ?_) (fun hcd => ?_)
  · have hf := hif.1 hcd
    clear hif
    refine lv_aload_n hx hb dX12_undo_10 rfl (lv_at hl 0 rfl) ?_
    refine lv_aload_n hx hb dX12_undo_11 rfl (lv_at hl 0 rfl) ?_
    refine gModel_acts hC hw wd596 dX12_undo_12 ?_
    refine lv_bipush (v := 27) hx hb dX12_undo_15 (by decide) ?_
    refine lv_imul hx hb dX12_undo_17 ?_
    refine lv_iconst (v := 0) hx hb dX12_undo_18 (by decide) ?_
    obtain ⟨s_1, hc, hf⟩ := ok_bind hf
    refine z_cV hC hl.1 hw hS (As := [.int ((s0 259 3) * (27 : Int32)), .int (0 : Int32)]) (rest := []) (m_X12_copies l E  hc) rfl rfl gc257 gc258 ⟨Nat.le_of_ble_eq_true rfl, Nat.le_of_ble_eq_true rfl⟩ ⟨Nat.le_of_ble_eq_true rfl, Nat.le_of_ble_eq_true rfl⟩ rfl rfl (Nat.le_of_ble_eq_true rfl) dX12_undo_19 (fun H locs hw hS => ?_)
    clear hc
    refine lv_aload_n hx hb dX12_undo_22 rfl (lv_at hl 0 rfl) ?_
    refine lv_dup hx hb dX12_undo_23 rfl ?_
    refine gModel_acts hC hw wd596 dX12_undo_24 ?_
    refine lv_iconst (v := 1) hx hb dX12_undo_27 (by decide) ?_
    refine lv_isub hx hb dX12_undo_28 ?_
    obtain ⟨s_2, en, hf⟩ := ok_lt hf
    refine pModel_acts hC hw hS wd596 en dX12_undo_29 (fun H locs hw hS => ?_)
    clear en
    refine lv_aload_n hx hb dX12_undo_32 rfl (lv_at hl 0 rfl) ?_
    refine gModel_acts hC hw wd596 dX12_undo_33 ?_
    exact z_iretE hC hlocks hw hS hf hr rfl dX12_undo_36
  · have hf := hif.2 (fun q => q hcd)
    clear hif
    refine lv_ldc (v := -1000002) hx hb hown (hts _ wd650) dX12_undo_7 ?_
    exact z_iretE hC hlocks hw hS hf hr rfl dX12_undo_9
set_option maxHeartbeats 4000000 in
set_option maxRecDepth 100000 in
theorem m_X12_line (l : Launch) (E : Ev) {x1 : Int32} {x2 : Int32}  {s0 sz : St} {rz : Int32} (hf : f_X12_line x1 x2 s0 = some (rz, sz)) : MM l E sh2 yX12_line cX12_line 5 (some .int) (rmd 4) [.ref (E.2.2.1 259), .int x1, .int x2] s0 (some (.int rz)) sz := by
  unfold f_X12_line at hf
  refine z_enter (by decide +kernel) (Nat.le_of_ble_eq_true rfl) ?_
  intro p e s m args below meth c ls hC hr hlocks hw hS hl
  have hC : Cx p s m args c cX12_line 5 "FuseBoxModel" E := hC
  obtain ⟨hx, hb, hml, hown, hts, hTB⟩ := id hC
  have hl : lv_has ls 5 [(0, .ref (E.2.2.1 259)), (1, .int x1), (2, .int x2)] := hl
  refine lv_aload_n hx hb dX12_line_0 rfl (lv_at hl 0 rfl) ?_
  refine lv_iload_n hx hb dX12_line_1 rfl (lv_at hl 1 rfl) ?_
  obtain ⟨r_2, s_1, hc, hf⟩ := ok_bd hf
  refine z_cV hC hl.1 hw hS (As := [.int x1]) (rest := []) (m_X12_isLine l E  hc) rfl rfl gc269 gc270 ⟨Nat.le_of_ble_eq_true rfl, Nat.le_of_ble_eq_true rfl⟩ ⟨Nat.le_of_ble_eq_true rfl, Nat.le_of_ble_eq_true rfl⟩ rfl rfl (Nat.le_of_ble_eq_true rfl) dX12_line_2 (fun H locs hw hS => ?_)
  clear hc
  obtain ⟨j20, ej20, hf⟩ := ok_lt hf
  have J20 : ∀ (s_3 : St), j20 s_3 = some (rz, sz) → ∀ (H : Heap) (locs : List Loc) (ls : Array Slot), lv_has ls 5 [] → World E sh2 s_3 H → va_S E.2.2.2 s.heap H locs → W p l e (rmd 4) s m args below meth c H locs 0 0 (MQ below (QW E sh2 (some (.int rz)) sz) args s 0 0 E.2.2.2) (F0 m 20 ls []) := by
    intro s_3 hf H locs ls hl hw hS
    subst ej20
    refine lv_ldc (v := -1000001) hx hb hown (hts _ wd535) dX12_line_20 ?_
    exact z_iretE hC hlocks hw hS hf hr rfl dX12_line_22
  clear ej20
  have hif := ok_if hf
  refine lv_if_eq (tgt := 20) hx hb dX12_line_5 (by decide) (fun hcd => ?_) (fun hcd => ?_)
  · have hf := hif.1 hcd
    clear hif
    exact J20 _ hf _ _ ls (lv_sub hl [] rfl) hw hS
  · have hf := hif.2 hcd
    clear hif
    refine lv_iload_n hx hb dX12_line_8 rfl (lv_at hl 2 rfl) ?_
    refine lv_i2l (v := x2.toInt64) hx hb dX12_line_9 rfl ?_
    refine lv_lconst (v := 0) hx hb dX12_line_10 (by decide) ?_
    refine lv_ldc2 (v := 5) hx hb hown (hts _ wd672) dX12_line_11 ?_
    obtain ⟨r_5, s_4, hc, hf⟩ := ok_bd hf
    refine z_cS hC hl.1 hw hS (As := [.long (x2.toInt64), .long (0 : Int64), .long (5 : Int64)]) (rest := []) (m_X12_in l E  hc) gc219 gc220 ⟨Nat.le_of_ble_eq_true rfl, Nat.le_of_ble_eq_true rfl⟩ ⟨Nat.le_of_ble_eq_true rfl, Nat.le_of_ble_eq_true rfl⟩ rfl rfl (Nat.le_of_ble_eq_true rfl) dX12_line_14 (fun H locs hw hS => ?_)
    clear hc
    have hif := ok_if hf
    refine lv_if_ne (tgt := 23) hx hb dX12_line_17 (by decide) (fun hcd => ?_) (fun hcd => ?_)
    · have hf := hif.1 hcd
      clear hif
      refine lv_iload_n hx hb dX12_line_23 rfl (lv_at hl 2 rfl) ?_
      refine lv_iconst (v := 5) hx hb dX12_line_24 (by decide) ?_
      have hif := ok_if hf
      refine lv_icmp_ne (tgt := 77) hx hb dX12_line_25 (by decide) (fun hcd => ?_) (fun hcd => ?_)
      · have hf := hif.1 hcd
        clear hif
        refine lv_iload_n hx hb dX12_line_77 rfl (lv_at hl 2 rfl) ?_
        obtain ⟨j151, ej151, hf⟩ := ok_lt hf
        have J151 : ∀ (k_6 : Int32) (s_7 : St), j151 k_6 s_7 = some (rz, sz) → ∀ (H : Heap) (locs : List Loc) (ls : Array Slot), lv_has ls 5 [] → World E sh2 s_7 H → va_S E.2.2.2 s.heap H locs → W p l e (rmd 4) s m args below meth c H locs 0 0 (MQ below (QW E sh2 (some (.int rz)) sz) args s 0 0 E.2.2.2) (F0 m 151 ls [.int k_6]) := by
          intro k_6 s_7 hf H locs ls hl hw hS
          subst ej151
          exact z_iretE hC hlocks hw hS hf hr rfl dX12_line_151
        clear ej151
        have hif := ok_if hf
        refine lv_if_ne (tgt := 93) hx hb dX12_line_78 (by decide) (fun hcd => ?_) (fun hcd => ?_)
        · have hf := hif.1 hcd
          clear hif
          refine lv_iload_n hx hb dX12_line_93 rfl (lv_at hl 2 rfl) ?_
          refine lv_iconst (v := 1) hx hb dX12_line_94 (by decide) ?_
          have hif := ok_if hf
          refine lv_icmp_ne (tgt := 107) hx hb dX12_line_95 (by decide) (fun hcd => ?_) (fun hcd => ?_)
          · have hf := hif.1 hcd
            clear hif
            refine lv_iload_n hx hb dX12_line_107 rfl (lv_at hl 2 rfl) ?_
            refine lv_iconst (v := 2) hx hb dX12_line_108 (by decide) ?_
            have hif := ok_if hf
            refine lv_icmp_ne (tgt := 123) hx hb dX12_line_109 (by decide) (fun hcd => ?_) (fun hcd => ?_)
            · have hf := hif.1 hcd
              clear hif
              refine lv_iload_n hx hb dX12_line_123 rfl (lv_at hl 2 rfl) ?_
              refine lv_iconst (v := 3) hx hb dX12_line_124 (by decide) ?_
              have hif := ok_if hf
              refine lv_icmp_ne (tgt := 145) hx hb dX12_line_125 (by decide) (fun hcd => ?_) (fun hcd => ?_)
              · have hf := hif.1 hcd
                clear hif
                refine lv_aload_n hx hb dX12_line_145 rfl (lv_at hl 0 rfl) ?_
                refine lv_iconst (v := 0) hx hb dX12_line_146 (by decide) ?_
                refine lv_iload_n hx hb dX12_line_147 rfl (lv_at hl 1 rfl) ?_
                obtain ⟨r_9, s_8, hc, hf⟩ := ok_bd hf
                refine z_cV hC hl.1 hw hS (As := [.int (0 : Int32), .int x1]) (rest := []) (m_X12_flowOf l E  hc) rfl rfl gc255 gc256 ⟨Nat.le_of_ble_eq_true rfl, Nat.le_of_ble_eq_true rfl⟩ ⟨Nat.le_of_ble_eq_true rfl, Nat.le_of_ble_eq_true rfl⟩ rfl rfl (Nat.le_of_ble_eq_true rfl) dX12_line_148 (fun H locs hw hS => ?_)
                clear hc
                exact J151 _ _ hf _ _ ls (lv_sub hl [] rfl) hw hS
              · have hf := hif.2 (fun q => q hcd)
                clear hif
                refine lv_aload_n hx hb dX12_line_128 rfl (lv_at hl 0 rfl) ?_
                refine lv_iconst (v := 0) hx hb dX12_line_129 (by decide) ?_
                refine lv_iload_n hx hb dX12_line_130 rfl (lv_at hl 1 rfl) ?_
                obtain ⟨r_11, s_10, hc, hf⟩ := ok_bd hf
                refine z_cV hC hl.1 hw hS (As := [.int (0 : Int32), .int x1]) (rest := []) (m_X12_isLive l E  hc) rfl rfl gc241 gc242 ⟨Nat.le_of_ble_eq_true rfl, Nat.le_of_ble_eq_true rfl⟩ ⟨Nat.le_of_ble_eq_true rfl, Nat.le_of_ble_eq_true rfl⟩ rfl rfl (Nat.le_of_ble_eq_true rfl) dX12_line_131 (fun H locs hw hS => ?_)
                clear hc
                have hif := ok_if hf
                refine lv_if_eq (tgt := 141) hx hb dX12_line_134 (by decide) (fun hcd => ?_) (fun hcd => ?_)
                · have hf := hif.1 hcd
                  clear hif
                  refine lv_iconst (v := 0) hx hb dX12_line_141 (by decide) ?_
                  refine lv_goto (tgt := 151) hx hb dX12_line_142 (by decide) ?_
                  exact J151 _ _ hf _ _ ls (lv_sub hl [] rfl) hw hS
                · have hf := hif.2 hcd
                  clear hif
                  refine lv_iconst (v := 1) hx hb dX12_line_137 (by decide) ?_
                  refine lv_goto (tgt := 151) hx hb dX12_line_138 (by decide) ?_
                  exact J151 _ _ hf _ _ ls (lv_sub hl [] rfl) hw hS
            · have hf := hif.2 (fun q => q hcd)
              clear hif
              refine lv_aload_n hx hb dX12_line_112 rfl (lv_at hl 0 rfl) ?_
              refine gModel_slot hC hw wd598 dX12_line_113 ?_
              refine lv_iconst (v := 4) hx hb dX12_line_116 (by decide) ?_
              refine lv_iload_n hx hb dX12_line_117 rfl (lv_at hl 1 rfl) ?_
              refine lv_iadd hx hb dX12_line_118 ?_
              obtain ⟨hin, hf⟩ := ok_chk hf
              refine z_iald hC hw rfl hin dX12_line_119 ?_
              refine lv_goto (tgt := 151) hx hb dX12_line_120 (by decide) ?_
              exact J151 _ _ hf _ _ ls (lv_sub hl [] rfl) hw hS
          · have hf := hif.2 (fun q => q hcd)
            clear hif
            refine lv_aload_n hx hb dX12_line_98 rfl (lv_at hl 0 rfl) ?_
            refine gModel_slot hC hw wd598 dX12_line_99 ?_
            refine lv_iload_n hx hb dX12_line_102 rfl (lv_at hl 1 rfl) ?_
            obtain ⟨hin, hf⟩ := ok_chk hf
            refine z_iald hC hw rfl hin dX12_line_103 ?_
            refine lv_goto (tgt := 151) hx hb dX12_line_104 (by decide) ?_
            exact J151 _ _ hf _ _ ls (lv_sub hl [] rfl) hw hS
        · have hf := hif.2 (fun q => q hcd)
          clear hif
          refine lv_aload_n hx hb dX12_line_81 rfl (lv_at hl 0 rfl) ?_
          refine gModel_slot hC hw wd598 dX12_line_82 ?_
          refine lv_bipush (v := 8) hx hb dX12_line_85 (by decide) ?_
          refine lv_iload_n hx hb dX12_line_87 rfl (lv_at hl 1 rfl) ?_
          refine lv_iadd hx hb dX12_line_88 ?_
          obtain ⟨hin, hf⟩ := ok_chk hf
          refine z_iald hC hw rfl hin dX12_line_89 ?_
          refine lv_goto (tgt := 151) hx hb dX12_line_90 (by decide) ?_
          exact J151 _ _ hf _ _ ls (lv_sub hl [] rfl) hw hS
      · have hf := hif.2 (fun q => q hcd)
        clear hif
        refine lv_iconst (v := 0) hx hb dX12_line_28 (by decide) ?_
        obtain ⟨v3_12, en, hf⟩ := ok_lt hf
        refine z_nm en ?_
        clear en
        refine lv_istore_n (lv' := [(3, .int v3_12), (0, .ref (E.2.2.1 259)), (1, .int x1), (2, .int x2)]) hx hb dX12_line_29 rfl hl (by decide) rfl (fun ls hl => ?_)
        refine lv_iconst (v := 0) hx hb dX12_line_30 (by decide) ?_
        obtain ⟨v4_13, en, hf⟩ := ok_lt hf
        refine z_nm en ?_
        clear en
        refine lv_istore (lv' := [(4, .int v4_13), (3, .int v3_12), (0, .ref (E.2.2.1 259)), (1, .int x1), (2, .int x2)]) hx hb dX12_line_31 hl (by decide) rfl (fun ls hl => ?_)
        obtain ⟨r33, hL33, hf⟩ := ok_bind hf
        have X33_0 : ∀ (v3_17 : Int32) (s_18 : St), (v3_17, s_18) = r33 → ∀ (H : Heap) (locs : List Loc) (ls : Array Slot), lv_has ls 5 [(3, .int v3_17)] → World E sh2 s_18 H → va_S E.2.2.2 s.heap H locs → W p l e (rmd 4) s m args below meth c H locs 0 0 (MQ below (QW E sh2 (some (.int rz)) sz) args s 0 0 E.2.2.2) (F0 m 75 ls []) := by
          intro v3_17 s_18 er H locs ls hl hw hS
          subst er
          replace hf := ok_un2 hf
          refine lv_iload_n hx hb dX12_line_75 rfl (lv_at hl 0 rfl) ?_
          exact z_iretE hC hlocks hw hS hf hr rfl dX12_line_76
        have L33 : ∀ (n : Nat) (v3_14 : Int32) (v4_15 : Int32) (s_16 : St), loopF (f_X12_line_L33 x1) n (v3_14, v4_15, s_16) = some r33 → ∀ (H : Heap) (locs : List Loc) (ls : Array Slot), lv_has ls 5 [(0, .ref (E.2.2.1 259)), (1, .int x1), (3, .int v3_14), (4, .int v4_15)] → World E sh2 s_16 H → va_S E.2.2.2 s.heap H locs → W p l e (rmd 4) s m args below meth c H locs 0 0 (MQ below (QW E sh2 (some (.int rz)) sz) args s 0 0 E.2.2.2) (F0 m 33 ls []) := by
          intro n
          induction n with
          | zero =>
            intro v3_14 v4_15 s_16 hf
            exact nz hf
          | succ n ih33 =>
            intro v3_14 v4_15 s_16 hf H locs ls hl hw hS
            obtain ⟨xl33, hf, hi33, he33⟩ := ok_loop hf
            unfold f_X12_line_L33 at hf
            replace hf := ok_un3 hf
            refine lv_iload hx hb dX12_line_33 (lv_at hl 3 rfl) ?_
            refine lv_aload_n hx hb dX12_line_35 rfl (lv_at hl 0 rfl) ?_
            refine gModel_told hC hw wd597 dX12_line_36 ?_
            refine lv_iconst (v := 1) hx hb dX12_line_39 (by decide) ?_
            obtain ⟨hin, hf⟩ := ok_chk hf
            refine z_iald hC hw rfl hin dX12_line_40 ?_
            have hif := ok_if hf
            refine lv_icmp_ge (tgt := 75) hx hb dX12_line_41 (by decide) (fun hcd => ?_) (fun hcd => ?_)
            · have hf := hif.1 hcd
              clear hif
              cases hf
              exact X33_0 _ _ (he33 _ rfl) _ _ ls (lv_sub hl [2] rfl) hw hS
            · have hf := hif.2 hcd
              clear hif
              refine lv_iload_n hx hb dX12_line_44 rfl (lv_at hl 2 rfl) ?_
              refine lv_aload_n hx hb dX12_line_45 rfl (lv_at hl 0 rfl) ?_
              refine gModel_slot hC hw wd598 dX12_line_46 ?_
              refine lv_bipush (v := 12) hx hb dX12_line_49 (by decide) ?_
              refine lv_iload hx hb dX12_line_51 (lv_at hl 3 rfl) ?_
              refine lv_iadd hx hb dX12_line_53 ?_
              obtain ⟨hin, hf⟩ := ok_chk hf
              refine z_iald hC hw rfl hin dX12_line_54 ?_
              refine lv_iload_n hx hb dX12_line_55 rfl (lv_at hl 1 rfl) ?_
              obtain ⟨j67, ej67, hf⟩ := ok_lt hf
              have J67 : ∀ (k_19 : Int32) (s_20 : St), j67 k_19 s_20 = some xl33 → ∀ (H : Heap) (locs : List Loc) (ls : Array Slot), lv_has ls 5 [(0, .ref (E.2.2.1 259)), (1, .int x1), (4, .int v4_15)] → World E sh2 s_20 H → va_S E.2.2.2 s.heap H locs → W p l e (rmd 4) s m args below meth c H locs 0 0 (MQ below (QW E sh2 (some (.int rz)) sz) args s 0 0 E.2.2.2) (F0 m 67 ls [.int k_19, .int v3_14]) := by
                intro k_19 s_20 hf H locs ls hl hw hS
                subst ej67
                refine lv_ior hx hb dX12_line_67 ?_
                obtain ⟨v3_21, en, hf⟩ := ok_lt hf
                refine z_nm en ?_
                clear en
                refine lv_istore_n (lv' := [(3, .int v3_21), (0, .ref (E.2.2.1 259)), (1, .int x1), (4, .int v4_15)]) hx hb dX12_line_68 rfl hl (by decide) rfl (fun ls hl => ?_)
                obtain ⟨v4_22, en, hf⟩ := ok_lt hf
                refine lv_iinc (v := v4_22) (lv' := [(4, .int v4_22), (3, .int v3_21), (0, .ref (E.2.2.1 259)), (1, .int x1)]) hx hb dX12_line_69 hl (k := 3) rfl (by rw [en]; rfl) (by decide) rfl (fun ls hl => ?_)
                clear en
                refine lv_goto (tgt := 33) hx hb dX12_line_72 (by decide) ?_
                cases hf
                exact ih33 _ _ _ (hi33 _ rfl) _ _ ls (lv_sub hl [2, 3, 1, 0] rfl) hw hS
              clear ej67
              have hif := ok_if hf
              refine lv_icmp_ne (tgt := 66) hx hb dX12_line_56 (by decide) (fun hcd => ?_) (fun hcd => ?_)
              · have hf := hif.1 hcd
                clear hif
                refine lv_iconst (v := 0) hx hb dX12_line_66 (by decide) ?_
                exact J67 _ _ hf _ _ ls (lv_sub hl [0, 1, 3] rfl) hw hS
              · have hf := hif.2 (fun q => q hcd)
                clear hif
                refine lv_iconst (v := 1) hx hb dX12_line_59 (by decide) ?_
                refine lv_iload hx hb dX12_line_60 (lv_at hl 3 rfl) ?_
                refine lv_ishl hx hb dX12_line_62 ?_
                refine lv_goto (tgt := 67) hx hb dX12_line_63 (by decide) ?_
                exact J67 _ _ hf _ _ ls (lv_sub hl [0, 1, 3] rfl) hw hS
        exact L33 5000 _ _ _ hL33 _ _ ls (lv_sub hl [2, 3, 1, 0] rfl) hw hS
    · have hf := hif.2 (fun q => q hcd)
      clear hif
      exact J20 _ hf _ _ ls (lv_sub hl [] rfl) hw hS
set_option maxHeartbeats 4000000 in
set_option maxRecDepth 100000 in
theorem m_X12_thing (l : Launch) (E : Ev) {x1 : Int32} {x2 : Int32}  {s0 sz : St} {rz : Int32} (hf : f_X12_thing x1 x2 s0 = some (rz, sz)) : MM l E sh2 yX12_thing cX12_thing 3 (some .int) (rmd 3) [.ref (E.2.2.1 259), .int x1, .int x2] s0 (some (.int rz)) sz := by
  unfold f_X12_thing at hf
  refine z_enter (by decide +kernel) (Nat.le_of_ble_eq_true rfl) ?_
  intro p e s m args below meth c ls hC hr hlocks hw hS hl
  have hC : Cx p s m args c cX12_thing 3 "FuseBoxModel" E := hC
  obtain ⟨hx, hb, hml, hown, hts, hTB⟩ := id hC
  have hl : lv_has ls 3 [(0, .ref (E.2.2.1 259)), (1, .int x1), (2, .int x2)] := hl
  refine lv_aload_n hx hb dX12_thing_0 rfl (lv_at hl 0 rfl) ?_
  refine lv_iload_n hx hb dX12_thing_1 rfl (lv_at hl 1 rfl) ?_
  obtain ⟨r_2, s_1, hc, hf⟩ := ok_bd hf
  refine z_cV hC hl.1 hw hS (As := [.int x1]) (rest := []) (m_X12_isThing l E  hc) rfl rfl gc265 gc266 ⟨Nat.le_of_ble_eq_true rfl, Nat.le_of_ble_eq_true rfl⟩ ⟨Nat.le_of_ble_eq_true rfl, Nat.le_of_ble_eq_true rfl⟩ rfl rfl (Nat.le_of_ble_eq_true rfl) dX12_thing_2 (fun H locs hw hS => ?_)
  clear hc
  obtain ⟨j20, ej20, hf⟩ := ok_lt hf
  have J20 : ∀ (s_3 : St), j20 s_3 = some (rz, sz) → ∀ (H : Heap) (locs : List Loc) (ls : Array Slot), lv_has ls 3 [] → World E sh2 s_3 H → va_S E.2.2.2 s.heap H locs → W p l e (rmd 3) s m args below meth c H locs 0 0 (MQ below (QW E sh2 (some (.int rz)) sz) args s 0 0 E.2.2.2) (F0 m 20 ls []) := by
    intro s_3 hf H locs ls hl hw hS
    subst ej20
    refine lv_ldc (v := -1000001) hx hb hown (hts _ wd535) dX12_thing_20 ?_
    exact z_iretE hC hlocks hw hS hf hr rfl dX12_thing_22
  clear ej20
  have hif := ok_if hf
  refine lv_if_eq (tgt := 20) hx hb dX12_thing_5 (by decide) (fun hcd => ?_) (fun hcd => ?_)
  · have hf := hif.1 hcd
    clear hif
    exact J20 _ hf _ _ ls (lv_sub hl [] rfl) hw hS
  · have hf := hif.2 hcd
    clear hif
    refine lv_iload_n hx hb dX12_thing_8 rfl (lv_at hl 2 rfl) ?_
    refine lv_i2l (v := x2.toInt64) hx hb dX12_thing_9 rfl ?_
    refine lv_lconst (v := 0) hx hb dX12_thing_10 (by decide) ?_
    refine lv_ldc2 (v := 3) hx hb hown (hts _ wd673) dX12_thing_11 ?_
    obtain ⟨r_5, s_4, hc, hf⟩ := ok_bd hf
    refine z_cS hC hl.1 hw hS (As := [.long (x2.toInt64), .long (0 : Int64), .long (3 : Int64)]) (rest := []) (m_X12_in l E  hc) gc219 gc220 ⟨Nat.le_of_ble_eq_true rfl, Nat.le_of_ble_eq_true rfl⟩ ⟨Nat.le_of_ble_eq_true rfl, Nat.le_of_ble_eq_true rfl⟩ rfl rfl (Nat.le_of_ble_eq_true rfl) dX12_thing_14 (fun H locs hw hS => ?_)
    clear hc
    have hif := ok_if hf
    refine lv_if_ne (tgt := 23) hx hb dX12_thing_17 (by decide) (fun hcd => ?_) (fun hcd => ?_)
    · have hf := hif.1 hcd
      clear hif
      refine lv_iload_n hx hb dX12_thing_23 rfl (lv_at hl 2 rfl) ?_
      obtain ⟨j87, ej87, hf⟩ := ok_lt hf
      have J87 : ∀ (k_6 : Int32) (s_7 : St), j87 k_6 s_7 = some (rz, sz) → ∀ (H : Heap) (locs : List Loc) (ls : Array Slot), lv_has ls 3 [] → World E sh2 s_7 H → va_S E.2.2.2 s.heap H locs → W p l e (rmd 3) s m args below meth c H locs 0 0 (MQ below (QW E sh2 (some (.int rz)) sz) args s 0 0 E.2.2.2) (F0 m 87 ls [.int k_6]) := by
        intro k_6 s_7 hf H locs ls hl hw hS
        subst ej87
        exact z_iretE hC hlocks hw hS hf hr rfl dX12_thing_87
      clear ej87
      have hif := ok_if hf
      refine lv_if_ne (tgt := 39) hx hb dX12_thing_24 (by decide) (fun hcd => ?_) (fun hcd => ?_)
      · have hf := hif.1 hcd
        clear hif
        refine lv_iload_n hx hb dX12_thing_39 rfl (lv_at hl 2 rfl) ?_
        refine lv_iconst (v := 1) hx hb dX12_thing_40 (by decide) ?_
        have hif := ok_if hf
        refine lv_icmp_ne (tgt := 56) hx hb dX12_thing_41 (by decide) (fun hcd => ?_) (fun hcd => ?_)
        · have hf := hif.1 hcd
          clear hif
          refine lv_iload_n hx hb dX12_thing_56 rfl (lv_at hl 2 rfl) ?_
          refine lv_iconst (v := 2) hx hb dX12_thing_57 (by decide) ?_
          have hif := ok_if hf
          refine lv_icmp_ne (tgt := 73) hx hb dX12_thing_58 (by decide) (fun hcd => ?_) (fun hcd => ?_)
          · have hf := hif.1 hcd
            clear hif
            refine lv_aload_n hx hb dX12_thing_73 rfl (lv_at hl 0 rfl) ?_
            refine lv_iconst (v := 0) hx hb dX12_thing_74 (by decide) ?_
            refine lv_iload_n hx hb dX12_thing_75 rfl (lv_at hl 1 rfl) ?_
            obtain ⟨r_9, s_8, hc, hf⟩ := ok_bd hf
            refine z_cV hC hl.1 hw hS (As := [.int (0 : Int32), .int x1]) (rest := []) (m_X12_runs l E  hc) rfl rfl gc243 gc244 ⟨Nat.le_of_ble_eq_true rfl, Nat.le_of_ble_eq_true rfl⟩ ⟨Nat.le_of_ble_eq_true rfl, Nat.le_of_ble_eq_true rfl⟩ rfl rfl (Nat.le_of_ble_eq_true rfl) dX12_thing_76 (fun H locs hw hS => ?_)
            clear hc
            have hif := ok_if hf
            refine lv_if_eq (tgt := 86) hx hb dX12_thing_79 (by decide) (fun hcd => ?_) (fun hcd => ?_)
            · have hf := hif.1 hcd
              clear hif
              refine lv_iconst (v := 0) hx hb dX12_thing_86 (by decide) ?_
              exact J87 _ _ hf _ _ ls (lv_sub hl [] rfl) hw hS
            · have hf := hif.2 hcd
              clear hif
              refine lv_iconst (v := 1) hx hb dX12_thing_82 (by decide) ?_
              refine lv_goto (tgt := 87) hx hb dX12_thing_83 (by decide) ?_
              exact J87 _ _ hf _ _ ls (lv_sub hl [] rfl) hw hS
          · have hf := hif.2 (fun q => q hcd)
            clear hif
            refine lv_aload_n hx hb dX12_thing_61 rfl (lv_at hl 0 rfl) ?_
            refine gModel_slot hC hw wd598 dX12_thing_62 ?_
            refine lv_bipush (v := 18) hx hb dX12_thing_65 (by decide) ?_
            refine lv_iload_n hx hb dX12_thing_67 rfl (lv_at hl 1 rfl) ?_
            refine lv_iadd hx hb dX12_thing_68 ?_
            obtain ⟨hin, hf⟩ := ok_chk hf
            refine z_iald hC hw rfl hin dX12_thing_69 ?_
            refine lv_goto (tgt := 87) hx hb dX12_thing_70 (by decide) ?_
            exact J87 _ _ hf _ _ ls (lv_sub hl [] rfl) hw hS
        · have hf := hif.2 (fun q => q hcd)
          clear hif
          refine lv_aload_n hx hb dX12_thing_44 rfl (lv_at hl 0 rfl) ?_
          refine gModel_told hC hw wd597 dX12_thing_45 ?_
          refine lv_bipush (v := 7) hx hb dX12_thing_48 (by decide) ?_
          refine lv_iload_n hx hb dX12_thing_50 rfl (lv_at hl 1 rfl) ?_
          refine lv_iadd hx hb dX12_thing_51 ?_
          obtain ⟨hin, hf⟩ := ok_chk hf
          refine z_iald hC hw rfl hin dX12_thing_52 ?_
          refine lv_goto (tgt := 87) hx hb dX12_thing_53 (by decide) ?_
          exact J87 _ _ hf _ _ ls (lv_sub hl [] rfl) hw hS
      · have hf := hif.2 (fun q => q hcd)
        clear hif
        refine lv_aload_n hx hb dX12_thing_27 rfl (lv_at hl 0 rfl) ?_
        refine gModel_slot hC hw wd598 dX12_thing_28 ?_
        refine lv_bipush (v := 12) hx hb dX12_thing_31 (by decide) ?_
        refine lv_iload_n hx hb dX12_thing_33 rfl (lv_at hl 1 rfl) ?_
        refine lv_iadd hx hb dX12_thing_34 ?_
        obtain ⟨hin, hf⟩ := ok_chk hf
        refine z_iald hC hw rfl hin dX12_thing_35 ?_
        refine lv_goto (tgt := 87) hx hb dX12_thing_36 (by decide) ?_
        exact J87 _ _ hf _ _ ls (lv_sub hl [] rfl) hw hS
    · have hf := hif.2 (fun q => q hcd)
      clear hif
      exact J20 _ hf _ _ ls (lv_sub hl [] rfl) hw hS
set_option maxHeartbeats 4000000 in
set_option maxRecDepth 100000 in
theorem m_X12_goesOn (l : Launch) (E : Ev) {x1 : Int32}  {s0 sz : St} (hf : f_X12_goesOn x1 s0 = some sz) : MM l E sh2 yX12_goesOn cX12_goesOn 3 none (rmd 5) [.ref (E.2.2.1 259), .int x1] s0 none sz := by
  unfold f_X12_goesOn at hf
  refine z_enter (by decide +kernel) (Nat.le_of_ble_eq_true rfl) ?_
  intro p e s m args below meth c ls hC hr hlocks hw hS hl
  have hC : Cx p s m args c cX12_goesOn 3 "FuseBoxModel" E := hC
  obtain ⟨hx, hb, hml, hown, hts, hTB⟩ := id hC
  have hl : lv_has ls 3 [(0, .ref (E.2.2.1 259)), (1, .int x1)] := hl
  refine lv_iconst (v := 0) hx hb dX12_goesOn_0 (by decide) ?_
  obtain ⟨v2_1, en, hf⟩ := ok_lt hf
  refine z_nm en ?_
  clear en
  refine lv_istore_n (lv' := [(2, .int v2_1), (0, .ref (E.2.2.1 259)), (1, .int x1)]) hx hb dX12_goesOn_1 rfl hl (by decide) rfl (fun ls hl => ?_)
  obtain ⟨r2, hL2, hf⟩ := ok_bind hf
  have X2_0 : ∀ (s_4 : St), s_4 = r2 → ∀ (H : Heap) (locs : List Loc) (ls : Array Slot), lv_has ls 3 [] → World E sh2 s_4 H → va_S E.2.2.2 s.heap H locs → W p l e (rmd 5) s m args below meth c H locs 0 0 (MQ below (QW E sh2 none sz) args s 0 0 E.2.2.2) (F0 m 20 ls []) := by
    intro s_4 er H locs ls hl hw hS
    subst er
    replace hf := ok_un1 hf
    exact z_vretE hC hlocks hw hS hf hr dX12_goesOn_20
  have L2 : ∀ (n : Nat) (v2_2 : Int32) (s_3 : St), loopF (f_X12_goesOn_L2 x1) n (v2_2, s_3) = some r2 → ∀ (H : Heap) (locs : List Loc) (ls : Array Slot), lv_has ls 3 [(0, .ref (E.2.2.1 259)), (1, .int x1), (2, .int v2_2)] → World E sh2 s_3 H → va_S E.2.2.2 s.heap H locs → W p l e (rmd 5) s m args below meth c H locs 0 0 (MQ below (QW E sh2 none sz) args s 0 0 E.2.2.2) (F0 m 2 ls []) := by
    intro n
    induction n with
    | zero =>
      intro v2_2 s_3 hf
      exact nz hf
    | succ n ih2 =>
      intro v2_2 s_3 hf H locs ls hl hw hS
      obtain ⟨xl2, hf, hi2, he2⟩ := ok_loop hf
      unfold f_X12_goesOn_L2 at hf
      replace hf := ok_un2 hf
      refine lv_iload_n hx hb dX12_goesOn_2 rfl (lv_at hl 2 rfl) ?_
      refine lv_iload_n hx hb dX12_goesOn_3 rfl (lv_at hl 1 rfl) ?_
      have hif := ok_if hf
      refine lv_icmp_ge (tgt := 20) hx hb dX12_goesOn_4 (by decide) (fun hcd => ?_) (fun hcd => ?_)
      · have hf := hif.1 hcd
        clear hif
        cases hf
        exact X2_0 _ (he2 _ rfl) _ _ ls (lv_sub hl [] rfl) hw hS
      · have hf := hif.2 hcd
        clear hif
        refine lv_aload_n hx hb dX12_goesOn_7 rfl (lv_at hl 0 rfl) ?_
        refine lv_sipush (v := 729) hx hb dX12_goesOn_8 (by decide) ?_
        obtain ⟨s_5, hc, hf⟩ := ok_bind hf
        refine z_cV hC hl.1 hw hS (As := [.int (729 : Int32)]) (rest := []) (m_X12_passes l E  hc) rfl rfl gc263 gc264 ⟨Nat.le_of_ble_eq_true rfl, Nat.le_of_ble_eq_true rfl⟩ ⟨Nat.le_of_ble_eq_true rfl, Nat.le_of_ble_eq_true rfl⟩ rfl rfl (Nat.le_of_ble_eq_true rfl) dX12_goesOn_11 (fun H locs hw hS => ?_)
        clear hc
        obtain ⟨v2_6, en, hf⟩ := ok_lt hf
        refine lv_iinc (v := v2_6) (lv' := [(2, .int v2_6), (0, .ref (E.2.2.1 259)), (1, .int x1)]) hx hb dX12_goesOn_14 hl (k := 2) rfl (by rw [en]; rfl) (by decide) rfl (fun ls hl => ?_)
        clear en
        refine lv_goto (tgt := 2) hx hb dX12_goesOn_17 (by decide) ?_
        cases hf
        exact ih2 _ _ (hi2 _ rfl) _ _ ls (lv_sub hl [1, 2, 0] rfl) hw hS
  exact L2 5000 _ _ hL2 _ _ ls (lv_sub hl [1, 2, 0] rfl) hw hS
set_option maxHeartbeats 4000000 in
set_option maxRecDepth 100000 in
theorem m_X12_heat (l : Launch) (E : Ev) {x1 : Int32} {x2 : Int32}  {s0 sz : St} {rz : Int32} (hf : f_X12_heat x1 x2 s0 = some (rz, sz)) : MM l E sh2 yX12_heat cX12_heat 3 (some .int) (rmd 6) [.ref (E.2.2.1 259), .int x1, .int x2] s0 (some (.int rz)) sz := by
  unfold f_X12_heat at hf
  refine z_enter (by decide +kernel) (Nat.le_of_ble_eq_true rfl) ?_
  intro p e s m args below meth c ls hC hr hlocks hw hS hl
  have hC : Cx p s m args c cX12_heat 3 "FuseBoxModel" E := hC
  obtain ⟨hx, hb, hml, hown, hts, hTB⟩ := id hC
  have hl : lv_has ls 3 [(0, .ref (E.2.2.1 259)), (1, .int x1), (2, .int x2)] := hl
  refine lv_aload_n hx hb dX12_heat_0 rfl (lv_at hl 0 rfl) ?_
  refine lv_iload_n hx hb dX12_heat_1 rfl (lv_at hl 1 rfl) ?_
  obtain ⟨r_2, s_1, hc, hf⟩ := ok_bd hf
  refine z_cV hC hl.1 hw hS (As := [.int x1]) (rest := []) (m_X12_isLine l E  hc) rfl rfl gc269 gc270 ⟨Nat.le_of_ble_eq_true rfl, Nat.le_of_ble_eq_true rfl⟩ ⟨Nat.le_of_ble_eq_true rfl, Nat.le_of_ble_eq_true rfl⟩ rfl rfl (Nat.le_of_ble_eq_true rfl) dX12_heat_2 (fun H locs hw hS => ?_)
  clear hc
  obtain ⟨j20, ej20, hf⟩ := ok_lt hf
  have J20 : ∀ (s_3 : St), j20 s_3 = some (rz, sz) → ∀ (H : Heap) (locs : List Loc) (ls : Array Slot), lv_has ls 3 [] → World E sh2 s_3 H → va_S E.2.2.2 s.heap H locs → W p l e (rmd 6) s m args below meth c H locs 0 0 (MQ below (QW E sh2 (some (.int rz)) sz) args s 0 0 E.2.2.2) (F0 m 20 ls []) := by
    intro s_3 hf H locs ls hl hw hS
    subst ej20
    refine lv_ldc (v := -1000001) hx hb hown (hts _ wd535) dX12_heat_20 ?_
    exact z_iretE hC hlocks hw hS hf hr rfl dX12_heat_22
  clear ej20
  have hif := ok_if hf
  refine lv_if_eq (tgt := 20) hx hb dX12_heat_5 (by decide) (fun hcd => ?_) (fun hcd => ?_)
  · have hf := hif.1 hcd
    clear hif
    exact J20 _ hf _ _ ls (lv_sub hl [] rfl) hw hS
  · have hf := hif.2 hcd
    clear hif
    refine lv_iload_n hx hb dX12_heat_8 rfl (lv_at hl 2 rfl) ?_
    refine lv_i2l (v := x2.toInt64) hx hb dX12_heat_9 rfl ?_
    refine lv_lconst (v := 0) hx hb dX12_heat_10 (by decide) ?_
    refine lv_ldc2 (v := 60) hx hb hown (hts _ wd674) dX12_heat_11 ?_
    obtain ⟨r_5, s_4, hc, hf⟩ := ok_bd hf
    refine z_cS hC hl.1 hw hS (As := [.long (x2.toInt64), .long (0 : Int64), .long (60 : Int64)]) (rest := []) (m_X12_in l E  hc) gc219 gc220 ⟨Nat.le_of_ble_eq_true rfl, Nat.le_of_ble_eq_true rfl⟩ ⟨Nat.le_of_ble_eq_true rfl, Nat.le_of_ble_eq_true rfl⟩ rfl rfl (Nat.le_of_ble_eq_true rfl) dX12_heat_14 (fun H locs hw hS => ?_)
    clear hc
    have hif := ok_if hf
    refine lv_if_ne (tgt := 23) hx hb dX12_heat_17 (by decide) (fun hcd => ?_) (fun hcd => ?_)
    · have hf := hif.1 hcd
      clear hif
      refine lv_aload_n hx hb dX12_heat_23 rfl (lv_at hl 0 rfl) ?_
      refine lv_iconst (v := 0) hx hb dX12_heat_24 (by decide) ?_
      refine lv_sipush (v := 729) hx hb dX12_heat_25 (by decide) ?_
      obtain ⟨s_6, hc, hf⟩ := ok_bind hf
      refine z_cV hC hl.1 hw hS (As := [.int (0 : Int32), .int (729 : Int32)]) (rest := []) (m_X12_copies l E  hc) rfl rfl gc257 gc258 ⟨Nat.le_of_ble_eq_true rfl, Nat.le_of_ble_eq_true rfl⟩ ⟨Nat.le_of_ble_eq_true rfl, Nat.le_of_ble_eq_true rfl⟩ rfl rfl (Nat.le_of_ble_eq_true rfl) dX12_heat_28 (fun H locs hw hS => ?_)
      clear hc
      refine lv_aload_n hx hb dX12_heat_31 rfl (lv_at hl 0 rfl) ?_
      refine lv_iload_n hx hb dX12_heat_32 rfl (lv_at hl 2 rfl) ?_
      obtain ⟨s_7, hc, hf⟩ := ok_bind hf
      refine z_cV hC hl.1 hw hS (As := [.int x2]) (rest := []) (m_X12_goesOn l E  hc) rfl rfl gc275 gc276 ⟨Nat.le_of_ble_eq_true rfl, Nat.le_of_ble_eq_true rfl⟩ ⟨Nat.le_of_ble_eq_true rfl, Nat.le_of_ble_eq_true rfl⟩ rfl rfl (Nat.le_of_ble_eq_true rfl) dX12_heat_33 (fun H locs hw hS => ?_)
      clear hc
      refine lv_aload_n hx hb dX12_heat_36 rfl (lv_at hl 0 rfl) ?_
      refine gModel_slot hC hw wd598 dX12_heat_37 ?_
      refine lv_sipush (v := 729) hx hb dX12_heat_40 (by decide) ?_
      refine lv_iload_n hx hb dX12_heat_43 rfl (lv_at hl 1 rfl) ?_
      refine lv_iadd hx hb dX12_heat_44 ?_
      obtain ⟨hin, hf⟩ := ok_chk hf
      refine z_iald hC hw rfl hin dX12_heat_45 ?_
      exact z_iretE hC hlocks hw hS hf hr rfl dX12_heat_46
    · have hf := hif.2 (fun q => q hcd)
      clear hif
      exact J20 _ hf _ _ ls (lv_sub hl [] rfl) hw hS
set_option maxHeartbeats 4000000 in
set_option maxRecDepth 100000 in
theorem m_X12_later (l : Launch) (E : Ev) {x1 : Int32} {x2 : Int32}  {s0 sz : St} {rz : Int32} (hf : f_X12_later x1 x2 s0 = some (rz, sz)) : MM l E sh2 yX12_later cX12_later 3 (some .int) (rmd 6) [.ref (E.2.2.1 259), .int x1, .int x2] s0 (some (.int rz)) sz := by
  unfold f_X12_later at hf
  refine z_enter (by decide +kernel) (Nat.le_of_ble_eq_true rfl) ?_
  intro p e s m args below meth c ls hC hr hlocks hw hS hl
  have hC : Cx p s m args c cX12_later 3 "FuseBoxModel" E := hC
  obtain ⟨hx, hb, hml, hown, hts, hTB⟩ := id hC
  have hl : lv_has ls 3 [(0, .ref (E.2.2.1 259)), (1, .int x1), (2, .int x2)] := hl
  refine lv_aload_n hx hb dX12_later_0 rfl (lv_at hl 0 rfl) ?_
  obtain ⟨r_2, s_1, hc, hf⟩ := ok_bd hf
  refine z_cV hC hl.1 hw hS (As := []) (rest := []) (m_X12_isHouse l E  hc) rfl rfl gc259 gc260 ⟨Nat.le_of_ble_eq_true rfl, Nat.le_of_ble_eq_true rfl⟩ ⟨Nat.le_of_ble_eq_true rfl, Nat.le_of_ble_eq_true rfl⟩ rfl rfl (Nat.le_of_ble_eq_true rfl) dX12_later_1 (fun H locs hw hS => ?_)
  clear hc
  have hif := ok_if hf
  refine lv_if_ne (tgt := 10) hx hb dX12_later_4 (by decide) (fun hcd => ?_) (fun hcd => ?_)
  · have hf := hif.1 hcd
    clear hif
    refine lv_iload_n hx hb dX12_later_10 rfl (lv_at hl 1 rfl) ?_
    refine lv_i2l (v := x1.toInt64) hx hb dX12_later_11 rfl ?_
    refine lv_lconst (v := 0) hx hb dX12_later_12 (by decide) ?_
    refine lv_ldc2 (v := 60) hx hb hown (hts _ wd674) dX12_later_13 ?_
    obtain ⟨r_4, s_3, hc, hf⟩ := ok_bd hf
    refine z_cS hC hl.1 hw hS (As := [.long (x1.toInt64), .long (0 : Int64), .long (60 : Int64)]) (rest := []) (m_X12_in l E  hc) gc219 gc220 ⟨Nat.le_of_ble_eq_true rfl, Nat.le_of_ble_eq_true rfl⟩ ⟨Nat.le_of_ble_eq_true rfl, Nat.le_of_ble_eq_true rfl⟩ rfl rfl (Nat.le_of_ble_eq_true rfl) dX12_later_16 (fun H locs hw hS => ?_)
    clear hc
    obtain ⟨j34, ej34, hf⟩ := ok_lt hf
    have J34 : ∀ (s_5 : St), j34 s_5 = some (rz, sz) → ∀ (H : Heap) (locs : List Loc) (ls : Array Slot), lv_has ls 3 [] → World E sh2 s_5 H → va_S E.2.2.2 s.heap H locs → W p l e (rmd 6) s m args below meth c H locs 0 0 (MQ below (QW E sh2 (some (.int rz)) sz) args s 0 0 E.2.2.2) (F0 m 34 ls []) := by
      intro s_5 hf H locs ls hl hw hS
      subst ej34
      refine lv_ldc (v := -1000001) hx hb hown (hts _ wd535) dX12_later_34 ?_
      exact z_iretE hC hlocks hw hS hf hr rfl dX12_later_36
    clear ej34
    have hif := ok_if hf
    refine lv_if_eq (tgt := 34) hx hb dX12_later_19 (by decide) (fun hcd => ?_) (fun hcd => ?_)
    · have hf := hif.1 hcd
      clear hif
      exact J34 _ hf _ _ ls (lv_sub hl [] rfl) hw hS
    · have hf := hif.2 hcd
      clear hif
      refine lv_iload_n hx hb dX12_later_22 rfl (lv_at hl 2 rfl) ?_
      refine lv_i2l (v := x2.toInt64) hx hb dX12_later_23 rfl ?_
      refine lv_lconst (v := 0) hx hb dX12_later_24 (by decide) ?_
      refine lv_ldc2 (v := 2) hx hb hown (hts _ wd536) dX12_later_25 ?_
      obtain ⟨r_7, s_6, hc, hf⟩ := ok_bd hf
      refine z_cS hC hl.1 hw hS (As := [.long (x2.toInt64), .long (0 : Int64), .long (2 : Int64)]) (rest := []) (m_X12_in l E  hc) gc219 gc220 ⟨Nat.le_of_ble_eq_true rfl, Nat.le_of_ble_eq_true rfl⟩ ⟨Nat.le_of_ble_eq_true rfl, Nat.le_of_ble_eq_true rfl⟩ rfl rfl (Nat.le_of_ble_eq_true rfl) dX12_later_28 (fun H locs hw hS => ?_)
      clear hc
      have hif := ok_if hf
      refine lv_if_ne (tgt := 37) hx hb dX12_later_31 (by decide) (fun hcd => ?_) (fun hcd => ?_)
      · have hf := hif.1 hcd
        clear hif
        refine lv_aload_n hx hb dX12_later_37 rfl (lv_at hl 0 rfl) ?_
        refine lv_iconst (v := 0) hx hb dX12_later_38 (by decide) ?_
        refine lv_sipush (v := 729) hx hb dX12_later_39 (by decide) ?_
        obtain ⟨s_8, hc, hf⟩ := ok_bind hf
        refine z_cV hC hl.1 hw hS (As := [.int (0 : Int32), .int (729 : Int32)]) (rest := []) (m_X12_copies l E  hc) rfl rfl gc257 gc258 ⟨Nat.le_of_ble_eq_true rfl, Nat.le_of_ble_eq_true rfl⟩ ⟨Nat.le_of_ble_eq_true rfl, Nat.le_of_ble_eq_true rfl⟩ rfl rfl (Nat.le_of_ble_eq_true rfl) dX12_later_42 (fun H locs hw hS => ?_)
        clear hc
        refine lv_aload_n hx hb dX12_later_45 rfl (lv_at hl 0 rfl) ?_
        refine lv_iload_n hx hb dX12_later_46 rfl (lv_at hl 1 rfl) ?_
        obtain ⟨s_9, hc, hf⟩ := ok_bind hf
        refine z_cV hC hl.1 hw hS (As := [.int x1]) (rest := []) (m_X12_goesOn l E  hc) rfl rfl gc275 gc276 ⟨Nat.le_of_ble_eq_true rfl, Nat.le_of_ble_eq_true rfl⟩ ⟨Nat.le_of_ble_eq_true rfl, Nat.le_of_ble_eq_true rfl⟩ rfl rfl (Nat.le_of_ble_eq_true rfl) dX12_later_47 (fun H locs hw hS => ?_)
        clear hc
        refine lv_iload_n hx hb dX12_later_50 rfl (lv_at hl 2 rfl) ?_
        obtain ⟨j87, ej87, hf⟩ := ok_lt hf
        have J87 : ∀ (k_10 : Int32) (s_11 : St), j87 k_10 s_11 = some (rz, sz) → ∀ (H : Heap) (locs : List Loc) (ls : Array Slot), lv_has ls 3 [] → World E sh2 s_11 H → va_S E.2.2.2 s.heap H locs → W p l e (rmd 6) s m args below meth c H locs 0 0 (MQ below (QW E sh2 (some (.int rz)) sz) args s 0 0 E.2.2.2) (F0 m 87 ls [.int k_10]) := by
          intro k_10 s_11 hf H locs ls hl hw hS
          subst ej87
          exact z_iretE hC hlocks hw hS hf hr rfl dX12_later_87
        clear ej87
        have hif := ok_if hf
        refine lv_if_ne (tgt := 64) hx hb dX12_later_51 (by decide) (fun hcd => ?_) (fun hcd => ?_)
        · have hf := hif.1 hcd
          clear hif
          refine lv_iload_n hx hb dX12_later_64 rfl (lv_at hl 2 rfl) ?_
          refine lv_iconst (v := 1) hx hb dX12_later_65 (by decide) ?_
          have hif := ok_if hf
          refine lv_icmp_ne (tgt := 79) hx hb dX12_later_66 (by decide) (fun hcd => ?_) (fun hcd => ?_)
          · have hf := hif.1 hcd
            clear hif
            refine lv_aload_n hx hb dX12_later_79 rfl (lv_at hl 0 rfl) ?_
            refine gModel_slot hC hw wd598 dX12_later_80 ?_
            refine lv_sipush (v := 754) hx hb dX12_later_83 (by decide) ?_
            obtain ⟨hin, hf⟩ := ok_chk hf
            refine z_iald hC hw rfl hin dX12_later_86 ?_
            exact J87 _ _ hf _ _ ls (lv_sub hl [] rfl) hw hS
          · have hf := hif.2 (fun q => q hcd)
            clear hif
            refine lv_aload_n hx hb dX12_later_69 rfl (lv_at hl 0 rfl) ?_
            refine lv_sipush (v := 729) hx hb dX12_later_70 (by decide) ?_
            obtain ⟨r_13, s_12, hc, hf⟩ := ok_bd hf
            refine z_cV hC hl.1 hw hS (As := [.int (729 : Int32)]) (rest := []) (m_X12_running l E  hc) rfl rfl gc267 gc268 ⟨Nat.le_of_ble_eq_true rfl, Nat.le_of_ble_eq_true rfl⟩ ⟨Nat.le_of_ble_eq_true rfl, Nat.le_of_ble_eq_true rfl⟩ rfl rfl (Nat.le_of_ble_eq_true rfl) dX12_later_73 (fun H locs hw hS => ?_)
            clear hc
            refine lv_goto (tgt := 87) hx hb dX12_later_76 (by decide) ?_
            exact J87 _ _ hf _ _ ls (lv_sub hl [] rfl) hw hS
        · have hf := hif.2 (fun q => q hcd)
          clear hif
          refine lv_aload_n hx hb dX12_later_54 rfl (lv_at hl 0 rfl) ?_
          refine lv_sipush (v := 729) hx hb dX12_later_55 (by decide) ?_
          obtain ⟨r_15, s_14, hc, hf⟩ := ok_bd hf
          refine z_cV hC hl.1 hw hS (As := [.int (729 : Int32)]) (rest := []) (m_X12_liveOnes l E  hc) rfl rfl gc247 gc248 ⟨Nat.le_of_ble_eq_true rfl, Nat.le_of_ble_eq_true rfl⟩ ⟨Nat.le_of_ble_eq_true rfl, Nat.le_of_ble_eq_true rfl⟩ rfl rfl (Nat.le_of_ble_eq_true rfl) dX12_later_58 (fun H locs hw hS => ?_)
          clear hc
          refine lv_goto (tgt := 87) hx hb dX12_later_61 (by decide) ?_
          exact J87 _ _ hf _ _ ls (lv_sub hl [] rfl) hw hS
      · have hf := hif.2 (fun q => q hcd)
        clear hif
        exact J34 _ hf _ _ ls (lv_sub hl [] rfl) hw hS
  · have hf := hif.2 (fun q => q hcd)
    clear hif
    refine lv_ldc (v := -1000002) hx hb hown (hts _ wd650) dX12_later_7 ?_
    exact z_iretE hC hlocks hw hS hf hr rfl dX12_later_9
set_option maxHeartbeats 4000000 in
set_option maxRecDepth 100000 in
theorem m_X12_lost (l : Launch) (E : Ev) {x1 : Int32}  {s0 sz : St} {rz : Int32} (hf : f_X12_lost x1 s0 = some (rz, sz)) : MM l E sh2 yX12_lost cX12_lost 3 (some .int) (rmd 6) [.ref (E.2.2.1 259), .int x1] s0 (some (.int rz)) sz := by
  unfold f_X12_lost at hf
  refine z_enter (by decide +kernel) (Nat.le_of_ble_eq_true rfl) ?_
  intro p e s m args below meth c ls hC hr hlocks hw hS hl
  have hC : Cx p s m args c cX12_lost 3 "FuseBoxModel" E := hC
  obtain ⟨hx, hb, hml, hown, hts, hTB⟩ := id hC
  have hl : lv_has ls 3 [(0, .ref (E.2.2.1 259)), (1, .int x1)] := hl
  refine lv_aload_n hx hb dX12_lost_0 rfl (lv_at hl 0 rfl) ?_
  refine lv_iload_n hx hb dX12_lost_1 rfl (lv_at hl 1 rfl) ?_
  obtain ⟨r_2, s_1, hc, hf⟩ := ok_bd hf
  refine z_cV hC hl.1 hw hS (As := [.int x1]) (rest := []) (m_X12_isLine l E  hc) rfl rfl gc269 gc270 ⟨Nat.le_of_ble_eq_true rfl, Nat.le_of_ble_eq_true rfl⟩ ⟨Nat.le_of_ble_eq_true rfl, Nat.le_of_ble_eq_true rfl⟩ rfl rfl (Nat.le_of_ble_eq_true rfl) dX12_lost_2 (fun H locs hw hS => ?_)
  clear hc
  have hif := ok_if hf
  refine lv_if_ne (tgt := 11) hx hb dX12_lost_5 (by decide) (fun hcd => ?_) (fun hcd => ?_)
  · have hf := hif.1 hcd
    clear hif
    refine lv_aload_n hx hb dX12_lost_11 rfl (lv_at hl 0 rfl) ?_
    refine lv_iconst (v := 0) hx hb dX12_lost_12 (by decide) ?_
    refine lv_sipush (v := 729) hx hb dX12_lost_13 (by decide) ?_
    obtain ⟨s_3, hc, hf⟩ := ok_bind hf
    refine z_cV hC hl.1 hw hS (As := [.int (0 : Int32), .int (729 : Int32)]) (rest := []) (m_X12_copies l E  hc) rfl rfl gc257 gc258 ⟨Nat.le_of_ble_eq_true rfl, Nat.le_of_ble_eq_true rfl⟩ ⟨Nat.le_of_ble_eq_true rfl, Nat.le_of_ble_eq_true rfl⟩ rfl rfl (Nat.le_of_ble_eq_true rfl) dX12_lost_16 (fun H locs hw hS => ?_)
    clear hc
    refine lv_iconst (v := 0) hx hb dX12_lost_19 (by decide) ?_
    obtain ⟨v2_4, en, hf⟩ := ok_lt hf
    refine z_nm en ?_
    clear en
    refine lv_istore_n (lv' := [(2, .int v2_4), (0, .ref (E.2.2.1 259)), (1, .int x1)]) hx hb dX12_lost_20 rfl hl (by decide) rfl (fun ls hl => ?_)
    obtain ⟨r21, hL21, hf⟩ := ok_bind hf
    have X21_0 : ∀ (s_7 : St), (.inl s_7) = r21 → ∀ (H : Heap) (locs : List Loc) (ls : Array Slot), lv_has ls 3 [] → World E sh2 s_7 H → va_S E.2.2.2 s.heap H locs → W p l e (rmd 6) s m args below meth c H locs 0 0 (MQ below (QW E sh2 (some (.int rz)) sz) args s 0 0 E.2.2.2) (F0 m 51 ls []) := by
      intro s_7 er H locs ls hl hw hS
      subst er
      replace hf := ok_sell (hf)
      replace hf := ok_un1 hf
      refine lv_ldc (v := -1000000) hx hb hown (hts _ wd679) dX12_lost_51 ?_
      exact z_iretE hC hlocks hw hS hf hr rfl dX12_lost_53
    have X21_1 : ∀ (v2_8 : Int32) (s_9 : St), (.inr (v2_8, s_9)) = r21 → ∀ (H : Heap) (locs : List Loc) (ls : Array Slot), lv_has ls 3 [(2, .int v2_8)] → World E sh2 s_9 H → va_S E.2.2.2 s.heap H locs → W p l e (rmd 6) s m args below meth c H locs 0 0 (MQ below (QW E sh2 (some (.int rz)) sz) args s 0 0 E.2.2.2) (F0 m 38 ls []) := by
      intro v2_8 s_9 er H locs ls hl hw hS
      subst er
      replace hf := ok_selr (hf)
      replace hf := ok_un2 hf
      refine lv_iload_n hx hb dX12_lost_38 rfl (lv_at hl 0 rfl) ?_
      exact z_iretE hC hlocks hw hS hf hr rfl dX12_lost_39
    have L21 : ∀ (n : Nat) (v2_5 : Int32) (s_6 : St), loopF (f_X12_lost_L21 x1) n (v2_5, s_6) = some r21 → ∀ (H : Heap) (locs : List Loc) (ls : Array Slot), lv_has ls 3 [(0, .ref (E.2.2.1 259)), (1, .int x1), (2, .int v2_5)] → World E sh2 s_6 H → va_S E.2.2.2 s.heap H locs → W p l e (rmd 6) s m args below meth c H locs 0 0 (MQ below (QW E sh2 (some (.int rz)) sz) args s 0 0 E.2.2.2) (F0 m 21 ls []) := by
      intro n
      induction n with
      | zero =>
        intro v2_5 s_6 hf
        exact nz hf
      | succ n ih21 =>
        intro v2_5 s_6 hf H locs ls hl hw hS
        obtain ⟨xl21, hf, hi21, he21⟩ := ok_loop hf
        unfold f_X12_lost_L21 at hf
        replace hf := ok_un2 hf
        refine lv_iload_n hx hb dX12_lost_21 rfl (lv_at hl 2 rfl) ?_
        refine lv_bipush (v := 60) hx hb dX12_lost_22 (by decide) ?_
        have hif := ok_if hf
        refine lv_icmp_gt (tgt := 51) hx hb dX12_lost_24 (by decide) (fun hcd => ?_) (fun hcd => ?_)
        · have hf := hif.1 hcd
          clear hif
          cases hf
          exact X21_0 _ (he21 _ rfl) _ _ ls (lv_sub hl [] rfl) hw hS
        · have hf := hif.2 hcd
          clear hif
          refine lv_aload_n hx hb dX12_lost_27 rfl (lv_at hl 0 rfl) ?_
          refine lv_sipush (v := 729) hx hb dX12_lost_28 (by decide) ?_
          refine lv_iload_n hx hb dX12_lost_31 rfl (lv_at hl 1 rfl) ?_
          obtain ⟨r_11, s_10, hc, hf⟩ := ok_bd hf
          refine z_cV hC hl.1 hw hS (As := [.int (729 : Int32), .int x1]) (rest := []) (m_X12_isLive l E  hc) rfl rfl gc241 gc242 ⟨Nat.le_of_ble_eq_true rfl, Nat.le_of_ble_eq_true rfl⟩ ⟨Nat.le_of_ble_eq_true rfl, Nat.le_of_ble_eq_true rfl⟩ rfl rfl (Nat.le_of_ble_eq_true rfl) dX12_lost_32 (fun H locs hw hS => ?_)
          clear hc
          have hif := ok_if hf
          refine lv_if_ne (tgt := 40) hx hb dX12_lost_35 (by decide) (fun hcd => ?_) (fun hcd => ?_)
          · have hf := hif.1 hcd
            clear hif
            refine lv_aload_n hx hb dX12_lost_40 rfl (lv_at hl 0 rfl) ?_
            refine lv_iconst (v := 1) hx hb dX12_lost_41 (by decide) ?_
            obtain ⟨s_12, hc, hf⟩ := ok_bind hf
            refine z_cV hC hl.1 hw hS (As := [.int (1 : Int32)]) (rest := []) (m_X12_goesOn l E  hc) rfl rfl gc275 gc276 ⟨Nat.le_of_ble_eq_true rfl, Nat.le_of_ble_eq_true rfl⟩ ⟨Nat.le_of_ble_eq_true rfl, Nat.le_of_ble_eq_true rfl⟩ rfl rfl (Nat.le_of_ble_eq_true rfl) dX12_lost_42 (fun H locs hw hS => ?_)
            clear hc
            obtain ⟨v2_13, en, hf⟩ := ok_lt hf
            refine lv_iinc (v := v2_13) (lv' := [(2, .int v2_13), (0, .ref (E.2.2.1 259)), (1, .int x1)]) hx hb dX12_lost_45 hl (k := 2) rfl (by rw [en]; rfl) (by decide) rfl (fun ls hl => ?_)
            clear en
            refine lv_goto (tgt := 21) hx hb dX12_lost_48 (by decide) ?_
            cases hf
            exact ih21 _ _ (hi21 _ rfl) _ _ ls (lv_sub hl [1, 2, 0] rfl) hw hS
          · have hf := hif.2 (fun q => q hcd)
            clear hif
            cases hf
            exact X21_1 _ _ (he21 _ rfl) _ _ ls (lv_sub hl [2] rfl) hw hS
    exact L21 5000 _ _ hL21 _ _ ls (lv_sub hl [1, 2, 0] rfl) hw hS
  · have hf := hif.2 (fun q => q hcd)
    clear hif
    refine lv_ldc (v := -1000001) hx hb hown (hts _ wd535) dX12_lost_8 ?_
    exact z_iretE hC hlocks hw hS hf hr rfl dX12_lost_10
set_option maxHeartbeats 4000000 in
set_option maxRecDepth 100000 in
theorem m_X12_dark (l : Launch) (E : Ev)   {s0 sz : St} {rz : Int32} (hf : f_X12_dark s0 = some (rz, sz)) : MM l E sh2 yX12_dark cX12_dark 2 (some .int) (rmd 6) [.ref (E.2.2.1 259)] s0 (some (.int rz)) sz := by
  unfold f_X12_dark at hf
  refine z_enter (by decide +kernel) (Nat.le_of_ble_eq_true rfl) ?_
  intro p e s m args below meth c ls hC hr hlocks hw hS hl
  have hC : Cx p s m args c cX12_dark 2 "FuseBoxModel" E := hC
  obtain ⟨hx, hb, hml, hown, hts, hTB⟩ := id hC
  have hl : lv_has ls 2 [(0, .ref (E.2.2.1 259))] := hl
  refine lv_aload_n hx hb dX12_dark_0 rfl (lv_at hl 0 rfl) ?_
  obtain ⟨r_2, s_1, hc, hf⟩ := ok_bd hf
  refine z_cV hC hl.1 hw hS (As := []) (rest := []) (m_X12_isHouse l E  hc) rfl rfl gc259 gc260 ⟨Nat.le_of_ble_eq_true rfl, Nat.le_of_ble_eq_true rfl⟩ ⟨Nat.le_of_ble_eq_true rfl, Nat.le_of_ble_eq_true rfl⟩ rfl rfl (Nat.le_of_ble_eq_true rfl) dX12_dark_1 (fun H locs hw hS => ?_)
  clear hc
  have hif := ok_if hf
  refine lv_if_ne (tgt := 10) hx hb dX12_dark_4 (by decide) (fun hcd => ?_) (fun hcd => ?_)
  · have hf := hif.1 hcd
    clear hif
    refine lv_aload_n hx hb dX12_dark_10 rfl (lv_at hl 0 rfl) ?_
    refine lv_iconst (v := 0) hx hb dX12_dark_11 (by decide) ?_
    refine lv_sipush (v := 729) hx hb dX12_dark_12 (by decide) ?_
    obtain ⟨s_3, hc, hf⟩ := ok_bind hf
    refine z_cV hC hl.1 hw hS (As := [.int (0 : Int32), .int (729 : Int32)]) (rest := []) (m_X12_copies l E  hc) rfl rfl gc257 gc258 ⟨Nat.le_of_ble_eq_true rfl, Nat.le_of_ble_eq_true rfl⟩ ⟨Nat.le_of_ble_eq_true rfl, Nat.le_of_ble_eq_true rfl⟩ rfl rfl (Nat.le_of_ble_eq_true rfl) dX12_dark_15 (fun H locs hw hS => ?_)
    clear hc
    refine lv_iconst (v := 0) hx hb dX12_dark_18 (by decide) ?_
    obtain ⟨v1_4, en, hf⟩ := ok_lt hf
    refine z_nm en ?_
    clear en
    refine lv_istore_n (lv' := [(1, .int v1_4), (0, .ref (E.2.2.1 259))]) hx hb dX12_dark_19 rfl hl (by decide) rfl (fun ls hl => ?_)
    obtain ⟨r20, hL20, hf⟩ := ok_bind hf
    have X20_0 : ∀ (s_7 : St), (.inl s_7) = r20 → ∀ (H : Heap) (locs : List Loc) (ls : Array Slot), lv_has ls 2 [] → World E sh2 s_7 H → va_S E.2.2.2 s.heap H locs → W p l e (rmd 6) s m args below meth c H locs 0 0 (MQ below (QW E sh2 (some (.int rz)) sz) args s 0 0 E.2.2.2) (F0 m 49 ls []) := by
      intro s_7 er H locs ls hl hw hS
      subst er
      replace hf := ok_sell (hf)
      replace hf := ok_un1 hf
      refine lv_ldc (v := -1000000) hx hb hown (hts _ wd679) dX12_dark_49 ?_
      exact z_iretE hC hlocks hw hS hf hr rfl dX12_dark_51
    have X20_1 : ∀ (v1_8 : Int32) (s_9 : St), (.inr (v1_8, s_9)) = r20 → ∀ (H : Heap) (locs : List Loc) (ls : Array Slot), lv_has ls 2 [(1, .int v1_8)] → World E sh2 s_9 H → va_S E.2.2.2 s.heap H locs → W p l e (rmd 6) s m args below meth c H locs 0 0 (MQ below (QW E sh2 (some (.int rz)) sz) args s 0 0 E.2.2.2) (F0 m 36 ls []) := by
      intro v1_8 s_9 er H locs ls hl hw hS
      subst er
      replace hf := ok_selr (hf)
      replace hf := ok_un2 hf
      refine lv_iload_n hx hb dX12_dark_36 rfl (lv_at hl 0 rfl) ?_
      exact z_iretE hC hlocks hw hS hf hr rfl dX12_dark_37
    have L20 : ∀ (n : Nat) (v1_5 : Int32) (s_6 : St), loopF f_X12_dark_L20 n (v1_5, s_6) = some r20 → ∀ (H : Heap) (locs : List Loc) (ls : Array Slot), lv_has ls 2 [(0, .ref (E.2.2.1 259)), (1, .int v1_5)] → World E sh2 s_6 H → va_S E.2.2.2 s.heap H locs → W p l e (rmd 6) s m args below meth c H locs 0 0 (MQ below (QW E sh2 (some (.int rz)) sz) args s 0 0 E.2.2.2) (F0 m 20 ls []) := by
      intro n
      induction n with
      | zero =>
        intro v1_5 s_6 hf
        exact nz hf
      | succ n ih20 =>
        intro v1_5 s_6 hf H locs ls hl hw hS
        obtain ⟨xl20, hf, hi20, he20⟩ := ok_loop hf
        unfold f_X12_dark_L20 at hf
        replace hf := ok_un2 hf
        refine lv_iload_n hx hb dX12_dark_20 rfl (lv_at hl 1 rfl) ?_
        refine lv_bipush (v := 60) hx hb dX12_dark_21 (by decide) ?_
        have hif := ok_if hf
        refine lv_icmp_gt (tgt := 49) hx hb dX12_dark_23 (by decide) (fun hcd => ?_) (fun hcd => ?_)
        · have hf := hif.1 hcd
          clear hif
          cases hf
          exact X20_0 _ (he20 _ rfl) _ _ ls (lv_sub hl [] rfl) hw hS
        · have hf := hif.2 hcd
          clear hif
          refine lv_aload_n hx hb dX12_dark_26 rfl (lv_at hl 0 rfl) ?_
          refine lv_sipush (v := 729) hx hb dX12_dark_27 (by decide) ?_
          obtain ⟨r_11, s_10, hc, hf⟩ := ok_bd hf
          refine z_cV hC hl.1 hw hS (As := [.int (729 : Int32)]) (rest := []) (m_X12_running l E  hc) rfl rfl gc267 gc268 ⟨Nat.le_of_ble_eq_true rfl, Nat.le_of_ble_eq_true rfl⟩ ⟨Nat.le_of_ble_eq_true rfl, Nat.le_of_ble_eq_true rfl⟩ rfl rfl (Nat.le_of_ble_eq_true rfl) dX12_dark_30 (fun H locs hw hS => ?_)
          clear hc
          have hif := ok_if hf
          refine lv_if_ne (tgt := 38) hx hb dX12_dark_33 (by decide) (fun hcd => ?_) (fun hcd => ?_)
          · have hf := hif.1 hcd
            clear hif
            refine lv_aload_n hx hb dX12_dark_38 rfl (lv_at hl 0 rfl) ?_
            refine lv_iconst (v := 1) hx hb dX12_dark_39 (by decide) ?_
            obtain ⟨s_12, hc, hf⟩ := ok_bind hf
            refine z_cV hC hl.1 hw hS (As := [.int (1 : Int32)]) (rest := []) (m_X12_goesOn l E  hc) rfl rfl gc275 gc276 ⟨Nat.le_of_ble_eq_true rfl, Nat.le_of_ble_eq_true rfl⟩ ⟨Nat.le_of_ble_eq_true rfl, Nat.le_of_ble_eq_true rfl⟩ rfl rfl (Nat.le_of_ble_eq_true rfl) dX12_dark_40 (fun H locs hw hS => ?_)
            clear hc
            obtain ⟨v1_13, en, hf⟩ := ok_lt hf
            refine lv_iinc (v := v1_13) (lv' := [(1, .int v1_13), (0, .ref (E.2.2.1 259))]) hx hb dX12_dark_43 hl (k := 1) rfl (by rw [en]; rfl) (by decide) rfl (fun ls hl => ?_)
            clear en
            refine lv_goto (tgt := 20) hx hb dX12_dark_46 (by decide) ?_
            cases hf
            exact ih20 _ _ (hi20 _ rfl) _ _ ls (lv_sub hl [1, 0] rfl) hw hS
          · have hf := hif.2 (fun q => q hcd)
            clear hif
            cases hf
            exact X20_1 _ _ (he20 _ rfl) _ _ ls (lv_sub hl [1] rfl) hw hS
    exact L20 5000 _ _ hL20 _ _ ls (lv_sub hl [1, 0] rfl) hw hS
  · have hf := hif.2 (fun q => q hcd)
    clear hif
    refine lv_ldc (v := -1000002) hx hb hown (hts _ wd650) dX12_dark_7 ?_
    exact z_iretE hC hlocks hw hS hf hr rfl dX12_dark_9
set_option maxHeartbeats 4000000 in
set_option maxRecDepth 100000 in
theorem m_X12_onOnes (l : Launch) (E : Ev)   {s0 sz : St} {rz : Int32} (hf : f_X12_onOnes s0 = some (rz, sz)) : MM l E sh2 yX12_onOnes cX12_onOnes 3 (some .int) (rmd 1) [.ref (E.2.2.1 259)] s0 (some (.int rz)) sz := by
  unfold f_X12_onOnes at hf
  refine z_enter (by decide +kernel) (Nat.le_of_ble_eq_true rfl) ?_
  intro p e s m args below meth c ls hC hr hlocks hw hS hl
  have hC : Cx p s m args c cX12_onOnes 3 "FuseBoxModel" E := hC
  obtain ⟨hx, hb, hml, hown, hts, hTB⟩ := id hC
  have hl : lv_has ls 3 [(0, .ref (E.2.2.1 259))] := hl
  refine lv_iconst (v := 0) hx hb dX12_onOnes_0 (by decide) ?_
  obtain ⟨v1_1, en, hf⟩ := ok_lt hf
  refine z_nm en ?_
  clear en
  refine lv_istore_n (lv' := [(1, .int v1_1), (0, .ref (E.2.2.1 259))]) hx hb dX12_onOnes_1 rfl hl (by decide) rfl (fun ls hl => ?_)
  refine lv_iconst (v := 0) hx hb dX12_onOnes_2 (by decide) ?_
  obtain ⟨v2_2, en, hf⟩ := ok_lt hf
  refine z_nm en ?_
  clear en
  refine lv_istore_n (lv' := [(2, .int v2_2), (1, .int v1_1), (0, .ref (E.2.2.1 259))]) hx hb dX12_onOnes_3 rfl hl (by decide) rfl (fun ls hl => ?_)
  obtain ⟨r4, hL4, hf⟩ := ok_bind hf
  have X4_0 : ∀ (v1_6 : Int32) (s_7 : St), (v1_6, s_7) = r4 → ∀ (H : Heap) (locs : List Loc) (ls : Array Slot), lv_has ls 3 [(1, .int v1_6)] → World E sh2 s_7 H → va_S E.2.2.2 s.heap H locs → W p l e (rmd 1) s m args below meth c H locs 0 0 (MQ below (QW E sh2 (some (.int rz)) sz) args s 0 0 E.2.2.2) (F0 m 34 ls []) := by
    intro v1_6 s_7 er H locs ls hl hw hS
    subst er
    replace hf := ok_un2 hf
    refine lv_iload_n hx hb dX12_onOnes_34 rfl (lv_at hl 0 rfl) ?_
    exact z_iretE hC hlocks hw hS hf hr rfl dX12_onOnes_35
  have L4 : ∀ (n : Nat) (v1_3 : Int32) (v2_4 : Int32) (s_5 : St), loopF f_X12_onOnes_L4 n (v1_3, v2_4, s_5) = some r4 → ∀ (H : Heap) (locs : List Loc) (ls : Array Slot), lv_has ls 3 [(0, .ref (E.2.2.1 259)), (1, .int v1_3), (2, .int v2_4)] → World E sh2 s_5 H → va_S E.2.2.2 s.heap H locs → W p l e (rmd 1) s m args below meth c H locs 0 0 (MQ below (QW E sh2 (some (.int rz)) sz) args s 0 0 E.2.2.2) (F0 m 4 ls []) := by
    intro n
    induction n with
    | zero =>
      intro v1_3 v2_4 s_5 hf
      exact nz hf
    | succ n ih4 =>
      intro v1_3 v2_4 s_5 hf H locs ls hl hw hS
      obtain ⟨xl4, hf, hi4, he4⟩ := ok_loop hf
      unfold f_X12_onOnes_L4 at hf
      replace hf := ok_un3 hf
      refine lv_iload_n hx hb dX12_onOnes_4 rfl (lv_at hl 2 rfl) ?_
      refine lv_aload_n hx hb dX12_onOnes_5 rfl (lv_at hl 0 rfl) ?_
      refine gModel_told hC hw wd597 dX12_onOnes_6 ?_
      refine lv_iconst (v := 1) hx hb dX12_onOnes_9 (by decide) ?_
      obtain ⟨hin, hf⟩ := ok_chk hf
      refine z_iald hC hw rfl hin dX12_onOnes_10 ?_
      have hif := ok_if hf
      refine lv_icmp_ge (tgt := 34) hx hb dX12_onOnes_11 (by decide) (fun hcd => ?_) (fun hcd => ?_)
      · have hf := hif.1 hcd
        clear hif
        cases hf
        exact X4_0 _ _ (he4 _ rfl) _ _ ls (lv_sub hl [1] rfl) hw hS
      · have hf := hif.2 hcd
        clear hif
        refine lv_iload_n hx hb dX12_onOnes_14 rfl (lv_at hl 1 rfl) ?_
        refine lv_aload_n hx hb dX12_onOnes_15 rfl (lv_at hl 0 rfl) ?_
        refine gModel_slot hC hw wd598 dX12_onOnes_16 ?_
        refine lv_bipush (v := 18) hx hb dX12_onOnes_19 (by decide) ?_
        refine lv_iload_n hx hb dX12_onOnes_21 rfl (lv_at hl 2 rfl) ?_
        refine lv_iadd hx hb dX12_onOnes_22 ?_
        obtain ⟨hin, hf⟩ := ok_chk hf
        refine z_iald hC hw rfl hin dX12_onOnes_23 ?_
        refine lv_iload_n hx hb dX12_onOnes_24 rfl (lv_at hl 2 rfl) ?_
        refine lv_ishl hx hb dX12_onOnes_25 ?_
        refine lv_ior hx hb dX12_onOnes_26 ?_
        obtain ⟨v1_8, en, hf⟩ := ok_lt hf
        refine z_nm en ?_
        clear en
        refine lv_istore_n (lv' := [(1, .int v1_8), (0, .ref (E.2.2.1 259)), (2, .int v2_4)]) hx hb dX12_onOnes_27 rfl hl (by decide) rfl (fun ls hl => ?_)
        obtain ⟨v2_9, en, hf⟩ := ok_lt hf
        refine lv_iinc (v := v2_9) (lv' := [(2, .int v2_9), (1, .int v1_8), (0, .ref (E.2.2.1 259))]) hx hb dX12_onOnes_28 hl (k := 2) rfl (by rw [en]; rfl) (by decide) rfl (fun ls hl => ?_)
        clear en
        refine lv_goto (tgt := 4) hx hb dX12_onOnes_31 (by decide) ?_
        cases hf
        exact ih4 _ _ _ (hi4 _ rfl) _ _ ls (lv_sub hl [2, 1, 0] rfl) hw hS
  exact L4 5000 _ _ _ hL4 _ _ ls (lv_sub hl [2, 1, 0] rfl) hw hS
set_option maxHeartbeats 4000000 in
set_option maxRecDepth 100000 in
theorem m_X12_offs (l : Launch) (E : Ev) {x1 : Int32}  {s0 sz : St} (hf : f_X12_offs x1 s0 = some sz) : MM l E sh2 yX12_offs cX12_offs 3 none (rmd 2) [.ref (E.2.2.1 259), .int x1] s0 none sz := by
  unfold f_X12_offs at hf
  refine z_enter (by decide +kernel) (Nat.le_of_ble_eq_true rfl) ?_
  intro p e s m args below meth c ls hC hr hlocks hw hS hl
  have hC : Cx p s m args c cX12_offs 3 "FuseBoxModel" E := hC
  obtain ⟨hx, hb, hml, hown, hts, hTB⟩ := id hC
  have hl : lv_has ls 3 [(0, .ref (E.2.2.1 259)), (1, .int x1)] := hl
  refine lv_iconst (v := 0) hx hb dX12_offs_0 (by decide) ?_
  obtain ⟨v2_1, en, hf⟩ := ok_lt hf
  refine z_nm en ?_
  clear en
  refine lv_istore_n (lv' := [(2, .int v2_1), (0, .ref (E.2.2.1 259)), (1, .int x1)]) hx hb dX12_offs_1 rfl hl (by decide) rfl (fun ls hl => ?_)
  obtain ⟨r2, hL2, hf⟩ := ok_bind hf
  have X2_0 : ∀ (s_4 : St), s_4 = r2 → ∀ (H : Heap) (locs : List Loc) (ls : Array Slot), lv_has ls 3 [] → World E sh2 s_4 H → va_S E.2.2.2 s.heap H locs → W p l e (rmd 2) s m args below meth c H locs 0 0 (MQ below (QW E sh2 none sz) args s 0 0 E.2.2.2) (F0 m 50 ls []) := by
    intro s_4 er H locs ls hl hw hS
    subst er
    replace hf := ok_un1 hf
    exact z_vretE hC hlocks hw hS hf hr dX12_offs_50
  have L2 : ∀ (n : Nat) (v2_2 : Int32) (s_3 : St), loopF (f_X12_offs_L2 x1) n (v2_2, s_3) = some r2 → ∀ (H : Heap) (locs : List Loc) (ls : Array Slot), lv_has ls 3 [(0, .ref (E.2.2.1 259)), (1, .int x1), (2, .int v2_2)] → World E sh2 s_3 H → va_S E.2.2.2 s.heap H locs → W p l e (rmd 2) s m args below meth c H locs 0 0 (MQ below (QW E sh2 none sz) args s 0 0 E.2.2.2) (F0 m 2 ls []) := by
    intro n
    induction n with
    | zero =>
      intro v2_2 s_3 hf
      exact nz hf
    | succ n ih2 =>
      intro v2_2 s_3 hf H locs ls hl hw hS
      obtain ⟨xl2, hf, hi2, he2⟩ := ok_loop hf
      unfold f_X12_offs_L2 at hf
      replace hf := ok_un2 hf
      refine lv_iload_n hx hb dX12_offs_2 rfl (lv_at hl 2 rfl) ?_
      refine lv_aload_n hx hb dX12_offs_3 rfl (lv_at hl 0 rfl) ?_
      refine gModel_told hC hw wd597 dX12_offs_4 ?_
      refine lv_iconst (v := 1) hx hb dX12_offs_7 (by decide) ?_
      obtain ⟨hin, hf⟩ := ok_chk hf
      refine z_iald hC hw rfl hin dX12_offs_8 ?_
      have hif := ok_if hf
      refine lv_icmp_ge (tgt := 50) hx hb dX12_offs_9 (by decide) (fun hcd => ?_) (fun hcd => ?_)
      · have hf := hif.1 hcd
        clear hif
        cases hf
        exact X2_0 _ (he2 _ rfl) _ _ ls (lv_sub hl [] rfl) hw hS
      · have hf := hif.2 hcd
        clear hif
        refine lv_aload_n hx hb dX12_offs_12 rfl (lv_at hl 0 rfl) ?_
        refine gModel_slot hC hw wd598 dX12_offs_13 ?_
        refine lv_sipush (v := 747) hx hb dX12_offs_16 (by decide) ?_
        refine lv_iload_n hx hb dX12_offs_19 rfl (lv_at hl 2 rfl) ?_
        refine lv_iadd hx hb dX12_offs_20 ?_
        refine lv_iload_n hx hb dX12_offs_21 rfl (lv_at hl 1 rfl) ?_
        refine lv_iload_n hx hb dX12_offs_22 rfl (lv_at hl 2 rfl) ?_
        obtain ⟨r_6, s_5, hc, hf⟩ := ok_bd hf
        refine z_cS hC hl.1 hw hS (As := [.int x1, .int v2_2]) (rest := [.int ((747 : Int32) + v2_2), .ref (E.2.2.1 260)]) (m_X12_has l E  hc) gc249 gc250 ⟨Nat.le_of_ble_eq_true rfl, Nat.le_of_ble_eq_true rfl⟩ ⟨Nat.le_of_ble_eq_true rfl, Nat.le_of_ble_eq_true rfl⟩ rfl rfl (Nat.le_of_ble_eq_true rfl) dX12_offs_23 (fun H locs hw hS => ?_)
        clear hc
        obtain ⟨j43, ej43, hf⟩ := ok_lt hf
        have J43 : ∀ (k_7 : Int32) (s_8 : St), j43 k_7 s_8 = some xl2 → ∀ (H : Heap) (locs : List Loc) (ls : Array Slot), lv_has ls 3 [(0, .ref (E.2.2.1 259)), (1, .int x1), (2, .int v2_2)] → World E sh2 s_8 H → va_S E.2.2.2 s.heap H locs → W p l e (rmd 2) s m args below meth c H locs 0 0 (MQ below (QW E sh2 none sz) args s 0 0 E.2.2.2) (F0 m 43 ls [.int k_7, .int ((747 : Int32) + v2_2), .ref (E.2.2.1 260)]) := by
          intro k_7 s_8 hf H locs ls hl hw hS
          subst ej43
          obtain ⟨hin, hf⟩ := ok_chk hf
          obtain ⟨s_9, en, hf⟩ := ok_lt hf
          refine z_iast hC hw hS rfl hin en dX12_offs_43 (fun H locs hw hS => ?_)
          clear en
          obtain ⟨v2_10, en, hf⟩ := ok_lt hf
          refine lv_iinc (v := v2_10) (lv' := [(2, .int v2_10), (0, .ref (E.2.2.1 259)), (1, .int x1)]) hx hb dX12_offs_44 hl (k := 2) rfl (by rw [en]; rfl) (by decide) rfl (fun ls hl => ?_)
          clear en
          refine lv_goto (tgt := 2) hx hb dX12_offs_47 (by decide) ?_
          cases hf
          exact ih2 _ _ (hi2 _ rfl) _ _ ls (lv_sub hl [1, 2, 0] rfl) hw hS
        clear ej43
        have hif := ok_if hf
        refine lv_if_eq (tgt := 33) hx hb dX12_offs_26 (by decide) (fun hcd => ?_) (fun hcd => ?_)
        · have hf := hif.1 hcd
          clear hif
          refine lv_aload_n hx hb dX12_offs_33 rfl (lv_at hl 0 rfl) ?_
          refine gModel_slot hC hw wd598 dX12_offs_34 ?_
          refine lv_sipush (v := 747) hx hb dX12_offs_37 (by decide) ?_
          refine lv_iload_n hx hb dX12_offs_40 rfl (lv_at hl 2 rfl) ?_
          refine lv_iadd hx hb dX12_offs_41 ?_
          obtain ⟨hin, hf⟩ := ok_chk hf
          refine z_iald hC hw rfl hin dX12_offs_42 ?_
          exact J43 _ _ hf _ _ ls hl hw hS
        · have hf := hif.2 hcd
          clear hif
          refine lv_iconst (v := 0) hx hb dX12_offs_29 (by decide) ?_
          refine lv_goto (tgt := 43) hx hb dX12_offs_30 (by decide) ?_
          exact J43 _ _ hf _ _ ls hl hw hS
  exact L2 5000 _ _ hL2 _ _ ls (lv_sub hl [1, 2, 0] rfl) hw hS
set_option maxHeartbeats 4000000 in
set_option maxRecDepth 100000 in
theorem m_X12_isLiveFor (l : Launch) (E : Ev) {x1 : Int32} {x2 : Int32}  {s0 sz : St} {rz : Int32} (hf : f_X12_isLiveFor x1 x2 s0 = some (rz, sz)) : MM l E sh2 yX12_isLiveFor cX12_isLiveFor 5 (some .boolean) (rmd 6) [.ref (E.2.2.1 259), .int x1, .int x2] s0 (some (.int rz)) sz := by
  unfold f_X12_isLiveFor at hf
  refine z_enter (by decide +kernel) (Nat.le_of_ble_eq_true rfl) ?_
  intro p e s m args below meth c ls hC hr hlocks hw hS hl
  have hC : Cx p s m args c cX12_isLiveFor 5 "FuseBoxModel" E := hC
  obtain ⟨hx, hb, hml, hown, hts, hTB⟩ := id hC
  have hl : lv_has ls 5 [(0, .ref (E.2.2.1 259)), (1, .int x1), (2, .int x2)] := hl
  refine lv_iconst (v := 1) hx hb dX12_isLiveFor_0 (by decide) ?_
  obtain ⟨v3_1, en, hf⟩ := ok_lt hf
  refine z_nm en ?_
  clear en
  refine lv_istore_n (lv' := [(3, .int v3_1), (0, .ref (E.2.2.1 259)), (1, .int x1), (2, .int x2)]) hx hb dX12_isLiveFor_1 rfl hl (by decide) rfl (fun ls hl => ?_)
  refine lv_iconst (v := 0) hx hb dX12_isLiveFor_2 (by decide) ?_
  obtain ⟨v4_2, en, hf⟩ := ok_lt hf
  refine z_nm en ?_
  clear en
  refine lv_istore (lv' := [(4, .int v4_2), (3, .int v3_1), (0, .ref (E.2.2.1 259)), (1, .int x1), (2, .int x2)]) hx hb dX12_isLiveFor_3 hl (by decide) rfl (fun ls hl => ?_)
  obtain ⟨r5, hL5, hf⟩ := ok_bind hf
  have X5_0 : ∀ (v3_6 : Int32) (s_7 : St), (v3_6, s_7) = r5 → ∀ (H : Heap) (locs : List Loc) (ls : Array Slot), lv_has ls 5 [(3, .int v3_6)] → World E sh2 s_7 H → va_S E.2.2.2 s.heap H locs → W p l e (rmd 6) s m args below meth c H locs 0 0 (MQ below (QW E sh2 (some (.int rz)) sz) args s 0 0 E.2.2.2) (F0 m 43 ls []) := by
    intro v3_6 s_7 er H locs ls hl hw hS
    subst er
    replace hf := ok_un2 hf
    refine lv_iload_n hx hb dX12_isLiveFor_43 rfl (lv_at hl 0 rfl) ?_
    obtain ⟨hbo, hf⟩ := ok_chk hf
    exact z_iretE hC hlocks hw hS hf hr (narB hbo) dX12_isLiveFor_44
  have L5 : ∀ (n : Nat) (v3_3 : Int32) (v4_4 : Int32) (s_5 : St), loopF (f_X12_isLiveFor_L5 x1 x2) n (v3_3, v4_4, s_5) = some r5 → ∀ (H : Heap) (locs : List Loc) (ls : Array Slot), lv_has ls 5 [(0, .ref (E.2.2.1 259)), (1, .int x1), (2, .int x2), (3, .int v3_3), (4, .int v4_4)] → World E sh2 s_5 H → va_S E.2.2.2 s.heap H locs → W p l e (rmd 6) s m args below meth c H locs 0 0 (MQ below (QW E sh2 (some (.int rz)) sz) args s 0 0 E.2.2.2) (F0 m 5 ls []) := by
    intro n
    induction n with
    | zero =>
      intro v3_3 v4_4 s_5 hf
      exact nz hf
    | succ n ih5 =>
      intro v3_3 v4_4 s_5 hf H locs ls hl hw hS
      obtain ⟨xl5, hf, hi5, he5⟩ := ok_loop hf
      unfold f_X12_isLiveFor_L5 at hf
      replace hf := ok_un3 hf
      refine lv_iload hx hb dX12_isLiveFor_5 (lv_at hl 4 rfl) ?_
      refine lv_iload_n hx hb dX12_isLiveFor_7 rfl (lv_at hl 2 rfl) ?_
      have hif := ok_if hf
      refine lv_icmp_ge (tgt := 43) hx hb dX12_isLiveFor_8 (by decide) (fun hcd => ?_) (fun hcd => ?_)
      · have hf := hif.1 hcd
        clear hif
        cases hf
        exact X5_0 _ _ (he5 _ rfl) _ _ ls (lv_sub hl [3] rfl) hw hS
      · have hf := hif.2 hcd
        clear hif
        refine lv_aload_n hx hb dX12_isLiveFor_11 rfl (lv_at hl 0 rfl) ?_
        refine lv_iconst (v := 1) hx hb dX12_isLiveFor_12 (by decide) ?_
        obtain ⟨s_8, hc, hf⟩ := ok_bind hf
        refine z_cV hC hl.1 hw hS (As := [.int (1 : Int32)]) (rest := []) (m_X12_goesOn l E  hc) rfl rfl gc275 gc276 ⟨Nat.le_of_ble_eq_true rfl, Nat.le_of_ble_eq_true rfl⟩ ⟨Nat.le_of_ble_eq_true rfl, Nat.le_of_ble_eq_true rfl⟩ rfl rfl (Nat.le_of_ble_eq_true rfl) dX12_isLiveFor_13 (fun H locs hw hS => ?_)
        clear hc
        refine lv_iload_n hx hb dX12_isLiveFor_16 rfl (lv_at hl 3 rfl) ?_
        obtain ⟨j36, ej36, hf⟩ := ok_lt hf
        have J36 : ∀ (k_9 : Int32) (s_10 : St), j36 k_9 s_10 = some xl5 → ∀ (H : Heap) (locs : List Loc) (ls : Array Slot), lv_has ls 5 [(0, .ref (E.2.2.1 259)), (1, .int x1), (2, .int x2), (4, .int v4_4)] → World E sh2 s_10 H → va_S E.2.2.2 s.heap H locs → W p l e (rmd 6) s m args below meth c H locs 0 0 (MQ below (QW E sh2 (some (.int rz)) sz) args s 0 0 E.2.2.2) (F0 m 36 ls [.int k_9]) := by
          intro k_9 s_10 hf H locs ls hl hw hS
          subst ej36
          refine lv_istore_n (lv' := [(3, .int k_9), (0, .ref (E.2.2.1 259)), (1, .int x1), (2, .int x2), (4, .int v4_4)]) hx hb dX12_isLiveFor_36 rfl hl (by decide) rfl (fun ls hl => ?_)
          obtain ⟨v4_11, en, hf⟩ := ok_lt hf
          refine lv_iinc (v := v4_11) (lv' := [(4, .int v4_11), (3, .int k_9), (0, .ref (E.2.2.1 259)), (1, .int x1), (2, .int x2)]) hx hb dX12_isLiveFor_37 hl (k := 4) rfl (by rw [en]; rfl) (by decide) rfl (fun ls hl => ?_)
          clear en
          refine lv_goto (tgt := 5) hx hb dX12_isLiveFor_40 (by decide) ?_
          cases hf
          exact ih5 _ _ _ (hi5 _ rfl) _ _ ls (lv_sub hl [2, 3, 4, 1, 0] rfl) hw hS
        clear ej36
        obtain ⟨j35, ej35, hf⟩ := ok_lt hf
        have J35 : ∀ (s_12 : St), j35 s_12 = some xl5 → ∀ (H : Heap) (locs : List Loc) (ls : Array Slot), lv_has ls 5 [(0, .ref (E.2.2.1 259)), (1, .int x1), (2, .int x2), (4, .int v4_4)] → World E sh2 s_12 H → va_S E.2.2.2 s.heap H locs → W p l e (rmd 6) s m args below meth c H locs 0 0 (MQ below (QW E sh2 (some (.int rz)) sz) args s 0 0 E.2.2.2) (F0 m 35 ls []) := by
          intro s_12 hf H locs ls hl hw hS
          subst ej35
          refine lv_iconst (v := 0) hx hb dX12_isLiveFor_35 (by decide) ?_
          exact J36 _ _ hf _ _ ls hl hw hS
        clear ej35
        have hif := ok_if hf
        refine lv_if_eq (tgt := 35) hx hb dX12_isLiveFor_17 (by decide) (fun hcd => ?_) (fun hcd => ?_)
        · have hf := hif.1 hcd
          clear hif
          exact J35 _ hf _ _ ls (lv_sub hl [0, 1, 2, 4] rfl) hw hS
        · have hf := hif.2 hcd
          clear hif
          refine lv_aload_n hx hb dX12_isLiveFor_20 rfl (lv_at hl 0 rfl) ?_
          refine lv_sipush (v := 729) hx hb dX12_isLiveFor_21 (by decide) ?_
          refine lv_iload_n hx hb dX12_isLiveFor_24 rfl (lv_at hl 1 rfl) ?_
          obtain ⟨r_14, s_13, hc, hf⟩ := ok_bd hf
          refine z_cV hC hl.1 hw hS (As := [.int (729 : Int32), .int x1]) (rest := []) (m_X12_isLive l E  hc) rfl rfl gc241 gc242 ⟨Nat.le_of_ble_eq_true rfl, Nat.le_of_ble_eq_true rfl⟩ ⟨Nat.le_of_ble_eq_true rfl, Nat.le_of_ble_eq_true rfl⟩ rfl rfl (Nat.le_of_ble_eq_true rfl) dX12_isLiveFor_25 (fun H locs hw hS => ?_)
          clear hc
          have hif := ok_if hf
          refine lv_if_eq (tgt := 35) hx hb dX12_isLiveFor_28 (by decide) (fun hcd => ?_) (fun hcd => ?_)
          · have hf := hif.1 hcd
            clear hif
            exact J35 _ hf _ _ ls (lv_sub hl [0, 1, 2, 4] rfl) hw hS
          · have hf := hif.2 hcd
            clear hif
            refine lv_iconst (v := 1) hx hb dX12_isLiveFor_31 (by decide) ?_
            refine lv_goto (tgt := 36) hx hb dX12_isLiveFor_32 (by decide) ?_
            exact J36 _ _ hf _ _ ls (lv_sub hl [0, 1, 2, 4] rfl) hw hS
  exact L5 5000 _ _ _ hL5 _ _ ls (lv_sub hl [2, 3, 4, 1, 0] rfl) hw hS
set_option maxHeartbeats 4000000 in
set_option maxRecDepth 100000 in
theorem m_X12_shed (l : Launch) (E : Ev) {x1 : Int32} {x2 : Int32} {x3 : Int32}  {s0 sz : St} {rz : Int32} (hf : f_X12_shed x1 x2 x3 s0 = some (rz, sz)) : MM l E sh2 yX12_shed cX12_shed 8 (some .int) (rmd 7) [.ref (E.2.2.1 259), .int x1, .int x2, .int x3] s0 (some (.int rz)) sz := by
  unfold f_X12_shed at hf
  refine z_enter (by decide +kernel) (Nat.le_of_ble_eq_true rfl) ?_
  intro p e s m args below meth c ls hC hr hlocks hw hS hl
  have hC : Cx p s m args c cX12_shed 8 "FuseBoxModel" E := hC
  obtain ⟨hx, hb, hml, hown, hts, hTB⟩ := id hC
  have hl : lv_has ls 8 [(0, .ref (E.2.2.1 259)), (1, .int x1), (2, .int x2), (3, .int x3)] := hl
  refine lv_aload_n hx hb dX12_shed_0 rfl (lv_at hl 0 rfl) ?_
  refine lv_iload_n hx hb dX12_shed_1 rfl (lv_at hl 1 rfl) ?_
  obtain ⟨r_2, s_1, hc, hf⟩ := ok_bd hf
  refine z_cV hC hl.1 hw hS (As := [.int x1]) (rest := []) (m_X12_isThing l E  hc) rfl rfl gc265 gc266 ⟨Nat.le_of_ble_eq_true rfl, Nat.le_of_ble_eq_true rfl⟩ ⟨Nat.le_of_ble_eq_true rfl, Nat.le_of_ble_eq_true rfl⟩ rfl rfl (Nat.le_of_ble_eq_true rfl) dX12_shed_2 (fun H locs hw hS => ?_)
  clear hc
  obtain ⟨j30, ej30, hf⟩ := ok_lt hf
  have J30 : ∀ (s_3 : St), j30 s_3 = some (rz, sz) → ∀ (H : Heap) (locs : List Loc) (ls : Array Slot), lv_has ls 8 [] → World E sh2 s_3 H → va_S E.2.2.2 s.heap H locs → W p l e (rmd 7) s m args below meth c H locs 0 0 (MQ below (QW E sh2 (some (.int rz)) sz) args s 0 0 E.2.2.2) (F0 m 30 ls []) := by
    intro s_3 hf H locs ls hl hw hS
    subst ej30
    refine lv_ldc (v := -1000001) hx hb hown (hts _ wd535) dX12_shed_30 ?_
    exact z_iretE hC hlocks hw hS hf hr rfl dX12_shed_32
  clear ej30
  have hif := ok_if hf
  refine lv_if_eq (tgt := 30) hx hb dX12_shed_5 (by decide) (fun hcd => ?_) (fun hcd => ?_)
  · have hf := hif.1 hcd
    clear hif
    exact J30 _ hf _ _ ls (lv_sub hl [] rfl) hw hS
  · have hf := hif.2 hcd
    clear hif
    refine lv_iload_n hx hb dX12_shed_8 rfl (lv_at hl 2 rfl) ?_
    refine lv_i2l (v := x2.toInt64) hx hb dX12_shed_9 rfl ?_
    refine lv_lconst (v := 1) hx hb dX12_shed_10 (by decide) ?_
    refine lv_ldc2 (v := 30) hx hb hown (hts _ wd680) dX12_shed_11 ?_
    obtain ⟨r_5, s_4, hc, hf⟩ := ok_bd hf
    refine z_cS hC hl.1 hw hS (As := [.long (x2.toInt64), .long (1 : Int64), .long (30 : Int64)]) (rest := []) (m_X12_in l E  hc) gc219 gc220 ⟨Nat.le_of_ble_eq_true rfl, Nat.le_of_ble_eq_true rfl⟩ ⟨Nat.le_of_ble_eq_true rfl, Nat.le_of_ble_eq_true rfl⟩ rfl rfl (Nat.le_of_ble_eq_true rfl) dX12_shed_14 (fun H locs hw hS => ?_)
    clear hc
    have hif := ok_if hf
    refine lv_if_eq (tgt := 30) hx hb dX12_shed_17 (by decide) (fun hcd => ?_) (fun hcd => ?_)
    · have hf := hif.1 hcd
      clear hif
      exact J30 _ hf _ _ ls (lv_sub hl [] rfl) hw hS
    · have hf := hif.2 hcd
      clear hif
      refine lv_iload_n hx hb dX12_shed_20 rfl (lv_at hl 3 rfl) ?_
      refine lv_i2l (v := x3.toInt64) hx hb dX12_shed_21 rfl ?_
      refine lv_lconst (v := 0) hx hb dX12_shed_22 (by decide) ?_
      refine lv_lconst (v := 1) hx hb dX12_shed_23 (by decide) ?_
      obtain ⟨r_7, s_6, hc, hf⟩ := ok_bd hf
      refine z_cS hC hl.1 hw hS (As := [.long (x3.toInt64), .long (0 : Int64), .long (1 : Int64)]) (rest := []) (m_X12_in l E  hc) gc219 gc220 ⟨Nat.le_of_ble_eq_true rfl, Nat.le_of_ble_eq_true rfl⟩ ⟨Nat.le_of_ble_eq_true rfl, Nat.le_of_ble_eq_true rfl⟩ rfl rfl (Nat.le_of_ble_eq_true rfl) dX12_shed_24 (fun H locs hw hS => ?_)
      clear hc
      have hif := ok_if hf
      refine lv_if_ne (tgt := 33) hx hb dX12_shed_27 (by decide) (fun hcd => ?_) (fun hcd => ?_)
      · have hf := hif.1 hcd
        clear hif
        refine lv_aload_n hx hb dX12_shed_33 rfl (lv_at hl 0 rfl) ?_
        obtain ⟨r_9, s_8, hc, hf⟩ := ok_bd hf
        refine z_cV hC hl.1 hw hS (As := []) (rest := []) (m_X12_onOnes l E  hc) rfl rfl gc277 gc278 ⟨Nat.le_of_ble_eq_true rfl, Nat.le_of_ble_eq_true rfl⟩ ⟨Nat.le_of_ble_eq_true rfl, Nat.le_of_ble_eq_true rfl⟩ rfl rfl (Nat.le_of_ble_eq_true rfl) dX12_shed_34 (fun H locs hw hS => ?_)
        clear hc
        refine lv_iconst (v := 1) hx hb dX12_shed_37 (by decide) ?_
        refine lv_iload_n hx hb dX12_shed_38 rfl (lv_at hl 1 rfl) ?_
        refine lv_ishl hx hb dX12_shed_39 ?_
        refine lv_iconst (v := -1) hx hb dX12_shed_40 (by decide) ?_
        refine lv_ixor hx hb dX12_shed_41 ?_
        refine lv_iand hx hb dX12_shed_42 ?_
        obtain ⟨v4_10, en, hf⟩ := ok_lt hf
        refine z_nm en ?_
        clear en
        refine lv_istore (lv' := [(4, .int v4_10), (0, .ref (E.2.2.1 259)), (1, .int x1), (2, .int x2), (3, .int x3)]) hx hb dX12_shed_43 hl (by decide) rfl (fun ls hl => ?_)
        refine lv_ldc (v := -1000000) hx hb hown (hts _ wd679) dX12_shed_45 ?_
        obtain ⟨v5_11, en, hf⟩ := ok_lt hf
        refine z_nm en ?_
        clear en
        refine lv_istore (lv' := [(5, .int v5_11), (4, .int v4_10), (0, .ref (E.2.2.1 259)), (1, .int x1), (2, .int x2), (3, .int x3)]) hx hb dX12_shed_47 hl (by decide) rfl (fun ls hl => ?_)
        refine lv_iconst (v := 0) hx hb dX12_shed_49 (by decide) ?_
        obtain ⟨v6_12, en, hf⟩ := ok_lt hf
        refine z_nm en ?_
        clear en
        refine lv_istore (lv' := [(6, .int v6_12), (5, .int v5_11), (4, .int v4_10), (0, .ref (E.2.2.1 259)), (1, .int x1), (2, .int x2), (3, .int x3)]) hx hb dX12_shed_50 hl (by decide) rfl (fun ls hl => ?_)
        obtain ⟨r52, hL52, hf⟩ := ok_bind hf
        have X52_0 : ∀ (v5_16 : Int32) (s_17 : St), (v5_16, s_17) = r52 → ∀ (H : Heap) (locs : List Loc) (ls : Array Slot), lv_has ls 8 [(3, .int x3), (5, .int v5_16)] → World E sh2 s_17 H → va_S E.2.2.2 s.heap H locs → W p l e (rmd 7) s m args below meth c H locs 0 0 (MQ below (QW E sh2 (some (.int rz)) sz) args s 0 0 E.2.2.2) (F0 m 154 ls []) := by
          intro v5_16 s_17 er H locs ls hl hw hS
          subst er
          replace hf := ok_un2 hf
          refine lv_iload hx hb dX12_shed_154 (lv_at hl 1 rfl) ?_
          obtain ⟨j174, ej174, hf⟩ := ok_lt hf
          have J174 : ∀ (k_18 : Int32) (s_19 : St), j174 k_18 s_19 = some (rz, sz) → ∀ (H : Heap) (locs : List Loc) (ls : Array Slot), lv_has ls 8 [] → World E sh2 s_19 H → va_S E.2.2.2 s.heap H locs → W p l e (rmd 7) s m args below meth c H locs 0 0 (MQ below (QW E sh2 (some (.int rz)) sz) args s 0 0 E.2.2.2) (F0 m 174 ls [.int k_18]) := by
            intro k_18 s_19 hf H locs ls hl hw hS
            subst ej174
            exact z_iretE hC hlocks hw hS hf hr rfl dX12_shed_174
          clear ej174
          obtain ⟨j164, ej164, hf⟩ := ok_lt hf
          have J164 : ∀ (s_20 : St), j164 s_20 = some (rz, sz) → ∀ (H : Heap) (locs : List Loc) (ls : Array Slot), lv_has ls 8 [(5, .int v5_16)] → World E sh2 s_20 H → va_S E.2.2.2 s.heap H locs → W p l e (rmd 7) s m args below meth c H locs 0 0 (MQ below (QW E sh2 (some (.int rz)) sz) args s 0 0 E.2.2.2) (F0 m 164 ls []) := by
            intro s_20 hf H locs ls hl hw hS
            subst ej164
            refine lv_iload hx hb dX12_shed_164 (lv_at hl 0 rfl) ?_
            refine lv_goto (tgt := 174) hx hb dX12_shed_166 (by decide) ?_
            exact J174 _ _ hf _ _ ls (lv_sub hl [] rfl) hw hS
          clear ej164
          have hif := ok_if hf
          refine lv_if_lt (tgt := 164) hx hb dX12_shed_156 (by decide) (fun hcd => ?_) (fun hcd => ?_)
          · have hf := hif.1 hcd
            clear hif
            exact J164 _ hf _ _ ls (lv_sub hl [1] rfl) hw hS
          · have hf := hif.2 hcd
            clear hif
            refine lv_iload_n hx hb dX12_shed_159 rfl (lv_at hl 0 rfl) ?_
            refine lv_iconst (v := 1) hx hb dX12_shed_160 (by decide) ?_
            have hif := ok_if hf
            refine lv_icmp_ne (tgt := 169) hx hb dX12_shed_161 (by decide) (fun hcd => ?_) (fun hcd => ?_)
            · have hf := hif.1 hcd
              clear hif
              refine lv_iload hx hb dX12_shed_169 (lv_at hl 1 rfl) ?_
              obtain ⟨r_22, s_21, hc, hf⟩ := ok_bd hf
              refine z_cS hC hl.1 hw hS (As := [.int v5_16]) (rest := []) (m_X12_bits l E  hc) gc279 gc280 ⟨Nat.le_of_ble_eq_true rfl, Nat.le_of_ble_eq_true rfl⟩ ⟨Nat.le_of_ble_eq_true rfl, Nat.le_of_ble_eq_true rfl⟩ rfl rfl (Nat.le_of_ble_eq_true rfl) dX12_shed_171 (fun H locs hw hS => ?_)
              clear hc
              exact J174 _ _ hf _ _ ls (lv_sub hl [] rfl) hw hS
            · have hf := hif.2 (fun q => q hcd)
              clear hif
              exact J164 _ hf _ _ ls (lv_sub hl [1] rfl) hw hS
        have L52 : ∀ (n : Nat) (v5_13 : Int32) (v6_14 : Int32) (s_15 : St), loopF (f_X12_shed_L52 x1 x2 v4_10) n (v5_13, v6_14, s_15) = some r52 → ∀ (H : Heap) (locs : List Loc) (ls : Array Slot), lv_has ls 8 [(0, .ref (E.2.2.1 259)), (1, .int x1), (2, .int x2), (3, .int x3), (4, .int v4_10), (5, .int v5_13), (6, .int v6_14)] → World E sh2 s_15 H → va_S E.2.2.2 s.heap H locs → W p l e (rmd 7) s m args below meth c H locs 0 0 (MQ below (QW E sh2 (some (.int rz)) sz) args s 0 0 E.2.2.2) (F0 m 52 ls []) := by
          intro n
          induction n with
          | zero =>
            intro v5_13 v6_14 s_15 hf
            exact nz hf
          | succ n ih52 =>
            intro v5_13 v6_14 s_15 hf H locs ls hl hw hS
            obtain ⟨xl52, hf, hi52, he52⟩ := ok_loop hf
            unfold f_X12_shed_L52 at hf
            replace hf := ok_un3 hf
            refine lv_iload hx hb dX12_shed_52 (lv_at hl 6 rfl) ?_
            refine lv_bipush (v := 64) hx hb dX12_shed_54 (by decide) ?_
            have hif := ok_if hf
            refine lv_icmp_ge (tgt := 154) hx hb dX12_shed_56 (by decide) (fun hcd => ?_) (fun hcd => ?_)
            · have hf := hif.1 hcd
              clear hif
              cases hf
              exact X52_0 _ _ (he52 _ rfl) _ _ ls (lv_sub hl [3, 5] rfl) hw hS
            · have hf := hif.2 hcd
              clear hif
              refine lv_iload hx hb dX12_shed_59 (lv_at hl 5 rfl) ?_
              obtain ⟨j82, ej82, hf⟩ := ok_lt hf
              have J82 : ∀ (k_23 : Int32) (s_24 : St), j82 k_23 s_24 = some xl52 → ∀ (H : Heap) (locs : List Loc) (ls : Array Slot), lv_has ls 8 [(0, .ref (E.2.2.1 259)), (1, .int x1), (2, .int x2), (3, .int x3), (4, .int v4_10), (5, .int v5_13), (6, .int v6_14)] → World E sh2 s_24 H → va_S E.2.2.2 s.heap H locs → W p l e (rmd 7) s m args below meth c H locs 0 0 (MQ below (QW E sh2 (some (.int rz)) sz) args s 0 0 E.2.2.2) (F0 m 82 ls [.int k_23]) := by
                intro k_23 s_24 hf H locs ls hl hw hS
                subst ej82
                refine lv_istore (lv' := [(7, .int k_23), (0, .ref (E.2.2.1 259)), (1, .int x1), (2, .int x2), (3, .int x3), (4, .int v4_10), (5, .int v5_13), (6, .int v6_14)]) hx hb dX12_shed_82 hl (by decide) rfl (fun ls hl => ?_)
                refine lv_iload hx hb dX12_shed_84 (lv_at hl 7 rfl) ?_
                refine lv_iload hx hb dX12_shed_86 (lv_at hl 5 rfl) ?_
                refine lv_iconst (v := -1) hx hb dX12_shed_88 (by decide) ?_
                refine lv_ixor hx hb dX12_shed_89 ?_
                refine lv_iand hx hb dX12_shed_90 ?_
                obtain ⟨j148, ej148, hf⟩ := ok_lt hf
                have J148 : ∀ (v5_25 : Int32) (s_26 : St), j148 v5_25 s_26 = some xl52 → ∀ (H : Heap) (locs : List Loc) (ls : Array Slot), lv_has ls 8 [(0, .ref (E.2.2.1 259)), (1, .int x1), (2, .int x2), (3, .int x3), (4, .int v4_10), (5, .int v5_25), (6, .int v6_14)] → World E sh2 s_26 H → va_S E.2.2.2 s.heap H locs → W p l e (rmd 7) s m args below meth c H locs 0 0 (MQ below (QW E sh2 (some (.int rz)) sz) args s 0 0 E.2.2.2) (F0 m 148 ls []) := by
                  intro v5_25 s_26 hf H locs ls hl hw hS
                  subst ej148
                  obtain ⟨v6_27, en, hf⟩ := ok_lt hf
                  refine lv_iinc (v := v6_27) (lv' := [(6, .int v6_27), (0, .ref (E.2.2.1 259)), (1, .int x1), (2, .int x2), (3, .int x3), (4, .int v4_10), (5, .int v5_25)]) hx hb dX12_shed_148 hl (k := 6) rfl (by rw [en]; rfl) (by decide) rfl (fun ls hl => ?_)
                  clear en
                  refine lv_goto (tgt := 52) hx hb dX12_shed_151 (by decide) ?_
                  cases hf
                  exact ih52 _ _ _ (hi52 _ rfl) _ _ ls (lv_sub hl [1, 2, 3, 4, 5, 6, 0] rfl) hw hS
                clear ej148
                have hif := ok_if hf
                refine lv_if_ne (tgt := 148) hx hb dX12_shed_91 (by decide) (fun hcd => ?_) (fun hcd => ?_)
                · have hf := hif.1 hcd
                  clear hif
                  exact J148 _ _ hf _ _ ls (lv_sub hl [1, 2, 3, 4, 5, 6, 7] rfl) hw hS
                · have hf := hif.2 (fun q => q hcd)
                  clear hif
                  refine lv_iload hx hb dX12_shed_94 (lv_at hl 0 rfl) ?_
                  have hif := ok_if hf
                  refine lv_if_eq (tgt := 148) hx hb dX12_shed_96 (by decide) (fun hcd => ?_) (fun hcd => ?_)
                  · have hf := hif.1 hcd
                    clear hif
                    exact J148 _ _ hf _ _ ls (lv_sub hl [1, 2, 3, 4, 5, 6, 7] rfl) hw hS
                  · have hf := hif.2 hcd
                    clear hif
                    refine lv_aload_n hx hb dX12_shed_99 rfl (lv_at hl 1 rfl) ?_
                    refine lv_iconst (v := 0) hx hb dX12_shed_100 (by decide) ?_
                    refine lv_iload_n hx hb dX12_shed_101 rfl (lv_at hl 2 rfl) ?_
                    obtain ⟨r_29, s_28, hc, hf⟩ := ok_bd hf
                    refine z_cV hC hl.1 hw hS (As := [.int (0 : Int32), .int x1]) (rest := []) (m_X12_runs l E  hc) rfl rfl gc243 gc244 ⟨Nat.le_of_ble_eq_true rfl, Nat.le_of_ble_eq_true rfl⟩ ⟨Nat.le_of_ble_eq_true rfl, Nat.le_of_ble_eq_true rfl⟩ rfl rfl (Nat.le_of_ble_eq_true rfl) dX12_shed_102 (fun H locs hw hS => ?_)
                    clear hc
                    have hif := ok_if hf
                    refine lv_if_eq (tgt := 148) hx hb dX12_shed_105 (by decide) (fun hcd => ?_) (fun hcd => ?_)
                    · have hf := hif.1 hcd
                      clear hif
                      exact J148 _ _ hf _ _ ls (lv_sub hl [1, 2, 3, 4, 5, 6, 7] rfl) hw hS
                    · have hf := hif.2 hcd
                      clear hif
                      refine lv_aload_n hx hb dX12_shed_108 rfl (lv_at hl 1 rfl) ?_
                      refine lv_iconst (v := 0) hx hb dX12_shed_109 (by decide) ?_
                      refine lv_sipush (v := 729) hx hb dX12_shed_110 (by decide) ?_
                      obtain ⟨s_30, hc, hf⟩ := ok_bind hf
                      refine z_cV hC hl.1 hw hS (As := [.int (0 : Int32), .int (729 : Int32)]) (rest := []) (m_X12_copies l E  hc) rfl rfl gc257 gc258 ⟨Nat.le_of_ble_eq_true rfl, Nat.le_of_ble_eq_true rfl⟩ ⟨Nat.le_of_ble_eq_true rfl, Nat.le_of_ble_eq_true rfl⟩ rfl rfl (Nat.le_of_ble_eq_true rfl) dX12_shed_113 (fun H locs hw hS => ?_)
                      clear hc
                      refine lv_aload_n hx hb dX12_shed_116 rfl (lv_at hl 1 rfl) ?_
                      refine lv_iload hx hb dX12_shed_117 (lv_at hl 7 rfl) ?_
                      obtain ⟨s_31, hc, hf⟩ := ok_bind hf
                      refine z_cV hC hl.1 hw hS (As := [.int v6_14]) (rest := []) (m_X12_offs l E  hc) rfl rfl gc281 gc282 ⟨Nat.le_of_ble_eq_true rfl, Nat.le_of_ble_eq_true rfl⟩ ⟨Nat.le_of_ble_eq_true rfl, Nat.le_of_ble_eq_true rfl⟩ rfl rfl (Nat.le_of_ble_eq_true rfl) dX12_shed_119 (fun H locs hw hS => ?_)
                      clear hc
                      refine lv_aload_n hx hb dX12_shed_122 rfl (lv_at hl 1 rfl) ?_
                      refine lv_aload_n hx hb dX12_shed_123 rfl (lv_at hl 1 rfl) ?_
                      refine gModel_slot hC hw wd598 dX12_shed_124 ?_
                      refine lv_bipush (v := 12) hx hb dX12_shed_127 (by decide) ?_
                      refine lv_iload_n hx hb dX12_shed_129 rfl (lv_at hl 2 rfl) ?_
                      refine lv_iadd hx hb dX12_shed_130 ?_
                      obtain ⟨hin, hf⟩ := ok_chk hf
                      refine z_iald hC hw rfl hin dX12_shed_131 ?_
                      refine lv_iload_n hx hb dX12_shed_132 rfl (lv_at hl 3 rfl) ?_
                      obtain ⟨r_33, s_32, hc, hf⟩ := ok_bd hf
                      refine z_cV hC hl.1 hw hS (As := [.int (s_31 260 (((12 : Int32) + x1)).toNatClampNeg), .int x2]) (rest := []) (m_X12_isLiveFor l E  hc) rfl rfl gc283 gc284 ⟨Nat.le_of_ble_eq_true rfl, Nat.le_of_ble_eq_true rfl⟩ ⟨Nat.le_of_ble_eq_true rfl, Nat.le_of_ble_eq_true rfl⟩ rfl rfl (Nat.le_of_ble_eq_true rfl) dX12_shed_133 (fun H locs hw hS => ?_)
                      clear hc
                      obtain ⟨j146, ej146, hf⟩ := ok_lt hf
                      have J146 : ∀ (k_34 : Int32) (s_35 : St), j146 k_34 s_35 = some xl52 → ∀ (H : Heap) (locs : List Loc) (ls : Array Slot), lv_has ls 8 [(0, .ref (E.2.2.1 259)), (1, .int x1), (2, .int x2), (3, .int x3), (4, .int v4_10), (6, .int v6_14)] → World E sh2 s_35 H → va_S E.2.2.2 s.heap H locs → W p l e (rmd 7) s m args below meth c H locs 0 0 (MQ below (QW E sh2 (some (.int rz)) sz) args s 0 0 E.2.2.2) (F0 m 146 ls [.int k_34]) := by
                        intro k_34 s_35 hf H locs ls hl hw hS
                        subst ej146
                        refine lv_istore (lv' := [(5, .int k_34), (0, .ref (E.2.2.1 259)), (1, .int x1), (2, .int x2), (3, .int x3), (4, .int v4_10), (6, .int v6_14)]) hx hb dX12_shed_146 hl (by decide) rfl (fun ls hl => ?_)
                        exact J148 _ _ hf _ _ ls (lv_sub hl [1, 2, 3, 4, 5, 0, 6] rfl) hw hS
                      clear ej146
                      have hif := ok_if hf
                      refine lv_if_eq (tgt := 144) hx hb dX12_shed_136 (by decide) (fun hcd => ?_) (fun hcd => ?_)
                      · have hf := hif.1 hcd
                        clear hif
                        refine lv_iload hx hb dX12_shed_144 (lv_at hl 6 rfl) ?_
                        exact J146 _ _ hf _ _ ls (lv_sub hl [1, 2, 3, 4, 5, 7] rfl) hw hS
                      · have hf := hif.2 hcd
                        clear hif
                        refine lv_iload hx hb dX12_shed_139 (lv_at hl 7 rfl) ?_
                        refine lv_goto (tgt := 146) hx hb dX12_shed_141 (by decide) ?_
                        exact J146 _ _ hf _ _ ls (lv_sub hl [1, 2, 3, 4, 5, 7] rfl) hw hS
              clear ej82
              obtain ⟨j77, ej77, hf⟩ := ok_lt hf
              have J77 : ∀ (s_36 : St), j77 s_36 = some xl52 → ∀ (H : Heap) (locs : List Loc) (ls : Array Slot), lv_has ls 8 [(0, .ref (E.2.2.1 259)), (1, .int x1), (2, .int x2), (3, .int x3), (4, .int v4_10), (5, .int v5_13), (6, .int v6_14)] → World E sh2 s_36 H → va_S E.2.2.2 s.heap H locs → W p l e (rmd 7) s m args below meth c H locs 0 0 (MQ below (QW E sh2 (some (.int rz)) sz) args s 0 0 E.2.2.2) (F0 m 77 ls []) := by
                intro s_36 hf H locs ls hl hw hS
                subst ej77
                refine lv_iconst (v := 1) hx hb dX12_shed_77 (by decide) ?_
                refine lv_goto (tgt := 82) hx hb dX12_shed_78 (by decide) ?_
                exact J82 _ _ hf _ _ ls hl hw hS
              clear ej77
              have hif := ok_if hf
              refine lv_if_lt (tgt := 77) hx hb dX12_shed_61 (by decide) (fun hcd => ?_) (fun hcd => ?_)
              · have hf := hif.1 hcd
                clear hif
                exact J77 _ hf _ _ ls hl hw hS
              · have hf := hif.2 hcd
                clear hif
                refine lv_iload hx hb dX12_shed_64 (lv_at hl 6 rfl) ?_
                obtain ⟨r_38, s_37, hc, hf⟩ := ok_bd hf
                refine z_cS hC hl.1 hw hS (As := [.int v6_14]) (rest := []) (m_X12_bits l E  hc) gc279 gc280 ⟨Nat.le_of_ble_eq_true rfl, Nat.le_of_ble_eq_true rfl⟩ ⟨Nat.le_of_ble_eq_true rfl, Nat.le_of_ble_eq_true rfl⟩ rfl rfl (Nat.le_of_ble_eq_true rfl) dX12_shed_66 (fun H locs hw hS => ?_)
                clear hc
                refine lv_iload hx hb dX12_shed_69 (lv_at hl 5 rfl) ?_
                obtain ⟨r_40, s_39, hc, hf⟩ := ok_bd hf
                refine z_cS hC hl.1 hw hS (As := [.int v5_13]) (rest := [.int r_38]) (m_X12_bits l E  hc) gc279 gc280 ⟨Nat.le_of_ble_eq_true rfl, Nat.le_of_ble_eq_true rfl⟩ ⟨Nat.le_of_ble_eq_true rfl, Nat.le_of_ble_eq_true rfl⟩ rfl rfl (Nat.le_of_ble_eq_true rfl) dX12_shed_71 (fun H locs hw hS => ?_)
                clear hc
                have hif := ok_if hf
                refine lv_icmp_ge (tgt := 81) hx hb dX12_shed_74 (by decide) (fun hcd => ?_) (fun hcd => ?_)
                · have hf := hif.1 hcd
                  clear hif
                  refine lv_iconst (v := 0) hx hb dX12_shed_81 (by decide) ?_
                  exact J82 _ _ hf _ _ ls hl hw hS
                · have hf := hif.2 hcd
                  clear hif
                  exact J77 _ hf _ _ ls hl hw hS
        exact L52 5000 _ _ _ hL52 _ _ ls (lv_sub hl [3, 4, 5, 6, 2, 1, 0] rfl) hw hS
      · have hf := hif.2 (fun q => q hcd)
        clear hif
        exact J30 _ hf _ _ ls (lv_sub hl [] rfl) hw hS
