set_option maxHeartbeats 4000000 in
set_option maxRecDepth 100000 in
theorem m_X11_bill (l : Launch) (E : Ev) {x1 : Int32} {x2 : Int32}  {s0 sz : St} {rz : Int32} (hf : f_X11_bill x1 x2 s0 = some (rz, sz)) : MM l E sh2 yX11_bill cX11_bill 7 (some .int) (rmd 4) [.ref (E.2.2.1 0), .int x1, .int x2] s0 (some (.int rz)) sz := by
  unfold f_X11_bill at hf
  refine z_enter (by decide +kernel) (Nat.le_of_ble_eq_true rfl) ?_
  intro p e s m args below meth c ls hC hr hlocks hw hS hl
  have hC : Cx p s m args c cX11_bill 7 "FuseBox" E := hC
  obtain ⟨hx, hb, hml, hown, hts, hTB⟩ := id hC
  have hl : lv_has ls 7 [(0, .ref (E.2.2.1 0)), (1, .int x1), (2, .int x2)] := hl
  refine lv_aload_n hx hb dX11_bill_0 rfl (lv_at hl 0 rfl) ?_
  refine lv_iload_n hx hb dX11_bill_1 rfl (lv_at hl 1 rfl) ?_
  obtain ⟨r_2, s_1, hc, hf⟩ := ok_bd hf
  refine z_cV hC hl.1 hw hS (As := [.int x1]) (rest := []) (m_X11_noThing l E  hc) rfl rfl gc150 gc151 ⟨Nat.le_of_ble_eq_true rfl, Nat.le_of_ble_eq_true rfl⟩ ⟨Nat.le_of_ble_eq_true rfl, Nat.le_of_ble_eq_true rfl⟩ rfl rfl (Nat.le_of_ble_eq_true rfl) dX11_bill_2 (fun H locs hw hS => ?_)
  clear hc
  obtain ⟨j19, ej19, hf⟩ := ok_lt hf
  have J19 : ∀ (s_3 : St), j19 s_3 = some (rz, sz) → ∀ (H : Heap) (locs : List Loc) (ls : Array Slot), lv_has ls 7 [] → World E sh2 s_3 H → va_S E.2.2.2 s.heap H locs → W p l e (rmd 4) s m args below meth c H locs 0 0 (MQ below (QW E sh2 (some (.int rz)) sz) args s 0 0 E.2.2.2) (F0 m 19 ls []) := by
    intro s_3 hf H locs ls hl hw hS
    subst ej19
    refine lv_ldc (v := -1000001) hx hb hown (hts _ wd305) dX11_bill_19 ?_
    exact z_iretE hC hlocks hw hS hf hr rfl dX11_bill_21
  clear ej19
  have hif := ok_if hf
  refine lv_if_ne (tgt := 19) hx hb dX11_bill_5 (by decide) (fun hcd => ?_) (fun hcd => ?_)
  · have hf := hif.1 hcd
    clear hif
    exact J19 _ hf _ _ ls (lv_sub hl [] rfl) hw hS
  · have hf := hif.2 (fun q => q hcd)
    clear hif
    refine lv_iload_n hx hb dX11_bill_8 rfl (lv_at hl 2 rfl) ?_
    have hif := ok_if hf
    refine lv_if_lt (tgt := 19) hx hb dX11_bill_9 (by decide) (fun hcd => ?_) (fun hcd => ?_)
    · have hf := hif.1 hcd
      clear hif
      exact J19 _ hf _ _ ls (lv_sub hl [] rfl) hw hS
    · have hf := hif.2 hcd
      clear hif
      refine lv_iload_n hx hb dX11_bill_12 rfl (lv_at hl 2 rfl) ?_
      refine lv_sipush (v := 999) hx hb dX11_bill_13 (by decide) ?_
      have hif := ok_if hf
      refine lv_icmp_le (tgt := 22) hx hb dX11_bill_16 (by decide) (fun hcd => ?_) (fun hcd => ?_)
      · have hf := hif.1 hcd
        clear hif
        refine lv_aload_n hx hb dX11_bill_22 rfl (lv_at hl 0 rfl) ?_
        refine gFuseBox_now hC hw wd354 dX11_bill_23 ?_
        obtain ⟨r_5, s_4, hc, hf⟩ := ok_bd hf
        refine z_cV hC hl.1 hw hS (As := []) (rest := []) (m_X3_reckonFlows l E isH_19 hc) (sH isH_19).1 rfl gc177 gc27 ⟨Nat.le_of_ble_eq_true rfl, Nat.le_of_ble_eq_true rfl⟩ ⟨Nat.le_of_ble_eq_true rfl, Nat.le_of_ble_eq_true rfl⟩ rfl rfl (Nat.le_of_ble_eq_true rfl) dX11_bill_26 (fun H locs hw hS => ?_)
        clear hc
        refine lv_istore_n (lv' := [(3, .int r_5), (0, .ref (E.2.2.1 0)), (1, .int x1), (2, .int x2)]) hx hb dX11_bill_29 rfl hl (by decide) rfl (fun ls hl => ?_)
        refine lv_aload_n hx hb dX11_bill_30 rfl (lv_at hl 1 rfl) ?_
        refine gFuseBox_now hC hw wd354 dX11_bill_31 ?_
        refine lv_iload_n hx hb dX11_bill_34 rfl (lv_at hl 2 rfl) ?_
        obtain ⟨r_7, s_6, hc, hf⟩ := ok_bd hf
        refine z_cV hC hl.1 hw hS (As := [.int x1]) (rest := []) (m_X3_runs l E isH_19 hc) (sH isH_19).1 rfl gc167 gc25 ⟨Nat.le_of_ble_eq_true rfl, Nat.le_of_ble_eq_true rfl⟩ ⟨Nat.le_of_ble_eq_true rfl, Nat.le_of_ble_eq_true rfl⟩ rfl rfl (Nat.le_of_ble_eq_true rfl) dX11_bill_35 (fun H locs hw hS => ?_)
        clear hc
        obtain ⟨j45, ej45, hf⟩ := ok_lt hf
        have J45 : ∀ (s_8 : St), j45 s_8 = some (rz, sz) → ∀ (H : Heap) (locs : List Loc) (ls : Array Slot), lv_has ls 7 [] → World E sh2 s_8 H → va_S E.2.2.2 s.heap H locs → W p l e (rmd 4) s m args below meth c H locs 0 0 (MQ below (QW E sh2 (some (.int rz)) sz) args s 0 0 E.2.2.2) (F0 m 45 ls []) := by
          intro s_8 hf H locs ls hl hw hS
          subst ej45
          refine lv_iconst (v := 0) hx hb dX11_bill_45 (by decide) ?_
          exact z_iretE hC hlocks hw hS hf hr rfl dX11_bill_46
        clear ej45
        have hif := ok_if hf
        refine lv_if_eq (tgt := 45) hx hb dX11_bill_38 (by decide) (fun hcd => ?_) (fun hcd => ?_)
        · have hf := hif.1 hcd
          clear hif
          exact J45 _ hf _ _ ls (lv_sub hl [] rfl) hw hS
        · have hf := hif.2 hcd
          clear hif
          refine lv_iload_n hx hb dX11_bill_41 rfl (lv_at hl 0 rfl) ?_
          have hif := ok_if hf
          refine lv_if_gt (tgt := 47) hx hb dX11_bill_42 (by decide) (fun hcd => ?_) (fun hcd => ?_)
          · have hf := hif.1 hcd
            clear hif
            refine lv_iload_n hx hb dX11_bill_47 rfl (lv_at hl 3 rfl) ?_
            refine lv_istore (lv' := [(4, .int x2), (3, .int r_5), (0, .ref (E.2.2.1 0)), (1, .int x1), (2, .int x2)]) hx hb dX11_bill_48 hl (by decide) rfl (fun ls hl => ?_)
            refine lv_iconst (v := 0) hx hb dX11_bill_50 (by decide) ?_
            obtain ⟨v5_9, en, hf⟩ := ok_lt hf
            refine z_nm en ?_
            clear en
            refine lv_istore (lv' := [(5, .int v5_9), (4, .int x2), (3, .int r_5), (0, .ref (E.2.2.1 0)), (1, .int x1), (2, .int x2)]) hx hb dX11_bill_51 hl (by decide) rfl (fun ls hl => ?_)
            refine lv_iconst (v := 0) hx hb dX11_bill_53 (by decide) ?_
            obtain ⟨v6_10, en, hf⟩ := ok_lt hf
            refine z_nm en ?_
            clear en
            refine lv_istore (lv' := [(6, .int v6_10), (5, .int v5_9), (4, .int x2), (3, .int r_5), (0, .ref (E.2.2.1 0)), (1, .int x1), (2, .int x2)]) hx hb dX11_bill_54 hl (by decide) rfl (fun ls hl => ?_)
            obtain ⟨r56, hL56, hf⟩ := ok_bind hf
            have X56_0 : ∀ (v4_15 : Int32) (v5_16 : Int32) (s_17 : St), (v4_15, v5_16, s_17) = r56 → ∀ (H : Heap) (locs : List Loc) (ls : Array Slot), lv_has ls 7 [(0, .ref (E.2.2.1 0)), (1, .int x1), (2, .int x2), (3, .int r_5), (4, .int v4_15), (5, .int v5_16)] → World E sh2 s_17 H → va_S E.2.2.2 s.heap H locs → W p l e (rmd 4) s m args below meth c H locs 0 0 (MQ below (QW E sh2 (some (.int rz)) sz) args s 0 0 E.2.2.2) (F0 m 121 ls []) := by
              intro v4_15 v5_16 s_17 er H locs ls hl hw hS
              subst er
              replace hf := ok_un3 hf
              refine lv_iload_n hx hb dX11_bill_121 rfl (lv_at hl 2 rfl) ?_
              refine lv_aload_n hx hb dX11_bill_122 rfl (lv_at hl 0 rfl) ?_
              refine gFuseBox_now hC hw wd354 dX11_bill_123 ?_
              refine gHouse_load hC hw isH_19 wd418 dX11_bill_126 ?_
              refine lv_iload_n hx hb dX11_bill_129 rfl (lv_at hl 1 rfl) ?_
              obtain ⟨hin, hf⟩ := ok_chk hf
              refine z_iald hC hw (sH isH_19).2.2.2.2.2.2.2 hin dX11_bill_130 ?_
              refine lv_imul hx hb dX11_bill_131 ?_
              refine lv_iload_n hx hb dX11_bill_132 rfl (lv_at hl 3 rfl) ?_
              obtain ⟨hnz, hf⟩ := ok_chk hf
              refine lv_idiv hx hb dX11_bill_133 hnz ?_
              refine lv_iload hx hb dX11_bill_134 (lv_at hl 5 rfl) ?_
              refine lv_iload hx hb dX11_bill_136 (lv_at hl 4 rfl) ?_
              obtain ⟨j146, ej146, hf⟩ := ok_lt hf
              have J146 : ∀ (k_18 : Int32) (s_19 : St), j146 k_18 s_19 = some (rz, sz) → ∀ (H : Heap) (locs : List Loc) (ls : Array Slot), lv_has ls 7 [] → World E sh2 s_19 H → va_S E.2.2.2 s.heap H locs → W p l e (rmd 4) s m args below meth c H locs 0 0 (MQ below (QW E sh2 (some (.int rz)) sz) args s 0 0 E.2.2.2) (F0 m 146 ls [.int k_18, .int ((x2 * (s_17 (19 + 7) (x1).toNatClampNeg)) / r_5)]) := by
                intro k_18 s_19 hf H locs ls hl hw hS
                subst ej146
                refine lv_iadd hx hb dX11_bill_146 ?_
                exact z_iretE hC hlocks hw hS hf hr rfl dX11_bill_147
              clear ej146
              have hif := ok_if hf
              refine lv_icmp_ge (tgt := 145) hx hb dX11_bill_138 (by decide) (fun hcd => ?_) (fun hcd => ?_)
              · have hf := hif.1 hcd
                clear hif
                refine lv_iconst (v := 0) hx hb dX11_bill_145 (by decide) ?_
                exact J146 _ _ hf _ _ ls (lv_sub hl [] rfl) hw hS
              · have hf := hif.2 hcd
                clear hif
                refine lv_iconst (v := 1) hx hb dX11_bill_141 (by decide) ?_
                refine lv_goto (tgt := 146) hx hb dX11_bill_142 (by decide) ?_
                exact J146 _ _ hf _ _ ls (lv_sub hl [] rfl) hw hS
            have L56 : ∀ (n : Nat) (v4_11 : Int32) (v5_12 : Int32) (v6_13 : Int32) (s_14 : St), loopF (f_X11_bill_L56 x1 x2 r_5) n (v4_11, v5_12, v6_13, s_14) = some r56 → ∀ (H : Heap) (locs : List Loc) (ls : Array Slot), lv_has ls 7 [(0, .ref (E.2.2.1 0)), (1, .int x1), (2, .int x2), (3, .int r_5), (4, .int v4_11), (5, .int v5_12), (6, .int v6_13)] → World E sh2 s_14 H → va_S E.2.2.2 s.heap H locs → W p l e (rmd 4) s m args below meth c H locs 0 0 (MQ below (QW E sh2 (some (.int rz)) sz) args s 0 0 E.2.2.2) (F0 m 56 ls []) := by
              intro n
              induction n with
              | zero =>
                intro v4_11 v5_12 v6_13 s_14 hf
                exact nz hf
              | succ n ih56 =>
                intro v4_11 v5_12 v6_13 s_14 hf H locs ls hl hw hS
                obtain ⟨xl56, hf, hi56, he56⟩ := ok_loop hf
                unfold f_X11_bill_L56 at hf
                replace hf := ok_un4 hf
                refine lv_iload hx hb dX11_bill_56 (lv_at hl 6 rfl) ?_
                refine lv_aload_n hx hb dX11_bill_58 rfl (lv_at hl 0 rfl) ?_
                refine gFuseBox_now hC hw wd354 dX11_bill_59 ?_
                refine gHouse_things hC hw isH_19 wd383 dX11_bill_62 ?_
                have hif := ok_if hf
                refine lv_icmp_ge (tgt := 121) hx hb dX11_bill_65 (by decide) (fun hcd => ?_) (fun hcd => ?_)
                · have hf := hif.1 hcd
                  clear hif
                  cases hf
                  exact X56_0 _ _ _ (he56 _ rfl) _ _ ls (lv_sub hl [0, 1, 2, 3, 4, 5] rfl) hw hS
                · have hf := hif.2 hcd
                  clear hif
                  refine lv_aload_n hx hb dX11_bill_68 rfl (lv_at hl 0 rfl) ?_
                  refine gFuseBox_now hC hw wd354 dX11_bill_69 ?_
                  refine lv_iload hx hb dX11_bill_72 (lv_at hl 6 rfl) ?_
                  obtain ⟨r_21, s_20, hc, hf⟩ := ok_bd hf
                  refine z_cV hC hl.1 hw hS (As := [.int v6_13]) (rest := []) (m_X3_runs l E isH_19 hc) (sH isH_19).1 rfl gc167 gc25 ⟨Nat.le_of_ble_eq_true rfl, Nat.le_of_ble_eq_true rfl⟩ ⟨Nat.le_of_ble_eq_true rfl, Nat.le_of_ble_eq_true rfl⟩ rfl rfl (Nat.le_of_ble_eq_true rfl) dX11_bill_74 (fun H locs hw hS => ?_)
                  clear hc
                  obtain ⟨j115, ej115, hf⟩ := ok_lt hf
                  have J115 : ∀ (v4_22 : Int32) (v5_23 : Int32) (s_24 : St), j115 v4_22 v5_23 s_24 = some xl56 → ∀ (H : Heap) (locs : List Loc) (ls : Array Slot), lv_has ls 7 [(0, .ref (E.2.2.1 0)), (1, .int x1), (2, .int x2), (3, .int r_5), (4, .int v4_22), (5, .int v5_23), (6, .int v6_13)] → World E sh2 s_24 H → va_S E.2.2.2 s.heap H locs → W p l e (rmd 4) s m args below meth c H locs 0 0 (MQ below (QW E sh2 (some (.int rz)) sz) args s 0 0 E.2.2.2) (F0 m 115 ls []) := by
                    intro v4_22 v5_23 s_24 hf H locs ls hl hw hS
                    subst ej115
                    obtain ⟨v6_25, en, hf⟩ := ok_lt hf
                    refine lv_iinc (v := v6_25) (lv' := [(6, .int v6_25), (0, .ref (E.2.2.1 0)), (1, .int x1), (2, .int x2), (3, .int r_5), (4, .int v4_22), (5, .int v5_23)]) hx hb dX11_bill_115 hl (k := 6) rfl (by rw [en]; rfl) (by decide) rfl (fun ls hl => ?_)
                    clear en
                    refine lv_goto (tgt := 56) hx hb dX11_bill_118 (by decide) ?_
                    cases hf
                    exact ih56 _ _ _ _ (hi56 _ rfl) _ _ ls (lv_sub hl [1, 2, 3, 4, 5, 6, 0] rfl) hw hS
                  clear ej115
                  have hif := ok_if hf
                  refine lv_if_eq (tgt := 115) hx hb dX11_bill_77 (by decide) (fun hcd => ?_) (fun hcd => ?_)
                  · have hf := hif.1 hcd
                    clear hif
                    exact J115 _ _ _ hf _ _ ls hl hw hS
                  · have hf := hif.2 hcd
                    clear hif
                    refine lv_iload hx hb dX11_bill_80 (lv_at hl 4 rfl) ?_
                    refine lv_iload_n hx hb dX11_bill_82 rfl (lv_at hl 2 rfl) ?_
                    refine lv_aload_n hx hb dX11_bill_83 rfl (lv_at hl 0 rfl) ?_
                    refine gFuseBox_now hC hw wd354 dX11_bill_84 ?_
                    refine gHouse_load hC hw isH_19 wd418 dX11_bill_87 ?_
                    refine lv_iload hx hb dX11_bill_90 (lv_at hl 6 rfl) ?_
                    obtain ⟨hin, hf⟩ := ok_chk hf
                    refine z_iald hC hw (sH isH_19).2.2.2.2.2.2.2 hin dX11_bill_92 ?_
                    refine lv_imul hx hb dX11_bill_93 ?_
                    refine lv_iload_n hx hb dX11_bill_94 rfl (lv_at hl 3 rfl) ?_
                    obtain ⟨hnz, hf⟩ := ok_chk hf
                    refine lv_idiv hx hb dX11_bill_95 hnz ?_
                    refine lv_isub hx hb dX11_bill_96 ?_
                    obtain ⟨v4_26, en, hf⟩ := ok_lt hf
                    refine z_nm en ?_
                    clear en
                    refine lv_istore (lv' := [(4, .int v4_26), (0, .ref (E.2.2.1 0)), (1, .int x1), (2, .int x2), (3, .int r_5), (5, .int v5_12), (6, .int v6_13)]) hx hb dX11_bill_97 hl (by decide) rfl (fun ls hl => ?_)
                    refine lv_iload hx hb dX11_bill_99 (lv_at hl 5 rfl) ?_
                    refine lv_iload hx hb dX11_bill_101 (lv_at hl 6 rfl) ?_
                    refine lv_iload_n hx hb dX11_bill_103 rfl (lv_at hl 2 rfl) ?_
                    obtain ⟨j112, ej112, hf⟩ := ok_lt hf
                    have J112 : ∀ (k_27 : Int32) (s_28 : St), j112 k_27 s_28 = some xl56 → ∀ (H : Heap) (locs : List Loc) (ls : Array Slot), lv_has ls 7 [(0, .ref (E.2.2.1 0)), (1, .int x1), (2, .int x2), (3, .int r_5), (4, .int v4_26), (6, .int v6_13)] → World E sh2 s_28 H → va_S E.2.2.2 s.heap H locs → W p l e (rmd 4) s m args below meth c H locs 0 0 (MQ below (QW E sh2 (some (.int rz)) sz) args s 0 0 E.2.2.2) (F0 m 112 ls [.int k_27, .int v5_12]) := by
                      intro k_27 s_28 hf H locs ls hl hw hS
                      subst ej112
                      refine lv_iadd hx hb dX11_bill_112 ?_
                      obtain ⟨v5_29, en, hf⟩ := ok_lt hf
                      refine z_nm en ?_
                      clear en
                      refine lv_istore (lv' := [(5, .int v5_29), (0, .ref (E.2.2.1 0)), (1, .int x1), (2, .int x2), (3, .int r_5), (4, .int v4_26), (6, .int v6_13)]) hx hb dX11_bill_113 hl (by decide) rfl (fun ls hl => ?_)
                      exact J115 _ _ _ hf _ _ ls (lv_sub hl [1, 2, 3, 4, 5, 0, 6] rfl) hw hS
                    clear ej112
                    have hif := ok_if hf
                    refine lv_icmp_ge (tgt := 111) hx hb dX11_bill_104 (by decide) (fun hcd => ?_) (fun hcd => ?_)
                    · have hf := hif.1 hcd
                      clear hif
                      refine lv_iconst (v := 0) hx hb dX11_bill_111 (by decide) ?_
                      exact J112 _ _ hf _ _ ls (lv_sub hl [1, 2, 3, 4, 0, 6] rfl) hw hS
                    · have hf := hif.2 hcd
                      clear hif
                      refine lv_iconst (v := 1) hx hb dX11_bill_107 (by decide) ?_
                      refine lv_goto (tgt := 112) hx hb dX11_bill_108 (by decide) ?_
                      exact J112 _ _ hf _ _ ls (lv_sub hl [1, 2, 3, 4, 0, 6] rfl) hw hS
            exact L56 5000 _ _ _ _ hL56 _ _ ls (lv_sub hl [4, 5, 6, 3, 2, 1, 0] rfl) hw hS
          · have hf := hif.2 hcd
            clear hif
            exact J45 _ hf _ _ ls (lv_sub hl [] rfl) hw hS
      · have hf := hif.2 hcd
        clear hif
        exact J19 _ hf _ _ ls (lv_sub hl [] rfl) hw hS
set_option maxHeartbeats 4000000 in
set_option maxRecDepth 100000 in
theorem m_X11_sortsThatFit (l : Launch) (E : Ev) {x1 : Int32} {a2 : Nat} {x3 : Int32} {x4 : Int32} (t2 : isR a2) {s0 sz : St} {rz : Int32} (hf : f_X11_sortsThatFit x1 a2 x3 x4 s0 = some (rz, sz)) : MM l E sh2 yX11_sortsThatFit cX11_sortsThatFit 7 (some .int) (rmd 6) [.ref (E.2.2.1 0), .int x1, .ref (E.2.2.1 a2), .int x3, .int x4] s0 (some (.int rz)) sz := by
  unfold f_X11_sortsThatFit at hf
  refine z_enter (by decide +kernel) (Nat.le_of_ble_eq_true rfl) ?_
  intro p e s m args below meth c ls hC hr hlocks hw hS hl
  have hC : Cx p s m args c cX11_sortsThatFit 7 "FuseBox" E := hC
  obtain ⟨hx, hb, hml, hown, hts, hTB⟩ := id hC
  have hl : lv_has ls 7 [(0, .ref (E.2.2.1 0)), (1, .int x1), (2, .ref (E.2.2.1 a2)), (3, .int x3), (4, .int x4)] := hl
  refine lv_iconst (v := 0) hx hb dX11_sortsThatFit_0 (by decide) ?_
  obtain ⟨v5_1, en, hf⟩ := ok_lt hf
  refine z_nm en ?_
  clear en
  refine lv_istore (lv' := [(5, .int v5_1), (0, .ref (E.2.2.1 0)), (1, .int x1), (2, .ref (E.2.2.1 a2)), (3, .int x3), (4, .int x4)]) hx hb dX11_sortsThatFit_1 hl (by decide) rfl (fun ls hl => ?_)
  refine lv_iconst (v := 1) hx hb dX11_sortsThatFit_3 (by decide) ?_
  obtain ⟨v6_2, en, hf⟩ := ok_lt hf
  refine z_nm en ?_
  clear en
  refine lv_istore (lv' := [(6, .int v6_2), (5, .int v5_1), (0, .ref (E.2.2.1 0)), (1, .int x1), (2, .ref (E.2.2.1 a2)), (3, .int x3), (4, .int x4)]) hx hb dX11_sortsThatFit_4 hl (by decide) rfl (fun ls hl => ?_)
  obtain ⟨r6, hL6, hf⟩ := ok_bind hf
  have X6_0 : ∀ (v5_6 : Int32) (s_7 : St), (v5_6, s_7) = r6 → ∀ (H : Heap) (locs : List Loc) (ls : Array Slot), lv_has ls 7 [(5, .int v5_6)] → World E sh2 s_7 H → va_S E.2.2.2 s.heap H locs → W p l e (rmd 6) s m args below meth c H locs 0 0 (MQ below (QW E sh2 (some (.int rz)) sz) args s 0 0 E.2.2.2) (F0 m 70 ls []) := by
    intro v5_6 s_7 er H locs ls hl hw hS
    subst er
    replace hf := ok_un2 hf
    refine lv_iload hx hb dX11_sortsThatFit_70 (lv_at hl 0 rfl) ?_
    exact z_iretE hC hlocks hw hS hf hr rfl dX11_sortsThatFit_72
  have L6 : ∀ (n : Nat) (v5_3 : Int32) (v6_4 : Int32) (s_5 : St), loopF (f_X11_sortsThatFit_L6 x1 a2 x3 x4) n (v5_3, v6_4, s_5) = some r6 → ∀ (H : Heap) (locs : List Loc) (ls : Array Slot), lv_has ls 7 [(0, .ref (E.2.2.1 0)), (1, .int x1), (2, .ref (E.2.2.1 a2)), (3, .int x3), (4, .int x4), (5, .int v5_3), (6, .int v6_4)] → World E sh2 s_5 H → va_S E.2.2.2 s.heap H locs → W p l e (rmd 6) s m args below meth c H locs 0 0 (MQ below (QW E sh2 (some (.int rz)) sz) args s 0 0 E.2.2.2) (F0 m 6 ls []) := by
    intro n
    induction n with
    | zero =>
      intro v5_3 v6_4 s_5 hf
      exact nz hf
    | succ n ih6 =>
      intro v5_3 v6_4 s_5 hf H locs ls hl hw hS
      obtain ⟨xl6, hf, hi6, he6⟩ := ok_loop hf
      unfold f_X11_sortsThatFit_L6 at hf
      replace hf := ok_un3 hf
      refine lv_iload hx hb dX11_sortsThatFit_6 (lv_at hl 6 rfl) ?_
      refine lv_iconst (v := 5) hx hb dX11_sortsThatFit_8 (by decide) ?_
      have hif := ok_if hf
      refine lv_icmp_gt (tgt := 70) hx hb dX11_sortsThatFit_9 (by decide) (fun hcd => ?_) (fun hcd => ?_)
      · have hf := hif.1 hcd
        clear hif
        cases hf
        exact X6_0 _ _ (he6 _ rfl) _ _ ls (lv_sub hl [5] rfl) hw hS
      · have hf := hif.2 hcd
        clear hif
        refine lv_aload_n hx hb dX11_sortsThatFit_12 rfl (lv_at hl 0 rfl) ?_
        refine gFuseBox_trial hC hw wd349 dX11_sortsThatFit_13 ?_
        refine lv_aload_n hx hb dX11_sortsThatFit_16 rfl (lv_at hl 0 rfl) ?_
        refine gFuseBox_now hC hw wd354 dX11_sortsThatFit_17 ?_
        obtain ⟨s_8, hc, hf⟩ := ok_bind hf
        refine z_cV hC hl.1 hw hS (As := [.ref (E.2.2.1 19)]) (rest := []) (m_X3_become l E isH_27 isH_19 hc) (sH isH_27).1 rfl gc139 gc140 ⟨Nat.le_of_ble_eq_true rfl, Nat.le_of_ble_eq_true rfl⟩ ⟨Nat.le_of_ble_eq_true rfl, Nat.le_of_ble_eq_true rfl⟩ rfl rfl (Nat.le_of_ble_eq_true rfl) dX11_sortsThatFit_20 (fun H locs hw hS => ?_)
        clear hc
        refine lv_aload_n hx hb dX11_sortsThatFit_23 rfl (lv_at hl 0 rfl) ?_
        refine gFuseBox_trial hC hw wd349 dX11_sortsThatFit_24 ?_
        refine lv_iload_n hx hb dX11_sortsThatFit_27 rfl (lv_at hl 1 rfl) ?_
        refine lv_iload hx hb dX11_sortsThatFit_28 (lv_at hl 6 rfl) ?_
        obtain ⟨s_9, hc, hf⟩ := ok_bind hf
        refine z_cV hC hl.1 hw hS (As := [.int x1, .int v6_4]) (rest := []) (m_X3_takeKind l E isH_27 hc) (sH isH_27).1 rfl gc178 gc179 ⟨Nat.le_of_ble_eq_true rfl, Nat.le_of_ble_eq_true rfl⟩ ⟨Nat.le_of_ble_eq_true rfl, Nat.le_of_ble_eq_true rfl⟩ rfl rfl (Nat.le_of_ble_eq_true rfl) dX11_sortsThatFit_30 (fun H locs hw hS => ?_)
        clear hc
        refine lv_iload hx hb dX11_sortsThatFit_33 (lv_at hl 5 rfl) ?_
        refine lv_aload_n hx hb dX11_sortsThatFit_35 rfl (lv_at hl 0 rfl) ?_
        refine gFuseBox_trial hC hw wd349 dX11_sortsThatFit_36 ?_
        refine lv_iload_n hx hb dX11_sortsThatFit_39 rfl (lv_at hl 1 rfl) ?_
        refine lv_aload_n hx hb dX11_sortsThatFit_40 rfl (lv_at hl 2 rfl) ?_
        refine gRow_items hC hw t2 wd328 dX11_sortsThatFit_41 ?_
        refine lv_iload_n hx hb dX11_sortsThatFit_44 rfl (lv_at hl 3 rfl) ?_
        refine lv_iload hx hb dX11_sortsThatFit_45 (lv_at hl 4 rfl) ?_
        obtain ⟨r_11, s_10, hc, hf⟩ := ok_bd hf
        refine z_cV hC hl.1 hw hS (As := [.int x1, .ref (E.2.2.1 (a2 + 1)), .int x3, .int x4]) (rest := [.int v5_3]) (m_X3_heatsAs l E isH_27 (sR t2).2 hc) (sH isH_27).1 rfl gc180 gc181 ⟨Nat.le_of_ble_eq_true rfl, Nat.le_of_ble_eq_true rfl⟩ ⟨Nat.le_of_ble_eq_true rfl, Nat.le_of_ble_eq_true rfl⟩ rfl rfl (Nat.le_of_ble_eq_true rfl) dX11_sortsThatFit_47 (fun H locs hw hS => ?_)
        clear hc
        obtain ⟨j61, ej61, hf⟩ := ok_lt hf
        have J61 : ∀ (k_12 : Int32) (s_13 : St), j61 k_12 s_13 = some xl6 → ∀ (H : Heap) (locs : List Loc) (ls : Array Slot), lv_has ls 7 [(0, .ref (E.2.2.1 0)), (1, .int x1), (2, .ref (E.2.2.1 a2)), (3, .int x3), (4, .int x4), (6, .int v6_4)] → World E sh2 s_13 H → va_S E.2.2.2 s.heap H locs → W p l e (rmd 6) s m args below meth c H locs 0 0 (MQ below (QW E sh2 (some (.int rz)) sz) args s 0 0 E.2.2.2) (F0 m 61 ls [.int k_12, .int v5_3]) := by
          intro k_12 s_13 hf H locs ls hl hw hS
          subst ej61
          refine lv_ior hx hb dX11_sortsThatFit_61 ?_
          obtain ⟨v5_14, en, hf⟩ := ok_lt hf
          refine z_nm en ?_
          clear en
          refine lv_istore (lv' := [(5, .int v5_14), (0, .ref (E.2.2.1 0)), (1, .int x1), (2, .ref (E.2.2.1 a2)), (3, .int x3), (4, .int x4), (6, .int v6_4)]) hx hb dX11_sortsThatFit_62 hl (by decide) rfl (fun ls hl => ?_)
          obtain ⟨v6_15, en, hf⟩ := ok_lt hf
          refine lv_iinc (v := v6_15) (lv' := [(6, .int v6_15), (5, .int v5_14), (0, .ref (E.2.2.1 0)), (1, .int x1), (2, .ref (E.2.2.1 a2)), (3, .int x3), (4, .int x4)]) hx hb dX11_sortsThatFit_64 hl (k := 6) rfl (by rw [en]; rfl) (by decide) rfl (fun ls hl => ?_)
          clear en
          refine lv_goto (tgt := 6) hx hb dX11_sortsThatFit_67 (by decide) ?_
          cases hf
          exact ih6 _ _ _ (hi6 _ rfl) _ _ ls (lv_sub hl [2, 3, 4, 5, 6, 1, 0] rfl) hw hS
        clear ej61
        have hif := ok_if hf
        refine lv_if_eq (tgt := 60) hx hb dX11_sortsThatFit_50 (by decide) (fun hcd => ?_) (fun hcd => ?_)
        · have hf := hif.1 hcd
          clear hif
          refine lv_iconst (v := 0) hx hb dX11_sortsThatFit_60 (by decide) ?_
          exact J61 _ _ hf _ _ ls (lv_sub hl [0, 1, 2, 3, 4, 6] rfl) hw hS
        · have hf := hif.2 hcd
          clear hif
          refine lv_iconst (v := 1) hx hb dX11_sortsThatFit_53 (by decide) ?_
          refine lv_iload hx hb dX11_sortsThatFit_54 (lv_at hl 6 rfl) ?_
          refine lv_ishl hx hb dX11_sortsThatFit_56 ?_
          refine lv_goto (tgt := 61) hx hb dX11_sortsThatFit_57 (by decide) ?_
          exact J61 _ _ hf _ _ ls (lv_sub hl [0, 1, 2, 3, 4, 6] rfl) hw hS
  exact L6 5000 _ _ _ hL6 _ _ ls (lv_sub hl [2, 3, 4, 5, 6, 1, 0] rfl) hw hS
set_option maxHeartbeats 4000000 in
set_option maxRecDepth 100000 in
theorem m_X11_ratesThatFit (l : Launch) (E : Ev) {x1 : Int32} {a2 : Nat} {x3 : Int32} {x4 : Int32} (t2 : isR a2) {s0 sz : St} {rz : Int32} (hf : f_X11_ratesThatFit x1 a2 x3 x4 s0 = some (rz, sz)) : MM l E sh2 yX11_ratesThatFit cX11_ratesThatFit 7 (some .int) (rmd 6) [.ref (E.2.2.1 0), .int x1, .ref (E.2.2.1 a2), .int x3, .int x4] s0 (some (.int rz)) sz := by
  unfold f_X11_ratesThatFit at hf
  refine z_enter (by decide +kernel) (Nat.le_of_ble_eq_true rfl) ?_
  intro p e s m args below meth c ls hC hr hlocks hw hS hl
  have hC : Cx p s m args c cX11_ratesThatFit 7 "FuseBox" E := hC
  obtain ⟨hx, hb, hml, hown, hts, hTB⟩ := id hC
  have hl : lv_has ls 7 [(0, .ref (E.2.2.1 0)), (1, .int x1), (2, .ref (E.2.2.1 a2)), (3, .int x3), (4, .int x4)] := hl
  refine lv_iconst (v := 0) hx hb dX11_ratesThatFit_0 (by decide) ?_
  obtain ⟨v5_1, en, hf⟩ := ok_lt hf
  refine z_nm en ?_
  clear en
  refine lv_istore (lv' := [(5, .int v5_1), (0, .ref (E.2.2.1 0)), (1, .int x1), (2, .ref (E.2.2.1 a2)), (3, .int x3), (4, .int x4)]) hx hb dX11_ratesThatFit_1 hl (by decide) rfl (fun ls hl => ?_)
  refine lv_iconst (v := 1) hx hb dX11_ratesThatFit_3 (by decide) ?_
  obtain ⟨v6_2, en, hf⟩ := ok_lt hf
  refine z_nm en ?_
  clear en
  refine lv_istore (lv' := [(6, .int v6_2), (5, .int v5_1), (0, .ref (E.2.2.1 0)), (1, .int x1), (2, .ref (E.2.2.1 a2)), (3, .int x3), (4, .int x4)]) hx hb dX11_ratesThatFit_4 hl (by decide) rfl (fun ls hl => ?_)
  obtain ⟨r6, hL6, hf⟩ := ok_bind hf
  have X6_0 : ∀ (v5_6 : Int32) (s_7 : St), (v5_6, s_7) = r6 → ∀ (H : Heap) (locs : List Loc) (ls : Array Slot), lv_has ls 7 [(5, .int v5_6)] → World E sh2 s_7 H → va_S E.2.2.2 s.heap H locs → W p l e (rmd 6) s m args below meth c H locs 0 0 (MQ below (QW E sh2 (some (.int rz)) sz) args s 0 0 E.2.2.2) (F0 m 72 ls []) := by
    intro v5_6 s_7 er H locs ls hl hw hS
    subst er
    replace hf := ok_un2 hf
    refine lv_iload hx hb dX11_ratesThatFit_72 (lv_at hl 0 rfl) ?_
    exact z_iretE hC hlocks hw hS hf hr rfl dX11_ratesThatFit_74
  have L6 : ∀ (n : Nat) (v5_3 : Int32) (v6_4 : Int32) (s_5 : St), loopF (f_X11_ratesThatFit_L6 x1 a2 x3 x4) n (v5_3, v6_4, s_5) = some r6 → ∀ (H : Heap) (locs : List Loc) (ls : Array Slot), lv_has ls 7 [(0, .ref (E.2.2.1 0)), (1, .int x1), (2, .ref (E.2.2.1 a2)), (3, .int x3), (4, .int x4), (5, .int v5_3), (6, .int v6_4)] → World E sh2 s_5 H → va_S E.2.2.2 s.heap H locs → W p l e (rmd 6) s m args below meth c H locs 0 0 (MQ below (QW E sh2 (some (.int rz)) sz) args s 0 0 E.2.2.2) (F0 m 6 ls []) := by
    intro n
    induction n with
    | zero =>
      intro v5_3 v6_4 s_5 hf
      exact nz hf
    | succ n ih6 =>
      intro v5_3 v6_4 s_5 hf H locs ls hl hw hS
      obtain ⟨xl6, hf, hi6, he6⟩ := ok_loop hf
      unfold f_X11_ratesThatFit_L6 at hf
      replace hf := ok_un3 hf
      refine lv_iload hx hb dX11_ratesThatFit_6 (lv_at hl 6 rfl) ?_
      refine lv_bipush (v := 20) hx hb dX11_ratesThatFit_8 (by decide) ?_
      have hif := ok_if hf
      refine lv_icmp_gt (tgt := 72) hx hb dX11_ratesThatFit_10 (by decide) (fun hcd => ?_) (fun hcd => ?_)
      · have hf := hif.1 hcd
        clear hif
        cases hf
        exact X6_0 _ _ (he6 _ rfl) _ _ ls (lv_sub hl [5] rfl) hw hS
      · have hf := hif.2 hcd
        clear hif
        refine lv_aload_n hx hb dX11_ratesThatFit_13 rfl (lv_at hl 0 rfl) ?_
        refine gFuseBox_trial hC hw wd349 dX11_ratesThatFit_14 ?_
        refine lv_aload_n hx hb dX11_ratesThatFit_17 rfl (lv_at hl 0 rfl) ?_
        refine gFuseBox_now hC hw wd354 dX11_ratesThatFit_18 ?_
        obtain ⟨s_8, hc, hf⟩ := ok_bind hf
        refine z_cV hC hl.1 hw hS (As := [.ref (E.2.2.1 19)]) (rest := []) (m_X3_become l E isH_27 isH_19 hc) (sH isH_27).1 rfl gc139 gc140 ⟨Nat.le_of_ble_eq_true rfl, Nat.le_of_ble_eq_true rfl⟩ ⟨Nat.le_of_ble_eq_true rfl, Nat.le_of_ble_eq_true rfl⟩ rfl rfl (Nat.le_of_ble_eq_true rfl) dX11_ratesThatFit_21 (fun H locs hw hS => ?_)
        clear hc
        refine lv_aload_n hx hb dX11_ratesThatFit_24 rfl (lv_at hl 0 rfl) ?_
        refine gFuseBox_trial hC hw wd349 dX11_ratesThatFit_25 ?_
        refine gHouse_rate hC hw isH_27 wd406 dX11_ratesThatFit_28 ?_
        refine lv_iload_n hx hb dX11_ratesThatFit_31 rfl (lv_at hl 1 rfl) ?_
        refine lv_iload hx hb dX11_ratesThatFit_32 (lv_at hl 6 rfl) ?_
        obtain ⟨hin, hf⟩ := ok_chk hf
        obtain ⟨s_9, en, hf⟩ := ok_lt hf
        refine z_iast hC hw hS (sH isH_27).2.2.1 hin en dX11_ratesThatFit_34 (fun H locs hw hS => ?_)
        clear en
        refine lv_iload hx hb dX11_ratesThatFit_35 (lv_at hl 5 rfl) ?_
        refine lv_aload_n hx hb dX11_ratesThatFit_37 rfl (lv_at hl 0 rfl) ?_
        refine gFuseBox_trial hC hw wd349 dX11_ratesThatFit_38 ?_
        refine lv_iload_n hx hb dX11_ratesThatFit_41 rfl (lv_at hl 1 rfl) ?_
        refine lv_aload_n hx hb dX11_ratesThatFit_42 rfl (lv_at hl 2 rfl) ?_
        refine gRow_items hC hw t2 wd328 dX11_ratesThatFit_43 ?_
        refine lv_iload_n hx hb dX11_ratesThatFit_46 rfl (lv_at hl 3 rfl) ?_
        refine lv_iload hx hb dX11_ratesThatFit_47 (lv_at hl 4 rfl) ?_
        obtain ⟨r_11, s_10, hc, hf⟩ := ok_bd hf
        refine z_cV hC hl.1 hw hS (As := [.int x1, .ref (E.2.2.1 (a2 + 1)), .int x3, .int x4]) (rest := [.int v5_3]) (m_X3_heatsAs l E isH_27 (sR t2).2 hc) (sH isH_27).1 rfl gc180 gc181 ⟨Nat.le_of_ble_eq_true rfl, Nat.le_of_ble_eq_true rfl⟩ ⟨Nat.le_of_ble_eq_true rfl, Nat.le_of_ble_eq_true rfl⟩ rfl rfl (Nat.le_of_ble_eq_true rfl) dX11_ratesThatFit_49 (fun H locs hw hS => ?_)
        clear hc
        obtain ⟨j63, ej63, hf⟩ := ok_lt hf
        have J63 : ∀ (k_12 : Int32) (s_13 : St), j63 k_12 s_13 = some xl6 → ∀ (H : Heap) (locs : List Loc) (ls : Array Slot), lv_has ls 7 [(0, .ref (E.2.2.1 0)), (1, .int x1), (2, .ref (E.2.2.1 a2)), (3, .int x3), (4, .int x4), (6, .int v6_4)] → World E sh2 s_13 H → va_S E.2.2.2 s.heap H locs → W p l e (rmd 6) s m args below meth c H locs 0 0 (MQ below (QW E sh2 (some (.int rz)) sz) args s 0 0 E.2.2.2) (F0 m 63 ls [.int k_12, .int v5_3]) := by
          intro k_12 s_13 hf H locs ls hl hw hS
          subst ej63
          refine lv_ior hx hb dX11_ratesThatFit_63 ?_
          obtain ⟨v5_14, en, hf⟩ := ok_lt hf
          refine z_nm en ?_
          clear en
          refine lv_istore (lv' := [(5, .int v5_14), (0, .ref (E.2.2.1 0)), (1, .int x1), (2, .ref (E.2.2.1 a2)), (3, .int x3), (4, .int x4), (6, .int v6_4)]) hx hb dX11_ratesThatFit_64 hl (by decide) rfl (fun ls hl => ?_)
          obtain ⟨v6_15, en, hf⟩ := ok_lt hf
          refine lv_iinc (v := v6_15) (lv' := [(6, .int v6_15), (5, .int v5_14), (0, .ref (E.2.2.1 0)), (1, .int x1), (2, .ref (E.2.2.1 a2)), (3, .int x3), (4, .int x4)]) hx hb dX11_ratesThatFit_66 hl (k := 6) rfl (by rw [en]; rfl) (by decide) rfl (fun ls hl => ?_)
          clear en
          refine lv_goto (tgt := 6) hx hb dX11_ratesThatFit_69 (by decide) ?_
          cases hf
          exact ih6 _ _ _ (hi6 _ rfl) _ _ ls (lv_sub hl [2, 3, 4, 5, 6, 1, 0] rfl) hw hS
        clear ej63
        have hif := ok_if hf
        refine lv_if_eq (tgt := 62) hx hb dX11_ratesThatFit_52 (by decide) (fun hcd => ?_) (fun hcd => ?_)
        · have hf := hif.1 hcd
          clear hif
          refine lv_iconst (v := 0) hx hb dX11_ratesThatFit_62 (by decide) ?_
          exact J63 _ _ hf _ _ ls (lv_sub hl [0, 1, 2, 3, 4, 6] rfl) hw hS
        · have hf := hif.2 hcd
          clear hif
          refine lv_iconst (v := 1) hx hb dX11_ratesThatFit_55 (by decide) ?_
          refine lv_iload hx hb dX11_ratesThatFit_56 (lv_at hl 6 rfl) ?_
          refine lv_ishl hx hb dX11_ratesThatFit_58 ?_
          refine lv_goto (tgt := 63) hx hb dX11_ratesThatFit_59 (by decide) ?_
          exact J63 _ _ hf _ _ ls (lv_sub hl [0, 1, 2, 3, 4, 6] rfl) hw hS
  exact L6 5000 _ _ _ hL6 _ _ ls (lv_sub hl [2, 3, 4, 5, 6, 1, 0] rfl) hw hS
set_option maxHeartbeats 4000000 in
set_option maxRecDepth 100000 in
theorem m_X11_heatsThatFit (l : Launch) (E : Ev) {x1 : Int32} {a2 : Nat} {x3 : Int32} {x4 : Int32} (t2 : isR a2) {s0 sz : St} {rz : Int32} (hf : f_X11_heatsThatFit x1 a2 x3 x4 s0 = some (rz, sz)) : MM l E sh2 yX11_heatsThatFit cX11_heatsThatFit 7 (some .int) (rmd 6) [.ref (E.2.2.1 0), .int x1, .ref (E.2.2.1 a2), .int x3, .int x4] s0 (some (.int rz)) sz := by
  unfold f_X11_heatsThatFit at hf
  refine z_enter (by decide +kernel) (Nat.le_of_ble_eq_true rfl) ?_
  intro p e s m args below meth c ls hC hr hlocks hw hS hl
  have hC : Cx p s m args c cX11_heatsThatFit 7 "FuseBox" E := hC
  obtain ⟨hx, hb, hml, hown, hts, hTB⟩ := id hC
  have hl : lv_has ls 7 [(0, .ref (E.2.2.1 0)), (1, .int x1), (2, .ref (E.2.2.1 a2)), (3, .int x3), (4, .int x4)] := hl
  refine lv_iconst (v := 0) hx hb dX11_heatsThatFit_0 (by decide) ?_
  obtain ⟨v5_1, en, hf⟩ := ok_lt hf
  refine z_nm en ?_
  clear en
  refine lv_istore (lv' := [(5, .int v5_1), (0, .ref (E.2.2.1 0)), (1, .int x1), (2, .ref (E.2.2.1 a2)), (3, .int x3), (4, .int x4)]) hx hb dX11_heatsThatFit_1 hl (by decide) rfl (fun ls hl => ?_)
  refine lv_iconst (v := 0) hx hb dX11_heatsThatFit_3 (by decide) ?_
  obtain ⟨v6_2, en, hf⟩ := ok_lt hf
  refine z_nm en ?_
  clear en
  refine lv_istore (lv' := [(6, .int v6_2), (5, .int v5_1), (0, .ref (E.2.2.1 0)), (1, .int x1), (2, .ref (E.2.2.1 a2)), (3, .int x3), (4, .int x4)]) hx hb dX11_heatsThatFit_4 hl (by decide) rfl (fun ls hl => ?_)
  obtain ⟨r6, hL6, hf⟩ := ok_bind hf
  have X6_0 : ∀ (v5_6 : Int32) (s_7 : St), (v5_6, s_7) = r6 → ∀ (H : Heap) (locs : List Loc) (ls : Array Slot), lv_has ls 7 [(5, .int v5_6)] → World E sh2 s_7 H → va_S E.2.2.2 s.heap H locs → W p l e (rmd 6) s m args below meth c H locs 0 0 (MQ below (QW E sh2 (some (.int rz)) sz) args s 0 0 E.2.2.2) (F0 m 72 ls []) := by
    intro v5_6 s_7 er H locs ls hl hw hS
    subst er
    replace hf := ok_un2 hf
    refine lv_iload hx hb dX11_heatsThatFit_72 (lv_at hl 0 rfl) ?_
    exact z_iretE hC hlocks hw hS hf hr rfl dX11_heatsThatFit_74
  have L6 : ∀ (n : Nat) (v5_3 : Int32) (v6_4 : Int32) (s_5 : St), loopF (f_X11_heatsThatFit_L6 x1 a2 x3 x4) n (v5_3, v6_4, s_5) = some r6 → ∀ (H : Heap) (locs : List Loc) (ls : Array Slot), lv_has ls 7 [(0, .ref (E.2.2.1 0)), (1, .int x1), (2, .ref (E.2.2.1 a2)), (3, .int x3), (4, .int x4), (5, .int v5_3), (6, .int v6_4)] → World E sh2 s_5 H → va_S E.2.2.2 s.heap H locs → W p l e (rmd 6) s m args below meth c H locs 0 0 (MQ below (QW E sh2 (some (.int rz)) sz) args s 0 0 E.2.2.2) (F0 m 6 ls []) := by
    intro n
    induction n with
    | zero =>
      intro v5_3 v6_4 s_5 hf
      exact nz hf
    | succ n ih6 =>
      intro v5_3 v6_4 s_5 hf H locs ls hl hw hS
      obtain ⟨xl6, hf, hi6, he6⟩ := ok_loop hf
      unfold f_X11_heatsThatFit_L6 at hf
      replace hf := ok_un3 hf
      refine lv_iload hx hb dX11_heatsThatFit_6 (lv_at hl 6 rfl) ?_
      refine lv_bipush (v := 10) hx hb dX11_heatsThatFit_8 (by decide) ?_
      have hif := ok_if hf
      refine lv_icmp_ge (tgt := 72) hx hb dX11_heatsThatFit_10 (by decide) (fun hcd => ?_) (fun hcd => ?_)
      · have hf := hif.1 hcd
        clear hif
        cases hf
        exact X6_0 _ _ (he6 _ rfl) _ _ ls (lv_sub hl [5] rfl) hw hS
      · have hf := hif.2 hcd
        clear hif
        refine lv_aload_n hx hb dX11_heatsThatFit_13 rfl (lv_at hl 0 rfl) ?_
        refine gFuseBox_trial hC hw wd349 dX11_heatsThatFit_14 ?_
        refine lv_aload_n hx hb dX11_heatsThatFit_17 rfl (lv_at hl 0 rfl) ?_
        refine gFuseBox_now hC hw wd354 dX11_heatsThatFit_18 ?_
        obtain ⟨s_8, hc, hf⟩ := ok_bind hf
        refine z_cV hC hl.1 hw hS (As := [.ref (E.2.2.1 19)]) (rest := []) (m_X3_become l E isH_27 isH_19 hc) (sH isH_27).1 rfl gc139 gc140 ⟨Nat.le_of_ble_eq_true rfl, Nat.le_of_ble_eq_true rfl⟩ ⟨Nat.le_of_ble_eq_true rfl, Nat.le_of_ble_eq_true rfl⟩ rfl rfl (Nat.le_of_ble_eq_true rfl) dX11_heatsThatFit_21 (fun H locs hw hS => ?_)
        clear hc
        refine lv_aload_n hx hb dX11_heatsThatFit_24 rfl (lv_at hl 0 rfl) ?_
        refine gFuseBox_trial hC hw wd349 dX11_heatsThatFit_25 ?_
        refine gHouse_heat hC hw isH_27 wd407 dX11_heatsThatFit_28 ?_
        refine lv_iload_n hx hb dX11_heatsThatFit_31 rfl (lv_at hl 1 rfl) ?_
        refine lv_iload hx hb dX11_heatsThatFit_32 (lv_at hl 6 rfl) ?_
        obtain ⟨hin, hf⟩ := ok_chk hf
        obtain ⟨s_9, en, hf⟩ := ok_lt hf
        refine z_iast hC hw hS (sH isH_27).2.2.2.1 hin en dX11_heatsThatFit_34 (fun H locs hw hS => ?_)
        clear en
        refine lv_iload hx hb dX11_heatsThatFit_35 (lv_at hl 5 rfl) ?_
        refine lv_aload_n hx hb dX11_heatsThatFit_37 rfl (lv_at hl 0 rfl) ?_
        refine gFuseBox_trial hC hw wd349 dX11_heatsThatFit_38 ?_
        refine lv_iload_n hx hb dX11_heatsThatFit_41 rfl (lv_at hl 1 rfl) ?_
        refine lv_aload_n hx hb dX11_heatsThatFit_42 rfl (lv_at hl 2 rfl) ?_
        refine gRow_items hC hw t2 wd328 dX11_heatsThatFit_43 ?_
        refine lv_iload_n hx hb dX11_heatsThatFit_46 rfl (lv_at hl 3 rfl) ?_
        refine lv_iload hx hb dX11_heatsThatFit_47 (lv_at hl 4 rfl) ?_
        obtain ⟨r_11, s_10, hc, hf⟩ := ok_bd hf
        refine z_cV hC hl.1 hw hS (As := [.int x1, .ref (E.2.2.1 (a2 + 1)), .int x3, .int x4]) (rest := [.int v5_3]) (m_X3_heatsAs l E isH_27 (sR t2).2 hc) (sH isH_27).1 rfl gc180 gc181 ⟨Nat.le_of_ble_eq_true rfl, Nat.le_of_ble_eq_true rfl⟩ ⟨Nat.le_of_ble_eq_true rfl, Nat.le_of_ble_eq_true rfl⟩ rfl rfl (Nat.le_of_ble_eq_true rfl) dX11_heatsThatFit_49 (fun H locs hw hS => ?_)
        clear hc
        obtain ⟨j63, ej63, hf⟩ := ok_lt hf
        have J63 : ∀ (k_12 : Int32) (s_13 : St), j63 k_12 s_13 = some xl6 → ∀ (H : Heap) (locs : List Loc) (ls : Array Slot), lv_has ls 7 [(0, .ref (E.2.2.1 0)), (1, .int x1), (2, .ref (E.2.2.1 a2)), (3, .int x3), (4, .int x4), (6, .int v6_4)] → World E sh2 s_13 H → va_S E.2.2.2 s.heap H locs → W p l e (rmd 6) s m args below meth c H locs 0 0 (MQ below (QW E sh2 (some (.int rz)) sz) args s 0 0 E.2.2.2) (F0 m 63 ls [.int k_12, .int v5_3]) := by
          intro k_12 s_13 hf H locs ls hl hw hS
          subst ej63
          refine lv_ior hx hb dX11_heatsThatFit_63 ?_
          obtain ⟨v5_14, en, hf⟩ := ok_lt hf
          refine z_nm en ?_
          clear en
          refine lv_istore (lv' := [(5, .int v5_14), (0, .ref (E.2.2.1 0)), (1, .int x1), (2, .ref (E.2.2.1 a2)), (3, .int x3), (4, .int x4), (6, .int v6_4)]) hx hb dX11_heatsThatFit_64 hl (by decide) rfl (fun ls hl => ?_)
          obtain ⟨v6_15, en, hf⟩ := ok_lt hf
          refine lv_iinc (v := v6_15) (lv' := [(6, .int v6_15), (5, .int v5_14), (0, .ref (E.2.2.1 0)), (1, .int x1), (2, .ref (E.2.2.1 a2)), (3, .int x3), (4, .int x4)]) hx hb dX11_heatsThatFit_66 hl (k := 6) rfl (by rw [en]; rfl) (by decide) rfl (fun ls hl => ?_)
          clear en
          refine lv_goto (tgt := 6) hx hb dX11_heatsThatFit_69 (by decide) ?_
          cases hf
          exact ih6 _ _ _ (hi6 _ rfl) _ _ ls (lv_sub hl [2, 3, 4, 5, 6, 1, 0] rfl) hw hS
        clear ej63
        have hif := ok_if hf
        refine lv_if_eq (tgt := 62) hx hb dX11_heatsThatFit_52 (by decide) (fun hcd => ?_) (fun hcd => ?_)
        · have hf := hif.1 hcd
          clear hif
          refine lv_iconst (v := 0) hx hb dX11_heatsThatFit_62 (by decide) ?_
          exact J63 _ _ hf _ _ ls (lv_sub hl [0, 1, 2, 3, 4, 6] rfl) hw hS
        · have hf := hif.2 hcd
          clear hif
          refine lv_iconst (v := 1) hx hb dX11_heatsThatFit_55 (by decide) ?_
          refine lv_iload hx hb dX11_heatsThatFit_56 (lv_at hl 6 rfl) ?_
          refine lv_ishl hx hb dX11_heatsThatFit_58 ?_
          refine lv_goto (tgt := 63) hx hb dX11_heatsThatFit_59 (by decide) ?_
          exact J63 _ _ hf _ _ ls (lv_sub hl [0, 1, 2, 3, 4, 6] rfl) hw hS
  exact L6 5000 _ _ _ hL6 _ _ ls (lv_sub hl [2, 3, 4, 5, 6, 1, 0] rfl) hw hS
set_option maxHeartbeats 4000000 in
set_option maxRecDepth 100000 in
theorem m_X11_mainsThatFit (l : Launch) (E : Ev) {x1 : Int32} {a2 : Nat} {x3 : Int32} {x4 : Int32} {x5 : Int32} (t2 : isR a2) {s0 sz : St} {rz : Int32} (hf : f_X11_mainsThatFit x1 a2 x3 x4 x5 s0 = some (rz, sz)) : MM l E sh2 yX11_mainsThatFit cX11_mainsThatFit 9 (some .int) (rmd 6) [.ref (E.2.2.1 0), .int x1, .ref (E.2.2.1 a2), .int x3, .int x4, .int x5] s0 (some (.int rz)) sz := by
  unfold f_X11_mainsThatFit at hf
  refine z_enter (by decide +kernel) (Nat.le_of_ble_eq_true rfl) ?_
  intro p e s m args below meth c ls hC hr hlocks hw hS hl
  have hC : Cx p s m args c cX11_mainsThatFit 9 "FuseBox" E := hC
  obtain ⟨hx, hb, hml, hown, hts, hTB⟩ := id hC
  have hl : lv_has ls 9 [(0, .ref (E.2.2.1 0)), (1, .int x1), (2, .ref (E.2.2.1 a2)), (3, .int x3), (4, .int x4), (5, .int x5)] := hl
  refine lv_iconst (v := 0) hx hb dX11_mainsThatFit_0 (by decide) ?_
  obtain ⟨v6_1, en, hf⟩ := ok_lt hf
  refine z_nm en ?_
  clear en
  refine lv_istore (lv' := [(6, .int v6_1), (0, .ref (E.2.2.1 0)), (1, .int x1), (2, .ref (E.2.2.1 a2)), (3, .int x3), (4, .int x4), (5, .int x5)]) hx hb dX11_mainsThatFit_1 hl (by decide) rfl (fun ls hl => ?_)
  refine lv_ldc (v := -1000000) hx hb hown (hts _ wd425) dX11_mainsThatFit_3 ?_
  obtain ⟨v7_2, en, hf⟩ := ok_lt hf
  refine z_nm en ?_
  clear en
  refine lv_istore (lv' := [(7, .int v7_2), (6, .int v6_1), (0, .ref (E.2.2.1 0)), (1, .int x1), (2, .ref (E.2.2.1 a2)), (3, .int x3), (4, .int x4), (5, .int x5)]) hx hb dX11_mainsThatFit_5 hl (by decide) rfl (fun ls hl => ?_)
  refine lv_bipush (v := 60) hx hb dX11_mainsThatFit_7 (by decide) ?_
  obtain ⟨v8_3, en, hf⟩ := ok_lt hf
  refine z_nm en ?_
  clear en
  refine lv_istore (lv' := [(8, .int v8_3), (7, .int v7_2), (6, .int v6_1), (0, .ref (E.2.2.1 0)), (1, .int x1), (2, .ref (E.2.2.1 a2)), (3, .int x3), (4, .int x4), (5, .int x5)]) hx hb dX11_mainsThatFit_9 hl (by decide) rfl (fun ls hl => ?_)
  obtain ⟨r11, hL11, hf⟩ := ok_bind hf
  have X11_0 : ∀ (v6_8 : Int32) (v7_9 : Int32) (s_10 : St), (v6_8, v7_9, s_10) = r11 → ∀ (H : Heap) (locs : List Loc) (ls : Array Slot), lv_has ls 9 [(5, .int x5), (6, .int v6_8), (7, .int v7_9)] → World E sh2 s_10 H → va_S E.2.2.2 s.heap H locs → W p l e (rmd 6) s m args below meth c H locs 0 0 (MQ below (QW E sh2 (some (.int rz)) sz) args s 0 0 E.2.2.2) (F0 m 68 ls []) := by
    intro v6_8 v7_9 s_10 er H locs ls hl hw hS
    subst er
    replace hf := ok_un3 hf
    refine lv_iload hx hb dX11_mainsThatFit_68 (lv_at hl 0 rfl) ?_
    obtain ⟨j80, ej80, hf⟩ := ok_lt hf
    have J80 : ∀ (k_11 : Int32) (s_12 : St), j80 k_11 s_12 = some (rz, sz) → ∀ (H : Heap) (locs : List Loc) (ls : Array Slot), lv_has ls 9 [] → World E sh2 s_12 H → va_S E.2.2.2 s.heap H locs → W p l e (rmd 6) s m args below meth c H locs 0 0 (MQ below (QW E sh2 (some (.int rz)) sz) args s 0 0 E.2.2.2) (F0 m 80 ls [.int k_11]) := by
      intro k_11 s_12 hf H locs ls hl hw hS
      subst ej80
      exact z_iretE hC hlocks hw hS hf hr rfl dX11_mainsThatFit_80
    clear ej80
    have hif := ok_if hf
    refine lv_if_eq (tgt := 78) hx hb dX11_mainsThatFit_70 (by decide) (fun hcd => ?_) (fun hcd => ?_)
    · have hf := hif.1 hcd
      clear hif
      refine lv_iload hx hb dX11_mainsThatFit_78 (lv_at hl 1 rfl) ?_
      exact J80 _ _ hf _ _ ls (lv_sub hl [] rfl) hw hS
    · have hf := hif.2 hcd
      clear hif
      refine lv_iload hx hb dX11_mainsThatFit_73 (lv_at hl 2 rfl) ?_
      refine lv_goto (tgt := 80) hx hb dX11_mainsThatFit_75 (by decide) ?_
      exact J80 _ _ hf _ _ ls (lv_sub hl [] rfl) hw hS
  have L11 : ∀ (n : Nat) (v6_4 : Int32) (v7_5 : Int32) (v8_6 : Int32) (s_7 : St), loopF (f_X11_mainsThatFit_L11 x1 a2 x3 x4) n (v6_4, v7_5, v8_6, s_7) = some r11 → ∀ (H : Heap) (locs : List Loc) (ls : Array Slot), lv_has ls 9 [(0, .ref (E.2.2.1 0)), (1, .int x1), (2, .ref (E.2.2.1 a2)), (3, .int x3), (4, .int x4), (5, .int x5), (6, .int v6_4), (7, .int v7_5), (8, .int v8_6)] → World E sh2 s_7 H → va_S E.2.2.2 s.heap H locs → W p l e (rmd 6) s m args below meth c H locs 0 0 (MQ below (QW E sh2 (some (.int rz)) sz) args s 0 0 E.2.2.2) (F0 m 11 ls []) := by
    intro n
    induction n with
    | zero =>
      intro v6_4 v7_5 v8_6 s_7 hf
      exact nz hf
    | succ n ih11 =>
      intro v6_4 v7_5 v8_6 s_7 hf H locs ls hl hw hS
      obtain ⟨xl11, hf, hi11, he11⟩ := ok_loop hf
      unfold f_X11_mainsThatFit_L11 at hf
      replace hf := ok_un4 hf
      refine lv_iload hx hb dX11_mainsThatFit_11 (lv_at hl 8 rfl) ?_
      refine lv_iconst (v := 1) hx hb dX11_mainsThatFit_13 (by decide) ?_
      have hif := ok_if hf
      refine lv_icmp_lt (tgt := 68) hx hb dX11_mainsThatFit_14 (by decide) (fun hcd => ?_) (fun hcd => ?_)
      · have hf := hif.1 hcd
        clear hif
        cases hf
        exact X11_0 _ _ _ (he11 _ rfl) _ _ ls (lv_sub hl [5, 6, 7] rfl) hw hS
      · have hf := hif.2 hcd
        clear hif
        refine lv_aload_n hx hb dX11_mainsThatFit_17 rfl (lv_at hl 0 rfl) ?_
        refine gFuseBox_trial hC hw wd349 dX11_mainsThatFit_18 ?_
        refine lv_aload_n hx hb dX11_mainsThatFit_21 rfl (lv_at hl 0 rfl) ?_
        refine gFuseBox_now hC hw wd354 dX11_mainsThatFit_22 ?_
        obtain ⟨s_13, hc, hf⟩ := ok_bind hf
        refine z_cV hC hl.1 hw hS (As := [.ref (E.2.2.1 19)]) (rest := []) (m_X3_become l E isH_27 isH_19 hc) (sH isH_27).1 rfl gc139 gc140 ⟨Nat.le_of_ble_eq_true rfl, Nat.le_of_ble_eq_true rfl⟩ ⟨Nat.le_of_ble_eq_true rfl, Nat.le_of_ble_eq_true rfl⟩ rfl rfl (Nat.le_of_ble_eq_true rfl) dX11_mainsThatFit_25 (fun H locs hw hS => ?_)
        clear hc
        refine lv_aload_n hx hb dX11_mainsThatFit_28 rfl (lv_at hl 0 rfl) ?_
        refine gFuseBox_trial hC hw wd349 dX11_mainsThatFit_29 ?_
        refine lv_iload hx hb dX11_mainsThatFit_32 (lv_at hl 8 rfl) ?_
        obtain ⟨s_14, en, hf⟩ := ok_lt hf
        refine pHouse_main hC hw hS isH_27 wd452 en dX11_mainsThatFit_34 (fun H locs hw hS => ?_)
        clear en
        refine lv_aload_n hx hb dX11_mainsThatFit_37 rfl (lv_at hl 0 rfl) ?_
        refine gFuseBox_trial hC hw wd349 dX11_mainsThatFit_38 ?_
        refine lv_iload_n hx hb dX11_mainsThatFit_41 rfl (lv_at hl 1 rfl) ?_
        refine lv_aload_n hx hb dX11_mainsThatFit_42 rfl (lv_at hl 2 rfl) ?_
        refine gRow_items hC hw t2 wd328 dX11_mainsThatFit_43 ?_
        refine lv_iload_n hx hb dX11_mainsThatFit_46 rfl (lv_at hl 3 rfl) ?_
        refine lv_iload hx hb dX11_mainsThatFit_47 (lv_at hl 4 rfl) ?_
        obtain ⟨r_16, s_15, hc, hf⟩ := ok_bd hf
        refine z_cV hC hl.1 hw hS (As := [.int x1, .ref (E.2.2.1 (a2 + 1)), .int x3, .int x4]) (rest := []) (m_X3_heatsAs l E isH_27 (sR t2).2 hc) (sH isH_27).1 rfl gc180 gc181 ⟨Nat.le_of_ble_eq_true rfl, Nat.le_of_ble_eq_true rfl⟩ ⟨Nat.le_of_ble_eq_true rfl, Nat.le_of_ble_eq_true rfl⟩ rfl rfl (Nat.le_of_ble_eq_true rfl) dX11_mainsThatFit_49 (fun H locs hw hS => ?_)
        clear hc
        obtain ⟨j62, ej62, hf⟩ := ok_lt hf
        have J62 : ∀ (v6_17 : Int32) (v7_18 : Int32) (s_19 : St), j62 v6_17 v7_18 s_19 = some xl11 → ∀ (H : Heap) (locs : List Loc) (ls : Array Slot), lv_has ls 9 [(0, .ref (E.2.2.1 0)), (1, .int x1), (2, .ref (E.2.2.1 a2)), (3, .int x3), (4, .int x4), (5, .int x5), (6, .int v6_17), (7, .int v7_18), (8, .int v8_6)] → World E sh2 s_19 H → va_S E.2.2.2 s.heap H locs → W p l e (rmd 6) s m args below meth c H locs 0 0 (MQ below (QW E sh2 (some (.int rz)) sz) args s 0 0 E.2.2.2) (F0 m 62 ls []) := by
          intro v6_17 v7_18 s_19 hf H locs ls hl hw hS
          subst ej62
          obtain ⟨v8_20, en, hf⟩ := ok_lt hf
          refine lv_iinc (v := v8_20) (lv' := [(8, .int v8_20), (0, .ref (E.2.2.1 0)), (1, .int x1), (2, .ref (E.2.2.1 a2)), (3, .int x3), (4, .int x4), (5, .int x5), (6, .int v6_17), (7, .int v7_18)]) hx hb dX11_mainsThatFit_62 hl (k := 8) rfl (by rw [en]; rfl) (by decide) rfl (fun ls hl => ?_)
          clear en
          refine lv_goto (tgt := 11) hx hb dX11_mainsThatFit_65 (by decide) ?_
          cases hf
          exact ih11 _ _ _ _ (hi11 _ rfl) _ _ ls (lv_sub hl [1, 2, 3, 4, 5, 6, 7, 8, 0] rfl) hw hS
        clear ej62
        have hif := ok_if hf
        refine lv_if_eq (tgt := 62) hx hb dX11_mainsThatFit_52 (by decide) (fun hcd => ?_) (fun hcd => ?_)
        · have hf := hif.1 hcd
          clear hif
          exact J62 _ _ _ hf _ _ ls hl hw hS
        · have hf := hif.2 hcd
          clear hif
          obtain ⟨v6_21, en, hf⟩ := ok_lt hf
          refine lv_iinc (v := v6_21) (lv' := [(6, .int v6_21), (0, .ref (E.2.2.1 0)), (1, .int x1), (2, .ref (E.2.2.1 a2)), (3, .int x3), (4, .int x4), (5, .int x5), (7, .int v7_5), (8, .int v8_6)]) hx hb dX11_mainsThatFit_55 hl (k := 6) rfl (by rw [en]; rfl) (by decide) rfl (fun ls hl => ?_)
          clear en
          refine lv_iload hx hb dX11_mainsThatFit_58 (lv_at hl 8 rfl) ?_
          refine lv_istore (lv' := [(7, .int v8_6), (6, .int v6_21), (0, .ref (E.2.2.1 0)), (1, .int x1), (2, .ref (E.2.2.1 a2)), (3, .int x3), (4, .int x4), (5, .int x5), (8, .int v8_6)]) hx hb dX11_mainsThatFit_60 hl (by decide) rfl (fun ls hl => ?_)
          exact J62 _ _ _ hf _ _ ls (lv_sub hl [2, 3, 4, 5, 6, 7, 1, 0, 8] rfl) hw hS
  exact L11 5000 _ _ _ _ hL11 _ _ ls (lv_sub hl [3, 4, 5, 6, 7, 8, 2, 1, 0] rfl) hw hS
set_option maxHeartbeats 4000000 in
set_option maxRecDepth 100000 in
theorem m_X11_fits (l : Launch) (E : Ev) {x1 : Int32} {x2 : Int32} {x3 : Int32} {x4 : Int32} {x5 : Int32}  {s0 sz : St} {rz : Int32} (hf : f_X11_fits x1 x2 x3 x4 x5 s0 = some (rz, sz)) : MM l E sh2 yX11_fits cX11_fits 7 (some .int) (rmd 7) [.ref (E.2.2.1 0), .int x1, .int x2, .int x3, .int x4, .int x5] s0 (some (.int rz)) sz := by
  unfold f_X11_fits at hf
  refine z_enter (by decide +kernel) (Nat.le_of_ble_eq_true rfl) ?_
  intro p e s m args below meth c ls hC hr hlocks hw hS hl
  have hC : Cx p s m args c cX11_fits 7 "FuseBox" E := hC
  obtain ⟨hx, hb, hml, hown, hts, hTB⟩ := id hC
  have hl : lv_has ls 7 [(0, .ref (E.2.2.1 0)), (1, .int x1), (2, .int x2), (3, .int x3), (4, .int x4), (5, .int x5)] := hl
  refine lv_aload_n hx hb dX11_fits_0 rfl (lv_at hl 0 rfl) ?_
  refine lv_iload_n hx hb dX11_fits_1 rfl (lv_at hl 1 rfl) ?_
  obtain ⟨r_2, s_1, hc, hf⟩ := ok_bd hf
  refine z_cV hC hl.1 hw hS (As := [.int x1]) (rest := []) (m_X11_noLine l E  hc) rfl rfl gc156 gc157 ⟨Nat.le_of_ble_eq_true rfl, Nat.le_of_ble_eq_true rfl⟩ ⟨Nat.le_of_ble_eq_true rfl, Nat.le_of_ble_eq_true rfl⟩ rfl rfl (Nat.le_of_ble_eq_true rfl) dX11_fits_2 (fun H locs hw hS => ?_)
  clear hc
  obtain ⟨j39, ej39, hf⟩ := ok_lt hf
  have J39 : ∀ (s_3 : St), j39 s_3 = some (rz, sz) → ∀ (H : Heap) (locs : List Loc) (ls : Array Slot), lv_has ls 7 [] → World E sh2 s_3 H → va_S E.2.2.2 s.heap H locs → W p l e (rmd 7) s m args below meth c H locs 0 0 (MQ below (QW E sh2 (some (.int rz)) sz) args s 0 0 E.2.2.2) (F0 m 39 ls []) := by
    intro s_3 hf H locs ls hl hw hS
    subst ej39
    refine lv_ldc (v := -1000001) hx hb hown (hts _ wd305) dX11_fits_39 ?_
    exact z_iretE hC hlocks hw hS hf hr rfl dX11_fits_41
  clear ej39
  have hif := ok_if hf
  refine lv_if_ne (tgt := 39) hx hb dX11_fits_5 (by decide) (fun hcd => ?_) (fun hcd => ?_)
  · have hf := hif.1 hcd
    clear hif
    exact J39 _ hf _ _ ls (lv_sub hl [] rfl) hw hS
  · have hf := hif.2 (fun q => q hcd)
    clear hif
    refine lv_iload_n hx hb dX11_fits_8 rfl (lv_at hl 2 rfl) ?_
    obtain ⟨r_5, s_4, hc, hf⟩ := ok_bd hf
    refine z_cS hC hl.1 hw hS (As := [.int x2]) (rest := []) (m_X11_noRow l E  hc) gc119 gc120 ⟨Nat.le_of_ble_eq_true rfl, Nat.le_of_ble_eq_true rfl⟩ ⟨Nat.le_of_ble_eq_true rfl, Nat.le_of_ble_eq_true rfl⟩ rfl rfl (Nat.le_of_ble_eq_true rfl) dX11_fits_9 (fun H locs hw hS => ?_)
    clear hc
    have hif := ok_if hf
    refine lv_if_ne (tgt := 39) hx hb dX11_fits_12 (by decide) (fun hcd => ?_) (fun hcd => ?_)
    · have hf := hif.1 hcd
      clear hif
      exact J39 _ hf _ _ ls (lv_sub hl [] rfl) hw hS
    · have hf := hif.2 (fun q => q hcd)
      clear hif
      refine lv_iload hx hb dX11_fits_15 (lv_at hl 4 rfl) ?_
      refine lv_iconst (v := 1) hx hb dX11_fits_17 (by decide) ?_
      have hif := ok_if hf
      refine lv_icmp_lt (tgt := 39) hx hb dX11_fits_18 (by decide) (fun hcd => ?_) (fun hcd => ?_)
      · have hf := hif.1 hcd
        clear hif
        exact J39 _ hf _ _ ls (lv_sub hl [] rfl) hw hS
      · have hf := hif.2 hcd
        clear hif
        refine lv_iload hx hb dX11_fits_21 (lv_at hl 4 rfl) ?_
        refine lv_bipush (v := 12) hx hb dX11_fits_23 (by decide) ?_
        have hif := ok_if hf
        refine lv_icmp_gt (tgt := 39) hx hb dX11_fits_25 (by decide) (fun hcd => ?_) (fun hcd => ?_)
        · have hf := hif.1 hcd
          clear hif
          exact J39 _ hf _ _ ls (lv_sub hl [] rfl) hw hS
        · have hf := hif.2 hcd
          clear hif
          refine lv_iload hx hb dX11_fits_28 (lv_at hl 5 rfl) ?_
          have hif := ok_if hf
          refine lv_if_lt (tgt := 39) hx hb dX11_fits_30 (by decide) (fun hcd => ?_) (fun hcd => ?_)
          · have hf := hif.1 hcd
            clear hif
            exact J39 _ hf _ _ ls (lv_sub hl [] rfl) hw hS
          · have hf := hif.2 hcd
            clear hif
            refine lv_iload hx hb dX11_fits_33 (lv_at hl 5 rfl) ?_
            refine lv_iconst (v := 4) hx hb dX11_fits_35 (by decide) ?_
            have hif := ok_if hf
            refine lv_icmp_le (tgt := 42) hx hb dX11_fits_36 (by decide) (fun hcd => ?_) (fun hcd => ?_)
            · have hf := hif.1 hcd
              clear hif
              refine lv_aload_n hx hb dX11_fits_42 rfl (lv_at hl 0 rfl) ?_
              refine gFuseBox_rows hC hw wd306 dX11_fits_43 ?_
              refine lv_iload_n hx hb dX11_fits_46 rfl (lv_at hl 2 rfl) ?_
              obtain ⟨hin, hf⟩ := ok_chk hf
              refine z_arow hC hw hin dX11_fits_47 ?_
              obtain ⟨a_6, en, hf⟩ := ok_lt hf
              have ta_6 : isR a_6 := by rw [en]; exact (rowA_ok hin).2
              refine z_nma en ?_
              clear en
              refine lv_astore (lv' := [(6, .ref (E.2.2.1 a_6)), (0, .ref (E.2.2.1 0)), (1, .int x1), (2, .int x2), (3, .int x3), (4, .int x4), (5, .int x5)]) hx hb dX11_fits_48 hl (by decide) rfl (fun ls hl => ?_)
              refine lv_aload hx hb dX11_fits_50 (lv_at hl 0 rfl) ?_
              obtain ⟨r_8, s_7, hc, hf⟩ := ok_bd hf
              refine z_cV hC hl.1 hw hS (As := []) (rest := []) (m_X7_isMissing l E ta_6 hc) (sR ta_6).1 rfl gc127 gc128 ⟨Nat.le_of_ble_eq_true rfl, Nat.le_of_ble_eq_true rfl⟩ ⟨Nat.le_of_ble_eq_true rfl, Nat.le_of_ble_eq_true rfl⟩ rfl rfl (Nat.le_of_ble_eq_true rfl) dX11_fits_52 (fun H locs hw hS => ?_)
              clear hc
              have hif := ok_if hf
              refine lv_if_eq (tgt := 64) hx hb dX11_fits_55 (by decide) (fun hcd => ?_) (fun hcd => ?_)
              · have hf := hif.1 hcd
                clear hif
                refine lv_aload hx hb dX11_fits_64 (lv_at hl 0 rfl) ?_
                refine lv_iload_n hx hb dX11_fits_66 rfl (lv_at hl 4 rfl) ?_
                refine lv_iload hx hb dX11_fits_67 (lv_at hl 5 rfl) ?_
                obtain ⟨r_10, s_9, hc, hf⟩ := ok_bd hf
                refine z_cV hC hl.1 hw hS (As := [.int x3, .int x4]) (rest := []) (m_X7_has l E ta_6 hc) (sR ta_6).1 rfl gc129 gc130 ⟨Nat.le_of_ble_eq_true rfl, Nat.le_of_ble_eq_true rfl⟩ ⟨Nat.le_of_ble_eq_true rfl, Nat.le_of_ble_eq_true rfl⟩ rfl rfl (Nat.le_of_ble_eq_true rfl) dX11_fits_69 (fun H locs hw hS => ?_)
                clear hc
                have hif := ok_if hf
                refine lv_if_ne (tgt := 81) hx hb dX11_fits_72 (by decide) (fun hcd => ?_) (fun hcd => ?_)
                · have hf := hif.1 hcd
                  clear hif
                  refine lv_iload hx hb dX11_fits_81 (lv_at hl 6 rfl) ?_
                  have hif := ok_if hf
                  by_cases hk0 : x5 = 0
                  · have hf := hif.1 hk0
                    clear hif
                    refine lv_tableIn (off := 25) (tgt := 108) hx hb dX11_fits_83 (by rw [hk0]; decide) (by rw [hk0]; decide) (by rw [hk0]; rfl) (by decide) ?_
                    refine lv_aload_n hx hb dX11_fits_108 rfl (lv_at hl 1 rfl) ?_
                    refine lv_aload_n hx hb dX11_fits_109 rfl (lv_at hl 1 rfl) ?_
                    refine lv_iload_n hx hb dX11_fits_110 rfl (lv_at hl 2 rfl) ?_
                    refine lv_aload hx hb dX11_fits_111 (lv_at hl 0 rfl) ?_
                    refine lv_iload_n hx hb dX11_fits_113 rfl (lv_at hl 4 rfl) ?_
                    refine lv_iload hx hb dX11_fits_114 (lv_at hl 5 rfl) ?_
                    obtain ⟨r_12, s_11, hc, hf⟩ := ok_bd hf
                    refine z_cV hC hl.1 hw hS (As := [.int x1, .ref (E.2.2.1 a_6), .int x3, .int x4]) (rest := [.ref (E.2.2.1 0)]) (m_X11_sortsThatFit l E ta_6 hc) rfl rfl gc182 gc183 ⟨Nat.le_of_ble_eq_true rfl, Nat.le_of_ble_eq_true rfl⟩ ⟨Nat.le_of_ble_eq_true rfl, Nat.le_of_ble_eq_true rfl⟩ rfl rfl (Nat.le_of_ble_eq_true rfl) dX11_fits_116 (fun H locs hw hS => ?_)
                    clear hc
                    obtain ⟨r_14, s_13, hc, hf⟩ := ok_bd hf
                    refine z_cV hC hl.1 hw hS (As := [.int r_12]) (rest := []) (m_X11_fine l E  hc) rfl rfl gc123 gc124 ⟨Nat.le_of_ble_eq_true rfl, Nat.le_of_ble_eq_true rfl⟩ ⟨Nat.le_of_ble_eq_true rfl, Nat.le_of_ble_eq_true rfl⟩ rfl rfl (Nat.le_of_ble_eq_true rfl) dX11_fits_119 (fun H locs hw hS => ?_)
                    clear hc
                    exact z_iretE hC hlocks hw hS hf hr rfl dX11_fits_122
                  replace hf := hif.2 hk0
                  clear hif
                  have hif := ok_if hf
                  by_cases hk1 : x5 = 1
                  · have hf := hif.1 hk1
                    clear hif
                    refine lv_tableIn (off := 40) (tgt := 123) hx hb dX11_fits_83 (by rw [hk1]; decide) (by rw [hk1]; decide) (by rw [hk1]; rfl) (by decide) ?_
                    refine lv_aload_n hx hb dX11_fits_123 rfl (lv_at hl 1 rfl) ?_
                    refine lv_aload_n hx hb dX11_fits_124 rfl (lv_at hl 1 rfl) ?_
                    refine lv_iload_n hx hb dX11_fits_125 rfl (lv_at hl 2 rfl) ?_
                    refine lv_aload hx hb dX11_fits_126 (lv_at hl 0 rfl) ?_
                    refine lv_iload_n hx hb dX11_fits_128 rfl (lv_at hl 4 rfl) ?_
                    refine lv_iload hx hb dX11_fits_129 (lv_at hl 5 rfl) ?_
                    obtain ⟨r_16, s_15, hc, hf⟩ := ok_bd hf
                    refine z_cV hC hl.1 hw hS (As := [.int x1, .ref (E.2.2.1 a_6), .int x3, .int x4]) (rest := [.ref (E.2.2.1 0)]) (m_X11_ratesThatFit l E ta_6 hc) rfl rfl gc184 gc185 ⟨Nat.le_of_ble_eq_true rfl, Nat.le_of_ble_eq_true rfl⟩ ⟨Nat.le_of_ble_eq_true rfl, Nat.le_of_ble_eq_true rfl⟩ rfl rfl (Nat.le_of_ble_eq_true rfl) dX11_fits_131 (fun H locs hw hS => ?_)
                    clear hc
                    obtain ⟨r_18, s_17, hc, hf⟩ := ok_bd hf
                    refine z_cV hC hl.1 hw hS (As := [.int r_16]) (rest := []) (m_X11_fine l E  hc) rfl rfl gc123 gc124 ⟨Nat.le_of_ble_eq_true rfl, Nat.le_of_ble_eq_true rfl⟩ ⟨Nat.le_of_ble_eq_true rfl, Nat.le_of_ble_eq_true rfl⟩ rfl rfl (Nat.le_of_ble_eq_true rfl) dX11_fits_134 (fun H locs hw hS => ?_)
                    clear hc
                    exact z_iretE hC hlocks hw hS hf hr rfl dX11_fits_137
                  replace hf := hif.2 hk1
                  clear hif
                  have hif := ok_if hf
                  by_cases hk2 : x5 = 2
                  · have hf := hif.1 hk2
                    clear hif
                    refine lv_tableIn (off := 55) (tgt := 138) hx hb dX11_fits_83 (by rw [hk2]; decide) (by rw [hk2]; decide) (by rw [hk2]; rfl) (by decide) ?_
                    refine lv_aload_n hx hb dX11_fits_138 rfl (lv_at hl 1 rfl) ?_
                    refine lv_aload_n hx hb dX11_fits_139 rfl (lv_at hl 1 rfl) ?_
                    refine lv_iload_n hx hb dX11_fits_140 rfl (lv_at hl 2 rfl) ?_
                    refine lv_aload hx hb dX11_fits_141 (lv_at hl 0 rfl) ?_
                    refine lv_iload_n hx hb dX11_fits_143 rfl (lv_at hl 4 rfl) ?_
                    refine lv_iload hx hb dX11_fits_144 (lv_at hl 5 rfl) ?_
                    obtain ⟨r_20, s_19, hc, hf⟩ := ok_bd hf
                    refine z_cV hC hl.1 hw hS (As := [.int x1, .ref (E.2.2.1 a_6), .int x3, .int x4]) (rest := [.ref (E.2.2.1 0)]) (m_X11_heatsThatFit l E ta_6 hc) rfl rfl gc186 gc187 ⟨Nat.le_of_ble_eq_true rfl, Nat.le_of_ble_eq_true rfl⟩ ⟨Nat.le_of_ble_eq_true rfl, Nat.le_of_ble_eq_true rfl⟩ rfl rfl (Nat.le_of_ble_eq_true rfl) dX11_fits_146 (fun H locs hw hS => ?_)
                    clear hc
                    obtain ⟨r_22, s_21, hc, hf⟩ := ok_bd hf
                    refine z_cV hC hl.1 hw hS (As := [.int r_20]) (rest := []) (m_X11_fine l E  hc) rfl rfl gc123 gc124 ⟨Nat.le_of_ble_eq_true rfl, Nat.le_of_ble_eq_true rfl⟩ ⟨Nat.le_of_ble_eq_true rfl, Nat.le_of_ble_eq_true rfl⟩ rfl rfl (Nat.le_of_ble_eq_true rfl) dX11_fits_149 (fun H locs hw hS => ?_)
                    clear hc
                    exact z_iretE hC hlocks hw hS hf hr rfl dX11_fits_152
                  replace hf := hif.2 hk2
                  clear hif
                  refine lv_tableOut (tgt := 153) hx hb dX11_fits_83 (by have q0 := lv_neT hk0 (by decide : (0 : Int32).toInt = 0); have q1 := lv_neT hk1 (by decide : (1 : Int32).toInt = 1); have q2 := lv_neT hk2 (by decide : (2 : Int32).toInt = 2); omega) (by decide) ?_
                  refine lv_aload_n hx hb dX11_fits_153 rfl (lv_at hl 1 rfl) ?_
                  refine lv_aload_n hx hb dX11_fits_154 rfl (lv_at hl 1 rfl) ?_
                  refine lv_iload_n hx hb dX11_fits_155 rfl (lv_at hl 2 rfl) ?_
                  refine lv_aload hx hb dX11_fits_156 (lv_at hl 0 rfl) ?_
                  refine lv_iload_n hx hb dX11_fits_158 rfl (lv_at hl 4 rfl) ?_
                  refine lv_iload hx hb dX11_fits_159 (lv_at hl 5 rfl) ?_
                  refine lv_iload hx hb dX11_fits_161 (lv_at hl 6 rfl) ?_
                  refine lv_iconst (v := 4) hx hb dX11_fits_163 (by decide) ?_
                  obtain ⟨j172, ej172, hf⟩ := ok_lt hf
                  have J172 : ∀ (k_23 : Int32) (s_24 : St), j172 k_23 s_24 = some (rz, sz) → ∀ (H : Heap) (locs : List Loc) (ls : Array Slot), lv_has ls 7 [] → World E sh2 s_24 H → va_S E.2.2.2 s.heap H locs → W p l e (rmd 7) s m args below meth c H locs 0 0 (MQ below (QW E sh2 (some (.int rz)) sz) args s 0 0 E.2.2.2) (F0 m 172 ls [.int k_23, .int x4, .int x3, .ref (E.2.2.1 a_6), .int x1, .ref (E.2.2.1 0), .ref (E.2.2.1 0)]) := by
                    intro k_23 s_24 hf H locs ls hl hw hS
                    subst ej172
                    obtain ⟨r_26, s_25, hc, hf⟩ := ok_bd hf
                    refine z_cV hC hl.1 hw hS (As := [.int x1, .ref (E.2.2.1 a_6), .int x3, .int x4, .int k_23]) (rest := [.ref (E.2.2.1 0)]) (m_X11_mainsThatFit l E ta_6 hc) rfl rfl gc188 gc189 ⟨Nat.le_of_ble_eq_true rfl, Nat.le_of_ble_eq_true rfl⟩ ⟨Nat.le_of_ble_eq_true rfl, Nat.le_of_ble_eq_true rfl⟩ rfl rfl (Nat.le_of_ble_eq_true rfl) dX11_fits_172 (fun H locs hw hS => ?_)
                    clear hc
                    obtain ⟨r_28, s_27, hc, hf⟩ := ok_bd hf
                    refine z_cV hC hl.1 hw hS (As := [.int r_26]) (rest := []) (m_X11_fine l E  hc) rfl rfl gc123 gc124 ⟨Nat.le_of_ble_eq_true rfl, Nat.le_of_ble_eq_true rfl⟩ ⟨Nat.le_of_ble_eq_true rfl, Nat.le_of_ble_eq_true rfl⟩ rfl rfl (Nat.le_of_ble_eq_true rfl) dX11_fits_175 (fun H locs hw hS => ?_)
                    clear hc
                    exact z_iretE hC hlocks hw hS hf hr rfl dX11_fits_178
                  clear ej172
                  have hif := ok_if hf
                  refine lv_icmp_ne (tgt := 171) hx hb dX11_fits_164 (by decide) (fun hcd => ?_) (fun hcd => ?_)
                  · have hf := hif.1 hcd
                    clear hif
                    refine lv_iconst (v := 0) hx hb dX11_fits_171 (by decide) ?_
                    exact J172 _ _ hf _ _ ls (lv_sub hl [] rfl) hw hS
                  · have hf := hif.2 (fun q => q hcd)
                    clear hif
                    refine lv_iconst (v := 1) hx hb dX11_fits_167 (by decide) ?_
                    refine lv_goto (tgt := 172) hx hb dX11_fits_168 (by decide) ?_
                    exact J172 _ _ hf _ _ ls (lv_sub hl [] rfl) hw hS
                · have hf := hif.2 (fun q => q hcd)
                  clear hif
                  refine lv_aload_n hx hb dX11_fits_75 rfl (lv_at hl 1 rfl) ?_
                  refine lv_iconst (v := 2) hx hb dX11_fits_76 (by decide) ?_
                  obtain ⟨r_30, s_29, hc, hf⟩ := ok_bd hf
                  refine z_cV hC hl.1 hw hS (As := [.int (2 : Int32)]) (rest := []) (m_X11_found l E  hc) rfl rfl gc125 gc126 ⟨Nat.le_of_ble_eq_true rfl, Nat.le_of_ble_eq_true rfl⟩ ⟨Nat.le_of_ble_eq_true rfl, Nat.le_of_ble_eq_true rfl⟩ rfl rfl (Nat.le_of_ble_eq_true rfl) dX11_fits_77 (fun H locs hw hS => ?_)
                  clear hc
                  exact z_iretE hC hlocks hw hS hf hr rfl dX11_fits_80
              · have hf := hif.2 hcd
                clear hif
                refine lv_aload_n hx hb dX11_fits_58 rfl (lv_at hl 1 rfl) ?_
                refine lv_iconst (v := 1) hx hb dX11_fits_59 (by decide) ?_
                obtain ⟨r_32, s_31, hc, hf⟩ := ok_bd hf
                refine z_cV hC hl.1 hw hS (As := [.int (1 : Int32)]) (rest := []) (m_X11_found l E  hc) rfl rfl gc125 gc126 ⟨Nat.le_of_ble_eq_true rfl, Nat.le_of_ble_eq_true rfl⟩ ⟨Nat.le_of_ble_eq_true rfl, Nat.le_of_ble_eq_true rfl⟩ rfl rfl (Nat.le_of_ble_eq_true rfl) dX11_fits_60 (fun H locs hw hS => ?_)
                clear hc
                exact z_iretE hC hlocks hw hS hf hr rfl dX11_fits_63
            · have hf := hif.2 hcd
              clear hif
              exact J39 _ hf _ _ ls (lv_sub hl [] rfl) hw hS
set_option maxHeartbeats 4000000 in
set_option maxRecDepth 100000 in
theorem m_X11_weightOf (l : Launch) (E : Ev) {x1 : Int32} {x2 : Int32}  {s0 sz : St} {rz : Int32} (hf : f_X11_weightOf x1 x2 s0 = some (rz, sz)) : MM l E sh2 yX11_weightOf cX11_weightOf 5 (some .int) (rmd 2) [.ref (E.2.2.1 0), .int x1, .int x2] s0 (some (.int rz)) sz := by
  unfold f_X11_weightOf at hf
  refine z_enter (by decide +kernel) (Nat.le_of_ble_eq_true rfl) ?_
  intro p e s m args below meth c ls hC hr hlocks hw hS hl
  have hC : Cx p s m args c cX11_weightOf 5 "FuseBox" E := hC
  obtain ⟨hx, hb, hml, hown, hts, hTB⟩ := id hC
  have hl : lv_has ls 5 [(0, .ref (E.2.2.1 0)), (1, .int x1), (2, .int x2)] := hl
  refine lv_iconst (v := 1) hx hb dX11_weightOf_0 (by decide) ?_
  obtain ⟨v3_1, en, hf⟩ := ok_lt hf
  refine z_nm en ?_
  clear en
  refine lv_istore_n (lv' := [(3, .int v3_1), (0, .ref (E.2.2.1 0)), (1, .int x1), (2, .int x2)]) hx hb dX11_weightOf_1 rfl hl (by decide) rfl (fun ls hl => ?_)
  refine lv_iconst (v := 0) hx hb dX11_weightOf_2 (by decide) ?_
  obtain ⟨v4_2, en, hf⟩ := ok_lt hf
  refine z_nm en ?_
  clear en
  refine lv_istore (lv' := [(4, .int v4_2), (3, .int v3_1), (0, .ref (E.2.2.1 0)), (1, .int x1), (2, .int x2)]) hx hb dX11_weightOf_3 hl (by decide) rfl (fun ls hl => ?_)
  obtain ⟨r5, hL5, hf⟩ := ok_bind hf
  have X5_0 : ∀ (v3_6 : Int32) (s_7 : St), (v3_6, s_7) = r5 → ∀ (H : Heap) (locs : List Loc) (ls : Array Slot), lv_has ls 5 [(3, .int v3_6)] → World E sh2 s_7 H → va_S E.2.2.2 s.heap H locs → W p l e (rmd 2) s m args below meth c H locs 0 0 (MQ below (QW E sh2 (some (.int rz)) sz) args s 0 0 E.2.2.2) (F0 m 56 ls []) := by
    intro v3_6 s_7 er H locs ls hl hw hS
    subst er
    replace hf := ok_un2 hf
    refine lv_iload_n hx hb dX11_weightOf_56 rfl (lv_at hl 0 rfl) ?_
    exact z_iretE hC hlocks hw hS hf hr rfl dX11_weightOf_57
  have L5 : ∀ (n : Nat) (v3_3 : Int32) (v4_4 : Int32) (s_5 : St), loopF (f_X11_weightOf_L5 x1 x2) n (v3_3, v4_4, s_5) = some r5 → ∀ (H : Heap) (locs : List Loc) (ls : Array Slot), lv_has ls 5 [(0, .ref (E.2.2.1 0)), (1, .int x1), (2, .int x2), (3, .int v3_3), (4, .int v4_4)] → World E sh2 s_5 H → va_S E.2.2.2 s.heap H locs → W p l e (rmd 2) s m args below meth c H locs 0 0 (MQ below (QW E sh2 (some (.int rz)) sz) args s 0 0 E.2.2.2) (F0 m 5 ls []) := by
    intro n
    induction n with
    | zero =>
      intro v3_3 v4_4 s_5 hf
      exact nz hf
    | succ n ih5 =>
      intro v3_3 v4_4 s_5 hf H locs ls hl hw hS
      obtain ⟨xl5, hf, hi5, he5⟩ := ok_loop hf
      unfold f_X11_weightOf_L5 at hf
      replace hf := ok_un3 hf
      refine lv_iload hx hb dX11_weightOf_5 (lv_at hl 4 rfl) ?_
      refine lv_aload_n hx hb dX11_weightOf_7 rfl (lv_at hl 0 rfl) ?_
      refine gFuseBox_now hC hw wd354 dX11_weightOf_8 ?_
      refine gHouse_things hC hw isH_19 wd383 dX11_weightOf_11 ?_
      have hif := ok_if hf
      refine lv_icmp_ge (tgt := 56) hx hb dX11_weightOf_14 (by decide) (fun hcd => ?_) (fun hcd => ?_)
      · have hf := hif.1 hcd
        clear hif
        cases hf
        exact X5_0 _ _ (he5 _ rfl) _ _ ls (lv_sub hl [3] rfl) hw hS
      · have hf := hif.2 hcd
        clear hif
        refine lv_aload_n hx hb dX11_weightOf_17 rfl (lv_at hl 0 rfl) ?_
        refine gFuseBox_now hC hw wd354 dX11_weightOf_18 ?_
        refine lv_iload hx hb dX11_weightOf_21 (lv_at hl 4 rfl) ?_
        obtain ⟨r_9, s_8, hc, hf⟩ := ok_bd hf
        refine z_cV hC hl.1 hw hS (As := [.int v4_4]) (rest := []) (m_X3_isOn l E isH_19 hc) (sH isH_19).1 rfl gc152 gc19 ⟨Nat.le_of_ble_eq_true rfl, Nat.le_of_ble_eq_true rfl⟩ ⟨Nat.le_of_ble_eq_true rfl, Nat.le_of_ble_eq_true rfl⟩ rfl rfl (Nat.le_of_ble_eq_true rfl) dX11_weightOf_23 (fun H locs hw hS => ?_)
        clear hc
        obtain ⟨j50, ej50, hf⟩ := ok_lt hf
        have J50 : ∀ (v3_10 : Int32) (s_11 : St), j50 v3_10 s_11 = some xl5 → ∀ (H : Heap) (locs : List Loc) (ls : Array Slot), lv_has ls 5 [(0, .ref (E.2.2.1 0)), (1, .int x1), (2, .int x2), (3, .int v3_10), (4, .int v4_4)] → World E sh2 s_11 H → va_S E.2.2.2 s.heap H locs → W p l e (rmd 2) s m args below meth c H locs 0 0 (MQ below (QW E sh2 (some (.int rz)) sz) args s 0 0 E.2.2.2) (F0 m 50 ls []) := by
          intro v3_10 s_11 hf H locs ls hl hw hS
          subst ej50
          obtain ⟨v4_12, en, hf⟩ := ok_lt hf
          refine lv_iinc (v := v4_12) (lv' := [(4, .int v4_12), (0, .ref (E.2.2.1 0)), (1, .int x1), (2, .int x2), (3, .int v3_10)]) hx hb dX11_weightOf_50 hl (k := 4) rfl (by rw [en]; rfl) (by decide) rfl (fun ls hl => ?_)
          clear en
          refine lv_goto (tgt := 5) hx hb dX11_weightOf_53 (by decide) ?_
          cases hf
          exact ih5 _ _ _ (hi5 _ rfl) _ _ ls (lv_sub hl [1, 2, 3, 4, 0] rfl) hw hS
        clear ej50
        have hif := ok_if hf
        refine lv_if_eq (tgt := 50) hx hb dX11_weightOf_26 (by decide) (fun hcd => ?_) (fun hcd => ?_)
        · have hf := hif.1 hcd
          clear hif
          exact J50 _ _ hf _ _ ls hl hw hS
        · have hf := hif.2 hcd
          clear hif
          refine lv_iload_n hx hb dX11_weightOf_29 rfl (lv_at hl 3 rfl) ?_
          refine lv_iload_n hx hb dX11_weightOf_30 rfl (lv_at hl 1 rfl) ?_
          refine lv_iload hx hb dX11_weightOf_31 (lv_at hl 4 rfl) ?_
          refine lv_ishr hx hb dX11_weightOf_33 ?_
          refine lv_iconst (v := 1) hx hb dX11_weightOf_34 (by decide) ?_
          refine lv_iand hx hb dX11_weightOf_35 ?_
          refine lv_iconst (v := 1) hx hb dX11_weightOf_36 (by decide) ?_
          obtain ⟨j48, ej48, hf⟩ := ok_lt hf
          have J48 : ∀ (k_13 : Int32) (s_14 : St), j48 k_13 s_14 = some xl5 → ∀ (H : Heap) (locs : List Loc) (ls : Array Slot), lv_has ls 5 [(0, .ref (E.2.2.1 0)), (1, .int x1), (2, .int x2), (4, .int v4_4)] → World E sh2 s_14 H → va_S E.2.2.2 s.heap H locs → W p l e (rmd 2) s m args below meth c H locs 0 0 (MQ below (QW E sh2 (some (.int rz)) sz) args s 0 0 E.2.2.2) (F0 m 48 ls [.int k_13, .int v3_3]) := by
            intro k_13 s_14 hf H locs ls hl hw hS
            subst ej48
            refine lv_imul hx hb dX11_weightOf_48 ?_
            obtain ⟨v3_15, en, hf⟩ := ok_lt hf
            refine z_nm en ?_
            clear en
            refine lv_istore_n (lv' := [(3, .int v3_15), (0, .ref (E.2.2.1 0)), (1, .int x1), (2, .int x2), (4, .int v4_4)]) hx hb dX11_weightOf_49 rfl hl (by decide) rfl (fun ls hl => ?_)
            exact J50 _ _ hf _ _ ls (lv_sub hl [1, 2, 3, 0, 4] rfl) hw hS
          clear ej48
          have hif := ok_if hf
          refine lv_icmp_ne (tgt := 44) hx hb dX11_weightOf_37 (by decide) (fun hcd => ?_) (fun hcd => ?_)
          · have hf := hif.1 hcd
            clear hif
            refine lv_bipush (v := 10) hx hb dX11_weightOf_44 (by decide) ?_
            refine lv_iload_n hx hb dX11_weightOf_46 rfl (lv_at hl 2 rfl) ?_
            refine lv_isub hx hb dX11_weightOf_47 ?_
            exact J48 _ _ hf _ _ ls (lv_sub hl [0, 1, 2, 4] rfl) hw hS
          · have hf := hif.2 (fun q => q hcd)
            clear hif
            refine lv_iload_n hx hb dX11_weightOf_40 rfl (lv_at hl 2 rfl) ?_
            refine lv_goto (tgt := 48) hx hb dX11_weightOf_41 (by decide) ?_
            exact J48 _ _ hf _ _ ls (lv_sub hl [0, 1, 2, 4] rfl) hw hS
  exact L5 5000 _ _ _ hL5 _ _ ls (lv_sub hl [2, 3, 4, 1, 0] rfl) hw hS
set_option maxHeartbeats 4000000 in
set_option maxRecDepth 100000 in
theorem m_X11_isLiveWithout (l : Launch) (E : Ev) {x1 : Int32} {x2 : Int32} {x3 : Int32}  {s0 sz : St} {rz : Int32} (hf : f_X11_isLiveWithout x1 x2 x3 s0 = some (rz, sz)) : MM l E sh2 yX11_isLiveWithout cX11_isLiveWithout 5 (some .boolean) (rmd 5) [.ref (E.2.2.1 0), .int x1, .int x2, .int x3] s0 (some (.int rz)) sz := by
  unfold f_X11_isLiveWithout at hf
  refine z_enter (by decide +kernel) (Nat.le_of_ble_eq_true rfl) ?_
  intro p e s m args below meth c ls hC hr hlocks hw hS hl
  have hC : Cx p s m args c cX11_isLiveWithout 5 "FuseBox" E := hC
  obtain ⟨hx, hb, hml, hown, hts, hTB⟩ := id hC
  have hl : lv_has ls 5 [(0, .ref (E.2.2.1 0)), (1, .int x1), (2, .int x2), (3, .int x3)] := hl
  refine lv_aload_n hx hb dX11_isLiveWithout_0 rfl (lv_at hl 0 rfl) ?_
  refine gFuseBox_trial hC hw wd349 dX11_isLiveWithout_1 ?_
  refine lv_aload_n hx hb dX11_isLiveWithout_4 rfl (lv_at hl 0 rfl) ?_
  refine gFuseBox_now hC hw wd354 dX11_isLiveWithout_5 ?_
  obtain ⟨s_1, hc, hf⟩ := ok_bind hf
  refine z_cV hC hl.1 hw hS (As := [.ref (E.2.2.1 19)]) (rest := []) (m_X3_become l E isH_27 isH_19 hc) (sH isH_27).1 rfl gc139 gc140 ⟨Nat.le_of_ble_eq_true rfl, Nat.le_of_ble_eq_true rfl⟩ ⟨Nat.le_of_ble_eq_true rfl, Nat.le_of_ble_eq_true rfl⟩ rfl rfl (Nat.le_of_ble_eq_true rfl) dX11_isLiveWithout_8 (fun H locs hw hS => ?_)
  clear hc
  refine lv_aload_n hx hb dX11_isLiveWithout_11 rfl (lv_at hl 0 rfl) ?_
  refine gFuseBox_trial hC hw wd349 dX11_isLiveWithout_12 ?_
  refine lv_dup hx hb dX11_isLiveWithout_15 rfl ?_
  refine gHouse_on hC hw isH_27 wd426 dX11_isLiveWithout_16 ?_
  refine lv_iload_n hx hb dX11_isLiveWithout_19 rfl (lv_at hl 1 rfl) ?_
  refine lv_iconst (v := -1) hx hb dX11_isLiveWithout_20 (by decide) ?_
  refine lv_ixor hx hb dX11_isLiveWithout_21 ?_
  refine lv_iand hx hb dX11_isLiveWithout_22 ?_
  obtain ⟨s_2, en, hf⟩ := ok_lt hf
  refine pHouse_on hC hw hS isH_27 wd426 en dX11_isLiveWithout_23 (fun H locs hw hS => ?_)
  clear en
  refine lv_iconst (v := 0) hx hb dX11_isLiveWithout_26 (by decide) ?_
  obtain ⟨v4_3, en, hf⟩ := ok_lt hf
  refine z_nm en ?_
  clear en
  refine lv_istore (lv' := [(4, .int v4_3), (0, .ref (E.2.2.1 0)), (1, .int x1), (2, .int x2), (3, .int x3)]) hx hb dX11_isLiveWithout_27 hl (by decide) rfl (fun ls hl => ?_)
  obtain ⟨r29, hL29, hf⟩ := ok_bind hf
  have X29_0 : ∀ (s_6 : St), s_6 = r29 → ∀ (H : Heap) (locs : List Loc) (ls : Array Slot), lv_has ls 5 [(0, .ref (E.2.2.1 0)), (2, .int x2)] → World E sh2 s_6 H → va_S E.2.2.2 s.heap H locs → W p l e (rmd 5) s m args below meth c H locs 0 0 (MQ below (QW E sh2 (some (.int rz)) sz) args s 0 0 E.2.2.2) (F0 m 48 ls []) := by
    intro s_6 er H locs ls hl hw hS
    subst er
    replace hf := ok_un1 hf
    refine lv_aload_n hx hb dX11_isLiveWithout_48 rfl (lv_at hl 0 rfl) ?_
    refine gFuseBox_trial hC hw wd349 dX11_isLiveWithout_49 ?_
    refine lv_iload_n hx hb dX11_isLiveWithout_52 rfl (lv_at hl 1 rfl) ?_
    obtain ⟨r_8, s_7, hc, hf⟩ := ok_bd hf
    refine z_cV hC hl.1 hw hS (As := [.int x2]) (rest := []) (m_X3_isLive l E isH_27 hc) (sH isH_27).1 rfl gc162 gc21 ⟨Nat.le_of_ble_eq_true rfl, Nat.le_of_ble_eq_true rfl⟩ ⟨Nat.le_of_ble_eq_true rfl, Nat.le_of_ble_eq_true rfl⟩ rfl rfl (Nat.le_of_ble_eq_true rfl) dX11_isLiveWithout_53 (fun H locs hw hS => ?_)
    clear hc
    obtain ⟨hbo, hf⟩ := ok_chk hf
    exact z_iretE hC hlocks hw hS hf hr (narB hbo) dX11_isLiveWithout_56
  have L29 : ∀ (n : Nat) (v4_4 : Int32) (s_5 : St), loopF (f_X11_isLiveWithout_L29 x3) n (v4_4, s_5) = some r29 → ∀ (H : Heap) (locs : List Loc) (ls : Array Slot), lv_has ls 5 [(0, .ref (E.2.2.1 0)), (2, .int x2), (3, .int x3), (4, .int v4_4)] → World E sh2 s_5 H → va_S E.2.2.2 s.heap H locs → W p l e (rmd 5) s m args below meth c H locs 0 0 (MQ below (QW E sh2 (some (.int rz)) sz) args s 0 0 E.2.2.2) (F0 m 29 ls []) := by
    intro n
    induction n with
    | zero =>
      intro v4_4 s_5 hf
      exact nz hf
    | succ n ih29 =>
      intro v4_4 s_5 hf H locs ls hl hw hS
      obtain ⟨xl29, hf, hi29, he29⟩ := ok_loop hf
      unfold f_X11_isLiveWithout_L29 at hf
      replace hf := ok_un2 hf
      refine lv_iload hx hb dX11_isLiveWithout_29 (lv_at hl 3 rfl) ?_
      refine lv_iload_n hx hb dX11_isLiveWithout_31 rfl (lv_at hl 2 rfl) ?_
      have hif := ok_if hf
      refine lv_icmp_ge (tgt := 48) hx hb dX11_isLiveWithout_32 (by decide) (fun hcd => ?_) (fun hcd => ?_)
      · have hf := hif.1 hcd
        clear hif
        cases hf
        exact X29_0 _ (he29 _ rfl) _ _ ls (lv_sub hl [0, 1] rfl) hw hS
      · have hf := hif.2 hcd
        clear hif
        refine lv_aload_n hx hb dX11_isLiveWithout_35 rfl (lv_at hl 0 rfl) ?_
        refine gFuseBox_trial hC hw wd349 dX11_isLiveWithout_36 ?_
        obtain ⟨s_9, hc, hf⟩ := ok_bind hf
        refine z_cV hC hl.1 hw hS (As := []) (rest := []) (m_X3_passMinute l E isH_27 hc) (sH isH_27).1 rfl gc149 gc52 ⟨Nat.le_of_ble_eq_true rfl, Nat.le_of_ble_eq_true rfl⟩ ⟨Nat.le_of_ble_eq_true rfl, Nat.le_of_ble_eq_true rfl⟩ rfl rfl (Nat.le_of_ble_eq_true rfl) dX11_isLiveWithout_39 (fun H locs hw hS => ?_)
        clear hc
        obtain ⟨v4_10, en, hf⟩ := ok_lt hf
        refine lv_iinc (v := v4_10) (lv' := [(4, .int v4_10), (0, .ref (E.2.2.1 0)), (2, .int x2), (3, .int x3)]) hx hb dX11_isLiveWithout_42 hl (k := 3) rfl (by rw [en]; rfl) (by decide) rfl (fun ls hl => ?_)
        clear en
        refine lv_goto (tgt := 29) hx hb dX11_isLiveWithout_45 (by decide) ?_
        cases hf
        exact ih29 _ _ (hi29 _ rfl) _ _ ls (lv_sub hl [1, 2, 3, 0] rfl) hw hS
  exact L29 5000 _ _ hL29 _ _ ls (lv_sub hl [1, 3, 4, 0] rfl) hw hS
set_option maxHeartbeats 4000000 in
set_option maxRecDepth 100000 in
theorem m_X11_commonDivisor (l : Launch) (E : Ev) {x0 : Int32} {x1 : Int32}  {s0 sz : St} {rz : Int32} (hf : f_X11_commonDivisor x0 x1 s0 = some (rz, sz)) : MM l E sh2 yX11_commonDivisor cX11_commonDivisor 4 (some .int) (rmd 1) [.int x0, .int x1] s0 (some (.int rz)) sz := by
  unfold f_X11_commonDivisor at hf
  refine z_enter (by decide +kernel) (Nat.le_of_ble_eq_true rfl) ?_
  intro p e s m args below meth c ls hC hr hlocks hw hS hl
  have hC : Cx p s m args c cX11_commonDivisor 4 "FuseBox" E := hC
  obtain ⟨hx, hb, hml, hown, hts, hTB⟩ := id hC
  have hl : lv_has ls 4 [(0, .int x0), (1, .int x1)] := hl
  refine lv_iconst (v := 0) hx hb dX11_commonDivisor_0 (by decide) ?_
  obtain ⟨v2_1, en, hf⟩ := ok_lt hf
  refine z_nm en ?_
  clear en
  refine lv_istore_n (lv' := [(2, .int v2_1), (0, .int x0), (1, .int x1)]) hx hb dX11_commonDivisor_1 rfl hl (by decide) rfl (fun ls hl => ?_)
  obtain ⟨r2, hL2, hf⟩ := ok_bind hf
  have X2_0 : ∀ (v0_6 : Int32) (s_7 : St), (v0_6, s_7) = r2 → ∀ (H : Heap) (locs : List Loc) (ls : Array Slot), lv_has ls 4 [(0, .int v0_6)] → World E sh2 s_7 H → va_S E.2.2.2 s.heap H locs → W p l e (rmd 1) s m args below meth c H locs 0 0 (MQ below (QW E sh2 (some (.int rz)) sz) args s 0 0 E.2.2.2) (F0 m 26 ls []) := by
    intro v0_6 s_7 er H locs ls hl hw hS
    subst er
    replace hf := ok_un2 hf
    refine lv_iload_n hx hb dX11_commonDivisor_26 rfl (lv_at hl 0 rfl) ?_
    exact z_iretE hC hlocks hw hS hf hr rfl dX11_commonDivisor_27
  have L2 : ∀ (n : Nat) (v0_2 : Int32) (v1_3 : Int32) (v2_4 : Int32) (s_5 : St), loopF f_X11_commonDivisor_L2 n (v0_2, v1_3, v2_4, s_5) = some r2 → ∀ (H : Heap) (locs : List Loc) (ls : Array Slot), lv_has ls 4 [(0, .int v0_2), (1, .int v1_3), (2, .int v2_4)] → World E sh2 s_5 H → va_S E.2.2.2 s.heap H locs → W p l e (rmd 1) s m args below meth c H locs 0 0 (MQ below (QW E sh2 (some (.int rz)) sz) args s 0 0 E.2.2.2) (F0 m 2 ls []) := by
    intro n
    induction n with
    | zero =>
      intro v0_2 v1_3 v2_4 s_5 hf
      exact nz hf
    | succ n ih2 =>
      intro v0_2 v1_3 v2_4 s_5 hf H locs ls hl hw hS
      obtain ⟨xl2, hf, hi2, he2⟩ := ok_loop hf
      unfold f_X11_commonDivisor_L2 at hf
      replace hf := ok_un4 hf
      refine lv_iload_n hx hb dX11_commonDivisor_2 rfl (lv_at hl 2 rfl) ?_
      refine lv_bipush (v := 100) hx hb dX11_commonDivisor_3 (by decide) ?_
      have hif := ok_if hf
      refine lv_icmp_ge (tgt := 26) hx hb dX11_commonDivisor_5 (by decide) (fun hcd => ?_) (fun hcd => ?_)
      · have hf := hif.1 hcd
        clear hif
        cases hf
        exact X2_0 _ _ (he2 _ rfl) _ _ ls (lv_sub hl [0] rfl) hw hS
      · have hf := hif.2 hcd
        clear hif
        refine lv_iload_n hx hb dX11_commonDivisor_8 rfl (lv_at hl 1 rfl) ?_
        have hif := ok_if hf
        refine lv_if_le (tgt := 26) hx hb dX11_commonDivisor_9 (by decide) (fun hcd => ?_) (fun hcd => ?_)
        · have hf := hif.1 hcd
          clear hif
          cases hf
          exact X2_0 _ _ (he2 _ rfl) _ _ ls (lv_sub hl [0] rfl) hw hS
        · have hf := hif.2 hcd
          clear hif
          refine lv_iload_n hx hb dX11_commonDivisor_12 rfl (lv_at hl 0 rfl) ?_
          refine lv_iload_n hx hb dX11_commonDivisor_13 rfl (lv_at hl 1 rfl) ?_
          obtain ⟨hnz, hf⟩ := ok_chk hf
          refine lv_irem hx hb dX11_commonDivisor_14 hnz ?_
          obtain ⟨v3_8, en, hf⟩ := ok_lt hf
          refine z_nm en ?_
          clear en
          refine lv_istore_n (lv' := [(3, .int v3_8), (0, .int v0_2), (1, .int v1_3), (2, .int v2_4)]) hx hb dX11_commonDivisor_15 rfl hl (by decide) rfl (fun ls hl => ?_)
          refine lv_iload_n hx hb dX11_commonDivisor_16 rfl (lv_at hl 2 rfl) ?_
          refine lv_istore_n (lv' := [(0, .int v1_3), (3, .int v3_8), (1, .int v1_3), (2, .int v2_4)]) hx hb dX11_commonDivisor_17 rfl hl (by decide) rfl (fun ls hl => ?_)
          refine lv_iload_n hx hb dX11_commonDivisor_18 rfl (lv_at hl 1 rfl) ?_
          refine lv_istore_n (lv' := [(1, .int v3_8), (0, .int v1_3), (3, .int v3_8), (2, .int v2_4)]) hx hb dX11_commonDivisor_19 rfl hl (by decide) rfl (fun ls hl => ?_)
          obtain ⟨v2_9, en, hf⟩ := ok_lt hf
          refine lv_iinc (v := v2_9) (lv' := [(2, .int v2_9), (1, .int v3_8), (0, .int v1_3), (3, .int v3_8)]) hx hb dX11_commonDivisor_20 hl (k := 3) rfl (by rw [en]; rfl) (by decide) rfl (fun ls hl => ?_)
          clear en
          refine lv_goto (tgt := 2) hx hb dX11_commonDivisor_23 (by decide) ?_
          cases hf
          exact ih2 _ _ _ _ (hi2 _ rfl) _ _ ls (lv_sub hl [2, 1, 0] rfl) hw hS
  exact L2 5000 _ _ _ _ hL2 _ _ ls (lv_sub hl [1, 2, 0] rfl) hw hS
set_option maxHeartbeats 4000000 in
set_option maxRecDepth 100000 in
theorem m_X11_chance (l : Launch) (E : Ev) {x1 : Int32} {x2 : Int32} {x3 : Int32} {x4 : Int32}  {s0 sz : St} {rz : Int32} (hf : f_X11_chance x1 x2 x3 x4 s0 = some (rz, sz)) : MM l E sh2 yX11_chance cX11_chance 9 (some .int) (rmd 6) [.ref (E.2.2.1 0), .int x1, .int x2, .int x3, .int x4] s0 (some (.int rz)) sz := by
  unfold f_X11_chance at hf
  refine z_enter (by decide +kernel) (Nat.le_of_ble_eq_true rfl) ?_
  intro p e s m args below meth c ls hC hr hlocks hw hS hl
  have hC : Cx p s m args c cX11_chance 9 "FuseBox" E := hC
  obtain ⟨hx, hb, hml, hown, hts, hTB⟩ := id hC
  have hl : lv_has ls 9 [(0, .ref (E.2.2.1 0)), (1, .int x1), (2, .int x2), (3, .int x3), (4, .int x4)] := hl
  refine lv_aload_n hx hb dX11_chance_0 rfl (lv_at hl 0 rfl) ?_
  refine lv_iload_n hx hb dX11_chance_1 rfl (lv_at hl 1 rfl) ?_
  obtain ⟨r_2, s_1, hc, hf⟩ := ok_bd hf
  refine z_cV hC hl.1 hw hS (As := [.int x1]) (rest := []) (m_X11_noLine l E  hc) rfl rfl gc156 gc157 ⟨Nat.le_of_ble_eq_true rfl, Nat.le_of_ble_eq_true rfl⟩ ⟨Nat.le_of_ble_eq_true rfl, Nat.le_of_ble_eq_true rfl⟩ rfl rfl (Nat.le_of_ble_eq_true rfl) dX11_chance_2 (fun H locs hw hS => ?_)
  clear hc
  obtain ⟨j39, ej39, hf⟩ := ok_lt hf
  have J39 : ∀ (s_3 : St), j39 s_3 = some (rz, sz) → ∀ (H : Heap) (locs : List Loc) (ls : Array Slot), lv_has ls 9 [] → World E sh2 s_3 H → va_S E.2.2.2 s.heap H locs → W p l e (rmd 6) s m args below meth c H locs 0 0 (MQ below (QW E sh2 (some (.int rz)) sz) args s 0 0 E.2.2.2) (F0 m 39 ls []) := by
    intro s_3 hf H locs ls hl hw hS
    subst ej39
    refine lv_ldc (v := -1000001) hx hb hown (hts _ wd305) dX11_chance_39 ?_
    exact z_iretE hC hlocks hw hS hf hr rfl dX11_chance_41
  clear ej39
  have hif := ok_if hf
  refine lv_if_ne (tgt := 39) hx hb dX11_chance_5 (by decide) (fun hcd => ?_) (fun hcd => ?_)
  · have hf := hif.1 hcd
    clear hif
    exact J39 _ hf _ _ ls (lv_sub hl [] rfl) hw hS
  · have hf := hif.2 (fun q => q hcd)
    clear hif
    refine lv_iload_n hx hb dX11_chance_8 rfl (lv_at hl 2 rfl) ?_
    have hif := ok_if hf
    refine lv_if_lt (tgt := 39) hx hb dX11_chance_9 (by decide) (fun hcd => ?_) (fun hcd => ?_)
    · have hf := hif.1 hcd
      clear hif
      exact J39 _ hf _ _ ls (lv_sub hl [] rfl) hw hS
    · have hf := hif.2 hcd
      clear hif
      refine lv_iload_n hx hb dX11_chance_12 rfl (lv_at hl 2 rfl) ?_
      refine lv_bipush (v := 60) hx hb dX11_chance_13 (by decide) ?_
      have hif := ok_if hf
      refine lv_icmp_gt (tgt := 39) hx hb dX11_chance_15 (by decide) (fun hcd => ?_) (fun hcd => ?_)
      · have hf := hif.1 hcd
        clear hif
        exact J39 _ hf _ _ ls (lv_sub hl [] rfl) hw hS
      · have hf := hif.2 hcd
        clear hif
        refine lv_iload_n hx hb dX11_chance_18 rfl (lv_at hl 3 rfl) ?_
        have hif := ok_if hf
        refine lv_if_lt (tgt := 39) hx hb dX11_chance_19 (by decide) (fun hcd => ?_) (fun hcd => ?_)
        · have hf := hif.1 hcd
          clear hif
          exact J39 _ hf _ _ ls (lv_sub hl [] rfl) hw hS
        · have hf := hif.2 hcd
          clear hif
          refine lv_iload_n hx hb dX11_chance_22 rfl (lv_at hl 3 rfl) ?_
          refine lv_bipush (v := 10) hx hb dX11_chance_23 (by decide) ?_
          have hif := ok_if hf
          refine lv_icmp_gt (tgt := 39) hx hb dX11_chance_25 (by decide) (fun hcd => ?_) (fun hcd => ?_)
          · have hf := hif.1 hcd
            clear hif
            exact J39 _ hf _ _ ls (lv_sub hl [] rfl) hw hS
          · have hf := hif.2 hcd
            clear hif
            refine lv_iload hx hb dX11_chance_28 (lv_at hl 4 rfl) ?_
            have hif := ok_if hf
            refine lv_if_lt (tgt := 39) hx hb dX11_chance_30 (by decide) (fun hcd => ?_) (fun hcd => ?_)
            · have hf := hif.1 hcd
              clear hif
              exact J39 _ hf _ _ ls (lv_sub hl [] rfl) hw hS
            · have hf := hif.2 hcd
              clear hif
              refine lv_iload hx hb dX11_chance_33 (lv_at hl 4 rfl) ?_
              refine lv_iconst (v := 1) hx hb dX11_chance_35 (by decide) ?_
              have hif := ok_if hf
              refine lv_icmp_le (tgt := 42) hx hb dX11_chance_36 (by decide) (fun hcd => ?_) (fun hcd => ?_)
              · have hf := hif.1 hcd
                clear hif
                refine lv_iconst (v := 0) hx hb dX11_chance_42 (by decide) ?_
                obtain ⟨v5_4, en, hf⟩ := ok_lt hf
                refine z_nm en ?_
                clear en
                refine lv_istore (lv' := [(5, .int v5_4), (0, .ref (E.2.2.1 0)), (1, .int x1), (2, .int x2), (3, .int x3), (4, .int x4)]) hx hb dX11_chance_43 hl (by decide) rfl (fun ls hl => ?_)
                refine lv_iconst (v := 1) hx hb dX11_chance_45 (by decide) ?_
                obtain ⟨v6_5, en, hf⟩ := ok_lt hf
                refine z_nm en ?_
                clear en
                refine lv_istore (lv' := [(6, .int v6_5), (5, .int v5_4), (0, .ref (E.2.2.1 0)), (1, .int x1), (2, .int x2), (3, .int x3), (4, .int x4)]) hx hb dX11_chance_46 hl (by decide) rfl (fun ls hl => ?_)
                refine lv_iconst (v := 0) hx hb dX11_chance_48 (by decide) ?_
                obtain ⟨v7_6, en, hf⟩ := ok_lt hf
                refine z_nm en ?_
                clear en
                refine lv_istore (lv' := [(7, .int v7_6), (6, .int v6_5), (5, .int v5_4), (0, .ref (E.2.2.1 0)), (1, .int x1), (2, .int x2), (3, .int x3), (4, .int x4)]) hx hb dX11_chance_49 hl (by decide) rfl (fun ls hl => ?_)
                obtain ⟨r51, hL51, hf⟩ := ok_bind hf
                have X51_0 : ∀ (v6_10 : Int32) (s_11 : St), (v6_10, s_11) = r51 → ∀ (H : Heap) (locs : List Loc) (ls : Array Slot), lv_has ls 9 [(0, .ref (E.2.2.1 0)), (1, .int x1), (2, .int x2), (3, .int x3), (4, .int x4), (5, .int v5_4), (6, .int v6_10)] → World E sh2 s_11 H → va_S E.2.2.2 s.heap H locs → W p l e (rmd 6) s m args below meth c H locs 0 0 (MQ below (QW E sh2 (some (.int rz)) sz) args s 0 0 E.2.2.2) (F0 m 79 ls []) := by
                  intro v6_10 s_11 er H locs ls hl hw hS
                  subst er
                  replace hf := ok_un2 hf
                  refine lv_iconst (v := 0) hx hb dX11_chance_79 (by decide) ?_
                  obtain ⟨v7_12, en, hf⟩ := ok_lt hf
                  refine z_nm en ?_
                  clear en
                  refine lv_istore (lv' := [(7, .int v7_12), (0, .ref (E.2.2.1 0)), (1, .int x1), (2, .int x2), (3, .int x3), (4, .int x4), (5, .int v5_4), (6, .int v6_10)]) hx hb dX11_chance_80 hl (by decide) rfl (fun ls hl => ?_)
                  obtain ⟨r82, hL82, hf⟩ := ok_bind hf
                  have X82_0 : ∀ (v5_16 : Int32) (s_17 : St), (v5_16, s_17) = r82 → ∀ (H : Heap) (locs : List Loc) (ls : Array Slot), lv_has ls 9 [(4, .int x4), (5, .int v5_16), (6, .int v6_10)] → World E sh2 s_17 H → va_S E.2.2.2 s.heap H locs → W p l e (rmd 6) s m args below meth c H locs 0 0 (MQ below (QW E sh2 (some (.int rz)) sz) args s 0 0 E.2.2.2) (F0 m 146 ls []) := by
                    intro v5_16 s_17 er H locs ls hl hw hS
                    subst er
                    replace hf := ok_un2 hf
                    refine lv_iload hx hb dX11_chance_146 (lv_at hl 1 rfl) ?_
                    refine lv_iload hx hb dX11_chance_148 (lv_at hl 2 rfl) ?_
                    obtain ⟨r_19, s_18, hc, hf⟩ := ok_bd hf
                    refine z_cS hC hl.1 hw hS (As := [.int v5_16, .int v6_10]) (rest := []) (m_X11_commonDivisor l E  hc) gc190 gc191 ⟨Nat.le_of_ble_eq_true rfl, Nat.le_of_ble_eq_true rfl⟩ ⟨Nat.le_of_ble_eq_true rfl, Nat.le_of_ble_eq_true rfl⟩ rfl rfl (Nat.le_of_ble_eq_true rfl) dX11_chance_150 (fun H locs hw hS => ?_)
                    clear hc
                    refine lv_istore (lv' := [(7, .int r_19), (4, .int x4), (5, .int v5_16), (6, .int v6_10)]) hx hb dX11_chance_153 hl (by decide) rfl (fun ls hl => ?_)
                    refine lv_iload hx hb dX11_chance_155 (lv_at hl 0 rfl) ?_
                    have hif := ok_if hf
                    refine lv_if_gt (tgt := 163) hx hb dX11_chance_157 (by decide) (fun hcd => ?_) (fun hcd => ?_)
                    · have hf := hif.1 hcd
                      clear hif
                      refine lv_iload hx hb dX11_chance_163 (lv_at hl 1 rfl) ?_
                      obtain ⟨j175, ej175, hf⟩ := ok_lt hf
                      have J175 : ∀ (k_20 : Int32) (s_21 : St), j175 k_20 s_21 = some (rz, sz) → ∀ (H : Heap) (locs : List Loc) (ls : Array Slot), lv_has ls 9 [(7, .int r_19)] → World E sh2 s_21 H → va_S E.2.2.2 s.heap H locs → W p l e (rmd 6) s m args below meth c H locs 0 0 (MQ below (QW E sh2 (some (.int rz)) sz) args s 0 0 E.2.2.2) (F0 m 175 ls [.int k_20]) := by
                        intro k_20 s_21 hf H locs ls hl hw hS
                        subst ej175
                        refine lv_iload hx hb dX11_chance_175 (lv_at hl 0 rfl) ?_
                        obtain ⟨hnz, hf⟩ := ok_chk hf
                        refine lv_idiv hx hb dX11_chance_177 hnz ?_
                        exact z_iretE hC hlocks hw hS hf hr rfl dX11_chance_178
                      clear ej175
                      have hif := ok_if hf
                      refine lv_if_ne (tgt := 173) hx hb dX11_chance_165 (by decide) (fun hcd => ?_) (fun hcd => ?_)
                      · have hf := hif.1 hcd
                        clear hif
                        refine lv_iload hx hb dX11_chance_173 (lv_at hl 3 rfl) ?_
                        exact J175 _ _ hf _ _ ls (lv_sub hl [0] rfl) hw hS
                      · have hf := hif.2 (fun q => q hcd)
                        clear hif
                        refine lv_iload hx hb dX11_chance_168 (lv_at hl 2 rfl) ?_
                        refine lv_goto (tgt := 175) hx hb dX11_chance_170 (by decide) ?_
                        exact J175 _ _ hf _ _ ls (lv_sub hl [0] rfl) hw hS
                    · have hf := hif.2 hcd
                      clear hif
                      refine lv_ldc (v := -1000001) hx hb hown (hts _ wd305) dX11_chance_160 ?_
                      exact z_iretE hC hlocks hw hS hf hr rfl dX11_chance_162
                  have L82 : ∀ (n : Nat) (v5_13 : Int32) (v7_14 : Int32) (s_15 : St), loopF (f_X11_chance_L82 x1 x2 x3) n (v5_13, v7_14, s_15) = some r82 → ∀ (H : Heap) (locs : List Loc) (ls : Array Slot), lv_has ls 9 [(0, .ref (E.2.2.1 0)), (1, .int x1), (2, .int x2), (3, .int x3), (4, .int x4), (5, .int v5_13), (6, .int v6_10), (7, .int v7_14)] → World E sh2 s_15 H → va_S E.2.2.2 s.heap H locs → W p l e (rmd 6) s m args below meth c H locs 0 0 (MQ below (QW E sh2 (some (.int rz)) sz) args s 0 0 E.2.2.2) (F0 m 82 ls []) := by
                    intro n
                    induction n with
                    | zero =>
                      intro v5_13 v7_14 s_15 hf
                      exact nz hf
                    | succ n ih82 =>
                      intro v5_13 v7_14 s_15 hf H locs ls hl hw hS
                      obtain ⟨xl82, hf, hi82, he82⟩ := ok_loop hf
                      unfold f_X11_chance_L82 at hf
                      replace hf := ok_un3 hf
                      refine lv_iload hx hb dX11_chance_82 (lv_at hl 7 rfl) ?_
                      refine lv_bipush (v := 64) hx hb dX11_chance_84 (by decide) ?_
                      have hif := ok_if hf
                      refine lv_icmp_ge (tgt := 146) hx hb dX11_chance_86 (by decide) (fun hcd => ?_) (fun hcd => ?_)
                      · have hf := hif.1 hcd
                        clear hif
                        cases hf
                        exact X82_0 _ _ (he82 _ rfl) _ _ ls (lv_sub hl [4, 5, 6] rfl) hw hS
                      · have hf := hif.2 hcd
                        clear hif
                        refine lv_iload hx hb dX11_chance_89 (lv_at hl 7 rfl) ?_
                        refine lv_aload_n hx hb dX11_chance_91 rfl (lv_at hl 0 rfl) ?_
                        refine gFuseBox_now hC hw wd354 dX11_chance_92 ?_
                        refine gHouse_on hC hw isH_19 wd426 dX11_chance_95 ?_
                        refine lv_iconst (v := -1) hx hb dX11_chance_98 (by decide) ?_
                        refine lv_ixor hx hb dX11_chance_99 ?_
                        refine lv_iand hx hb dX11_chance_100 ?_
                        obtain ⟨j115, ej115, hf⟩ := ok_lt hf
                        have J115 : ∀ (k_22 : Int32) (s_23 : St), j115 k_22 s_23 = some xl82 → ∀ (H : Heap) (locs : List Loc) (ls : Array Slot), lv_has ls 9 [(0, .ref (E.2.2.1 0)), (1, .int x1), (2, .int x2), (3, .int x3), (4, .int x4), (5, .int v5_13), (6, .int v6_10), (7, .int v7_14)] → World E sh2 s_23 H → va_S E.2.2.2 s.heap H locs → W p l e (rmd 6) s m args below meth c H locs 0 0 (MQ below (QW E sh2 (some (.int rz)) sz) args s 0 0 E.2.2.2) (F0 m 115 ls [.int k_22]) := by
                          intro k_22 s_23 hf H locs ls hl hw hS
                          subst ej115
                          refine lv_istore (lv' := [(8, .int k_22), (0, .ref (E.2.2.1 0)), (1, .int x1), (2, .int x2), (3, .int x3), (4, .int x4), (5, .int v5_13), (6, .int v6_10), (7, .int v7_14)]) hx hb dX11_chance_115 hl (by decide) rfl (fun ls hl => ?_)
                          refine lv_iload hx hb dX11_chance_117 (lv_at hl 0 rfl) ?_
                          obtain ⟨j140, ej140, hf⟩ := ok_lt hf
                          have J140 : ∀ (v5_24 : Int32) (s_25 : St), j140 v5_24 s_25 = some xl82 → ∀ (H : Heap) (locs : List Loc) (ls : Array Slot), lv_has ls 9 [(0, .ref (E.2.2.1 0)), (1, .int x1), (2, .int x2), (3, .int x3), (4, .int x4), (5, .int v5_24), (6, .int v6_10), (7, .int v7_14)] → World E sh2 s_25 H → va_S E.2.2.2 s.heap H locs → W p l e (rmd 6) s m args below meth c H locs 0 0 (MQ below (QW E sh2 (some (.int rz)) sz) args s 0 0 E.2.2.2) (F0 m 140 ls []) := by
                            intro v5_24 s_25 hf H locs ls hl hw hS
                            subst ej140
                            obtain ⟨v7_26, en, hf⟩ := ok_lt hf
                            refine lv_iinc (v := v7_26) (lv' := [(7, .int v7_26), (0, .ref (E.2.2.1 0)), (1, .int x1), (2, .int x2), (3, .int x3), (4, .int x4), (5, .int v5_24), (6, .int v6_10)]) hx hb dX11_chance_140 hl (k := 7) rfl (by rw [en]; rfl) (by decide) rfl (fun ls hl => ?_)
                            clear en
                            refine lv_goto (tgt := 82) hx hb dX11_chance_143 (by decide) ?_
                            cases hf
                            exact ih82 _ _ _ (hi82 _ rfl) _ _ ls (lv_sub hl [1, 2, 3, 4, 5, 6, 7, 0] rfl) hw hS
                          clear ej140
                          have hif := ok_if hf
                          refine lv_if_le (tgt := 140) hx hb dX11_chance_119 (by decide) (fun hcd => ?_) (fun hcd => ?_)
                          · have hf := hif.1 hcd
                            clear hif
                            exact J140 _ _ hf _ _ ls (lv_sub hl [1, 2, 3, 4, 5, 6, 7, 8] rfl) hw hS
                          · have hf := hif.2 hcd
                            clear hif
                            refine lv_aload_n hx hb dX11_chance_122 rfl (lv_at hl 1 rfl) ?_
                            refine lv_iload hx hb dX11_chance_123 (lv_at hl 8 rfl) ?_
                            refine lv_iload_n hx hb dX11_chance_125 rfl (lv_at hl 2 rfl) ?_
                            refine lv_iload_n hx hb dX11_chance_126 rfl (lv_at hl 3 rfl) ?_
                            obtain ⟨r_28, s_27, hc, hf⟩ := ok_bd hf
                            refine z_cV hC hl.1 hw hS (As := [.int v7_14, .int x1, .int x2]) (rest := []) (m_X11_isLiveWithout l E  hc) rfl rfl gc192 gc193 ⟨Nat.le_of_ble_eq_true rfl, Nat.le_of_ble_eq_true rfl⟩ ⟨Nat.le_of_ble_eq_true rfl, Nat.le_of_ble_eq_true rfl⟩ rfl rfl (Nat.le_of_ble_eq_true rfl) dX11_chance_127 (fun H locs hw hS => ?_)
                            clear hc
                            have hif := ok_if hf
                            refine lv_if_eq (tgt := 140) hx hb dX11_chance_130 (by decide) (fun hcd => ?_) (fun hcd => ?_)
                            · have hf := hif.1 hcd
                              clear hif
                              exact J140 _ _ hf _ _ ls (lv_sub hl [1, 2, 3, 4, 5, 6, 7, 8] rfl) hw hS
                            · have hf := hif.2 hcd
                              clear hif
                              refine lv_iload hx hb dX11_chance_133 (lv_at hl 6 rfl) ?_
                              refine lv_iload hx hb dX11_chance_135 (lv_at hl 0 rfl) ?_
                              refine lv_iadd hx hb dX11_chance_137 ?_
                              obtain ⟨v5_29, en, hf⟩ := ok_lt hf
                              refine z_nm en ?_
                              clear en
                              refine lv_istore (lv' := [(5, .int v5_29), (8, .int k_22), (0, .ref (E.2.2.1 0)), (1, .int x1), (2, .int x2), (3, .int x3), (4, .int x4), (6, .int v6_10), (7, .int v7_14)]) hx hb dX11_chance_138 hl (by decide) rfl (fun ls hl => ?_)
                              exact J140 _ _ hf _ _ ls (lv_sub hl [2, 3, 4, 5, 6, 0, 7, 8] rfl) hw hS
                        clear ej115
                        have hif := ok_if hf
                        refine lv_if_ne (tgt := 114) hx hb dX11_chance_101 (by decide) (fun hcd => ?_) (fun hcd => ?_)
                        · have hf := hif.1 hcd
                          clear hif
                          refine lv_iconst (v := 0) hx hb dX11_chance_114 (by decide) ?_
                          exact J115 _ _ hf _ _ ls hl hw hS
                        · have hf := hif.2 (fun q => q hcd)
                          clear hif
                          refine lv_aload_n hx hb dX11_chance_104 rfl (lv_at hl 0 rfl) ?_
                          refine lv_iload hx hb dX11_chance_105 (lv_at hl 7 rfl) ?_
                          refine lv_iload_n hx hb dX11_chance_107 rfl (lv_at hl 3 rfl) ?_
                          obtain ⟨r_31, s_30, hc, hf⟩ := ok_bd hf
                          refine z_cV hC hl.1 hw hS (As := [.int v7_14, .int x3]) (rest := []) (m_X11_weightOf l E  hc) rfl rfl gc194 gc195 ⟨Nat.le_of_ble_eq_true rfl, Nat.le_of_ble_eq_true rfl⟩ ⟨Nat.le_of_ble_eq_true rfl, Nat.le_of_ble_eq_true rfl⟩ rfl rfl (Nat.le_of_ble_eq_true rfl) dX11_chance_108 (fun H locs hw hS => ?_)
                          clear hc
                          refine lv_goto (tgt := 115) hx hb dX11_chance_111 (by decide) ?_
                          exact J115 _ _ hf _ _ ls hl hw hS
                  exact L82 5000 _ _ _ hL82 _ _ ls (lv_sub hl [1, 2, 3, 4, 5, 6, 7, 0] rfl) hw hS
                have L51 : ∀ (n : Nat) (v6_7 : Int32) (v7_8 : Int32) (s_9 : St), loopF f_X11_chance_L51 n (v6_7, v7_8, s_9) = some r51 → ∀ (H : Heap) (locs : List Loc) (ls : Array Slot), lv_has ls 9 [(0, .ref (E.2.2.1 0)), (1, .int x1), (2, .int x2), (3, .int x3), (4, .int x4), (5, .int v5_4), (6, .int v6_7), (7, .int v7_8)] → World E sh2 s_9 H → va_S E.2.2.2 s.heap H locs → W p l e (rmd 6) s m args below meth c H locs 0 0 (MQ below (QW E sh2 (some (.int rz)) sz) args s 0 0 E.2.2.2) (F0 m 51 ls []) := by
                  intro n
                  induction n with
                  | zero =>
                    intro v6_7 v7_8 s_9 hf
                    exact nz hf
                  | succ n ih51 =>
                    intro v6_7 v7_8 s_9 hf H locs ls hl hw hS
                    obtain ⟨xl51, hf, hi51, he51⟩ := ok_loop hf
                    unfold f_X11_chance_L51 at hf
                    replace hf := ok_un3 hf
                    refine lv_iload hx hb dX11_chance_51 (lv_at hl 7 rfl) ?_
                    refine lv_aload_n hx hb dX11_chance_53 rfl (lv_at hl 0 rfl) ?_
                    refine gFuseBox_now hC hw wd354 dX11_chance_54 ?_
                    refine gHouse_on hC hw isH_19 wd426 dX11_chance_57 ?_
                    obtain ⟨r_33, s_32, hc, hf⟩ := ok_bd hf
                    refine z_cS hC hl.1 hw hS (As := [.int (s_9 19 14)]) (rest := [.int v7_8]) (m_J6_bitCount_0f7a4 l E  hc) gc170 gc68 ⟨Nat.le_of_ble_eq_true rfl, Nat.le_of_ble_eq_true rfl⟩ ⟨Nat.le_of_ble_eq_true rfl, Nat.le_of_ble_eq_true rfl⟩ rfl rfl (Nat.le_of_ble_eq_true rfl) dX11_chance_60 (fun H locs hw hS => ?_)
                    clear hc
                    have hif := ok_if hf
                    refine lv_icmp_ge (tgt := 79) hx hb dX11_chance_63 (by decide) (fun hcd => ?_) (fun hcd => ?_)
                    · have hf := hif.1 hcd
                      clear hif
                      cases hf
                      exact X51_0 _ _ (he51 _ rfl) _ _ ls (lv_sub hl [0, 1, 2, 3, 4, 5, 6] rfl) hw hS
                    · have hf := hif.2 hcd
                      clear hif
                      refine lv_iload hx hb dX11_chance_66 (lv_at hl 6 rfl) ?_
                      refine lv_bipush (v := 10) hx hb dX11_chance_68 (by decide) ?_
                      refine lv_imul hx hb dX11_chance_70 ?_
                      obtain ⟨v6_34, en, hf⟩ := ok_lt hf
                      refine z_nm en ?_
                      clear en
                      refine lv_istore (lv' := [(6, .int v6_34), (0, .ref (E.2.2.1 0)), (1, .int x1), (2, .int x2), (3, .int x3), (4, .int x4), (5, .int v5_4), (7, .int v7_8)]) hx hb dX11_chance_71 hl (by decide) rfl (fun ls hl => ?_)
                      obtain ⟨v7_35, en, hf⟩ := ok_lt hf
                      refine lv_iinc (v := v7_35) (lv' := [(7, .int v7_35), (6, .int v6_34), (0, .ref (E.2.2.1 0)), (1, .int x1), (2, .int x2), (3, .int x3), (4, .int x4), (5, .int v5_4)]) hx hb dX11_chance_73 hl (k := 7) rfl (by rw [en]; rfl) (by decide) rfl (fun ls hl => ?_)
                      clear en
                      refine lv_goto (tgt := 51) hx hb dX11_chance_76 (by decide) ?_
                      cases hf
                      exact ih51 _ _ _ (hi51 _ rfl) _ _ ls (lv_sub hl [2, 3, 4, 5, 6, 7, 1, 0] rfl) hw hS
                exact L51 5000 _ _ _ hL51 _ _ ls (lv_sub hl [3, 4, 5, 6, 7, 2, 1, 0] rfl) hw hS
              · have hf := hif.2 hcd
                clear hif
                exact J39 _ hf _ _ ls (lv_sub hl [] rfl) hw hS
set_option maxHeartbeats 4000000 in
set_option maxRecDepth 100000 in
theorem m_X11_drawn (l : Launch) (E : Ev) {x1 : Int32} {x2 : Int32} {x3 : Int32}  {s0 sz : St} {rz : Int32} (hf : f_X11_drawn x1 x2 x3 s0 = some (rz, sz)) : MM l E sh2 yX11_drawn cX11_drawn 7 (some .int) (rmd 5) [.ref (E.2.2.1 0), .int x1, .int x2, .int x3] s0 (some (.int rz)) sz := by
  unfold f_X11_drawn at hf
  refine z_enter (by decide +kernel) (Nat.le_of_ble_eq_true rfl) ?_
  intro p e s m args below meth c ls hC hr hlocks hw hS hl
  have hC : Cx p s m args c cX11_drawn 7 "FuseBox" E := hC
  obtain ⟨hx, hb, hml, hown, hts, hTB⟩ := id hC
  have hl : lv_has ls 7 [(0, .ref (E.2.2.1 0)), (1, .int x1), (2, .int x2), (3, .int x3)] := hl
  refine lv_aload_n hx hb dX11_drawn_0 rfl (lv_at hl 0 rfl) ?_
  obtain ⟨r_2, s_1, hc, hf⟩ := ok_bd hf
  refine z_cV hC hl.1 hw hS (As := []) (rest := []) (m_X11_noHouse l E  hc) rfl rfl gc143 gc144 ⟨Nat.le_of_ble_eq_true rfl, Nat.le_of_ble_eq_true rfl⟩ ⟨Nat.le_of_ble_eq_true rfl, Nat.le_of_ble_eq_true rfl⟩ rfl rfl (Nat.le_of_ble_eq_true rfl) dX11_drawn_1 (fun H locs hw hS => ?_)
  clear hc
  have hif := ok_if hf
  refine lv_if_eq (tgt := 10) hx hb dX11_drawn_4 (by decide) (fun hcd => ?_) (fun hcd => ?_)
  · have hf := hif.1 hcd
    clear hif
    refine lv_iload_n hx hb dX11_drawn_10 rfl (lv_at hl 1 rfl) ?_
    obtain ⟨j41, ej41, hf⟩ := ok_lt hf
    have J41 : ∀ (s_3 : St), j41 s_3 = some (rz, sz) → ∀ (H : Heap) (locs : List Loc) (ls : Array Slot), lv_has ls 7 [] → World E sh2 s_3 H → va_S E.2.2.2 s.heap H locs → W p l e (rmd 5) s m args below meth c H locs 0 0 (MQ below (QW E sh2 (some (.int rz)) sz) args s 0 0 E.2.2.2) (F0 m 41 ls []) := by
      intro s_3 hf H locs ls hl hw hS
      subst ej41
      refine lv_ldc (v := -1000001) hx hb hown (hts _ wd305) dX11_drawn_41 ?_
      exact z_iretE hC hlocks hw hS hf hr rfl dX11_drawn_43
    clear ej41
    have hif := ok_if hf
    refine lv_if_lt (tgt := 41) hx hb dX11_drawn_11 (by decide) (fun hcd => ?_) (fun hcd => ?_)
    · have hf := hif.1 hcd
      clear hif
      exact J41 _ hf _ _ ls (lv_sub hl [] rfl) hw hS
    · have hf := hif.2 hcd
      clear hif
      refine lv_iload_n hx hb dX11_drawn_14 rfl (lv_at hl 1 rfl) ?_
      refine lv_bipush (v := 60) hx hb dX11_drawn_15 (by decide) ?_
      have hif := ok_if hf
      refine lv_icmp_gt (tgt := 41) hx hb dX11_drawn_17 (by decide) (fun hcd => ?_) (fun hcd => ?_)
      · have hf := hif.1 hcd
        clear hif
        exact J41 _ hf _ _ ls (lv_sub hl [] rfl) hw hS
      · have hf := hif.2 hcd
        clear hif
        refine lv_iload_n hx hb dX11_drawn_20 rfl (lv_at hl 2 rfl) ?_
        refine lv_iconst (v := 1) hx hb dX11_drawn_21 (by decide) ?_
        have hif := ok_if hf
        refine lv_icmp_lt (tgt := 41) hx hb dX11_drawn_22 (by decide) (fun hcd => ?_) (fun hcd => ?_)
        · have hf := hif.1 hcd
          clear hif
          exact J41 _ hf _ _ ls (lv_sub hl [] rfl) hw hS
        · have hf := hif.2 hcd
          clear hif
          refine lv_iload_n hx hb dX11_drawn_25 rfl (lv_at hl 2 rfl) ?_
          refine lv_ldcw (v := 999999) hx hb hown (hts _ wd480) dX11_drawn_26 ?_
          have hif := ok_if hf
          refine lv_icmp_gt (tgt := 41) hx hb dX11_drawn_29 (by decide) (fun hcd => ?_) (fun hcd => ?_)
          · have hf := hif.1 hcd
            clear hif
            exact J41 _ hf _ _ ls (lv_sub hl [] rfl) hw hS
          · have hf := hif.2 hcd
            clear hif
            refine lv_iload_n hx hb dX11_drawn_32 rfl (lv_at hl 3 rfl) ?_
            have hif := ok_if hf
            refine lv_if_lt (tgt := 41) hx hb dX11_drawn_33 (by decide) (fun hcd => ?_) (fun hcd => ?_)
            · have hf := hif.1 hcd
              clear hif
              exact J41 _ hf _ _ ls (lv_sub hl [] rfl) hw hS
            · have hf := hif.2 hcd
              clear hif
              refine lv_iload_n hx hb dX11_drawn_36 rfl (lv_at hl 3 rfl) ?_
              refine lv_iconst (v := 1) hx hb dX11_drawn_37 (by decide) ?_
              have hif := ok_if hf
              refine lv_icmp_le (tgt := 44) hx hb dX11_drawn_38 (by decide) (fun hcd => ?_) (fun hcd => ?_)
              · have hf := hif.1 hcd
                clear hif
                refine lv_aload_n hx hb dX11_drawn_44 rfl (lv_at hl 0 rfl) ?_
                refine gFuseBox_trial hC hw wd349 dX11_drawn_45 ?_
                refine lv_aload_n hx hb dX11_drawn_48 rfl (lv_at hl 0 rfl) ?_
                refine gFuseBox_now hC hw wd354 dX11_drawn_49 ?_
                obtain ⟨s_4, hc, hf⟩ := ok_bind hf
                refine z_cV hC hl.1 hw hS (As := [.ref (E.2.2.1 19)]) (rest := []) (m_X3_become l E isH_27 isH_19 hc) (sH isH_27).1 rfl gc139 gc140 ⟨Nat.le_of_ble_eq_true rfl, Nat.le_of_ble_eq_true rfl⟩ ⟨Nat.le_of_ble_eq_true rfl, Nat.le_of_ble_eq_true rfl⟩ rfl rfl (Nat.le_of_ble_eq_true rfl) dX11_drawn_52 (fun H locs hw hS => ?_)
                clear hc
                refine lv_aload_n hx hb dX11_drawn_55 rfl (lv_at hl 0 rfl) ?_
                refine gFuseBox_trial hC hw wd349 dX11_drawn_56 ?_
                refine lv_iconst (v := 0) hx hb dX11_drawn_59 (by decide) ?_
                obtain ⟨s_5, en, hf⟩ := ok_lt hf
                refine pHouse_used hC hw hS isH_27 wd424 en dX11_drawn_60 (fun H locs hw hS => ?_)
                clear en
                refine lv_iload_n hx hb dX11_drawn_63 rfl (lv_at hl 2 rfl) ?_
                refine lv_i2l (v := x2.toInt64) hx hb dX11_drawn_64 rfl ?_
                obtain ⟨v4_6, en, hf⟩ := ok_lt hf
                refine z_nml en ?_
                clear en
                refine lv_lstore (lv' := [(4, .long v4_6), (0, .ref (E.2.2.1 0)), (1, .int x1), (2, .int x2), (3, .int x3)]) hx hb dX11_drawn_65 hl (by decide) rfl (fun ls hl => ?_)
                refine lv_iconst (v := 0) hx hb dX11_drawn_67 (by decide) ?_
                obtain ⟨v6_7, en, hf⟩ := ok_lt hf
                refine z_nm en ?_
                clear en
                refine lv_istore (lv' := [(6, .int v6_7), (4, .long v4_6), (0, .ref (E.2.2.1 0)), (1, .int x1), (2, .int x2), (3, .int x3)]) hx hb dX11_drawn_68 hl (by decide) rfl (fun ls hl => ?_)
                obtain ⟨r70, hL70, hf⟩ := ok_bind hf
                have X70_0 : ∀ (s_11 : St), s_11 = r70 → ∀ (H : Heap) (locs : List Loc) (ls : Array Slot), lv_has ls 7 [(0, .ref (E.2.2.1 0)), (3, .int x3)] → World E sh2 s_11 H → va_S E.2.2.2 s.heap H locs → W p l e (rmd 5) s m args below meth c H locs 0 0 (MQ below (QW E sh2 (some (.int rz)) sz) args s 0 0 E.2.2.2) (F0 m 110 ls []) := by
                  intro s_11 er H locs ls hl hw hS
                  subst er
                  replace hf := ok_un1 hf
                  refine lv_iload_n hx hb dX11_drawn_110 rfl (lv_at hl 1 rfl) ?_
                  obtain ⟨j134, ej134, hf⟩ := ok_lt hf
                  have J134 : ∀ (k_12 : Int32) (s_13 : St), j134 k_12 s_13 = some (rz, sz) → ∀ (H : Heap) (locs : List Loc) (ls : Array Slot), lv_has ls 7 [] → World E sh2 s_13 H → va_S E.2.2.2 s.heap H locs → W p l e (rmd 5) s m args below meth c H locs 0 0 (MQ below (QW E sh2 (some (.int rz)) sz) args s 0 0 E.2.2.2) (F0 m 134 ls [.int k_12]) := by
                    intro k_12 s_13 hf H locs ls hl hw hS
                    subst ej134
                    exact z_iretE hC hlocks hw hS hf hr rfl dX11_drawn_134
                  clear ej134
                  have hif := ok_if hf
                  refine lv_if_ne (tgt := 124) hx hb dX11_drawn_111 (by decide) (fun hcd => ?_) (fun hcd => ?_)
                  · have hf := hif.1 hcd
                    clear hif
                    refine lv_aload_n hx hb dX11_drawn_124 rfl (lv_at hl 0 rfl) ?_
                    refine gFuseBox_trial hC hw wd349 dX11_drawn_125 ?_
                    obtain ⟨r_15, s_14, hc, hf⟩ := ok_bd hf
                    refine z_cV hC hl.1 hw hS (As := []) (rest := []) (m_X3_liveLines l E isH_27 hc) (sH isH_27).1 rfl gc145 gc146 ⟨Nat.le_of_ble_eq_true rfl, Nat.le_of_ble_eq_true rfl⟩ ⟨Nat.le_of_ble_eq_true rfl, Nat.le_of_ble_eq_true rfl⟩ rfl rfl (Nat.le_of_ble_eq_true rfl) dX11_drawn_128 (fun H locs hw hS => ?_)
                    clear hc
                    obtain ⟨r_17, s_16, hc, hf⟩ := ok_bd hf
                    refine z_cS hC hl.1 hw hS (As := [.int r_15]) (rest := []) (m_J6_bitCount_0f7a4 l E  hc) gc170 gc68 ⟨Nat.le_of_ble_eq_true rfl, Nat.le_of_ble_eq_true rfl⟩ ⟨Nat.le_of_ble_eq_true rfl, Nat.le_of_ble_eq_true rfl⟩ rfl rfl (Nat.le_of_ble_eq_true rfl) dX11_drawn_131 (fun H locs hw hS => ?_)
                    clear hc
                    exact J134 _ _ hf _ _ ls (lv_sub hl [] rfl) hw hS
                  · have hf := hif.2 (fun q => q hcd)
                    clear hif
                    refine lv_aload_n hx hb dX11_drawn_114 rfl (lv_at hl 0 rfl) ?_
                    refine gFuseBox_trial hC hw wd349 dX11_drawn_115 ?_
                    refine gHouse_used hC hw isH_27 wd424 dX11_drawn_118 ?_
                    refine lv_goto (tgt := 134) hx hb dX11_drawn_121 (by decide) ?_
                    exact J134 _ _ hf _ _ ls (lv_sub hl [] rfl) hw hS
                have L70 : ∀ (n : Nat) (v4_8 : Int64) (v6_9 : Int32) (s_10 : St), loopF (f_X11_drawn_L70 x1) n (v4_8, v6_9, s_10) = some r70 → ∀ (H : Heap) (locs : List Loc) (ls : Array Slot), lv_has ls 7 [(0, .ref (E.2.2.1 0)), (1, .int x1), (3, .int x3), (4, .long v4_8), (6, .int v6_9)] → World E sh2 s_10 H → va_S E.2.2.2 s.heap H locs → W p l e (rmd 5) s m args below meth c H locs 0 0 (MQ below (QW E sh2 (some (.int rz)) sz) args s 0 0 E.2.2.2) (F0 m 70 ls []) := by
                  intro n
                  induction n with
                  | zero =>
                    intro v4_8 v6_9 s_10 hf
                    exact nz hf
                  | succ n ih70 =>
                    intro v4_8 v6_9 s_10 hf H locs ls hl hw hS
                    obtain ⟨xl70, hf, hi70, he70⟩ := ok_loop hf
                    unfold f_X11_drawn_L70 at hf
                    replace hf := ok_un3 hf
                    refine lv_iload hx hb dX11_drawn_70 (lv_at hl 4 rfl) ?_
                    refine lv_iload_n hx hb dX11_drawn_72 rfl (lv_at hl 1 rfl) ?_
                    have hif := ok_if hf
                    refine lv_icmp_ge (tgt := 110) hx hb dX11_drawn_73 (by decide) (fun hcd => ?_) (fun hcd => ?_)
                    · have hf := hif.1 hcd
                      clear hif
                      cases hf
                      exact X70_0 _ (he70 _ rfl) _ _ ls (lv_sub hl [0, 2] rfl) hw hS
                    · have hf := hif.2 hcd
                      clear hif
                      refine lv_lload hx hb dX11_drawn_76 (lv_at hl 3 rfl) ?_
                      refine lv_ldc2 (v := 16807) hx hb hown (hts _ wd481) dX11_drawn_78 ?_
                      refine lv_lmul hx hb dX11_drawn_81 ?_
                      refine lv_ldc2 (v := 2147483647) hx hb hown (hts _ wd482) dX11_drawn_82 ?_
                      refine lv_lrem hx hb dX11_drawn_85 (by decide) ?_
                      obtain ⟨v4_18, en, hf⟩ := ok_lt hf
                      refine z_nml en ?_
                      clear en
                      refine lv_lstore (lv' := [(4, .long v4_18), (0, .ref (E.2.2.1 0)), (1, .int x1), (3, .int x3), (6, .int v6_9)]) hx hb dX11_drawn_86 hl (by decide) rfl (fun ls hl => ?_)
                      refine lv_aload_n hx hb dX11_drawn_88 rfl (lv_at hl 1 rfl) ?_
                      refine gFuseBox_trial hC hw wd349 dX11_drawn_89 ?_
                      refine lv_lload hx hb dX11_drawn_92 (lv_at hl 0 rfl) ?_
                      obtain ⟨s_19, hc, hf⟩ := ok_bind hf
                      refine z_cV hC hl.1 hw hS (As := [.long v4_18]) (rest := []) (m_X3_draw l E isH_27 hc) (sH isH_27).1 rfl gc196 gc197 ⟨Nat.le_of_ble_eq_true rfl, Nat.le_of_ble_eq_true rfl⟩ ⟨Nat.le_of_ble_eq_true rfl, Nat.le_of_ble_eq_true rfl⟩ rfl rfl (Nat.le_of_ble_eq_true rfl) dX11_drawn_94 (fun H locs hw hS => ?_)
                      clear hc
                      refine lv_aload_n hx hb dX11_drawn_97 rfl (lv_at hl 1 rfl) ?_
                      refine gFuseBox_trial hC hw wd349 dX11_drawn_98 ?_
                      obtain ⟨s_20, hc, hf⟩ := ok_bind hf
                      refine z_cV hC hl.1 hw hS (As := []) (rest := []) (m_X3_passMinute l E isH_27 hc) (sH isH_27).1 rfl gc149 gc52 ⟨Nat.le_of_ble_eq_true rfl, Nat.le_of_ble_eq_true rfl⟩ ⟨Nat.le_of_ble_eq_true rfl, Nat.le_of_ble_eq_true rfl⟩ rfl rfl (Nat.le_of_ble_eq_true rfl) dX11_drawn_101 (fun H locs hw hS => ?_)
                      clear hc
                      obtain ⟨v6_21, en, hf⟩ := ok_lt hf
                      refine lv_iinc (v := v6_21) (lv' := [(6, .int v6_21), (4, .long v4_18), (0, .ref (E.2.2.1 0)), (1, .int x1), (3, .int x3)]) hx hb dX11_drawn_104 hl (k := 4) rfl (by rw [en]; rfl) (by decide) rfl (fun ls hl => ?_)
                      clear en
                      refine lv_goto (tgt := 70) hx hb dX11_drawn_107 (by decide) ?_
                      cases hf
                      exact ih70 _ _ _ (hi70 _ rfl) _ _ ls (lv_sub hl [2, 3, 4, 1, 0] rfl) hw hS
                exact L70 5000 _ _ _ hL70 _ _ ls (lv_sub hl [2, 3, 5, 1, 0] rfl) hw hS
              · have hf := hif.2 hcd
                clear hif
                exact J41 _ hf _ _ ls (lv_sub hl [] rfl) hw hS
  · have hf := hif.2 hcd
    clear hif
    refine lv_ldc (v := -1000002) hx hb hown (hts _ wd382) dX11_drawn_7 ?_
    exact z_iretE hC hlocks hw hS hf hr rfl dX11_drawn_9
set_option maxHeartbeats 4000000 in
set_option maxRecDepth 100000 in
theorem m_X11_noImage (l : Launch) (E : Ev) {x0 : Int32}  {s0 sz : St} {rz : Int32} (hf : f_X11_noImage x0 s0 = some (rz, sz)) : MM l E sh2 yX11_noImage cX11_noImage 1 (some .boolean) (rmd 1) [.int x0] s0 (some (.int rz)) sz := by
  unfold f_X11_noImage at hf
  refine z_enter (by decide +kernel) (Nat.le_of_ble_eq_true rfl) ?_
  intro p e s m args below meth c ls hC hr hlocks hw hS hl
  have hC : Cx p s m args c cX11_noImage 1 "FuseBox" E := hC
  obtain ⟨hx, hb, hml, hown, hts, hTB⟩ := id hC
  have hl : lv_has ls 1 [(0, .int x0)] := hl
  refine lv_iload_n hx hb dX11_noImage_0 rfl (lv_at hl 0 rfl) ?_
  obtain ⟨j14, ej14, hf⟩ := ok_lt hf
  have J14 : ∀ (k_1 : Int32) (s_2 : St), j14 k_1 s_2 = some (rz, sz) → ∀ (H : Heap) (locs : List Loc) (ls : Array Slot), lv_has ls 1 [] → World E sh2 s_2 H → va_S E.2.2.2 s.heap H locs → W p l e (rmd 1) s m args below meth c H locs 0 0 (MQ below (QW E sh2 (some (.int rz)) sz) args s 0 0 E.2.2.2) (F0 m 14 ls [.int k_1]) := by
    intro k_1 s_2 hf H locs ls hl hw hS
    subst ej14
    obtain ⟨hbo, hf⟩ := ok_chk hf
    exact z_iretE hC hlocks hw hS hf hr (narB hbo) dX11_noImage_14
  clear ej14
  obtain ⟨j9, ej9, hf⟩ := ok_lt hf
  have J9 : ∀ (s_3 : St), j9 s_3 = some (rz, sz) → ∀ (H : Heap) (locs : List Loc) (ls : Array Slot), lv_has ls 1 [] → World E sh2 s_3 H → va_S E.2.2.2 s.heap H locs → W p l e (rmd 1) s m args below meth c H locs 0 0 (MQ below (QW E sh2 (some (.int rz)) sz) args s 0 0 E.2.2.2) (F0 m 9 ls []) := by
    intro s_3 hf H locs ls hl hw hS
    subst ej9
    refine lv_iconst (v := 1) hx hb dX11_noImage_9 (by decide) ?_
    refine lv_goto (tgt := 14) hx hb dX11_noImage_10 (by decide) ?_
    exact J14 _ _ hf _ _ ls hl hw hS
  clear ej9
  have hif := ok_if hf
  refine lv_if_lt (tgt := 9) hx hb dX11_noImage_1 (by decide) (fun hcd => ?_) (fun hcd => ?_)
  · have hf := hif.1 hcd
    clear hif
    exact J9 _ hf _ _ ls (lv_sub hl [] rfl) hw hS
  · have hf := hif.2 hcd
    clear hif
    refine lv_iload_n hx hb dX11_noImage_4 rfl (lv_at hl 0 rfl) ?_
    refine lv_iconst (v := 2) hx hb dX11_noImage_5 (by decide) ?_
    have hif := ok_if hf
    refine lv_icmp_lt (tgt := 13) hx hb dX11_noImage_6 (by decide) (fun hcd => ?_) (fun hcd => ?_)
    · have hf := hif.1 hcd
      clear hif
      refine lv_iconst (v := 0) hx hb dX11_noImage_13 (by decide) ?_
      exact J14 _ _ hf _ _ ls (lv_sub hl [] rfl) hw hS
    · have hf := hif.2 hcd
      clear hif
      exact J9 _ hf _ _ ls (lv_sub hl [] rfl) hw hS
set_option maxHeartbeats 4000000 in
set_option maxRecDepth 100000 in
theorem m_X11_image (l : Launch) (E : Ev) {x1 : Int32}  {s0 sz : St} {rz : Int32} (hf : f_X11_image x1 s0 = some (rz, sz)) : MM l E sh2 yX11_image cX11_image 2 (some .int) (rmd 2) [.ref (E.2.2.1 0), .int x1] s0 (some (.int rz)) sz := by
  unfold f_X11_image at hf
  refine z_enter (by decide +kernel) (Nat.le_of_ble_eq_true rfl) ?_
  intro p e s m args below meth c ls hC hr hlocks hw hS hl
  have hC : Cx p s m args c cX11_image 2 "FuseBox" E := hC
  obtain ⟨hx, hb, hml, hown, hts, hTB⟩ := id hC
  have hl : lv_has ls 2 [(0, .ref (E.2.2.1 0)), (1, .int x1)] := hl
  refine lv_iload_n hx hb dX11_image_0 rfl (lv_at hl 1 rfl) ?_
  obtain ⟨r_2, s_1, hc, hf⟩ := ok_bd hf
  refine z_cS hC hl.1 hw hS (As := [.int x1]) (rest := []) (m_X11_noImage l E  hc) gc198 gc199 ⟨Nat.le_of_ble_eq_true rfl, Nat.le_of_ble_eq_true rfl⟩ ⟨Nat.le_of_ble_eq_true rfl, Nat.le_of_ble_eq_true rfl⟩ rfl rfl (Nat.le_of_ble_eq_true rfl) dX11_image_1 (fun H locs hw hS => ?_)
  clear hc
  have hif := ok_if hf
  refine lv_if_eq (tgt := 10) hx hb dX11_image_4 (by decide) (fun hcd => ?_) (fun hcd => ?_)
  · have hf := hif.1 hcd
    clear hif
    refine lv_aload_n hx hb dX11_image_10 rfl (lv_at hl 0 rfl) ?_
    obtain ⟨r_4, s_3, hc, hf⟩ := ok_bd hf
    refine z_cV hC hl.1 hw hS (As := []) (rest := []) (m_X11_noHouse l E  hc) rfl rfl gc143 gc144 ⟨Nat.le_of_ble_eq_true rfl, Nat.le_of_ble_eq_true rfl⟩ ⟨Nat.le_of_ble_eq_true rfl, Nat.le_of_ble_eq_true rfl⟩ rfl rfl (Nat.le_of_ble_eq_true rfl) dX11_image_11 (fun H locs hw hS => ?_)
    clear hc
    have hif := ok_if hf
    refine lv_if_eq (tgt := 20) hx hb dX11_image_14 (by decide) (fun hcd => ?_) (fun hcd => ?_)
    · have hf := hif.1 hcd
      clear hif
      refine lv_aload_n hx hb dX11_image_20 rfl (lv_at hl 0 rfl) ?_
      refine gFuseBox_images hC hw wd490 dX11_image_21 ?_
      refine lv_iload_n hx hb dX11_image_24 rfl (lv_at hl 1 rfl) ?_
      obtain ⟨hin, hf⟩ := ok_chk hf
      refine z_aimg hC hw hin dX11_image_25 ?_
      obtain ⟨a_5, en, hf⟩ := ok_lt hf
      have ta_5 : isH a_5 := by rw [en]; exact (imgA_ok hin).2
      refine z_nma en ?_
      clear en
      refine lv_aload_n hx hb dX11_image_26 rfl (lv_at hl 0 rfl) ?_
      refine gFuseBox_now hC hw wd354 dX11_image_27 ?_
      obtain ⟨s_6, hc, hf⟩ := ok_bind hf
      refine z_cV hC hl.1 hw hS (As := [.ref (E.2.2.1 19)]) (rest := []) (m_X3_become l E ta_5 isH_19 hc) (sH ta_5).1 rfl gc139 gc140 ⟨Nat.le_of_ble_eq_true rfl, Nat.le_of_ble_eq_true rfl⟩ ⟨Nat.le_of_ble_eq_true rfl, Nat.le_of_ble_eq_true rfl⟩ rfl rfl (Nat.le_of_ble_eq_true rfl) dX11_image_30 (fun H locs hw hS => ?_)
      clear hc
      refine lv_iconst (v := 1) hx hb dX11_image_33 (by decide) ?_
      exact z_iretE hC hlocks hw hS hf hr rfl dX11_image_34
    · have hf := hif.2 hcd
      clear hif
      refine lv_ldc (v := -1000002) hx hb hown (hts _ wd382) dX11_image_17 ?_
      exact z_iretE hC hlocks hw hS hf hr rfl dX11_image_19
  · have hf := hif.2 hcd
    clear hif
    refine lv_ldc (v := -1000001) hx hb hown (hts _ wd305) dX11_image_7 ?_
    exact z_iretE hC hlocks hw hS hf hr rfl dX11_image_9
set_option maxHeartbeats 4000000 in
set_option maxRecDepth 100000 in
theorem m_X11_restore (l : Launch) (E : Ev) {x1 : Int32}  {s0 sz : St} {rz : Int32} (hf : f_X11_restore x1 s0 = some (rz, sz)) : MM l E sh2 yX11_restore cX11_restore 2 (some .int) (rmd 2) [.ref (E.2.2.1 0), .int x1] s0 (some (.int rz)) sz := by
  unfold f_X11_restore at hf
  refine z_enter (by decide +kernel) (Nat.le_of_ble_eq_true rfl) ?_
  intro p e s m args below meth c ls hC hr hlocks hw hS hl
  have hC : Cx p s m args c cX11_restore 2 "FuseBox" E := hC
  obtain ⟨hx, hb, hml, hown, hts, hTB⟩ := id hC
  have hl : lv_has ls 2 [(0, .ref (E.2.2.1 0)), (1, .int x1)] := hl
  refine lv_iload_n hx hb dX11_restore_0 rfl (lv_at hl 1 rfl) ?_
  obtain ⟨r_2, s_1, hc, hf⟩ := ok_bd hf
  refine z_cS hC hl.1 hw hS (As := [.int x1]) (rest := []) (m_X11_noImage l E  hc) gc198 gc199 ⟨Nat.le_of_ble_eq_true rfl, Nat.le_of_ble_eq_true rfl⟩ ⟨Nat.le_of_ble_eq_true rfl, Nat.le_of_ble_eq_true rfl⟩ rfl rfl (Nat.le_of_ble_eq_true rfl) dX11_restore_1 (fun H locs hw hS => ?_)
  clear hc
  have hif := ok_if hf
  refine lv_if_eq (tgt := 10) hx hb dX11_restore_4 (by decide) (fun hcd => ?_) (fun hcd => ?_)
  · have hf := hif.1 hcd
    clear hif
    refine lv_aload_n hx hb dX11_restore_10 rfl (lv_at hl 0 rfl) ?_
    refine gFuseBox_images hC hw wd490 dX11_restore_11 ?_
    refine lv_iload_n hx hb dX11_restore_14 rfl (lv_at hl 1 rfl) ?_
    obtain ⟨hin, hf⟩ := ok_chk hf
    refine z_aimg hC hw hin dX11_restore_15 ?_
    obtain ⟨a_3, en, hf⟩ := ok_lt hf
    have ta_3 : isH a_3 := by rw [en]; exact (imgA_ok hin).2
    refine z_nma en ?_
    clear en
    refine gHouse_lines hC hw ta_3 wd363 dX11_restore_16 ?_
    have hif := ok_if hf
    refine lv_if_ne (tgt := 25) hx hb dX11_restore_19 (by decide) (fun hcd => ?_) (fun hcd => ?_)
    · have hf := hif.1 hcd
      clear hif
      refine lv_aload_n hx hb dX11_restore_25 rfl (lv_at hl 0 rfl) ?_
      refine gFuseBox_now hC hw wd354 dX11_restore_26 ?_
      refine lv_aload_n hx hb dX11_restore_29 rfl (lv_at hl 0 rfl) ?_
      refine gFuseBox_images hC hw wd490 dX11_restore_30 ?_
      refine lv_iload_n hx hb dX11_restore_33 rfl (lv_at hl 1 rfl) ?_
      obtain ⟨hin, hf⟩ := ok_chk hf
      refine z_aimg hC hw hin dX11_restore_34 ?_
      obtain ⟨a_4, en, hf⟩ := ok_lt hf
      have ta_4 : isH a_4 := by rw [en]; exact (imgA_ok hin).2
      refine z_nma en ?_
      clear en
      obtain ⟨s_5, hc, hf⟩ := ok_bind hf
      refine z_cV hC hl.1 hw hS (As := [.ref (E.2.2.1 a_4)]) (rest := []) (m_X3_become l E isH_19 ta_4 hc) (sH isH_19).1 rfl gc139 gc140 ⟨Nat.le_of_ble_eq_true rfl, Nat.le_of_ble_eq_true rfl⟩ ⟨Nat.le_of_ble_eq_true rfl, Nat.le_of_ble_eq_true rfl⟩ rfl rfl (Nat.le_of_ble_eq_true rfl) dX11_restore_35 (fun H locs hw hS => ?_)
      clear hc
      refine lv_aload_n hx hb dX11_restore_38 rfl (lv_at hl 0 rfl) ?_
      obtain ⟨s_6, hc, hf⟩ := ok_bind hf
      refine z_cV hC hl.1 hw hS (As := []) (rest := []) (m_X11_forgetActs l E  hc) rfl rfl gc141 gc142 ⟨Nat.le_of_ble_eq_true rfl, Nat.le_of_ble_eq_true rfl⟩ ⟨Nat.le_of_ble_eq_true rfl, Nat.le_of_ble_eq_true rfl⟩ rfl rfl (Nat.le_of_ble_eq_true rfl) dX11_restore_39 (fun H locs hw hS => ?_)
      clear hc
      refine lv_iconst (v := 1) hx hb dX11_restore_42 (by decide) ?_
      exact z_iretE hC hlocks hw hS hf hr rfl dX11_restore_43
    · have hf := hif.2 (fun q => q hcd)
      clear hif
      refine lv_ldc (v := -1000002) hx hb hown (hts _ wd382) dX11_restore_22 ?_
      exact z_iretE hC hlocks hw hS hf hr rfl dX11_restore_24
  · have hf := hif.2 hcd
    clear hif
    refine lv_ldc (v := -1000001) hx hb hown (hts _ wd305) dX11_restore_7 ?_
    exact z_iretE hC hlocks hw hS hf hr rfl dX11_restore_9
set_option maxHeartbeats 4000000 in
set_option maxRecDepth 100000 in
theorem m_X11_kind (l : Launch) (E : Ev) {x1 : Int32}  {s0 sz : St} {rz : Int32} (hf : f_X11_kind x1 s0 = some (rz, sz)) : MM l E sh2 yX11_kind cX11_kind 2 (some .int) (rmd 2) [.ref (E.2.2.1 0), .int x1] s0 (some (.int rz)) sz := by
  unfold f_X11_kind at hf
  refine z_enter (by decide +kernel) (Nat.le_of_ble_eq_true rfl) ?_
  intro p e s m args below meth c ls hC hr hlocks hw hS hl
  have hC : Cx p s m args c cX11_kind 2 "FuseBox" E := hC
  obtain ⟨hx, hb, hml, hown, hts, hTB⟩ := id hC
  have hl : lv_has ls 2 [(0, .ref (E.2.2.1 0)), (1, .int x1)] := hl
  refine lv_aload_n hx hb dX11_kind_0 rfl (lv_at hl 0 rfl) ?_
  refine lv_iload_n hx hb dX11_kind_1 rfl (lv_at hl 1 rfl) ?_
  obtain ⟨r_2, s_1, hc, hf⟩ := ok_bd hf
  refine z_cV hC hl.1 hw hS (As := [.int x1]) (rest := []) (m_X11_noLine l E  hc) rfl rfl gc156 gc157 ⟨Nat.le_of_ble_eq_true rfl, Nat.le_of_ble_eq_true rfl⟩ ⟨Nat.le_of_ble_eq_true rfl, Nat.le_of_ble_eq_true rfl⟩ rfl rfl (Nat.le_of_ble_eq_true rfl) dX11_kind_2 (fun H locs hw hS => ?_)
  clear hc
  have hif := ok_if hf
  refine lv_if_eq (tgt := 11) hx hb dX11_kind_5 (by decide) (fun hcd => ?_) (fun hcd => ?_)
  · have hf := hif.1 hcd
    clear hif
    refine lv_aload_n hx hb dX11_kind_11 rfl (lv_at hl 0 rfl) ?_
    refine gFuseBox_now hC hw wd354 dX11_kind_12 ?_
    refine gHouse_kind hC hw isH_19 wd491 dX11_kind_15 ?_
    refine lv_iload_n hx hb dX11_kind_18 rfl (lv_at hl 1 rfl) ?_
    obtain ⟨hin, hf⟩ := ok_chk hf
    refine z_iald hC hw (sH isH_19).2.1 hin dX11_kind_19 ?_
    exact z_iretE hC hlocks hw hS hf hr rfl dX11_kind_20
  · have hf := hif.2 hcd
    clear hif
    refine lv_ldc (v := -1000001) hx hb hown (hts _ wd305) dX11_kind_8 ?_
    exact z_iretE hC hlocks hw hS hf hr rfl dX11_kind_10
set_option maxHeartbeats 4000000 in
set_option maxRecDepth 100000 in
theorem m_X11_isA (l : Launch) (E : Ev) {a0 : Nat} {x1 : Int32}  {s0 sz : St} {rz : Int32} (hf : f_X11_isA a0 x1 s0 = some (rz, sz)) : MM l E sh2 yX11_isA cX11_isA 2 (some .boolean) (rmd 1) [.ref (E.2.2.1 a0), .int x1] s0 (some (.int rz)) sz := by
  unfold f_X11_isA at hf
  refine z_enter (by decide +kernel) (Nat.le_of_ble_eq_true rfl) ?_
  intro p e s m args below meth c ls hC hr hlocks hw hS hl
  have hC : Cx p s m args c cX11_isA 2 "FuseBox" E := hC
  obtain ⟨hx, hb, hml, hown, hts, hTB⟩ := id hC
  have hl : lv_has ls 2 [(0, .ref (E.2.2.1 a0)), (1, .int x1)] := hl
  refine lv_iload_n hx hb dX11_isA_0 rfl (lv_at hl 1 rfl) ?_
  have hif := ok_if hf
  by_cases hk0 : x1 = 0
  · have hf := hif.1 hk0
    clear hif
    refine lv_tableIn (off := 35) (tgt := 36) hx hb dX11_isA_1 (by rw [hk0]; decide) (by rw [hk0]; decide) (by rw [hk0]; rfl) (by decide) ?_
    refine lv_iconst (v := 1) hx hb dX11_isA_36 (by decide) ?_
    exact z_iretE hC hlocks hw hS hf hr (by decide) dX11_isA_37
  replace hf := hif.2 hk0
  clear hif
  have hif := ok_if hf
  by_cases hk1 : x1 = 1
  · have hf := hif.1 hk1
    clear hif
    refine lv_tableIn (off := 37) (tgt := 38) hx hb dX11_isA_1 (by rw [hk1]; decide) (by rw [hk1]; decide) (by rw [hk1]; rfl) (by decide) ?_
    refine lv_aload_n hx hb dX11_isA_38 rfl (lv_at hl 0 rfl) ?_
    obtain ⟨r_1, hci, hf⟩ := ok_bind hf
    refine z_ins14 hC hw hci wd492 dX11_isA_39 ?_
    obtain ⟨hbo, hf⟩ := ok_chk hf
    exact z_iretE hC hlocks hw hS hf hr (narB hbo) dX11_isA_42
  replace hf := hif.2 hk1
  clear hif
  have hif := ok_if hf
  by_cases hk2 : x1 = 2
  · have hf := hif.1 hk2
    clear hif
    refine lv_tableIn (off := 42) (tgt := 43) hx hb dX11_isA_1 (by rw [hk2]; decide) (by rw [hk2]; decide) (by rw [hk2]; rfl) (by decide) ?_
    refine lv_aload_n hx hb dX11_isA_43 rfl (lv_at hl 0 rfl) ?_
    obtain ⟨r_2, hci, hf⟩ := ok_bind hf
    refine z_ins15 hC hw hci wd493 dX11_isA_44 ?_
    obtain ⟨hbo, hf⟩ := ok_chk hf
    exact z_iretE hC hlocks hw hS hf hr (narB hbo) dX11_isA_47
  replace hf := hif.2 hk2
  clear hif
  have hif := ok_if hf
  by_cases hk3 : x1 = 3
  · have hf := hif.1 hk3
    clear hif
    refine lv_tableIn (off := 47) (tgt := 48) hx hb dX11_isA_1 (by rw [hk3]; decide) (by rw [hk3]; decide) (by rw [hk3]; rfl) (by decide) ?_
    refine lv_aload_n hx hb dX11_isA_48 rfl (lv_at hl 0 rfl) ?_
    obtain ⟨r_3, hci, hf⟩ := ok_bind hf
    refine z_ins16 hC hw hci wd494 dX11_isA_49 ?_
    obtain ⟨hbo, hf⟩ := ok_chk hf
    exact z_iretE hC hlocks hw hS hf hr (narB hbo) dX11_isA_52
  replace hf := hif.2 hk3
  clear hif
  have hif := ok_if hf
  by_cases hk4 : x1 = 4
  · have hf := hif.1 hk4
    clear hif
    refine lv_tableIn (off := 52) (tgt := 53) hx hb dX11_isA_1 (by rw [hk4]; decide) (by rw [hk4]; decide) (by rw [hk4]; rfl) (by decide) ?_
    refine lv_aload_n hx hb dX11_isA_53 rfl (lv_at hl 0 rfl) ?_
    obtain ⟨r_4, hci, hf⟩ := ok_bind hf
    refine z_ins17 hC hw hci wd495 dX11_isA_54 ?_
    obtain ⟨hbo, hf⟩ := ok_chk hf
    exact z_iretE hC hlocks hw hS hf hr (narB hbo) dX11_isA_57
  replace hf := hif.2 hk4
  clear hif
  refine lv_tableOut (tgt := 58) hx hb dX11_isA_1 (by have q0 := lv_neT hk0 (by decide : (0 : Int32).toInt = 0); have q1 := lv_neT hk1 (by decide : (1 : Int32).toInt = 1); have q2 := lv_neT hk2 (by decide : (2 : Int32).toInt = 2); have q3 := lv_neT hk3 (by decide : (3 : Int32).toInt = 3); have q4 := lv_neT hk4 (by decide : (4 : Int32).toInt = 4); omega) (by decide) ?_
  refine lv_aload_n hx hb dX11_isA_58 rfl (lv_at hl 0 rfl) ?_
  obtain ⟨r_5, hci, hf⟩ := ok_bind hf
  refine z_ins18 hC hw hci wd496 dX11_isA_59 ?_
  obtain ⟨hbo, hf⟩ := ok_chk hf
  exact z_iretE hC hlocks hw hS hf hr (narB hbo) dX11_isA_62
set_option maxHeartbeats 4000000 in
set_option maxRecDepth 100000 in
theorem m_X11_as (l : Launch) (E : Ev) {x1 : Int32} {x2 : Int32}  {s0 sz : St} {rz : Int32} (hf : f_X11_as x1 x2 s0 = some (rz, sz)) : MM l E sh2 yX11_as cX11_as 3 (some .int) (rmd 2) [.ref (E.2.2.1 0), .int x1, .int x2] s0 (some (.int rz)) sz := by
  unfold f_X11_as at hf
  refine z_enter (by decide +kernel) (Nat.le_of_ble_eq_true rfl) ?_
  intro p e s m args below meth c ls hC hr hlocks hw hS hl
  have hC : Cx p s m args c cX11_as 3 "FuseBox" E := hC
  obtain ⟨hx, hb, hml, hown, hts, hTB⟩ := id hC
  have hl : lv_has ls 3 [(0, .ref (E.2.2.1 0)), (1, .int x1), (2, .int x2)] := hl
  refine lv_aload_n hx hb dX11_as_0 rfl (lv_at hl 0 rfl) ?_
  refine lv_iload_n hx hb dX11_as_1 rfl (lv_at hl 1 rfl) ?_
  obtain ⟨r_2, s_1, hc, hf⟩ := ok_bd hf
  refine z_cV hC hl.1 hw hS (As := [.int x1]) (rest := []) (m_X11_noLine l E  hc) rfl rfl gc156 gc157 ⟨Nat.le_of_ble_eq_true rfl, Nat.le_of_ble_eq_true rfl⟩ ⟨Nat.le_of_ble_eq_true rfl, Nat.le_of_ble_eq_true rfl⟩ rfl rfl (Nat.le_of_ble_eq_true rfl) dX11_as_2 (fun H locs hw hS => ?_)
  clear hc
  obtain ⟨j17, ej17, hf⟩ := ok_lt hf
  have J17 : ∀ (s_3 : St), j17 s_3 = some (rz, sz) → ∀ (H : Heap) (locs : List Loc) (ls : Array Slot), lv_has ls 3 [] → World E sh2 s_3 H → va_S E.2.2.2 s.heap H locs → W p l e (rmd 2) s m args below meth c H locs 0 0 (MQ below (QW E sh2 (some (.int rz)) sz) args s 0 0 E.2.2.2) (F0 m 17 ls []) := by
    intro s_3 hf H locs ls hl hw hS
    subst ej17
    refine lv_ldc (v := -1000001) hx hb hown (hts _ wd305) dX11_as_17 ?_
    exact z_iretE hC hlocks hw hS hf hr rfl dX11_as_19
  clear ej17
  have hif := ok_if hf
  refine lv_if_ne (tgt := 17) hx hb dX11_as_5 (by decide) (fun hcd => ?_) (fun hcd => ?_)
  · have hf := hif.1 hcd
    clear hif
    exact J17 _ hf _ _ ls (lv_sub hl [] rfl) hw hS
  · have hf := hif.2 (fun q => q hcd)
    clear hif
    refine lv_iload_n hx hb dX11_as_8 rfl (lv_at hl 2 rfl) ?_
    have hif := ok_if hf
    refine lv_if_lt (tgt := 17) hx hb dX11_as_9 (by decide) (fun hcd => ?_) (fun hcd => ?_)
    · have hf := hif.1 hcd
      clear hif
      exact J17 _ hf _ _ ls (lv_sub hl [] rfl) hw hS
    · have hf := hif.2 hcd
      clear hif
      refine lv_iload_n hx hb dX11_as_12 rfl (lv_at hl 2 rfl) ?_
      refine lv_iconst (v := 5) hx hb dX11_as_13 (by decide) ?_
      have hif := ok_if hf
      refine lv_icmp_le (tgt := 20) hx hb dX11_as_14 (by decide) (fun hcd => ?_) (fun hcd => ?_)
      · have hf := hif.1 hcd
        clear hif
        refine lv_aload_n hx hb dX11_as_20 rfl (lv_at hl 0 rfl) ?_
        refine gFuseBox_now hC hw wd354 dX11_as_21 ?_
        refine lv_iload_n hx hb dX11_as_24 rfl (lv_at hl 1 rfl) ?_
        obtain ⟨a_5, s_4, hc, hf⟩ := ok_bd hf
        refine z_cV hC hl.1 hw hS (As := [.int x1]) (rest := []) (m_X3_fuseOf l E isH_19 hc) (sH isH_19).1 rfl gc200 gc36 ⟨Nat.le_of_ble_eq_true rfl, Nat.le_of_ble_eq_true rfl⟩ ⟨Nat.le_of_ble_eq_true rfl, Nat.le_of_ble_eq_true rfl⟩ rfl rfl (Nat.le_of_ble_eq_true rfl) dX11_as_25 (fun H locs hw hS => ?_)
        clear hc
        refine lv_iload_n hx hb dX11_as_28 rfl (lv_at hl 2 rfl) ?_
        obtain ⟨r_7, s_6, hc, hf⟩ := ok_bd hf
        refine z_cS hC hl.1 hw hS (As := [.ref (E.2.2.1 a_5), .int x2]) (rest := []) (m_X11_isA l E  hc) gc201 gc202 ⟨Nat.le_of_ble_eq_true rfl, Nat.le_of_ble_eq_true rfl⟩ ⟨Nat.le_of_ble_eq_true rfl, Nat.le_of_ble_eq_true rfl⟩ rfl rfl (Nat.le_of_ble_eq_true rfl) dX11_as_29 (fun H locs hw hS => ?_)
        clear hc
        have hif := ok_if hf
        refine lv_if_ne (tgt := 41) hx hb dX11_as_32 (by decide) (fun hcd => ?_) (fun hcd => ?_)
        · have hf := hif.1 hcd
          clear hif
          refine lv_aload_n hx hb dX11_as_41 rfl (lv_at hl 0 rfl) ?_
          refine lv_iload_n hx hb dX11_as_42 rfl (lv_at hl 1 rfl) ?_
          obtain ⟨r_9, s_8, hc, hf⟩ := ok_bd hf
          refine z_cV hC hl.1 hw hS (As := [.int x1]) (rest := []) (m_X11_fine l E  hc) rfl rfl gc123 gc124 ⟨Nat.le_of_ble_eq_true rfl, Nat.le_of_ble_eq_true rfl⟩ ⟨Nat.le_of_ble_eq_true rfl, Nat.le_of_ble_eq_true rfl⟩ rfl rfl (Nat.le_of_ble_eq_true rfl) dX11_as_43 (fun H locs hw hS => ?_)
          clear hc
          exact z_iretE hC hlocks hw hS hf hr rfl dX11_as_46
        · have hf := hif.2 (fun q => q hcd)
          clear hif
          refine lv_aload_n hx hb dX11_as_35 rfl (lv_at hl 0 rfl) ?_
          refine lv_iconst (v := 3) hx hb dX11_as_36 (by decide) ?_
          obtain ⟨r_11, s_10, hc, hf⟩ := ok_bd hf
          refine z_cV hC hl.1 hw hS (As := [.int (3 : Int32)]) (rest := []) (m_X11_found l E  hc) rfl rfl gc125 gc126 ⟨Nat.le_of_ble_eq_true rfl, Nat.le_of_ble_eq_true rfl⟩ ⟨Nat.le_of_ble_eq_true rfl, Nat.le_of_ble_eq_true rfl⟩ rfl rfl (Nat.le_of_ble_eq_true rfl) dX11_as_37 (fun H locs hw hS => ?_)
          clear hc
          exact z_iretE hC hlocks hw hS hf hr rfl dX11_as_40
      · have hf := hif.2 hcd
        clear hif
        exact J17 _ hf _ _ ls (lv_sub hl [] rfl) hw hS
set_option maxHeartbeats 4000000 in
set_option maxRecDepth 100000 in
theorem m_X11_ask (l : Launch) (E : Ev) {x1 : Int32} {x2 : Int32}  {s0 sz : St} {rz : Int32} (hf : f_X11_ask x1 x2 s0 = some (rz, sz)) : MM l E sh2 yX11_ask cX11_ask 4 (some .int) (rmd 7) [.ref (E.2.2.1 0), .int x1, .int x2] s0 (some (.int rz)) sz := by
  unfold f_X11_ask at hf
  refine z_enter (by decide +kernel) (Nat.le_of_ble_eq_true rfl) ?_
  intro p e s m args below meth c ls hC hr hlocks hw hS hl
  have hC : Cx p s m args c cX11_ask 4 "FuseBox" E := hC
  obtain ⟨hx, hb, hml, hown, hts, hTB⟩ := id hC
  have hl : lv_has ls 4 [(0, .ref (E.2.2.1 0)), (1, .int x1), (2, .int x2)] := hl
  refine lv_aload_n hx hb dX11_ask_0 rfl (lv_at hl 0 rfl) ?_
  refine lv_iload_n hx hb dX11_ask_1 rfl (lv_at hl 1 rfl) ?_
  obtain ⟨r_2, s_1, hc, hf⟩ := ok_bd hf
  refine z_cV hC hl.1 hw hS (As := [.int x1]) (rest := []) (m_X11_noLine l E  hc) rfl rfl gc156 gc157 ⟨Nat.le_of_ble_eq_true rfl, Nat.le_of_ble_eq_true rfl⟩ ⟨Nat.le_of_ble_eq_true rfl, Nat.le_of_ble_eq_true rfl⟩ rfl rfl (Nat.le_of_ble_eq_true rfl) dX11_ask_2 (fun H locs hw hS => ?_)
  clear hc
  obtain ⟨j17, ej17, hf⟩ := ok_lt hf
  have J17 : ∀ (s_3 : St), j17 s_3 = some (rz, sz) → ∀ (H : Heap) (locs : List Loc) (ls : Array Slot), lv_has ls 4 [] → World E sh2 s_3 H → va_S E.2.2.2 s.heap H locs → W p l e (rmd 7) s m args below meth c H locs 0 0 (MQ below (QW E sh2 (some (.int rz)) sz) args s 0 0 E.2.2.2) (F0 m 17 ls []) := by
    intro s_3 hf H locs ls hl hw hS
    subst ej17
    refine lv_ldc (v := -1000001) hx hb hown (hts _ wd305) dX11_ask_17 ?_
    exact z_iretE hC hlocks hw hS hf hr rfl dX11_ask_19
  clear ej17
  have hif := ok_if hf
  refine lv_if_ne (tgt := 17) hx hb dX11_ask_5 (by decide) (fun hcd => ?_) (fun hcd => ?_)
  · have hf := hif.1 hcd
    clear hif
    exact J17 _ hf _ _ ls (lv_sub hl [] rfl) hw hS
  · have hf := hif.2 (fun q => q hcd)
    clear hif
    refine lv_iload_n hx hb dX11_ask_8 rfl (lv_at hl 2 rfl) ?_
    have hif := ok_if hf
    refine lv_if_lt (tgt := 17) hx hb dX11_ask_9 (by decide) (fun hcd => ?_) (fun hcd => ?_)
    · have hf := hif.1 hcd
      clear hif
      exact J17 _ hf _ _ ls (lv_sub hl [] rfl) hw hS
    · have hf := hif.2 hcd
      clear hif
      refine lv_iload_n hx hb dX11_ask_12 rfl (lv_at hl 2 rfl) ?_
      refine lv_iconst (v := 1) hx hb dX11_ask_13 (by decide) ?_
      have hif := ok_if hf
      refine lv_icmp_le (tgt := 20) hx hb dX11_ask_14 (by decide) (fun hcd => ?_) (fun hcd => ?_)
      · have hf := hif.1 hcd
        clear hif
        refine lv_aload_n hx hb dX11_ask_20 rfl (lv_at hl 0 rfl) ?_
        refine gFuseBox_trace hC hw wd501 dX11_ask_21 ?_
        obtain ⟨s_4, hc, hf⟩ := ok_bind hf
        refine z_cV hC hl.1 hw hS (As := []) (rest := []) (m_X9_empty l E  hc) rfl rfl gc203 gc204 ⟨Nat.le_of_ble_eq_true rfl, Nat.le_of_ble_eq_true rfl⟩ ⟨Nat.le_of_ble_eq_true rfl, Nat.le_of_ble_eq_true rfl⟩ rfl rfl (Nat.le_of_ble_eq_true rfl) dX11_ask_24 (fun H locs hw hS => ?_)
        clear hc
        refine lv_aload_n hx hb dX11_ask_27 rfl (lv_at hl 0 rfl) ?_
        refine gFuseBox_now hC hw wd354 dX11_ask_28 ?_
        refine lv_iload_n hx hb dX11_ask_31 rfl (lv_at hl 1 rfl) ?_
        obtain ⟨a_6, s_5, hc, hf⟩ := ok_bd hf
        refine z_cV hC hl.1 hw hS (As := [.int x1]) (rest := []) (m_X3_fuseOf l E isH_19 hc) (sH isH_19).1 rfl gc200 gc36 ⟨Nat.le_of_ble_eq_true rfl, Nat.le_of_ble_eq_true rfl⟩ ⟨Nat.le_of_ble_eq_true rfl, Nat.le_of_ble_eq_true rfl⟩ rfl rfl (Nat.le_of_ble_eq_true rfl) dX11_ask_32 (fun H locs hw hS => ?_)
        clear hc
        refine lv_astore_n (lv' := [(3, .ref (E.2.2.1 a_6)), (0, .ref (E.2.2.1 0)), (1, .int x1), (2, .int x2)]) hx hb dX11_ask_35 rfl hl (by decide) rfl (fun ls hl => ?_)
        refine lv_iload_n hx hb dX11_ask_36 rfl (lv_at hl 3 rfl) ?_
        obtain ⟨j69, ej69, hf⟩ := ok_lt hf
        have J69 : ∀ (k_7 : Int32) (s_8 : St), j69 k_7 s_8 = some (rz, sz) → ∀ (H : Heap) (locs : List Loc) (ls : Array Slot), lv_has ls 4 [] → World E sh2 s_8 H → va_S E.2.2.2 s.heap H locs → W p l e (rmd 7) s m args below meth c H locs 0 0 (MQ below (QW E sh2 (some (.int rz)) sz) args s 0 0 E.2.2.2) (F0 m 69 ls [.int k_7]) := by
          intro k_7 s_8 hf H locs ls hl hw hS
          subst ej69
          exact z_iretE hC hlocks hw hS hf hr rfl dX11_ask_69
        clear ej69
        have hif := ok_if hf
        refine lv_if_ne (tgt := 56) hx hb dX11_ask_37 (by decide) (fun hcd => ?_) (fun hcd => ?_)
        · have hf := hif.1 hcd
          clear hif
          refine lv_aload_n hx hb dX11_ask_56 rfl (lv_at hl 0 rfl) ?_
          refine lv_aload_n hx hb dX11_ask_57 rfl (lv_at hl 1 rfl) ?_
          refine gFuseBox_now hC hw wd354 dX11_ask_58 ?_
          refine lv_iload_n hx hb dX11_ask_61 rfl (lv_at hl 2 rfl) ?_
          refine lv_aload_n hx hb dX11_ask_62 rfl (lv_at hl 1 rfl) ?_
          refine gFuseBox_trace hC hw wd501 dX11_ask_63 ?_
          obtain ⟨r_10, s_9, hc, hf⟩ := ok_bd hf
          suffices K : ∀ (H1 : Heap) (locs1 : List Loc), World E sh2 s_9 H1 → va_S E.2.2.2 s.heap H1 locs1 → W p l e (rmd 7) s m args below meth c H1 locs1 0 0 (MQ below (QW E sh2 (some (.int rz)) sz) args s 0 0 E.2.2.2) (F0 m 69 ls [.int r_10]) by
            unfold d_markOf at hc
            by_cases h14 : a_6 = 14
            · rw [if_pos h14] at hc
              subst h14
              exact z_cU hC hl.1 hw hS (As := [.ref (E.2.2.1 19), .int x1, .ref (E.2.2.1 11)]) (rest := []) (ci := 9) (ks := []) (m_X10_markOf_14 l E isH_19 hc) rfl rfl (C := "FuseBox$Wire") (va_cwO 3 hts gc205 rfl rfl rfl wd28 gc206 ⟨Nat.le_of_ble_eq_true rfl, Nat.le_of_ble_eq_true rfl⟩) ⟨Nat.le_of_ble_eq_true rfl, Nat.le_of_ble_eq_true rfl⟩ rfl rfl (Nat.le_of_ble_eq_true rfl) dX11_ask_66 K
            rw [if_neg h14] at hc
            by_cases h15 : a_6 = 15
            · rw [if_pos h15] at hc
              subst h15
              exact z_cU hC hl.1 hw hS (As := [.ref (E.2.2.1 19), .int x1, .ref (E.2.2.1 11)]) (rest := []) (ci := 7) (ks := []) (m_X8_markOf_15 l E isH_19 hc) rfl rfl (C := "FuseBox$Slow") (va_cwO 3 hts gc207 rfl rfl rfl wd28 gc206 ⟨Nat.le_of_ble_eq_true rfl, Nat.le_of_ble_eq_true rfl⟩) ⟨Nat.le_of_ble_eq_true rfl, Nat.le_of_ble_eq_true rfl⟩ rfl rfl (Nat.le_of_ble_eq_true rfl) dX11_ask_66 K
            rw [if_neg h15] at hc
            by_cases h16 : a_6 = 16
            · rw [if_pos h16] at hc
              subst h16
              exact z_cU hC hl.1 hw hS (As := [.ref (E.2.2.1 19), .int x1, .ref (E.2.2.1 11)]) (rest := []) (ci := 4) (ks := []) (m_X5_markOf_16 l E isH_19 hc) rfl rfl (C := "FuseBox$Quick") (va_cwO 3 hts gc208 rfl rfl rfl wd28 gc206 ⟨Nat.le_of_ble_eq_true rfl, Nat.le_of_ble_eq_true rfl⟩) ⟨Nat.le_of_ble_eq_true rfl, Nat.le_of_ble_eq_true rfl⟩ rfl rfl (Nat.le_of_ble_eq_true rfl) dX11_ask_66 K
            rw [if_neg h16] at hc
            by_cases h17 : a_6 = 17
            · rw [if_pos h17] at hc
              subst h17
              exact z_cU hC hl.1 hw hS (As := [.ref (E.2.2.1 19), .int x1, .ref (E.2.2.1 11)]) (rest := []) (ci := 0) (ks := []) (m_X0_markOf_17 l E isH_19 hc) rfl rfl (C := "FuseBox$Breaker") (va_cwO 3 hts gc209 rfl rfl rfl wd28 gc206 ⟨Nat.le_of_ble_eq_true rfl, Nat.le_of_ble_eq_true rfl⟩) ⟨Nat.le_of_ble_eq_true rfl, Nat.le_of_ble_eq_true rfl⟩ rfl rfl (Nat.le_of_ble_eq_true rfl) dX11_ask_66 K
            rw [if_neg h17] at hc
            by_cases h18 : a_6 = 18
            · rw [if_pos h18] at hc
              subst h18
              exact z_cU hC hl.1 hw hS (As := [.ref (E.2.2.1 19), .int x1, .ref (E.2.2.1 11)]) (rest := []) (ci := 1) (ks := []) (m_X0_markOf_18 l E isH_19 hc) rfl rfl (C := "FuseBox$Coil") (va_cwO 3 hts gc210 rfl rfl rfl wd28 gc206 ⟨Nat.le_of_ble_eq_true rfl, Nat.le_of_ble_eq_true rfl⟩) ⟨Nat.le_of_ble_eq_true rfl, Nat.le_of_ble_eq_true rfl⟩ rfl rfl (Nat.le_of_ble_eq_true rfl) dX11_ask_66 K
            rw [if_neg h18] at hc
            exact nz hc
          intro H locs hw hS
          clear hc
          exact J69 _ _ hf _ _ ls (lv_sub hl [] rfl) hw hS
        · have hf := hif.2 (fun q => q hcd)
          clear hif
          refine lv_aload_n hx hb dX11_ask_40 rfl (lv_at hl 0 rfl) ?_
          refine lv_aload_n hx hb dX11_ask_41 rfl (lv_at hl 1 rfl) ?_
          refine gFuseBox_now hC hw wd354 dX11_ask_42 ?_
          refine lv_iload_n hx hb dX11_ask_45 rfl (lv_at hl 2 rfl) ?_
          refine lv_aload_n hx hb dX11_ask_46 rfl (lv_at hl 1 rfl) ?_
          refine gFuseBox_trace hC hw wd501 dX11_ask_47 ?_
          obtain ⟨r_12, s_11, hc, hf⟩ := ok_bd hf
          suffices K : ∀ (H1 : Heap) (locs1 : List Loc), World E sh2 s_11 H1 → va_S E.2.2.2 s.heap H1 locs1 → W p l e (rmd 7) s m args below meth c H1 locs1 0 0 (MQ below (QW E sh2 (some (.int rz)) sz) args s 0 0 E.2.2.2) (F0 m 53 ls [.int r_12]) by
            unfold d_sizeOf at hc
            by_cases h14 : a_6 = 14
            · rw [if_pos h14] at hc
              subst h14
              exact z_cU hC hl.1 hw hS (As := [.ref (E.2.2.1 19), .int x1, .ref (E.2.2.1 11)]) (rest := []) (ci := 9) (ks := []) (m_X10_sizeOf_14 l E isH_19 hc) rfl rfl (C := "FuseBox$Wire") (va_cwO 3 hts gc211 rfl rfl rfl wd24 gc212 ⟨Nat.le_of_ble_eq_true rfl, Nat.le_of_ble_eq_true rfl⟩) ⟨Nat.le_of_ble_eq_true rfl, Nat.le_of_ble_eq_true rfl⟩ rfl rfl (Nat.le_of_ble_eq_true rfl) dX11_ask_50 K
            rw [if_neg h14] at hc
            by_cases h15 : a_6 = 15
            · rw [if_pos h15] at hc
              subst h15
              exact z_cU hC hl.1 hw hS (As := [.ref (E.2.2.1 19), .int x1, .ref (E.2.2.1 11)]) (rest := []) (ci := 7) (ks := []) (m_X8_sizeOf_15 l E isH_19 hc) rfl rfl (C := "FuseBox$Slow") (va_cwO 3 hts gc213 rfl rfl rfl wd24 gc212 ⟨Nat.le_of_ble_eq_true rfl, Nat.le_of_ble_eq_true rfl⟩) ⟨Nat.le_of_ble_eq_true rfl, Nat.le_of_ble_eq_true rfl⟩ rfl rfl (Nat.le_of_ble_eq_true rfl) dX11_ask_50 K
            rw [if_neg h15] at hc
            by_cases h16 : a_6 = 16
            · rw [if_pos h16] at hc
              subst h16
              exact z_cU hC hl.1 hw hS (As := [.ref (E.2.2.1 19), .int x1, .ref (E.2.2.1 11)]) (rest := []) (ci := 4) (ks := []) (m_X10_sizeOf_16 l E isH_19 hc) rfl rfl (C := "FuseBox$Quick") (va_cwO 3 hts gc214 rfl rfl rfl wd24 gc212 ⟨Nat.le_of_ble_eq_true rfl, Nat.le_of_ble_eq_true rfl⟩) ⟨Nat.le_of_ble_eq_true rfl, Nat.le_of_ble_eq_true rfl⟩ rfl rfl (Nat.le_of_ble_eq_true rfl) dX11_ask_50 K
            rw [if_neg h16] at hc
            by_cases h17 : a_6 = 17
            · rw [if_pos h17] at hc
              subst h17
              exact z_cU hC hl.1 hw hS (As := [.ref (E.2.2.1 19), .int x1, .ref (E.2.2.1 11)]) (rest := []) (ci := 0) (ks := []) (m_X0_sizeOf_17 l E isH_19 hc) rfl rfl (C := "FuseBox$Breaker") (va_cwO 3 hts gc215 rfl rfl rfl wd24 gc212 ⟨Nat.le_of_ble_eq_true rfl, Nat.le_of_ble_eq_true rfl⟩) ⟨Nat.le_of_ble_eq_true rfl, Nat.le_of_ble_eq_true rfl⟩ rfl rfl (Nat.le_of_ble_eq_true rfl) dX11_ask_50 K
            rw [if_neg h17] at hc
            by_cases h18 : a_6 = 18
            · rw [if_pos h18] at hc
              subst h18
              exact z_cU hC hl.1 hw hS (As := [.ref (E.2.2.1 19), .int x1, .ref (E.2.2.1 11)]) (rest := []) (ci := 1) (ks := []) (m_X1_sizeOf_18 l E isH_19 hc) rfl rfl (C := "FuseBox$Coil") (va_cwO 3 hts gc216 rfl rfl rfl wd24 gc212 ⟨Nat.le_of_ble_eq_true rfl, Nat.le_of_ble_eq_true rfl⟩) ⟨Nat.le_of_ble_eq_true rfl, Nat.le_of_ble_eq_true rfl⟩ rfl rfl (Nat.le_of_ble_eq_true rfl) dX11_ask_50 K
            rw [if_neg h18] at hc
            exact nz hc
          intro H locs hw hS
          clear hc
          refine lv_goto (tgt := 69) hx hb dX11_ask_53 (by decide) ?_
          exact J69 _ _ hf _ _ ls (lv_sub hl [] rfl) hw hS
      · have hf := hif.2 hcd
        clear hif
        exact J17 _ hf _ _ ls (lv_sub hl [] rfl) hw hS
set_option maxHeartbeats 4000000 in
set_option maxRecDepth 100000 in
theorem m_X11_trace (l : Launch) (E : Ev) {x1 : Int32}  {s0 sz : St} {rz : Int32} (hf : f_X11_trace x1 s0 = some (rz, sz)) : MM l E sh2 yX11_trace cX11_trace 2 (some .int) (rmd 1) [.ref (E.2.2.1 0), .int x1] s0 (some (.int rz)) sz := by
  unfold f_X11_trace at hf
  refine z_enter (by decide +kernel) (Nat.le_of_ble_eq_true rfl) ?_
  intro p e s m args below meth c ls hC hr hlocks hw hS hl
  have hC : Cx p s m args c cX11_trace 2 "FuseBox" E := hC
  obtain ⟨hx, hb, hml, hown, hts, hTB⟩ := id hC
  have hl : lv_has ls 2 [(0, .ref (E.2.2.1 0)), (1, .int x1)] := hl
  refine lv_iload_n hx hb dX11_trace_0 rfl (lv_at hl 1 rfl) ?_
  obtain ⟨j29, ej29, hf⟩ := ok_lt hf
  have J29 : ∀ (k_1 : Int32) (s_2 : St), j29 k_1 s_2 = some (rz, sz) → ∀ (H : Heap) (locs : List Loc) (ls : Array Slot), lv_has ls 2 [] → World E sh2 s_2 H → va_S E.2.2.2 s.heap H locs → W p l e (rmd 1) s m args below meth c H locs 0 0 (MQ below (QW E sh2 (some (.int rz)) sz) args s 0 0 E.2.2.2) (F0 m 29 ls [.int k_1]) := by
    intro k_1 s_2 hf H locs ls hl hw hS
    subst ej29
    exact z_iretE hC hlocks hw hS hf hr rfl dX11_trace_29
  clear ej29
  obtain ⟨j15, ej15, hf⟩ := ok_lt hf
  have J15 : ∀ (s_3 : St), j15 s_3 = some (rz, sz) → ∀ (H : Heap) (locs : List Loc) (ls : Array Slot), lv_has ls 2 [] → World E sh2 s_3 H → va_S E.2.2.2 s.heap H locs → W p l e (rmd 1) s m args below meth c H locs 0 0 (MQ below (QW E sh2 (some (.int rz)) sz) args s 0 0 E.2.2.2) (F0 m 15 ls []) := by
    intro s_3 hf H locs ls hl hw hS
    subst ej15
    refine lv_ldc (v := -1000000) hx hb hown (hts _ wd425) dX11_trace_15 ?_
    refine lv_goto (tgt := 29) hx hb dX11_trace_17 (by decide) ?_
    exact J29 _ _ hf _ _ ls hl hw hS
  clear ej15
  have hif := ok_if hf
  refine lv_if_lt (tgt := 15) hx hb dX11_trace_1 (by decide) (fun hcd => ?_) (fun hcd => ?_)
  · have hf := hif.1 hcd
    clear hif
    exact J15 _ hf _ _ ls (lv_sub hl [] rfl) hw hS
  · have hf := hif.2 hcd
    clear hif
    refine lv_iload_n hx hb dX11_trace_4 rfl (lv_at hl 1 rfl) ?_
    refine lv_aload_n hx hb dX11_trace_5 rfl (lv_at hl 0 rfl) ?_
    refine gFuseBox_trace hC hw wd501 dX11_trace_6 ?_
    refine gTrace_size hC hw wd522 dX11_trace_9 ?_
    have hif := ok_if hf
    refine lv_icmp_lt (tgt := 20) hx hb dX11_trace_12 (by decide) (fun hcd => ?_) (fun hcd => ?_)
    · have hf := hif.1 hcd
      clear hif
      refine lv_aload_n hx hb dX11_trace_20 rfl (lv_at hl 0 rfl) ?_
      refine gFuseBox_trace hC hw wd501 dX11_trace_21 ?_
      refine gTrace_bodies hC hw wd523 dX11_trace_24 ?_
      refine lv_iload_n hx hb dX11_trace_27 rfl (lv_at hl 1 rfl) ?_
      obtain ⟨hin, hf⟩ := ok_chk hf
      refine z_iald hC hw rfl hin dX11_trace_28 ?_
      exact J29 _ _ hf _ _ ls (lv_sub hl [] rfl) hw hS
    · have hf := hif.2 hcd
      clear hif
      exact J15 _ hf _ _ ls (lv_sub hl [] rfl) hw hS
set_option maxHeartbeats 4000000 in
set_option maxRecDepth 100000 in
theorem m_X11_rowsThere (l : Launch) (E : Ev)   {s0 sz : St} {rz : Int32} (hf : f_X11_rowsThere s0 = some (rz, sz)) : MM l E sh2 yX11_rowsThere cX11_rowsThere 3 (some .int) (rmd 2) [.ref (E.2.2.1 0)] s0 (some (.int rz)) sz := by
  unfold f_X11_rowsThere at hf
  refine z_enter (by decide +kernel) (Nat.le_of_ble_eq_true rfl) ?_
  intro p e s m args below meth c ls hC hr hlocks hw hS hl
  have hC : Cx p s m args c cX11_rowsThere 3 "FuseBox" E := hC
  obtain ⟨hx, hb, hml, hown, hts, hTB⟩ := id hC
  have hl : lv_has ls 3 [(0, .ref (E.2.2.1 0))] := hl
  refine lv_iconst (v := 0) hx hb dX11_rowsThere_0 (by decide) ?_
  obtain ⟨v1_1, en, hf⟩ := ok_lt hf
  refine z_nm en ?_
  clear en
  refine lv_istore_n (lv' := [(1, .int v1_1), (0, .ref (E.2.2.1 0))]) hx hb dX11_rowsThere_1 rfl hl (by decide) rfl (fun ls hl => ?_)
  refine lv_iconst (v := 0) hx hb dX11_rowsThere_2 (by decide) ?_
  obtain ⟨v2_2, en, hf⟩ := ok_lt hf
  refine z_nm en ?_
  clear en
  refine lv_istore_n (lv' := [(2, .int v2_2), (1, .int v1_1), (0, .ref (E.2.2.1 0))]) hx hb dX11_rowsThere_3 rfl hl (by decide) rfl (fun ls hl => ?_)
  obtain ⟨r4, hL4, hf⟩ := ok_bind hf
  have X4_0 : ∀ (v1_6 : Int32) (s_7 : St), (v1_6, s_7) = r4 → ∀ (H : Heap) (locs : List Loc) (ls : Array Slot), lv_has ls 3 [(1, .int v1_6)] → World E sh2 s_7 H → va_S E.2.2.2 s.heap H locs → W p l e (rmd 2) s m args below meth c H locs 0 0 (MQ below (QW E sh2 (some (.int rz)) sz) args s 0 0 E.2.2.2) (F0 m 36 ls []) := by
    intro v1_6 s_7 er H locs ls hl hw hS
    subst er
    replace hf := ok_un2 hf
    refine lv_iload_n hx hb dX11_rowsThere_36 rfl (lv_at hl 0 rfl) ?_
    exact z_iretE hC hlocks hw hS hf hr rfl dX11_rowsThere_37
  have L4 : ∀ (n : Nat) (v1_3 : Int32) (v2_4 : Int32) (s_5 : St), loopF f_X11_rowsThere_L4 n (v1_3, v2_4, s_5) = some r4 → ∀ (H : Heap) (locs : List Loc) (ls : Array Slot), lv_has ls 3 [(0, .ref (E.2.2.1 0)), (1, .int v1_3), (2, .int v2_4)] → World E sh2 s_5 H → va_S E.2.2.2 s.heap H locs → W p l e (rmd 2) s m args below meth c H locs 0 0 (MQ below (QW E sh2 (some (.int rz)) sz) args s 0 0 E.2.2.2) (F0 m 4 ls []) := by
    intro n
    induction n with
    | zero =>
      intro v1_3 v2_4 s_5 hf
      exact nz hf
    | succ n ih4 =>
      intro v1_3 v2_4 s_5 hf H locs ls hl hw hS
      obtain ⟨xl4, hf, hi4, he4⟩ := ok_loop hf
      unfold f_X11_rowsThere_L4 at hf
      replace hf := ok_un3 hf
      refine lv_iload_n hx hb dX11_rowsThere_4 rfl (lv_at hl 2 rfl) ?_
      refine lv_bipush (v := 8) hx hb dX11_rowsThere_5 (by decide) ?_
      have hif := ok_if hf
      refine lv_icmp_ge (tgt := 36) hx hb dX11_rowsThere_7 (by decide) (fun hcd => ?_) (fun hcd => ?_)
      · have hf := hif.1 hcd
        clear hif
        cases hf
        exact X4_0 _ _ (he4 _ rfl) _ _ ls (lv_sub hl [1] rfl) hw hS
      · have hf := hif.2 hcd
        clear hif
        refine lv_iload_n hx hb dX11_rowsThere_10 rfl (lv_at hl 1 rfl) ?_
        refine lv_aload_n hx hb dX11_rowsThere_11 rfl (lv_at hl 0 rfl) ?_
        refine gFuseBox_rows hC hw wd306 dX11_rowsThere_12 ?_
        refine lv_iload_n hx hb dX11_rowsThere_15 rfl (lv_at hl 2 rfl) ?_
        obtain ⟨hin, hf⟩ := ok_chk hf
        refine z_arow hC hw hin dX11_rowsThere_16 ?_
        obtain ⟨a_8, en, hf⟩ := ok_lt hf
        have ta_8 : isR a_8 := by rw [en]; exact (rowA_ok hin).2
        refine z_nma en ?_
        clear en
        obtain ⟨r_10, s_9, hc, hf⟩ := ok_bd hf
        refine z_cV hC hl.1 hw hS (As := []) (rest := [.int v1_3]) (m_X7_isMissing l E ta_8 hc) (sR ta_8).1 rfl gc127 gc128 ⟨Nat.le_of_ble_eq_true rfl, Nat.le_of_ble_eq_true rfl⟩ ⟨Nat.le_of_ble_eq_true rfl, Nat.le_of_ble_eq_true rfl⟩ rfl rfl (Nat.le_of_ble_eq_true rfl) dX11_rowsThere_17 (fun H locs hw hS => ?_)
        clear hc
        obtain ⟨j28, ej28, hf⟩ := ok_lt hf
        have J28 : ∀ (k_11 : Int32) (s_12 : St), j28 k_11 s_12 = some xl4 → ∀ (H : Heap) (locs : List Loc) (ls : Array Slot), lv_has ls 3 [(0, .ref (E.2.2.1 0)), (2, .int v2_4)] → World E sh2 s_12 H → va_S E.2.2.2 s.heap H locs → W p l e (rmd 2) s m args below meth c H locs 0 0 (MQ below (QW E sh2 (some (.int rz)) sz) args s 0 0 E.2.2.2) (F0 m 28 ls [.int k_11, .int v1_3]) := by
          intro k_11 s_12 hf H locs ls hl hw hS
          subst ej28
          refine lv_iadd hx hb dX11_rowsThere_28 ?_
          obtain ⟨v1_13, en, hf⟩ := ok_lt hf
          refine z_nm en ?_
          clear en
          refine lv_istore_n (lv' := [(1, .int v1_13), (0, .ref (E.2.2.1 0)), (2, .int v2_4)]) hx hb dX11_rowsThere_29 rfl hl (by decide) rfl (fun ls hl => ?_)
          obtain ⟨v2_14, en, hf⟩ := ok_lt hf
          refine lv_iinc (v := v2_14) (lv' := [(2, .int v2_14), (1, .int v1_13), (0, .ref (E.2.2.1 0))]) hx hb dX11_rowsThere_30 hl (k := 2) rfl (by rw [en]; rfl) (by decide) rfl (fun ls hl => ?_)
          clear en
          refine lv_goto (tgt := 4) hx hb dX11_rowsThere_33 (by decide) ?_
          cases hf
          exact ih4 _ _ _ (hi4 _ rfl) _ _ ls (lv_sub hl [2, 1, 0] rfl) hw hS
        clear ej28
        have hif := ok_if hf
        refine lv_if_eq (tgt := 27) hx hb dX11_rowsThere_20 (by decide) (fun hcd => ?_) (fun hcd => ?_)
        · have hf := hif.1 hcd
          clear hif
          refine lv_iconst (v := 1) hx hb dX11_rowsThere_27 (by decide) ?_
          exact J28 _ _ hf _ _ ls (lv_sub hl [0, 2] rfl) hw hS
        · have hf := hif.2 hcd
          clear hif
          refine lv_iconst (v := 0) hx hb dX11_rowsThere_23 (by decide) ?_
          refine lv_goto (tgt := 28) hx hb dX11_rowsThere_24 (by decide) ?_
          exact J28 _ _ hf _ _ ls (lv_sub hl [0, 2] rfl) hw hS
  exact L4 5000 _ _ _ hL4 _ _ ls (lv_sub hl [2, 1, 0] rfl) hw hS
set_option maxHeartbeats 4000000 in
set_option maxRecDepth 100000 in
theorem m_X11_count (l : Launch) (E : Ev) {x1 : Int32}  {s0 sz : St} {rz : Int32} (hf : f_X11_count x1 s0 = some (rz, sz)) : MM l E sh2 yX11_count cX11_count 2 (some .int) (rmd 3) [.ref (E.2.2.1 0), .int x1] s0 (some (.int rz)) sz := by
  unfold f_X11_count at hf
  refine z_enter (by decide +kernel) (Nat.le_of_ble_eq_true rfl) ?_
  intro p e s m args below meth c ls hC hr hlocks hw hS hl
  have hC : Cx p s m args c cX11_count 2 "FuseBox" E := hC
  obtain ⟨hx, hb, hml, hown, hts, hTB⟩ := id hC
  have hl : lv_has ls 2 [(0, .ref (E.2.2.1 0)), (1, .int x1)] := hl
  refine lv_iload_n hx hb dX11_count_0 rfl (lv_at hl 1 rfl) ?_
  have hif := ok_if hf
  by_cases hk0 : x1 = 0
  · have hf := hif.1 hk0
    clear hif
    refine lv_tableIn (off := 55) (tgt := 56) hx hb dX11_count_1 (by rw [hk0]; decide) (by rw [hk0]; decide) (by rw [hk0]; rfl) (by decide) ?_
    refine lv_aload_n hx hb dX11_count_56 rfl (lv_at hl 0 rfl) ?_
    obtain ⟨r_2, s_1, hc, hf⟩ := ok_bd hf
    refine z_cV hC hl.1 hw hS (As := []) (rest := []) (m_X11_rowsThere l E  hc) rfl rfl gc217 gc218 ⟨Nat.le_of_ble_eq_true rfl, Nat.le_of_ble_eq_true rfl⟩ ⟨Nat.le_of_ble_eq_true rfl, Nat.le_of_ble_eq_true rfl⟩ rfl rfl (Nat.le_of_ble_eq_true rfl) dX11_count_57 (fun H locs hw hS => ?_)
    clear hc
    exact z_iretE hC hlocks hw hS hf hr rfl dX11_count_60
  replace hf := hif.2 hk0
  clear hif
  have hif := ok_if hf
  by_cases hk1 : x1 = 1
  · have hf := hif.1 hk1
    clear hif
    refine lv_tableIn (off := 60) (tgt := 61) hx hb dX11_count_1 (by rw [hk1]; decide) (by rw [hk1]; decide) (by rw [hk1]; rfl) (by decide) ?_
    refine lv_aload_n hx hb dX11_count_61 rfl (lv_at hl 0 rfl) ?_
    refine gFuseBox_now hC hw wd354 dX11_count_62 ?_
    refine gHouse_lines hC hw isH_19 wd363 dX11_count_65 ?_
    exact z_iretE hC hlocks hw hS hf hr rfl dX11_count_68
  replace hf := hif.2 hk1
  clear hif
  have hif := ok_if hf
  by_cases hk2 : x1 = 2
  · have hf := hif.1 hk2
    clear hif
    refine lv_tableIn (off := 68) (tgt := 69) hx hb dX11_count_1 (by rw [hk2]; decide) (by rw [hk2]; decide) (by rw [hk2]; rfl) (by decide) ?_
    refine lv_aload_n hx hb dX11_count_69 rfl (lv_at hl 0 rfl) ?_
    refine gFuseBox_now hC hw wd354 dX11_count_70 ?_
    refine gHouse_things hC hw isH_19 wd383 dX11_count_73 ?_
    exact z_iretE hC hlocks hw hS hf hr rfl dX11_count_76
  replace hf := hif.2 hk2
  clear hif
  have hif := ok_if hf
  by_cases hk3 : x1 = 3
  · have hf := hif.1 hk3
    clear hif
    refine lv_tableIn (off := 76) (tgt := 77) hx hb dX11_count_1 (by rw [hk3]; decide) (by rw [hk3]; decide) (by rw [hk3]; rfl) (by decide) ?_
    refine lv_aload_n hx hb dX11_count_77 rfl (lv_at hl 0 rfl) ?_
    refine gFuseBox_now hC hw wd354 dX11_count_78 ?_
    refine gHouse_minute hC hw isH_19 wd372 dX11_count_81 ?_
    exact z_iretE hC hlocks hw hS hf hr rfl dX11_count_84
  replace hf := hif.2 hk3
  clear hif
  have hif := ok_if hf
  by_cases hk4 : x1 = 4
  · have hf := hif.1 hk4
    clear hif
    refine lv_tableIn (off := 84) (tgt := 85) hx hb dX11_count_1 (by rw [hk4]; decide) (by rw [hk4]; decide) (by rw [hk4]; rfl) (by decide) ?_
    refine lv_aload_n hx hb dX11_count_85 rfl (lv_at hl 0 rfl) ?_
    refine gFuseBox_now hC hw wd354 dX11_count_86 ?_
    refine gHouse_main hC hw isH_19 wd452 dX11_count_89 ?_
    exact z_iretE hC hlocks hw hS hf hr rfl dX11_count_92
  replace hf := hif.2 hk4
  clear hif
  have hif := ok_if hf
  by_cases hk5 : x1 = 5
  · have hf := hif.1 hk5
    clear hif
    refine lv_tableIn (off := 92) (tgt := 93) hx hb dX11_count_1 (by rw [hk5]; decide) (by rw [hk5]; decide) (by rw [hk5]; rfl) (by decide) ?_
    refine lv_aload_n hx hb dX11_count_93 rfl (lv_at hl 0 rfl) ?_
    refine gFuseBox_now hC hw wd354 dX11_count_94 ?_
    refine gHouse_mainIn hC hw isH_19 wd405 dX11_count_97 ?_
    obtain ⟨j108, ej108, hf⟩ := ok_lt hf
    have J108 : ∀ (k_3 : Int32) (s_4 : St), j108 k_3 s_4 = some (rz, sz) → ∀ (H : Heap) (locs : List Loc) (ls : Array Slot), lv_has ls 2 [] → World E sh2 s_4 H → va_S E.2.2.2 s.heap H locs → W p l e (rmd 3) s m args below meth c H locs 0 0 (MQ below (QW E sh2 (some (.int rz)) sz) args s 0 0 E.2.2.2) (F0 m 108 ls [.int k_3]) := by
      intro k_3 s_4 hf H locs ls hl hw hS
      subst ej108
      exact z_iretE hC hlocks hw hS hf hr rfl dX11_count_108
    clear ej108
    have hif := ok_if hf
    refine lv_if_eq (tgt := 107) hx hb dX11_count_100 (by decide) (fun hcd => ?_) (fun hcd => ?_)
    · have hf := hif.1 hcd
      clear hif
      refine lv_iconst (v := 0) hx hb dX11_count_107 (by decide) ?_
      exact J108 _ _ hf _ _ ls (lv_sub hl [] rfl) hw hS
    · have hf := hif.2 hcd
      clear hif
      refine lv_iconst (v := 1) hx hb dX11_count_103 (by decide) ?_
      refine lv_goto (tgt := 108) hx hb dX11_count_104 (by decide) ?_
      exact J108 _ _ hf _ _ ls (lv_sub hl [] rfl) hw hS
  replace hf := hif.2 hk5
  clear hif
  have hif := ok_if hf
  by_cases hk6 : x1 = 6
  · have hf := hif.1 hk6
    clear hif
    refine lv_tableIn (off := 108) (tgt := 109) hx hb dX11_count_1 (by rw [hk6]; decide) (by rw [hk6]; decide) (by rw [hk6]; rfl) (by decide) ?_
    refine lv_aload_n hx hb dX11_count_109 rfl (lv_at hl 0 rfl) ?_
    refine gFuseBox_now hC hw wd354 dX11_count_110 ?_
    obtain ⟨r_6, s_5, hc, hf⟩ := ok_bd hf
    refine z_cV hC hl.1 hw hS (As := []) (rest := []) (m_X3_deadLines l E isH_19 hc) (sH isH_19).1 rfl gc160 gc161 ⟨Nat.le_of_ble_eq_true rfl, Nat.le_of_ble_eq_true rfl⟩ ⟨Nat.le_of_ble_eq_true rfl, Nat.le_of_ble_eq_true rfl⟩ rfl rfl (Nat.le_of_ble_eq_true rfl) dX11_count_113 (fun H locs hw hS => ?_)
    clear hc
    exact z_iretE hC hlocks hw hS hf hr rfl dX11_count_116
  replace hf := hif.2 hk6
  clear hif
  have hif := ok_if hf
  by_cases hk7 : x1 = 7
  · have hf := hif.1 hk7
    clear hif
    refine lv_tableIn (off := 116) (tgt := 117) hx hb dX11_count_1 (by rw [hk7]; decide) (by rw [hk7]; decide) (by rw [hk7]; rfl) (by decide) ?_
    refine lv_aload_n hx hb dX11_count_117 rfl (lv_at hl 0 rfl) ?_
    refine gFuseBox_now hC hw wd354 dX11_count_118 ?_
    refine gHouse_used hC hw isH_19 wd424 dX11_count_121 ?_
    exact z_iretE hC hlocks hw hS hf hr rfl dX11_count_124
  replace hf := hif.2 hk7
  clear hif
  have hif := ok_if hf
  by_cases hk8 : x1 = 8
  · have hf := hif.1 hk8
    clear hif
    refine lv_tableIn (off := 124) (tgt := 125) hx hb dX11_count_1 (by rw [hk8]; decide) (by rw [hk8]; decide) (by rw [hk8]; rfl) (by decide) ?_
    refine lv_aload_n hx hb dX11_count_125 rfl (lv_at hl 0 rfl) ?_
    refine gFuseBox_actsKept hC hw wd348 dX11_count_126 ?_
    exact z_iretE hC hlocks hw hS hf hr rfl dX11_count_129
  replace hf := hif.2 hk8
  clear hif
  have hif := ok_if hf
  by_cases hk9 : x1 = 9
  · have hf := hif.1 hk9
    clear hif
    refine lv_tableIn (off := 129) (tgt := 130) hx hb dX11_count_1 (by rw [hk9]; decide) (by rw [hk9]; decide) (by rw [hk9]; rfl) (by decide) ?_
    refine lv_aload_n hx hb dX11_count_130 rfl (lv_at hl 0 rfl) ?_
    refine gFuseBox_reader hC hw wd340 dX11_count_131 ?_
    refine gReader_size hC hw wd341 dX11_count_134 ?_
    exact z_iretE hC hlocks hw hS hf hr rfl dX11_count_137
  replace hf := hif.2 hk9
  clear hif
  refine lv_tableOut (tgt := 138) hx hb dX11_count_1 (by have q0 := lv_neT hk0 (by decide : (0 : Int32).toInt = 0); have q1 := lv_neT hk1 (by decide : (1 : Int32).toInt = 1); have q2 := lv_neT hk2 (by decide : (2 : Int32).toInt = 2); have q3 := lv_neT hk3 (by decide : (3 : Int32).toInt = 3); have q4 := lv_neT hk4 (by decide : (4 : Int32).toInt = 4); have q5 := lv_neT hk5 (by decide : (5 : Int32).toInt = 5); have q6 := lv_neT hk6 (by decide : (6 : Int32).toInt = 6); have q7 := lv_neT hk7 (by decide : (7 : Int32).toInt = 7); have q8 := lv_neT hk8 (by decide : (8 : Int32).toInt = 8); have q9 := lv_neT hk9 (by decide : (9 : Int32).toInt = 9); omega) (by decide) ?_
  refine lv_ldc (v := -1000001) hx hb hown (hts _ wd305) dX11_count_138 ?_
  exact z_iretE hC hlocks hw hS hf hr rfl dX11_count_140
set_option maxHeartbeats 4000000 in
set_option maxRecDepth 100000 in
theorem m_X11_status (l : Launch) (E : Ev)   {s0 sz : St} {rz : Int32} (hf : f_X11_status s0 = some (rz, sz)) : MM l E sh2 yX11_status cX11_status 1 (some .int) (rmd 1) [.ref (E.2.2.1 0)] s0 (some (.int rz)) sz := by
  unfold f_X11_status at hf
  refine z_enter (by decide +kernel) (Nat.le_of_ble_eq_true rfl) ?_
  intro p e s m args below meth c ls hC hr hlocks hw hS hl
  have hC : Cx p s m args c cX11_status 1 "FuseBox" E := hC
  obtain ⟨hx, hb, hml, hown, hts, hTB⟩ := id hC
  have hl : lv_has ls 1 [(0, .ref (E.2.2.1 0))] := hl
  refine lv_aload_n hx hb dX11_status_0 rfl (lv_at hl 0 rfl) ?_
  refine gFuseBox_latestFinding hC hw wd299 dX11_status_1 ?_
  exact z_iretE hC hlocks hw hS hf hr rfl dX11_status_4
