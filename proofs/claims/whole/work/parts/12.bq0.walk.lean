set_option maxHeartbeats 4000000 in
set_option maxRecDepth 100000 in
theorem m_X3_clear (l : Launch) (E : Ev) {a0 : Nat} (t0 : isH a0) {s0 sz : St} (hf : f_X3_clear a0 s0 = some sz) : MM l E sh2 yX3_clear cX3_clear 1 none (rmd 1) [.ref (E.2.2.1 a0)] s0 none sz := by
  unfold f_X3_clear at hf
  refine z_enter (by decide +kernel) (Nat.le_of_ble_eq_true rfl) ?_
  intro p e s m args below meth c ls hC hr hlocks hw hS hl
  have hC : Cx p s m args c cX3_clear 1 "FuseBox$House" E := hC
  obtain ⟨hx, hb, hml, hown, hts, hTB⟩ := id hC
  have hl : lv_has ls 1 [(0, .ref (E.2.2.1 a0))] := hl
  refine lv_aload_n hx hb dX3_clear_0 rfl (lv_at hl 0 rfl) ?_
  refine lv_iconst (v := 0) hx hb dX3_clear_1 (by decide) ?_
  obtain ⟨s_1, en, hf⟩ := ok_lt hf
  refine pHouse_lines hC hw hS t0 wd40 en dX3_clear_2 (fun H locs hw hS => ?_)
  clear en
  refine lv_aload_n hx hb dX3_clear_5 rfl (lv_at hl 0 rfl) ?_
  refine lv_iconst (v := 0) hx hb dX3_clear_6 (by decide) ?_
  obtain ⟨s_2, en, hf⟩ := ok_lt hf
  refine pHouse_things hC hw hS t0 wd41 en dX3_clear_7 (fun H locs hw hS => ?_)
  clear en
  refine lv_aload_n hx hb dX3_clear_10 rfl (lv_at hl 0 rfl) ?_
  refine lv_iconst (v := 0) hx hb dX3_clear_11 (by decide) ?_
  obtain ⟨s_3, en, hf⟩ := ok_lt hf
  refine pHouse_main hC hw hS t0 wd42 en dX3_clear_12 (fun H locs hw hS => ?_)
  clear en
  refine lv_aload_n hx hb dX3_clear_15 rfl (lv_at hl 0 rfl) ?_
  refine lv_iconst (v := 0) hx hb dX3_clear_16 (by decide) ?_
  obtain ⟨s_4, en, hf⟩ := ok_lt hf
  refine pHouse_minute hC hw hS t0 wd43 en dX3_clear_17 (fun H locs hw hS => ?_)
  clear en
  refine lv_aload_n hx hb dX3_clear_20 rfl (lv_at hl 0 rfl) ?_
  refine lv_iconst (v := 0) hx hb dX3_clear_21 (by decide) ?_
  obtain ⟨s_5, en, hf⟩ := ok_lt hf
  refine pHouse_used hC hw hS t0 wd44 en dX3_clear_22 (fun H locs hw hS => ?_)
  clear en
  refine lv_aload_n hx hb dX3_clear_25 rfl (lv_at hl 0 rfl) ?_
  refine lv_iconst (v := 1) hx hb dX3_clear_26 (by decide) ?_
  obtain ⟨s_6, en, hf⟩ := ok_lt hf
  refine pHouse_mainIn hC hw hS t0 (by decide) wd45 en dX3_clear_27 (fun H locs hw hS => ?_)
  clear en
  refine lv_aload_n hx hb dX3_clear_30 rfl (lv_at hl 0 rfl) ?_
  refine lv_iconst (v := 0) hx hb dX3_clear_31 (by decide) ?_
  obtain ⟨s_7, en, hf⟩ := ok_lt hf
  refine pHouse_on hC hw hS t0 wd46 en dX3_clear_32 (fun H locs hw hS => ?_)
  clear en
  exact z_vretE hC hlocks hw hS hf hr dX3_clear_35
set_option maxHeartbeats 4000000 in
set_option maxRecDepth 100000 in
theorem m_X3_addLine (l : Launch) (E : Ev) {a0 : Nat} {x1 : Int32} {x2 : Int32} (t0 : isH a0) {s0 sz : St} (hf : f_X3_addLine a0 x1 x2 s0 = some sz) : MM l E sh2 yX3_addLine cX3_addLine 3 none (rmd 1) [.ref (E.2.2.1 a0), .int x1, .int x2] s0 none sz := by
  unfold f_X3_addLine at hf
  refine z_enter (by decide +kernel) (Nat.le_of_ble_eq_true rfl) ?_
  intro p e s m args below meth c ls hC hr hlocks hw hS hl
  have hC : Cx p s m args c cX3_addLine 3 "FuseBox$House" E := hC
  obtain ⟨hx, hb, hml, hown, hts, hTB⟩ := id hC
  have hl : lv_has ls 3 [(0, .ref (E.2.2.1 a0)), (1, .int x1), (2, .int x2)] := hl
  refine lv_aload_n hx hb dX3_addLine_0 rfl (lv_at hl 0 rfl) ?_
  refine gHouse_lines hC hw t0 wd40 dX3_addLine_1 ?_
  refine lv_iconst (v := 4) hx hb dX3_addLine_4 (by decide) ?_
  obtain ⟨j58, ej58, hf⟩ := ok_lt hf
  have J58 : ∀ (s_1 : St), j58 s_1 = some sz → ∀ (H : Heap) (locs : List Loc) (ls : Array Slot), lv_has ls 3 [] → World E sh2 s_1 H → va_S E.2.2.2 s.heap H locs → W p l e (rmd 1) s m args below meth c H locs 0 0 (MQ below (QW E sh2 none sz) args s 0 0 E.2.2.2) (F0 m 58 ls []) := by
    intro s_1 hf H locs ls hl hw hS
    subst ej58
    exact z_vretE hC hlocks hw hS hf hr dX3_addLine_58
  clear ej58
  have hif := ok_if hf
  refine lv_icmp_ge (tgt := 58) hx hb dX3_addLine_5 (by decide) (fun hcd => ?_) (fun hcd => ?_)
  · have hf := hif.1 hcd
    clear hif
    exact J58 _ hf _ _ ls (lv_sub hl [] rfl) hw hS
  · have hf := hif.2 hcd
    clear hif
    refine lv_aload_n hx hb dX3_addLine_8 rfl (lv_at hl 0 rfl) ?_
    refine gHouse_kind hC hw t0 wd47 dX3_addLine_9 ?_
    refine lv_aload_n hx hb dX3_addLine_12 rfl (lv_at hl 0 rfl) ?_
    refine gHouse_lines hC hw t0 wd40 dX3_addLine_13 ?_
    refine lv_iload_n hx hb dX3_addLine_16 rfl (lv_at hl 1 rfl) ?_
    obtain ⟨hin, hf⟩ := ok_chk hf
    obtain ⟨s_2, en, hf⟩ := ok_lt hf
    refine z_iast hC hw hS (sH t0).2.1 hin en dX3_addLine_17 (fun H locs hw hS => ?_)
    clear en
    refine lv_aload_n hx hb dX3_addLine_18 rfl (lv_at hl 0 rfl) ?_
    refine gHouse_rate hC hw t0 wd48 dX3_addLine_19 ?_
    refine lv_aload_n hx hb dX3_addLine_22 rfl (lv_at hl 0 rfl) ?_
    refine gHouse_lines hC hw t0 wd40 dX3_addLine_23 ?_
    refine lv_iload_n hx hb dX3_addLine_26 rfl (lv_at hl 2 rfl) ?_
    obtain ⟨hin, hf⟩ := ok_chk hf
    obtain ⟨s_3, en, hf⟩ := ok_lt hf
    refine z_iast hC hw hS (sH t0).2.2.1 hin en dX3_addLine_27 (fun H locs hw hS => ?_)
    clear en
    refine lv_aload_n hx hb dX3_addLine_28 rfl (lv_at hl 0 rfl) ?_
    refine gHouse_heat hC hw t0 wd49 dX3_addLine_29 ?_
    refine lv_aload_n hx hb dX3_addLine_32 rfl (lv_at hl 0 rfl) ?_
    refine gHouse_lines hC hw t0 wd40 dX3_addLine_33 ?_
    refine lv_iconst (v := 0) hx hb dX3_addLine_36 (by decide) ?_
    obtain ⟨hin, hf⟩ := ok_chk hf
    obtain ⟨s_4, en, hf⟩ := ok_lt hf
    refine z_iast hC hw hS (sH t0).2.2.2.1 hin en dX3_addLine_37 (fun H locs hw hS => ?_)
    clear en
    refine lv_aload_n hx hb dX3_addLine_38 rfl (lv_at hl 0 rfl) ?_
    refine gHouse_dead hC hw t0 wd50 dX3_addLine_39 ?_
    refine lv_aload_n hx hb dX3_addLine_42 rfl (lv_at hl 0 rfl) ?_
    refine gHouse_lines hC hw t0 wd40 dX3_addLine_43 ?_
    refine lv_iconst (v := 0) hx hb dX3_addLine_46 (by decide) ?_
    obtain ⟨hin, hf⟩ := ok_chk hf
    obtain ⟨s_5, en, hf⟩ := ok_lt hf
    refine z_iast hC hw hS (sH t0).2.2.2.2.1 hin en dX3_addLine_47 (fun H locs hw hS => ?_)
    clear en
    refine lv_aload_n hx hb dX3_addLine_48 rfl (lv_at hl 0 rfl) ?_
    refine lv_dup hx hb dX3_addLine_49 rfl ?_
    refine gHouse_lines hC hw t0 wd40 dX3_addLine_50 ?_
    refine lv_iconst (v := 1) hx hb dX3_addLine_53 (by decide) ?_
    refine lv_iadd hx hb dX3_addLine_54 ?_
    obtain ⟨s_6, en, hf⟩ := ok_lt hf
    refine pHouse_lines hC hw hS t0 wd40 en dX3_addLine_55 (fun H locs hw hS => ?_)
    clear en
    exact J58 _ hf _ _ ls (lv_sub hl [] rfl) hw hS
set_option maxHeartbeats 4000000 in
set_option maxRecDepth 100000 in
theorem m_X3_addThing (l : Launch) (E : Ev) {a0 : Nat} {x1 : Int32} {x2 : Int32} {x3 : Int32} (t0 : isH a0) {s0 sz : St} (hf : f_X3_addThing a0 x1 x2 x3 s0 = some sz) : MM l E sh2 yX3_addThing cX3_addThing 4 none (rmd 1) [.ref (E.2.2.1 a0), .int x1, .int x2, .int x3] s0 none sz := by
  unfold f_X3_addThing at hf
  refine z_enter (by decide +kernel) (Nat.le_of_ble_eq_true rfl) ?_
  intro p e s m args below meth c ls hC hr hlocks hw hS hl
  have hC : Cx p s m args c cX3_addThing 4 "FuseBox$House" E := hC
  obtain ⟨hx, hb, hml, hown, hts, hTB⟩ := id hC
  have hl : lv_has ls 4 [(0, .ref (E.2.2.1 a0)), (1, .int x1), (2, .int x2), (3, .int x3)] := hl
  refine lv_aload_n hx hb dX3_addThing_0 rfl (lv_at hl 0 rfl) ?_
  refine gHouse_things hC hw t0 wd41 dX3_addThing_1 ?_
  refine lv_bipush (v := 6) hx hb dX3_addThing_4 (by decide) ?_
  obtain ⟨j54, ej54, hf⟩ := ok_lt hf
  have J54 : ∀ (s_1 : St), j54 s_1 = some sz → ∀ (H : Heap) (locs : List Loc) (ls : Array Slot), lv_has ls 4 [] → World E sh2 s_1 H → va_S E.2.2.2 s.heap H locs → W p l e (rmd 1) s m args below meth c H locs 0 0 (MQ below (QW E sh2 none sz) args s 0 0 E.2.2.2) (F0 m 54 ls []) := by
    intro s_1 hf H locs ls hl hw hS
    subst ej54
    exact z_vretE hC hlocks hw hS hf hr dX3_addThing_54
  clear ej54
  have hif := ok_if hf
  refine lv_icmp_ge (tgt := 54) hx hb dX3_addThing_6 (by decide) (fun hcd => ?_) (fun hcd => ?_)
  · have hf := hif.1 hcd
    clear hif
    exact J54 _ hf _ _ ls (lv_sub hl [] rfl) hw hS
  · have hf := hif.2 hcd
    clear hif
    refine lv_aload_n hx hb dX3_addThing_9 rfl (lv_at hl 0 rfl) ?_
    refine gHouse_plugged hC hw t0 wd51 dX3_addThing_10 ?_
    refine lv_aload_n hx hb dX3_addThing_13 rfl (lv_at hl 0 rfl) ?_
    refine gHouse_things hC hw t0 wd41 dX3_addThing_14 ?_
    refine lv_iload_n hx hb dX3_addThing_17 rfl (lv_at hl 1 rfl) ?_
    obtain ⟨hin, hf⟩ := ok_chk hf
    obtain ⟨s_2, en, hf⟩ := ok_lt hf
    refine z_iast hC hw hS (sH t0).2.2.2.2.2.2.1 hin en dX3_addThing_18 (fun H locs hw hS => ?_)
    clear en
    refine lv_aload_n hx hb dX3_addThing_19 rfl (lv_at hl 0 rfl) ?_
    refine gHouse_load hC hw t0 wd52 dX3_addThing_20 ?_
    refine lv_aload_n hx hb dX3_addThing_23 rfl (lv_at hl 0 rfl) ?_
    refine gHouse_things hC hw t0 wd41 dX3_addThing_24 ?_
    refine lv_iload_n hx hb dX3_addThing_27 rfl (lv_at hl 2 rfl) ?_
    obtain ⟨hin, hf⟩ := ok_chk hf
    obtain ⟨s_3, en, hf⟩ := ok_lt hf
    refine z_iast hC hw hS (sH t0).2.2.2.2.2.2.2 hin en dX3_addThing_28 (fun H locs hw hS => ?_)
    clear en
    refine lv_aload_n hx hb dX3_addThing_29 rfl (lv_at hl 0 rfl) ?_
    refine lv_dup hx hb dX3_addThing_30 rfl ?_
    refine gHouse_on hC hw t0 wd46 dX3_addThing_31 ?_
    refine lv_iload_n hx hb dX3_addThing_34 rfl (lv_at hl 3 rfl) ?_
    refine lv_aload_n hx hb dX3_addThing_35 rfl (lv_at hl 0 rfl) ?_
    refine gHouse_things hC hw t0 wd41 dX3_addThing_36 ?_
    refine lv_ishl hx hb dX3_addThing_39 ?_
    refine lv_ior hx hb dX3_addThing_40 ?_
    obtain ⟨s_4, en, hf⟩ := ok_lt hf
    refine pHouse_on hC hw hS t0 wd46 en dX3_addThing_41 (fun H locs hw hS => ?_)
    clear en
    refine lv_aload_n hx hb dX3_addThing_44 rfl (lv_at hl 0 rfl) ?_
    refine lv_dup hx hb dX3_addThing_45 rfl ?_
    refine gHouse_things hC hw t0 wd41 dX3_addThing_46 ?_
    refine lv_iconst (v := 1) hx hb dX3_addThing_49 (by decide) ?_
    refine lv_iadd hx hb dX3_addThing_50 ?_
    obtain ⟨s_5, en, hf⟩ := ok_lt hf
    refine pHouse_things hC hw hS t0 wd41 en dX3_addThing_51 (fun H locs hw hS => ?_)
    clear en
    exact J54 _ hf _ _ ls (lv_sub hl [] rfl) hw hS
set_option maxHeartbeats 4000000 in
set_option maxRecDepth 100000 in
theorem m_X3_become (l : Launch) (E : Ev) {a0 : Nat} {a1 : Nat} (t0 : isH a0) (t1 : isH a1) {s0 sz : St} (hf : f_X3_become a0 a1 s0 = some sz) : MM l E sh2 yX3_become cX3_become 2 none (rmd 1) [.ref (E.2.2.1 a0), .ref (E.2.2.1 a1)] s0 none sz := by
  unfold f_X3_become at hf
  refine z_enter (by decide +kernel) (Nat.le_of_ble_eq_true rfl) ?_
  intro p e s m args below meth c ls hC hr hlocks hw hS hl
  have hC : Cx p s m args c cX3_become 2 "FuseBox$House" E := hC
  obtain ⟨hx, hb, hml, hown, hts, hTB⟩ := id hC
  have hl : lv_has ls 2 [(0, .ref (E.2.2.1 a0)), (1, .ref (E.2.2.1 a1))] := hl
  refine lv_aload_n hx hb dX3_become_0 rfl (lv_at hl 0 rfl) ?_
  refine lv_aload_n hx hb dX3_become_1 rfl (lv_at hl 1 rfl) ?_
  refine gHouse_lines hC hw t1 wd40 dX3_become_2 ?_
  obtain ⟨s_1, en, hf⟩ := ok_lt hf
  refine pHouse_lines hC hw hS t0 wd40 en dX3_become_5 (fun H locs hw hS => ?_)
  clear en
  refine lv_aload_n hx hb dX3_become_8 rfl (lv_at hl 0 rfl) ?_
  refine lv_aload_n hx hb dX3_become_9 rfl (lv_at hl 1 rfl) ?_
  refine gHouse_things hC hw t1 wd41 dX3_become_10 ?_
  obtain ⟨s_2, en, hf⟩ := ok_lt hf
  refine pHouse_things hC hw hS t0 wd41 en dX3_become_13 (fun H locs hw hS => ?_)
  clear en
  refine lv_aload_n hx hb dX3_become_16 rfl (lv_at hl 0 rfl) ?_
  refine lv_aload_n hx hb dX3_become_17 rfl (lv_at hl 1 rfl) ?_
  refine gHouse_main hC hw t1 wd42 dX3_become_18 ?_
  obtain ⟨s_3, en, hf⟩ := ok_lt hf
  refine pHouse_main hC hw hS t0 wd42 en dX3_become_21 (fun H locs hw hS => ?_)
  clear en
  refine lv_aload_n hx hb dX3_become_24 rfl (lv_at hl 0 rfl) ?_
  refine lv_aload_n hx hb dX3_become_25 rfl (lv_at hl 1 rfl) ?_
  refine gHouse_minute hC hw t1 wd43 dX3_become_26 ?_
  obtain ⟨s_4, en, hf⟩ := ok_lt hf
  refine pHouse_minute hC hw hS t0 wd43 en dX3_become_29 (fun H locs hw hS => ?_)
  clear en
  refine lv_aload_n hx hb dX3_become_32 rfl (lv_at hl 0 rfl) ?_
  refine lv_aload_n hx hb dX3_become_33 rfl (lv_at hl 1 rfl) ?_
  refine gHouse_used hC hw t1 wd44 dX3_become_34 ?_
  obtain ⟨s_5, en, hf⟩ := ok_lt hf
  refine pHouse_used hC hw hS t0 wd44 en dX3_become_37 (fun H locs hw hS => ?_)
  clear en
  refine lv_aload_n hx hb dX3_become_40 rfl (lv_at hl 0 rfl) ?_
  refine lv_aload_n hx hb dX3_become_41 rfl (lv_at hl 1 rfl) ?_
  refine gHouse_mainIn hC hw t1 wd45 dX3_become_42 ?_
  obtain ⟨hbo, hf⟩ := ok_chk hf
  obtain ⟨s_6, en, hf⟩ := ok_lt hf
  refine pHouse_mainIn hC hw hS t0 hbo wd45 en dX3_become_45 (fun H locs hw hS => ?_)
  clear en
  refine lv_aload_n hx hb dX3_become_48 rfl (lv_at hl 0 rfl) ?_
  refine lv_aload_n hx hb dX3_become_49 rfl (lv_at hl 1 rfl) ?_
  refine gHouse_on hC hw t1 wd46 dX3_become_50 ?_
  obtain ⟨s_7, en, hf⟩ := ok_lt hf
  refine pHouse_on hC hw hS t0 wd46 en dX3_become_53 (fun H locs hw hS => ?_)
  clear en
  refine lv_aload_n hx hb dX3_become_56 rfl (lv_at hl 1 rfl) ?_
  refine gHouse_kind hC hw t1 wd47 dX3_become_57 ?_
  refine lv_iconst (v := 0) hx hb dX3_become_60 (by decide) ?_
  refine lv_aload_n hx hb dX3_become_61 rfl (lv_at hl 0 rfl) ?_
  refine gHouse_kind hC hw t0 wd47 dX3_become_62 ?_
  refine lv_iconst (v := 0) hx hb dX3_become_65 (by decide) ?_
  refine lv_iconst (v := 4) hx hb dX3_become_66 (by decide) ?_
  obtain ⟨s_8, en, hf⟩ := ok_lt hf
  refine z_copy hC hl.1 hw hS (rest := []) (sH t1).2.1 (sH t0).2.1 wd53 wd55 wd54 wd56 (by decide) (by decide) (by decide) (by decide) (by decide) (Nat.le_of_ble_eq_true rfl) (Nat.le_of_ble_eq_true rfl) en dX3_become_67 (fun H locs hw hS => ?_)
  clear en
  refine lv_aload_n hx hb dX3_become_70 rfl (lv_at hl 1 rfl) ?_
  refine gHouse_rate hC hw t1 wd48 dX3_become_71 ?_
  refine lv_iconst (v := 0) hx hb dX3_become_74 (by decide) ?_
  refine lv_aload_n hx hb dX3_become_75 rfl (lv_at hl 0 rfl) ?_
  refine gHouse_rate hC hw t0 wd48 dX3_become_76 ?_
  refine lv_iconst (v := 0) hx hb dX3_become_79 (by decide) ?_
  refine lv_iconst (v := 4) hx hb dX3_become_80 (by decide) ?_
  obtain ⟨s_9, en, hf⟩ := ok_lt hf
  refine z_copy hC hl.1 hw hS (rest := []) (sH t1).2.2.1 (sH t0).2.2.1 wd53 wd55 wd54 wd56 (by decide) (by decide) (by decide) (by decide) (by decide) (Nat.le_of_ble_eq_true rfl) (Nat.le_of_ble_eq_true rfl) en dX3_become_81 (fun H locs hw hS => ?_)
  clear en
  refine lv_aload_n hx hb dX3_become_84 rfl (lv_at hl 1 rfl) ?_
  refine gHouse_heat hC hw t1 wd49 dX3_become_85 ?_
  refine lv_iconst (v := 0) hx hb dX3_become_88 (by decide) ?_
  refine lv_aload_n hx hb dX3_become_89 rfl (lv_at hl 0 rfl) ?_
  refine gHouse_heat hC hw t0 wd49 dX3_become_90 ?_
  refine lv_iconst (v := 0) hx hb dX3_become_93 (by decide) ?_
  refine lv_iconst (v := 4) hx hb dX3_become_94 (by decide) ?_
  obtain ⟨s_10, en, hf⟩ := ok_lt hf
  refine z_copy hC hl.1 hw hS (rest := []) (sH t1).2.2.2.1 (sH t0).2.2.2.1 wd53 wd55 wd54 wd56 (by decide) (by decide) (by decide) (by decide) (by decide) (Nat.le_of_ble_eq_true rfl) (Nat.le_of_ble_eq_true rfl) en dX3_become_95 (fun H locs hw hS => ?_)
  clear en
  refine lv_aload_n hx hb dX3_become_98 rfl (lv_at hl 1 rfl) ?_
  refine gHouse_dead hC hw t1 wd50 dX3_become_99 ?_
  refine lv_iconst (v := 0) hx hb dX3_become_102 (by decide) ?_
  refine lv_aload_n hx hb dX3_become_103 rfl (lv_at hl 0 rfl) ?_
  refine gHouse_dead hC hw t0 wd50 dX3_become_104 ?_
  refine lv_iconst (v := 0) hx hb dX3_become_107 (by decide) ?_
  refine lv_iconst (v := 4) hx hb dX3_become_108 (by decide) ?_
  obtain ⟨s_11, en, hf⟩ := ok_lt hf
  refine z_copy hC hl.1 hw hS (rest := []) (sH t1).2.2.2.2.1 (sH t0).2.2.2.2.1 wd53 wd55 wd54 wd56 (by decide) (by decide) (by decide) (by decide) (by decide) (Nat.le_of_ble_eq_true rfl) (Nat.le_of_ble_eq_true rfl) en dX3_become_109 (fun H locs hw hS => ?_)
  clear en
  refine lv_aload_n hx hb dX3_become_112 rfl (lv_at hl 1 rfl) ?_
  refine gHouse_plugged hC hw t1 wd51 dX3_become_113 ?_
  refine lv_iconst (v := 0) hx hb dX3_become_116 (by decide) ?_
  refine lv_aload_n hx hb dX3_become_117 rfl (lv_at hl 0 rfl) ?_
  refine gHouse_plugged hC hw t0 wd51 dX3_become_118 ?_
  refine lv_iconst (v := 0) hx hb dX3_become_121 (by decide) ?_
  refine lv_bipush (v := 6) hx hb dX3_become_122 (by decide) ?_
  obtain ⟨s_12, en, hf⟩ := ok_lt hf
  refine z_copy hC hl.1 hw hS (rest := []) (sH t1).2.2.2.2.2.2.1 (sH t0).2.2.2.2.2.2.1 wd53 wd55 wd54 wd56 (by decide) (by decide) (by decide) (by decide) (by decide) (Nat.le_of_ble_eq_true rfl) (Nat.le_of_ble_eq_true rfl) en dX3_become_124 (fun H locs hw hS => ?_)
  clear en
  refine lv_aload_n hx hb dX3_become_127 rfl (lv_at hl 1 rfl) ?_
  refine gHouse_load hC hw t1 wd52 dX3_become_128 ?_
  refine lv_iconst (v := 0) hx hb dX3_become_131 (by decide) ?_
  refine lv_aload_n hx hb dX3_become_132 rfl (lv_at hl 0 rfl) ?_
  refine gHouse_load hC hw t0 wd52 dX3_become_133 ?_
  refine lv_iconst (v := 0) hx hb dX3_become_136 (by decide) ?_
  refine lv_bipush (v := 6) hx hb dX3_become_137 (by decide) ?_
  obtain ⟨s_13, en, hf⟩ := ok_lt hf
  refine z_copy hC hl.1 hw hS (rest := []) (sH t1).2.2.2.2.2.2.2 (sH t0).2.2.2.2.2.2.2 wd53 wd55 wd54 wd56 (by decide) (by decide) (by decide) (by decide) (by decide) (Nat.le_of_ble_eq_true rfl) (Nat.le_of_ble_eq_true rfl) en dX3_become_139 (fun H locs hw hS => ?_)
  clear en
  exact z_vretE hC hlocks hw hS hf hr dX3_become_142
set_option maxHeartbeats 4000000 in
set_option maxRecDepth 100000 in
theorem m_X3_fuseOf (l : Launch) (E : Ev) {a0 : Nat} {x1 : Int32} (t0 : isH a0) {s0 sz : St} {rz : Nat} (hf : f_X3_fuseOf a0 x1 s0 = some (rz, sz)) : MM l E sh2 yX3_fuseOf cX3_fuseOf 2 (some (.object "FuseBox$Fuse")) (rmd 1) [.ref (E.2.2.1 a0), .int x1] s0 (some (.ref (E.2.2.1 rz))) sz := by
  unfold f_X3_fuseOf at hf
  refine z_enter (by decide +kernel) (Nat.le_of_ble_eq_true rfl) ?_
  intro p e s m args below meth c ls hC hr hlocks hw hS hl
  have hC : Cx p s m args c cX3_fuseOf 2 "FuseBox$House" E := hC
  obtain ⟨hx, hb, hml, hown, hts, hTB⟩ := id hC
  have hl : lv_has ls 2 [(0, .ref (E.2.2.1 a0)), (1, .int x1)] := hl
  refine lv_aload_n hx hb dX3_fuseOf_0 rfl (lv_at hl 0 rfl) ?_
  refine gHouse_fuses hC hw t0 wd57 dX3_fuseOf_1 ?_
  refine lv_aload_n hx hb dX3_fuseOf_4 rfl (lv_at hl 0 rfl) ?_
  refine gHouse_kind hC hw t0 wd47 dX3_fuseOf_5 ?_
  refine lv_iload_n hx hb dX3_fuseOf_8 rfl (lv_at hl 1 rfl) ?_
  obtain ⟨hin, hf⟩ := ok_chk hf
  refine z_iald hC hw (sH t0).2.1 hin dX3_fuseOf_9 ?_
  refine lv_iconst (v := 1) hx hb dX3_fuseOf_10 (by decide) ?_
  refine lv_isub hx hb dX3_fuseOf_11 ?_
  obtain ⟨hin, hf⟩ := ok_chk hf
  refine z_afuse hC hw hin dX3_fuseOf_12 ?_
  obtain ⟨a_1, en, hf⟩ := ok_lt hf
  refine z_nma en ?_
  clear en
  exact z_aretE hC hlocks hw hS hf hr dX3_fuseOf_13
set_option maxHeartbeats 4000000 in
set_option maxRecDepth 100000 in
theorem m_X3_isDead (l : Launch) (E : Ev) {a0 : Nat} {x1 : Int32} (t0 : isH a0) {s0 sz : St} {rz : Int32} (hf : f_X3_isDead a0 x1 s0 = some (rz, sz)) : MM l E sh2 yX3_isDead cX3_isDead 2 (some .boolean) (rmd 1) [.ref (E.2.2.1 a0), .int x1] s0 (some (.int rz)) sz := by
  unfold f_X3_isDead at hf
  refine z_enter (by decide +kernel) (Nat.le_of_ble_eq_true rfl) ?_
  intro p e s m args below meth c ls hC hr hlocks hw hS hl
  have hC : Cx p s m args c cX3_isDead 2 "FuseBox$House" E := hC
  obtain ⟨hx, hb, hml, hown, hts, hTB⟩ := id hC
  have hl : lv_has ls 2 [(0, .ref (E.2.2.1 a0)), (1, .int x1)] := hl
  refine lv_aload_n hx hb dX3_isDead_0 rfl (lv_at hl 0 rfl) ?_
  refine gHouse_dead hC hw t0 wd50 dX3_isDead_1 ?_
  refine lv_iload_n hx hb dX3_isDead_4 rfl (lv_at hl 1 rfl) ?_
  obtain ⟨hin, hf⟩ := ok_chk hf
  refine z_iald hC hw (sH t0).2.2.2.2.1 hin dX3_isDead_5 ?_
  obtain ⟨j14, ej14, hf⟩ := ok_lt hf
  have J14 : ∀ (k_1 : Int32) (s_2 : St), j14 k_1 s_2 = some (rz, sz) → ∀ (H : Heap) (locs : List Loc) (ls : Array Slot), lv_has ls 2 [] → World E sh2 s_2 H → va_S E.2.2.2 s.heap H locs → W p l e (rmd 1) s m args below meth c H locs 0 0 (MQ below (QW E sh2 (some (.int rz)) sz) args s 0 0 E.2.2.2) (F0 m 14 ls [.int k_1]) := by
    intro k_1 s_2 hf H locs ls hl hw hS
    subst ej14
    obtain ⟨hbo, hf⟩ := ok_chk hf
    exact z_iretE hC hlocks hw hS hf hr (narB hbo) dX3_isDead_14
  clear ej14
  have hif := ok_if hf
  refine lv_if_le (tgt := 13) hx hb dX3_isDead_6 (by decide) (fun hcd => ?_) (fun hcd => ?_)
  · have hf := hif.1 hcd
    clear hif
    refine lv_iconst (v := 0) hx hb dX3_isDead_13 (by decide) ?_
    exact J14 _ _ hf _ _ ls (lv_sub hl [] rfl) hw hS
  · have hf := hif.2 hcd
    clear hif
    refine lv_iconst (v := 1) hx hb dX3_isDead_9 (by decide) ?_
    refine lv_goto (tgt := 14) hx hb dX3_isDead_10 (by decide) ?_
    exact J14 _ _ hf _ _ ls (lv_sub hl [] rfl) hw hS
set_option maxHeartbeats 4000000 in
set_option maxRecDepth 100000 in
theorem m_X3_isLive (l : Launch) (E : Ev) {a0 : Nat} {x1 : Int32} (t0 : isH a0) {s0 sz : St} {rz : Int32} (hf : f_X3_isLive a0 x1 s0 = some (rz, sz)) : MM l E sh2 yX3_isLive cX3_isLive 2 (some .boolean) (rmd 1) [.ref (E.2.2.1 a0), .int x1] s0 (some (.int rz)) sz := by
  unfold f_X3_isLive at hf
  refine z_enter (by decide +kernel) (Nat.le_of_ble_eq_true rfl) ?_
  intro p e s m args below meth c ls hC hr hlocks hw hS hl
  have hC : Cx p s m args c cX3_isLive 2 "FuseBox$House" E := hC
  obtain ⟨hx, hb, hml, hown, hts, hTB⟩ := id hC
  have hl : lv_has ls 2 [(0, .ref (E.2.2.1 a0)), (1, .int x1)] := hl
  refine lv_aload_n hx hb dX3_isLive_0 rfl (lv_at hl 0 rfl) ?_
  refine gHouse_mainIn hC hw t0 wd45 dX3_isLive_1 ?_
  obtain ⟨j21, ej21, hf⟩ := ok_lt hf
  have J21 : ∀ (k_1 : Int32) (s_2 : St), j21 k_1 s_2 = some (rz, sz) → ∀ (H : Heap) (locs : List Loc) (ls : Array Slot), lv_has ls 2 [] → World E sh2 s_2 H → va_S E.2.2.2 s.heap H locs → W p l e (rmd 1) s m args below meth c H locs 0 0 (MQ below (QW E sh2 (some (.int rz)) sz) args s 0 0 E.2.2.2) (F0 m 21 ls [.int k_1]) := by
    intro k_1 s_2 hf H locs ls hl hw hS
    subst ej21
    obtain ⟨hbo, hf⟩ := ok_chk hf
    exact z_iretE hC hlocks hw hS hf hr (narB hbo) dX3_isLive_21
  clear ej21
  obtain ⟨j20, ej20, hf⟩ := ok_lt hf
  have J20 : ∀ (s_3 : St), j20 s_3 = some (rz, sz) → ∀ (H : Heap) (locs : List Loc) (ls : Array Slot), lv_has ls 2 [] → World E sh2 s_3 H → va_S E.2.2.2 s.heap H locs → W p l e (rmd 1) s m args below meth c H locs 0 0 (MQ below (QW E sh2 (some (.int rz)) sz) args s 0 0 E.2.2.2) (F0 m 20 ls []) := by
    intro s_3 hf H locs ls hl hw hS
    subst ej20
    refine lv_iconst (v := 0) hx hb dX3_isLive_20 (by decide) ?_
    exact J21 _ _ hf _ _ ls hl hw hS
  clear ej20
  have hif := ok_if hf
  refine lv_if_eq (tgt := 20) hx hb dX3_isLive_4 (by decide) (fun hcd => ?_) (fun hcd => ?_)
  · have hf := hif.1 hcd
    clear hif
    exact J20 _ hf _ _ ls (lv_sub hl [] rfl) hw hS
  · have hf := hif.2 hcd
    clear hif
    refine lv_aload_n hx hb dX3_isLive_7 rfl (lv_at hl 0 rfl) ?_
    refine gHouse_dead hC hw t0 wd50 dX3_isLive_8 ?_
    refine lv_iload_n hx hb dX3_isLive_11 rfl (lv_at hl 1 rfl) ?_
    obtain ⟨hin, hf⟩ := ok_chk hf
    refine z_iald hC hw (sH t0).2.2.2.2.1 hin dX3_isLive_12 ?_
    have hif := ok_if hf
    refine lv_if_ne (tgt := 20) hx hb dX3_isLive_13 (by decide) (fun hcd => ?_) (fun hcd => ?_)
    · have hf := hif.1 hcd
      clear hif
      exact J20 _ hf _ _ ls (lv_sub hl [] rfl) hw hS
    · have hf := hif.2 (fun q => q hcd)
      clear hif
      refine lv_iconst (v := 1) hx hb dX3_isLive_16 (by decide) ?_
      refine lv_goto (tgt := 21) hx hb dX3_isLive_17 (by decide) ?_
      exact J21 _ _ hf _ _ ls (lv_sub hl [] rfl) hw hS
set_option maxHeartbeats 4000000 in
set_option maxRecDepth 100000 in
theorem m_X3_isOn (l : Launch) (E : Ev) {a0 : Nat} {x1 : Int32} (t0 : isH a0) {s0 sz : St} {rz : Int32} (hf : f_X3_isOn a0 x1 s0 = some (rz, sz)) : MM l E sh2 yX3_isOn cX3_isOn 2 (some .boolean) (rmd 1) [.ref (E.2.2.1 a0), .int x1] s0 (some (.int rz)) sz := by
  unfold f_X3_isOn at hf
  refine z_enter (by decide +kernel) (Nat.le_of_ble_eq_true rfl) ?_
  intro p e s m args below meth c ls hC hr hlocks hw hS hl
  have hC : Cx p s m args c cX3_isOn 2 "FuseBox$House" E := hC
  obtain ⟨hx, hb, hml, hown, hts, hTB⟩ := id hC
  have hl : lv_has ls 2 [(0, .ref (E.2.2.1 a0)), (1, .int x1)] := hl
  refine lv_aload_n hx hb dX3_isOn_0 rfl (lv_at hl 0 rfl) ?_
  refine gHouse_on hC hw t0 wd46 dX3_isOn_1 ?_
  refine lv_iload_n hx hb dX3_isOn_4 rfl (lv_at hl 1 rfl) ?_
  refine lv_ishr hx hb dX3_isOn_5 ?_
  refine lv_iconst (v := 1) hx hb dX3_isOn_6 (by decide) ?_
  refine lv_iand hx hb dX3_isOn_7 ?_
  refine lv_iconst (v := 1) hx hb dX3_isOn_8 (by decide) ?_
  obtain ⟨j17, ej17, hf⟩ := ok_lt hf
  have J17 : ∀ (k_1 : Int32) (s_2 : St), j17 k_1 s_2 = some (rz, sz) → ∀ (H : Heap) (locs : List Loc) (ls : Array Slot), lv_has ls 2 [] → World E sh2 s_2 H → va_S E.2.2.2 s.heap H locs → W p l e (rmd 1) s m args below meth c H locs 0 0 (MQ below (QW E sh2 (some (.int rz)) sz) args s 0 0 E.2.2.2) (F0 m 17 ls [.int k_1]) := by
    intro k_1 s_2 hf H locs ls hl hw hS
    subst ej17
    obtain ⟨hbo, hf⟩ := ok_chk hf
    exact z_iretE hC hlocks hw hS hf hr (narB hbo) dX3_isOn_17
  clear ej17
  have hif := ok_if hf
  refine lv_icmp_ne (tgt := 16) hx hb dX3_isOn_9 (by decide) (fun hcd => ?_) (fun hcd => ?_)
  · have hf := hif.1 hcd
    clear hif
    refine lv_iconst (v := 0) hx hb dX3_isOn_16 (by decide) ?_
    exact J17 _ _ hf _ _ ls (lv_sub hl [] rfl) hw hS
  · have hf := hif.2 (fun q => q hcd)
    clear hif
    refine lv_iconst (v := 1) hx hb dX3_isOn_12 (by decide) ?_
    refine lv_goto (tgt := 17) hx hb dX3_isOn_13 (by decide) ?_
    exact J17 _ _ hf _ _ ls (lv_sub hl [] rfl) hw hS
set_option maxHeartbeats 4000000 in
set_option maxRecDepth 100000 in
theorem m_X3_runs (l : Launch) (E : Ev) {a0 : Nat} {x1 : Int32} (t0 : isH a0) {s0 sz : St} {rz : Int32} (hf : f_X3_runs a0 x1 s0 = some (rz, sz)) : MM l E sh2 yX3_runs cX3_runs 2 (some .boolean) (rmd 2) [.ref (E.2.2.1 a0), .int x1] s0 (some (.int rz)) sz := by
  unfold f_X3_runs at hf
  refine z_enter (by decide +kernel) (Nat.le_of_ble_eq_true rfl) ?_
  intro p e s m args below meth c ls hC hr hlocks hw hS hl
  have hC : Cx p s m args c cX3_runs 2 "FuseBox$House" E := hC
  obtain ⟨hx, hb, hml, hown, hts, hTB⟩ := id hC
  have hl : lv_has ls 2 [(0, .ref (E.2.2.1 a0)), (1, .int x1)] := hl
  refine lv_aload_n hx hb dX3_runs_0 rfl (lv_at hl 0 rfl) ?_
  refine lv_iload_n hx hb dX3_runs_1 rfl (lv_at hl 1 rfl) ?_
  obtain ⟨r_2, s_1, hc, hf⟩ := ok_bd hf
  refine z_cV hC hl.1 hw hS (As := [.int x1]) (rest := []) (m_X3_isOn l E t0 hc) (sH t0).1 rfl gc18 gc19 ⟨Nat.le_of_ble_eq_true rfl, Nat.le_of_ble_eq_true rfl⟩ ⟨Nat.le_of_ble_eq_true rfl, Nat.le_of_ble_eq_true rfl⟩ rfl rfl (Nat.le_of_ble_eq_true rfl) dX3_runs_2 (fun H locs hw hS => ?_)
  clear hc
  obtain ⟨j26, ej26, hf⟩ := ok_lt hf
  have J26 : ∀ (k_3 : Int32) (s_4 : St), j26 k_3 s_4 = some (rz, sz) → ∀ (H : Heap) (locs : List Loc) (ls : Array Slot), lv_has ls 2 [] → World E sh2 s_4 H → va_S E.2.2.2 s.heap H locs → W p l e (rmd 2) s m args below meth c H locs 0 0 (MQ below (QW E sh2 (some (.int rz)) sz) args s 0 0 E.2.2.2) (F0 m 26 ls [.int k_3]) := by
    intro k_3 s_4 hf H locs ls hl hw hS
    subst ej26
    obtain ⟨hbo, hf⟩ := ok_chk hf
    exact z_iretE hC hlocks hw hS hf hr (narB hbo) dX3_runs_26
  clear ej26
  obtain ⟨j25, ej25, hf⟩ := ok_lt hf
  have J25 : ∀ (s_5 : St), j25 s_5 = some (rz, sz) → ∀ (H : Heap) (locs : List Loc) (ls : Array Slot), lv_has ls 2 [] → World E sh2 s_5 H → va_S E.2.2.2 s.heap H locs → W p l e (rmd 2) s m args below meth c H locs 0 0 (MQ below (QW E sh2 (some (.int rz)) sz) args s 0 0 E.2.2.2) (F0 m 25 ls []) := by
    intro s_5 hf H locs ls hl hw hS
    subst ej25
    refine lv_iconst (v := 0) hx hb dX3_runs_25 (by decide) ?_
    exact J26 _ _ hf _ _ ls hl hw hS
  clear ej25
  have hif := ok_if hf
  refine lv_if_eq (tgt := 25) hx hb dX3_runs_5 (by decide) (fun hcd => ?_) (fun hcd => ?_)
  · have hf := hif.1 hcd
    clear hif
    exact J25 _ hf _ _ ls (lv_sub hl [] rfl) hw hS
  · have hf := hif.2 hcd
    clear hif
    refine lv_aload_n hx hb dX3_runs_8 rfl (lv_at hl 0 rfl) ?_
    refine lv_aload_n hx hb dX3_runs_9 rfl (lv_at hl 0 rfl) ?_
    refine gHouse_plugged hC hw t0 wd51 dX3_runs_10 ?_
    refine lv_iload_n hx hb dX3_runs_13 rfl (lv_at hl 1 rfl) ?_
    obtain ⟨hin, hf⟩ := ok_chk hf
    refine z_iald hC hw (sH t0).2.2.2.2.2.2.1 hin dX3_runs_14 ?_
    obtain ⟨r_7, s_6, hc, hf⟩ := ok_bd hf
    refine z_cV hC hl.1 hw hS (As := [.int (s_1 (a0 + 6) (x1).toNatClampNeg)]) (rest := []) (m_X3_isLive l E t0 hc) (sH t0).1 rfl gc20 gc21 ⟨Nat.le_of_ble_eq_true rfl, Nat.le_of_ble_eq_true rfl⟩ ⟨Nat.le_of_ble_eq_true rfl, Nat.le_of_ble_eq_true rfl⟩ rfl rfl (Nat.le_of_ble_eq_true rfl) dX3_runs_15 (fun H locs hw hS => ?_)
    clear hc
    have hif := ok_if hf
    refine lv_if_eq (tgt := 25) hx hb dX3_runs_18 (by decide) (fun hcd => ?_) (fun hcd => ?_)
    · have hf := hif.1 hcd
      clear hif
      exact J25 _ hf _ _ ls (lv_sub hl [] rfl) hw hS
    · have hf := hif.2 hcd
      clear hif
      refine lv_iconst (v := 1) hx hb dX3_runs_21 (by decide) ?_
      refine lv_goto (tgt := 26) hx hb dX3_runs_22 (by decide) ?_
      exact J26 _ _ hf _ _ ls (lv_sub hl [] rfl) hw hS
set_option maxHeartbeats 4000000 in
set_option maxRecDepth 100000 in
theorem m_X3_toggle (l : Launch) (E : Ev) {a0 : Nat} {x1 : Int32} (t0 : isH a0) {s0 sz : St} (hf : f_X3_toggle a0 x1 s0 = some sz) : MM l E sh2 yX3_toggle cX3_toggle 2 none (rmd 1) [.ref (E.2.2.1 a0), .int x1] s0 none sz := by
  unfold f_X3_toggle at hf
  refine z_enter (by decide +kernel) (Nat.le_of_ble_eq_true rfl) ?_
  intro p e s m args below meth c ls hC hr hlocks hw hS hl
  have hC : Cx p s m args c cX3_toggle 2 "FuseBox$House" E := hC
  obtain ⟨hx, hb, hml, hown, hts, hTB⟩ := id hC
  have hl : lv_has ls 2 [(0, .ref (E.2.2.1 a0)), (1, .int x1)] := hl
  refine lv_aload_n hx hb dX3_toggle_0 rfl (lv_at hl 0 rfl) ?_
  refine lv_dup hx hb dX3_toggle_1 rfl ?_
  refine gHouse_on hC hw t0 wd46 dX3_toggle_2 ?_
  refine lv_iconst (v := 1) hx hb dX3_toggle_5 (by decide) ?_
  refine lv_iload_n hx hb dX3_toggle_6 rfl (lv_at hl 1 rfl) ?_
  refine lv_ishl hx hb dX3_toggle_7 ?_
  refine lv_ixor hx hb dX3_toggle_8 ?_
  obtain ⟨s_1, en, hf⟩ := ok_lt hf
  refine pHouse_on hC hw hS t0 wd46 en dX3_toggle_9 (fun H locs hw hS => ?_)
  clear en
  exact z_vretE hC hlocks hw hS hf hr dX3_toggle_12
set_option maxHeartbeats 4000000 in
set_option maxRecDepth 100000 in
theorem m_X3_mendLine (l : Launch) (E : Ev) {a0 : Nat} {x1 : Int32} (t0 : isH a0) {s0 sz : St} (hf : f_X3_mendLine a0 x1 s0 = some sz) : MM l E sh2 yX3_mendLine cX3_mendLine 2 none (rmd 1) [.ref (E.2.2.1 a0), .int x1] s0 none sz := by
  unfold f_X3_mendLine at hf
  refine z_enter (by decide +kernel) (Nat.le_of_ble_eq_true rfl) ?_
  intro p e s m args below meth c ls hC hr hlocks hw hS hl
  have hC : Cx p s m args c cX3_mendLine 2 "FuseBox$House" E := hC
  obtain ⟨hx, hb, hml, hown, hts, hTB⟩ := id hC
  have hl : lv_has ls 2 [(0, .ref (E.2.2.1 a0)), (1, .int x1)] := hl
  refine lv_aload_n hx hb dX3_mendLine_0 rfl (lv_at hl 0 rfl) ?_
  refine gHouse_dead hC hw t0 wd50 dX3_mendLine_1 ?_
  refine lv_iload_n hx hb dX3_mendLine_4 rfl (lv_at hl 1 rfl) ?_
  refine lv_iconst (v := 0) hx hb dX3_mendLine_5 (by decide) ?_
  obtain ⟨hin, hf⟩ := ok_chk hf
  obtain ⟨s_1, en, hf⟩ := ok_lt hf
  refine z_iast hC hw hS (sH t0).2.2.2.2.1 hin en dX3_mendLine_6 (fun H locs hw hS => ?_)
  clear en
  refine lv_aload_n hx hb dX3_mendLine_7 rfl (lv_at hl 0 rfl) ?_
  refine gHouse_heat hC hw t0 wd49 dX3_mendLine_8 ?_
  refine lv_iload_n hx hb dX3_mendLine_11 rfl (lv_at hl 1 rfl) ?_
  refine lv_iconst (v := 0) hx hb dX3_mendLine_12 (by decide) ?_
  obtain ⟨hin, hf⟩ := ok_chk hf
  obtain ⟨s_2, en, hf⟩ := ok_lt hf
  refine z_iast hC hw hS (sH t0).2.2.2.1 hin en dX3_mendLine_13 (fun H locs hw hS => ?_)
  clear en
  exact z_vretE hC hlocks hw hS hf hr dX3_mendLine_14
set_option maxHeartbeats 4000000 in
set_option maxRecDepth 100000 in
theorem m_X3_deadLines (l : Launch) (E : Ev) {a0 : Nat} (t0 : isH a0) {s0 sz : St} {rz : Int32} (hf : f_X3_deadLines a0 s0 = some (rz, sz)) : MM l E sh2 yX3_deadLines cX3_deadLines 3 (some .int) (rmd 2) [.ref (E.2.2.1 a0)] s0 (some (.int rz)) sz := by
  unfold f_X3_deadLines at hf
  refine z_enter (by decide +kernel) (Nat.le_of_ble_eq_true rfl) ?_
  intro p e s m args below meth c ls hC hr hlocks hw hS hl
  have hC : Cx p s m args c cX3_deadLines 3 "FuseBox$House" E := hC
  obtain ⟨hx, hb, hml, hown, hts, hTB⟩ := id hC
  have hl : lv_has ls 3 [(0, .ref (E.2.2.1 a0))] := hl
  refine lv_iconst (v := 0) hx hb dX3_deadLines_0 (by decide) ?_
  obtain ⟨v1_1, en, hf⟩ := ok_lt hf
  refine z_nm en ?_
  clear en
  refine lv_istore_n (lv' := [(1, .int v1_1), (0, .ref (E.2.2.1 a0))]) hx hb dX3_deadLines_1 rfl hl (by decide) rfl (fun ls hl => ?_)
  refine lv_iconst (v := 0) hx hb dX3_deadLines_2 (by decide) ?_
  obtain ⟨v2_2, en, hf⟩ := ok_lt hf
  refine z_nm en ?_
  clear en
  refine lv_istore_n (lv' := [(2, .int v2_2), (1, .int v1_1), (0, .ref (E.2.2.1 a0))]) hx hb dX3_deadLines_3 rfl hl (by decide) rfl (fun ls hl => ?_)
  obtain ⟨r4, hL4, hf⟩ := ok_bind hf
  have X4_0 : ∀ (v1_6 : Int32) (s_7 : St), (v1_6, s_7) = r4 → ∀ (H : Heap) (locs : List Loc) (ls : Array Slot), lv_has ls 3 [(1, .int v1_6)] → World E sh2 s_7 H → va_S E.2.2.2 s.heap H locs → W p l e (rmd 2) s m args below meth c H locs 0 0 (MQ below (QW E sh2 (some (.int rz)) sz) args s 0 0 E.2.2.2) (F0 m 36 ls []) := by
    intro v1_6 s_7 er H locs ls hl hw hS
    subst er
    replace hf := ok_un2 hf
    refine lv_iload_n hx hb dX3_deadLines_36 rfl (lv_at hl 0 rfl) ?_
    exact z_iretE hC hlocks hw hS hf hr rfl dX3_deadLines_37
  have L4 : ∀ (n : Nat) (v1_3 : Int32) (v2_4 : Int32) (s_5 : St), loopF (f_X3_deadLines_L4 a0) n (v1_3, v2_4, s_5) = some r4 → ∀ (H : Heap) (locs : List Loc) (ls : Array Slot), lv_has ls 3 [(0, .ref (E.2.2.1 a0)), (1, .int v1_3), (2, .int v2_4)] → World E sh2 s_5 H → va_S E.2.2.2 s.heap H locs → W p l e (rmd 2) s m args below meth c H locs 0 0 (MQ below (QW E sh2 (some (.int rz)) sz) args s 0 0 E.2.2.2) (F0 m 4 ls []) := by
    intro n
    induction n with
    | zero =>
      intro v1_3 v2_4 s_5 hf
      exact nz hf
    | succ n ih4 =>
      intro v1_3 v2_4 s_5 hf H locs ls hl hw hS
      obtain ⟨xl4, hf, hi4, he4⟩ := ok_loop hf
      unfold f_X3_deadLines_L4 at hf
      replace hf := ok_un3 hf
      refine lv_iload_n hx hb dX3_deadLines_4 rfl (lv_at hl 2 rfl) ?_
      refine lv_aload_n hx hb dX3_deadLines_5 rfl (lv_at hl 0 rfl) ?_
      refine gHouse_lines hC hw t0 wd40 dX3_deadLines_6 ?_
      have hif := ok_if hf
      refine lv_icmp_ge (tgt := 36) hx hb dX3_deadLines_9 (by decide) (fun hcd => ?_) (fun hcd => ?_)
      · have hf := hif.1 hcd
        clear hif
        cases hf
        exact X4_0 _ _ (he4 _ rfl) _ _ ls (lv_sub hl [1] rfl) hw hS
      · have hf := hif.2 hcd
        clear hif
        refine lv_iload_n hx hb dX3_deadLines_12 rfl (lv_at hl 1 rfl) ?_
        refine lv_aload_n hx hb dX3_deadLines_13 rfl (lv_at hl 0 rfl) ?_
        refine lv_iload_n hx hb dX3_deadLines_14 rfl (lv_at hl 2 rfl) ?_
        obtain ⟨r_9, s_8, hc, hf⟩ := ok_bd hf
        refine z_cV hC hl.1 hw hS (As := [.int v2_4]) (rest := [.int v1_3]) (m_X3_isDead l E t0 hc) (sH t0).1 rfl gc22 gc23 ⟨Nat.le_of_ble_eq_true rfl, Nat.le_of_ble_eq_true rfl⟩ ⟨Nat.le_of_ble_eq_true rfl, Nat.le_of_ble_eq_true rfl⟩ rfl rfl (Nat.le_of_ble_eq_true rfl) dX3_deadLines_15 (fun H locs hw hS => ?_)
        clear hc
        obtain ⟨j28, ej28, hf⟩ := ok_lt hf
        have J28 : ∀ (k_10 : Int32) (s_11 : St), j28 k_10 s_11 = some xl4 → ∀ (H : Heap) (locs : List Loc) (ls : Array Slot), lv_has ls 3 [(0, .ref (E.2.2.1 a0)), (2, .int v2_4)] → World E sh2 s_11 H → va_S E.2.2.2 s.heap H locs → W p l e (rmd 2) s m args below meth c H locs 0 0 (MQ below (QW E sh2 (some (.int rz)) sz) args s 0 0 E.2.2.2) (F0 m 28 ls [.int k_10, .int v1_3]) := by
          intro k_10 s_11 hf H locs ls hl hw hS
          subst ej28
          refine lv_ior hx hb dX3_deadLines_28 ?_
          obtain ⟨v1_12, en, hf⟩ := ok_lt hf
          refine z_nm en ?_
          clear en
          refine lv_istore_n (lv' := [(1, .int v1_12), (0, .ref (E.2.2.1 a0)), (2, .int v2_4)]) hx hb dX3_deadLines_29 rfl hl (by decide) rfl (fun ls hl => ?_)
          obtain ⟨v2_13, en, hf⟩ := ok_lt hf
          refine lv_iinc (v := v2_13) (lv' := [(2, .int v2_13), (1, .int v1_12), (0, .ref (E.2.2.1 a0))]) hx hb dX3_deadLines_30 hl (k := 2) rfl (by rw [en]; rfl) (by decide) rfl (fun ls hl => ?_)
          clear en
          refine lv_goto (tgt := 4) hx hb dX3_deadLines_33 (by decide) ?_
          cases hf
          exact ih4 _ _ _ (hi4 _ rfl) _ _ ls (lv_sub hl [2, 1, 0] rfl) hw hS
        clear ej28
        have hif := ok_if hf
        refine lv_if_eq (tgt := 27) hx hb dX3_deadLines_18 (by decide) (fun hcd => ?_) (fun hcd => ?_)
        · have hf := hif.1 hcd
          clear hif
          refine lv_iconst (v := 0) hx hb dX3_deadLines_27 (by decide) ?_
          exact J28 _ _ hf _ _ ls (lv_sub hl [0, 2] rfl) hw hS
        · have hf := hif.2 hcd
          clear hif
          refine lv_iconst (v := 1) hx hb dX3_deadLines_21 (by decide) ?_
          refine lv_iload_n hx hb dX3_deadLines_22 rfl (lv_at hl 2 rfl) ?_
          refine lv_ishl hx hb dX3_deadLines_23 ?_
          refine lv_goto (tgt := 28) hx hb dX3_deadLines_24 (by decide) ?_
          exact J28 _ _ hf _ _ ls (lv_sub hl [0, 2] rfl) hw hS
  exact L4 5000 _ _ _ hL4 _ _ ls (lv_sub hl [2, 1, 0] rfl) hw hS
set_option maxHeartbeats 4000000 in
set_option maxRecDepth 100000 in
theorem m_X3_liveLines (l : Launch) (E : Ev) {a0 : Nat} (t0 : isH a0) {s0 sz : St} {rz : Int32} (hf : f_X3_liveLines a0 s0 = some (rz, sz)) : MM l E sh2 yX3_liveLines cX3_liveLines 3 (some .int) (rmd 2) [.ref (E.2.2.1 a0)] s0 (some (.int rz)) sz := by
  unfold f_X3_liveLines at hf
  refine z_enter (by decide +kernel) (Nat.le_of_ble_eq_true rfl) ?_
  intro p e s m args below meth c ls hC hr hlocks hw hS hl
  have hC : Cx p s m args c cX3_liveLines 3 "FuseBox$House" E := hC
  obtain ⟨hx, hb, hml, hown, hts, hTB⟩ := id hC
  have hl : lv_has ls 3 [(0, .ref (E.2.2.1 a0))] := hl
  refine lv_iconst (v := 0) hx hb dX3_liveLines_0 (by decide) ?_
  obtain ⟨v1_1, en, hf⟩ := ok_lt hf
  refine z_nm en ?_
  clear en
  refine lv_istore_n (lv' := [(1, .int v1_1), (0, .ref (E.2.2.1 a0))]) hx hb dX3_liveLines_1 rfl hl (by decide) rfl (fun ls hl => ?_)
  refine lv_iconst (v := 0) hx hb dX3_liveLines_2 (by decide) ?_
  obtain ⟨v2_2, en, hf⟩ := ok_lt hf
  refine z_nm en ?_
  clear en
  refine lv_istore_n (lv' := [(2, .int v2_2), (1, .int v1_1), (0, .ref (E.2.2.1 a0))]) hx hb dX3_liveLines_3 rfl hl (by decide) rfl (fun ls hl => ?_)
  obtain ⟨r4, hL4, hf⟩ := ok_bind hf
  have X4_0 : ∀ (v1_6 : Int32) (s_7 : St), (v1_6, s_7) = r4 → ∀ (H : Heap) (locs : List Loc) (ls : Array Slot), lv_has ls 3 [(1, .int v1_6)] → World E sh2 s_7 H → va_S E.2.2.2 s.heap H locs → W p l e (rmd 2) s m args below meth c H locs 0 0 (MQ below (QW E sh2 (some (.int rz)) sz) args s 0 0 E.2.2.2) (F0 m 36 ls []) := by
    intro v1_6 s_7 er H locs ls hl hw hS
    subst er
    replace hf := ok_un2 hf
    refine lv_iload_n hx hb dX3_liveLines_36 rfl (lv_at hl 0 rfl) ?_
    exact z_iretE hC hlocks hw hS hf hr rfl dX3_liveLines_37
  have L4 : ∀ (n : Nat) (v1_3 : Int32) (v2_4 : Int32) (s_5 : St), loopF (f_X3_liveLines_L4 a0) n (v1_3, v2_4, s_5) = some r4 → ∀ (H : Heap) (locs : List Loc) (ls : Array Slot), lv_has ls 3 [(0, .ref (E.2.2.1 a0)), (1, .int v1_3), (2, .int v2_4)] → World E sh2 s_5 H → va_S E.2.2.2 s.heap H locs → W p l e (rmd 2) s m args below meth c H locs 0 0 (MQ below (QW E sh2 (some (.int rz)) sz) args s 0 0 E.2.2.2) (F0 m 4 ls []) := by
    intro n
    induction n with
    | zero =>
      intro v1_3 v2_4 s_5 hf
      exact nz hf
    | succ n ih4 =>
      intro v1_3 v2_4 s_5 hf H locs ls hl hw hS
      obtain ⟨xl4, hf, hi4, he4⟩ := ok_loop hf
      unfold f_X3_liveLines_L4 at hf
      replace hf := ok_un3 hf
      refine lv_iload_n hx hb dX3_liveLines_4 rfl (lv_at hl 2 rfl) ?_
      refine lv_aload_n hx hb dX3_liveLines_5 rfl (lv_at hl 0 rfl) ?_
      refine gHouse_lines hC hw t0 wd40 dX3_liveLines_6 ?_
      have hif := ok_if hf
      refine lv_icmp_ge (tgt := 36) hx hb dX3_liveLines_9 (by decide) (fun hcd => ?_) (fun hcd => ?_)
      · have hf := hif.1 hcd
        clear hif
        cases hf
        exact X4_0 _ _ (he4 _ rfl) _ _ ls (lv_sub hl [1] rfl) hw hS
      · have hf := hif.2 hcd
        clear hif
        refine lv_iload_n hx hb dX3_liveLines_12 rfl (lv_at hl 1 rfl) ?_
        refine lv_aload_n hx hb dX3_liveLines_13 rfl (lv_at hl 0 rfl) ?_
        refine lv_iload_n hx hb dX3_liveLines_14 rfl (lv_at hl 2 rfl) ?_
        obtain ⟨r_9, s_8, hc, hf⟩ := ok_bd hf
        refine z_cV hC hl.1 hw hS (As := [.int v2_4]) (rest := [.int v1_3]) (m_X3_isLive l E t0 hc) (sH t0).1 rfl gc20 gc21 ⟨Nat.le_of_ble_eq_true rfl, Nat.le_of_ble_eq_true rfl⟩ ⟨Nat.le_of_ble_eq_true rfl, Nat.le_of_ble_eq_true rfl⟩ rfl rfl (Nat.le_of_ble_eq_true rfl) dX3_liveLines_15 (fun H locs hw hS => ?_)
        clear hc
        obtain ⟨j28, ej28, hf⟩ := ok_lt hf
        have J28 : ∀ (k_10 : Int32) (s_11 : St), j28 k_10 s_11 = some xl4 → ∀ (H : Heap) (locs : List Loc) (ls : Array Slot), lv_has ls 3 [(0, .ref (E.2.2.1 a0)), (2, .int v2_4)] → World E sh2 s_11 H → va_S E.2.2.2 s.heap H locs → W p l e (rmd 2) s m args below meth c H locs 0 0 (MQ below (QW E sh2 (some (.int rz)) sz) args s 0 0 E.2.2.2) (F0 m 28 ls [.int k_10, .int v1_3]) := by
          intro k_10 s_11 hf H locs ls hl hw hS
          subst ej28
          refine lv_ior hx hb dX3_liveLines_28 ?_
          obtain ⟨v1_12, en, hf⟩ := ok_lt hf
          refine z_nm en ?_
          clear en
          refine lv_istore_n (lv' := [(1, .int v1_12), (0, .ref (E.2.2.1 a0)), (2, .int v2_4)]) hx hb dX3_liveLines_29 rfl hl (by decide) rfl (fun ls hl => ?_)
          obtain ⟨v2_13, en, hf⟩ := ok_lt hf
          refine lv_iinc (v := v2_13) (lv' := [(2, .int v2_13), (1, .int v1_12), (0, .ref (E.2.2.1 a0))]) hx hb dX3_liveLines_30 hl (k := 2) rfl (by rw [en]; rfl) (by decide) rfl (fun ls hl => ?_)
          clear en
          refine lv_goto (tgt := 4) hx hb dX3_liveLines_33 (by decide) ?_
          cases hf
          exact ih4 _ _ _ (hi4 _ rfl) _ _ ls (lv_sub hl [2, 1, 0] rfl) hw hS
        clear ej28
        have hif := ok_if hf
        refine lv_if_eq (tgt := 27) hx hb dX3_liveLines_18 (by decide) (fun hcd => ?_) (fun hcd => ?_)
        · have hf := hif.1 hcd
          clear hif
          refine lv_iconst (v := 0) hx hb dX3_liveLines_27 (by decide) ?_
          exact J28 _ _ hf _ _ ls (lv_sub hl [0, 2] rfl) hw hS
        · have hf := hif.2 hcd
          clear hif
          refine lv_iconst (v := 1) hx hb dX3_liveLines_21 (by decide) ?_
          refine lv_iload_n hx hb dX3_liveLines_22 rfl (lv_at hl 2 rfl) ?_
          refine lv_ishl hx hb dX3_liveLines_23 ?_
          refine lv_goto (tgt := 28) hx hb dX3_liveLines_24 (by decide) ?_
          exact J28 _ _ hf _ _ ls (lv_sub hl [0, 2] rfl) hw hS
  exact L4 5000 _ _ _ hL4 _ _ ls (lv_sub hl [2, 1, 0] rfl) hw hS
set_option maxHeartbeats 4000000 in
set_option maxRecDepth 100000 in
theorem m_X3_runningThings (l : Launch) (E : Ev) {a0 : Nat} (t0 : isH a0) {s0 sz : St} {rz : Int32} (hf : f_X3_runningThings a0 s0 = some (rz, sz)) : MM l E sh2 yX3_runningThings cX3_runningThings 3 (some .int) (rmd 3) [.ref (E.2.2.1 a0)] s0 (some (.int rz)) sz := by
  unfold f_X3_runningThings at hf
  refine z_enter (by decide +kernel) (Nat.le_of_ble_eq_true rfl) ?_
  intro p e s m args below meth c ls hC hr hlocks hw hS hl
  have hC : Cx p s m args c cX3_runningThings 3 "FuseBox$House" E := hC
  obtain ⟨hx, hb, hml, hown, hts, hTB⟩ := id hC
  have hl : lv_has ls 3 [(0, .ref (E.2.2.1 a0))] := hl
  refine lv_iconst (v := 0) hx hb dX3_runningThings_0 (by decide) ?_
  obtain ⟨v1_1, en, hf⟩ := ok_lt hf
  refine z_nm en ?_
  clear en
  refine lv_istore_n (lv' := [(1, .int v1_1), (0, .ref (E.2.2.1 a0))]) hx hb dX3_runningThings_1 rfl hl (by decide) rfl (fun ls hl => ?_)
  refine lv_iconst (v := 0) hx hb dX3_runningThings_2 (by decide) ?_
  obtain ⟨v2_2, en, hf⟩ := ok_lt hf
  refine z_nm en ?_
  clear en
  refine lv_istore_n (lv' := [(2, .int v2_2), (1, .int v1_1), (0, .ref (E.2.2.1 a0))]) hx hb dX3_runningThings_3 rfl hl (by decide) rfl (fun ls hl => ?_)
  obtain ⟨r4, hL4, hf⟩ := ok_bind hf
  have X4_0 : ∀ (v1_6 : Int32) (s_7 : St), (v1_6, s_7) = r4 → ∀ (H : Heap) (locs : List Loc) (ls : Array Slot), lv_has ls 3 [(1, .int v1_6)] → World E sh2 s_7 H → va_S E.2.2.2 s.heap H locs → W p l e (rmd 3) s m args below meth c H locs 0 0 (MQ below (QW E sh2 (some (.int rz)) sz) args s 0 0 E.2.2.2) (F0 m 36 ls []) := by
    intro v1_6 s_7 er H locs ls hl hw hS
    subst er
    replace hf := ok_un2 hf
    refine lv_iload_n hx hb dX3_runningThings_36 rfl (lv_at hl 0 rfl) ?_
    exact z_iretE hC hlocks hw hS hf hr rfl dX3_runningThings_37
  have L4 : ∀ (n : Nat) (v1_3 : Int32) (v2_4 : Int32) (s_5 : St), loopF (f_X3_runningThings_L4 a0) n (v1_3, v2_4, s_5) = some r4 → ∀ (H : Heap) (locs : List Loc) (ls : Array Slot), lv_has ls 3 [(0, .ref (E.2.2.1 a0)), (1, .int v1_3), (2, .int v2_4)] → World E sh2 s_5 H → va_S E.2.2.2 s.heap H locs → W p l e (rmd 3) s m args below meth c H locs 0 0 (MQ below (QW E sh2 (some (.int rz)) sz) args s 0 0 E.2.2.2) (F0 m 4 ls []) := by
    intro n
    induction n with
    | zero =>
      intro v1_3 v2_4 s_5 hf
      exact nz hf
    | succ n ih4 =>
      intro v1_3 v2_4 s_5 hf H locs ls hl hw hS
      obtain ⟨xl4, hf, hi4, he4⟩ := ok_loop hf
      unfold f_X3_runningThings_L4 at hf
      replace hf := ok_un3 hf
      refine lv_iload_n hx hb dX3_runningThings_4 rfl (lv_at hl 2 rfl) ?_
      refine lv_aload_n hx hb dX3_runningThings_5 rfl (lv_at hl 0 rfl) ?_
      refine gHouse_things hC hw t0 wd41 dX3_runningThings_6 ?_
      have hif := ok_if hf
      refine lv_icmp_ge (tgt := 36) hx hb dX3_runningThings_9 (by decide) (fun hcd => ?_) (fun hcd => ?_)
      · have hf := hif.1 hcd
        clear hif
        cases hf
        exact X4_0 _ _ (he4 _ rfl) _ _ ls (lv_sub hl [1] rfl) hw hS
      · have hf := hif.2 hcd
        clear hif
        refine lv_iload_n hx hb dX3_runningThings_12 rfl (lv_at hl 1 rfl) ?_
        refine lv_aload_n hx hb dX3_runningThings_13 rfl (lv_at hl 0 rfl) ?_
        refine lv_iload_n hx hb dX3_runningThings_14 rfl (lv_at hl 2 rfl) ?_
        obtain ⟨r_9, s_8, hc, hf⟩ := ok_bd hf
        refine z_cV hC hl.1 hw hS (As := [.int v2_4]) (rest := [.int v1_3]) (m_X3_runs l E t0 hc) (sH t0).1 rfl gc24 gc25 ⟨Nat.le_of_ble_eq_true rfl, Nat.le_of_ble_eq_true rfl⟩ ⟨Nat.le_of_ble_eq_true rfl, Nat.le_of_ble_eq_true rfl⟩ rfl rfl (Nat.le_of_ble_eq_true rfl) dX3_runningThings_15 (fun H locs hw hS => ?_)
        clear hc
        obtain ⟨j28, ej28, hf⟩ := ok_lt hf
        have J28 : ∀ (k_10 : Int32) (s_11 : St), j28 k_10 s_11 = some xl4 → ∀ (H : Heap) (locs : List Loc) (ls : Array Slot), lv_has ls 3 [(0, .ref (E.2.2.1 a0)), (2, .int v2_4)] → World E sh2 s_11 H → va_S E.2.2.2 s.heap H locs → W p l e (rmd 3) s m args below meth c H locs 0 0 (MQ below (QW E sh2 (some (.int rz)) sz) args s 0 0 E.2.2.2) (F0 m 28 ls [.int k_10, .int v1_3]) := by
          intro k_10 s_11 hf H locs ls hl hw hS
          subst ej28
          refine lv_ior hx hb dX3_runningThings_28 ?_
          obtain ⟨v1_12, en, hf⟩ := ok_lt hf
          refine z_nm en ?_
          clear en
          refine lv_istore_n (lv' := [(1, .int v1_12), (0, .ref (E.2.2.1 a0)), (2, .int v2_4)]) hx hb dX3_runningThings_29 rfl hl (by decide) rfl (fun ls hl => ?_)
          obtain ⟨v2_13, en, hf⟩ := ok_lt hf
          refine lv_iinc (v := v2_13) (lv' := [(2, .int v2_13), (1, .int v1_12), (0, .ref (E.2.2.1 a0))]) hx hb dX3_runningThings_30 hl (k := 2) rfl (by rw [en]; rfl) (by decide) rfl (fun ls hl => ?_)
          clear en
          refine lv_goto (tgt := 4) hx hb dX3_runningThings_33 (by decide) ?_
          cases hf
          exact ih4 _ _ _ (hi4 _ rfl) _ _ ls (lv_sub hl [2, 1, 0] rfl) hw hS
        clear ej28
        have hif := ok_if hf
        refine lv_if_eq (tgt := 27) hx hb dX3_runningThings_18 (by decide) (fun hcd => ?_) (fun hcd => ?_)
        · have hf := hif.1 hcd
          clear hif
          refine lv_iconst (v := 0) hx hb dX3_runningThings_27 (by decide) ?_
          exact J28 _ _ hf _ _ ls (lv_sub hl [0, 2] rfl) hw hS
        · have hf := hif.2 hcd
          clear hif
          refine lv_iconst (v := 1) hx hb dX3_runningThings_21 (by decide) ?_
          refine lv_iload_n hx hb dX3_runningThings_22 rfl (lv_at hl 2 rfl) ?_
          refine lv_ishl hx hb dX3_runningThings_23 ?_
          refine lv_goto (tgt := 28) hx hb dX3_runningThings_24 (by decide) ?_
          exact J28 _ _ hf _ _ ls (lv_sub hl [0, 2] rfl) hw hS
  exact L4 5000 _ _ _ hL4 _ _ ls (lv_sub hl [2, 1, 0] rfl) hw hS
set_option maxHeartbeats 4000000 in
set_option maxRecDepth 100000 in
theorem m_X3_pluggedInto (l : Launch) (E : Ev) {a0 : Nat} {x1 : Int32} (t0 : isH a0) {s0 sz : St} {rz : Int32} (hf : f_X3_pluggedInto a0 x1 s0 = some (rz, sz)) : MM l E sh2 yX3_pluggedInto cX3_pluggedInto 4 (some .int) (rmd 1) [.ref (E.2.2.1 a0), .int x1] s0 (some (.int rz)) sz := by
  unfold f_X3_pluggedInto at hf
  refine z_enter (by decide +kernel) (Nat.le_of_ble_eq_true rfl) ?_
  intro p e s m args below meth c ls hC hr hlocks hw hS hl
  have hC : Cx p s m args c cX3_pluggedInto 4 "FuseBox$House" E := hC
  obtain ⟨hx, hb, hml, hown, hts, hTB⟩ := id hC
  have hl : lv_has ls 4 [(0, .ref (E.2.2.1 a0)), (1, .int x1)] := hl
  refine lv_iconst (v := 0) hx hb dX3_pluggedInto_0 (by decide) ?_
  obtain ⟨v2_1, en, hf⟩ := ok_lt hf
  refine z_nm en ?_
  clear en
  refine lv_istore_n (lv' := [(2, .int v2_1), (0, .ref (E.2.2.1 a0)), (1, .int x1)]) hx hb dX3_pluggedInto_1 rfl hl (by decide) rfl (fun ls hl => ?_)
  refine lv_iconst (v := 0) hx hb dX3_pluggedInto_2 (by decide) ?_
  obtain ⟨v3_2, en, hf⟩ := ok_lt hf
  refine z_nm en ?_
  clear en
  refine lv_istore_n (lv' := [(3, .int v3_2), (2, .int v2_1), (0, .ref (E.2.2.1 a0)), (1, .int x1)]) hx hb dX3_pluggedInto_3 rfl hl (by decide) rfl (fun ls hl => ?_)
  obtain ⟨r4, hL4, hf⟩ := ok_bind hf
  have X4_0 : ∀ (v2_6 : Int32) (s_7 : St), (v2_6, s_7) = r4 → ∀ (H : Heap) (locs : List Loc) (ls : Array Slot), lv_has ls 4 [(2, .int v2_6)] → World E sh2 s_7 H → va_S E.2.2.2 s.heap H locs → W p l e (rmd 1) s m args below meth c H locs 0 0 (MQ below (QW E sh2 (some (.int rz)) sz) args s 0 0 E.2.2.2) (F0 m 38 ls []) := by
    intro v2_6 s_7 er H locs ls hl hw hS
    subst er
    replace hf := ok_un2 hf
    refine lv_iload_n hx hb dX3_pluggedInto_38 rfl (lv_at hl 0 rfl) ?_
    exact z_iretE hC hlocks hw hS hf hr rfl dX3_pluggedInto_39
  have L4 : ∀ (n : Nat) (v2_3 : Int32) (v3_4 : Int32) (s_5 : St), loopF (f_X3_pluggedInto_L4 a0 x1) n (v2_3, v3_4, s_5) = some r4 → ∀ (H : Heap) (locs : List Loc) (ls : Array Slot), lv_has ls 4 [(0, .ref (E.2.2.1 a0)), (1, .int x1), (2, .int v2_3), (3, .int v3_4)] → World E sh2 s_5 H → va_S E.2.2.2 s.heap H locs → W p l e (rmd 1) s m args below meth c H locs 0 0 (MQ below (QW E sh2 (some (.int rz)) sz) args s 0 0 E.2.2.2) (F0 m 4 ls []) := by
    intro n
    induction n with
    | zero =>
      intro v2_3 v3_4 s_5 hf
      exact nz hf
    | succ n ih4 =>
      intro v2_3 v3_4 s_5 hf H locs ls hl hw hS
      obtain ⟨xl4, hf, hi4, he4⟩ := ok_loop hf
      unfold f_X3_pluggedInto_L4 at hf
      replace hf := ok_un3 hf
      refine lv_iload_n hx hb dX3_pluggedInto_4 rfl (lv_at hl 3 rfl) ?_
      refine lv_aload_n hx hb dX3_pluggedInto_5 rfl (lv_at hl 0 rfl) ?_
      refine gHouse_things hC hw t0 wd41 dX3_pluggedInto_6 ?_
      have hif := ok_if hf
      refine lv_icmp_ge (tgt := 38) hx hb dX3_pluggedInto_9 (by decide) (fun hcd => ?_) (fun hcd => ?_)
      · have hf := hif.1 hcd
        clear hif
        cases hf
        exact X4_0 _ _ (he4 _ rfl) _ _ ls (lv_sub hl [2] rfl) hw hS
      · have hf := hif.2 hcd
        clear hif
        refine lv_iload_n hx hb dX3_pluggedInto_12 rfl (lv_at hl 2 rfl) ?_
        refine lv_aload_n hx hb dX3_pluggedInto_13 rfl (lv_at hl 0 rfl) ?_
        refine gHouse_plugged hC hw t0 wd51 dX3_pluggedInto_14 ?_
        refine lv_iload_n hx hb dX3_pluggedInto_17 rfl (lv_at hl 3 rfl) ?_
        obtain ⟨hin, hf⟩ := ok_chk hf
        refine z_iald hC hw (sH t0).2.2.2.2.2.2.1 hin dX3_pluggedInto_18 ?_
        refine lv_iload_n hx hb dX3_pluggedInto_19 rfl (lv_at hl 1 rfl) ?_
        obtain ⟨j30, ej30, hf⟩ := ok_lt hf
        have J30 : ∀ (k_8 : Int32) (s_9 : St), j30 k_8 s_9 = some xl4 → ∀ (H : Heap) (locs : List Loc) (ls : Array Slot), lv_has ls 4 [(0, .ref (E.2.2.1 a0)), (1, .int x1), (3, .int v3_4)] → World E sh2 s_9 H → va_S E.2.2.2 s.heap H locs → W p l e (rmd 1) s m args below meth c H locs 0 0 (MQ below (QW E sh2 (some (.int rz)) sz) args s 0 0 E.2.2.2) (F0 m 30 ls [.int k_8, .int v2_3]) := by
          intro k_8 s_9 hf H locs ls hl hw hS
          subst ej30
          refine lv_ior hx hb dX3_pluggedInto_30 ?_
          obtain ⟨v2_10, en, hf⟩ := ok_lt hf
          refine z_nm en ?_
          clear en
          refine lv_istore_n (lv' := [(2, .int v2_10), (0, .ref (E.2.2.1 a0)), (1, .int x1), (3, .int v3_4)]) hx hb dX3_pluggedInto_31 rfl hl (by decide) rfl (fun ls hl => ?_)
          obtain ⟨v3_11, en, hf⟩ := ok_lt hf
          refine lv_iinc (v := v3_11) (lv' := [(3, .int v3_11), (2, .int v2_10), (0, .ref (E.2.2.1 a0)), (1, .int x1)]) hx hb dX3_pluggedInto_32 hl (k := 3) rfl (by rw [en]; rfl) (by decide) rfl (fun ls hl => ?_)
          clear en
          refine lv_goto (tgt := 4) hx hb dX3_pluggedInto_35 (by decide) ?_
          cases hf
          exact ih4 _ _ _ (hi4 _ rfl) _ _ ls (lv_sub hl [2, 3, 1, 0] rfl) hw hS
        clear ej30
        have hif := ok_if hf
        refine lv_icmp_ne (tgt := 29) hx hb dX3_pluggedInto_20 (by decide) (fun hcd => ?_) (fun hcd => ?_)
        · have hf := hif.1 hcd
          clear hif
          refine lv_iconst (v := 0) hx hb dX3_pluggedInto_29 (by decide) ?_
          exact J30 _ _ hf _ _ ls (lv_sub hl [0, 1, 3] rfl) hw hS
        · have hf := hif.2 (fun q => q hcd)
          clear hif
          refine lv_iconst (v := 1) hx hb dX3_pluggedInto_23 (by decide) ?_
          refine lv_iload_n hx hb dX3_pluggedInto_24 rfl (lv_at hl 3 rfl) ?_
          refine lv_ishl hx hb dX3_pluggedInto_25 ?_
          refine lv_goto (tgt := 30) hx hb dX3_pluggedInto_26 (by decide) ?_
          exact J30 _ _ hf _ _ ls (lv_sub hl [0, 1, 3] rfl) hw hS
  exact L4 5000 _ _ _ hL4 _ _ ls (lv_sub hl [2, 3, 1, 0] rfl) hw hS
set_option maxHeartbeats 4000000 in
set_option maxRecDepth 100000 in
theorem m_X3_loadThatIsOn (l : Launch) (E : Ev) {a0 : Nat} (t0 : isH a0) {s0 sz : St} {rz : Int32} (hf : f_X3_loadThatIsOn a0 s0 = some (rz, sz)) : MM l E sh2 yX3_loadThatIsOn cX3_loadThatIsOn 3 (some .int) (rmd 2) [.ref (E.2.2.1 a0)] s0 (some (.int rz)) sz := by
  unfold f_X3_loadThatIsOn at hf
  refine z_enter (by decide +kernel) (Nat.le_of_ble_eq_true rfl) ?_
  intro p e s m args below meth c ls hC hr hlocks hw hS hl
  have hC : Cx p s m args c cX3_loadThatIsOn 3 "FuseBox$House" E := hC
  obtain ⟨hx, hb, hml, hown, hts, hTB⟩ := id hC
  have hl : lv_has ls 3 [(0, .ref (E.2.2.1 a0))] := hl
  refine lv_iconst (v := 0) hx hb dX3_loadThatIsOn_0 (by decide) ?_
  obtain ⟨v1_1, en, hf⟩ := ok_lt hf
  refine z_nm en ?_
  clear en
  refine lv_istore_n (lv' := [(1, .int v1_1), (0, .ref (E.2.2.1 a0))]) hx hb dX3_loadThatIsOn_1 rfl hl (by decide) rfl (fun ls hl => ?_)
  refine lv_iconst (v := 0) hx hb dX3_loadThatIsOn_2 (by decide) ?_
  obtain ⟨v2_2, en, hf⟩ := ok_lt hf
  refine z_nm en ?_
  clear en
  refine lv_istore_n (lv' := [(2, .int v2_2), (1, .int v1_1), (0, .ref (E.2.2.1 a0))]) hx hb dX3_loadThatIsOn_3 rfl hl (by decide) rfl (fun ls hl => ?_)
  obtain ⟨r4, hL4, hf⟩ := ok_bind hf
  have X4_0 : ∀ (v1_6 : Int32) (s_7 : St), (v1_6, s_7) = r4 → ∀ (H : Heap) (locs : List Loc) (ls : Array Slot), lv_has ls 3 [(1, .int v1_6)] → World E sh2 s_7 H → va_S E.2.2.2 s.heap H locs → W p l e (rmd 2) s m args below meth c H locs 0 0 (MQ below (QW E sh2 (some (.int rz)) sz) args s 0 0 E.2.2.2) (F0 m 39 ls []) := by
    intro v1_6 s_7 er H locs ls hl hw hS
    subst er
    replace hf := ok_un2 hf
    refine lv_iload_n hx hb dX3_loadThatIsOn_39 rfl (lv_at hl 0 rfl) ?_
    exact z_iretE hC hlocks hw hS hf hr rfl dX3_loadThatIsOn_40
  have L4 : ∀ (n : Nat) (v1_3 : Int32) (v2_4 : Int32) (s_5 : St), loopF (f_X3_loadThatIsOn_L4 a0) n (v1_3, v2_4, s_5) = some r4 → ∀ (H : Heap) (locs : List Loc) (ls : Array Slot), lv_has ls 3 [(0, .ref (E.2.2.1 a0)), (1, .int v1_3), (2, .int v2_4)] → World E sh2 s_5 H → va_S E.2.2.2 s.heap H locs → W p l e (rmd 2) s m args below meth c H locs 0 0 (MQ below (QW E sh2 (some (.int rz)) sz) args s 0 0 E.2.2.2) (F0 m 4 ls []) := by
    intro n
    induction n with
    | zero =>
      intro v1_3 v2_4 s_5 hf
      exact nz hf
    | succ n ih4 =>
      intro v1_3 v2_4 s_5 hf H locs ls hl hw hS
      obtain ⟨xl4, hf, hi4, he4⟩ := ok_loop hf
      unfold f_X3_loadThatIsOn_L4 at hf
      replace hf := ok_un3 hf
      refine lv_iload_n hx hb dX3_loadThatIsOn_4 rfl (lv_at hl 2 rfl) ?_
      refine lv_aload_n hx hb dX3_loadThatIsOn_5 rfl (lv_at hl 0 rfl) ?_
      refine gHouse_things hC hw t0 wd41 dX3_loadThatIsOn_6 ?_
      have hif := ok_if hf
      refine lv_icmp_ge (tgt := 39) hx hb dX3_loadThatIsOn_9 (by decide) (fun hcd => ?_) (fun hcd => ?_)
      · have hf := hif.1 hcd
        clear hif
        cases hf
        exact X4_0 _ _ (he4 _ rfl) _ _ ls (lv_sub hl [1] rfl) hw hS
      · have hf := hif.2 hcd
        clear hif
        refine lv_iload_n hx hb dX3_loadThatIsOn_12 rfl (lv_at hl 1 rfl) ?_
        refine lv_aload_n hx hb dX3_loadThatIsOn_13 rfl (lv_at hl 0 rfl) ?_
        refine lv_iload_n hx hb dX3_loadThatIsOn_14 rfl (lv_at hl 2 rfl) ?_
        obtain ⟨r_9, s_8, hc, hf⟩ := ok_bd hf
        refine z_cV hC hl.1 hw hS (As := [.int v2_4]) (rest := [.int v1_3]) (m_X3_isOn l E t0 hc) (sH t0).1 rfl gc18 gc19 ⟨Nat.le_of_ble_eq_true rfl, Nat.le_of_ble_eq_true rfl⟩ ⟨Nat.le_of_ble_eq_true rfl, Nat.le_of_ble_eq_true rfl⟩ rfl rfl (Nat.le_of_ble_eq_true rfl) dX3_loadThatIsOn_15 (fun H locs hw hS => ?_)
        clear hc
        obtain ⟨j31, ej31, hf⟩ := ok_lt hf
        have J31 : ∀ (k_10 : Int32) (s_11 : St), j31 k_10 s_11 = some xl4 → ∀ (H : Heap) (locs : List Loc) (ls : Array Slot), lv_has ls 3 [(0, .ref (E.2.2.1 a0)), (2, .int v2_4)] → World E sh2 s_11 H → va_S E.2.2.2 s.heap H locs → W p l e (rmd 2) s m args below meth c H locs 0 0 (MQ below (QW E sh2 (some (.int rz)) sz) args s 0 0 E.2.2.2) (F0 m 31 ls [.int k_10, .int v1_3]) := by
          intro k_10 s_11 hf H locs ls hl hw hS
          subst ej31
          refine lv_iadd hx hb dX3_loadThatIsOn_31 ?_
          obtain ⟨v1_12, en, hf⟩ := ok_lt hf
          refine z_nm en ?_
          clear en
          refine lv_istore_n (lv' := [(1, .int v1_12), (0, .ref (E.2.2.1 a0)), (2, .int v2_4)]) hx hb dX3_loadThatIsOn_32 rfl hl (by decide) rfl (fun ls hl => ?_)
          obtain ⟨v2_13, en, hf⟩ := ok_lt hf
          refine lv_iinc (v := v2_13) (lv' := [(2, .int v2_13), (1, .int v1_12), (0, .ref (E.2.2.1 a0))]) hx hb dX3_loadThatIsOn_33 hl (k := 2) rfl (by rw [en]; rfl) (by decide) rfl (fun ls hl => ?_)
          clear en
          refine lv_goto (tgt := 4) hx hb dX3_loadThatIsOn_36 (by decide) ?_
          cases hf
          exact ih4 _ _ _ (hi4 _ rfl) _ _ ls (lv_sub hl [2, 1, 0] rfl) hw hS
        clear ej31
        have hif := ok_if hf
        refine lv_if_eq (tgt := 30) hx hb dX3_loadThatIsOn_18 (by decide) (fun hcd => ?_) (fun hcd => ?_)
        · have hf := hif.1 hcd
          clear hif
          refine lv_iconst (v := 0) hx hb dX3_loadThatIsOn_30 (by decide) ?_
          exact J31 _ _ hf _ _ ls (lv_sub hl [0, 2] rfl) hw hS
        · have hf := hif.2 hcd
          clear hif
          refine lv_aload_n hx hb dX3_loadThatIsOn_21 rfl (lv_at hl 0 rfl) ?_
          refine gHouse_load hC hw t0 wd52 dX3_loadThatIsOn_22 ?_
          refine lv_iload_n hx hb dX3_loadThatIsOn_25 rfl (lv_at hl 2 rfl) ?_
          obtain ⟨hin, hf⟩ := ok_chk hf
          refine z_iald hC hw (sH t0).2.2.2.2.2.2.2 hin dX3_loadThatIsOn_26 ?_
          refine lv_goto (tgt := 31) hx hb dX3_loadThatIsOn_27 (by decide) ?_
          exact J31 _ _ hf _ _ ls (lv_sub hl [0, 2] rfl) hw hS
  exact L4 5000 _ _ _ hL4 _ _ ls (lv_sub hl [2, 1, 0] rfl) hw hS
set_option maxHeartbeats 4000000 in
set_option maxRecDepth 100000 in
theorem m_X3_reckonFlows (l : Launch) (E : Ev) {a0 : Nat} (t0 : isH a0) {s0 sz : St} {rz : Int32} (hf : f_X3_reckonFlows a0 s0 = some (rz, sz)) : MM l E sh2 yX3_reckonFlows cX3_reckonFlows 3 (some .int) (rmd 3) [.ref (E.2.2.1 a0)] s0 (some (.int rz)) sz := by
  unfold f_X3_reckonFlows at hf
  refine z_enter (by decide +kernel) (Nat.le_of_ble_eq_true rfl) ?_
  intro p e s m args below meth c ls hC hr hlocks hw hS hl
  have hC : Cx p s m args c cX3_reckonFlows 3 "FuseBox$House" E := hC
  obtain ⟨hx, hb, hml, hown, hts, hTB⟩ := id hC
  have hl : lv_has ls 3 [(0, .ref (E.2.2.1 a0))] := hl
  refine lv_iconst (v := 0) hx hb dX3_reckonFlows_0 (by decide) ?_
  obtain ⟨v1_1, en, hf⟩ := ok_lt hf
  refine z_nm en ?_
  clear en
  refine lv_istore_n (lv' := [(1, .int v1_1), (0, .ref (E.2.2.1 a0))]) hx hb dX3_reckonFlows_1 rfl hl (by decide) rfl (fun ls hl => ?_)
  refine lv_iconst (v := 0) hx hb dX3_reckonFlows_2 (by decide) ?_
  obtain ⟨v2_2, en, hf⟩ := ok_lt hf
  refine z_nm en ?_
  clear en
  refine lv_istore_n (lv' := [(2, .int v2_2), (1, .int v1_1), (0, .ref (E.2.2.1 a0))]) hx hb dX3_reckonFlows_3 rfl hl (by decide) rfl (fun ls hl => ?_)
  obtain ⟨r4, hL4, hf⟩ := ok_bind hf
  have X4_0 : ∀ (s_5 : St), s_5 = r4 → ∀ (H : Heap) (locs : List Loc) (ls : Array Slot), lv_has ls 3 [(0, .ref (E.2.2.1 a0)), (1, .int v1_1)] → World E sh2 s_5 H → va_S E.2.2.2 s.heap H locs → W p l e (rmd 3) s m args below meth c H locs 0 0 (MQ below (QW E sh2 (some (.int rz)) sz) args s 0 0 E.2.2.2) (F0 m 25 ls []) := by
    intro s_5 er H locs ls hl hw hS
    subst er
    replace hf := ok_un1 hf
    refine lv_iconst (v := 0) hx hb dX3_reckonFlows_25 (by decide) ?_
    obtain ⟨v2_6, en, hf⟩ := ok_lt hf
    refine z_nm en ?_
    clear en
    refine lv_istore_n (lv' := [(2, .int v2_6), (0, .ref (E.2.2.1 a0)), (1, .int v1_1)]) hx hb dX3_reckonFlows_26 rfl hl (by decide) rfl (fun ls hl => ?_)
    obtain ⟨r27, hL27, hf⟩ := ok_bind hf
    have X27_0 : ∀ (v1_10 : Int32) (s_11 : St), (v1_10, s_11) = r27 → ∀ (H : Heap) (locs : List Loc) (ls : Array Slot), lv_has ls 3 [(1, .int v1_10)] → World E sh2 s_11 H → va_S E.2.2.2 s.heap H locs → W p l e (rmd 3) s m args below meth c H locs 0 0 (MQ below (QW E sh2 (some (.int rz)) sz) args s 0 0 E.2.2.2) (F0 m 78 ls []) := by
      intro v1_10 s_11 er H locs ls hl hw hS
      subst er
      replace hf := ok_un2 hf
      refine lv_iload_n hx hb dX3_reckonFlows_78 rfl (lv_at hl 0 rfl) ?_
      exact z_iretE hC hlocks hw hS hf hr rfl dX3_reckonFlows_79
    have L27 : ∀ (n : Nat) (v1_7 : Int32) (v2_8 : Int32) (s_9 : St), loopF (f_X3_reckonFlows_L27 a0) n (v1_7, v2_8, s_9) = some r27 → ∀ (H : Heap) (locs : List Loc) (ls : Array Slot), lv_has ls 3 [(0, .ref (E.2.2.1 a0)), (1, .int v1_7), (2, .int v2_8)] → World E sh2 s_9 H → va_S E.2.2.2 s.heap H locs → W p l e (rmd 3) s m args below meth c H locs 0 0 (MQ below (QW E sh2 (some (.int rz)) sz) args s 0 0 E.2.2.2) (F0 m 27 ls []) := by
      intro n
      induction n with
      | zero =>
        intro v1_7 v2_8 s_9 hf
        exact nz hf
      | succ n ih27 =>
        intro v1_7 v2_8 s_9 hf H locs ls hl hw hS
        obtain ⟨xl27, hf, hi27, he27⟩ := ok_loop hf
        unfold f_X3_reckonFlows_L27 at hf
        replace hf := ok_un3 hf
        refine lv_iload_n hx hb dX3_reckonFlows_27 rfl (lv_at hl 2 rfl) ?_
        refine lv_aload_n hx hb dX3_reckonFlows_28 rfl (lv_at hl 0 rfl) ?_
        refine gHouse_things hC hw t0 wd41 dX3_reckonFlows_29 ?_
        have hif := ok_if hf
        refine lv_icmp_ge (tgt := 78) hx hb dX3_reckonFlows_32 (by decide) (fun hcd => ?_) (fun hcd => ?_)
        · have hf := hif.1 hcd
          clear hif
          cases hf
          exact X27_0 _ _ (he27 _ rfl) _ _ ls (lv_sub hl [1] rfl) hw hS
        · have hf := hif.2 hcd
          clear hif
          refine lv_aload_n hx hb dX3_reckonFlows_35 rfl (lv_at hl 0 rfl) ?_
          refine lv_iload_n hx hb dX3_reckonFlows_36 rfl (lv_at hl 2 rfl) ?_
          obtain ⟨r_13, s_12, hc, hf⟩ := ok_bd hf
          refine z_cV hC hl.1 hw hS (As := [.int v2_8]) (rest := []) (m_X3_runs l E t0 hc) (sH t0).1 rfl gc24 gc25 ⟨Nat.le_of_ble_eq_true rfl, Nat.le_of_ble_eq_true rfl⟩ ⟨Nat.le_of_ble_eq_true rfl, Nat.le_of_ble_eq_true rfl⟩ rfl rfl (Nat.le_of_ble_eq_true rfl) dX3_reckonFlows_37 (fun H locs hw hS => ?_)
          clear hc
          obtain ⟨j72, ej72, hf⟩ := ok_lt hf
          have J72 : ∀ (v1_14 : Int32) (s_15 : St), j72 v1_14 s_15 = some xl27 → ∀ (H : Heap) (locs : List Loc) (ls : Array Slot), lv_has ls 3 [(0, .ref (E.2.2.1 a0)), (1, .int v1_14), (2, .int v2_8)] → World E sh2 s_15 H → va_S E.2.2.2 s.heap H locs → W p l e (rmd 3) s m args below meth c H locs 0 0 (MQ below (QW E sh2 (some (.int rz)) sz) args s 0 0 E.2.2.2) (F0 m 72 ls []) := by
            intro v1_14 s_15 hf H locs ls hl hw hS
            subst ej72
            obtain ⟨v2_16, en, hf⟩ := ok_lt hf
            refine lv_iinc (v := v2_16) (lv' := [(2, .int v2_16), (0, .ref (E.2.2.1 a0)), (1, .int v1_14)]) hx hb dX3_reckonFlows_72 hl (k := 2) rfl (by rw [en]; rfl) (by decide) rfl (fun ls hl => ?_)
            clear en
            refine lv_goto (tgt := 27) hx hb dX3_reckonFlows_75 (by decide) ?_
            cases hf
            exact ih27 _ _ _ (hi27 _ rfl) _ _ ls (lv_sub hl [1, 2, 0] rfl) hw hS
          clear ej72
          have hif := ok_if hf
          refine lv_if_eq (tgt := 72) hx hb dX3_reckonFlows_40 (by decide) (fun hcd => ?_) (fun hcd => ?_)
          · have hf := hif.1 hcd
            clear hif
            exact J72 _ _ hf _ _ ls hl hw hS
          · have hf := hif.2 hcd
            clear hif
            refine lv_aload_n hx hb dX3_reckonFlows_43 rfl (lv_at hl 0 rfl) ?_
            refine gHouse_flow hC hw t0 wd75 dX3_reckonFlows_44 ?_
            refine lv_aload_n hx hb dX3_reckonFlows_47 rfl (lv_at hl 0 rfl) ?_
            refine gHouse_plugged hC hw t0 wd51 dX3_reckonFlows_48 ?_
            refine lv_iload_n hx hb dX3_reckonFlows_51 rfl (lv_at hl 2 rfl) ?_
            obtain ⟨hin, hf⟩ := ok_chk hf
            refine z_iald hC hw (sH t0).2.2.2.2.2.2.1 hin dX3_reckonFlows_52 ?_
            refine lv_dup2_11 hx hb dX3_reckonFlows_53 rfl rfl ?_
            obtain ⟨hin, hf⟩ := ok_chk hf
            refine z_iald hC hw (sH t0).2.2.2.2.2.1 hin dX3_reckonFlows_54 ?_
            refine lv_aload_n hx hb dX3_reckonFlows_55 rfl (lv_at hl 0 rfl) ?_
            refine gHouse_load hC hw t0 wd52 dX3_reckonFlows_56 ?_
            refine lv_iload_n hx hb dX3_reckonFlows_59 rfl (lv_at hl 2 rfl) ?_
            obtain ⟨hin, hf⟩ := ok_chk hf
            refine z_iald hC hw (sH t0).2.2.2.2.2.2.2 hin dX3_reckonFlows_60 ?_
            refine lv_iadd hx hb dX3_reckonFlows_61 ?_
            obtain ⟨hin, hf⟩ := ok_chk hf
            obtain ⟨s_17, en, hf⟩ := ok_lt hf
            refine z_iast hC hw hS (sH t0).2.2.2.2.2.1 hin en dX3_reckonFlows_62 (fun H locs hw hS => ?_)
            clear en
            refine lv_iload_n hx hb dX3_reckonFlows_63 rfl (lv_at hl 1 rfl) ?_
            refine lv_aload_n hx hb dX3_reckonFlows_64 rfl (lv_at hl 0 rfl) ?_
            refine gHouse_load hC hw t0 wd52 dX3_reckonFlows_65 ?_
            refine lv_iload_n hx hb dX3_reckonFlows_68 rfl (lv_at hl 2 rfl) ?_
            obtain ⟨hin, hf⟩ := ok_chk hf
            refine z_iald hC hw (sH t0).2.2.2.2.2.2.2 hin dX3_reckonFlows_69 ?_
            refine lv_iadd hx hb dX3_reckonFlows_70 ?_
            obtain ⟨v1_18, en, hf⟩ := ok_lt hf
            refine z_nm en ?_
            clear en
            refine lv_istore_n (lv' := [(1, .int v1_18), (0, .ref (E.2.2.1 a0)), (2, .int v2_8)]) hx hb dX3_reckonFlows_71 rfl hl (by decide) rfl (fun ls hl => ?_)
            exact J72 _ _ hf _ _ ls (lv_sub hl [1, 0, 2] rfl) hw hS
    exact L27 5000 _ _ _ hL27 _ _ ls (lv_sub hl [1, 2, 0] rfl) hw hS
  have L4 : ∀ (n : Nat) (v2_3 : Int32) (s_4 : St), loopF (f_X3_reckonFlows_L4 a0) n (v2_3, s_4) = some r4 → ∀ (H : Heap) (locs : List Loc) (ls : Array Slot), lv_has ls 3 [(0, .ref (E.2.2.1 a0)), (1, .int v1_1), (2, .int v2_3)] → World E sh2 s_4 H → va_S E.2.2.2 s.heap H locs → W p l e (rmd 3) s m args below meth c H locs 0 0 (MQ below (QW E sh2 (some (.int rz)) sz) args s 0 0 E.2.2.2) (F0 m 4 ls []) := by
    intro n
    induction n with
    | zero =>
      intro v2_3 s_4 hf
      exact nz hf
    | succ n ih4 =>
      intro v2_3 s_4 hf H locs ls hl hw hS
      obtain ⟨xl4, hf, hi4, he4⟩ := ok_loop hf
      unfold f_X3_reckonFlows_L4 at hf
      replace hf := ok_un2 hf
      refine lv_iload_n hx hb dX3_reckonFlows_4 rfl (lv_at hl 2 rfl) ?_
      refine lv_aload_n hx hb dX3_reckonFlows_5 rfl (lv_at hl 0 rfl) ?_
      refine gHouse_lines hC hw t0 wd40 dX3_reckonFlows_6 ?_
      have hif := ok_if hf
      refine lv_icmp_ge (tgt := 25) hx hb dX3_reckonFlows_9 (by decide) (fun hcd => ?_) (fun hcd => ?_)
      · have hf := hif.1 hcd
        clear hif
        cases hf
        exact X4_0 _ (he4 _ rfl) _ _ ls (lv_sub hl [0, 1] rfl) hw hS
      · have hf := hif.2 hcd
        clear hif
        refine lv_aload_n hx hb dX3_reckonFlows_12 rfl (lv_at hl 0 rfl) ?_
        refine gHouse_flow hC hw t0 wd75 dX3_reckonFlows_13 ?_
        refine lv_iload_n hx hb dX3_reckonFlows_16 rfl (lv_at hl 2 rfl) ?_
        refine lv_iconst (v := 0) hx hb dX3_reckonFlows_17 (by decide) ?_
        obtain ⟨hin, hf⟩ := ok_chk hf
        obtain ⟨s_19, en, hf⟩ := ok_lt hf
        refine z_iast hC hw hS (sH t0).2.2.2.2.2.1 hin en dX3_reckonFlows_18 (fun H locs hw hS => ?_)
        clear en
        obtain ⟨v2_20, en, hf⟩ := ok_lt hf
        refine lv_iinc (v := v2_20) (lv' := [(2, .int v2_20), (0, .ref (E.2.2.1 a0)), (1, .int v1_1)]) hx hb dX3_reckonFlows_19 hl (k := 2) rfl (by rw [en]; rfl) (by decide) rfl (fun ls hl => ?_)
        clear en
        refine lv_goto (tgt := 4) hx hb dX3_reckonFlows_22 (by decide) ?_
        cases hf
        exact ih4 _ _ (hi4 _ rfl) _ _ ls (lv_sub hl [1, 2, 0] rfl) hw hS
  exact L4 5000 _ _ hL4 _ _ ls (lv_sub hl [2, 1, 0] rfl) hw hS
set_option maxHeartbeats 4000000 in
set_option maxRecDepth 100000 in
theorem m_X3_flowOf (l : Launch) (E : Ev) {a0 : Nat} {x1 : Int32} (t0 : isH a0) {s0 sz : St} {rz : Int32} (hf : f_X3_flowOf a0 x1 s0 = some (rz, sz)) : MM l E sh2 yX3_flowOf cX3_flowOf 2 (some .int) (rmd 4) [.ref (E.2.2.1 a0), .int x1] s0 (some (.int rz)) sz := by
  unfold f_X3_flowOf at hf
  refine z_enter (by decide +kernel) (Nat.le_of_ble_eq_true rfl) ?_
  intro p e s m args below meth c ls hC hr hlocks hw hS hl
  have hC : Cx p s m args c cX3_flowOf 2 "FuseBox$House" E := hC
  obtain ⟨hx, hb, hml, hown, hts, hTB⟩ := id hC
  have hl : lv_has ls 2 [(0, .ref (E.2.2.1 a0)), (1, .int x1)] := hl
  refine lv_aload_n hx hb dX3_flowOf_0 rfl (lv_at hl 0 rfl) ?_
  obtain ⟨r_2, s_1, hc, hf⟩ := ok_bd hf
  refine z_cV hC hl.1 hw hS (As := []) (rest := []) (m_X3_reckonFlows l E t0 hc) (sH t0).1 rfl gc26 gc27 ⟨Nat.le_of_ble_eq_true rfl, Nat.le_of_ble_eq_true rfl⟩ ⟨Nat.le_of_ble_eq_true rfl, Nat.le_of_ble_eq_true rfl⟩ rfl rfl (Nat.le_of_ble_eq_true rfl) dX3_flowOf_1 (fun H locs hw hS => ?_)
  clear hc
  refine lv_pop hx hb dX3_flowOf_4 rfl ?_
  refine lv_aload_n hx hb dX3_flowOf_5 rfl (lv_at hl 0 rfl) ?_
  refine gHouse_flow hC hw t0 wd75 dX3_flowOf_6 ?_
  refine lv_iload_n hx hb dX3_flowOf_9 rfl (lv_at hl 1 rfl) ?_
  obtain ⟨hin, hf⟩ := ok_chk hf
  refine z_iald hC hw (sH t0).2.2.2.2.2.1 hin dX3_flowOf_10 ?_
  exact z_iretE hC hlocks hw hS hf hr rfl dX3_flowOf_11
set_option maxHeartbeats 4000000 in
set_option maxRecDepth 100000 in
theorem m_X3_passLine (l : Launch) (E : Ev) {a0 : Nat} {x1 : Int32} {x2 : Int32} (t0 : isH a0) {s0 sz : St} (hf : f_X3_passLine a0 x1 x2 s0 = some sz) : MM l E sh2 yX3_passLine cX3_passLine 4 none (rmd 3) [.ref (E.2.2.1 a0), .int x1, .int x2] s0 none sz := by
  unfold f_X3_passLine at hf
  refine z_enter (by decide +kernel) (Nat.le_of_ble_eq_true rfl) ?_
  intro p e s m args below meth c ls hC hr hlocks hw hS hl
  have hC : Cx p s m args c cX3_passLine 4 "FuseBox$House" E := hC
  obtain ⟨hx, hb, hml, hown, hts, hTB⟩ := id hC
  have hl : lv_has ls 4 [(0, .ref (E.2.2.1 a0)), (1, .int x1), (2, .int x2)] := hl
  refine lv_aload_n hx hb dX3_passLine_0 rfl (lv_at hl 0 rfl) ?_
  refine lv_iload_n hx hb dX3_passLine_1 rfl (lv_at hl 1 rfl) ?_
  obtain ⟨r_2, s_1, hc, hf⟩ := ok_bd hf
  refine z_cV hC hl.1 hw hS (As := [.int x1]) (rest := []) (m_X3_isLive l E t0 hc) (sH t0).1 rfl gc20 gc21 ⟨Nat.le_of_ble_eq_true rfl, Nat.le_of_ble_eq_true rfl⟩ ⟨Nat.le_of_ble_eq_true rfl, Nat.le_of_ble_eq_true rfl⟩ rfl rfl (Nat.le_of_ble_eq_true rfl) dX3_passLine_2 (fun H locs hw hS => ?_)
  clear hc
  have hif := ok_if hf
  refine lv_if_eq (tgt := 62) hx hb dX3_passLine_5 (by decide) (fun hcd => ?_) (fun hcd => ?_)
  · have hf := hif.1 hcd
    clear hif
    refine lv_aload_n hx hb dX3_passLine_62 rfl (lv_at hl 0 rfl) ?_
    refine gHouse_heat hC hw t0 wd49 dX3_passLine_63 ?_
    refine lv_iload_n hx hb dX3_passLine_66 rfl (lv_at hl 1 rfl) ?_
    refine lv_iconst (v := 0) hx hb dX3_passLine_67 (by decide) ?_
    refine lv_aload_n hx hb dX3_passLine_68 rfl (lv_at hl 0 rfl) ?_
    refine gHouse_heat hC hw t0 wd49 dX3_passLine_69 ?_
    refine lv_iload_n hx hb dX3_passLine_72 rfl (lv_at hl 1 rfl) ?_
    obtain ⟨hin, hf⟩ := ok_chk hf
    refine z_iald hC hw (sH t0).2.2.2.1 hin dX3_passLine_73 ?_
    refine lv_iconst (v := 1) hx hb dX3_passLine_74 (by decide) ?_
    refine lv_isub hx hb dX3_passLine_75 ?_
    refine z_max hC hl.1 (rest := [.int x1, .ref (E.2.2.1 (a0 + 3))]) wd103 wd82 wd83 wd80 (Nat.le_of_ble_eq_true rfl) (Nat.le_of_ble_eq_true rfl) (Nat.le_of_ble_eq_true rfl) (Nat.le_of_ble_eq_true rfl) dX3_passLine_76 ?_
    obtain ⟨hin, hf⟩ := ok_chk hf
    obtain ⟨s_3, en, hf⟩ := ok_lt hf
    refine z_iast hC hw hS (sH t0).2.2.2.1 hin en dX3_passLine_79 (fun H locs hw hS => ?_)
    clear en
    refine lv_aload_n hx hb dX3_passLine_80 rfl (lv_at hl 0 rfl) ?_
    refine gHouse_kind hC hw t0 wd47 dX3_passLine_81 ?_
    refine lv_iload_n hx hb dX3_passLine_84 rfl (lv_at hl 1 rfl) ?_
    obtain ⟨hin, hf⟩ := ok_chk hf
    refine z_iald hC hw (sH t0).2.1 hin dX3_passLine_85 ?_
    refine lv_iconst (v := 5) hx hb dX3_passLine_86 (by decide) ?_
    obtain ⟨j108, ej108, hf⟩ := ok_lt hf
    have J108 : ∀ (s_4 : St), j108 s_4 = some sz → ∀ (H : Heap) (locs : List Loc) (ls : Array Slot), lv_has ls 4 [] → World E sh2 s_4 H → va_S E.2.2.2 s.heap H locs → W p l e (rmd 3) s m args below meth c H locs 0 0 (MQ below (QW E sh2 none sz) args s 0 0 E.2.2.2) (F0 m 108 ls []) := by
      intro s_4 hf H locs ls hl hw hS
      subst ej108
      exact z_vretE hC hlocks hw hS hf hr dX3_passLine_108
    clear ej108
    have hif := ok_if hf
    refine lv_icmp_ne (tgt := 108) hx hb dX3_passLine_87 (by decide) (fun hcd => ?_) (fun hcd => ?_)
    · have hf := hif.1 hcd
      clear hif
      exact J108 _ hf _ _ ls (lv_sub hl [] rfl) hw hS
    · have hf := hif.2 (fun q => q hcd)
      clear hif
      refine lv_aload_n hx hb dX3_passLine_90 rfl (lv_at hl 0 rfl) ?_
      refine lv_iload_n hx hb dX3_passLine_91 rfl (lv_at hl 1 rfl) ?_
      obtain ⟨r_6, s_5, hc, hf⟩ := ok_bd hf
      refine z_cV hC hl.1 hw hS (As := [.int x1]) (rest := []) (m_X3_isDead l E t0 hc) (sH t0).1 rfl gc22 gc23 ⟨Nat.le_of_ble_eq_true rfl, Nat.le_of_ble_eq_true rfl⟩ ⟨Nat.le_of_ble_eq_true rfl, Nat.le_of_ble_eq_true rfl⟩ rfl rfl (Nat.le_of_ble_eq_true rfl) dX3_passLine_92 (fun H locs hw hS => ?_)
      clear hc
      have hif := ok_if hf
      refine lv_if_eq (tgt := 108) hx hb dX3_passLine_95 (by decide) (fun hcd => ?_) (fun hcd => ?_)
      · have hf := hif.1 hcd
        clear hif
        exact J108 _ hf _ _ ls (lv_sub hl [] rfl) hw hS
      · have hf := hif.2 hcd
        clear hif
        refine lv_aload_n hx hb dX3_passLine_98 rfl (lv_at hl 0 rfl) ?_
        refine gHouse_dead hC hw t0 wd50 dX3_passLine_99 ?_
        refine lv_iload_n hx hb dX3_passLine_102 rfl (lv_at hl 1 rfl) ?_
        refine lv_dup2_11 hx hb dX3_passLine_103 rfl rfl ?_
        obtain ⟨hin, hf⟩ := ok_chk hf
        refine z_iald hC hw (sH t0).2.2.2.2.1 hin dX3_passLine_104 ?_
        refine lv_iconst (v := 1) hx hb dX3_passLine_105 (by decide) ?_
        refine lv_isub hx hb dX3_passLine_106 ?_
        obtain ⟨hin, hf⟩ := ok_chk hf
        obtain ⟨s_7, en, hf⟩ := ok_lt hf
        refine z_iast hC hw hS (sH t0).2.2.2.2.1 hin en dX3_passLine_107 (fun H locs hw hS => ?_)
        clear en
        exact J108 _ hf _ _ ls (lv_sub hl [] rfl) hw hS
  · have hf := hif.2 hcd
    clear hif
    refine lv_aload_n hx hb dX3_passLine_8 rfl (lv_at hl 0 rfl) ?_
    refine lv_iload_n hx hb dX3_passLine_9 rfl (lv_at hl 1 rfl) ?_
    obtain ⟨a_9, s_8, hc, hf⟩ := ok_bd hf
    refine z_cV hC hl.1 hw hS (As := [.int x1]) (rest := []) (m_X3_fuseOf l E t0 hc) (sH t0).1 rfl gc35 gc36 ⟨Nat.le_of_ble_eq_true rfl, Nat.le_of_ble_eq_true rfl⟩ ⟨Nat.le_of_ble_eq_true rfl, Nat.le_of_ble_eq_true rfl⟩ rfl rfl (Nat.le_of_ble_eq_true rfl) dX3_passLine_10 (fun H locs hw hS => ?_)
    clear hc
    refine lv_astore_n (lv' := [(3, .ref (E.2.2.1 a_9)), (0, .ref (E.2.2.1 a0)), (1, .int x1), (2, .int x2)]) hx hb dX3_passLine_13 rfl hl (by decide) rfl (fun ls hl => ?_)
    refine lv_aload_n hx hb dX3_passLine_14 rfl (lv_at hl 1 rfl) ?_
    refine gHouse_heat hC hw t0 wd49 dX3_passLine_15 ?_
    refine lv_iload_n hx hb dX3_passLine_18 rfl (lv_at hl 2 rfl) ?_
    refine lv_aload_n hx hb dX3_passLine_19 rfl (lv_at hl 0 rfl) ?_
    refine lv_aload_n hx hb dX3_passLine_20 rfl (lv_at hl 1 rfl) ?_
    refine gHouse_heat hC hw t0 wd49 dX3_passLine_21 ?_
    refine lv_iload_n hx hb dX3_passLine_24 rfl (lv_at hl 2 rfl) ?_
    obtain ⟨hin, hf⟩ := ok_chk hf
    refine z_iald hC hw (sH t0).2.2.2.1 hin dX3_passLine_25 ?_
    refine lv_iload_n hx hb dX3_passLine_26 rfl (lv_at hl 3 rfl) ?_
    refine lv_aload_n hx hb dX3_passLine_27 rfl (lv_at hl 1 rfl) ?_
    refine gHouse_rate hC hw t0 wd48 dX3_passLine_28 ?_
    refine lv_iload_n hx hb dX3_passLine_31 rfl (lv_at hl 2 rfl) ?_
    obtain ⟨hin, hf⟩ := ok_chk hf
    refine z_iald hC hw (sH t0).2.2.1 hin dX3_passLine_32 ?_
    refine lv_isub hx hb dX3_passLine_33 ?_
    obtain ⟨r_11, s_10, hc, hf⟩ := ok_bd hf
    suffices K : ∀ (H1 : Heap) (locs1 : List Loc), World E sh2 s_10 H1 → va_S E.2.2.2 s.heap H1 locs1 → W p l e (rmd 3) s m args below meth c H1 locs1 0 0 (MQ below (QW E sh2 none sz) args s 0 0 E.2.2.2) (F0 m 37 ls [.int r_11, .int x1, .ref (E.2.2.1 (a0 + 3))]) by
      unfold d_heatBehind at hc
      by_cases h14 : a_9 = 14
      · rw [if_pos h14] at hc
        subst h14
        exact z_cU hC hl.1 hw hS (As := [.int (s_8 (a0 + 3) (x1).toNatClampNeg), .int (x2 - (s_8 (a0 + 2) (x1).toNatClampNeg))]) (rest := [.int x1, .ref (E.2.2.1 (a0 + 3))]) (ci := 9) (ks := []) (m_X10_heatBehind_14 l E  hc) rfl rfl (C := "FuseBox$Wire") (va_cwA 2 hts gc37 rfl rfl rfl hC.2.2.2.2.2.2.1 gc38 ⟨Nat.le_of_ble_eq_true rfl, Nat.le_of_ble_eq_true rfl⟩) ⟨Nat.le_of_ble_eq_true rfl, Nat.le_of_ble_eq_true rfl⟩ rfl rfl (Nat.le_of_ble_eq_true rfl) dX3_passLine_34 K
      rw [if_neg h14] at hc
      by_cases h15 : a_9 = 15
      · rw [if_pos h15] at hc
        subst h15
        exact z_cU hC hl.1 hw hS (As := [.int (s_8 (a0 + 3) (x1).toNatClampNeg), .int (x2 - (s_8 (a0 + 2) (x1).toNatClampNeg))]) (rest := [.int x1, .ref (E.2.2.1 (a0 + 3))]) (ci := 7) (ks := []) (m_X10_heatBehind_15 l E  hc) rfl rfl (C := "FuseBox$Slow") (va_cwA 2 hts gc39 rfl rfl rfl hC.2.2.2.2.2.2.1 gc38 ⟨Nat.le_of_ble_eq_true rfl, Nat.le_of_ble_eq_true rfl⟩) ⟨Nat.le_of_ble_eq_true rfl, Nat.le_of_ble_eq_true rfl⟩ rfl rfl (Nat.le_of_ble_eq_true rfl) dX3_passLine_34 K
      rw [if_neg h15] at hc
      by_cases h16 : a_9 = 16
      · rw [if_pos h16] at hc
        subst h16
        exact z_cU hC hl.1 hw hS (As := [.int (s_8 (a0 + 3) (x1).toNatClampNeg), .int (x2 - (s_8 (a0 + 2) (x1).toNatClampNeg))]) (rest := [.int x1, .ref (E.2.2.1 (a0 + 3))]) (ci := 4) (ks := []) (m_X10_heatBehind_16 l E  hc) rfl rfl (C := "FuseBox$Quick") (va_cwA 2 hts gc40 rfl rfl rfl hC.2.2.2.2.2.2.1 gc38 ⟨Nat.le_of_ble_eq_true rfl, Nat.le_of_ble_eq_true rfl⟩) ⟨Nat.le_of_ble_eq_true rfl, Nat.le_of_ble_eq_true rfl⟩ rfl rfl (Nat.le_of_ble_eq_true rfl) dX3_passLine_34 K
      rw [if_neg h16] at hc
      by_cases h17 : a_9 = 17
      · rw [if_pos h17] at hc
        subst h17
        exact z_cU hC hl.1 hw hS (As := [.int (s_8 (a0 + 3) (x1).toNatClampNeg), .int (x2 - (s_8 (a0 + 2) (x1).toNatClampNeg))]) (rest := [.int x1, .ref (E.2.2.1 (a0 + 3))]) (ci := 0) (ks := []) (m_X0_heatBehind_17 l E  hc) rfl rfl (C := "FuseBox$Breaker") (va_cwA 2 hts gc41 rfl rfl rfl hC.2.2.2.2.2.2.1 gc38 ⟨Nat.le_of_ble_eq_true rfl, Nat.le_of_ble_eq_true rfl⟩) ⟨Nat.le_of_ble_eq_true rfl, Nat.le_of_ble_eq_true rfl⟩ rfl rfl (Nat.le_of_ble_eq_true rfl) dX3_passLine_34 K
      rw [if_neg h17] at hc
      by_cases h18 : a_9 = 18
      · rw [if_pos h18] at hc
        subst h18
        exact z_cU hC hl.1 hw hS (As := [.int (s_8 (a0 + 3) (x1).toNatClampNeg), .int (x2 - (s_8 (a0 + 2) (x1).toNatClampNeg))]) (rest := [.int x1, .ref (E.2.2.1 (a0 + 3))]) (ci := 1) (ks := []) (m_X0_heatBehind_18 l E  hc) rfl rfl (C := "FuseBox$Coil") (va_cwA 2 hts gc42 rfl rfl rfl hC.2.2.2.2.2.2.1 gc38 ⟨Nat.le_of_ble_eq_true rfl, Nat.le_of_ble_eq_true rfl⟩) ⟨Nat.le_of_ble_eq_true rfl, Nat.le_of_ble_eq_true rfl⟩ rfl rfl (Nat.le_of_ble_eq_true rfl) dX3_passLine_34 K
      rw [if_neg h18] at hc
      exact nz hc
    intro H locs hw hS
    clear hc
    obtain ⟨hin, hf⟩ := ok_chk hf
    obtain ⟨s_12, en, hf⟩ := ok_lt hf
    refine z_iast hC hw hS (sH t0).2.2.2.1 hin en dX3_passLine_37 (fun H locs hw hS => ?_)
    clear en
    refine lv_aload_n hx hb dX3_passLine_38 rfl (lv_at hl 1 rfl) ?_
    refine gHouse_dead hC hw t0 wd50 dX3_passLine_39 ?_
    refine lv_iload_n hx hb dX3_passLine_42 rfl (lv_at hl 2 rfl) ?_
    refine lv_aload_n hx hb dX3_passLine_43 rfl (lv_at hl 0 rfl) ?_
    refine lv_aload_n hx hb dX3_passLine_44 rfl (lv_at hl 1 rfl) ?_
    refine gHouse_heat hC hw t0 wd49 dX3_passLine_45 ?_
    refine lv_iload_n hx hb dX3_passLine_48 rfl (lv_at hl 2 rfl) ?_
    obtain ⟨hin, hf⟩ := ok_chk hf
    refine z_iald hC hw (sH t0).2.2.2.1 hin dX3_passLine_49 ?_
    refine lv_iload_n hx hb dX3_passLine_50 rfl (lv_at hl 3 rfl) ?_
    refine lv_aload_n hx hb dX3_passLine_51 rfl (lv_at hl 1 rfl) ?_
    refine gHouse_rate hC hw t0 wd48 dX3_passLine_52 ?_
    refine lv_iload_n hx hb dX3_passLine_55 rfl (lv_at hl 2 rfl) ?_
    obtain ⟨hin, hf⟩ := ok_chk hf
    refine z_iald hC hw (sH t0).2.2.1 hin dX3_passLine_56 ?_
    obtain ⟨r_14, s_13, hc, hf⟩ := ok_bd hf
    suffices K : ∀ (H1 : Heap) (locs1 : List Loc), World E sh2 s_13 H1 → va_S E.2.2.2 s.heap H1 locs1 → W p l e (rmd 3) s m args below meth c H1 locs1 0 0 (MQ below (QW E sh2 none sz) args s 0 0 E.2.2.2) (F0 m 60 ls [.int r_14, .int x1, .ref (E.2.2.1 (a0 + 4))]) by
      unfold d_deadBehind at hc
      by_cases h14 : a_9 = 14
      · rw [if_pos h14] at hc
        subst h14
        exact z_cU hC hl.1 hw hS (As := [.int (s_12 (a0 + 3) (x1).toNatClampNeg), .int x2, .int (s_12 (a0 + 2) (x1).toNatClampNeg)]) (rest := [.int x1, .ref (E.2.2.1 (a0 + 4))]) (ci := 9) (ks := []) (m_X10_deadBehind_14 l E  hc) rfl rfl (C := "FuseBox$Wire") (va_cwA 3 hts gc43 rfl rfl rfl hC.2.2.2.2.2.2.2.1 gc44 ⟨Nat.le_of_ble_eq_true rfl, Nat.le_of_ble_eq_true rfl⟩) ⟨Nat.le_of_ble_eq_true rfl, Nat.le_of_ble_eq_true rfl⟩ rfl rfl (Nat.le_of_ble_eq_true rfl) dX3_passLine_57 K
      rw [if_neg h14] at hc
      by_cases h15 : a_9 = 15
      · rw [if_pos h15] at hc
        subst h15
        exact z_cU hC hl.1 hw hS (As := [.int (s_12 (a0 + 3) (x1).toNatClampNeg), .int x2, .int (s_12 (a0 + 2) (x1).toNatClampNeg)]) (rest := [.int x1, .ref (E.2.2.1 (a0 + 4))]) (ci := 7) (ks := []) (m_X10_deadBehind_15 l E  hc) rfl rfl (C := "FuseBox$Slow") (va_cwA 3 hts gc45 rfl rfl rfl hC.2.2.2.2.2.2.2.1 gc44 ⟨Nat.le_of_ble_eq_true rfl, Nat.le_of_ble_eq_true rfl⟩) ⟨Nat.le_of_ble_eq_true rfl, Nat.le_of_ble_eq_true rfl⟩ rfl rfl (Nat.le_of_ble_eq_true rfl) dX3_passLine_57 K
      rw [if_neg h15] at hc
      by_cases h16 : a_9 = 16
      · rw [if_pos h16] at hc
        subst h16
        exact z_cU hC hl.1 hw hS (As := [.int (s_12 (a0 + 3) (x1).toNatClampNeg), .int x2, .int (s_12 (a0 + 2) (x1).toNatClampNeg)]) (rest := [.int x1, .ref (E.2.2.1 (a0 + 4))]) (ci := 4) (ks := []) (m_X5_deadBehind_16 l E  hc) rfl rfl (C := "FuseBox$Quick") (va_cwA 3 hts gc46 rfl rfl rfl hC.2.2.2.2.2.2.2.1 gc44 ⟨Nat.le_of_ble_eq_true rfl, Nat.le_of_ble_eq_true rfl⟩) ⟨Nat.le_of_ble_eq_true rfl, Nat.le_of_ble_eq_true rfl⟩ rfl rfl (Nat.le_of_ble_eq_true rfl) dX3_passLine_57 K
      rw [if_neg h16] at hc
      by_cases h17 : a_9 = 17
      · rw [if_pos h17] at hc
        subst h17
        exact z_cU hC hl.1 hw hS (As := [.int (s_12 (a0 + 3) (x1).toNatClampNeg), .int x2, .int (s_12 (a0 + 2) (x1).toNatClampNeg)]) (rest := [.int x1, .ref (E.2.2.1 (a0 + 4))]) (ci := 0) (ks := []) (m_X0_deadBehind_17 l E  hc) rfl rfl (C := "FuseBox$Breaker") (va_cwA 3 hts gc47 rfl rfl rfl hC.2.2.2.2.2.2.2.1 gc44 ⟨Nat.le_of_ble_eq_true rfl, Nat.le_of_ble_eq_true rfl⟩) ⟨Nat.le_of_ble_eq_true rfl, Nat.le_of_ble_eq_true rfl⟩ rfl rfl (Nat.le_of_ble_eq_true rfl) dX3_passLine_57 K
      rw [if_neg h17] at hc
      by_cases h18 : a_9 = 18
      · rw [if_pos h18] at hc
        subst h18
        exact z_cU hC hl.1 hw hS (As := [.int (s_12 (a0 + 3) (x1).toNatClampNeg), .int x2, .int (s_12 (a0 + 2) (x1).toNatClampNeg)]) (rest := [.int x1, .ref (E.2.2.1 (a0 + 4))]) (ci := 1) (ks := []) (m_X0_deadBehind_18 l E  hc) rfl rfl (C := "FuseBox$Coil") (va_cwA 3 hts gc48 rfl rfl rfl hC.2.2.2.2.2.2.2.1 gc44 ⟨Nat.le_of_ble_eq_true rfl, Nat.le_of_ble_eq_true rfl⟩) ⟨Nat.le_of_ble_eq_true rfl, Nat.le_of_ble_eq_true rfl⟩ rfl rfl (Nat.le_of_ble_eq_true rfl) dX3_passLine_57 K
      rw [if_neg h18] at hc
      exact nz hc
    intro H locs hw hS
    clear hc
    obtain ⟨hin, hf⟩ := ok_chk hf
    obtain ⟨s_15, en, hf⟩ := ok_lt hf
    refine z_iast hC hw hS (sH t0).2.2.2.2.1 hin en dX3_passLine_60 (fun H locs hw hS => ?_)
    clear en
    exact z_vretE hC hlocks hw hS hf hr dX3_passLine_61
set_option maxHeartbeats 4000000 in
set_option maxRecDepth 100000 in
theorem m_X3_passMinute (l : Launch) (E : Ev) {a0 : Nat} (t0 : isH a0) {s0 sz : St} (hf : f_X3_passMinute a0 s0 = some sz) : MM l E sh2 yX3_passMinute cX3_passMinute 3 none (rmd 4) [.ref (E.2.2.1 a0)] s0 none sz := by
  unfold f_X3_passMinute at hf
  refine z_enter (by decide +kernel) (Nat.le_of_ble_eq_true rfl) ?_
  intro p e s m args below meth c ls hC hr hlocks hw hS hl
  have hC : Cx p s m args c cX3_passMinute 3 "FuseBox$House" E := hC
  obtain ⟨hx, hb, hml, hown, hts, hTB⟩ := id hC
  have hl : lv_has ls 3 [(0, .ref (E.2.2.1 a0))] := hl
  refine lv_aload_n hx hb dX3_passMinute_0 rfl (lv_at hl 0 rfl) ?_
  obtain ⟨r_2, s_1, hc, hf⟩ := ok_bd hf
  refine z_cV hC hl.1 hw hS (As := []) (rest := []) (m_X3_reckonFlows l E t0 hc) (sH t0).1 rfl gc26 gc27 ⟨Nat.le_of_ble_eq_true rfl, Nat.le_of_ble_eq_true rfl⟩ ⟨Nat.le_of_ble_eq_true rfl, Nat.le_of_ble_eq_true rfl⟩ rfl rfl (Nat.le_of_ble_eq_true rfl) dX3_passMinute_1 (fun H locs hw hS => ?_)
  clear hc
  refine lv_istore_n (lv' := [(1, .int r_2), (0, .ref (E.2.2.1 a0))]) hx hb dX3_passMinute_4 rfl hl (by decide) rfl (fun ls hl => ?_)
  refine lv_iconst (v := 0) hx hb dX3_passMinute_5 (by decide) ?_
  obtain ⟨v2_3, en, hf⟩ := ok_lt hf
  refine z_nm en ?_
  clear en
  refine lv_istore_n (lv' := [(2, .int v2_3), (1, .int r_2), (0, .ref (E.2.2.1 a0))]) hx hb dX3_passMinute_6 rfl hl (by decide) rfl (fun ls hl => ?_)
  obtain ⟨r7, hL7, hf⟩ := ok_bind hf
  have X7_0 : ∀ (s_6 : St), s_6 = r7 → ∀ (H : Heap) (locs : List Loc) (ls : Array Slot), lv_has ls 3 [(0, .ref (E.2.2.1 a0)), (1, .int r_2)] → World E sh2 s_6 H → va_S E.2.2.2 s.heap H locs → W p l e (rmd 4) s m args below meth c H locs 0 0 (MQ below (QW E sh2 none sz) args s 0 0 E.2.2.2) (F0 m 32 ls []) := by
    intro s_6 er H locs ls hl hw hS
    subst er
    replace hf := ok_un1 hf
    refine lv_iload_n hx hb dX3_passMinute_32 rfl (lv_at hl 1 rfl) ?_
    refine lv_aload_n hx hb dX3_passMinute_33 rfl (lv_at hl 0 rfl) ?_
    refine gHouse_main hC hw t0 wd42 dX3_passMinute_34 ?_
    obtain ⟨j45, ej45, hf⟩ := ok_lt hf
    have J45 : ∀ (s_7 : St), j45 s_7 = some sz → ∀ (H : Heap) (locs : List Loc) (ls : Array Slot), lv_has ls 3 [(0, .ref (E.2.2.1 a0)), (1, .int r_2)] → World E sh2 s_7 H → va_S E.2.2.2 s.heap H locs → W p l e (rmd 4) s m args below meth c H locs 0 0 (MQ below (QW E sh2 none sz) args s 0 0 E.2.2.2) (F0 m 45 ls []) := by
      intro s_7 hf H locs ls hl hw hS
      subst ej45
      refine lv_aload_n hx hb dX3_passMinute_45 rfl (lv_at hl 0 rfl) ?_
      refine lv_ldc (v := 99999) hx hb hown (hts _ wd131) dX3_passMinute_46 ?_
      refine lv_aload_n hx hb dX3_passMinute_48 rfl (lv_at hl 0 rfl) ?_
      refine gHouse_used hC hw t0 wd44 dX3_passMinute_49 ?_
      refine lv_iload_n hx hb dX3_passMinute_52 rfl (lv_at hl 1 rfl) ?_
      refine lv_iadd hx hb dX3_passMinute_53 ?_
      refine z_min hC hl.1 (rest := [.ref (E.2.2.1 a0)]) wd132 wd91 wd83 wd89 (Nat.le_of_ble_eq_true rfl) (Nat.le_of_ble_eq_true rfl) (Nat.le_of_ble_eq_true rfl) (Nat.le_of_ble_eq_true rfl) dX3_passMinute_54 ?_
      obtain ⟨s_8, en, hf⟩ := ok_lt hf
      refine pHouse_used hC hw hS t0 wd44 en dX3_passMinute_57 (fun H locs hw hS => ?_)
      clear en
      refine lv_aload_n hx hb dX3_passMinute_60 rfl (lv_at hl 0 rfl) ?_
      refine lv_dup hx hb dX3_passMinute_61 rfl ?_
      refine gHouse_minute hC hw t0 wd43 dX3_passMinute_62 ?_
      refine lv_iconst (v := 1) hx hb dX3_passMinute_65 (by decide) ?_
      refine lv_iadd hx hb dX3_passMinute_66 ?_
      obtain ⟨s_9, en, hf⟩ := ok_lt hf
      refine pHouse_minute hC hw hS t0 wd43 en dX3_passMinute_67 (fun H locs hw hS => ?_)
      clear en
      exact z_vretE hC hlocks hw hS hf hr dX3_passMinute_70
    clear ej45
    have hif := ok_if hf
    refine lv_icmp_le (tgt := 45) hx hb dX3_passMinute_37 (by decide) (fun hcd => ?_) (fun hcd => ?_)
    · have hf := hif.1 hcd
      clear hif
      exact J45 _ hf _ _ ls hl hw hS
    · have hf := hif.2 hcd
      clear hif
      refine lv_aload_n hx hb dX3_passMinute_40 rfl (lv_at hl 0 rfl) ?_
      refine lv_iconst (v := 0) hx hb dX3_passMinute_41 (by decide) ?_
      obtain ⟨s_10, en, hf⟩ := ok_lt hf
      refine pHouse_mainIn hC hw hS t0 (by decide) wd45 en dX3_passMinute_42 (fun H locs hw hS => ?_)
      clear en
      exact J45 _ hf _ _ ls hl hw hS
  have L7 : ∀ (n : Nat) (v2_4 : Int32) (s_5 : St), loopF (f_X3_passMinute_L7 a0) n (v2_4, s_5) = some r7 → ∀ (H : Heap) (locs : List Loc) (ls : Array Slot), lv_has ls 3 [(0, .ref (E.2.2.1 a0)), (1, .int r_2), (2, .int v2_4)] → World E sh2 s_5 H → va_S E.2.2.2 s.heap H locs → W p l e (rmd 4) s m args below meth c H locs 0 0 (MQ below (QW E sh2 none sz) args s 0 0 E.2.2.2) (F0 m 7 ls []) := by
    intro n
    induction n with
    | zero =>
      intro v2_4 s_5 hf
      exact nz hf
    | succ n ih7 =>
      intro v2_4 s_5 hf H locs ls hl hw hS
      obtain ⟨xl7, hf, hi7, he7⟩ := ok_loop hf
      unfold f_X3_passMinute_L7 at hf
      replace hf := ok_un2 hf
      refine lv_iload_n hx hb dX3_passMinute_7 rfl (lv_at hl 2 rfl) ?_
      refine lv_aload_n hx hb dX3_passMinute_8 rfl (lv_at hl 0 rfl) ?_
      refine gHouse_lines hC hw t0 wd40 dX3_passMinute_9 ?_
      have hif := ok_if hf
      refine lv_icmp_ge (tgt := 32) hx hb dX3_passMinute_12 (by decide) (fun hcd => ?_) (fun hcd => ?_)
      · have hf := hif.1 hcd
        clear hif
        cases hf
        exact X7_0 _ (he7 _ rfl) _ _ ls (lv_sub hl [0, 1] rfl) hw hS
      · have hf := hif.2 hcd
        clear hif
        refine lv_aload_n hx hb dX3_passMinute_15 rfl (lv_at hl 0 rfl) ?_
        refine lv_iload_n hx hb dX3_passMinute_16 rfl (lv_at hl 2 rfl) ?_
        refine lv_aload_n hx hb dX3_passMinute_17 rfl (lv_at hl 0 rfl) ?_
        refine gHouse_flow hC hw t0 wd75 dX3_passMinute_18 ?_
        refine lv_iload_n hx hb dX3_passMinute_21 rfl (lv_at hl 2 rfl) ?_
        obtain ⟨hin, hf⟩ := ok_chk hf
        refine z_iald hC hw (sH t0).2.2.2.2.2.1 hin dX3_passMinute_22 ?_
        obtain ⟨s_11, hc, hf⟩ := ok_bind hf
        refine z_cV hC hl.1 hw hS (As := [.int v2_4, .int (s_5 (a0 + 5) (v2_4).toNatClampNeg)]) (rest := []) (m_X3_passLine l E t0 hc) (sH t0).1 rfl gc49 gc50 ⟨Nat.le_of_ble_eq_true rfl, Nat.le_of_ble_eq_true rfl⟩ ⟨Nat.le_of_ble_eq_true rfl, Nat.le_of_ble_eq_true rfl⟩ rfl rfl (Nat.le_of_ble_eq_true rfl) dX3_passMinute_23 (fun H locs hw hS => ?_)
        clear hc
        obtain ⟨v2_12, en, hf⟩ := ok_lt hf
        refine lv_iinc (v := v2_12) (lv' := [(2, .int v2_12), (0, .ref (E.2.2.1 a0)), (1, .int r_2)]) hx hb dX3_passMinute_26 hl (k := 2) rfl (by rw [en]; rfl) (by decide) rfl (fun ls hl => ?_)
        clear en
        refine lv_goto (tgt := 7) hx hb dX3_passMinute_29 (by decide) ?_
        cases hf
        exact ih7 _ _ (hi7 _ rfl) _ _ ls (lv_sub hl [1, 2, 0] rfl) hw hS
  exact L7 5000 _ _ hL7 _ _ ls (lv_sub hl [2, 1, 0] rfl) hw hS
set_option maxHeartbeats 4000000 in
set_option maxRecDepth 100000 in
theorem m_X3_staysLive (l : Launch) (E : Ev) {a0 : Nat} {x1 : Int32} {x2 : Int32} (t0 : isH a0) {s0 sz : St} {rz : Int32} (hf : f_X3_staysLive a0 x1 x2 s0 = some (rz, sz)) : MM l E sh2 yX3_staysLive cX3_staysLive 4 (some .boolean) (rmd 5) [.ref (E.2.2.1 a0), .int x1, .int x2] s0 (some (.int rz)) sz := by
  unfold f_X3_staysLive at hf
  refine z_enter (by decide +kernel) (Nat.le_of_ble_eq_true rfl) ?_
  intro p e s m args below meth c ls hC hr hlocks hw hS hl
  have hC : Cx p s m args c cX3_staysLive 4 "FuseBox$House" E := hC
  obtain ⟨hx, hb, hml, hown, hts, hTB⟩ := id hC
  have hl : lv_has ls 4 [(0, .ref (E.2.2.1 a0)), (1, .int x1), (2, .int x2)] := hl
  refine lv_iconst (v := 0) hx hb dX3_staysLive_0 (by decide) ?_
  obtain ⟨v3_1, en, hf⟩ := ok_lt hf
  refine z_nm en ?_
  clear en
  refine lv_istore_n (lv' := [(3, .int v3_1), (0, .ref (E.2.2.1 a0)), (1, .int x1), (2, .int x2)]) hx hb dX3_staysLive_1 rfl hl (by decide) rfl (fun ls hl => ?_)
  obtain ⟨r2, hL2, hf⟩ := ok_bind hf
  have X2_0 : ∀ (s_4 : St), (.inl s_4) = r2 → ∀ (H : Heap) (locs : List Loc) (ls : Array Slot), lv_has ls 4 [] → World E sh2 s_4 H → va_S E.2.2.2 s.heap H locs → W p l e (rmd 5) s m args below meth c H locs 0 0 (MQ below (QW E sh2 (some (.int rz)) sz) args s 0 0 E.2.2.2) (F0 m 27 ls []) := by
    intro s_4 er H locs ls hl hw hS
    subst er
    replace hf := ok_sell (hf)
    replace hf := ok_un1 hf
    refine lv_iconst (v := 1) hx hb dX3_staysLive_27 (by decide) ?_
    exact z_iretE hC hlocks hw hS hf hr (by decide) dX3_staysLive_28
  have X2_1 : ∀ (s_5 : St), (.inr s_5) = r2 → ∀ (H : Heap) (locs : List Loc) (ls : Array Slot), lv_has ls 4 [] → World E sh2 s_5 H → va_S E.2.2.2 s.heap H locs → W p l e (rmd 5) s m args below meth c H locs 0 0 (MQ below (QW E sh2 (some (.int rz)) sz) args s 0 0 E.2.2.2) (F0 m 19 ls []) := by
    intro s_5 er H locs ls hl hw hS
    subst er
    replace hf := ok_selr (hf)
    replace hf := ok_un1 hf
    refine lv_iconst (v := 0) hx hb dX3_staysLive_19 (by decide) ?_
    exact z_iretE hC hlocks hw hS hf hr (by decide) dX3_staysLive_20
  have L2 : ∀ (n : Nat) (v3_2 : Int32) (s_3 : St), loopF (f_X3_staysLive_L2 a0 x1 x2) n (v3_2, s_3) = some r2 → ∀ (H : Heap) (locs : List Loc) (ls : Array Slot), lv_has ls 4 [(0, .ref (E.2.2.1 a0)), (1, .int x1), (2, .int x2), (3, .int v3_2)] → World E sh2 s_3 H → va_S E.2.2.2 s.heap H locs → W p l e (rmd 5) s m args below meth c H locs 0 0 (MQ below (QW E sh2 (some (.int rz)) sz) args s 0 0 E.2.2.2) (F0 m 2 ls []) := by
    intro n
    induction n with
    | zero =>
      intro v3_2 s_3 hf
      exact nz hf
    | succ n ih2 =>
      intro v3_2 s_3 hf H locs ls hl hw hS
      obtain ⟨xl2, hf, hi2, he2⟩ := ok_loop hf
      unfold f_X3_staysLive_L2 at hf
      replace hf := ok_un2 hf
      refine lv_iload_n hx hb dX3_staysLive_2 rfl (lv_at hl 3 rfl) ?_
      refine lv_iload_n hx hb dX3_staysLive_3 rfl (lv_at hl 2 rfl) ?_
      have hif := ok_if hf
      refine lv_icmp_ge (tgt := 27) hx hb dX3_staysLive_4 (by decide) (fun hcd => ?_) (fun hcd => ?_)
      · have hf := hif.1 hcd
        clear hif
        cases hf
        exact X2_0 _ (he2 _ rfl) _ _ ls (lv_sub hl [] rfl) hw hS
      · have hf := hif.2 hcd
        clear hif
        refine lv_aload_n hx hb dX3_staysLive_7 rfl (lv_at hl 0 rfl) ?_
        obtain ⟨s_6, hc, hf⟩ := ok_bind hf
        refine z_cV hC hl.1 hw hS (As := []) (rest := []) (m_X3_passMinute l E t0 hc) (sH t0).1 rfl gc51 gc52 ⟨Nat.le_of_ble_eq_true rfl, Nat.le_of_ble_eq_true rfl⟩ ⟨Nat.le_of_ble_eq_true rfl, Nat.le_of_ble_eq_true rfl⟩ rfl rfl (Nat.le_of_ble_eq_true rfl) dX3_staysLive_8 (fun H locs hw hS => ?_)
        clear hc
        refine lv_aload_n hx hb dX3_staysLive_11 rfl (lv_at hl 0 rfl) ?_
        refine lv_iload_n hx hb dX3_staysLive_12 rfl (lv_at hl 1 rfl) ?_
        obtain ⟨r_8, s_7, hc, hf⟩ := ok_bd hf
        refine z_cV hC hl.1 hw hS (As := [.int x1]) (rest := []) (m_X3_isLive l E t0 hc) (sH t0).1 rfl gc20 gc21 ⟨Nat.le_of_ble_eq_true rfl, Nat.le_of_ble_eq_true rfl⟩ ⟨Nat.le_of_ble_eq_true rfl, Nat.le_of_ble_eq_true rfl⟩ rfl rfl (Nat.le_of_ble_eq_true rfl) dX3_staysLive_13 (fun H locs hw hS => ?_)
        clear hc
        have hif := ok_if hf
        refine lv_if_ne (tgt := 21) hx hb dX3_staysLive_16 (by decide) (fun hcd => ?_) (fun hcd => ?_)
        · have hf := hif.1 hcd
          clear hif
          obtain ⟨v3_9, en, hf⟩ := ok_lt hf
          refine lv_iinc (v := v3_9) (lv' := [(3, .int v3_9), (0, .ref (E.2.2.1 a0)), (1, .int x1), (2, .int x2)]) hx hb dX3_staysLive_21 hl (k := 3) rfl (by rw [en]; rfl) (by decide) rfl (fun ls hl => ?_)
          clear en
          refine lv_goto (tgt := 2) hx hb dX3_staysLive_24 (by decide) ?_
          cases hf
          exact ih2 _ _ (hi2 _ rfl) _ _ ls (lv_sub hl [1, 2, 3, 0] rfl) hw hS
        · have hf := hif.2 (fun q => q hcd)
          clear hif
          cases hf
          exact X2_1 _ (he2 _ rfl) _ _ ls (lv_sub hl [] rfl) hw hS
  exact L2 5000 _ _ hL2 _ _ ls (lv_sub hl [1, 2, 3, 0] rfl) hw hS
set_option maxHeartbeats 4000000 in
set_option maxRecDepth 100000 in
theorem m_X3_liveMinutes (l : Launch) (E : Ev) {a0 : Nat} {x1 : Int32} {x2 : Int32} {x3 : Int32} (t0 : isH a0) {s0 sz : St} {rz : Int32} (hf : f_X3_liveMinutes a0 x1 x2 x3 s0 = some (rz, sz)) : MM l E sh2 yX3_liveMinutes cX3_liveMinutes 9 (some .int) (rmd 4) [.ref (E.2.2.1 a0), .int x1, .int x2, .int x3] s0 (some (.int rz)) sz := by
  unfold f_X3_liveMinutes at hf
  refine z_enter (by decide +kernel) (Nat.le_of_ble_eq_true rfl) ?_
  intro p e s m args below meth c ls hC hr hlocks hw hS hl
  have hC : Cx p s m args c cX3_liveMinutes 9 "FuseBox$House" E := hC
  obtain ⟨hx, hb, hml, hown, hts, hTB⟩ := id hC
  have hl : lv_has ls 9 [(0, .ref (E.2.2.1 a0)), (1, .int x1), (2, .int x2), (3, .int x3)] := hl
  refine lv_aload_n hx hb dX3_liveMinutes_0 rfl (lv_at hl 0 rfl) ?_
  refine gHouse_heat hC hw t0 wd49 dX3_liveMinutes_1 ?_
  refine lv_iload_n hx hb dX3_liveMinutes_4 rfl (lv_at hl 1 rfl) ?_
  obtain ⟨hin, hf⟩ := ok_chk hf
  refine z_iald hC hw (sH t0).2.2.2.1 hin dX3_liveMinutes_5 ?_
  obtain ⟨v4_1, en, hf⟩ := ok_lt hf
  refine z_nm en ?_
  clear en
  refine lv_istore (lv' := [(4, .int v4_1), (0, .ref (E.2.2.1 a0)), (1, .int x1), (2, .int x2), (3, .int x3)]) hx hb dX3_liveMinutes_6 hl (by decide) rfl (fun ls hl => ?_)
  refine lv_aload_n hx hb dX3_liveMinutes_8 rfl (lv_at hl 1 rfl) ?_
  refine gHouse_dead hC hw t0 wd50 dX3_liveMinutes_9 ?_
  refine lv_iload_n hx hb dX3_liveMinutes_12 rfl (lv_at hl 2 rfl) ?_
  obtain ⟨hin, hf⟩ := ok_chk hf
  refine z_iald hC hw (sH t0).2.2.2.2.1 hin dX3_liveMinutes_13 ?_
  obtain ⟨v5_2, en, hf⟩ := ok_lt hf
  refine z_nm en ?_
  clear en
  refine lv_istore (lv' := [(5, .int v5_2), (4, .int v4_1), (0, .ref (E.2.2.1 a0)), (1, .int x1), (2, .int x2), (3, .int x3)]) hx hb dX3_liveMinutes_14 hl (by decide) rfl (fun ls hl => ?_)
  refine lv_iconst (v := 0) hx hb dX3_liveMinutes_16 (by decide) ?_
  obtain ⟨v6_3, en, hf⟩ := ok_lt hf
  refine z_nm en ?_
  clear en
  refine lv_istore (lv' := [(6, .int v6_3), (5, .int v5_2), (4, .int v4_1), (0, .ref (E.2.2.1 a0)), (1, .int x1), (2, .int x2), (3, .int x3)]) hx hb dX3_liveMinutes_17 hl (by decide) rfl (fun ls hl => ?_)
  refine lv_iconst (v := 0) hx hb dX3_liveMinutes_19 (by decide) ?_
  obtain ⟨v7_4, en, hf⟩ := ok_lt hf
  refine z_nm en ?_
  clear en
  refine lv_istore (lv' := [(7, .int v7_4), (6, .int v6_3), (5, .int v5_2), (4, .int v4_1), (0, .ref (E.2.2.1 a0)), (1, .int x1), (2, .int x2), (3, .int x3)]) hx hb dX3_liveMinutes_20 hl (by decide) rfl (fun ls hl => ?_)
  obtain ⟨r22, hL22, hf⟩ := ok_bind hf
  have X22_0 : ∀ (v6_8 : Int32) (s_9 : St), (v6_8, s_9) = r22 → ∀ (H : Heap) (locs : List Loc) (ls : Array Slot), lv_has ls 9 [(0, .ref (E.2.2.1 a0)), (1, .int x1), (4, .int v4_1), (5, .int v5_2), (6, .int v6_8)] → World E sh2 s_9 H → va_S E.2.2.2 s.heap H locs → W p l e (rmd 4) s m args below meth c H locs 0 0 (MQ below (QW E sh2 (some (.int rz)) sz) args s 0 0 E.2.2.2) (F0 m 74 ls []) := by
    intro v6_8 s_9 er H locs ls hl hw hS
    subst er
    replace hf := ok_un2 hf
    refine lv_aload_n hx hb dX3_liveMinutes_74 rfl (lv_at hl 0 rfl) ?_
    refine gHouse_heat hC hw t0 wd49 dX3_liveMinutes_75 ?_
    refine lv_iload_n hx hb dX3_liveMinutes_78 rfl (lv_at hl 1 rfl) ?_
    refine lv_iload hx hb dX3_liveMinutes_79 (lv_at hl 2 rfl) ?_
    obtain ⟨hin, hf⟩ := ok_chk hf
    obtain ⟨s_10, en, hf⟩ := ok_lt hf
    refine z_iast hC hw hS (sH t0).2.2.2.1 hin en dX3_liveMinutes_81 (fun H locs hw hS => ?_)
    clear en
    refine lv_aload_n hx hb dX3_liveMinutes_82 rfl (lv_at hl 0 rfl) ?_
    refine gHouse_dead hC hw t0 wd50 dX3_liveMinutes_83 ?_
    refine lv_iload_n hx hb dX3_liveMinutes_86 rfl (lv_at hl 1 rfl) ?_
    refine lv_iload hx hb dX3_liveMinutes_87 (lv_at hl 3 rfl) ?_
    obtain ⟨hin, hf⟩ := ok_chk hf
    obtain ⟨s_11, en, hf⟩ := ok_lt hf
    refine z_iast hC hw hS (sH t0).2.2.2.2.1 hin en dX3_liveMinutes_89 (fun H locs hw hS => ?_)
    clear en
    refine lv_iload hx hb dX3_liveMinutes_90 (lv_at hl 4 rfl) ?_
    exact z_iretE hC hlocks hw hS hf hr rfl dX3_liveMinutes_92
  have L22 : ∀ (n : Nat) (v6_5 : Int32) (v7_6 : Int32) (s_7 : St), loopF (f_X3_liveMinutes_L22 a0 x1 x2 x3) n (v6_5, v7_6, s_7) = some r22 → ∀ (H : Heap) (locs : List Loc) (ls : Array Slot), lv_has ls 9 [(0, .ref (E.2.2.1 a0)), (1, .int x1), (2, .int x2), (3, .int x3), (4, .int v4_1), (5, .int v5_2), (6, .int v6_5), (7, .int v7_6)] → World E sh2 s_7 H → va_S E.2.2.2 s.heap H locs → W p l e (rmd 4) s m args below meth c H locs 0 0 (MQ below (QW E sh2 (some (.int rz)) sz) args s 0 0 E.2.2.2) (F0 m 22 ls []) := by
    intro n
    induction n with
    | zero =>
      intro v6_5 v7_6 s_7 hf
      exact nz hf
    | succ n ih22 =>
      intro v6_5 v7_6 s_7 hf H locs ls hl hw hS
      obtain ⟨xl22, hf, hi22, he22⟩ := ok_loop hf
      unfold f_X3_liveMinutes_L22 at hf
      replace hf := ok_un3 hf
      refine lv_iload hx hb dX3_liveMinutes_22 (lv_at hl 7 rfl) ?_
      refine lv_iload_n hx hb dX3_liveMinutes_24 rfl (lv_at hl 3 rfl) ?_
      have hif := ok_if hf
      refine lv_icmp_ge (tgt := 74) hx hb dX3_liveMinutes_25 (by decide) (fun hcd => ?_) (fun hcd => ?_)
      · have hf := hif.1 hcd
        clear hif
        cases hf
        exact X22_0 _ _ (he22 _ rfl) _ _ ls (lv_sub hl [0, 1, 4, 5, 6] rfl) hw hS
      · have hf := hif.2 hcd
        clear hif
        refine lv_aload_n hx hb dX3_liveMinutes_28 rfl (lv_at hl 0 rfl) ?_
        refine lv_iload_n hx hb dX3_liveMinutes_29 rfl (lv_at hl 1 rfl) ?_
        obtain ⟨r_13, s_12, hc, hf⟩ := ok_bd hf
        refine z_cV hC hl.1 hw hS (As := [.int x1]) (rest := []) (m_X3_isLive l E t0 hc) (sH t0).1 rfl gc20 gc21 ⟨Nat.le_of_ble_eq_true rfl, Nat.le_of_ble_eq_true rfl⟩ ⟨Nat.le_of_ble_eq_true rfl, Nat.le_of_ble_eq_true rfl⟩ rfl rfl (Nat.le_of_ble_eq_true rfl) dX3_liveMinutes_30 (fun H locs hw hS => ?_)
        clear hc
        refine lv_istore (lv' := [(8, .int r_13), (0, .ref (E.2.2.1 a0)), (1, .int x1), (2, .int x2), (3, .int x3), (4, .int v4_1), (5, .int v5_2), (6, .int v6_5), (7, .int v7_6)]) hx hb dX3_liveMinutes_33 hl (by decide) rfl (fun ls hl => ?_)
        refine lv_iload hx hb dX3_liveMinutes_35 (lv_at hl 7 rfl) ?_
        refine lv_iload hx hb dX3_liveMinutes_37 (lv_at hl 0 rfl) ?_
        obtain ⟨j50, ej50, hf⟩ := ok_lt hf
        have J50 : ∀ (k_14 : Int32) (s_15 : St), j50 k_14 s_15 = some xl22 → ∀ (H : Heap) (locs : List Loc) (ls : Array Slot), lv_has ls 9 [(0, .ref (E.2.2.1 a0)), (1, .int x1), (2, .int x2), (3, .int x3), (4, .int v4_1), (5, .int v5_2), (7, .int v7_6), (8, .int r_13)] → World E sh2 s_15 H → va_S E.2.2.2 s.heap H locs → W p l e (rmd 4) s m args below meth c H locs 0 0 (MQ below (QW E sh2 (some (.int rz)) sz) args s 0 0 E.2.2.2) (F0 m 50 ls [.int k_14, .int v6_5]) := by
          intro k_14 s_15 hf H locs ls hl hw hS
          subst ej50
          refine lv_ior hx hb dX3_liveMinutes_50 ?_
          obtain ⟨v6_16, en, hf⟩ := ok_lt hf
          refine z_nm en ?_
          clear en
          refine lv_istore (lv' := [(6, .int v6_16), (0, .ref (E.2.2.1 a0)), (1, .int x1), (2, .int x2), (3, .int x3), (4, .int v4_1), (5, .int v5_2), (7, .int v7_6), (8, .int r_13)]) hx hb dX3_liveMinutes_51 hl (by decide) rfl (fun ls hl => ?_)
          refine lv_aload_n hx hb dX3_liveMinutes_53 rfl (lv_at hl 1 rfl) ?_
          refine lv_iload_n hx hb dX3_liveMinutes_54 rfl (lv_at hl 2 rfl) ?_
          refine lv_iload hx hb dX3_liveMinutes_55 (lv_at hl 8 rfl) ?_
          obtain ⟨j65, ej65, hf⟩ := ok_lt hf
          have J65 : ∀ (k_17 : Int32) (s_18 : St), j65 k_17 s_18 = some xl22 → ∀ (H : Heap) (locs : List Loc) (ls : Array Slot), lv_has ls 9 [(0, .ref (E.2.2.1 a0)), (1, .int x1), (2, .int x2), (3, .int x3), (4, .int v4_1), (5, .int v5_2), (6, .int v6_16), (7, .int v7_6)] → World E sh2 s_18 H → va_S E.2.2.2 s.heap H locs → W p l e (rmd 4) s m args below meth c H locs 0 0 (MQ below (QW E sh2 (some (.int rz)) sz) args s 0 0 E.2.2.2) (F0 m 65 ls [.int k_17, .int x1, .ref (E.2.2.1 a0)]) := by
            intro k_17 s_18 hf H locs ls hl hw hS
            subst ej65
            obtain ⟨s_19, hc, hf⟩ := ok_bind hf
            refine z_cV hC hl.1 hw hS (As := [.int x1, .int k_17]) (rest := []) (m_X3_passLine l E t0 hc) (sH t0).1 rfl gc49 gc50 ⟨Nat.le_of_ble_eq_true rfl, Nat.le_of_ble_eq_true rfl⟩ ⟨Nat.le_of_ble_eq_true rfl, Nat.le_of_ble_eq_true rfl⟩ rfl rfl (Nat.le_of_ble_eq_true rfl) dX3_liveMinutes_65 (fun H locs hw hS => ?_)
            clear hc
            obtain ⟨v7_20, en, hf⟩ := ok_lt hf
            refine lv_iinc (v := v7_20) (lv' := [(7, .int v7_20), (0, .ref (E.2.2.1 a0)), (1, .int x1), (2, .int x2), (3, .int x3), (4, .int v4_1), (5, .int v5_2), (6, .int v6_16)]) hx hb dX3_liveMinutes_68 hl (k := 7) rfl (by rw [en]; rfl) (by decide) rfl (fun ls hl => ?_)
            clear en
            refine lv_goto (tgt := 22) hx hb dX3_liveMinutes_71 (by decide) ?_
            cases hf
            exact ih22 _ _ _ (hi22 _ rfl) _ _ ls (lv_sub hl [1, 2, 3, 4, 5, 6, 7, 0] rfl) hw hS
          clear ej65
          have hif := ok_if hf
          refine lv_if_eq (tgt := 64) hx hb dX3_liveMinutes_57 (by decide) (fun hcd => ?_) (fun hcd => ?_)
          · have hf := hif.1 hcd
            clear hif
            refine lv_iconst (v := 0) hx hb dX3_liveMinutes_64 (by decide) ?_
            exact J65 _ _ hf _ _ ls (lv_sub hl [1, 2, 3, 4, 5, 6, 0, 7] rfl) hw hS
          · have hf := hif.2 hcd
            clear hif
            refine lv_iload_n hx hb dX3_liveMinutes_60 rfl (lv_at hl 3 rfl) ?_
            refine lv_goto (tgt := 65) hx hb dX3_liveMinutes_61 (by decide) ?_
            exact J65 _ _ hf _ _ ls (lv_sub hl [1, 2, 3, 4, 5, 6, 0, 7] rfl) hw hS
        clear ej50
        have hif := ok_if hf
        refine lv_if_eq (tgt := 49) hx hb dX3_liveMinutes_39 (by decide) (fun hcd => ?_) (fun hcd => ?_)
        · have hf := hif.1 hcd
          clear hif
          refine lv_iconst (v := 0) hx hb dX3_liveMinutes_49 (by decide) ?_
          exact J50 _ _ hf _ _ ls (lv_sub hl [1, 2, 3, 4, 5, 6, 8, 0] rfl) hw hS
        · have hf := hif.2 hcd
          clear hif
          refine lv_iconst (v := 1) hx hb dX3_liveMinutes_42 (by decide) ?_
          refine lv_iload hx hb dX3_liveMinutes_43 (lv_at hl 8 rfl) ?_
          refine lv_ishl hx hb dX3_liveMinutes_45 ?_
          refine lv_goto (tgt := 50) hx hb dX3_liveMinutes_46 (by decide) ?_
          exact J50 _ _ hf _ _ ls (lv_sub hl [1, 2, 3, 4, 5, 6, 8, 0] rfl) hw hS
  exact L22 5000 _ _ _ hL22 _ _ ls (lv_sub hl [4, 5, 6, 7, 3, 2, 1, 0] rfl) hw hS
set_option maxHeartbeats 4000000 in
set_option maxRecDepth 100000 in
theorem m_X3_heatsAs (l : Launch) (E : Ev) {a0 : Nat} {x1 : Int32} {a2 : Nat} {x3 : Int32} {x4 : Int32} (t0 : isH a0) (t2 : isIt a2) {s0 sz : St} {rz : Int32} (hf : f_X3_heatsAs a0 x1 a2 x3 x4 s0 = some (rz, sz)) : MM l E sh2 yX3_heatsAs cX3_heatsAs 6 (some .boolean) (rmd 5) [.ref (E.2.2.1 a0), .int x1, .ref (E.2.2.1 a2), .int x3, .int x4] s0 (some (.int rz)) sz := by
  unfold f_X3_heatsAs at hf
  refine z_enter (by decide +kernel) (Nat.le_of_ble_eq_true rfl) ?_
  intro p e s m args below meth c ls hC hr hlocks hw hS hl
  have hC : Cx p s m args c cX3_heatsAs 6 "FuseBox$House" E := hC
  obtain ⟨hx, hb, hml, hown, hts, hTB⟩ := id hC
  have hl : lv_has ls 6 [(0, .ref (E.2.2.1 a0)), (1, .int x1), (2, .ref (E.2.2.1 a2)), (3, .int x3), (4, .int x4)] := hl
  refine lv_iconst (v := 0) hx hb dX3_heatsAs_0 (by decide) ?_
  obtain ⟨v5_1, en, hf⟩ := ok_lt hf
  refine z_nm en ?_
  clear en
  refine lv_istore (lv' := [(5, .int v5_1), (0, .ref (E.2.2.1 a0)), (1, .int x1), (2, .ref (E.2.2.1 a2)), (3, .int x3), (4, .int x4)]) hx hb dX3_heatsAs_1 hl (by decide) rfl (fun ls hl => ?_)
  obtain ⟨r3, hL3, hf⟩ := ok_bind hf
  have X3_0 : ∀ (s_4 : St), (.inl s_4) = r3 → ∀ (H : Heap) (locs : List Loc) (ls : Array Slot), lv_has ls 6 [] → World E sh2 s_4 H → va_S E.2.2.2 s.heap H locs → W p l e (rmd 5) s m args below meth c H locs 0 0 (MQ below (QW E sh2 (some (.int rz)) sz) args s 0 0 E.2.2.2) (F0 m 37 ls []) := by
    intro s_4 er H locs ls hl hw hS
    subst er
    replace hf := ok_sell (hf)
    replace hf := ok_un1 hf
    refine lv_iconst (v := 1) hx hb dX3_heatsAs_37 (by decide) ?_
    exact z_iretE hC hlocks hw hS hf hr (by decide) dX3_heatsAs_38
  have X3_1 : ∀ (s_5 : St), (.inr s_5) = r3 → ∀ (H : Heap) (locs : List Loc) (ls : Array Slot), lv_has ls 6 [] → World E sh2 s_5 H → va_S E.2.2.2 s.heap H locs → W p l e (rmd 5) s m args below meth c H locs 0 0 (MQ below (QW E sh2 (some (.int rz)) sz) args s 0 0 E.2.2.2) (F0 m 29 ls []) := by
    intro s_5 er H locs ls hl hw hS
    subst er
    replace hf := ok_selr (hf)
    replace hf := ok_un1 hf
    refine lv_iconst (v := 0) hx hb dX3_heatsAs_29 (by decide) ?_
    exact z_iretE hC hlocks hw hS hf hr (by decide) dX3_heatsAs_30
  have L3 : ∀ (n : Nat) (v5_2 : Int32) (s_3 : St), loopF (f_X3_heatsAs_L3 a0 x1 a2 x3 x4) n (v5_2, s_3) = some r3 → ∀ (H : Heap) (locs : List Loc) (ls : Array Slot), lv_has ls 6 [(0, .ref (E.2.2.1 a0)), (1, .int x1), (2, .ref (E.2.2.1 a2)), (3, .int x3), (4, .int x4), (5, .int v5_2)] → World E sh2 s_3 H → va_S E.2.2.2 s.heap H locs → W p l e (rmd 5) s m args below meth c H locs 0 0 (MQ below (QW E sh2 (some (.int rz)) sz) args s 0 0 E.2.2.2) (F0 m 3 ls []) := by
    intro n
    induction n with
    | zero =>
      intro v5_2 s_3 hf
      exact nz hf
    | succ n ih3 =>
      intro v5_2 s_3 hf H locs ls hl hw hS
      obtain ⟨xl3, hf, hi3, he3⟩ := ok_loop hf
      unfold f_X3_heatsAs_L3 at hf
      replace hf := ok_un2 hf
      refine lv_iload hx hb dX3_heatsAs_3 (lv_at hl 5 rfl) ?_
      refine lv_iload hx hb dX3_heatsAs_5 (lv_at hl 4 rfl) ?_
      have hif := ok_if hf
      refine lv_icmp_ge (tgt := 37) hx hb dX3_heatsAs_7 (by decide) (fun hcd => ?_) (fun hcd => ?_)
      · have hf := hif.1 hcd
        clear hif
        cases hf
        exact X3_0 _ (he3 _ rfl) _ _ ls (lv_sub hl [] rfl) hw hS
      · have hf := hif.2 hcd
        clear hif
        refine lv_aload_n hx hb dX3_heatsAs_10 rfl (lv_at hl 0 rfl) ?_
        obtain ⟨s_6, hc, hf⟩ := ok_bind hf
        refine z_cV hC hl.1 hw hS (As := []) (rest := []) (m_X3_passMinute l E t0 hc) (sH t0).1 rfl gc51 gc52 ⟨Nat.le_of_ble_eq_true rfl, Nat.le_of_ble_eq_true rfl⟩ ⟨Nat.le_of_ble_eq_true rfl, Nat.le_of_ble_eq_true rfl⟩ rfl rfl (Nat.le_of_ble_eq_true rfl) dX3_heatsAs_11 (fun H locs hw hS => ?_)
        clear hc
        refine lv_aload_n hx hb dX3_heatsAs_14 rfl (lv_at hl 0 rfl) ?_
        refine gHouse_heat hC hw t0 wd49 dX3_heatsAs_15 ?_
        refine lv_iload_n hx hb dX3_heatsAs_18 rfl (lv_at hl 1 rfl) ?_
        obtain ⟨hin, hf⟩ := ok_chk hf
        refine z_iald hC hw (sH t0).2.2.2.1 hin dX3_heatsAs_19 ?_
        refine lv_aload_n hx hb dX3_heatsAs_20 rfl (lv_at hl 2 rfl) ?_
        refine lv_iload_n hx hb dX3_heatsAs_21 rfl (lv_at hl 3 rfl) ?_
        refine lv_iload hx hb dX3_heatsAs_22 (lv_at hl 5 rfl) ?_
        refine lv_iadd hx hb dX3_heatsAs_24 ?_
        obtain ⟨hin, hf⟩ := ok_chk hf
        refine z_iald hC hw t2 hin dX3_heatsAs_25 ?_
        have hif := ok_if hf
        refine lv_icmp_eq (tgt := 31) hx hb dX3_heatsAs_26 (by decide) (fun hcd => ?_) (fun hcd => ?_)
        · have hf := hif.1 hcd
          clear hif
          obtain ⟨v5_7, en, hf⟩ := ok_lt hf
          refine lv_iinc (v := v5_7) (lv' := [(5, .int v5_7), (0, .ref (E.2.2.1 a0)), (1, .int x1), (2, .ref (E.2.2.1 a2)), (3, .int x3), (4, .int x4)]) hx hb dX3_heatsAs_31 hl (k := 5) rfl (by rw [en]; rfl) (by decide) rfl (fun ls hl => ?_)
          clear en
          refine lv_goto (tgt := 3) hx hb dX3_heatsAs_34 (by decide) ?_
          cases hf
          exact ih3 _ _ (hi3 _ rfl) _ _ ls (lv_sub hl [1, 2, 3, 4, 5, 0] rfl) hw hS
        · have hf := hif.2 hcd
          clear hif
          cases hf
          exact X3_1 _ (he3 _ rfl) _ _ ls (lv_sub hl [] rfl) hw hS
  exact L3 5000 _ _ hL3 _ _ ls (lv_sub hl [1, 2, 3, 4, 5, 0] rfl) hw hS
set_option maxHeartbeats 4000000 in
set_option maxRecDepth 100000 in
theorem m_X3_takeKind (l : Launch) (E : Ev) {a0 : Nat} {x1 : Int32} {x2 : Int32} (t0 : isH a0) {s0 sz : St} (hf : f_X3_takeKind a0 x1 x2 s0 = some sz) : MM l E sh2 yX3_takeKind cX3_takeKind 3 none (rmd 2) [.ref (E.2.2.1 a0), .int x1, .int x2] s0 none sz := by
  unfold f_X3_takeKind at hf
  refine z_enter (by decide +kernel) (Nat.le_of_ble_eq_true rfl) ?_
  intro p e s m args below meth c ls hC hr hlocks hw hS hl
  have hC : Cx p s m args c cX3_takeKind 3 "FuseBox$House" E := hC
  obtain ⟨hx, hb, hml, hown, hts, hTB⟩ := id hC
  have hl : lv_has ls 3 [(0, .ref (E.2.2.1 a0)), (1, .int x1), (2, .int x2)] := hl
  refine lv_aload_n hx hb dX3_takeKind_0 rfl (lv_at hl 0 rfl) ?_
  refine lv_iload_n hx hb dX3_takeKind_1 rfl (lv_at hl 1 rfl) ?_
  obtain ⟨r_2, s_1, hc, hf⟩ := ok_bd hf
  refine z_cV hC hl.1 hw hS (As := [.int x1]) (rest := []) (m_X3_isDead l E t0 hc) (sH t0).1 rfl gc22 gc23 ⟨Nat.le_of_ble_eq_true rfl, Nat.le_of_ble_eq_true rfl⟩ ⟨Nat.le_of_ble_eq_true rfl, Nat.le_of_ble_eq_true rfl⟩ rfl rfl (Nat.le_of_ble_eq_true rfl) dX3_takeKind_2 (fun H locs hw hS => ?_)
  clear hc
  obtain ⟨j34, ej34, hf⟩ := ok_lt hf
  have J34 : ∀ (s_3 : St), j34 s_3 = some sz → ∀ (H : Heap) (locs : List Loc) (ls : Array Slot), lv_has ls 3 [(0, .ref (E.2.2.1 a0)), (1, .int x1), (2, .int x2)] → World E sh2 s_3 H → va_S E.2.2.2 s.heap H locs → W p l e (rmd 2) s m args below meth c H locs 0 0 (MQ below (QW E sh2 none sz) args s 0 0 E.2.2.2) (F0 m 34 ls []) := by
    intro s_3 hf H locs ls hl hw hS
    subst ej34
    refine lv_aload_n hx hb dX3_takeKind_34 rfl (lv_at hl 0 rfl) ?_
    refine gHouse_kind hC hw t0 wd47 dX3_takeKind_35 ?_
    refine lv_iload_n hx hb dX3_takeKind_38 rfl (lv_at hl 1 rfl) ?_
    refine lv_iload_n hx hb dX3_takeKind_39 rfl (lv_at hl 2 rfl) ?_
    obtain ⟨hin, hf⟩ := ok_chk hf
    obtain ⟨s_4, en, hf⟩ := ok_lt hf
    refine z_iast hC hw hS (sH t0).2.1 hin en dX3_takeKind_40 (fun H locs hw hS => ?_)
    clear en
    exact z_vretE hC hlocks hw hS hf hr dX3_takeKind_41
  clear ej34
  have hif := ok_if hf
  refine lv_if_eq (tgt := 34) hx hb dX3_takeKind_5 (by decide) (fun hcd => ?_) (fun hcd => ?_)
  · have hf := hif.1 hcd
    clear hif
    exact J34 _ hf _ _ ls hl hw hS
  · have hf := hif.2 hcd
    clear hif
    refine lv_aload_n hx hb dX3_takeKind_8 rfl (lv_at hl 0 rfl) ?_
    refine gHouse_kind hC hw t0 wd47 dX3_takeKind_9 ?_
    refine lv_iload_n hx hb dX3_takeKind_12 rfl (lv_at hl 1 rfl) ?_
    obtain ⟨hin, hf⟩ := ok_chk hf
    refine z_iald hC hw (sH t0).2.1 hin dX3_takeKind_13 ?_
    refine lv_iload_n hx hb dX3_takeKind_14 rfl (lv_at hl 2 rfl) ?_
    have hif := ok_if hf
    refine lv_icmp_eq (tgt := 34) hx hb dX3_takeKind_15 (by decide) (fun hcd => ?_) (fun hcd => ?_)
    · have hf := hif.1 hcd
      clear hif
      exact J34 _ hf _ _ ls hl hw hS
    · have hf := hif.2 hcd
      clear hif
      refine lv_aload_n hx hb dX3_takeKind_18 rfl (lv_at hl 0 rfl) ?_
      refine gHouse_dead hC hw t0 wd50 dX3_takeKind_19 ?_
      refine lv_iload_n hx hb dX3_takeKind_22 rfl (lv_at hl 1 rfl) ?_
      refine lv_iload_n hx hb dX3_takeKind_23 rfl (lv_at hl 2 rfl) ?_
      refine lv_iconst (v := 5) hx hb dX3_takeKind_24 (by decide) ?_
      obtain ⟨j33, ej33, hf⟩ := ok_lt hf
      have J33 : ∀ (k_5 : Int32) (s_6 : St), j33 k_5 s_6 = some sz → ∀ (H : Heap) (locs : List Loc) (ls : Array Slot), lv_has ls 3 [(0, .ref (E.2.2.1 a0)), (1, .int x1), (2, .int x2)] → World E sh2 s_6 H → va_S E.2.2.2 s.heap H locs → W p l e (rmd 2) s m args below meth c H locs 0 0 (MQ below (QW E sh2 none sz) args s 0 0 E.2.2.2) (F0 m 33 ls [.int k_5, .int x1, .ref (E.2.2.1 (a0 + 4))]) := by
        intro k_5 s_6 hf H locs ls hl hw hS
        subst ej33
        obtain ⟨hin, hf⟩ := ok_chk hf
        obtain ⟨s_7, en, hf⟩ := ok_lt hf
        refine z_iast hC hw hS (sH t0).2.2.2.2.1 hin en dX3_takeKind_33 (fun H locs hw hS => ?_)
        clear en
        exact J34 _ hf _ _ ls hl hw hS
      clear ej33
      have hif := ok_if hf
      refine lv_icmp_ne (tgt := 32) hx hb dX3_takeKind_25 (by decide) (fun hcd => ?_) (fun hcd => ?_)
      · have hf := hif.1 hcd
        clear hif
        refine lv_iconst (v := 1) hx hb dX3_takeKind_32 (by decide) ?_
        exact J33 _ _ hf _ _ ls hl hw hS
      · have hf := hif.2 (fun q => q hcd)
        clear hif
        refine lv_iconst (v := 3) hx hb dX3_takeKind_28 (by decide) ?_
        refine lv_goto (tgt := 33) hx hb dX3_takeKind_29 (by decide) ?_
        exact J33 _ _ hf _ _ ls hl hw hS
set_option maxHeartbeats 4000000 in
set_option maxRecDepth 100000 in
theorem m_X3_mendAll (l : Launch) (E : Ev) {a0 : Nat} (t0 : isH a0) {s0 sz : St} (hf : f_X3_mendAll a0 s0 = some sz) : MM l E sh2 yX3_mendAll cX3_mendAll 2 none (rmd 2) [.ref (E.2.2.1 a0)] s0 none sz := by
  unfold f_X3_mendAll at hf
  refine z_enter (by decide +kernel) (Nat.le_of_ble_eq_true rfl) ?_
  intro p e s m args below meth c ls hC hr hlocks hw hS hl
  have hC : Cx p s m args c cX3_mendAll 2 "FuseBox$House" E := hC
  obtain ⟨hx, hb, hml, hown, hts, hTB⟩ := id hC
  have hl : lv_has ls 2 [(0, .ref (E.2.2.1 a0))] := hl
  refine lv_iconst (v := 0) hx hb dX3_mendAll_0 (by decide) ?_
  obtain ⟨v1_1, en, hf⟩ := ok_lt hf
  refine z_nm en ?_
  clear en
  refine lv_istore_n (lv' := [(1, .int v1_1), (0, .ref (E.2.2.1 a0))]) hx hb dX3_mendAll_1 rfl hl (by decide) rfl (fun ls hl => ?_)
  obtain ⟨r2, hL2, hf⟩ := ok_bind hf
  have X2_0 : ∀ (s_4 : St), s_4 = r2 → ∀ (H : Heap) (locs : List Loc) (ls : Array Slot), lv_has ls 2 [(0, .ref (E.2.2.1 a0))] → World E sh2 s_4 H → va_S E.2.2.2 s.heap H locs → W p l e (rmd 2) s m args below meth c H locs 0 0 (MQ below (QW E sh2 none sz) args s 0 0 E.2.2.2) (F0 m 29 ls []) := by
    intro s_4 er H locs ls hl hw hS
    subst er
    replace hf := ok_un1 hf
    refine lv_aload_n hx hb dX3_mendAll_29 rfl (lv_at hl 0 rfl) ?_
    refine lv_iconst (v := 1) hx hb dX3_mendAll_30 (by decide) ?_
    obtain ⟨s_5, en, hf⟩ := ok_lt hf
    refine pHouse_mainIn hC hw hS t0 (by decide) wd45 en dX3_mendAll_31 (fun H locs hw hS => ?_)
    clear en
    exact z_vretE hC hlocks hw hS hf hr dX3_mendAll_34
  have L2 : ∀ (n : Nat) (v1_2 : Int32) (s_3 : St), loopF (f_X3_mendAll_L2 a0) n (v1_2, s_3) = some r2 → ∀ (H : Heap) (locs : List Loc) (ls : Array Slot), lv_has ls 2 [(0, .ref (E.2.2.1 a0)), (1, .int v1_2)] → World E sh2 s_3 H → va_S E.2.2.2 s.heap H locs → W p l e (rmd 2) s m args below meth c H locs 0 0 (MQ below (QW E sh2 none sz) args s 0 0 E.2.2.2) (F0 m 2 ls []) := by
    intro n
    induction n with
    | zero =>
      intro v1_2 s_3 hf
      exact nz hf
    | succ n ih2 =>
      intro v1_2 s_3 hf H locs ls hl hw hS
      obtain ⟨xl2, hf, hi2, he2⟩ := ok_loop hf
      unfold f_X3_mendAll_L2 at hf
      replace hf := ok_un2 hf
      refine lv_iload_n hx hb dX3_mendAll_2 rfl (lv_at hl 1 rfl) ?_
      refine lv_aload_n hx hb dX3_mendAll_3 rfl (lv_at hl 0 rfl) ?_
      refine gHouse_lines hC hw t0 wd40 dX3_mendAll_4 ?_
      have hif := ok_if hf
      refine lv_icmp_ge (tgt := 29) hx hb dX3_mendAll_7 (by decide) (fun hcd => ?_) (fun hcd => ?_)
      · have hf := hif.1 hcd
        clear hif
        cases hf
        exact X2_0 _ (he2 _ rfl) _ _ ls (lv_sub hl [0] rfl) hw hS
      · have hf := hif.2 hcd
        clear hif
        refine lv_aload_n hx hb dX3_mendAll_10 rfl (lv_at hl 0 rfl) ?_
        refine lv_iload_n hx hb dX3_mendAll_11 rfl (lv_at hl 1 rfl) ?_
        obtain ⟨r_7, s_6, hc, hf⟩ := ok_bd hf
        refine z_cV hC hl.1 hw hS (As := [.int v1_2]) (rest := []) (m_X3_isDead l E t0 hc) (sH t0).1 rfl gc22 gc23 ⟨Nat.le_of_ble_eq_true rfl, Nat.le_of_ble_eq_true rfl⟩ ⟨Nat.le_of_ble_eq_true rfl, Nat.le_of_ble_eq_true rfl⟩ rfl rfl (Nat.le_of_ble_eq_true rfl) dX3_mendAll_12 (fun H locs hw hS => ?_)
        clear hc
        obtain ⟨j23, ej23, hf⟩ := ok_lt hf
        have J23 : ∀ (s_8 : St), j23 s_8 = some xl2 → ∀ (H : Heap) (locs : List Loc) (ls : Array Slot), lv_has ls 2 [(0, .ref (E.2.2.1 a0)), (1, .int v1_2)] → World E sh2 s_8 H → va_S E.2.2.2 s.heap H locs → W p l e (rmd 2) s m args below meth c H locs 0 0 (MQ below (QW E sh2 none sz) args s 0 0 E.2.2.2) (F0 m 23 ls []) := by
          intro s_8 hf H locs ls hl hw hS
          subst ej23
          obtain ⟨v1_9, en, hf⟩ := ok_lt hf
          refine lv_iinc (v := v1_9) (lv' := [(1, .int v1_9), (0, .ref (E.2.2.1 a0))]) hx hb dX3_mendAll_23 hl (k := 1) rfl (by rw [en]; rfl) (by decide) rfl (fun ls hl => ?_)
          clear en
          refine lv_goto (tgt := 2) hx hb dX3_mendAll_26 (by decide) ?_
          cases hf
          exact ih2 _ _ (hi2 _ rfl) _ _ ls (lv_sub hl [1, 0] rfl) hw hS
        clear ej23
        have hif := ok_if hf
        refine lv_if_eq (tgt := 23) hx hb dX3_mendAll_15 (by decide) (fun hcd => ?_) (fun hcd => ?_)
        · have hf := hif.1 hcd
          clear hif
          exact J23 _ hf _ _ ls hl hw hS
        · have hf := hif.2 hcd
          clear hif
          refine lv_aload_n hx hb dX3_mendAll_18 rfl (lv_at hl 0 rfl) ?_
          refine lv_iload_n hx hb dX3_mendAll_19 rfl (lv_at hl 1 rfl) ?_
          obtain ⟨s_10, hc, hf⟩ := ok_bind hf
          refine z_cV hC hl.1 hw hS (As := [.int v1_2]) (rest := []) (m_X3_mendLine l E t0 hc) (sH t0).1 rfl gc53 gc54 ⟨Nat.le_of_ble_eq_true rfl, Nat.le_of_ble_eq_true rfl⟩ ⟨Nat.le_of_ble_eq_true rfl, Nat.le_of_ble_eq_true rfl⟩ rfl rfl (Nat.le_of_ble_eq_true rfl) dX3_mendAll_20 (fun H locs hw hS => ?_)
          clear hc
          exact J23 _ hf _ _ ls hl hw hS
  exact L2 5000 _ _ hL2 _ _ ls (lv_sub hl [1, 0] rfl) hw hS
set_option maxHeartbeats 4000000 in
set_option maxRecDepth 100000 in
theorem m_X3_draw (l : Launch) (E : Ev) {a0 : Nat} {x1 : Int64} (t0 : isH a0) {s0 sz : St} (hf : f_X3_draw a0 x1 s0 = some sz) : MM l E sh2 yX3_draw cX3_draw 3 none (rmd 3) [.ref (E.2.2.1 a0), .long x1] s0 none sz := by
  unfold f_X3_draw at hf
  refine z_enter (by decide +kernel) (Nat.le_of_ble_eq_true rfl) ?_
  intro p e s m args below meth c ls hC hr hlocks hw hS hl
  have hC : Cx p s m args c cX3_draw 3 "FuseBox$House" E := hC
  obtain ⟨hx, hb, hml, hown, hts, hTB⟩ := id hC
  have hl : lv_has ls 3 [(0, .ref (E.2.2.1 a0)), (1, .long x1)] := hl
  refine lv_lload_n hx hb dX3_draw_0 rfl (lv_at hl 1 rfl) ?_
  refine lv_ldc2 (v := 3) hx hb hown (hts _ wd145) dX3_draw_1 ?_
  refine lv_lrem hx hb dX3_draw_4 (by decide) ?_
  refine lv_lconst (v := 0) hx hb dX3_draw_5 (by decide) ?_
  refine W.lcmp hx hb dX3_draw_6 ?_
  obtain ⟨j50, ej50, hf⟩ := ok_lt hf
  have J50 : ∀ (s_1 : St), j50 s_1 = some sz → ∀ (H : Heap) (locs : List Loc) (ls : Array Slot), lv_has ls 3 [] → World E sh2 s_1 H → va_S E.2.2.2 s.heap H locs → W p l e (rmd 3) s m args below meth c H locs 0 0 (MQ below (QW E sh2 none sz) args s 0 0 E.2.2.2) (F0 m 50 ls []) := by
    intro s_1 hf H locs ls hl hw hS
    subst ej50
    exact z_vretE hC hlocks hw hS hf hr dX3_draw_50
  clear ej50
  have hif := ok_if hf
  refine lv_if_ne (tgt := 36) hx hb dX3_draw_7 (by decide) (fun hcd => ?_) (fun hcd => ?_)
  · have hf := hif.1 hcd
    clear hif
    refine lv_lload_n hx hb dX3_draw_36 rfl (lv_at hl 1 rfl) ?_
    refine lv_ldc2 (v := 5) hx hb hown (hts _ wd146) dX3_draw_37 ?_
    refine lv_lrem hx hb dX3_draw_40 (by decide) ?_
    refine lv_lconst (v := 0) hx hb dX3_draw_41 (by decide) ?_
    refine W.lcmp hx hb dX3_draw_42 ?_
    have hif := ok_if hf
    refine lv_if_ne (tgt := 50) hx hb dX3_draw_43 (by decide) (fun hcd => ?_) (fun hcd => ?_)
    · have hf := hif.1 hcd
      clear hif
      exact J50 _ hf _ _ ls (lv_sub hl [] rfl) hw hS
    · have hf := hif.2 (fun q => q hcd)
      clear hif
      refine lv_aload_n hx hb dX3_draw_46 rfl (lv_at hl 0 rfl) ?_
      obtain ⟨s_2, hc, hf⟩ := ok_bind hf
      refine z_cV hC hl.1 hw hS (As := []) (rest := []) (m_X3_mendAll l E t0 hc) (sH t0).1 rfl gc55 gc56 ⟨Nat.le_of_ble_eq_true rfl, Nat.le_of_ble_eq_true rfl⟩ ⟨Nat.le_of_ble_eq_true rfl, Nat.le_of_ble_eq_true rfl⟩ rfl rfl (Nat.le_of_ble_eq_true rfl) dX3_draw_47 (fun H locs hw hS => ?_)
      clear hc
      exact J50 _ hf _ _ ls (lv_sub hl [] rfl) hw hS
  · have hf := hif.2 (fun q => q hcd)
    clear hif
    refine lv_aload_n hx hb dX3_draw_10 rfl (lv_at hl 0 rfl) ?_
    refine lv_aload_n hx hb dX3_draw_11 rfl (lv_at hl 0 rfl) ?_
    refine gHouse_things hC hw t0 wd41 dX3_draw_12 ?_
    obtain ⟨j30, ej30, hf⟩ := ok_lt hf
    have J30 : ∀ (k_3 : Int32) (s_4 : St), j30 k_3 s_4 = some sz → ∀ (H : Heap) (locs : List Loc) (ls : Array Slot), lv_has ls 3 [] → World E sh2 s_4 H → va_S E.2.2.2 s.heap H locs → W p l e (rmd 3) s m args below meth c H locs 0 0 (MQ below (QW E sh2 none sz) args s 0 0 E.2.2.2) (F0 m 30 ls [.int k_3, .ref (E.2.2.1 a0)]) := by
      intro k_3 s_4 hf H locs ls hl hw hS
      subst ej30
      obtain ⟨s_5, hc, hf⟩ := ok_bind hf
      refine z_cV hC hl.1 hw hS (As := [.int k_3]) (rest := []) (m_X3_toggle l E t0 hc) (sH t0).1 rfl gc57 gc58 ⟨Nat.le_of_ble_eq_true rfl, Nat.le_of_ble_eq_true rfl⟩ ⟨Nat.le_of_ble_eq_true rfl, Nat.le_of_ble_eq_true rfl⟩ rfl rfl (Nat.le_of_ble_eq_true rfl) dX3_draw_30 (fun H locs hw hS => ?_)
      clear hc
      refine lv_goto (tgt := 50) hx hb dX3_draw_33 (by decide) ?_
      exact J50 _ hf _ _ ls hl hw hS
    clear ej30
    have hif := ok_if hf
    refine lv_if_le (tgt := 29) hx hb dX3_draw_15 (by decide) (fun hcd => ?_) (fun hcd => ?_)
    · have hf := hif.1 hcd
      clear hif
      refine lv_iconst (v := 0) hx hb dX3_draw_29 (by decide) ?_
      exact J30 _ _ hf _ _ ls (lv_sub hl [] rfl) hw hS
    · have hf := hif.2 hcd
      clear hif
      refine lv_lload_n hx hb dX3_draw_18 rfl (lv_at hl 1 rfl) ?_
      refine lv_aload_n hx hb dX3_draw_19 rfl (lv_at hl 0 rfl) ?_
      refine gHouse_things hC hw t0 wd41 dX3_draw_20 ?_
      refine lv_i2l (v := ((s0 a0 2)).toInt64) hx hb dX3_draw_23 rfl ?_
      obtain ⟨hnz, hf⟩ := ok_chk hf
      refine lv_lrem hx hb dX3_draw_24 hnz ?_
      refine lv_l2i (v := ((x1 - x1 / (((s0 a0 2)).toInt64) * (((s0 a0 2)).toInt64))).toInt32) hx hb dX3_draw_25 rfl ?_
      refine lv_goto (tgt := 30) hx hb dX3_draw_26 (by decide) ?_
      exact J30 _ _ hf _ _ ls (lv_sub hl [] rfl) hw hS
