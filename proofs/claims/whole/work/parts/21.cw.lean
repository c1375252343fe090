/-! words and facts for the constructors -/
theorem wd752 : Cond.methodLink "FuseBox$Fuse" 1 Lib.objectInit ∈ WL := mem_WL (t1_in (List.mem_of_getElem? (i := 115) rfl)) rfl
theorem wd753 : Cond.instanceMethod Lib.objectInit ∈ WL := mem_WL (t1_in (List.mem_of_getElem? (i := 23) rfl)) rfl
theorem wd754 : Cond.code Lib.objectInit ⟨#[0xb1]⟩ 1 none ∈ WL := mem_WL (t1_in (List.mem_of_getElem? (i := 24) rfl)) rfl
theorem wd755 : Cond.code yX2_init cX2_init 1 none ∈ WL := mem_WL (t1_in (List.mem_of_getElem? (i := 114) rfl)) rfl
theorem wd756 : Cond.instanceMethod yX2_init ∈ WL := mem_WL (t1_in (List.mem_of_getElem? (i := 113) rfl)) rfl
theorem wd757 : Cond.code yX10_init cX10_init 1 none ∈ WL := mem_WL (t1_in (List.mem_of_getElem? (i := 111) rfl)) rfl
theorem wd758 : Cond.instanceMethod yX10_init ∈ WL := mem_WL (t1_in (List.mem_of_getElem? (i := 110) rfl)) rfl
theorem wd759 : Cond.code yX0_init cX0_init 1 none ∈ WL := mem_WL (t1_in (List.mem_of_getElem? (i := 135) rfl)) rfl
theorem wd760 : Cond.instanceMethod yX0_init ∈ WL := mem_WL (t1_in (List.mem_of_getElem? (i := 134) rfl)) rfl
theorem wd761 : Cond.methodLink "FuseBox$House" 3 Lib.objectInit ∈ WL := mem_WL (t1_in (List.mem_of_getElem? (i := 149) rfl)) rfl
theorem wd762 : Cond.arrayClass .int ∈ WL := mem_WL (t1_in (List.mem_of_getElem? (i := 57) rfl)) rfl
theorem wd763 : Cond.methodLink "FuseBox$Row" 3 Lib.objectInit ∈ WL := mem_WL (t1_in (List.mem_of_getElem? (i := 223) rfl)) rfl
theorem wd764 : Cond.methodLink "FuseBox$Reader" 3 Lib.objectInit ∈ WL := mem_WL (t1_in (List.mem_of_getElem? (i := 32) rfl)) rfl
theorem wd765 : Cond.methodLink "FuseBox$Plugging" 3 Lib.objectInit ∈ WL := mem_WL (t1_in (List.mem_of_getElem? (i := 65) rfl)) rfl
theorem wd766 : Cond.methodLink "FuseBox$Trace" 3 Lib.objectInit ∈ WL := mem_WL (t1_in (List.mem_of_getElem? (i := 95) rfl)) rfl
theorem wd767 : Cond.methodLink "FuseBox" 1 Lib.objectInit ∈ WL := mem_WL (t1_in (List.mem_of_getElem? (i := 22) rfl)) rfl
theorem wd768 : Cond.classLink "FuseBox" 9 "FuseBox$Row" ∈ WL := mem_WL (t1_in (List.mem_of_getElem? (i := 25) rfl)) rfl
theorem wd769 : Cond.classLink "FuseBox" 15 "FuseBox$Reader" ∈ WL := mem_WL (t1_in (List.mem_of_getElem? (i := 27) rfl)) rfl
theorem wd770 : Cond.instantiable "FuseBox$Reader" 7 ∈ WL := mem_WL (t1_in (List.mem_of_getElem? (i := 28) rfl)) rfl
theorem wd771 : Cond.code yX6_init cX6_init 1 none ∈ WL := mem_WL (t1_in (List.mem_of_getElem? (i := 31) rfl)) rfl
theorem wd772 : Cond.instanceMethod yX6_init ∈ WL := mem_WL (t1_in (List.mem_of_getElem? (i := 30) rfl)) rfl
theorem wd773 : Cond.classLink "FuseBox" 22 "FuseBox$House" ∈ WL := mem_WL (t1_in (List.mem_of_getElem? (i := 58) rfl)) rfl
theorem wd774 : Cond.classLink "FuseBox" 31 "FuseBox$Plugging" ∈ WL := mem_WL (t1_in (List.mem_of_getElem? (i := 60) rfl)) rfl
theorem wd775 : Cond.instantiable "FuseBox$Plugging" 7 ∈ WL := mem_WL (t1_in (List.mem_of_getElem? (i := 61) rfl)) rfl
theorem wd776 : Cond.code yX4_init cX4_init 1 none ∈ WL := mem_WL (t1_in (List.mem_of_getElem? (i := 64) rfl)) rfl
theorem wd777 : Cond.instanceMethod yX4_init ∈ WL := mem_WL (t1_in (List.mem_of_getElem? (i := 63) rfl)) rfl
theorem wd778 : Cond.classLink "FuseBox" 38 "FuseBox$Trace" ∈ WL := mem_WL (t1_in (List.mem_of_getElem? (i := 90) rfl)) rfl
theorem wd779 : Cond.instantiable "FuseBox$Trace" 2 ∈ WL := mem_WL (t1_in (List.mem_of_getElem? (i := 91) rfl)) rfl
theorem wd780 : Cond.code yX9_init cX9_init 1 none ∈ WL := mem_WL (t1_in (List.mem_of_getElem? (i := 94) rfl)) rfl
theorem wd781 : Cond.instanceMethod yX9_init ∈ WL := mem_WL (t1_in (List.mem_of_getElem? (i := 93) rfl)) rfl
theorem wd782 : Cond.classLink "FuseBox" 45 "FuseBox$Fuse" ∈ WL := mem_WL (t1_in (List.mem_of_getElem? (i := 105) rfl)) rfl
theorem wd783 : Cond.instantiable "FuseBox$Wire" 0 ∈ WL := mem_WL (t1_in (List.mem_of_getElem? (i := 108) rfl)) rfl
theorem wd784 : Cond.instantiable "FuseBox$Slow" 0 ∈ WL := mem_WL (t1_in (List.mem_of_getElem? (i := 118) rfl)) rfl
theorem wd785 : Cond.code yX8_init cX8_init 1 none ∈ WL := mem_WL (t1_in (List.mem_of_getElem? (i := 121) rfl)) rfl
theorem wd786 : Cond.instanceMethod yX8_init ∈ WL := mem_WL (t1_in (List.mem_of_getElem? (i := 120) rfl)) rfl
theorem wd787 : Cond.instantiable "FuseBox$Quick" 0 ∈ WL := mem_WL (t1_in (List.mem_of_getElem? (i := 125) rfl)) rfl
theorem wd788 : Cond.code yX5_init cX5_init 1 none ∈ WL := mem_WL (t1_in (List.mem_of_getElem? (i := 128) rfl)) rfl
theorem wd789 : Cond.instanceMethod yX5_init ∈ WL := mem_WL (t1_in (List.mem_of_getElem? (i := 127) rfl)) rfl
theorem wd790 : Cond.instantiable "FuseBox$Breaker" 0 ∈ WL := mem_WL (t1_in (List.mem_of_getElem? (i := 132) rfl)) rfl
theorem wd791 : Cond.instantiable "FuseBox$Coil" 0 ∈ WL := mem_WL (t1_in (List.mem_of_getElem? (i := 139) rfl)) rfl
theorem wd792 : Cond.code yX1_init cX1_init 1 none ∈ WL := mem_WL (t1_in (List.mem_of_getElem? (i := 142) rfl)) rfl
theorem wd793 : Cond.instanceMethod yX1_init ∈ WL := mem_WL (t1_in (List.mem_of_getElem? (i := 141) rfl)) rfl
theorem wd794 : Cond.instantiable "FuseBox$House" 15 ∈ WL := mem_WL (t1_in (List.mem_of_getElem? (i := 145) rfl)) rfl
theorem wd795 : Cond.code yX3_init cX3_init 2 none ∈ WL := mem_WL (t1_in (List.mem_of_getElem? (i := 148) rfl)) rfl
theorem wd796 : Cond.methodLink "FuseBox" 62 yX3_init ∈ WL := mem_WL (t1_in (List.mem_of_getElem? (i := 146) rfl)) rfl
theorem wd797 : Cond.instanceMethod yX3_init ∈ WL := mem_WL (t1_in (List.mem_of_getElem? (i := 147) rfl)) rfl
theorem wd798 : Cond.instantiable "FuseBox$Row" 3 ∈ WL := mem_WL (t1_in (List.mem_of_getElem? (i := 219) rfl)) rfl
theorem wd799 : Cond.code yX7_init cX7_init 1 none ∈ WL := mem_WL (t1_in (List.mem_of_getElem? (i := 222) rfl)) rfl
theorem wd800 : Cond.instanceMethod yX7_init ∈ WL := mem_WL (t1_in (List.mem_of_getElem? (i := 221) rfl)) rfl
theorem wd801 : Cond.methodLink "FuseBoxModel" 1 Lib.objectInit ∈ WL := mem_WL (t4_in (List.mem_of_getElem? (i := 119) rfl)) rfl
theorem wd802 : Cond.arrayClass .byte ∈ WL := mem_WL (t4_in (List.mem_of_getElem? (i := 190) rfl)) rfl
theorem gc307 : (yX2_init).cls ≠ "java/lang/invoke/MethodHandle" ∧ (yX2_init).cls ≠ "java/lang/invoke/VarHandle" ∧ (parseMethodDescriptor (yX2_init).desc).map (fun d => d.parameters.length) = some 0 := by decide +kernel
theorem gc308 : (yX10_init).cls ≠ "java/lang/invoke/MethodHandle" ∧ (yX10_init).cls ≠ "java/lang/invoke/VarHandle" ∧ (parseMethodDescriptor (yX10_init).desc).map (fun d => d.parameters.length) = some 0 := by decide +kernel
theorem gc309 : (yX0_init).cls ≠ "java/lang/invoke/MethodHandle" ∧ (yX0_init).cls ≠ "java/lang/invoke/VarHandle" ∧ (parseMethodDescriptor (yX0_init).desc).map (fun d => d.parameters.length) = some 0 := by decide +kernel
theorem gc310 : (yX6_init).cls ≠ "java/lang/invoke/MethodHandle" ∧ (yX6_init).cls ≠ "java/lang/invoke/VarHandle" ∧ (parseMethodDescriptor (yX6_init).desc).map (fun d => d.parameters.length) = some 0 := by decide +kernel
theorem gc311 : (yX4_init).cls ≠ "java/lang/invoke/MethodHandle" ∧ (yX4_init).cls ≠ "java/lang/invoke/VarHandle" ∧ (parseMethodDescriptor (yX4_init).desc).map (fun d => d.parameters.length) = some 0 := by decide +kernel
theorem gc312 : (yX9_init).cls ≠ "java/lang/invoke/MethodHandle" ∧ (yX9_init).cls ≠ "java/lang/invoke/VarHandle" ∧ (parseMethodDescriptor (yX9_init).desc).map (fun d => d.parameters.length) = some 0 := by decide +kernel
theorem gc313 : (yX8_init).cls ≠ "java/lang/invoke/MethodHandle" ∧ (yX8_init).cls ≠ "java/lang/invoke/VarHandle" ∧ (parseMethodDescriptor (yX8_init).desc).map (fun d => d.parameters.length) = some 0 := by decide +kernel
theorem gc314 : (yX5_init).cls ≠ "java/lang/invoke/MethodHandle" ∧ (yX5_init).cls ≠ "java/lang/invoke/VarHandle" ∧ (parseMethodDescriptor (yX5_init).desc).map (fun d => d.parameters.length) = some 0 := by decide +kernel
theorem gc315 : (yX1_init).cls ≠ "java/lang/invoke/MethodHandle" ∧ (yX1_init).cls ≠ "java/lang/invoke/VarHandle" ∧ (parseMethodDescriptor (yX1_init).desc).map (fun d => d.parameters.length) = some 0 := by decide +kernel
theorem gc316 : (yX3_init).cls ≠ "java/lang/invoke/MethodHandle" ∧ (yX3_init).cls ≠ "java/lang/invoke/VarHandle" ∧ (parseMethodDescriptor (yX3_init).desc).map (fun d => d.parameters.length) = some 1 := by decide +kernel
theorem gc317 : (yX7_init).cls ≠ "java/lang/invoke/MethodHandle" ∧ (yX7_init).cls ≠ "java/lang/invoke/VarHandle" ∧ (parseMethodDescriptor (yX7_init).desc).map (fun d => d.parameters.length) = some 0 := by decide +kernel
theorem dX2_init_0 : decode cX2_init 0 = .ok (.aload_n 0, 1) := by decide +kernel
theorem dX2_init_1 : decode cX2_init 1 = .ok (.invokespecial 1, 3) := by decide +kernel
theorem dX2_init_4 : decode cX2_init 4 = .ok (.return_, 1) := by decide +kernel
theorem dX10_init_0 : decode cX10_init 0 = .ok (.aload_n 0, 1) := by decide +kernel
theorem dX10_init_1 : decode cX10_init 1 = .ok (.invokespecial 3, 3) := by decide +kernel
theorem dX10_init_4 : decode cX10_init 4 = .ok (.return_, 1) := by decide +kernel
theorem dX0_init_0 : decode cX0_init 0 = .ok (.aload_n 0, 1) := by decide +kernel
theorem dX0_init_1 : decode cX0_init 1 = .ok (.invokespecial 3, 3) := by decide +kernel
theorem dX0_init_4 : decode cX0_init 4 = .ok (.return_, 1) := by decide +kernel
theorem dX8_init_0 : decode cX8_init 0 = .ok (.aload_n 0, 1) := by decide +kernel
theorem dX8_init_1 : decode cX8_init 1 = .ok (.invokespecial 1, 3) := by decide +kernel
theorem dX8_init_4 : decode cX8_init 4 = .ok (.return_, 1) := by decide +kernel
theorem dX5_init_0 : decode cX5_init 0 = .ok (.aload_n 0, 1) := by decide +kernel
theorem dX5_init_1 : decode cX5_init 1 = .ok (.invokespecial 3, 3) := by decide +kernel
theorem dX5_init_4 : decode cX5_init 4 = .ok (.return_, 1) := by decide +kernel
theorem dX1_init_0 : decode cX1_init 0 = .ok (.aload_n 0, 1) := by decide +kernel
theorem dX1_init_1 : decode cX1_init 1 = .ok (.invokespecial 3, 3) := by decide +kernel
theorem dX1_init_4 : decode cX1_init 4 = .ok (.return_, 1) := by decide +kernel
theorem dX3_init_0 : decode cX3_init 0 = .ok (.aload_n 0, 1) := by decide +kernel
theorem dX3_init_1 : decode cX3_init 1 = .ok (.invokespecial 3, 3) := by decide +kernel
theorem dX3_init_4 : decode cX3_init 4 = .ok (.aload_n 0, 1) := by decide +kernel
theorem dX3_init_5 : decode cX3_init 5 = .ok (.iconst 4, 1) := by decide +kernel
theorem dX3_init_6 : decode cX3_init 6 = .ok (.newarray .int, 2) := by decide +kernel
theorem dX3_init_8 : decode cX3_init 8 = .ok (.putfield 9, 3) := by decide +kernel
theorem dX3_init_11 : decode cX3_init 11 = .ok (.aload_n 0, 1) := by decide +kernel
theorem dX3_init_12 : decode cX3_init 12 = .ok (.iconst 4, 1) := by decide +kernel
theorem dX3_init_13 : decode cX3_init 13 = .ok (.newarray .int, 2) := by decide +kernel
theorem dX3_init_15 : decode cX3_init 15 = .ok (.putfield 15, 3) := by decide +kernel
theorem dX3_init_18 : decode cX3_init 18 = .ok (.aload_n 0, 1) := by decide +kernel
theorem dX3_init_19 : decode cX3_init 19 = .ok (.iconst 4, 1) := by decide +kernel
theorem dX3_init_20 : decode cX3_init 20 = .ok (.newarray .int, 2) := by decide +kernel
theorem dX3_init_22 : decode cX3_init 22 = .ok (.putfield 18, 3) := by decide +kernel
theorem dX3_init_25 : decode cX3_init 25 = .ok (.aload_n 0, 1) := by decide +kernel
theorem dX3_init_26 : decode cX3_init 26 = .ok (.iconst 4, 1) := by decide +kernel
theorem dX3_init_27 : decode cX3_init 27 = .ok (.newarray .int, 2) := by decide +kernel
theorem dX3_init_29 : decode cX3_init 29 = .ok (.putfield 21, 3) := by decide +kernel
theorem dX3_init_32 : decode cX3_init 32 = .ok (.aload_n 0, 1) := by decide +kernel
theorem dX3_init_33 : decode cX3_init 33 = .ok (.iconst 4, 1) := by decide +kernel
theorem dX3_init_34 : decode cX3_init 34 = .ok (.newarray .int, 2) := by decide +kernel
theorem dX3_init_36 : decode cX3_init 36 = .ok (.putfield 24, 3) := by decide +kernel
theorem dX3_init_39 : decode cX3_init 39 = .ok (.aload_n 0, 1) := by decide +kernel
theorem dX3_init_40 : decode cX3_init 40 = .ok (.bipush 6, 2) := by decide +kernel
theorem dX3_init_42 : decode cX3_init 42 = .ok (.newarray .int, 2) := by decide +kernel
theorem dX3_init_44 : decode cX3_init 44 = .ok (.putfield 27, 3) := by decide +kernel
theorem dX3_init_47 : decode cX3_init 47 = .ok (.aload_n 0, 1) := by decide +kernel
theorem dX3_init_48 : decode cX3_init 48 = .ok (.bipush 6, 2) := by decide +kernel
theorem dX3_init_50 : decode cX3_init 50 = .ok (.newarray .int, 2) := by decide +kernel
theorem dX3_init_52 : decode cX3_init 52 = .ok (.putfield 30, 3) := by decide +kernel
theorem dX3_init_55 : decode cX3_init 55 = .ok (.aload_n 0, 1) := by decide +kernel
theorem dX3_init_56 : decode cX3_init 56 = .ok (.aload_n 1, 1) := by decide +kernel
theorem dX3_init_57 : decode cX3_init 57 = .ok (.putfield 33, 3) := by decide +kernel
theorem dX3_init_60 : decode cX3_init 60 = .ok (.return_, 1) := by decide +kernel
theorem dX7_init_0 : decode cX7_init 0 = .ok (.aload_n 0, 1) := by decide +kernel
theorem dX7_init_1 : decode cX7_init 1 = .ok (.invokespecial 3, 3) := by decide +kernel
theorem dX7_init_4 : decode cX7_init 4 = .ok (.aload_n 0, 1) := by decide +kernel
theorem dX7_init_5 : decode cX7_init 5 = .ok (.bipush 40, 2) := by decide +kernel
theorem dX7_init_7 : decode cX7_init 7 = .ok (.newarray .int, 2) := by decide +kernel
theorem dX7_init_9 : decode cX7_init 9 = .ok (.putfield 9, 3) := by decide +kernel
theorem dX7_init_12 : decode cX7_init 12 = .ok (.aload_n 0, 1) := by decide +kernel
theorem dX7_init_13 : decode cX7_init 13 = .ok (.iconst (-1), 1) := by decide +kernel
theorem dX7_init_14 : decode cX7_init 14 = .ok (.putfield 15, 3) := by decide +kernel
theorem dX7_init_17 : decode cX7_init 17 = .ok (.return_, 1) := by decide +kernel
theorem dX6_init_0 : decode cX6_init 0 = .ok (.aload_n 0, 1) := by decide +kernel
theorem dX6_init_1 : decode cX6_init 1 = .ok (.invokespecial 3, 3) := by decide +kernel
theorem dX6_init_4 : decode cX6_init 4 = .ok (.aload_n 0, 1) := by decide +kernel
theorem dX6_init_5 : decode cX6_init 5 = .ok (.bipush 90, 2) := by decide +kernel
theorem dX6_init_7 : decode cX6_init 7 = .ok (.newarray .int, 2) := by decide +kernel
theorem dX6_init_9 : decode cX6_init 9 = .ok (.putfield 9, 3) := by decide +kernel
theorem dX6_init_12 : decode cX6_init 12 = .ok (.return_, 1) := by decide +kernel
theorem dX4_init_0 : decode cX4_init 0 = .ok (.aload_n 0, 1) := by decide +kernel
theorem dX4_init_1 : decode cX4_init 1 = .ok (.invokespecial 3, 3) := by decide +kernel
theorem dX4_init_4 : decode cX4_init 4 = .ok (.aload_n 0, 1) := by decide +kernel
theorem dX4_init_5 : decode cX4_init 5 = .ok (.sipush 484, 3) := by decide +kernel
theorem dX4_init_8 : decode cX4_init 8 = .ok (.newarray .int, 2) := by decide +kernel
theorem dX4_init_10 : decode cX4_init 10 = .ok (.putfield 11, 3) := by decide +kernel
theorem dX4_init_13 : decode cX4_init 13 = .ok (.aload_n 0, 1) := by decide +kernel
theorem dX4_init_14 : decode cX4_init 14 = .ok (.iconst 4, 1) := by decide +kernel
theorem dX4_init_15 : decode cX4_init 15 = .ok (.newarray .int, 2) := by decide +kernel
theorem dX4_init_17 : decode cX4_init 17 = .ok (.putfield 15, 3) := by decide +kernel
theorem dX4_init_20 : decode cX4_init 20 = .ok (.aload_n 0, 1) := by decide +kernel
theorem dX4_init_21 : decode cX4_init 21 = .ok (.bipush 6, 2) := by decide +kernel
theorem dX4_init_23 : decode cX4_init 23 = .ok (.newarray .int, 2) := by decide +kernel
theorem dX4_init_25 : decode cX4_init 25 = .ok (.putfield 18, 3) := by decide +kernel
theorem dX4_init_28 : decode cX4_init 28 = .ok (.aload_n 0, 1) := by decide +kernel
theorem dX4_init_29 : decode cX4_init 29 = .ok (.bipush 6, 2) := by decide +kernel
theorem dX4_init_31 : decode cX4_init 31 = .ok (.newarray .int, 2) := by decide +kernel
theorem dX4_init_33 : decode cX4_init 33 = .ok (.putfield 21, 3) := by decide +kernel
theorem dX4_init_36 : decode cX4_init 36 = .ok (.return_, 1) := by decide +kernel
theorem dX9_init_0 : decode cX9_init 0 = .ok (.aload_n 0, 1) := by decide +kernel
theorem dX9_init_1 : decode cX9_init 1 = .ok (.invokespecial 3, 3) := by decide +kernel
theorem dX9_init_4 : decode cX9_init 4 = .ok (.aload_n 0, 1) := by decide +kernel
theorem dX9_init_5 : decode cX9_init 5 = .ok (.bipush 16, 2) := by decide +kernel
theorem dX9_init_7 : decode cX9_init 7 = .ok (.newarray .int, 2) := by decide +kernel
theorem dX9_init_9 : decode cX9_init 9 = .ok (.putfield 9, 3) := by decide +kernel
theorem dX9_init_12 : decode cX9_init 12 = .ok (.return_, 1) := by decide +kernel
theorem dX11_init_0 : decode cX11_init 0 = .ok (.aload_n 0, 1) := by decide +kernel
theorem dX11_init_1 : decode cX11_init 1 = .ok (.invokespecial 1, 3) := by decide +kernel
theorem dX11_init_4 : decode cX11_init 4 = .ok (.aload_n 0, 1) := by decide +kernel
theorem dX11_init_5 : decode cX11_init 5 = .ok (.bipush 8, 2) := by decide +kernel
theorem dX11_init_7 : decode cX11_init 7 = .ok (.anewarray 9, 3) := by decide +kernel
theorem dX11_init_10 : decode cX11_init 10 = .ok (.putfield 11, 3) := by decide +kernel
theorem dX11_init_13 : decode cX11_init 13 = .ok (.aload_n 0, 1) := by decide +kernel
theorem dX11_init_14 : decode cX11_init 14 = .ok (.new 15, 3) := by decide +kernel
theorem dX11_init_17 : decode cX11_init 17 = .ok (.dup, 1) := by decide +kernel
theorem dX11_init_18 : decode cX11_init 18 = .ok (.invokespecial 17, 3) := by decide +kernel
theorem dX11_init_21 : decode cX11_init 21 = .ok (.putfield 18, 3) := by decide +kernel
theorem dX11_init_24 : decode cX11_init 24 = .ok (.aload_n 0, 1) := by decide +kernel
theorem dX11_init_25 : decode cX11_init 25 = .ok (.iconst 2, 1) := by decide +kernel
theorem dX11_init_26 : decode cX11_init 26 = .ok (.anewarray 22, 3) := by decide +kernel
theorem dX11_init_29 : decode cX11_init 29 = .ok (.putfield 24, 3) := by decide +kernel
theorem dX11_init_32 : decode cX11_init 32 = .ok (.aload_n 0, 1) := by decide +kernel
theorem dX11_init_33 : decode cX11_init 33 = .ok (.bipush 24, 2) := by decide +kernel
theorem dX11_init_35 : decode cX11_init 35 = .ok (.anewarray 22, 3) := by decide +kernel
theorem dX11_init_38 : decode cX11_init 38 = .ok (.putfield 28, 3) := by decide +kernel
theorem dX11_init_41 : decode cX11_init 41 = .ok (.aload_n 0, 1) := by decide +kernel
theorem dX11_init_42 : decode cX11_init 42 = .ok (.new 31, 3) := by decide +kernel
theorem dX11_init_45 : decode cX11_init 45 = .ok (.dup, 1) := by decide +kernel
theorem dX11_init_46 : decode cX11_init 46 = .ok (.invokespecial 33, 3) := by decide +kernel
theorem dX11_init_49 : decode cX11_init 49 = .ok (.putfield 34, 3) := by decide +kernel
theorem dX11_init_52 : decode cX11_init 52 = .ok (.aload_n 0, 1) := by decide +kernel
theorem dX11_init_53 : decode cX11_init 53 = .ok (.new 38, 3) := by decide +kernel
theorem dX11_init_56 : decode cX11_init 56 = .ok (.dup, 1) := by decide +kernel
theorem dX11_init_57 : decode cX11_init 57 = .ok (.invokespecial 40, 3) := by decide +kernel
theorem dX11_init_60 : decode cX11_init 60 = .ok (.putfield 41, 3) := by decide +kernel
theorem dX11_init_63 : decode cX11_init 63 = .ok (.iconst 5, 1) := by decide +kernel
theorem dX11_init_64 : decode cX11_init 64 = .ok (.anewarray 45, 3) := by decide +kernel
theorem dX11_init_67 : decode cX11_init 67 = .ok (.dup, 1) := by decide +kernel
theorem dX11_init_68 : decode cX11_init 68 = .ok (.iconst 0, 1) := by decide +kernel
theorem dX11_init_69 : decode cX11_init 69 = .ok (.new 47, 3) := by decide +kernel
theorem dX11_init_72 : decode cX11_init 72 = .ok (.dup, 1) := by decide +kernel
theorem dX11_init_73 : decode cX11_init 73 = .ok (.invokespecial 49, 3) := by decide +kernel
theorem dX11_init_76 : decode cX11_init 76 = .ok (.aastore, 1) := by decide +kernel
theorem dX11_init_77 : decode cX11_init 77 = .ok (.dup, 1) := by decide +kernel
theorem dX11_init_78 : decode cX11_init 78 = .ok (.iconst 1, 1) := by decide +kernel
theorem dX11_init_79 : decode cX11_init 79 = .ok (.new 50, 3) := by decide +kernel
theorem dX11_init_82 : decode cX11_init 82 = .ok (.dup, 1) := by decide +kernel
theorem dX11_init_83 : decode cX11_init 83 = .ok (.invokespecial 52, 3) := by decide +kernel
theorem dX11_init_86 : decode cX11_init 86 = .ok (.aastore, 1) := by decide +kernel
theorem dX11_init_87 : decode cX11_init 87 = .ok (.dup, 1) := by decide +kernel
theorem dX11_init_88 : decode cX11_init 88 = .ok (.iconst 2, 1) := by decide +kernel
theorem dX11_init_89 : decode cX11_init 89 = .ok (.new 53, 3) := by decide +kernel
theorem dX11_init_92 : decode cX11_init 92 = .ok (.dup, 1) := by decide +kernel
theorem dX11_init_93 : decode cX11_init 93 = .ok (.invokespecial 55, 3) := by decide +kernel
theorem dX11_init_96 : decode cX11_init 96 = .ok (.aastore, 1) := by decide +kernel
theorem dX11_init_97 : decode cX11_init 97 = .ok (.dup, 1) := by decide +kernel
theorem dX11_init_98 : decode cX11_init 98 = .ok (.iconst 3, 1) := by decide +kernel
theorem dX11_init_99 : decode cX11_init 99 = .ok (.new 56, 3) := by decide +kernel
theorem dX11_init_102 : decode cX11_init 102 = .ok (.dup, 1) := by decide +kernel
theorem dX11_init_103 : decode cX11_init 103 = .ok (.invokespecial 58, 3) := by decide +kernel
theorem dX11_init_106 : decode cX11_init 106 = .ok (.aastore, 1) := by decide +kernel
theorem dX11_init_107 : decode cX11_init 107 = .ok (.dup, 1) := by decide +kernel
theorem dX11_init_108 : decode cX11_init 108 = .ok (.iconst 4, 1) := by decide +kernel
theorem dX11_init_109 : decode cX11_init 109 = .ok (.new 59, 3) := by decide +kernel
theorem dX11_init_112 : decode cX11_init 112 = .ok (.dup, 1) := by decide +kernel
theorem dX11_init_113 : decode cX11_init 113 = .ok (.invokespecial 61, 3) := by decide +kernel
theorem dX11_init_116 : decode cX11_init 116 = .ok (.aastore, 1) := by decide +kernel
theorem dX11_init_117 : decode cX11_init 117 = .ok (.astore_n 1, 1) := by decide +kernel
theorem dX11_init_118 : decode cX11_init 118 = .ok (.aload_n 0, 1) := by decide +kernel
theorem dX11_init_119 : decode cX11_init 119 = .ok (.new 22, 3) := by decide +kernel
theorem dX11_init_122 : decode cX11_init 122 = .ok (.dup, 1) := by decide +kernel
theorem dX11_init_123 : decode cX11_init 123 = .ok (.aload_n 1, 1) := by decide +kernel
theorem dX11_init_124 : decode cX11_init 124 = .ok (.invokespecial 62, 3) := by decide +kernel
theorem dX11_init_127 : decode cX11_init 127 = .ok (.putfield 65, 3) := by decide +kernel
theorem dX11_init_130 : decode cX11_init 130 = .ok (.aload_n 0, 1) := by decide +kernel
theorem dX11_init_131 : decode cX11_init 131 = .ok (.new 22, 3) := by decide +kernel
theorem dX11_init_134 : decode cX11_init 134 = .ok (.dup, 1) := by decide +kernel
theorem dX11_init_135 : decode cX11_init 135 = .ok (.aload_n 1, 1) := by decide +kernel
theorem dX11_init_136 : decode cX11_init 136 = .ok (.invokespecial 62, 3) := by decide +kernel
theorem dX11_init_139 : decode cX11_init 139 = .ok (.putfield 69, 3) := by decide +kernel
theorem dX11_init_142 : decode cX11_init 142 = .ok (.iconst 0, 1) := by decide +kernel
theorem dX11_init_143 : decode cX11_init 143 = .ok (.istore_n 2, 1) := by decide +kernel
theorem dX11_init_144 : decode cX11_init 144 = .ok (.iload_n 2, 1) := by decide +kernel
theorem dX11_init_145 : decode cX11_init 145 = .ok (.bipush 8, 2) := by decide +kernel
theorem dX11_init_147 : decode cX11_init 147 = .ok (.if_icmp .ge 22, 3) := by decide +kernel
theorem dX11_init_150 : decode cX11_init 150 = .ok (.aload_n 0, 1) := by decide +kernel
theorem dX11_init_151 : decode cX11_init 151 = .ok (.getfield 11, 3) := by decide +kernel
theorem dX11_init_154 : decode cX11_init 154 = .ok (.iload_n 2, 1) := by decide +kernel
theorem dX11_init_155 : decode cX11_init 155 = .ok (.new 9, 3) := by decide +kernel
theorem dX11_init_158 : decode cX11_init 158 = .ok (.dup, 1) := by decide +kernel
theorem dX11_init_159 : decode cX11_init 159 = .ok (.invokespecial 72, 3) := by decide +kernel
theorem dX11_init_162 : decode cX11_init 162 = .ok (.aastore, 1) := by decide +kernel
theorem dX11_init_163 : decode cX11_init 163 = .ok (.iinc 2 1, 3) := by decide +kernel
theorem dX11_init_166 : decode cX11_init 166 = .ok (.goto (-22), 3) := by decide +kernel
theorem dX11_init_169 : decode cX11_init 169 = .ok (.iconst 0, 1) := by decide +kernel
theorem dX11_init_170 : decode cX11_init 170 = .ok (.istore_n 2, 1) := by decide +kernel
theorem dX11_init_171 : decode cX11_init 171 = .ok (.iload_n 2, 1) := by decide +kernel
theorem dX11_init_172 : decode cX11_init 172 = .ok (.iconst 2, 1) := by decide +kernel
theorem dX11_init_173 : decode cX11_init 173 = .ok (.if_icmp .ge 23, 3) := by decide +kernel
theorem dX11_init_176 : decode cX11_init 176 = .ok (.aload_n 0, 1) := by decide +kernel
theorem dX11_init_177 : decode cX11_init 177 = .ok (.getfield 24, 3) := by decide +kernel
theorem dX11_init_180 : decode cX11_init 180 = .ok (.iload_n 2, 1) := by decide +kernel
theorem dX11_init_181 : decode cX11_init 181 = .ok (.new 22, 3) := by decide +kernel
theorem dX11_init_184 : decode cX11_init 184 = .ok (.dup, 1) := by decide +kernel
theorem dX11_init_185 : decode cX11_init 185 = .ok (.aload_n 1, 1) := by decide +kernel
theorem dX11_init_186 : decode cX11_init 186 = .ok (.invokespecial 62, 3) := by decide +kernel
theorem dX11_init_189 : decode cX11_init 189 = .ok (.aastore, 1) := by decide +kernel
theorem dX11_init_190 : decode cX11_init 190 = .ok (.iinc 2 1, 3) := by decide +kernel
theorem dX11_init_193 : decode cX11_init 193 = .ok (.goto (-22), 3) := by decide +kernel
theorem dX11_init_196 : decode cX11_init 196 = .ok (.iconst 0, 1) := by decide +kernel
theorem dX11_init_197 : decode cX11_init 197 = .ok (.istore_n 2, 1) := by decide +kernel
theorem dX11_init_198 : decode cX11_init 198 = .ok (.iload_n 2, 1) := by decide +kernel
theorem dX11_init_199 : decode cX11_init 199 = .ok (.bipush 24, 2) := by decide +kernel
theorem dX11_init_201 : decode cX11_init 201 = .ok (.if_icmp .ge 23, 3) := by decide +kernel
theorem dX11_init_204 : decode cX11_init 204 = .ok (.aload_n 0, 1) := by decide +kernel
theorem dX11_init_205 : decode cX11_init 205 = .ok (.getfield 28, 3) := by decide +kernel
theorem dX11_init_208 : decode cX11_init 208 = .ok (.iload_n 2, 1) := by decide +kernel
theorem dX11_init_209 : decode cX11_init 209 = .ok (.new 22, 3) := by decide +kernel
theorem dX11_init_212 : decode cX11_init 212 = .ok (.dup, 1) := by decide +kernel
theorem dX11_init_213 : decode cX11_init 213 = .ok (.aload_n 1, 1) := by decide +kernel
theorem dX11_init_214 : decode cX11_init 214 = .ok (.invokespecial 62, 3) := by decide +kernel
theorem dX11_init_217 : decode cX11_init 217 = .ok (.aastore, 1) := by decide +kernel
theorem dX11_init_218 : decode cX11_init 218 = .ok (.iinc 2 1, 3) := by decide +kernel
theorem dX11_init_221 : decode cX11_init 221 = .ok (.goto (-23), 3) := by decide +kernel
theorem dX11_init_224 : decode cX11_init 224 = .ok (.return_, 1) := by decide +kernel
theorem dX12_init_0 : decode cX12_init 0 = .ok (.aload_n 0, 1) := by decide +kernel
theorem dX12_init_1 : decode cX12_init 1 = .ok (.invokespecial 1, 3) := by decide +kernel
theorem dX12_init_4 : decode cX12_init 4 = .ok (.aload_n 0, 1) := by decide +kernel
theorem dX12_init_5 : decode cX12_init 5 = .ok (.sipush 756, 3) := by decide +kernel
theorem dX12_init_8 : decode cX12_init 8 = .ok (.newarray .int, 2) := by decide +kernel
theorem dX12_init_10 : decode cX12_init 10 = .ok (.putfield 7, 3) := by decide +kernel
theorem dX12_init_13 : decode cX12_init 13 = .ok (.aload_n 0, 1) := by decide +kernel
theorem dX12_init_14 : decode cX12_init 14 = .ok (.bipush 39, 2) := by decide +kernel
theorem dX12_init_16 : decode cX12_init 16 = .ok (.newarray .int, 2) := by decide +kernel
theorem dX12_init_18 : decode cX12_init 18 = .ok (.putfield 13, 3) := by decide +kernel
theorem dX12_init_21 : decode cX12_init 21 = .ok (.aload_n 0, 1) := by decide +kernel
theorem dX12_init_22 : decode cX12_init 22 = .ok (.iconst 2, 1) := by decide +kernel
theorem dX12_init_23 : decode cX12_init 23 = .ok (.newarray .int, 2) := by decide +kernel
theorem dX12_init_25 : decode cX12_init 25 = .ok (.putfield 16, 3) := by decide +kernel
theorem dX12_init_28 : decode cX12_init 28 = .ok (.aload_n 0, 1) := by decide +kernel
theorem dX12_init_29 : decode cX12_init 29 = .ok (.bipush 8, 2) := by decide +kernel
theorem dX12_init_31 : decode cX12_init 31 = .ok (.newarray .int, 2) := by decide +kernel
theorem dX12_init_33 : decode cX12_init 33 = .ok (.putfield 19, 3) := by decide +kernel
theorem dX12_init_36 : decode cX12_init 36 = .ok (.aload_n 0, 1) := by decide +kernel
theorem dX12_init_37 : decode cX12_init 37 = .ok (.bipush 8, 2) := by decide +kernel
theorem dX12_init_39 : decode cX12_init 39 = .ok (.newarray .int, 2) := by decide +kernel
theorem dX12_init_41 : decode cX12_init 41 = .ok (.putfield 22, 3) := by decide +kernel
theorem dX12_init_44 : decode cX12_init 44 = .ok (.aload_n 0, 1) := by decide +kernel
theorem dX12_init_45 : decode cX12_init 45 = .ok (.sipush 320, 3) := by decide +kernel
theorem dX12_init_48 : decode cX12_init 48 = .ok (.newarray .int, 2) := by decide +kernel
theorem dX12_init_50 : decode cX12_init 50 = .ok (.putfield 25, 3) := by decide +kernel
theorem dX12_init_53 : decode cX12_init 53 = .ok (.aload_n 0, 1) := by decide +kernel
theorem dX12_init_54 : decode cX12_init 54 = .ok (.bipush 40, 2) := by decide +kernel
theorem dX12_init_56 : decode cX12_init 56 = .ok (.newarray .int, 2) := by decide +kernel
theorem dX12_init_58 : decode cX12_init 58 = .ok (.putfield 28, 3) := by decide +kernel
theorem dX12_init_61 : decode cX12_init 61 = .ok (.aload_n 0, 1) := by decide +kernel
theorem dX12_init_62 : decode cX12_init 62 = .ok (.bipush 90, 2) := by decide +kernel
theorem dX12_init_64 : decode cX12_init 64 = .ok (.newarray .byte, 2) := by decide +kernel
theorem dX12_init_66 : decode cX12_init 66 = .ok (.putfield 31, 3) := by decide +kernel
theorem dX12_init_69 : decode cX12_init 69 = .ok (.aload_n 0, 1) := by decide +kernel
theorem dX12_init_70 : decode cX12_init 70 = .ok (.bipush 13, 2) := by decide +kernel
theorem dX12_init_72 : decode cX12_init 72 = .ok (.newarray .int, 2) := by decide +kernel
theorem dX12_init_74 : decode cX12_init 74 = .ok (.putfield 35, 3) := by decide +kernel
theorem dX12_init_77 : decode cX12_init 77 = .ok (.aload_n 0, 1) := by decide +kernel
theorem dX12_init_78 : decode cX12_init 78 = .ok (.iconst 4, 1) := by decide +kernel
theorem dX12_init_79 : decode cX12_init 79 = .ok (.newarray .int, 2) := by decide +kernel
theorem dX12_init_81 : decode cX12_init 81 = .ok (.putfield 38, 3) := by decide +kernel
theorem dX12_init_84 : decode cX12_init 84 = .ok (.aload_n 0, 1) := by decide +kernel
theorem dX12_init_85 : decode cX12_init 85 = .ok (.bipush 6, 2) := by decide +kernel
theorem dX12_init_87 : decode cX12_init 87 = .ok (.newarray .int, 2) := by decide +kernel
theorem dX12_init_89 : decode cX12_init 89 = .ok (.putfield 41, 3) := by decide +kernel
theorem dX12_init_92 : decode cX12_init 92 = .ok (.aload_n 0, 1) := by decide +kernel
theorem dX12_init_93 : decode cX12_init 93 = .ok (.bipush 6, 2) := by decide +kernel
theorem dX12_init_95 : decode cX12_init 95 = .ok (.newarray .int, 2) := by decide +kernel
theorem dX12_init_97 : decode cX12_init 97 = .ok (.putfield 44, 3) := by decide +kernel
theorem dX12_init_100 : decode cX12_init 100 = .ok (.aload_n 0, 1) := by decide +kernel
theorem dX12_init_101 : decode cX12_init 101 = .ok (.bipush 16, 2) := by decide +kernel
theorem dX12_init_103 : decode cX12_init 103 = .ok (.newarray .int, 2) := by decide +kernel
theorem dX12_init_105 : decode cX12_init 105 = .ok (.putfield 47, 3) := by decide +kernel
theorem dX12_init_108 : decode cX12_init 108 = .ok (.aload_n 0, 1) := by decide +kernel
theorem dX12_init_109 : decode cX12_init 109 = .ok (.iconst 4, 1) := by decide +kernel
theorem dX12_init_110 : decode cX12_init 110 = .ok (.newarray .int, 2) := by decide +kernel
theorem dX12_init_112 : decode cX12_init 112 = .ok (.putfield 50, 3) := by decide +kernel
theorem dX12_init_115 : decode cX12_init 115 = .ok (.iconst 0, 1) := by decide +kernel
theorem dX12_init_116 : decode cX12_init 116 = .ok (.istore_n 1, 1) := by decide +kernel
theorem dX12_init_117 : decode cX12_init 117 = .ok (.iload_n 1, 1) := by decide +kernel
theorem dX12_init_118 : decode cX12_init 118 = .ok (.bipush 8, 2) := by decide +kernel
theorem dX12_init_120 : decode cX12_init 120 = .ok (.if_icmp .ge 16, 3) := by decide +kernel
theorem dX12_init_123 : decode cX12_init 123 = .ok (.aload_n 0, 1) := by decide +kernel
theorem dX12_init_124 : decode cX12_init 124 = .ok (.getfield 22, 3) := by decide +kernel
theorem dX12_init_127 : decode cX12_init 127 = .ok (.iload_n 1, 1) := by decide +kernel
theorem dX12_init_128 : decode cX12_init 128 = .ok (.iconst (-1), 1) := by decide +kernel
theorem dX12_init_129 : decode cX12_init 129 = .ok (.iastore, 1) := by decide +kernel
theorem dX12_init_130 : decode cX12_init 130 = .ok (.iinc 1 1, 3) := by decide +kernel
theorem dX12_init_133 : decode cX12_init 133 = .ok (.goto (-16), 3) := by decide +kernel
theorem dX12_init_136 : decode cX12_init 136 = .ok (.return_, 1) := by decide +kernel
