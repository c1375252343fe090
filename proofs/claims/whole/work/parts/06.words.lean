/-! the words that are used, by their places; facts of the calls -/
theorem wd0 : Cond.methodLink "FuseBox$Breaker" 9 yX0_deadIfOver ∈ WL := mem_WL (t3_in (List.mem_of_getElem? (i := 2) rfl)) rfl
theorem wd1 : Cond.instanceMethod yX0_deadIfOver ∈ WL := mem_WL (t3_in (List.mem_of_getElem? (i := 3) rfl)) rfl
theorem wd2 : Cond.selects "FuseBox$Breaker" yX0_deadIfOver yX0_deadIfOver ∈ WL := mem_WL (t3_in (List.mem_of_getElem? (i := 4) rfl)) rfl
theorem wd3 : Cond.initialized "FuseBox$Breaker" ∈ WL := mem_WL (t1_in (List.mem_of_getElem? (i := 9) rfl)) rfl
theorem wd4 : Cond.code yX0_deadIfOver cX0_deadIfOver 1 (some .int) ∈ WL := mem_WL (t3_in (List.mem_of_getElem? (i := 9) rfl)) rfl
theorem wd5 : Cond.sameMethod "FuseBox$Breaker" "FuseBox$Breaker" "deadIfOver" "()I" ∈ WL := mem_WL (t3_in (List.mem_of_getElem? (i := 5) rfl)) rfl
theorem wd6 : Cond.selects "FuseBox$Coil" yX0_deadIfOver yX1_deadIfOver ∈ WL := mem_WL (t3_in (List.mem_of_getElem? (i := 6) rfl)) rfl
theorem wd7 : Cond.instanceMethod yX1_deadIfOver ∈ WL := mem_WL (t3_in (List.mem_of_getElem? (i := 7) rfl)) rfl
theorem wd8 : Cond.initialized "FuseBox$Coil" ∈ WL := mem_WL (t1_in (List.mem_of_getElem? (i := 10) rfl)) rfl
theorem wd9 : Cond.code yX1_deadIfOver cX1_deadIfOver 1 (some .int) ∈ WL := mem_WL (t3_in (List.mem_of_getElem? (i := 8) rfl)) rfl
theorem wd10 : Cond.fieldLink "FuseBox$Trace" 15 "FuseBox$Trace" "size" "I" ∈ WL := mem_WL (t1_in (List.mem_of_getElem? (i := 98) rfl)) rfl
theorem wd11 : Cond.fieldLink "FuseBox$Trace" 9 "FuseBox$Trace" "bodies" "[I" ∈ WL := mem_WL (t1_in (List.mem_of_getElem? (i := 96) rfl)) rfl
theorem wd12 : Cond.methodLink "FuseBox$Fuse" 7 yX9_leave ∈ WL := mem_WL (t4_in (List.mem_of_getElem? (i := 86) rfl)) rfl
theorem wd13 : Cond.instanceMethod yX9_leave ∈ WL := mem_WL (t4_in (List.mem_of_getElem? (i := 54) rfl)) rfl
theorem wd14 : Cond.selects "FuseBox$Trace" yX9_leave yX9_leave ∈ WL := mem_WL (t4_in (List.mem_of_getElem? (i := 55) rfl)) rfl
theorem wd15 : Cond.initialized "FuseBox$Trace" ∈ WL := mem_WL (t1_in (List.mem_of_getElem? (i := 4) rfl)) rfl
theorem wd16 : Cond.code yX9_leave cX9_leave 2 none ∈ WL := mem_WL (t4_in (List.mem_of_getElem? (i := 56) rfl)) rfl
theorem wd17 : Cond.fieldLink "FuseBox$Fuse" 13 "FuseBox$House" "rate" "[I" ∈ WL := mem_WL (t1_in (List.mem_of_getElem? (i := 172) rfl)) rfl
theorem wd18 : Cond.methodLink "FuseBox$Breaker" 15 yX9_leave ∈ WL := mem_WL (t4_in (List.mem_of_getElem? (i := 53) rfl)) rfl
theorem wd19 : Cond.methodLink "FuseBox$Breaker" 21 yX2_sizeOf ∈ WL := mem_WL (t4_in (List.mem_of_getElem? (i := 57) rfl)) rfl
theorem wd20 : Cond.sameMethod "FuseBox$Fuse" "FuseBox$Fuse" "sizeOf" "(LFuseBox$House;ILFuseBox$Trace;)I" ∈ WL := mem_WL (t4_in (List.mem_of_getElem? (i := 49) rfl)) rfl
theorem wd21 : Cond.superclass "FuseBox$Breaker" "FuseBox$Fuse" ∈ WL := mem_WL (t1_in (List.mem_of_getElem? (i := 137) rfl)) rfl
theorem wd22 : Cond.instanceMethod yX2_sizeOf ∈ WL := mem_WL (t4_in (List.mem_of_getElem? (i := 48) rfl)) rfl
theorem wd23 : Cond.initialized "FuseBox$Fuse" ∈ WL := mem_WL (t1_in (List.mem_of_getElem? (i := 5) rfl)) rfl
theorem wd24 : Cond.code yX2_sizeOf cX2_sizeOf 4 (some .int) ∈ WL := mem_WL (t4_in (List.mem_of_getElem? (i := 92) rfl)) rfl
theorem wd25 : Cond.methodLink "FuseBox$Breaker" 25 yX2_markOf ∈ WL := mem_WL (t4_in (List.mem_of_getElem? (i := 96) rfl)) rfl
theorem wd26 : Cond.sameMethod "FuseBox$Fuse" "FuseBox$Fuse" "markOf" "(LFuseBox$House;ILFuseBox$Trace;)I" ∈ WL := mem_WL (t6_in (List.mem_of_getElem? (i := 57) rfl)) rfl
theorem wd27 : Cond.instanceMethod yX2_markOf ∈ WL := mem_WL (t4_in (List.mem_of_getElem? (i := 84) rfl)) rfl
theorem wd28 : Cond.code yX2_markOf cX2_markOf 4 (some .int) ∈ WL := mem_WL (t4_in (List.mem_of_getElem? (i := 85) rfl)) rfl
theorem wd29 : Cond.methodLink "FuseBox$Breaker" 28 yX0_sizeOf ∈ WL := mem_WL (t4_in (List.mem_of_getElem? (i := 97) rfl)) rfl
theorem wd30 : Cond.instanceMethod yX0_sizeOf ∈ WL := mem_WL (t4_in (List.mem_of_getElem? (i := 51) rfl)) rfl
theorem wd31 : Cond.selects "FuseBox$Breaker" yX0_sizeOf yX0_sizeOf ∈ WL := mem_WL (t6_in (List.mem_of_getElem? (i := 60) rfl)) rfl
theorem wd32 : Cond.code yX0_sizeOf cX0_sizeOf 4 (some .int) ∈ WL := mem_WL (t4_in (List.mem_of_getElem? (i := 52) rfl)) rfl
theorem wd33 : Cond.methodLink "FuseBox$Coil" 9 yX9_leave ∈ WL := mem_WL (t4_in (List.mem_of_getElem? (i := 61) rfl)) rfl
theorem wd34 : Cond.methodLink "FuseBox$Coil" 15 yX0_sizeOf ∈ WL := mem_WL (t4_in (List.mem_of_getElem? (i := 62) rfl)) rfl
theorem wd35 : Cond.sameMethod "FuseBox$Breaker" "FuseBox$Breaker" "sizeOf" "(LFuseBox$House;ILFuseBox$Trace;)I" ∈ WL := mem_WL (t6_in (List.mem_of_getElem? (i := 56) rfl)) rfl
theorem wd36 : Cond.superclass "FuseBox$Coil" "FuseBox$Breaker" ∈ WL := mem_WL (t1_in (List.mem_of_getElem? (i := 144) rfl)) rfl
theorem wd37 : Cond.selects "FuseBox$Coil" yX0_sizeOf yX1_sizeOf ∈ WL := mem_WL (t6_in (List.mem_of_getElem? (i := 61) rfl)) rfl
theorem wd38 : Cond.instanceMethod yX1_sizeOf ∈ WL := mem_WL (t4_in (List.mem_of_getElem? (i := 59) rfl)) rfl
theorem wd39 : Cond.code yX1_sizeOf cX1_sizeOf 4 (some .int) ∈ WL := mem_WL (t4_in (List.mem_of_getElem? (i := 60) rfl)) rfl
theorem wd40 : Cond.fieldLink "FuseBox$House" 37 "FuseBox$House" "lines" "I" ∈ WL := mem_WL (t1_in (List.mem_of_getElem? (i := 151) rfl)) rfl
theorem wd41 : Cond.fieldLink "FuseBox$House" 41 "FuseBox$House" "things" "I" ∈ WL := mem_WL (t1_in (List.mem_of_getElem? (i := 155) rfl)) rfl
theorem wd42 : Cond.fieldLink "FuseBox$House" 44 "FuseBox$House" "main" "I" ∈ WL := mem_WL (t1_in (List.mem_of_getElem? (i := 159) rfl)) rfl
theorem wd43 : Cond.fieldLink "FuseBox$House" 47 "FuseBox$House" "minute" "I" ∈ WL := mem_WL (t1_in (List.mem_of_getElem? (i := 163) rfl)) rfl
theorem wd44 : Cond.fieldLink "FuseBox$House" 50 "FuseBox$House" "used" "I" ∈ WL := mem_WL (t1_in (List.mem_of_getElem? (i := 165) rfl)) rfl
theorem wd45 : Cond.fieldLink "FuseBox$House" 53 "FuseBox$House" "mainIn" "Z" ∈ WL := mem_WL (t1_in (List.mem_of_getElem? (i := 167) rfl)) rfl
theorem wd46 : Cond.fieldLink "FuseBox$House" 57 "FuseBox$House" "on" "I" ∈ WL := mem_WL (t1_in (List.mem_of_getElem? (i := 186) rfl)) rfl
theorem wd47 : Cond.fieldLink "FuseBox$House" 9 "FuseBox$House" "kind" "[I" ∈ WL := mem_WL (t1_in (List.mem_of_getElem? (i := 169) rfl)) rfl
theorem wd48 : Cond.fieldLink "FuseBox$House" 15 "FuseBox$House" "rate" "[I" ∈ WL := mem_WL (t1_in (List.mem_of_getElem? (i := 171) rfl)) rfl
theorem wd49 : Cond.fieldLink "FuseBox$House" 18 "FuseBox$House" "heat" "[I" ∈ WL := mem_WL (t1_in (List.mem_of_getElem? (i := 174) rfl)) rfl
theorem wd50 : Cond.fieldLink "FuseBox$House" 21 "FuseBox$House" "dead" "[I" ∈ WL := mem_WL (t1_in (List.mem_of_getElem? (i := 177) rfl)) rfl
theorem wd51 : Cond.fieldLink "FuseBox$House" 27 "FuseBox$House" "plugged" "[I" ∈ WL := mem_WL (t1_in (List.mem_of_getElem? (i := 180) rfl)) rfl
theorem wd52 : Cond.fieldLink "FuseBox$House" 30 "FuseBox$House" "load" "[I" ∈ WL := mem_WL (t1_in (List.mem_of_getElem? (i := 183) rfl)) rfl
theorem wd53 : Cond.methodLink "FuseBox$House" 60 arraycopyName ∈ WL := mem_WL (t2_in (List.mem_of_getElem? (i := 159) rfl)) rfl
theorem wd54 : Cond.static arraycopyName ∈ WL := mem_WL (t2_in (List.mem_of_getElem? (i := 76) rfl)) rfl
theorem wd55 : Cond.native arraycopyName ∈ WL := mem_WL (t2_in (List.mem_of_getElem? (i := 77) rfl)) rfl
theorem wd56 : Cond.initialized "java/lang/System" ∈ WL := mem_WL (t1_in (List.mem_of_getElem? (i := 14) rfl)) rfl
theorem wd57 : Cond.fieldLink "FuseBox$House" 33 "FuseBox$House" "fuses" "[LFuseBox$Fuse;" ∈ WL := mem_WL (t1_in (List.mem_of_getElem? (i := 150) rfl)) rfl
theorem wd58 : Cond.methodLink "FuseBox$House" 66 yX3_isOn ∈ WL := mem_WL (t2_in (List.mem_of_getElem? (i := 193) rfl)) rfl
theorem wd59 : Cond.instanceMethod yX3_isOn ∈ WL := mem_WL (t2_in (List.mem_of_getElem? (i := 194) rfl)) rfl
theorem wd60 : Cond.selects "FuseBox$House" yX3_isOn yX3_isOn ∈ WL := mem_WL (t2_in (List.mem_of_getElem? (i := 195) rfl)) rfl
theorem wd61 : Cond.initialized "FuseBox$House" ∈ WL := mem_WL (t1_in (List.mem_of_getElem? (i := 11) rfl)) rfl
theorem wd62 : Cond.code yX3_isOn cX3_isOn 2 (some .boolean) ∈ WL := mem_WL (t2_in (List.mem_of_getElem? (i := 196) rfl)) rfl
theorem wd63 : Cond.methodLink "FuseBox$House" 70 yX3_isLive ∈ WL := mem_WL (t2_in (List.mem_of_getElem? (i := 197) rfl)) rfl
theorem wd64 : Cond.instanceMethod yX3_isLive ∈ WL := mem_WL (t2_in (List.mem_of_getElem? (i := 198) rfl)) rfl
theorem wd65 : Cond.selects "FuseBox$House" yX3_isLive yX3_isLive ∈ WL := mem_WL (t2_in (List.mem_of_getElem? (i := 199) rfl)) rfl
theorem wd66 : Cond.code yX3_isLive cX3_isLive 2 (some .boolean) ∈ WL := mem_WL (t2_in (List.mem_of_getElem? (i := 200) rfl)) rfl
theorem wd67 : Cond.methodLink "FuseBox$House" 73 yX3_isDead ∈ WL := mem_WL (t3_in (List.mem_of_getElem? (i := 20) rfl)) rfl
theorem wd68 : Cond.instanceMethod yX3_isDead ∈ WL := mem_WL (t3_in (List.mem_of_getElem? (i := 21) rfl)) rfl
theorem wd69 : Cond.selects "FuseBox$House" yX3_isDead yX3_isDead ∈ WL := mem_WL (t3_in (List.mem_of_getElem? (i := 22) rfl)) rfl
theorem wd70 : Cond.code yX3_isDead cX3_isDead 2 (some .boolean) ∈ WL := mem_WL (t3_in (List.mem_of_getElem? (i := 23) rfl)) rfl
theorem wd71 : Cond.methodLink "FuseBox$House" 76 yX3_runs ∈ WL := mem_WL (t2_in (List.mem_of_getElem? (i := 189) rfl)) rfl
theorem wd72 : Cond.instanceMethod yX3_runs ∈ WL := mem_WL (t2_in (List.mem_of_getElem? (i := 190) rfl)) rfl
theorem wd73 : Cond.selects "FuseBox$House" yX3_runs yX3_runs ∈ WL := mem_WL (t2_in (List.mem_of_getElem? (i := 191) rfl)) rfl
theorem wd74 : Cond.code yX3_runs cX3_runs 2 (some .boolean) ∈ WL := mem_WL (t2_in (List.mem_of_getElem? (i := 192) rfl)) rfl
theorem wd75 : Cond.fieldLink "FuseBox$House" 24 "FuseBox$House" "flow" "[I" ∈ WL := mem_WL (t1_in (List.mem_of_getElem? (i := 179) rfl)) rfl
theorem wd76 : Cond.methodLink "FuseBox$House" 79 yX3_reckonFlows ∈ WL := mem_WL (t2_in (List.mem_of_getElem? (i := 185) rfl)) rfl
theorem wd77 : Cond.instanceMethod yX3_reckonFlows ∈ WL := mem_WL (t2_in (List.mem_of_getElem? (i := 186) rfl)) rfl
theorem wd78 : Cond.selects "FuseBox$House" yX3_reckonFlows yX3_reckonFlows ∈ WL := mem_WL (t2_in (List.mem_of_getElem? (i := 187) rfl)) rfl
theorem wd79 : Cond.code yX3_reckonFlows cX3_reckonFlows 3 (some .int) ∈ WL := mem_WL (t2_in (List.mem_of_getElem? (i := 188) rfl)) rfl
theorem wd80 : Cond.code Lib.Math.max.name Lib.Math.max.code 2 (some .int) ∈ WL := mem_WL (t2_in (List.mem_of_getElem? (i := 233) rfl)) rfl
theorem wd81 : Cond.methodLink "FuseBox$Wire" 21 Lib.Math.max.name ∈ WL := mem_WL (t2_in (List.mem_of_getElem? (i := 231) rfl)) rfl
theorem wd82 : Cond.static Lib.Math.max.name ∈ WL := mem_WL (t2_in (List.mem_of_getElem? (i := 232) rfl)) rfl
theorem wd83 : Cond.initialized "java/lang/Math" ∈ WL := mem_WL (t1_in (List.mem_of_getElem? (i := 15) rfl)) rfl
theorem wd84 : Cond.methodLink "FuseBox$Wire" 9 yX10_heatBy ∈ WL := mem_WL (t2_in (List.mem_of_getElem? (i := 219) rfl)) rfl
theorem wd85 : Cond.instanceMethod yX10_heatBy ∈ WL := mem_WL (t2_in (List.mem_of_getElem? (i := 220) rfl)) rfl
theorem wd86 : Cond.selects "FuseBox$Wire" yX10_heatBy yX10_heatBy ∈ WL := mem_WL (t2_in (List.mem_of_getElem? (i := 221) rfl)) rfl
theorem wd87 : Cond.initialized "FuseBox$Wire" ∈ WL := mem_WL (t1_in (List.mem_of_getElem? (i := 6) rfl)) rfl
theorem wd88 : Cond.code yX10_heatBy cX10_heatBy 2 (some .int) ∈ WL := mem_WL (t2_in (List.mem_of_getElem? (i := 227) rfl)) rfl
theorem wd89 : Cond.code Lib.Math.min.name Lib.Math.min.code 2 (some .int) ∈ WL := mem_WL (t2_in (List.mem_of_getElem? (i := 230) rfl)) rfl
theorem wd90 : Cond.methodLink "FuseBox$Wire" 15 Lib.Math.min.name ∈ WL := mem_WL (t2_in (List.mem_of_getElem? (i := 228) rfl)) rfl
theorem wd91 : Cond.static Lib.Math.min.name ∈ WL := mem_WL (t2_in (List.mem_of_getElem? (i := 229) rfl)) rfl
theorem wd92 : Cond.sameMethod "FuseBox$Wire" "FuseBox$Wire" "heatBy" "(I)I" ∈ WL := mem_WL (t2_in (List.mem_of_getElem? (i := 222) rfl)) rfl
theorem wd93 : Cond.selects "FuseBox$Slow" yX10_heatBy yX8_heatBy ∈ WL := mem_WL (t2_in (List.mem_of_getElem? (i := 224) rfl)) rfl
theorem wd94 : Cond.instanceMethod yX8_heatBy ∈ WL := mem_WL (t2_in (List.mem_of_getElem? (i := 225) rfl)) rfl
theorem wd95 : Cond.initialized "FuseBox$Slow" ∈ WL := mem_WL (t1_in (List.mem_of_getElem? (i := 7) rfl)) rfl
theorem wd96 : Cond.code yX8_heatBy cX8_heatBy 2 (some .int) ∈ WL := mem_WL (t2_in (List.mem_of_getElem? (i := 226) rfl)) rfl
theorem wd97 : Cond.selects "FuseBox$Quick" yX10_heatBy yX10_heatBy ∈ WL := mem_WL (t2_in (List.mem_of_getElem? (i := 223) rfl)) rfl
theorem wd98 : Cond.methodLink "FuseBox$Quick" 9 yX10_deadBehind ∈ WL := mem_WL (t3_in (List.mem_of_getElem? (i := 14) rfl)) rfl
theorem wd99 : Cond.sameMethod "FuseBox$Wire" "FuseBox$Wire" "deadBehind" "(III)I" ∈ WL := mem_WL (t6_in (List.mem_of_getElem? (i := 55) rfl)) rfl
theorem wd100 : Cond.superclass "FuseBox$Quick" "FuseBox$Wire" ∈ WL := mem_WL (t1_in (List.mem_of_getElem? (i := 130) rfl)) rfl
theorem wd101 : Cond.instanceMethod yX10_deadBehind ∈ WL := mem_WL (t3_in (List.mem_of_getElem? (i := 15) rfl)) rfl
theorem wd102 : Cond.code yX10_deadBehind cX10_deadBehind 4 (some .int) ∈ WL := mem_WL (t3_in (List.mem_of_getElem? (i := 16) rfl)) rfl
theorem wd103 : Cond.methodLink "FuseBox$House" 107 Lib.Math.max.name ∈ WL := mem_WL (t3_in (List.mem_of_getElem? (i := 19) rfl)) rfl
theorem wd104 : Cond.methodLink "FuseBox$House" 94 yX3_fuseOf ∈ WL := mem_WL (t2_in (List.mem_of_getElem? (i := 205) rfl)) rfl
theorem wd105 : Cond.instanceMethod yX3_fuseOf ∈ WL := mem_WL (t2_in (List.mem_of_getElem? (i := 206) rfl)) rfl
theorem wd106 : Cond.selects "FuseBox$House" yX3_fuseOf yX3_fuseOf ∈ WL := mem_WL (t2_in (List.mem_of_getElem? (i := 207) rfl)) rfl
theorem wd107 : Cond.code yX3_fuseOf cX3_fuseOf 2 (some (.object "FuseBox$Fuse")) ∈ WL := mem_WL (t2_in (List.mem_of_getElem? (i := 208) rfl)) rfl
theorem wd108 : Cond.methodLink "FuseBox$House" 98 (⟨"FuseBox$Fuse", "heatBehind", "(II)I"⟩ : MethodName) ∈ WL := mem_WL (t2_in (List.mem_of_getElem? (i := 209) rfl)) rfl
theorem wd109 : Cond.sameMethod "FuseBox$Fuse" "FuseBox$Fuse" "heatBehind" "(II)I" ∈ WL := mem_WL (t2_in (List.mem_of_getElem? (i := 211) rfl)) rfl
theorem wd110 : Cond.selects "FuseBox$Wire" (⟨"FuseBox$Fuse", "heatBehind", "(II)I"⟩ : MethodName) yX10_heatBehind ∈ WL := mem_WL (t2_in (List.mem_of_getElem? (i := 235) rfl)) rfl
theorem wd111 : Cond.instanceMethod yX10_heatBehind ∈ WL := mem_WL (t2_in (List.mem_of_getElem? (i := 217) rfl)) rfl
theorem wd112 : Cond.code yX10_heatBehind cX10_heatBehind 3 (some .int) ∈ WL := mem_WL (t2_in (List.mem_of_getElem? (i := 218) rfl)) rfl
theorem wd113 : Cond.selects "FuseBox$Slow" (⟨"FuseBox$Fuse", "heatBehind", "(II)I"⟩ : MethodName) yX10_heatBehind ∈ WL := mem_WL (t2_in (List.mem_of_getElem? (i := 234) rfl)) rfl
theorem wd114 : Cond.selects "FuseBox$Quick" (⟨"FuseBox$Fuse", "heatBehind", "(II)I"⟩ : MethodName) yX10_heatBehind ∈ WL := mem_WL (t2_in (List.mem_of_getElem? (i := 216) rfl)) rfl
theorem wd115 : Cond.selects "FuseBox$Breaker" (⟨"FuseBox$Fuse", "heatBehind", "(II)I"⟩ : MethodName) yX0_heatBehind ∈ WL := mem_WL (t2_in (List.mem_of_getElem? (i := 212) rfl)) rfl
theorem wd116 : Cond.instanceMethod yX0_heatBehind ∈ WL := mem_WL (t2_in (List.mem_of_getElem? (i := 213) rfl)) rfl
theorem wd117 : Cond.code yX0_heatBehind cX0_heatBehind 3 (some .int) ∈ WL := mem_WL (t2_in (List.mem_of_getElem? (i := 214) rfl)) rfl
theorem wd118 : Cond.selects "FuseBox$Coil" (⟨"FuseBox$Fuse", "heatBehind", "(II)I"⟩ : MethodName) yX0_heatBehind ∈ WL := mem_WL (t2_in (List.mem_of_getElem? (i := 215) rfl)) rfl
theorem wd119 : Cond.methodLink "FuseBox$House" 103 (⟨"FuseBox$Fuse", "deadBehind", "(III)I"⟩ : MethodName) ∈ WL := mem_WL (t2_in (List.mem_of_getElem? (i := 236) rfl)) rfl
theorem wd120 : Cond.sameMethod "FuseBox$Fuse" "FuseBox$Fuse" "deadBehind" "(III)I" ∈ WL := mem_WL (t2_in (List.mem_of_getElem? (i := 238) rfl)) rfl
theorem wd121 : Cond.selects "FuseBox$Wire" (⟨"FuseBox$Fuse", "deadBehind", "(III)I"⟩ : MethodName) yX10_deadBehind ∈ WL := mem_WL (t3_in (List.mem_of_getElem? (i := 18) rfl)) rfl
theorem wd122 : Cond.selects "FuseBox$Slow" (⟨"FuseBox$Fuse", "deadBehind", "(III)I"⟩ : MethodName) yX10_deadBehind ∈ WL := mem_WL (t3_in (List.mem_of_getElem? (i := 17) rfl)) rfl
theorem wd123 : Cond.selects "FuseBox$Quick" (⟨"FuseBox$Fuse", "deadBehind", "(III)I"⟩ : MethodName) yX5_deadBehind ∈ WL := mem_WL (t3_in (List.mem_of_getElem? (i := 11) rfl)) rfl
theorem wd124 : Cond.instanceMethod yX5_deadBehind ∈ WL := mem_WL (t3_in (List.mem_of_getElem? (i := 12) rfl)) rfl
theorem wd125 : Cond.initialized "FuseBox$Quick" ∈ WL := mem_WL (t1_in (List.mem_of_getElem? (i := 8) rfl)) rfl
theorem wd126 : Cond.code yX5_deadBehind cX5_deadBehind 4 (some .int) ∈ WL := mem_WL (t3_in (List.mem_of_getElem? (i := 13) rfl)) rfl
theorem wd127 : Cond.selects "FuseBox$Breaker" (⟨"FuseBox$Fuse", "deadBehind", "(III)I"⟩ : MethodName) yX0_deadBehind ∈ WL := mem_WL (t2_in (List.mem_of_getElem? (i := 239) rfl)) rfl
theorem wd128 : Cond.instanceMethod yX0_deadBehind ∈ WL := mem_WL (t3_in (List.mem_of_getElem? (i := 0) rfl)) rfl
theorem wd129 : Cond.code yX0_deadBehind cX0_deadBehind 4 (some .int) ∈ WL := mem_WL (t3_in (List.mem_of_getElem? (i := 1) rfl)) rfl
theorem wd130 : Cond.selects "FuseBox$Coil" (⟨"FuseBox$Fuse", "deadBehind", "(III)I"⟩ : MethodName) yX0_deadBehind ∈ WL := mem_WL (t3_in (List.mem_of_getElem? (i := 10) rfl)) rfl
theorem wd131 : Cond.constant "FuseBox$House" 87 (99999) ∈ WL := mem_WL (t3_in (List.mem_of_getElem? (i := 24) rfl)) rfl
theorem wd132 : Cond.methodLink "FuseBox$House" 88 Lib.Math.min.name ∈ WL := mem_WL (t3_in (List.mem_of_getElem? (i := 25) rfl)) rfl
theorem wd133 : Cond.methodLink "FuseBox$House" 83 yX3_passLine ∈ WL := mem_WL (t2_in (List.mem_of_getElem? (i := 201) rfl)) rfl
theorem wd134 : Cond.instanceMethod yX3_passLine ∈ WL := mem_WL (t2_in (List.mem_of_getElem? (i := 203) rfl)) rfl
theorem wd135 : Cond.selects "FuseBox$House" yX3_passLine yX3_passLine ∈ WL := mem_WL (t0_in (List.mem_of_getElem? (i := 14) rfl)) rfl
theorem wd136 : Cond.code yX3_passLine cX3_passLine 4 none ∈ WL := mem_WL (t2_in (List.mem_of_getElem? (i := 204) rfl)) rfl
theorem wd137 : Cond.methodLink "FuseBox$House" 110 yX3_passMinute ∈ WL := mem_WL (t3_in (List.mem_of_getElem? (i := 184) rfl)) rfl
theorem wd138 : Cond.instanceMethod yX3_passMinute ∈ WL := mem_WL (t2_in (List.mem_of_getElem? (i := 182) rfl)) rfl
theorem wd139 : Cond.selects "FuseBox$House" yX3_passMinute yX3_passMinute ∈ WL := mem_WL (t2_in (List.mem_of_getElem? (i := 183) rfl)) rfl
theorem wd140 : Cond.code yX3_passMinute cX3_passMinute 3 none ∈ WL := mem_WL (t2_in (List.mem_of_getElem? (i := 184) rfl)) rfl
theorem wd141 : Cond.methodLink "FuseBox$House" 124 yX3_mendLine ∈ WL := mem_WL (t4_in (List.mem_of_getElem? (i := 15) rfl)) rfl
theorem wd142 : Cond.instanceMethod yX3_mendLine ∈ WL := mem_WL (t3_in (List.mem_of_getElem? (i := 61) rfl)) rfl
theorem wd143 : Cond.selects "FuseBox$House" yX3_mendLine yX3_mendLine ∈ WL := mem_WL (t3_in (List.mem_of_getElem? (i := 62) rfl)) rfl
theorem wd144 : Cond.code yX3_mendLine cX3_mendLine 2 none ∈ WL := mem_WL (t3_in (List.mem_of_getElem? (i := 63) rfl)) rfl
theorem wd145 : Cond.constantLong "FuseBox$House" 113 (3) ∈ WL := mem_WL (t4_in (List.mem_of_getElem? (i := 8) rfl)) rfl
theorem wd146 : Cond.constantLong "FuseBox$House" 119 (5) ∈ WL := mem_WL (t4_in (List.mem_of_getElem? (i := 10) rfl)) rfl
theorem wd147 : Cond.methodLink "FuseBox$House" 121 yX3_mendAll ∈ WL := mem_WL (t4_in (List.mem_of_getElem? (i := 11) rfl)) rfl
theorem wd148 : Cond.instanceMethod yX3_mendAll ∈ WL := mem_WL (t4_in (List.mem_of_getElem? (i := 13) rfl)) rfl
theorem wd149 : Cond.selects "FuseBox$House" yX3_mendAll yX3_mendAll ∈ WL := mem_WL (t0_in (List.mem_of_getElem? (i := 31) rfl)) rfl
theorem wd150 : Cond.code yX3_mendAll cX3_mendAll 2 none ∈ WL := mem_WL (t4_in (List.mem_of_getElem? (i := 14) rfl)) rfl
theorem wd151 : Cond.methodLink "FuseBox$House" 115 yX3_toggle ∈ WL := mem_WL (t4_in (List.mem_of_getElem? (i := 9) rfl)) rfl
theorem wd152 : Cond.instanceMethod yX3_toggle ∈ WL := mem_WL (t3_in (List.mem_of_getElem? (i := 40) rfl)) rfl
theorem wd153 : Cond.selects "FuseBox$House" yX3_toggle yX3_toggle ∈ WL := mem_WL (t3_in (List.mem_of_getElem? (i := 41) rfl)) rfl
theorem wd154 : Cond.code yX3_toggle cX3_toggle 2 none ∈ WL := mem_WL (t3_in (List.mem_of_getElem? (i := 42) rfl)) rfl
theorem wd155 : Cond.fieldLink "FuseBox$Plugging" 24 "FuseBox$Plugging" "house" "LFuseBox$House;" ∈ WL := mem_WL (t1_in (List.mem_of_getElem? (i := 73) rfl)) rfl
theorem wd156 : Cond.methodLink "FuseBox$Plugging" 47 yX3_loadThatIsOn ∈ WL := mem_WL (t3_in (List.mem_of_getElem? (i := 145) rfl)) rfl
theorem wd157 : Cond.instanceMethod yX3_loadThatIsOn ∈ WL := mem_WL (t3_in (List.mem_of_getElem? (i := 146) rfl)) rfl
theorem wd158 : Cond.selects "FuseBox$House" yX3_loadThatIsOn yX3_loadThatIsOn ∈ WL := mem_WL (t3_in (List.mem_of_getElem? (i := 147) rfl)) rfl
theorem wd159 : Cond.code yX3_loadThatIsOn cX3_loadThatIsOn 3 (some .int) ∈ WL := mem_WL (t3_in (List.mem_of_getElem? (i := 148) rfl)) rfl
theorem wd160 : Cond.fieldLink "FuseBox$Plugging" 11 "FuseBox$Plugging" "live" "[I" ∈ WL := mem_WL (t1_in (List.mem_of_getElem? (i := 66) rfl)) rfl
theorem wd161 : Cond.fieldLink "FuseBox$Plugging" 28 "FuseBox$Plugging" "minutes" "I" ∈ WL := mem_WL (t1_in (List.mem_of_getElem? (i := 74) rfl)) rfl
theorem wd162 : Cond.methodLink "FuseBox$Plugging" 51 yX3_liveMinutes ∈ WL := mem_WL (t3_in (List.mem_of_getElem? (i := 149) rfl)) rfl
theorem wd163 : Cond.instanceMethod yX3_liveMinutes ∈ WL := mem_WL (t3_in (List.mem_of_getElem? (i := 150) rfl)) rfl
theorem wd164 : Cond.selects "FuseBox$House" yX3_liveMinutes yX3_liveMinutes ∈ WL := mem_WL (t3_in (List.mem_of_getElem? (i := 151) rfl)) rfl
theorem wd165 : Cond.code yX3_liveMinutes cX3_liveMinutes 9 (some .int) ∈ WL := mem_WL (t3_in (List.mem_of_getElem? (i := 152) rfl)) rfl
theorem wd166 : Cond.fieldLink "FuseBox$Plugging" 15 "FuseBox$Plugging" "loads" "[I" ∈ WL := mem_WL (t1_in (List.mem_of_getElem? (i := 67) rfl)) rfl
theorem wd167 : Cond.constant "java/lang/Integer" 265 (1431655765) ∈ WL := mem_WL (t3_in (List.mem_of_getElem? (i := 126) rfl)) rfl
theorem wd168 : Cond.constant "java/lang/Integer" 266 (858993459) ∈ WL := mem_WL (t3_in (List.mem_of_getElem? (i := 127) rfl)) rfl
theorem wd169 : Cond.constant "java/lang/Integer" 267 (252645135) ∈ WL := mem_WL (t3_in (List.mem_of_getElem? (i := 128) rfl)) rfl
theorem wd170 : Cond.fieldLink "FuseBox$Plugging" 88 "FuseBox$House" "main" "I" ∈ WL := mem_WL (t1_in (List.mem_of_getElem? (i := 161) rfl)) rfl
theorem wd171 : Cond.fieldLink "FuseBox$Plugging" 35 "FuseBox$House" "lines" "I" ∈ WL := mem_WL (t1_in (List.mem_of_getElem? (i := 152) rfl)) rfl
theorem wd172 : Cond.methodLink "FuseBox$Plugging" 80 yX4_liveMinutes ∈ WL := mem_WL (t3_in (List.mem_of_getElem? (i := 165) rfl)) rfl
theorem wd173 : Cond.instanceMethod yX4_liveMinutes ∈ WL := mem_WL (t3_in (List.mem_of_getElem? (i := 167) rfl)) rfl
theorem wd174 : Cond.selects "FuseBox$Plugging" yX4_liveMinutes yX4_liveMinutes ∈ WL := mem_WL (t0_in (List.mem_of_getElem? (i := 23) rfl)) rfl
theorem wd175 : Cond.initialized "FuseBox$Plugging" ∈ WL := mem_WL (t1_in (List.mem_of_getElem? (i := 3) rfl)) rfl
theorem wd176 : Cond.code yX4_liveMinutes cX4_liveMinutes 2 (some .int) ∈ WL := mem_WL (t3_in (List.mem_of_getElem? (i := 168) rfl)) rfl
theorem wd177 : Cond.methodLink "FuseBox$Plugging" 91 yX4_usedUntilMainIsOut ∈ WL := mem_WL (t3_in (List.mem_of_getElem? (i := 170) rfl)) rfl
theorem wd178 : Cond.instanceMethod yX4_usedUntilMainIsOut ∈ WL := mem_WL (t3_in (List.mem_of_getElem? (i := 172) rfl)) rfl
theorem wd179 : Cond.selects "FuseBox$Plugging" yX4_usedUntilMainIsOut yX4_usedUntilMainIsOut ∈ WL := mem_WL (t0_in (List.mem_of_getElem? (i := 24) rfl)) rfl
theorem wd180 : Cond.code yX4_usedUntilMainIsOut cX4_usedUntilMainIsOut 5 (some .int) ∈ WL := mem_WL (t3_in (List.mem_of_getElem? (i := 173) rfl)) rfl
theorem wd181 : Cond.methodLink "FuseBox$Plugging" 83 yJ6_bitCount_0f7a4 ∈ WL := mem_WL (t3_in (List.mem_of_getElem? (i := 169) rfl)) rfl
theorem wd182 : Cond.static yJ6_bitCount_0f7a4 ∈ WL := mem_WL (t3_in (List.mem_of_getElem? (i := 124) rfl)) rfl
theorem wd183 : Cond.initialized "java/lang/Integer" ∈ WL := mem_WL (t1_in (List.mem_of_getElem? (i := 16) rfl)) rfl
theorem wd184 : Cond.code yJ6_bitCount_0f7a4 cJ6_bitCount_0f7a4 1 (some .int) ∈ WL := mem_WL (t3_in (List.mem_of_getElem? (i := 125) rfl)) rfl
theorem wd185 : Cond.methodLink "FuseBox$Plugging" 71 yX4_usedThen ∈ WL := mem_WL (t3_in (List.mem_of_getElem? (i := 161) rfl)) rfl
theorem wd186 : Cond.instanceMethod yX4_usedThen ∈ WL := mem_WL (t3_in (List.mem_of_getElem? (i := 163) rfl)) rfl
theorem wd187 : Cond.selects "FuseBox$Plugging" yX4_usedThen yX4_usedThen ∈ WL := mem_WL (t0_in (List.mem_of_getElem? (i := 22) rfl)) rfl
theorem wd188 : Cond.code yX4_usedThen cX4_usedThen 4 (some .int) ∈ WL := mem_WL (t3_in (List.mem_of_getElem? (i := 164) rfl)) rfl
theorem wd189 : Cond.fieldLink "FuseBox$Plugging" 32 "FuseBox$Plugging" "most" "I" ∈ WL := mem_WL (t1_in (List.mem_of_getElem? (i := 71) rfl)) rfl
theorem wd190 : Cond.fieldLink "FuseBox$Plugging" 18 "FuseBox$Plugging" "way" "[I" ∈ WL := mem_WL (t1_in (List.mem_of_getElem? (i := 68) rfl)) rfl
theorem wd191 : Cond.fieldLink "FuseBox$Plugging" 21 "FuseBox$Plugging" "best" "[I" ∈ WL := mem_WL (t1_in (List.mem_of_getElem? (i := 69) rfl)) rfl
theorem wd192 : Cond.methodLink "FuseBox$Plugging" 74 arraycopyName ∈ WL := mem_WL (t3_in (List.mem_of_getElem? (i := 174) rfl)) rfl
theorem wd193 : Cond.fieldLink "FuseBox$Plugging" 55 "FuseBox$House" "things" "I" ∈ WL := mem_WL (t1_in (List.mem_of_getElem? (i := 156) rfl)) rfl
theorem wd194 : Cond.methodLink "FuseBox$Plugging" 58 yX4_weigh ∈ WL := mem_WL (t3_in (List.mem_of_getElem? (i := 157) rfl)) rfl
theorem wd195 : Cond.instanceMethod yX4_weigh ∈ WL := mem_WL (t3_in (List.mem_of_getElem? (i := 159) rfl)) rfl
theorem wd196 : Cond.selects "FuseBox$Plugging" yX4_weigh yX4_weigh ∈ WL := mem_WL (t0_in (List.mem_of_getElem? (i := 21) rfl)) rfl
theorem wd197 : Cond.code yX4_weigh cX4_weigh 2 none ∈ WL := mem_WL (t3_in (List.mem_of_getElem? (i := 160) rfl)) rfl
theorem wd198 : Cond.methodLink "FuseBox$Plugging" 61 yX3_isOn ∈ WL := mem_WL (t3_in (List.mem_of_getElem? (i := 175) rfl)) rfl
theorem wd199 : Cond.fieldLink "FuseBox$Plugging" 68 "FuseBox$House" "load" "[I" ∈ WL := mem_WL (t1_in (List.mem_of_getElem? (i := 184) rfl)) rfl
theorem wd200 : Cond.methodLink "FuseBox$Plugging" 44 yX4_plugFrom ∈ WL := mem_WL (t3_in (List.mem_of_getElem? (i := 153) rfl)) rfl
theorem wd201 : Cond.instanceMethod yX4_plugFrom ∈ WL := mem_WL (t3_in (List.mem_of_getElem? (i := 155) rfl)) rfl
theorem wd202 : Cond.selects "FuseBox$Plugging" yX4_plugFrom yX4_plugFrom ∈ WL := mem_WL (t0_in (List.mem_of_getElem? (i := 20) rfl)) rfl
theorem wd203 : Cond.code yX4_plugFrom cX4_plugFrom 3 none ∈ WL := mem_WL (t3_in (List.mem_of_getElem? (i := 156) rfl)) rfl
theorem wd204 : Cond.fieldLink "FuseBox$Plugging" 65 "FuseBox$House" "plugged" "[I" ∈ WL := mem_WL (t1_in (List.mem_of_getElem? (i := 181) rfl)) rfl
theorem wd205 : Cond.methodLink "FuseBox$Plugging" 40 yX4_foretellLine ∈ WL := mem_WL (t3_in (List.mem_of_getElem? (i := 141) rfl)) rfl
theorem wd206 : Cond.instanceMethod yX4_foretellLine ∈ WL := mem_WL (t3_in (List.mem_of_getElem? (i := 143) rfl)) rfl
theorem wd207 : Cond.selects "FuseBox$Plugging" yX4_foretellLine yX4_foretellLine ∈ WL := mem_WL (t0_in (List.mem_of_getElem? (i := 19) rfl)) rfl
theorem wd208 : Cond.code yX4_foretellLine cX4_foretellLine 4 none ∈ WL := mem_WL (t3_in (List.mem_of_getElem? (i := 144) rfl)) rfl
theorem wd209 : Cond.methodLink "FuseBox$Wire" 24 yX9_leave ∈ WL := mem_WL (t4_in (List.mem_of_getElem? (i := 66) rfl)) rfl
theorem wd210 : Cond.methodLink "FuseBox$Wire" 37 yX2_markOf ∈ WL := mem_WL (t4_in (List.mem_of_getElem? (i := 83) rfl)) rfl
theorem wd211 : Cond.superclass "FuseBox$Wire" "FuseBox$Fuse" ∈ WL := mem_WL (t1_in (List.mem_of_getElem? (i := 116) rfl)) rfl
theorem wd212 : Cond.fieldLink "FuseBox$Wire" 38 "FuseBox$House" "heat" "[I" ∈ WL := mem_WL (t1_in (List.mem_of_getElem? (i := 175) rfl)) rfl
theorem wd213 : Cond.methodLink "FuseBox$Quick" 13 yX9_leave ∈ WL := mem_WL (t4_in (List.mem_of_getElem? (i := 75) rfl)) rfl
theorem wd214 : Cond.methodLink "FuseBox$Quick" 19 yX10_markOf ∈ WL := mem_WL (t4_in (List.mem_of_getElem? (i := 76) rfl)) rfl
theorem wd215 : Cond.sameMethod "FuseBox$Wire" "FuseBox$Wire" "markOf" "(LFuseBox$House;ILFuseBox$Trace;)I" ∈ WL := mem_WL (t4_in (List.mem_of_getElem? (i := 71) rfl)) rfl
theorem wd216 : Cond.instanceMethod yX10_markOf ∈ WL := mem_WL (t4_in (List.mem_of_getElem? (i := 69) rfl)) rfl
theorem wd217 : Cond.code yX10_markOf cX10_markOf 4 (some .int) ∈ WL := mem_WL (t4_in (List.mem_of_getElem? (i := 82) rfl)) rfl
theorem wd218 : Cond.fieldLink "FuseBox$Reader" 9 "FuseBox$Reader" "letters" "[I" ∈ WL := mem_WL (t1_in (List.mem_of_getElem? (i := 33) rfl)) rfl
theorem wd219 : Cond.fieldLink "FuseBox$Reader" 15 "FuseBox$Reader" "size" "I" ∈ WL := mem_WL (t1_in (List.mem_of_getElem? (i := 34) rfl)) rfl
theorem wd220 : Cond.fieldLink "FuseBox$Reader" 40 "FuseBox$Reader" "token" "I" ∈ WL := mem_WL (t1_in (List.mem_of_getElem? (i := 36) rfl)) rfl
theorem wd221 : Cond.fieldLink "FuseBox$Reader" 81 "FuseBox$Reader" "start" "I" ∈ WL := mem_WL (t1_in (List.mem_of_getElem? (i := 40) rfl)) rfl
theorem wd222 : Cond.fieldLink "FuseBox$Reader" 78 "FuseBox$Reader" "value" "I" ∈ WL := mem_WL (t1_in (List.mem_of_getElem? (i := 37) rfl)) rfl
theorem wd223 : Cond.methodLink "FuseBox$Reader" 84 yX6_isFigure ∈ WL := mem_WL (t2_in (List.mem_of_getElem? (i := 111) rfl)) rfl
theorem wd224 : Cond.instanceMethod yX6_isFigure ∈ WL := mem_WL (t2_in (List.mem_of_getElem? (i := 113) rfl)) rfl
theorem wd225 : Cond.selects "FuseBox$Reader" yX6_isFigure yX6_isFigure ∈ WL := mem_WL (t0_in (List.mem_of_getElem? (i := 3) rfl)) rfl
theorem wd226 : Cond.initialized "FuseBox$Reader" ∈ WL := mem_WL (t1_in (List.mem_of_getElem? (i := 2) rfl)) rfl
theorem wd227 : Cond.code yX6_isFigure cX6_isFigure 2 (some .boolean) ∈ WL := mem_WL (t2_in (List.mem_of_getElem? (i := 114) rfl)) rfl
theorem wd228 : Cond.fieldLink "FuseBox$Reader" 22 "FuseBox$Reader" "behind" "I" ∈ WL := mem_WL (t1_in (List.mem_of_getElem? (i := 38) rfl)) rfl
theorem wd229 : Cond.methodLink "FuseBox$Reader" 88 yX6_readNumber ∈ WL := mem_WL (t2_in (List.mem_of_getElem? (i := 115) rfl)) rfl
theorem wd230 : Cond.instanceMethod yX6_readNumber ∈ WL := mem_WL (t2_in (List.mem_of_getElem? (i := 117) rfl)) rfl
theorem wd231 : Cond.selects "FuseBox$Reader" yX6_readNumber yX6_readNumber ∈ WL := mem_WL (t0_in (List.mem_of_getElem? (i := 4) rfl)) rfl
theorem wd232 : Cond.code yX6_readNumber cX6_readNumber 1 none ∈ WL := mem_WL (t2_in (List.mem_of_getElem? (i := 118) rfl)) rfl
theorem wd233 : Cond.fieldLink "FuseBox$Reader" 19 "FuseBox$Reader" "fault" "I" ∈ WL := mem_WL (t1_in (List.mem_of_getElem? (i := 41) rfl)) rfl
theorem wd234 : Cond.methodLink "FuseBox$Reader" 30 yX6_readToken ∈ WL := mem_WL (t2_in (List.mem_of_getElem? (i := 107) rfl)) rfl
theorem wd235 : Cond.instanceMethod yX6_readToken ∈ WL := mem_WL (t2_in (List.mem_of_getElem? (i := 109) rfl)) rfl
theorem wd236 : Cond.selects "FuseBox$Reader" yX6_readToken yX6_readToken ∈ WL := mem_WL (t0_in (List.mem_of_getElem? (i := 2) rfl)) rfl
theorem wd237 : Cond.code yX6_readToken cX6_readToken 2 none ∈ WL := mem_WL (t2_in (List.mem_of_getElem? (i := 110) rfl)) rfl
theorem wd238 : Cond.methodLink "FuseBox$Reader" 61 yX6_fail ∈ WL := mem_WL (t2_in (List.mem_of_getElem? (i := 127) rfl)) rfl
theorem wd239 : Cond.instanceMethod yX6_fail ∈ WL := mem_WL (t2_in (List.mem_of_getElem? (i := 129) rfl)) rfl
theorem wd240 : Cond.selects "FuseBox$Reader" yX6_fail yX6_fail ∈ WL := mem_WL (t0_in (List.mem_of_getElem? (i := 7) rfl)) rfl
theorem wd241 : Cond.code yX6_fail cX6_fail 2 none ∈ WL := mem_WL (t2_in (List.mem_of_getElem? (i := 130) rfl)) rfl
theorem wd242 : Cond.methodLink "FuseBox$Reader" 50 yX6_take ∈ WL := mem_WL (t2_in (List.mem_of_getElem? (i := 123) rfl)) rfl
theorem wd243 : Cond.instanceMethod yX6_take ∈ WL := mem_WL (t2_in (List.mem_of_getElem? (i := 125) rfl)) rfl
theorem wd244 : Cond.selects "FuseBox$Reader" yX6_take yX6_take ∈ WL := mem_WL (t0_in (List.mem_of_getElem? (i := 6) rfl)) rfl
theorem wd245 : Cond.code yX6_take cX6_take 2 none ∈ WL := mem_WL (t2_in (List.mem_of_getElem? (i := 126) rfl)) rfl
theorem wd246 : Cond.methodLink "FuseBox$Reader" 54 yX6_takeNumber ∈ WL := mem_WL (t2_in (List.mem_of_getElem? (i := 131) rfl)) rfl
theorem wd247 : Cond.instanceMethod yX6_takeNumber ∈ WL := mem_WL (t2_in (List.mem_of_getElem? (i := 133) rfl)) rfl
theorem wd248 : Cond.selects "FuseBox$Reader" yX6_takeNumber yX6_takeNumber ∈ WL := mem_WL (t0_in (List.mem_of_getElem? (i := 8) rfl)) rfl
theorem wd249 : Cond.code yX6_takeNumber cX6_takeNumber 4 (some .int) ∈ WL := mem_WL (t2_in (List.mem_of_getElem? (i := 134) rfl)) rfl
theorem wd250 : Cond.fieldLink "FuseBox$Reader" 58 "FuseBox$House" "main" "I" ∈ WL := mem_WL (t1_in (List.mem_of_getElem? (i := 160) rfl)) rfl
theorem wd251 : Cond.methodLink "FuseBox$Reader" 43 yX6_sortOf ∈ WL := mem_WL (t2_in (List.mem_of_getElem? (i := 139) rfl)) rfl
theorem wd252 : Cond.static yX6_sortOf ∈ WL := mem_WL (t2_in (List.mem_of_getElem? (i := 140) rfl)) rfl
theorem wd253 : Cond.code yX6_sortOf cX6_sortOf 1 (some .int) ∈ WL := mem_WL (t2_in (List.mem_of_getElem? (i := 141) rfl)) rfl
theorem wd254 : Cond.methodLink "FuseBox$Reader" 67 yX3_addLine ∈ WL := mem_WL (t2_in (List.mem_of_getElem? (i := 142) rfl)) rfl
theorem wd255 : Cond.instanceMethod yX3_addLine ∈ WL := mem_WL (t2_in (List.mem_of_getElem? (i := 143) rfl)) rfl
theorem wd256 : Cond.selects "FuseBox$House" yX3_addLine yX3_addLine ∈ WL := mem_WL (t2_in (List.mem_of_getElem? (i := 144) rfl)) rfl
theorem wd257 : Cond.code yX3_addLine cX3_addLine 3 none ∈ WL := mem_WL (t2_in (List.mem_of_getElem? (i := 145) rfl)) rfl
theorem wd258 : Cond.fieldLink "FuseBox$Reader" 64 "FuseBox$House" "lines" "I" ∈ WL := mem_WL (t1_in (List.mem_of_getElem? (i := 153) rfl)) rfl
theorem wd259 : Cond.methodLink "FuseBox$Reader" 74 yX3_addThing ∈ WL := mem_WL (t2_in (List.mem_of_getElem? (i := 150) rfl)) rfl
theorem wd260 : Cond.instanceMethod yX3_addThing ∈ WL := mem_WL (t2_in (List.mem_of_getElem? (i := 151) rfl)) rfl
theorem wd261 : Cond.selects "FuseBox$House" yX3_addThing yX3_addThing ∈ WL := mem_WL (t2_in (List.mem_of_getElem? (i := 152) rfl)) rfl
theorem wd262 : Cond.code yX3_addThing cX3_addThing 4 none ∈ WL := mem_WL (t2_in (List.mem_of_getElem? (i := 153) rfl)) rfl
theorem wd263 : Cond.fieldLink "FuseBox$Reader" 71 "FuseBox$House" "things" "I" ∈ WL := mem_WL (t1_in (List.mem_of_getElem? (i := 157) rfl)) rfl
theorem wd264 : Cond.methodLink "FuseBox$Reader" 25 yX3_clear ∈ WL := mem_WL (t2_in (List.mem_of_getElem? (i := 103) rfl)) rfl
theorem wd265 : Cond.instanceMethod yX3_clear ∈ WL := mem_WL (t2_in (List.mem_of_getElem? (i := 104) rfl)) rfl
theorem wd266 : Cond.selects "FuseBox$House" yX3_clear yX3_clear ∈ WL := mem_WL (t2_in (List.mem_of_getElem? (i := 105) rfl)) rfl
theorem wd267 : Cond.code yX3_clear cX3_clear 1 none ∈ WL := mem_WL (t2_in (List.mem_of_getElem? (i := 106) rfl)) rfl
theorem wd268 : Cond.methodLink "FuseBox$Reader" 33 yX6_readLaw ∈ WL := mem_WL (t2_in (List.mem_of_getElem? (i := 119) rfl)) rfl
theorem wd269 : Cond.instanceMethod yX6_readLaw ∈ WL := mem_WL (t2_in (List.mem_of_getElem? (i := 121) rfl)) rfl
theorem wd270 : Cond.selects "FuseBox$Reader" yX6_readLaw yX6_readLaw ∈ WL := mem_WL (t0_in (List.mem_of_getElem? (i := 5) rfl)) rfl
theorem wd271 : Cond.code yX6_readLaw cX6_readLaw 2 none ∈ WL := mem_WL (t2_in (List.mem_of_getElem? (i := 122) rfl)) rfl
theorem wd272 : Cond.methodLink "FuseBox$Reader" 37 yX6_readLine ∈ WL := mem_WL (t2_in (List.mem_of_getElem? (i := 135) rfl)) rfl
theorem wd273 : Cond.instanceMethod yX6_readLine ∈ WL := mem_WL (t2_in (List.mem_of_getElem? (i := 137) rfl)) rfl
theorem wd274 : Cond.selects "FuseBox$Reader" yX6_readLine yX6_readLine ∈ WL := mem_WL (t0_in (List.mem_of_getElem? (i := 9) rfl)) rfl
theorem wd275 : Cond.code yX6_readLine cX6_readLine 4 none ∈ WL := mem_WL (t2_in (List.mem_of_getElem? (i := 138) rfl)) rfl
theorem wd276 : Cond.methodLink "FuseBox$Reader" 47 yX6_readThing ∈ WL := mem_WL (t2_in (List.mem_of_getElem? (i := 146) rfl)) rfl
theorem wd277 : Cond.instanceMethod yX6_readThing ∈ WL := mem_WL (t2_in (List.mem_of_getElem? (i := 148) rfl)) rfl
theorem wd278 : Cond.selects "FuseBox$Reader" yX6_readThing yX6_readThing ∈ WL := mem_WL (t0_in (List.mem_of_getElem? (i := 10) rfl)) rfl
theorem wd279 : Cond.code yX6_readThing cX6_readThing 5 none ∈ WL := mem_WL (t2_in (List.mem_of_getElem? (i := 149) rfl)) rfl
theorem wd280 : Cond.fieldLink "FuseBox$Row" 19 "FuseBox$Row" "lane" "I" ∈ WL := mem_WL (t1_in (List.mem_of_getElem? (i := 226) rfl)) rfl
theorem wd281 : Cond.fieldLink "FuseBox$Row" 15 "FuseBox$Row" "size" "I" ∈ WL := mem_WL (t1_in (List.mem_of_getElem? (i := 228) rfl)) rfl
theorem wd282 : Cond.fieldLink "FuseBox$Row" 9 "FuseBox$Row" "items" "[I" ∈ WL := mem_WL (t1_in (List.mem_of_getElem? (i := 224) rfl)) rfl
theorem wd283 : Cond.methodLink "FuseBox$Slow" 7 yX9_leave ∈ WL := mem_WL (t4_in (List.mem_of_getElem? (i := 80) rfl)) rfl
theorem wd284 : Cond.methodLink "FuseBox$Slow" 17 yX10_markOf ∈ WL := mem_WL (t4_in (List.mem_of_getElem? (i := 81) rfl)) rfl
theorem wd285 : Cond.superclass "FuseBox$Slow" "FuseBox$Wire" ∈ WL := mem_WL (t1_in (List.mem_of_getElem? (i := 123) rfl)) rfl
theorem wd286 : Cond.methodLink "FuseBox$Wire" 30 yX2_sizeOf ∈ WL := mem_WL (t4_in (List.mem_of_getElem? (i := 67) rfl)) rfl
theorem wd287 : Cond.methodLink "FuseBox$Wire" 34 yX10_markOf ∈ WL := mem_WL (t4_in (List.mem_of_getElem? (i := 68) rfl)) rfl
theorem wd288 : Cond.selects "FuseBox$Slow" yX10_markOf yX8_markOf ∈ WL := mem_WL (t4_in (List.mem_of_getElem? (i := 77) rfl)) rfl
theorem wd289 : Cond.instanceMethod yX8_markOf ∈ WL := mem_WL (t4_in (List.mem_of_getElem? (i := 78) rfl)) rfl
theorem wd290 : Cond.code yX8_markOf cX8_markOf 4 (some .int) ∈ WL := mem_WL (t4_in (List.mem_of_getElem? (i := 79) rfl)) rfl
theorem wd291 : Cond.methodLink "FuseBox$Slow" 13 yX10_sizeOf ∈ WL := mem_WL (t4_in (List.mem_of_getElem? (i := 90) rfl)) rfl
theorem wd292 : Cond.sameMethod "FuseBox$Wire" "FuseBox$Wire" "sizeOf" "(LFuseBox$House;ILFuseBox$Trace;)I" ∈ WL := mem_WL (t6_in (List.mem_of_getElem? (i := 58) rfl)) rfl
theorem wd293 : Cond.instanceMethod yX10_sizeOf ∈ WL := mem_WL (t4_in (List.mem_of_getElem? (i := 64) rfl)) rfl
theorem wd294 : Cond.code yX10_sizeOf cX10_sizeOf 5 (some .int) ∈ WL := mem_WL (t4_in (List.mem_of_getElem? (i := 65) rfl)) rfl
theorem wd295 : Cond.selects "FuseBox$Wire" yX10_markOf yX10_markOf ∈ WL := mem_WL (t4_in (List.mem_of_getElem? (i := 70) rfl)) rfl
theorem wd296 : Cond.selects "FuseBox$Quick" yX10_markOf yX5_markOf ∈ WL := mem_WL (t4_in (List.mem_of_getElem? (i := 72) rfl)) rfl
theorem wd297 : Cond.instanceMethod yX5_markOf ∈ WL := mem_WL (t4_in (List.mem_of_getElem? (i := 73) rfl)) rfl
theorem wd298 : Cond.code yX5_markOf cX5_markOf 4 (some .int) ∈ WL := mem_WL (t4_in (List.mem_of_getElem? (i := 74) rfl)) rfl
theorem wd299 : Cond.fieldLink "FuseBox" 120 "FuseBox" "latestFinding" "I" ∈ WL := mem_WL (t2_in (List.mem_of_getElem? (i := 8) rfl)) rfl
theorem wd300 : Cond.constant "FuseBox" 123 (-1000010) ∈ WL := mem_WL (t2_in (List.mem_of_getElem? (i := 46) rfl)) rfl
theorem wd301 : Cond.methodLink "FuseBox" 73 yX11_noRow ∈ WL := mem_WL (t2_in (List.mem_of_getElem? (i := 38) rfl)) rfl
theorem wd302 : Cond.static yX11_noRow ∈ WL := mem_WL (t2_in (List.mem_of_getElem? (i := 39) rfl)) rfl
theorem wd303 : Cond.initialized "FuseBox" ∈ WL := mem_WL (t1_in (List.mem_of_getElem? (i := 1) rfl)) rfl
theorem wd304 : Cond.code yX11_noRow cX11_noRow 1 (some .boolean) ∈ WL := mem_WL (t2_in (List.mem_of_getElem? (i := 40) rfl)) rfl
theorem wd305 : Cond.constant "FuseBox" 77 (-1000001) ∈ WL := mem_WL (t2_in (List.mem_of_getElem? (i := 41) rfl)) rfl
theorem wd306 : Cond.fieldLink "FuseBox" 11 "FuseBox" "rows" "[LFuseBox$Row;" ∈ WL := mem_WL (t1_in (List.mem_of_getElem? (i := 237) rfl)) rfl
theorem wd307 : Cond.methodLink "FuseBox" 82 yX7_begin ∈ WL := mem_WL (t2_in (List.mem_of_getElem? (i := 47) rfl)) rfl
theorem wd308 : Cond.instanceMethod yX7_begin ∈ WL := mem_WL (t2_in (List.mem_of_getElem? (i := 48) rfl)) rfl
theorem wd309 : Cond.selects "FuseBox$Row" yX7_begin yX7_begin ∈ WL := mem_WL (t2_in (List.mem_of_getElem? (i := 49) rfl)) rfl
theorem wd310 : Cond.initialized "FuseBox$Row" ∈ WL := mem_WL (t1_in (List.mem_of_getElem? (i := 12) rfl)) rfl
theorem wd311 : Cond.code yX7_begin cX7_begin 4 none ∈ WL := mem_WL (t2_in (List.mem_of_getElem? (i := 50) rfl)) rfl
theorem wd312 : Cond.methodLink "FuseBox" 86 yX11_fine ∈ WL := mem_WL (t2_in (List.mem_of_getElem? (i := 51) rfl)) rfl
theorem wd313 : Cond.instanceMethod yX11_fine ∈ WL := mem_WL (t2_in (List.mem_of_getElem? (i := 53) rfl)) rfl
theorem wd314 : Cond.selects "FuseBox" yX11_fine yX11_fine ∈ WL := mem_WL (t0_in (List.mem_of_getElem? (i := 1) rfl)) rfl
theorem wd315 : Cond.code yX11_fine cX11_fine 2 (some .int) ∈ WL := mem_WL (t2_in (List.mem_of_getElem? (i := 54) rfl)) rfl
theorem wd316 : Cond.methodLink "FuseBox" 78 yX11_found ∈ WL := mem_WL (t2_in (List.mem_of_getElem? (i := 42) rfl)) rfl
theorem wd317 : Cond.instanceMethod yX11_found ∈ WL := mem_WL (t2_in (List.mem_of_getElem? (i := 44) rfl)) rfl
theorem wd318 : Cond.selects "FuseBox" yX11_found yX11_found ∈ WL := mem_WL (t0_in (List.mem_of_getElem? (i := 0) rfl)) rfl
theorem wd319 : Cond.code yX11_found cX11_found 2 (some .int) ∈ WL := mem_WL (t2_in (List.mem_of_getElem? (i := 45) rfl)) rfl
theorem wd320 : Cond.methodLink "FuseBox" 89 yX7_isMissing ∈ WL := mem_WL (t2_in (List.mem_of_getElem? (i := 59) rfl)) rfl
theorem wd321 : Cond.instanceMethod yX7_isMissing ∈ WL := mem_WL (t2_in (List.mem_of_getElem? (i := 60) rfl)) rfl
theorem wd322 : Cond.selects "FuseBox$Row" yX7_isMissing yX7_isMissing ∈ WL := mem_WL (t2_in (List.mem_of_getElem? (i := 61) rfl)) rfl
theorem wd323 : Cond.code yX7_isMissing cX7_isMissing 1 (some .boolean) ∈ WL := mem_WL (t2_in (List.mem_of_getElem? (i := 62) rfl)) rfl
theorem wd324 : Cond.methodLink "FuseBox" 93 yX7_has ∈ WL := mem_WL (t2_in (List.mem_of_getElem? (i := 63) rfl)) rfl
theorem wd325 : Cond.instanceMethod yX7_has ∈ WL := mem_WL (t2_in (List.mem_of_getElem? (i := 64) rfl)) rfl
theorem wd326 : Cond.selects "FuseBox$Row" yX7_has yX7_has ∈ WL := mem_WL (t2_in (List.mem_of_getElem? (i := 65) rfl)) rfl
theorem wd327 : Cond.code yX7_has cX7_has 3 (some .boolean) ∈ WL := mem_WL (t2_in (List.mem_of_getElem? (i := 66) rfl)) rfl
theorem wd328 : Cond.fieldLink "FuseBox" 97 "FuseBox$Row" "items" "[I" ∈ WL := mem_WL (t1_in (List.mem_of_getElem? (i := 225) rfl)) rfl
theorem wd329 : Cond.methodLink "FuseBox" 101 yX7_cut ∈ WL := mem_WL (t2_in (List.mem_of_getElem? (i := 67) rfl)) rfl
theorem wd330 : Cond.instanceMethod yX7_cut ∈ WL := mem_WL (t2_in (List.mem_of_getElem? (i := 68) rfl)) rfl
theorem wd331 : Cond.selects "FuseBox$Row" yX7_cut yX7_cut ∈ WL := mem_WL (t2_in (List.mem_of_getElem? (i := 69) rfl)) rfl
theorem wd332 : Cond.code yX7_cut cX7_cut 2 (some .int) ∈ WL := mem_WL (t2_in (List.mem_of_getElem? (i := 70) rfl)) rfl
theorem wd333 : Cond.fieldLink "FuseBox" 104 "FuseBox$Row" "lane" "I" ∈ WL := mem_WL (t1_in (List.mem_of_getElem? (i := 227) rfl)) rfl
theorem wd334 : Cond.methodLink "FuseBox" 108 arraycopyName ∈ WL := mem_WL (t2_in (List.mem_of_getElem? (i := 75) rfl)) rfl
theorem wd335 : Cond.fieldLink "FuseBox" 114 "FuseBox$Row" "size" "I" ∈ WL := mem_WL (t1_in (List.mem_of_getElem? (i := 229) rfl)) rfl
theorem wd336 : Cond.methodLink "FuseBox" 117 yX7_end ∈ WL := mem_WL (t2_in (List.mem_of_getElem? (i := 82) rfl)) rfl
theorem wd337 : Cond.instanceMethod yX7_end ∈ WL := mem_WL (t2_in (List.mem_of_getElem? (i := 83) rfl)) rfl
theorem wd338 : Cond.selects "FuseBox$Row" yX7_end yX7_end ∈ WL := mem_WL (t2_in (List.mem_of_getElem? (i := 84) rfl)) rfl
theorem wd339 : Cond.code yX7_end cX7_end 1 none ∈ WL := mem_WL (t2_in (List.mem_of_getElem? (i := 85) rfl)) rfl
theorem wd340 : Cond.fieldLink "FuseBox" 18 "FuseBox" "reader" "LFuseBox$Reader;" ∈ WL := mem_WL (t1_in (List.mem_of_getElem? (i := 238) rfl)) rfl
theorem wd341 : Cond.fieldLink "FuseBox" 124 "FuseBox$Reader" "size" "I" ∈ WL := mem_WL (t1_in (List.mem_of_getElem? (i := 35) rfl)) rfl
theorem wd342 : Cond.methodLink "FuseBox" 126 yX6_append ∈ WL := mem_WL (t2_in (List.mem_of_getElem? (i := 91) rfl)) rfl
theorem wd343 : Cond.instanceMethod yX6_append ∈ WL := mem_WL (t2_in (List.mem_of_getElem? (i := 92) rfl)) rfl
theorem wd344 : Cond.selects "FuseBox$Reader" yX6_append yX6_append ∈ WL := mem_WL (t2_in (List.mem_of_getElem? (i := 93) rfl)) rfl
theorem wd345 : Cond.code yX6_append cX6_append 2 (some .int) ∈ WL := mem_WL (t2_in (List.mem_of_getElem? (i := 94) rfl)) rfl
theorem wd346 : Cond.constant "FuseBox" 125 (-1000003) ∈ WL := mem_WL (t2_in (List.mem_of_getElem? (i := 90) rfl)) rfl
theorem wd347 : Cond.fieldLink "FuseBox" 205 "FuseBox" "oldestAct" "I" ∈ WL := mem_WL (t2_in (List.mem_of_getElem? (i := 3) rfl)) rfl
theorem wd348 : Cond.fieldLink "FuseBox" 202 "FuseBox" "actsKept" "I" ∈ WL := mem_WL (t2_in (List.mem_of_getElem? (i := 4) rfl)) rfl
theorem wd349 : Cond.fieldLink "FuseBox" 69 "FuseBox" "trial" "LFuseBox$House;" ∈ WL := mem_WL (t2_in (List.mem_of_getElem? (i := 0) rfl)) rfl
theorem wd350 : Cond.methodLink "FuseBox" 129 yX6_readInto ∈ WL := mem_WL (t2_in (List.mem_of_getElem? (i := 99) rfl)) rfl
theorem wd351 : Cond.instanceMethod yX6_readInto ∈ WL := mem_WL (t2_in (List.mem_of_getElem? (i := 100) rfl)) rfl
theorem wd352 : Cond.selects "FuseBox$Reader" yX6_readInto yX6_readInto ∈ WL := mem_WL (t2_in (List.mem_of_getElem? (i := 101) rfl)) rfl
theorem wd353 : Cond.code yX6_readInto cX6_readInto 3 (some .int) ∈ WL := mem_WL (t2_in (List.mem_of_getElem? (i := 102) rfl)) rfl
theorem wd354 : Cond.fieldLink "FuseBox" 65 "FuseBox" "now" "LFuseBox$House;" ∈ WL := mem_WL (t1_in (List.mem_of_getElem? (i := 239) rfl)) rfl
theorem wd355 : Cond.methodLink "FuseBox" 140 yX3_become ∈ WL := mem_WL (t2_in (List.mem_of_getElem? (i := 155) rfl)) rfl
theorem wd356 : Cond.instanceMethod yX3_become ∈ WL := mem_WL (t2_in (List.mem_of_getElem? (i := 156) rfl)) rfl
theorem wd357 : Cond.selects "FuseBox$House" yX3_become yX3_become ∈ WL := mem_WL (t2_in (List.mem_of_getElem? (i := 157) rfl)) rfl
theorem wd358 : Cond.code yX3_become cX3_become 2 none ∈ WL := mem_WL (t2_in (List.mem_of_getElem? (i := 158) rfl)) rfl
theorem wd359 : Cond.methodLink "FuseBox" 144 yX11_forgetActs ∈ WL := mem_WL (t2_in (List.mem_of_getElem? (i := 160) rfl)) rfl
theorem wd360 : Cond.instanceMethod yX11_forgetActs ∈ WL := mem_WL (t2_in (List.mem_of_getElem? (i := 162) rfl)) rfl
theorem wd361 : Cond.selects "FuseBox" yX11_forgetActs yX11_forgetActs ∈ WL := mem_WL (t0_in (List.mem_of_getElem? (i := 11) rfl)) rfl
theorem wd362 : Cond.code yX11_forgetActs cX11_forgetActs 1 none ∈ WL := mem_WL (t2_in (List.mem_of_getElem? (i := 163) rfl)) rfl
theorem wd363 : Cond.fieldLink "FuseBox" 147 "FuseBox$House" "lines" "I" ∈ WL := mem_WL (t1_in (List.mem_of_getElem? (i := 154) rfl)) rfl
theorem wd364 : Cond.fieldLink "FuseBox" 133 "FuseBox" "latestFault" "I" ∈ WL := mem_WL (t2_in (List.mem_of_getElem? (i := 7) rfl)) rfl
theorem wd365 : Cond.constant "FuseBox" 136 (-1000100) ∈ WL := mem_WL (t2_in (List.mem_of_getElem? (i := 154) rfl)) rfl
theorem wd366 : Cond.fieldLink "FuseBox" 137 "FuseBox$Reader" "start" "I" ∈ WL := mem_WL (t1_in (List.mem_of_getElem? (i := 39) rfl)) rfl
theorem wd367 : Cond.fieldLink "FuseBox" 28 "FuseBox" "acts" "[LFuseBox$House;" ∈ WL := mem_WL (t2_in (List.mem_of_getElem? (i := 2) rfl)) rfl
theorem wd368 : Cond.methodLink "FuseBox" 150 yX11_noHouse ∈ WL := mem_WL (t2_in (List.mem_of_getElem? (i := 172) rfl)) rfl
theorem wd369 : Cond.instanceMethod yX11_noHouse ∈ WL := mem_WL (t2_in (List.mem_of_getElem? (i := 174) rfl)) rfl
theorem wd370 : Cond.selects "FuseBox" yX11_noHouse yX11_noHouse ∈ WL := mem_WL (t0_in (List.mem_of_getElem? (i := 12) rfl)) rfl
theorem wd371 : Cond.code yX11_noHouse cX11_noHouse 1 (some .boolean) ∈ WL := mem_WL (t2_in (List.mem_of_getElem? (i := 175) rfl)) rfl
theorem wd372 : Cond.fieldLink "FuseBox" 154 "FuseBox$House" "minute" "I" ∈ WL := mem_WL (t1_in (List.mem_of_getElem? (i := 164) rfl)) rfl
theorem wd373 : Cond.methodLink "FuseBox" 163 yX3_liveLines ∈ WL := mem_WL (t3_in (List.mem_of_getElem? (i := 26) rfl)) rfl
theorem wd374 : Cond.instanceMethod yX3_liveLines ∈ WL := mem_WL (t3_in (List.mem_of_getElem? (i := 27) rfl)) rfl
theorem wd375 : Cond.selects "FuseBox$House" yX3_liveLines yX3_liveLines ∈ WL := mem_WL (t3_in (List.mem_of_getElem? (i := 28) rfl)) rfl
theorem wd376 : Cond.code yX3_liveLines cX3_liveLines 3 (some .int) ∈ WL := mem_WL (t3_in (List.mem_of_getElem? (i := 29) rfl)) rfl
theorem wd377 : Cond.methodLink "FuseBox" 157 yX11_keepAct ∈ WL := mem_WL (t2_in (List.mem_of_getElem? (i := 177) rfl)) rfl
theorem wd378 : Cond.instanceMethod yX11_keepAct ∈ WL := mem_WL (t2_in (List.mem_of_getElem? (i := 179) rfl)) rfl
theorem wd379 : Cond.selects "FuseBox" yX11_keepAct yX11_keepAct ∈ WL := mem_WL (t0_in (List.mem_of_getElem? (i := 13) rfl)) rfl
theorem wd380 : Cond.code yX11_keepAct cX11_keepAct 1 none ∈ WL := mem_WL (t2_in (List.mem_of_getElem? (i := 180) rfl)) rfl
theorem wd381 : Cond.methodLink "FuseBox" 160 yX3_passMinute ∈ WL := mem_WL (t2_in (List.mem_of_getElem? (i := 181) rfl)) rfl
theorem wd382 : Cond.constant "FuseBox" 153 (-1000002) ∈ WL := mem_WL (t2_in (List.mem_of_getElem? (i := 176) rfl)) rfl
theorem wd383 : Cond.fieldLink "FuseBox" 229 "FuseBox$House" "things" "I" ∈ WL := mem_WL (t1_in (List.mem_of_getElem? (i := 158) rfl)) rfl
theorem wd384 : Cond.methodLink "FuseBox" 167 yX11_noThing ∈ WL := mem_WL (t3_in (List.mem_of_getElem? (i := 34) rfl)) rfl
theorem wd385 : Cond.instanceMethod yX11_noThing ∈ WL := mem_WL (t3_in (List.mem_of_getElem? (i := 36) rfl)) rfl
theorem wd386 : Cond.selects "FuseBox" yX11_noThing yX11_noThing ∈ WL := mem_WL (t0_in (List.mem_of_getElem? (i := 15) rfl)) rfl
theorem wd387 : Cond.code yX11_noThing cX11_noThing 2 (some .boolean) ∈ WL := mem_WL (t3_in (List.mem_of_getElem? (i := 37) rfl)) rfl
theorem wd388 : Cond.methodLink "FuseBox" 170 yX3_isOn ∈ WL := mem_WL (t3_in (List.mem_of_getElem? (i := 38) rfl)) rfl
theorem wd389 : Cond.methodLink "FuseBox" 173 yX3_toggle ∈ WL := mem_WL (t3_in (List.mem_of_getElem? (i := 39) rfl)) rfl
theorem wd390 : Cond.methodLink "FuseBox" 177 yX3_runningThings ∈ WL := mem_WL (t3_in (List.mem_of_getElem? (i := 43) rfl)) rfl
theorem wd391 : Cond.instanceMethod yX3_runningThings ∈ WL := mem_WL (t3_in (List.mem_of_getElem? (i := 44) rfl)) rfl
theorem wd392 : Cond.selects "FuseBox$House" yX3_runningThings yX3_runningThings ∈ WL := mem_WL (t3_in (List.mem_of_getElem? (i := 45) rfl)) rfl
theorem wd393 : Cond.code yX3_runningThings cX3_runningThings 3 (some .int) ∈ WL := mem_WL (t3_in (List.mem_of_getElem? (i := 46) rfl)) rfl
theorem wd394 : Cond.methodLink "FuseBox" 180 yX11_noLine ∈ WL := mem_WL (t3_in (List.mem_of_getElem? (i := 51) rfl)) rfl
theorem wd395 : Cond.instanceMethod yX11_noLine ∈ WL := mem_WL (t3_in (List.mem_of_getElem? (i := 53) rfl)) rfl
theorem wd396 : Cond.selects "FuseBox" yX11_noLine yX11_noLine ∈ WL := mem_WL (t0_in (List.mem_of_getElem? (i := 16) rfl)) rfl
theorem wd397 : Cond.code yX11_noLine cX11_noLine 2 (some .boolean) ∈ WL := mem_WL (t3_in (List.mem_of_getElem? (i := 54) rfl)) rfl
theorem wd398 : Cond.fieldLink "FuseBox" 183 "FuseBox$House" "plugged" "[I" ∈ WL := mem_WL (t1_in (List.mem_of_getElem? (i := 182) rfl)) rfl
theorem wd399 : Cond.methodLink "FuseBox" 186 yX3_isDead ∈ WL := mem_WL (t3_in (List.mem_of_getElem? (i := 59) rfl)) rfl
theorem wd400 : Cond.methodLink "FuseBox" 189 yX3_mendLine ∈ WL := mem_WL (t3_in (List.mem_of_getElem? (i := 60) rfl)) rfl
theorem wd401 : Cond.methodLink "FuseBox" 192 yX3_deadLines ∈ WL := mem_WL (t3_in (List.mem_of_getElem? (i := 64) rfl)) rfl
theorem wd402 : Cond.instanceMethod yX3_deadLines ∈ WL := mem_WL (t3_in (List.mem_of_getElem? (i := 65) rfl)) rfl
theorem wd403 : Cond.selects "FuseBox$House" yX3_deadLines yX3_deadLines ∈ WL := mem_WL (t3_in (List.mem_of_getElem? (i := 66) rfl)) rfl
theorem wd404 : Cond.code yX3_deadLines cX3_deadLines 3 (some .int) ∈ WL := mem_WL (t3_in (List.mem_of_getElem? (i := 67) rfl)) rfl
theorem wd405 : Cond.fieldLink "FuseBox" 195 "FuseBox$House" "mainIn" "Z" ∈ WL := mem_WL (t1_in (List.mem_of_getElem? (i := 168) rfl)) rfl
theorem wd406 : Cond.fieldLink "FuseBox" 199 "FuseBox$House" "rate" "[I" ∈ WL := mem_WL (t1_in (List.mem_of_getElem? (i := 173) rfl)) rfl
theorem wd407 : Cond.fieldLink "FuseBox" 208 "FuseBox$House" "heat" "[I" ∈ WL := mem_WL (t1_in (List.mem_of_getElem? (i := 176) rfl)) rfl
theorem wd408 : Cond.fieldLink "FuseBox" 211 "FuseBox$House" "dead" "[I" ∈ WL := mem_WL (t1_in (List.mem_of_getElem? (i := 178) rfl)) rfl
theorem wd409 : Cond.methodLink "FuseBox" 214 yX3_isLive ∈ WL := mem_WL (t3_in (List.mem_of_getElem? (i := 84) rfl)) rfl
theorem wd410 : Cond.methodLink "FuseBox" 217 yX3_flowOf ∈ WL := mem_WL (t3_in (List.mem_of_getElem? (i := 85) rfl)) rfl
theorem wd411 : Cond.instanceMethod yX3_flowOf ∈ WL := mem_WL (t3_in (List.mem_of_getElem? (i := 86) rfl)) rfl
theorem wd412 : Cond.selects "FuseBox$House" yX3_flowOf yX3_flowOf ∈ WL := mem_WL (t3_in (List.mem_of_getElem? (i := 87) rfl)) rfl
theorem wd413 : Cond.code yX3_flowOf cX3_flowOf 2 (some .int) ∈ WL := mem_WL (t3_in (List.mem_of_getElem? (i := 88) rfl)) rfl
theorem wd414 : Cond.methodLink "FuseBox" 220 yX3_pluggedInto ∈ WL := mem_WL (t3_in (List.mem_of_getElem? (i := 89) rfl)) rfl
theorem wd415 : Cond.instanceMethod yX3_pluggedInto ∈ WL := mem_WL (t3_in (List.mem_of_getElem? (i := 90) rfl)) rfl
theorem wd416 : Cond.selects "FuseBox$House" yX3_pluggedInto yX3_pluggedInto ∈ WL := mem_WL (t3_in (List.mem_of_getElem? (i := 91) rfl)) rfl
theorem wd417 : Cond.code yX3_pluggedInto cX3_pluggedInto 4 (some .int) ∈ WL := mem_WL (t3_in (List.mem_of_getElem? (i := 92) rfl)) rfl
theorem wd418 : Cond.fieldLink "FuseBox" 223 "FuseBox$House" "load" "[I" ∈ WL := mem_WL (t1_in (List.mem_of_getElem? (i := 185) rfl)) rfl
theorem wd419 : Cond.methodLink "FuseBox" 226 yX3_runs ∈ WL := mem_WL (t3_in (List.mem_of_getElem? (i := 97) rfl)) rfl
theorem wd420 : Cond.methodLink "FuseBox" 232 yX11_foretell ∈ WL := mem_WL (t3_in (List.mem_of_getElem? (i := 102) rfl)) rfl
theorem wd421 : Cond.instanceMethod yX11_foretell ∈ WL := mem_WL (t3_in (List.mem_of_getElem? (i := 104) rfl)) rfl
theorem wd422 : Cond.selects "FuseBox" yX11_foretell yX11_foretell ∈ WL := mem_WL (t0_in (List.mem_of_getElem? (i := 17) rfl)) rfl
theorem wd423 : Cond.code yX11_foretell cX11_foretell 3 none ∈ WL := mem_WL (t3_in (List.mem_of_getElem? (i := 105) rfl)) rfl
theorem wd424 : Cond.fieldLink "FuseBox" 235 "FuseBox$House" "used" "I" ∈ WL := mem_WL (t1_in (List.mem_of_getElem? (i := 166) rfl)) rfl
theorem wd425 : Cond.constant "FuseBox" 238 (-1000000) ∈ WL := mem_WL (t3_in (List.mem_of_getElem? (i := 114) rfl)) rfl
theorem wd426 : Cond.fieldLink "FuseBox" 239 "FuseBox$House" "on" "I" ∈ WL := mem_WL (t1_in (List.mem_of_getElem? (i := 187) rfl)) rfl
theorem wd427 : Cond.methodLink "FuseBox" 242 yJ6_bitCount_0f7a4 ∈ WL := mem_WL (t3_in (List.mem_of_getElem? (i := 123) rfl)) rfl
theorem wd428 : Cond.methodLink "FuseBox" 247 yX11_runsWithout ∈ WL := mem_WL (t3_in (List.mem_of_getElem? (i := 129) rfl)) rfl
theorem wd429 : Cond.instanceMethod yX11_runsWithout ∈ WL := mem_WL (t3_in (List.mem_of_getElem? (i := 131) rfl)) rfl
theorem wd430 : Cond.selects "FuseBox" yX11_runsWithout yX11_runsWithout ∈ WL := mem_WL (t0_in (List.mem_of_getElem? (i := 18) rfl)) rfl
theorem wd431 : Cond.code yX11_runsWithout cX11_runsWithout 5 (some .boolean) ∈ WL := mem_WL (t3_in (List.mem_of_getElem? (i := 132) rfl)) rfl
theorem wd432 : Cond.fieldLink "FuseBox" 34 "FuseBox" "plugging" "LFuseBox$Plugging;" ∈ WL := mem_WL (t2_in (List.mem_of_getElem? (i := 5) rfl)) rfl
theorem wd433 : Cond.methodLink "FuseBox" 251 yX4_search ∈ WL := mem_WL (t3_in (List.mem_of_getElem? (i := 137) rfl)) rfl
theorem wd434 : Cond.instanceMethod yX4_search ∈ WL := mem_WL (t3_in (List.mem_of_getElem? (i := 138) rfl)) rfl
theorem wd435 : Cond.selects "FuseBox$Plugging" yX4_search yX4_search ∈ WL := mem_WL (t3_in (List.mem_of_getElem? (i := 139) rfl)) rfl
theorem wd436 : Cond.code yX4_search cX4_search 4 none ∈ WL := mem_WL (t3_in (List.mem_of_getElem? (i := 140) rfl)) rfl
theorem wd437 : Cond.fieldLink "FuseBox" 258 "FuseBox$Plugging" "best" "[I" ∈ WL := mem_WL (t1_in (List.mem_of_getElem? (i := 70) rfl)) rfl
theorem wd438 : Cond.fieldLink "FuseBox" 255 "FuseBox$Plugging" "most" "I" ∈ WL := mem_WL (t1_in (List.mem_of_getElem? (i := 72) rfl)) rfl
theorem wd439 : Cond.methodLink "FuseBox" 261 yX3_staysLive ∈ WL := mem_WL (t3_in (List.mem_of_getElem? (i := 180) rfl)) rfl
theorem wd440 : Cond.instanceMethod yX3_staysLive ∈ WL := mem_WL (t3_in (List.mem_of_getElem? (i := 181) rfl)) rfl
theorem wd441 : Cond.selects "FuseBox$House" yX3_staysLive yX3_staysLive ∈ WL := mem_WL (t3_in (List.mem_of_getElem? (i := 182) rfl)) rfl
theorem wd442 : Cond.code yX3_staysLive cX3_staysLive 4 (some .boolean) ∈ WL := mem_WL (t3_in (List.mem_of_getElem? (i := 183) rfl)) rfl
theorem wd443 : Cond.methodLink "FuseBox" 264 yX3_reckonFlows ∈ WL := mem_WL (t3_in (List.mem_of_getElem? (i := 193) rfl)) rfl
theorem wd444 : Cond.methodLink "FuseBox" 303 yX3_takeKind ∈ WL := mem_WL (t3_in (List.mem_of_getElem? (i := 202) rfl)) rfl
theorem wd445 : Cond.instanceMethod yX3_takeKind ∈ WL := mem_WL (t3_in (List.mem_of_getElem? (i := 203) rfl)) rfl
theorem wd446 : Cond.selects "FuseBox$House" yX3_takeKind yX3_takeKind ∈ WL := mem_WL (t3_in (List.mem_of_getElem? (i := 204) rfl)) rfl
theorem wd447 : Cond.code yX3_takeKind cX3_takeKind 3 none ∈ WL := mem_WL (t3_in (List.mem_of_getElem? (i := 205) rfl)) rfl
theorem wd448 : Cond.methodLink "FuseBox" 306 yX3_heatsAs ∈ WL := mem_WL (t3_in (List.mem_of_getElem? (i := 206) rfl)) rfl
theorem wd449 : Cond.instanceMethod yX3_heatsAs ∈ WL := mem_WL (t3_in (List.mem_of_getElem? (i := 207) rfl)) rfl
theorem wd450 : Cond.selects "FuseBox$House" yX3_heatsAs yX3_heatsAs ∈ WL := mem_WL (t3_in (List.mem_of_getElem? (i := 208) rfl)) rfl
theorem wd451 : Cond.code yX3_heatsAs cX3_heatsAs 6 (some .boolean) ∈ WL := mem_WL (t3_in (List.mem_of_getElem? (i := 209) rfl)) rfl
theorem wd452 : Cond.fieldLink "FuseBox" 310 "FuseBox$House" "main" "I" ∈ WL := mem_WL (t1_in (List.mem_of_getElem? (i := 162) rfl)) rfl
theorem wd453 : Cond.methodLink "FuseBox" 267 yX11_sortsThatFit ∈ WL := mem_WL (t3_in (List.mem_of_getElem? (i := 198) rfl)) rfl
theorem wd454 : Cond.instanceMethod yX11_sortsThatFit ∈ WL := mem_WL (t3_in (List.mem_of_getElem? (i := 200) rfl)) rfl
theorem wd455 : Cond.selects "FuseBox" yX11_sortsThatFit yX11_sortsThatFit ∈ WL := mem_WL (t0_in (List.mem_of_getElem? (i := 25) rfl)) rfl
theorem wd456 : Cond.code yX11_sortsThatFit cX11_sortsThatFit 7 (some .int) ∈ WL := mem_WL (t3_in (List.mem_of_getElem? (i := 201) rfl)) rfl
theorem wd457 : Cond.methodLink "FuseBox" 271 yX11_ratesThatFit ∈ WL := mem_WL (t3_in (List.mem_of_getElem? (i := 210) rfl)) rfl
theorem wd458 : Cond.instanceMethod yX11_ratesThatFit ∈ WL := mem_WL (t3_in (List.mem_of_getElem? (i := 212) rfl)) rfl
theorem wd459 : Cond.selects "FuseBox" yX11_ratesThatFit yX11_ratesThatFit ∈ WL := mem_WL (t0_in (List.mem_of_getElem? (i := 26) rfl)) rfl
theorem wd460 : Cond.code yX11_ratesThatFit cX11_ratesThatFit 7 (some .int) ∈ WL := mem_WL (t3_in (List.mem_of_getElem? (i := 213) rfl)) rfl
theorem wd461 : Cond.methodLink "FuseBox" 274 yX11_heatsThatFit ∈ WL := mem_WL (t3_in (List.mem_of_getElem? (i := 214) rfl)) rfl
theorem wd462 : Cond.instanceMethod yX11_heatsThatFit ∈ WL := mem_WL (t3_in (List.mem_of_getElem? (i := 216) rfl)) rfl
theorem wd463 : Cond.selects "FuseBox" yX11_heatsThatFit yX11_heatsThatFit ∈ WL := mem_WL (t0_in (List.mem_of_getElem? (i := 27) rfl)) rfl
theorem wd464 : Cond.code yX11_heatsThatFit cX11_heatsThatFit 7 (some .int) ∈ WL := mem_WL (t3_in (List.mem_of_getElem? (i := 217) rfl)) rfl
theorem wd465 : Cond.methodLink "FuseBox" 277 yX11_mainsThatFit ∈ WL := mem_WL (t3_in (List.mem_of_getElem? (i := 218) rfl)) rfl
theorem wd466 : Cond.instanceMethod yX11_mainsThatFit ∈ WL := mem_WL (t3_in (List.mem_of_getElem? (i := 220) rfl)) rfl
theorem wd467 : Cond.selects "FuseBox" yX11_mainsThatFit yX11_mainsThatFit ∈ WL := mem_WL (t0_in (List.mem_of_getElem? (i := 28) rfl)) rfl
theorem wd468 : Cond.code yX11_mainsThatFit cX11_mainsThatFit 9 (some .int) ∈ WL := mem_WL (t3_in (List.mem_of_getElem? (i := 221) rfl)) rfl
theorem wd469 : Cond.methodLink "FuseBox" 288 yX11_commonDivisor ∈ WL := mem_WL (t3_in (List.mem_of_getElem? (i := 234) rfl)) rfl
theorem wd470 : Cond.static yX11_commonDivisor ∈ WL := mem_WL (t3_in (List.mem_of_getElem? (i := 235) rfl)) rfl
theorem wd471 : Cond.code yX11_commonDivisor cX11_commonDivisor 4 (some .int) ∈ WL := mem_WL (t3_in (List.mem_of_getElem? (i := 236) rfl)) rfl
theorem wd472 : Cond.methodLink "FuseBox" 285 yX11_isLiveWithout ∈ WL := mem_WL (t3_in (List.mem_of_getElem? (i := 230) rfl)) rfl
theorem wd473 : Cond.instanceMethod yX11_isLiveWithout ∈ WL := mem_WL (t3_in (List.mem_of_getElem? (i := 232) rfl)) rfl
theorem wd474 : Cond.selects "FuseBox" yX11_isLiveWithout yX11_isLiveWithout ∈ WL := mem_WL (t0_in (List.mem_of_getElem? (i := 30) rfl)) rfl
theorem wd475 : Cond.code yX11_isLiveWithout cX11_isLiveWithout 5 (some .boolean) ∈ WL := mem_WL (t3_in (List.mem_of_getElem? (i := 233) rfl)) rfl
theorem wd476 : Cond.methodLink "FuseBox" 281 yX11_weightOf ∈ WL := mem_WL (t3_in (List.mem_of_getElem? (i := 226) rfl)) rfl
theorem wd477 : Cond.instanceMethod yX11_weightOf ∈ WL := mem_WL (t3_in (List.mem_of_getElem? (i := 228) rfl)) rfl
theorem wd478 : Cond.selects "FuseBox" yX11_weightOf yX11_weightOf ∈ WL := mem_WL (t0_in (List.mem_of_getElem? (i := 29) rfl)) rfl
theorem wd479 : Cond.code yX11_weightOf cX11_weightOf 5 (some .int) ∈ WL := mem_WL (t3_in (List.mem_of_getElem? (i := 229) rfl)) rfl
theorem wd480 : Cond.constant "FuseBox" 291 (999999) ∈ WL := mem_WL (t4_in (List.mem_of_getElem? (i := 1) rfl)) rfl
theorem wd481 : Cond.constantLong "FuseBox" 292 (16807) ∈ WL := mem_WL (t4_in (List.mem_of_getElem? (i := 2) rfl)) rfl
theorem wd482 : Cond.constantLong "FuseBox" 294 (2147483647) ∈ WL := mem_WL (t4_in (List.mem_of_getElem? (i := 3) rfl)) rfl
theorem wd483 : Cond.methodLink "FuseBox" 296 yX3_draw ∈ WL := mem_WL (t4_in (List.mem_of_getElem? (i := 4) rfl)) rfl
theorem wd484 : Cond.instanceMethod yX3_draw ∈ WL := mem_WL (t4_in (List.mem_of_getElem? (i := 5) rfl)) rfl
theorem wd485 : Cond.selects "FuseBox$House" yX3_draw yX3_draw ∈ WL := mem_WL (t4_in (List.mem_of_getElem? (i := 6) rfl)) rfl
theorem wd486 : Cond.code yX3_draw cX3_draw 3 none ∈ WL := mem_WL (t4_in (List.mem_of_getElem? (i := 7) rfl)) rfl
theorem wd487 : Cond.methodLink "FuseBox" 300 yX11_noImage ∈ WL := mem_WL (t4_in (List.mem_of_getElem? (i := 20) rfl)) rfl
theorem wd488 : Cond.static yX11_noImage ∈ WL := mem_WL (t4_in (List.mem_of_getElem? (i := 21) rfl)) rfl
theorem wd489 : Cond.code yX11_noImage cX11_noImage 1 (some .boolean) ∈ WL := mem_WL (t4_in (List.mem_of_getElem? (i := 22) rfl)) rfl
theorem wd490 : Cond.fieldLink "FuseBox" 24 "FuseBox" "images" "[LFuseBox$House;" ∈ WL := mem_WL (t2_in (List.mem_of_getElem? (i := 1) rfl)) rfl
theorem wd491 : Cond.fieldLink "FuseBox" 313 "FuseBox$House" "kind" "[I" ∈ WL := mem_WL (t1_in (List.mem_of_getElem? (i := 170) rfl)) rfl
theorem wd492 : Cond.classLink "FuseBox" 47 "FuseBox$Wire" ∈ WL := mem_WL (t1_in (List.mem_of_getElem? (i := 107) rfl)) rfl
theorem wd493 : Cond.classLink "FuseBox" 50 "FuseBox$Slow" ∈ WL := mem_WL (t1_in (List.mem_of_getElem? (i := 117) rfl)) rfl
theorem wd494 : Cond.classLink "FuseBox" 53 "FuseBox$Quick" ∈ WL := mem_WL (t1_in (List.mem_of_getElem? (i := 124) rfl)) rfl
theorem wd495 : Cond.classLink "FuseBox" 56 "FuseBox$Breaker" ∈ WL := mem_WL (t1_in (List.mem_of_getElem? (i := 131) rfl)) rfl
theorem wd496 : Cond.classLink "FuseBox" 59 "FuseBox$Coil" ∈ WL := mem_WL (t1_in (List.mem_of_getElem? (i := 138) rfl)) rfl
theorem wd497 : Cond.methodLink "FuseBox" 316 yX3_fuseOf ∈ WL := mem_WL (t4_in (List.mem_of_getElem? (i := 35) rfl)) rfl
theorem wd498 : Cond.methodLink "FuseBox" 320 yX11_isA ∈ WL := mem_WL (t4_in (List.mem_of_getElem? (i := 36) rfl)) rfl
theorem wd499 : Cond.static yX11_isA ∈ WL := mem_WL (t4_in (List.mem_of_getElem? (i := 37) rfl)) rfl
theorem wd500 : Cond.code yX11_isA cX11_isA 2 (some .boolean) ∈ WL := mem_WL (t4_in (List.mem_of_getElem? (i := 38) rfl)) rfl
theorem wd501 : Cond.fieldLink "FuseBox" 41 "FuseBox" "trace" "LFuseBox$Trace;" ∈ WL := mem_WL (t2_in (List.mem_of_getElem? (i := 6) rfl)) rfl
theorem wd502 : Cond.methodLink "FuseBox" 324 yX9_empty ∈ WL := mem_WL (t4_in (List.mem_of_getElem? (i := 43) rfl)) rfl
theorem wd503 : Cond.instanceMethod yX9_empty ∈ WL := mem_WL (t4_in (List.mem_of_getElem? (i := 44) rfl)) rfl
theorem wd504 : Cond.selects "FuseBox$Trace" yX9_empty yX9_empty ∈ WL := mem_WL (t4_in (List.mem_of_getElem? (i := 45) rfl)) rfl
theorem wd505 : Cond.code yX9_empty cX9_empty 1 none ∈ WL := mem_WL (t4_in (List.mem_of_getElem? (i := 46) rfl)) rfl
theorem wd506 : Cond.methodLink "FuseBox" 331 yX2_markOf ∈ WL := mem_WL (t4_in (List.mem_of_getElem? (i := 93) rfl)) rfl
theorem wd507 : Cond.selects "FuseBox$Wire" yX2_markOf yX10_markOf ∈ WL := mem_WL (t6_in (List.mem_of_getElem? (i := 65) rfl)) rfl
theorem wd508 : Cond.selects "FuseBox$Slow" yX2_markOf yX8_markOf ∈ WL := mem_WL (t6_in (List.mem_of_getElem? (i := 64) rfl)) rfl
theorem wd509 : Cond.selects "FuseBox$Quick" yX2_markOf yX5_markOf ∈ WL := mem_WL (t6_in (List.mem_of_getElem? (i := 63) rfl)) rfl
theorem wd510 : Cond.selects "FuseBox$Breaker" yX2_markOf yX0_markOf ∈ WL := mem_WL (t6_in (List.mem_of_getElem? (i := 59) rfl)) rfl
theorem wd511 : Cond.instanceMethod yX0_markOf ∈ WL := mem_WL (t4_in (List.mem_of_getElem? (i := 94) rfl)) rfl
theorem wd512 : Cond.code yX0_markOf cX0_markOf 5 (some .int) ∈ WL := mem_WL (t4_in (List.mem_of_getElem? (i := 95) rfl)) rfl
theorem wd513 : Cond.selects "FuseBox$Coil" yX2_markOf yX0_markOf ∈ WL := mem_WL (t6_in (List.mem_of_getElem? (i := 62) rfl)) rfl
theorem wd514 : Cond.methodLink "FuseBox" 327 yX2_sizeOf ∈ WL := mem_WL (t4_in (List.mem_of_getElem? (i := 47) rfl)) rfl
theorem wd515 : Cond.selects "FuseBox$Wire" yX2_sizeOf yX10_sizeOf ∈ WL := mem_WL (t4_in (List.mem_of_getElem? (i := 91) rfl)) rfl
theorem wd516 : Cond.selects "FuseBox$Slow" yX2_sizeOf yX8_sizeOf ∈ WL := mem_WL (t4_in (List.mem_of_getElem? (i := 87) rfl)) rfl
theorem wd517 : Cond.instanceMethod yX8_sizeOf ∈ WL := mem_WL (t4_in (List.mem_of_getElem? (i := 88) rfl)) rfl
theorem wd518 : Cond.code yX8_sizeOf cX8_sizeOf 4 (some .int) ∈ WL := mem_WL (t4_in (List.mem_of_getElem? (i := 89) rfl)) rfl
theorem wd519 : Cond.selects "FuseBox$Quick" yX2_sizeOf yX10_sizeOf ∈ WL := mem_WL (t4_in (List.mem_of_getElem? (i := 63) rfl)) rfl
theorem wd520 : Cond.selects "FuseBox$Breaker" yX2_sizeOf yX0_sizeOf ∈ WL := mem_WL (t4_in (List.mem_of_getElem? (i := 50) rfl)) rfl
theorem wd521 : Cond.selects "FuseBox$Coil" yX2_sizeOf yX1_sizeOf ∈ WL := mem_WL (t4_in (List.mem_of_getElem? (i := 58) rfl)) rfl
theorem wd522 : Cond.fieldLink "FuseBox" 334 "FuseBox$Trace" "size" "I" ∈ WL := mem_WL (t1_in (List.mem_of_getElem? (i := 99) rfl)) rfl
theorem wd523 : Cond.fieldLink "FuseBox" 335 "FuseBox$Trace" "bodies" "[I" ∈ WL := mem_WL (t1_in (List.mem_of_getElem? (i := 97) rfl)) rfl
theorem wd524 : Cond.methodLink "FuseBox" 338 yX11_rowsThere ∈ WL := mem_WL (t4_in (List.mem_of_getElem? (i := 106) rfl)) rfl
theorem wd525 : Cond.instanceMethod yX11_rowsThere ∈ WL := mem_WL (t4_in (List.mem_of_getElem? (i := 108) rfl)) rfl
theorem wd526 : Cond.selects "FuseBox" yX11_rowsThere yX11_rowsThere ∈ WL := mem_WL (t0_in (List.mem_of_getElem? (i := 32) rfl)) rfl
theorem wd527 : Cond.code yX11_rowsThere cX11_rowsThere 3 (some .int) ∈ WL := mem_WL (t4_in (List.mem_of_getElem? (i := 109) rfl)) rfl
theorem wd528 : Cond.fieldLink "FuseBoxModel" 53 "FuseBoxModel" "found" "I" ∈ WL := mem_WL (t4_in (List.mem_of_getElem? (i := 128) rfl)) rfl
theorem wd529 : Cond.constant "FuseBoxModel" 57 (-1000010) ∈ WL := mem_WL (t4_in (List.mem_of_getElem? (i := 205) rfl)) rfl
theorem wd530 : Cond.constantLong "FuseBoxModel" 58 (7) ∈ WL := mem_WL (t4_in (List.mem_of_getElem? (i := 195) rfl)) rfl
theorem wd531 : Cond.methodLink "FuseBoxModel" 60 yX12_in ∈ WL := mem_WL (t4_in (List.mem_of_getElem? (i := 196) rfl)) rfl
theorem wd532 : Cond.static yX12_in ∈ WL := mem_WL (t4_in (List.mem_of_getElem? (i := 197) rfl)) rfl
theorem wd533 : Cond.initialized "FuseBoxModel" ∈ WL := mem_WL (t1_in (List.mem_of_getElem? (i := 13) rfl)) rfl
theorem wd534 : Cond.code yX12_in cX12_in 6 (some .boolean) ∈ WL := mem_WL (t4_in (List.mem_of_getElem? (i := 198) rfl)) rfl
theorem wd535 : Cond.constant "FuseBoxModel" 66 (-1000001) ∈ WL := mem_WL (t4_in (List.mem_of_getElem? (i := 200) rfl)) rfl
theorem wd536 : Cond.constantLong "FuseBoxModel" 64 (2) ∈ WL := mem_WL (t4_in (List.mem_of_getElem? (i := 199) rfl)) rfl
theorem wd537 : Cond.fieldLink "FuseBoxModel" 19 "FuseBoxModel" "lane" "[I" ∈ WL := mem_WL (t4_in (List.mem_of_getElem? (i := 124) rfl)) rfl
theorem wd538 : Cond.fieldLink "FuseBoxModel" 22 "FuseBoxModel" "size" "[I" ∈ WL := mem_WL (t4_in (List.mem_of_getElem? (i := 125) rfl)) rfl
theorem wd539 : Cond.methodLink "FuseBoxModel" 71 yX12_fine ∈ WL := mem_WL (t4_in (List.mem_of_getElem? (i := 206) rfl)) rfl
theorem wd540 : Cond.instanceMethod yX12_fine ∈ WL := mem_WL (t4_in (List.mem_of_getElem? (i := 208) rfl)) rfl
theorem wd541 : Cond.selects "FuseBoxModel" yX12_fine yX12_fine ∈ WL := mem_WL (t0_in (List.mem_of_getElem? (i := 34) rfl)) rfl
theorem wd542 : Cond.code yX12_fine cX12_fine 2 (some .int) ∈ WL := mem_WL (t4_in (List.mem_of_getElem? (i := 209) rfl)) rfl
theorem wd543 : Cond.fieldLink "FuseBoxModel" 25 "FuseBoxModel" "items" "[I" ∈ WL := mem_WL (t4_in (List.mem_of_getElem? (i := 126) rfl)) rfl
theorem wd544 : Cond.methodLink "FuseBoxModel" 67 yX12_finds ∈ WL := mem_WL (t4_in (List.mem_of_getElem? (i := 201) rfl)) rfl
theorem wd545 : Cond.instanceMethod yX12_finds ∈ WL := mem_WL (t4_in (List.mem_of_getElem? (i := 203) rfl)) rfl
theorem wd546 : Cond.selects "FuseBoxModel" yX12_finds yX12_finds ∈ WL := mem_WL (t0_in (List.mem_of_getElem? (i := 33) rfl)) rfl
theorem wd547 : Cond.code yX12_finds cX12_finds 2 (some .int) ∈ WL := mem_WL (t4_in (List.mem_of_getElem? (i := 204) rfl)) rfl
theorem wd548 : Cond.fieldLink "FuseBoxModel" 28 "FuseBoxModel" "moved" "[I" ∈ WL := mem_WL (t4_in (List.mem_of_getElem? (i := 127) rfl)) rfl
theorem wd549 : Cond.constantLong "FuseBoxModel" 74 (255) ∈ WL := mem_WL (t4_in (List.mem_of_getElem? (i := 226) rfl)) rfl
theorem wd550 : Cond.fieldLink "FuseBoxModel" 76 "FuseBoxModel" "length" "I" ∈ WL := mem_WL (t4_in (List.mem_of_getElem? (i := 129) rfl)) rfl
theorem wd551 : Cond.fieldLink "FuseBoxModel" 31 "FuseBoxModel" "tape" "[B" ∈ WL := mem_WL (t4_in (List.mem_of_getElem? (i := 130) rfl)) rfl
theorem wd552 : Cond.constant "FuseBoxModel" 79 (-1000003) ∈ WL := mem_WL (t4_in (List.mem_of_getElem? (i := 227) rfl)) rfl
theorem wd553 : Cond.fieldLink "FuseBoxModel" 80 "FuseBoxModel" "next" "I" ∈ WL := mem_WL (t4_in (List.mem_of_getElem? (i := 131) rfl)) rfl
theorem wd554 : Cond.fieldLink "FuseBoxModel" 83 "FuseBoxModel" "place" "I" ∈ WL := mem_WL (t4_in (List.mem_of_getElem? (i := 132) rfl)) rfl
theorem wd555 : Cond.methodLink "FuseBoxModel" 86 yX12_byteAt ∈ WL := mem_WL (t5_in (List.mem_of_getElem? (i := 0) rfl)) rfl
theorem wd556 : Cond.instanceMethod yX12_byteAt ∈ WL := mem_WL (t5_in (List.mem_of_getElem? (i := 2) rfl)) rfl
theorem wd557 : Cond.selects "FuseBoxModel" yX12_byteAt yX12_byteAt ∈ WL := mem_WL (t0_in (List.mem_of_getElem? (i := 37) rfl)) rfl
theorem wd558 : Cond.code yX12_byteAt cX12_byteAt 2 (some .int) ∈ WL := mem_WL (t5_in (List.mem_of_getElem? (i := 3) rfl)) rfl
theorem wd559 : Cond.constantLong "FuseBoxModel" 89 (48) ∈ WL := mem_WL (t5_in (List.mem_of_getElem? (i := 4) rfl)) rfl
theorem wd560 : Cond.constantLong "FuseBoxModel" 91 (57) ∈ WL := mem_WL (t5_in (List.mem_of_getElem? (i := 5) rfl)) rfl
theorem wd561 : Cond.constantLong "FuseBoxModel" 96 (97) ∈ WL := mem_WL (t5_in (List.mem_of_getElem? (i := 6) rfl)) rfl
theorem wd562 : Cond.constantLong "FuseBoxModel" 98 (122) ∈ WL := mem_WL (t5_in (List.mem_of_getElem? (i := 7) rfl)) rfl
theorem wd563 : Cond.fieldLink "FuseBoxModel" 93 "FuseBoxModel" "number" "I" ∈ WL := mem_WL (t4_in (List.mem_of_getElem? (i := 133) rfl)) rfl
theorem wd564 : Cond.fieldLink "FuseBoxModel" 100 "FuseBoxModel" "wrong" "I" ∈ WL := mem_WL (t4_in (List.mem_of_getElem? (i := 134) rfl)) rfl
theorem wd565 : Cond.methodLink "FuseBoxModel" 103 yX12_token ∈ WL := mem_WL (t4_in (List.mem_of_getElem? (i := 236) rfl)) rfl
theorem wd566 : Cond.instanceMethod yX12_token ∈ WL := mem_WL (t4_in (List.mem_of_getElem? (i := 238) rfl)) rfl
theorem wd567 : Cond.selects "FuseBoxModel" yX12_token yX12_token ∈ WL := mem_WL (t0_in (List.mem_of_getElem? (i := 36) rfl)) rfl
theorem wd568 : Cond.code yX12_token cX12_token 3 (some .int) ∈ WL := mem_WL (t4_in (List.mem_of_getElem? (i := 239) rfl)) rfl
theorem wd569 : Cond.fieldLink "FuseBoxModel" 35 "FuseBoxModel" "read" "[I" ∈ WL := mem_WL (t4_in (List.mem_of_getElem? (i := 136) rfl)) rfl
theorem wd570 : Cond.methodLink "FuseBoxModel" 107 yX12_wants ∈ WL := mem_WL (t5_in (List.mem_of_getElem? (i := 8) rfl)) rfl
theorem wd571 : Cond.instanceMethod yX12_wants ∈ WL := mem_WL (t5_in (List.mem_of_getElem? (i := 10) rfl)) rfl
theorem wd572 : Cond.selects "FuseBoxModel" yX12_wants yX12_wants ∈ WL := mem_WL (t0_in (List.mem_of_getElem? (i := 38) rfl)) rfl
theorem wd573 : Cond.code yX12_wants cX12_wants 4 (some .int) ∈ WL := mem_WL (t5_in (List.mem_of_getElem? (i := 11) rfl)) rfl
theorem wd574 : Cond.methodLink "FuseBoxModel" 111 yX12_sign ∈ WL := mem_WL (t5_in (List.mem_of_getElem? (i := 12) rfl)) rfl
theorem wd575 : Cond.instanceMethod yX12_sign ∈ WL := mem_WL (t5_in (List.mem_of_getElem? (i := 14) rfl)) rfl
theorem wd576 : Cond.selects "FuseBoxModel" yX12_sign yX12_sign ∈ WL := mem_WL (t0_in (List.mem_of_getElem? (i := 39) rfl)) rfl
theorem wd577 : Cond.code yX12_sign cX12_sign 2 none ∈ WL := mem_WL (t5_in (List.mem_of_getElem? (i := 15) rfl)) rfl
theorem wd578 : Cond.fieldLink "FuseBoxModel" 38 "FuseBoxModel" "readRate" "[I" ∈ WL := mem_WL (t4_in (List.mem_of_getElem? (i := 137) rfl)) rfl
theorem wd579 : Cond.fieldLink "FuseBoxModel" 41 "FuseBoxModel" "readPlug" "[I" ∈ WL := mem_WL (t4_in (List.mem_of_getElem? (i := 138) rfl)) rfl
theorem wd580 : Cond.fieldLink "FuseBoxModel" 44 "FuseBoxModel" "readOn" "[I" ∈ WL := mem_WL (t4_in (List.mem_of_getElem? (i := 139) rfl)) rfl
theorem wd581 : Cond.methodLink "FuseBoxModel" 121 yX12_thingItem ∈ WL := mem_WL (t5_in (List.mem_of_getElem? (i := 23) rfl)) rfl
theorem wd582 : Cond.instanceMethod yX12_thingItem ∈ WL := mem_WL (t5_in (List.mem_of_getElem? (i := 25) rfl)) rfl
theorem wd583 : Cond.selects "FuseBoxModel" yX12_thingItem yX12_thingItem ∈ WL := mem_WL (t0_in (List.mem_of_getElem? (i := 41) rfl)) rfl
theorem wd584 : Cond.code yX12_thingItem cX12_thingItem 4 none ∈ WL := mem_WL (t5_in (List.mem_of_getElem? (i := 26) rfl)) rfl
theorem wd585 : Cond.methodLink "FuseBoxModel" 118 yX12_lineItem ∈ WL := mem_WL (t5_in (List.mem_of_getElem? (i := 19) rfl)) rfl
theorem wd586 : Cond.instanceMethod yX12_lineItem ∈ WL := mem_WL (t5_in (List.mem_of_getElem? (i := 21) rfl)) rfl
theorem wd587 : Cond.selects "FuseBoxModel" yX12_lineItem yX12_lineItem ∈ WL := mem_WL (t0_in (List.mem_of_getElem? (i := 40) rfl)) rfl
theorem wd588 : Cond.code yX12_lineItem cX12_lineItem 3 none ∈ WL := mem_WL (t5_in (List.mem_of_getElem? (i := 22) rfl)) rfl
theorem wd589 : Cond.methodLink "FuseBoxModel" 115 yX12_sortOf ∈ WL := mem_WL (t5_in (List.mem_of_getElem? (i := 16) rfl)) rfl
theorem wd590 : Cond.static yX12_sortOf ∈ WL := mem_WL (t5_in (List.mem_of_getElem? (i := 17) rfl)) rfl
theorem wd591 : Cond.code yX12_sortOf cX12_sortOf 1 (some .int) ∈ WL := mem_WL (t5_in (List.mem_of_getElem? (i := 18) rfl)) rfl
theorem wd592 : Cond.methodLink "FuseBoxModel" 124 yX12_reads ∈ WL := mem_WL (t4_in (List.mem_of_getElem? (i := 232) rfl)) rfl
theorem wd593 : Cond.instanceMethod yX12_reads ∈ WL := mem_WL (t4_in (List.mem_of_getElem? (i := 234) rfl)) rfl
theorem wd594 : Cond.selects "FuseBoxModel" yX12_reads yX12_reads ∈ WL := mem_WL (t0_in (List.mem_of_getElem? (i := 35) rfl)) rfl
theorem wd595 : Cond.code yX12_reads cX12_reads 4 none ∈ WL := mem_WL (t4_in (List.mem_of_getElem? (i := 235) rfl)) rfl
theorem wd596 : Cond.fieldLink "FuseBoxModel" 131 "FuseBoxModel" "acts" "I" ∈ WL := mem_WL (t4_in (List.mem_of_getElem? (i := 123) rfl)) rfl
theorem wd597 : Cond.fieldLink "FuseBoxModel" 13 "FuseBoxModel" "told" "[I" ∈ WL := mem_WL (t4_in (List.mem_of_getElem? (i := 121) rfl)) rfl
theorem wd598 : Cond.fieldLink "FuseBoxModel" 7 "FuseBoxModel" "slot" "[I" ∈ WL := mem_WL (t4_in (List.mem_of_getElem? (i := 120) rfl)) rfl
theorem wd599 : Cond.fieldLink "FuseBoxModel" 127 "FuseBoxModel" "latest" "I" ∈ WL := mem_WL (t4_in (List.mem_of_getElem? (i := 135) rfl)) rfl
theorem wd600 : Cond.constant "FuseBoxModel" 130 (-1000100) ∈ WL := mem_WL (t5_in (List.mem_of_getElem? (i := 27) rfl)) rfl
theorem wd601 : Cond.methodLink "FuseBoxModel" 134 yX12_isLive ∈ WL := mem_WL (t5_in (List.mem_of_getElem? (i := 58) rfl)) rfl
theorem wd602 : Cond.instanceMethod yX12_isLive ∈ WL := mem_WL (t5_in (List.mem_of_getElem? (i := 60) rfl)) rfl
theorem wd603 : Cond.selects "FuseBoxModel" yX12_isLive yX12_isLive ∈ WL := mem_WL (t0_in (List.mem_of_getElem? (i := 47) rfl)) rfl
theorem wd604 : Cond.code yX12_isLive cX12_isLive 3 (some .boolean) ∈ WL := mem_WL (t5_in (List.mem_of_getElem? (i := 61) rfl)) rfl
theorem wd605 : Cond.methodLink "FuseBoxModel" 138 yX12_runs ∈ WL := mem_WL (t5_in (List.mem_of_getElem? (i := 66) rfl)) rfl
theorem wd606 : Cond.instanceMethod yX12_runs ∈ WL := mem_WL (t5_in (List.mem_of_getElem? (i := 68) rfl)) rfl
theorem wd607 : Cond.selects "FuseBoxModel" yX12_runs yX12_runs ∈ WL := mem_WL (t0_in (List.mem_of_getElem? (i := 49) rfl)) rfl
theorem wd608 : Cond.code yX12_runs cX12_runs 3 (some .boolean) ∈ WL := mem_WL (t5_in (List.mem_of_getElem? (i := 69) rfl)) rfl
theorem wd609 : Cond.methodLink "FuseBoxModel" 141 yX12_larger ∈ WL := mem_WL (t5_in (List.mem_of_getElem? (i := 81) rfl)) rfl
theorem wd610 : Cond.static yX12_larger ∈ WL := mem_WL (t5_in (List.mem_of_getElem? (i := 82) rfl)) rfl
theorem wd611 : Cond.code yX12_larger cX12_larger 2 (some .int) ∈ WL := mem_WL (t5_in (List.mem_of_getElem? (i := 83) rfl)) rfl
theorem wd612 : Cond.methodLink "FuseBoxModel" 144 yX12_liveOnes ∈ WL := mem_WL (t5_in (List.mem_of_getElem? (i := 54) rfl)) rfl
theorem wd613 : Cond.instanceMethod yX12_liveOnes ∈ WL := mem_WL (t5_in (List.mem_of_getElem? (i := 56) rfl)) rfl
theorem wd614 : Cond.selects "FuseBoxModel" yX12_liveOnes yX12_liveOnes ∈ WL := mem_WL (t0_in (List.mem_of_getElem? (i := 46) rfl)) rfl
theorem wd615 : Cond.code yX12_liveOnes cX12_liveOnes 4 (some .int) ∈ WL := mem_WL (t5_in (List.mem_of_getElem? (i := 57) rfl)) rfl
theorem wd616 : Cond.constant "FuseBoxModel" 161 (99999) ∈ WL := mem_WL (t5_in (List.mem_of_getElem? (i := 84) rfl)) rfl
theorem wd617 : Cond.methodLink "FuseBoxModel" 150 yX12_has ∈ WL := mem_WL (t5_in (List.mem_of_getElem? (i := 70) rfl)) rfl
theorem wd618 : Cond.static yX12_has ∈ WL := mem_WL (t5_in (List.mem_of_getElem? (i := 71) rfl)) rfl
theorem wd619 : Cond.code yX12_has cX12_has 2 (some .boolean) ∈ WL := mem_WL (t5_in (List.mem_of_getElem? (i := 72) rfl)) rfl
theorem wd620 : Cond.methodLink "FuseBoxModel" 157 yX12_cools ∈ WL := mem_WL (t5_in (List.mem_of_getElem? (i := 77) rfl)) rfl
theorem wd621 : Cond.instanceMethod yX12_cools ∈ WL := mem_WL (t5_in (List.mem_of_getElem? (i := 79) rfl)) rfl
theorem wd622 : Cond.selects "FuseBoxModel" yX12_cools yX12_cools ∈ WL := mem_WL (t0_in (List.mem_of_getElem? (i := 51) rfl)) rfl
theorem wd623 : Cond.code yX12_cools cX12_cools 3 none ∈ WL := mem_WL (t5_in (List.mem_of_getElem? (i := 80) rfl)) rfl
theorem wd624 : Cond.fieldLink "FuseBoxModel" 50 "FuseBoxModel" "flows" "[I" ∈ WL := mem_WL (t4_in (List.mem_of_getElem? (i := 142) rfl)) rfl
theorem wd625 : Cond.methodLink "FuseBoxModel" 153 yX12_heats ∈ WL := mem_WL (t5_in (List.mem_of_getElem? (i := 73) rfl)) rfl
theorem wd626 : Cond.instanceMethod yX12_heats ∈ WL := mem_WL (t5_in (List.mem_of_getElem? (i := 75) rfl)) rfl
theorem wd627 : Cond.selects "FuseBoxModel" yX12_heats yX12_heats ∈ WL := mem_WL (t0_in (List.mem_of_getElem? (i := 50) rfl)) rfl
theorem wd628 : Cond.code yX12_heats cX12_heats 9 none ∈ WL := mem_WL (t5_in (List.mem_of_getElem? (i := 76) rfl)) rfl
theorem wd629 : Cond.methodLink "FuseBoxModel" 147 yX12_flowOf ∈ WL := mem_WL (t5_in (List.mem_of_getElem? (i := 62) rfl)) rfl
theorem wd630 : Cond.instanceMethod yX12_flowOf ∈ WL := mem_WL (t5_in (List.mem_of_getElem? (i := 64) rfl)) rfl
theorem wd631 : Cond.selects "FuseBoxModel" yX12_flowOf yX12_flowOf ∈ WL := mem_WL (t0_in (List.mem_of_getElem? (i := 48) rfl)) rfl
theorem wd632 : Cond.code yX12_flowOf cX12_flowOf 5 (some .int) ∈ WL := mem_WL (t5_in (List.mem_of_getElem? (i := 65) rfl)) rfl
theorem wd633 : Cond.methodLink "FuseBoxModel" 162 yX12_copies ∈ WL := mem_WL (t5_in (List.mem_of_getElem? (i := 46) rfl)) rfl
theorem wd634 : Cond.instanceMethod yX12_copies ∈ WL := mem_WL (t5_in (List.mem_of_getElem? (i := 48) rfl)) rfl
theorem wd635 : Cond.selects "FuseBoxModel" yX12_copies yX12_copies ∈ WL := mem_WL (t0_in (List.mem_of_getElem? (i := 44) rfl)) rfl
theorem wd636 : Cond.code yX12_copies cX12_copies 4 none ∈ WL := mem_WL (t5_in (List.mem_of_getElem? (i := 49) rfl)) rfl
theorem wd637 : Cond.methodLink "FuseBoxModel" 165 yX12_isHouse ∈ WL := mem_WL (t5_in (List.mem_of_getElem? (i := 36) rfl)) rfl
theorem wd638 : Cond.instanceMethod yX12_isHouse ∈ WL := mem_WL (t5_in (List.mem_of_getElem? (i := 38) rfl)) rfl
theorem wd639 : Cond.selects "FuseBoxModel" yX12_isHouse yX12_isHouse ∈ WL := mem_WL (t0_in (List.mem_of_getElem? (i := 42) rfl)) rfl
theorem wd640 : Cond.code yX12_isHouse cX12_isHouse 1 (some .boolean) ∈ WL := mem_WL (t5_in (List.mem_of_getElem? (i := 39) rfl)) rfl
theorem wd641 : Cond.constantLong "FuseBoxModel" 170 (24) ∈ WL := mem_WL (t5_in (List.mem_of_getElem? (i := 41) rfl)) rfl
theorem wd642 : Cond.methodLink "FuseBoxModel" 172 yX12_known ∈ WL := mem_WL (t5_in (List.mem_of_getElem? (i := 42) rfl)) rfl
theorem wd643 : Cond.instanceMethod yX12_known ∈ WL := mem_WL (t5_in (List.mem_of_getElem? (i := 44) rfl)) rfl
theorem wd644 : Cond.selects "FuseBoxModel" yX12_known yX12_known ∈ WL := mem_WL (t0_in (List.mem_of_getElem? (i := 43) rfl)) rfl
theorem wd645 : Cond.code yX12_known cX12_known 2 none ∈ WL := mem_WL (t5_in (List.mem_of_getElem? (i := 45) rfl)) rfl
theorem wd646 : Cond.methodLink "FuseBoxModel" 175 yX12_passes ∈ WL := mem_WL (t5_in (List.mem_of_getElem? (i := 50) rfl)) rfl
theorem wd647 : Cond.instanceMethod yX12_passes ∈ WL := mem_WL (t5_in (List.mem_of_getElem? (i := 52) rfl)) rfl
theorem wd648 : Cond.selects "FuseBoxModel" yX12_passes yX12_passes ∈ WL := mem_WL (t0_in (List.mem_of_getElem? (i := 45) rfl)) rfl
theorem wd649 : Cond.code yX12_passes cX12_passes 5 none ∈ WL := mem_WL (t5_in (List.mem_of_getElem? (i := 53) rfl)) rfl
theorem wd650 : Cond.constant "FuseBoxModel" 169 (-1000002) ∈ WL := mem_WL (t5_in (List.mem_of_getElem? (i := 40) rfl)) rfl
theorem wd651 : Cond.methodLink "FuseBoxModel" 178 yX12_isThing ∈ WL := mem_WL (t5_in (List.mem_of_getElem? (i := 89) rfl)) rfl
theorem wd652 : Cond.instanceMethod yX12_isThing ∈ WL := mem_WL (t5_in (List.mem_of_getElem? (i := 91) rfl)) rfl
theorem wd653 : Cond.selects "FuseBoxModel" yX12_isThing yX12_isThing ∈ WL := mem_WL (t0_in (List.mem_of_getElem? (i := 52) rfl)) rfl
theorem wd654 : Cond.code yX12_isThing cX12_isThing 2 (some .boolean) ∈ WL := mem_WL (t5_in (List.mem_of_getElem? (i := 92) rfl)) rfl
theorem wd655 : Cond.methodLink "FuseBoxModel" 182 yX12_running ∈ WL := mem_WL (t5_in (List.mem_of_getElem? (i := 93) rfl)) rfl
theorem wd656 : Cond.instanceMethod yX12_running ∈ WL := mem_WL (t5_in (List.mem_of_getElem? (i := 95) rfl)) rfl
theorem wd657 : Cond.selects "FuseBoxModel" yX12_running yX12_running ∈ WL := mem_WL (t0_in (List.mem_of_getElem? (i := 53) rfl)) rfl
theorem wd658 : Cond.code yX12_running cX12_running 4 (some .int) ∈ WL := mem_WL (t5_in (List.mem_of_getElem? (i := 96) rfl)) rfl
theorem wd659 : Cond.methodLink "FuseBoxModel" 185 yX12_isLine ∈ WL := mem_WL (t5_in (List.mem_of_getElem? (i := 101) rfl)) rfl
theorem wd660 : Cond.instanceMethod yX12_isLine ∈ WL := mem_WL (t5_in (List.mem_of_getElem? (i := 103) rfl)) rfl
theorem wd661 : Cond.selects "FuseBoxModel" yX12_isLine yX12_isLine ∈ WL := mem_WL (t0_in (List.mem_of_getElem? (i := 54) rfl)) rfl
theorem wd662 : Cond.code yX12_isLine cX12_isLine 2 (some .boolean) ∈ WL := mem_WL (t5_in (List.mem_of_getElem? (i := 104) rfl)) rfl
theorem wd663 : Cond.methodLink "FuseBoxModel" 188 yX12_mends ∈ WL := mem_WL (t5_in (List.mem_of_getElem? (i := 109) rfl)) rfl
theorem wd664 : Cond.instanceMethod yX12_mends ∈ WL := mem_WL (t5_in (List.mem_of_getElem? (i := 111) rfl)) rfl
theorem wd665 : Cond.selects "FuseBoxModel" yX12_mends yX12_mends ∈ WL := mem_WL (t0_in (List.mem_of_getElem? (i := 55) rfl)) rfl
theorem wd666 : Cond.code yX12_mends cX12_mends 3 none ∈ WL := mem_WL (t5_in (List.mem_of_getElem? (i := 112) rfl)) rfl
theorem wd667 : Cond.methodLink "FuseBoxModel" 191 yX12_deadOnes ∈ WL := mem_WL (t5_in (List.mem_of_getElem? (i := 113) rfl)) rfl
theorem wd668 : Cond.instanceMethod yX12_deadOnes ∈ WL := mem_WL (t5_in (List.mem_of_getElem? (i := 115) rfl)) rfl
theorem wd669 : Cond.selects "FuseBoxModel" yX12_deadOnes yX12_deadOnes ∈ WL := mem_WL (t0_in (List.mem_of_getElem? (i := 56) rfl)) rfl
theorem wd670 : Cond.code yX12_deadOnes cX12_deadOnes 3 (some .int) ∈ WL := mem_WL (t5_in (List.mem_of_getElem? (i := 116) rfl)) rfl
theorem wd671 : Cond.constantLong "FuseBoxModel" 194 (20) ∈ WL := mem_WL (t5_in (List.mem_of_getElem? (i := 125) rfl)) rfl
theorem wd672 : Cond.constantLong "FuseBoxModel" 196 (5) ∈ WL := mem_WL (t5_in (List.mem_of_getElem? (i := 134) rfl)) rfl
theorem wd673 : Cond.constantLong "FuseBoxModel" 198 (3) ∈ WL := mem_WL (t5_in (List.mem_of_getElem? (i := 139) rfl)) rfl
theorem wd674 : Cond.constantLong "FuseBoxModel" 200 (60) ∈ WL := mem_WL (t5_in (List.mem_of_getElem? (i := 144) rfl)) rfl
theorem wd675 : Cond.methodLink "FuseBoxModel" 202 yX12_goesOn ∈ WL := mem_WL (t5_in (List.mem_of_getElem? (i := 145) rfl)) rfl
theorem wd676 : Cond.instanceMethod yX12_goesOn ∈ WL := mem_WL (t5_in (List.mem_of_getElem? (i := 147) rfl)) rfl
theorem wd677 : Cond.selects "FuseBoxModel" yX12_goesOn yX12_goesOn ∈ WL := mem_WL (t0_in (List.mem_of_getElem? (i := 57) rfl)) rfl
theorem wd678 : Cond.code yX12_goesOn cX12_goesOn 3 none ∈ WL := mem_WL (t5_in (List.mem_of_getElem? (i := 148) rfl)) rfl
theorem wd679 : Cond.constant "FuseBoxModel" 205 (-1000000) ∈ WL := mem_WL (t5_in (List.mem_of_getElem? (i := 157) rfl)) rfl
theorem wd680 : Cond.constantLong "FuseBoxModel" 206 (30) ∈ WL := mem_WL (t5_in (List.mem_of_getElem? (i := 166) rfl)) rfl
theorem wd681 : Cond.methodLink "FuseBoxModel" 208 yX12_onOnes ∈ WL := mem_WL (t5_in (List.mem_of_getElem? (i := 167) rfl)) rfl
theorem wd682 : Cond.instanceMethod yX12_onOnes ∈ WL := mem_WL (t5_in (List.mem_of_getElem? (i := 169) rfl)) rfl
theorem wd683 : Cond.selects "FuseBoxModel" yX12_onOnes yX12_onOnes ∈ WL := mem_WL (t0_in (List.mem_of_getElem? (i := 58) rfl)) rfl
theorem wd684 : Cond.code yX12_onOnes cX12_onOnes 3 (some .int) ∈ WL := mem_WL (t5_in (List.mem_of_getElem? (i := 170) rfl)) rfl
theorem wd685 : Cond.methodLink "FuseBoxModel" 211 yX12_bits ∈ WL := mem_WL (t5_in (List.mem_of_getElem? (i := 171) rfl)) rfl
theorem wd686 : Cond.static yX12_bits ∈ WL := mem_WL (t5_in (List.mem_of_getElem? (i := 172) rfl)) rfl
theorem wd687 : Cond.code yX12_bits cX12_bits 3 (some .int) ∈ WL := mem_WL (t5_in (List.mem_of_getElem? (i := 173) rfl)) rfl
theorem wd688 : Cond.methodLink "FuseBoxModel" 214 yX12_offs ∈ WL := mem_WL (t5_in (List.mem_of_getElem? (i := 174) rfl)) rfl
theorem wd689 : Cond.instanceMethod yX12_offs ∈ WL := mem_WL (t5_in (List.mem_of_getElem? (i := 176) rfl)) rfl
theorem wd690 : Cond.selects "FuseBoxModel" yX12_offs yX12_offs ∈ WL := mem_WL (t0_in (List.mem_of_getElem? (i := 59) rfl)) rfl
theorem wd691 : Cond.code yX12_offs cX12_offs 3 none ∈ WL := mem_WL (t5_in (List.mem_of_getElem? (i := 177) rfl)) rfl
theorem wd692 : Cond.methodLink "FuseBoxModel" 217 yX12_isLiveFor ∈ WL := mem_WL (t5_in (List.mem_of_getElem? (i := 178) rfl)) rfl
theorem wd693 : Cond.instanceMethod yX12_isLiveFor ∈ WL := mem_WL (t5_in (List.mem_of_getElem? (i := 180) rfl)) rfl
theorem wd694 : Cond.selects "FuseBoxModel" yX12_isLiveFor yX12_isLiveFor ∈ WL := mem_WL (t0_in (List.mem_of_getElem? (i := 60) rfl)) rfl
theorem wd695 : Cond.code yX12_isLiveFor cX12_isLiveFor 5 (some .boolean) ∈ WL := mem_WL (t5_in (List.mem_of_getElem? (i := 181) rfl)) rfl
theorem wd696 : Cond.constantLong "FuseBoxModel" 220 (12) ∈ WL := mem_WL (t5_in (List.mem_of_getElem? (i := 186) rfl)) rfl
theorem wd697 : Cond.constantLong "FuseBoxModel" 222 (-1) ∈ WL := mem_WL (t5_in (List.mem_of_getElem? (i := 187) rfl)) rfl
theorem wd698 : Cond.methodLink "FuseBoxModel" 224 yX12_plugged ∈ WL := mem_WL (t5_in (List.mem_of_getElem? (i := 188) rfl)) rfl
theorem wd699 : Cond.instanceMethod yX12_plugged ∈ WL := mem_WL (t5_in (List.mem_of_getElem? (i := 190) rfl)) rfl
theorem wd700 : Cond.selects "FuseBoxModel" yX12_plugged yX12_plugged ∈ WL := mem_WL (t0_in (List.mem_of_getElem? (i := 61) rfl)) rfl
theorem wd701 : Cond.code yX12_plugged cX12_plugged 5 (some .int) ∈ WL := mem_WL (t5_in (List.mem_of_getElem? (i := 191) rfl)) rfl
theorem wd702 : Cond.methodLink "FuseBoxModel" 227 yX12_usedBehind ∈ WL := mem_WL (t5_in (List.mem_of_getElem? (i := 192) rfl)) rfl
theorem wd703 : Cond.instanceMethod yX12_usedBehind ∈ WL := mem_WL (t5_in (List.mem_of_getElem? (i := 194) rfl)) rfl
theorem wd704 : Cond.selects "FuseBoxModel" yX12_usedBehind yX12_usedBehind ∈ WL := mem_WL (t0_in (List.mem_of_getElem? (i := 62) rfl)) rfl
theorem wd705 : Cond.code yX12_usedBehind cX12_usedBehind 2 (some .int) ∈ WL := mem_WL (t5_in (List.mem_of_getElem? (i := 195) rfl)) rfl
theorem wd706 : Cond.constantLong "FuseBoxModel" 230 (999) ∈ WL := mem_WL (t5_in (List.mem_of_getElem? (i := 208) rfl)) rfl
theorem wd707 : Cond.methodLink "FuseBoxModel" 232 yX12_isSo ∈ WL := mem_WL (t5_in (List.mem_of_getElem? (i := 218) rfl)) rfl
theorem wd708 : Cond.instanceMethod yX12_isSo ∈ WL := mem_WL (t5_in (List.mem_of_getElem? (i := 220) rfl)) rfl
theorem wd709 : Cond.selects "FuseBoxModel" yX12_isSo yX12_isSo ∈ WL := mem_WL (t0_in (List.mem_of_getElem? (i := 64) rfl)) rfl
theorem wd710 : Cond.code yX12_isSo cX12_isSo 7 (some .boolean) ∈ WL := mem_WL (t5_in (List.mem_of_getElem? (i := 221) rfl)) rfl
theorem wd711 : Cond.constantLong "FuseBoxModel" 236 (4) ∈ WL := mem_WL (t5_in (List.mem_of_getElem? (i := 213) rfl)) rfl
theorem wd712 : Cond.methodLink "FuseBoxModel" 242 yX12_mainsThat ∈ WL := mem_WL (t5_in (List.mem_of_getElem? (i := 222) rfl)) rfl
theorem wd713 : Cond.instanceMethod yX12_mainsThat ∈ WL := mem_WL (t5_in (List.mem_of_getElem? (i := 224) rfl)) rfl
theorem wd714 : Cond.selects "FuseBoxModel" yX12_mainsThat yX12_mainsThat ∈ WL := mem_WL (t0_in (List.mem_of_getElem? (i := 65) rfl)) rfl
theorem wd715 : Cond.code yX12_mainsThat cX12_mainsThat 11 (some .int) ∈ WL := mem_WL (t5_in (List.mem_of_getElem? (i := 225) rfl)) rfl
theorem wd716 : Cond.methodLink "FuseBoxModel" 238 yX12_sorts ∈ WL := mem_WL (t5_in (List.mem_of_getElem? (i := 214) rfl)) rfl
theorem wd717 : Cond.instanceMethod yX12_sorts ∈ WL := mem_WL (t5_in (List.mem_of_getElem? (i := 216) rfl)) rfl
theorem wd718 : Cond.selects "FuseBoxModel" yX12_sorts yX12_sorts ∈ WL := mem_WL (t0_in (List.mem_of_getElem? (i := 63) rfl)) rfl
theorem wd719 : Cond.code yX12_sorts cX12_sorts 9 (some .int) ∈ WL := mem_WL (t5_in (List.mem_of_getElem? (i := 217) rfl)) rfl
theorem wd720 : Cond.constantLong "FuseBoxModel" 246 (10) ∈ WL := mem_WL (t5_in (List.mem_of_getElem? (i := 230) rfl)) rfl
theorem wd721 : Cond.constantLong "FuseBoxModel" 248 (999999) ∈ WL := mem_WL (t5_in (List.mem_of_getElem? (i := 235) rfl)) rfl
theorem wd722 : Cond.constantLong "FuseBoxModel" 250 (16807) ∈ WL := mem_WL (t5_in (List.mem_of_getElem? (i := 236) rfl)) rfl
theorem wd723 : Cond.constantLong "FuseBoxModel" 252 (2147483647) ∈ WL := mem_WL (t5_in (List.mem_of_getElem? (i := 237) rfl)) rfl
theorem wd724 : Cond.fieldLink "FuseBoxModel" 16 "FuseBoxModel" "kept" "[I" ∈ WL := mem_WL (t4_in (List.mem_of_getElem? (i := 122) rfl)) rfl
theorem wd725 : Cond.fieldLink "FuseBoxModel" 254 "FuseBoxModel" "traces" "I" ∈ WL := mem_WL (t4_in (List.mem_of_getElem? (i := 140) rfl)) rfl
theorem wd726 : Cond.fieldLink "FuseBoxModel" 47 "FuseBoxModel" "traced" "[I" ∈ WL := mem_WL (t4_in (List.mem_of_getElem? (i := 141) rfl)) rfl
theorem wd727 : Cond.methodLink "FuseBoxModel" 257 yX12_leaves ∈ WL := mem_WL (t6_in (List.mem_of_getElem? (i := 22) rfl)) rfl
theorem wd728 : Cond.instanceMethod yX12_leaves ∈ WL := mem_WL (t6_in (List.mem_of_getElem? (i := 24) rfl)) rfl
theorem wd729 : Cond.selects "FuseBoxModel" yX12_leaves yX12_leaves ∈ WL := mem_WL (t0_in (List.mem_of_getElem? (i := 67) rfl)) rfl
theorem wd730 : Cond.code yX12_leaves cX12_leaves 2 none ∈ WL := mem_WL (t6_in (List.mem_of_getElem? (i := 25) rfl)) rfl
theorem wd731 : Cond.methodLink "FuseBoxModel" 260 yX12_lent ∈ WL := mem_WL (t6_in (List.mem_of_getElem? (i := 26) rfl)) rfl
theorem wd732 : Cond.instanceMethod yX12_lent ∈ WL := mem_WL (t6_in (List.mem_of_getElem? (i := 28) rfl)) rfl
theorem wd733 : Cond.selects "FuseBoxModel" yX12_lent yX12_lent ∈ WL := mem_WL (t0_in (List.mem_of_getElem? (i := 68) rfl)) rfl
theorem wd734 : Cond.code yX12_lent cX12_lent 3 (some .int) ∈ WL := mem_WL (t6_in (List.mem_of_getElem? (i := 29) rfl)) rfl
theorem wd735 : Cond.methodLink "FuseBoxModel" 264 yX12_wireMark ∈ WL := mem_WL (t6_in (List.mem_of_getElem? (i := 30) rfl)) rfl
theorem wd736 : Cond.instanceMethod yX12_wireMark ∈ WL := mem_WL (t6_in (List.mem_of_getElem? (i := 32) rfl)) rfl
theorem wd737 : Cond.selects "FuseBoxModel" yX12_wireMark yX12_wireMark ∈ WL := mem_WL (t0_in (List.mem_of_getElem? (i := 69) rfl)) rfl
theorem wd738 : Cond.code yX12_wireMark cX12_wireMark 4 (some .int) ∈ WL := mem_WL (t6_in (List.mem_of_getElem? (i := 33) rfl)) rfl
theorem wd739 : Cond.methodLink "FuseBoxModel" 267 yX12_breakerSize ∈ WL := mem_WL (t6_in (List.mem_of_getElem? (i := 34) rfl)) rfl
theorem wd740 : Cond.instanceMethod yX12_breakerSize ∈ WL := mem_WL (t6_in (List.mem_of_getElem? (i := 36) rfl)) rfl
theorem wd741 : Cond.selects "FuseBoxModel" yX12_breakerSize yX12_breakerSize ∈ WL := mem_WL (t0_in (List.mem_of_getElem? (i := 70) rfl)) rfl
theorem wd742 : Cond.code yX12_breakerSize cX12_breakerSize 4 (some .int) ∈ WL := mem_WL (t6_in (List.mem_of_getElem? (i := 37) rfl)) rfl
theorem wd743 : Cond.methodLink "FuseBoxModel" 273 yX12_breakerMark ∈ WL := mem_WL (t6_in (List.mem_of_getElem? (i := 38) rfl)) rfl
theorem wd744 : Cond.instanceMethod yX12_breakerMark ∈ WL := mem_WL (t6_in (List.mem_of_getElem? (i := 40) rfl)) rfl
theorem wd745 : Cond.selects "FuseBoxModel" yX12_breakerMark yX12_breakerMark ∈ WL := mem_WL (t0_in (List.mem_of_getElem? (i := 71) rfl)) rfl
theorem wd746 : Cond.code yX12_breakerMark cX12_breakerMark 4 (some .int) ∈ WL := mem_WL (t6_in (List.mem_of_getElem? (i := 41) rfl)) rfl
theorem wd747 : Cond.methodLink "FuseBoxModel" 270 yX12_wireSize ∈ WL := mem_WL (t6_in (List.mem_of_getElem? (i := 18) rfl)) rfl
theorem wd748 : Cond.instanceMethod yX12_wireSize ∈ WL := mem_WL (t6_in (List.mem_of_getElem? (i := 20) rfl)) rfl
theorem wd749 : Cond.selects "FuseBoxModel" yX12_wireSize yX12_wireSize ∈ WL := mem_WL (t0_in (List.mem_of_getElem? (i := 66) rfl)) rfl
theorem wd750 : Cond.code yX12_wireSize cX12_wireSize 4 (some .int) ∈ WL := mem_WL (t6_in (List.mem_of_getElem? (i := 21) rfl)) rfl
theorem wd751 : Cond.constantLong "FuseBoxModel" 276 (9) ∈ WL := mem_WL (t6_in (List.mem_of_getElem? (i := 50) rfl)) rfl
theorem gc0 : GoodIn WL (wsV "FuseBox$Breaker" 9 "FuseBox$Breaker" yX0_deadIfOver (Cond.code yX0_deadIfOver cX0_deadIfOver 1 (some .int) :: WL)) := gin_V wd0 wd1 wd2 wd3 wd4
theorem gc1 : (yX0_deadIfOver).cls = "FuseBox$Breaker" ∧ (yX0_deadIfOver).cls ≠ "java/lang/invoke/MethodHandle" ∧ (yX0_deadIfOver).cls ≠ "java/lang/invoke/VarHandle" ∧ (parseMethodDescriptor (yX0_deadIfOver).desc).map (fun d => d.parameters.length) = some 0 := by decide +kernel
theorem gc2 : GoodIn WL (va_wsO "FuseBox$Breaker" 9 "FuseBox$Coil" "FuseBox$Breaker" yX0_deadIfOver yX1_deadIfOver (Cond.code yX1_deadIfOver cX1_deadIfOver 1 (some .int) :: WL)) := gin_O wd0 wd5 wd1 wd6 wd7 wd8 wd9
theorem gc3 : ("FuseBox$Breaker" : String) ≠ "java/lang/invoke/MethodHandle" ∧ ("FuseBox$Breaker" : String) ≠ "java/lang/invoke/VarHandle" ∧ (parseMethodDescriptor (yX0_deadIfOver).desc).map (fun d => d.parameters.length) = some 0 := by decide +kernel
theorem gc4 : GoodIn WL (wsV "FuseBox$Fuse" 7 "FuseBox$Trace" yX9_leave (Cond.code yX9_leave cX9_leave 2 none :: WL)) := gin_V wd12 wd13 wd14 wd15 wd16
theorem gc5 : (yX9_leave).cls = "FuseBox$Trace" ∧ (yX9_leave).cls ≠ "java/lang/invoke/MethodHandle" ∧ (yX9_leave).cls ≠ "java/lang/invoke/VarHandle" ∧ (parseMethodDescriptor (yX9_leave).desc).map (fun d => d.parameters.length) = some 1 := by decide +kernel
theorem gc6 : GoodIn WL (wsV "FuseBox$Breaker" 15 "FuseBox$Trace" yX9_leave (Cond.code yX9_leave cX9_leave 2 none :: WL)) := gin_V wd18 wd13 wd14 wd15 wd16
theorem gc7 : GoodIn WL (va_wsSU "FuseBox$Breaker" 21 yX2_sizeOf (Cond.code yX2_sizeOf cX2_sizeOf 4 (some .int) :: WL)) := gin_SU wd19 wd20 wd21 wd22 wd23 wd24
theorem gc8 : (yX2_sizeOf).name ≠ "<init>" ∧ (parseMethodDescriptor (yX2_sizeOf).desc).map (fun d => d.parameters.length) = some 3 := by decide +kernel
theorem gc9 : GoodIn WL (va_wsSU "FuseBox$Breaker" 25 yX2_markOf (Cond.code yX2_markOf cX2_markOf 4 (some .int) :: WL)) := gin_SU wd25 wd26 wd21 wd27 wd23 wd28
theorem gc10 : (yX2_markOf).name ≠ "<init>" ∧ (parseMethodDescriptor (yX2_markOf).desc).map (fun d => d.parameters.length) = some 3 := by decide +kernel
theorem gc11 : GoodIn WL (wsV "FuseBox$Breaker" 28 "FuseBox$Breaker" yX0_sizeOf (Cond.code yX0_sizeOf cX0_sizeOf 4 (some .int) :: WL)) := gin_V wd29 wd30 wd31 wd3 wd32
theorem gc12 : (yX0_sizeOf).cls = "FuseBox$Breaker" ∧ (yX0_sizeOf).cls ≠ "java/lang/invoke/MethodHandle" ∧ (yX0_sizeOf).cls ≠ "java/lang/invoke/VarHandle" ∧ (parseMethodDescriptor (yX0_sizeOf).desc).map (fun d => d.parameters.length) = some 3 := by decide +kernel
theorem gc13 : GoodIn WL (wsV "FuseBox$Coil" 9 "FuseBox$Trace" yX9_leave (Cond.code yX9_leave cX9_leave 2 none :: WL)) := gin_V wd33 wd13 wd14 wd15 wd16
theorem gc14 : GoodIn WL (va_wsSU "FuseBox$Coil" 15 yX0_sizeOf (Cond.code yX0_sizeOf cX0_sizeOf 4 (some .int) :: WL)) := gin_SU wd34 wd35 wd36 wd30 wd3 wd32
theorem gc15 : (yX0_sizeOf).name ≠ "<init>" ∧ (parseMethodDescriptor (yX0_sizeOf).desc).map (fun d => d.parameters.length) = some 3 := by decide +kernel
theorem gc16 : GoodIn WL (va_wsO "FuseBox$Breaker" 28 "FuseBox$Coil" "FuseBox$Breaker" yX0_sizeOf yX1_sizeOf (Cond.code yX1_sizeOf cX1_sizeOf 4 (some .int) :: WL)) := gin_O wd29 wd35 wd30 wd37 wd38 wd8 wd39
theorem gc17 : ("FuseBox$Breaker" : String) ≠ "java/lang/invoke/MethodHandle" ∧ ("FuseBox$Breaker" : String) ≠ "java/lang/invoke/VarHandle" ∧ (parseMethodDescriptor (yX0_sizeOf).desc).map (fun d => d.parameters.length) = some 3 := by decide +kernel
theorem gc18 : GoodIn WL (wsV "FuseBox$House" 66 "FuseBox$House" yX3_isOn (Cond.code yX3_isOn cX3_isOn 2 (some .boolean) :: WL)) := gin_V wd58 wd59 wd60 wd61 wd62
theorem gc19 : (yX3_isOn).cls = "FuseBox$House" ∧ (yX3_isOn).cls ≠ "java/lang/invoke/MethodHandle" ∧ (yX3_isOn).cls ≠ "java/lang/invoke/VarHandle" ∧ (parseMethodDescriptor (yX3_isOn).desc).map (fun d => d.parameters.length) = some 1 := by decide +kernel
theorem gc20 : GoodIn WL (wsV "FuseBox$House" 70 "FuseBox$House" yX3_isLive (Cond.code yX3_isLive cX3_isLive 2 (some .boolean) :: WL)) := gin_V wd63 wd64 wd65 wd61 wd66
theorem gc21 : (yX3_isLive).cls = "FuseBox$House" ∧ (yX3_isLive).cls ≠ "java/lang/invoke/MethodHandle" ∧ (yX3_isLive).cls ≠ "java/lang/invoke/VarHandle" ∧ (parseMethodDescriptor (yX3_isLive).desc).map (fun d => d.parameters.length) = some 1 := by decide +kernel
theorem gc22 : GoodIn WL (wsV "FuseBox$House" 73 "FuseBox$House" yX3_isDead (Cond.code yX3_isDead cX3_isDead 2 (some .boolean) :: WL)) := gin_V wd67 wd68 wd69 wd61 wd70
theorem gc23 : (yX3_isDead).cls = "FuseBox$House" ∧ (yX3_isDead).cls ≠ "java/lang/invoke/MethodHandle" ∧ (yX3_isDead).cls ≠ "java/lang/invoke/VarHandle" ∧ (parseMethodDescriptor (yX3_isDead).desc).map (fun d => d.parameters.length) = some 1 := by decide +kernel
theorem gc24 : GoodIn WL (wsV "FuseBox$House" 76 "FuseBox$House" yX3_runs (Cond.code yX3_runs cX3_runs 2 (some .boolean) :: WL)) := gin_V wd71 wd72 wd73 wd61 wd74
theorem gc25 : (yX3_runs).cls = "FuseBox$House" ∧ (yX3_runs).cls ≠ "java/lang/invoke/MethodHandle" ∧ (yX3_runs).cls ≠ "java/lang/invoke/VarHandle" ∧ (parseMethodDescriptor (yX3_runs).desc).map (fun d => d.parameters.length) = some 1 := by decide +kernel
theorem gc26 : GoodIn WL (wsV "FuseBox$House" 79 "FuseBox$House" yX3_reckonFlows (Cond.code yX3_reckonFlows cX3_reckonFlows 3 (some .int) :: WL)) := gin_V wd76 wd77 wd78 wd61 wd79
theorem gc27 : (yX3_reckonFlows).cls = "FuseBox$House" ∧ (yX3_reckonFlows).cls ≠ "java/lang/invoke/MethodHandle" ∧ (yX3_reckonFlows).cls ≠ "java/lang/invoke/VarHandle" ∧ (parseMethodDescriptor (yX3_reckonFlows).desc).map (fun d => d.parameters.length) = some 0 := by decide +kernel
theorem gc28 : GoodIn WL (wsV "FuseBox$Wire" 9 "FuseBox$Wire" yX10_heatBy (Cond.code yX10_heatBy cX10_heatBy 2 (some .int) :: WL)) := gin_V wd84 wd85 wd86 wd87 wd88
theorem gc29 : (yX10_heatBy).cls = "FuseBox$Wire" ∧ (yX10_heatBy).cls ≠ "java/lang/invoke/MethodHandle" ∧ (yX10_heatBy).cls ≠ "java/lang/invoke/VarHandle" ∧ (parseMethodDescriptor (yX10_heatBy).desc).map (fun d => d.parameters.length) = some 1 := by decide +kernel
theorem gc30 : GoodIn WL (va_wsO "FuseBox$Wire" 9 "FuseBox$Slow" "FuseBox$Wire" yX10_heatBy yX8_heatBy (Cond.code yX8_heatBy cX8_heatBy 2 (some .int) :: WL)) := gin_O wd84 wd92 wd85 wd93 wd94 wd95 wd96
theorem gc31 : ("FuseBox$Wire" : String) ≠ "java/lang/invoke/MethodHandle" ∧ ("FuseBox$Wire" : String) ≠ "java/lang/invoke/VarHandle" ∧ (parseMethodDescriptor (yX10_heatBy).desc).map (fun d => d.parameters.length) = some 1 := by decide +kernel
theorem gc32 : GoodIn WL (va_wsU "FuseBox$Wire" 9 "FuseBox$Quick" "FuseBox$Wire" yX10_heatBy yX10_heatBy (Cond.code yX10_heatBy cX10_heatBy 2 (some .int) :: WL)) := gin_U wd84 wd92 wd97 wd85 wd87 wd88
theorem gc33 : GoodIn WL (va_wsSU "FuseBox$Quick" 9 yX10_deadBehind (Cond.code yX10_deadBehind cX10_deadBehind 4 (some .int) :: WL)) := gin_SU wd98 wd99 wd100 wd101 wd87 wd102
theorem gc34 : (yX10_deadBehind).name ≠ "<init>" ∧ (parseMethodDescriptor (yX10_deadBehind).desc).map (fun d => d.parameters.length) = some 3 := by decide +kernel
theorem gc35 : GoodIn WL (wsV "FuseBox$House" 94 "FuseBox$House" yX3_fuseOf (Cond.code yX3_fuseOf cX3_fuseOf 2 (some (.object "FuseBox$Fuse")) :: WL)) := gin_V wd104 wd105 wd106 wd61 wd107
theorem gc36 : (yX3_fuseOf).cls = "FuseBox$House" ∧ (yX3_fuseOf).cls ≠ "java/lang/invoke/MethodHandle" ∧ (yX3_fuseOf).cls ≠ "java/lang/invoke/VarHandle" ∧ (parseMethodDescriptor (yX3_fuseOf).desc).map (fun d => d.parameters.length) = some 1 := by decide +kernel
theorem gc37 : GoodIn WL (va_wsU "FuseBox$House" 98 "FuseBox$Wire" "FuseBox$Fuse" (⟨"FuseBox$Fuse", "heatBehind", "(II)I"⟩ : MethodName) yX10_heatBehind (Cond.code yX10_heatBehind cX10_heatBehind 3 (some .int) :: WL)) := gin_U wd108 wd109 wd110 wd111 wd87 wd112
theorem gc38 : ("FuseBox$Fuse" : String) ≠ "java/lang/invoke/MethodHandle" ∧ ("FuseBox$Fuse" : String) ≠ "java/lang/invoke/VarHandle" ∧ (parseMethodDescriptor ((⟨"FuseBox$Fuse", "heatBehind", "(II)I"⟩ : MethodName)).desc).map (fun d => d.parameters.length) = some 2 := by decide +kernel
theorem gc39 : GoodIn WL (va_wsU "FuseBox$House" 98 "FuseBox$Slow" "FuseBox$Fuse" (⟨"FuseBox$Fuse", "heatBehind", "(II)I"⟩ : MethodName) yX10_heatBehind (Cond.code yX10_heatBehind cX10_heatBehind 3 (some .int) :: WL)) := gin_U wd108 wd109 wd113 wd111 wd87 wd112
theorem gc40 : GoodIn WL (va_wsU "FuseBox$House" 98 "FuseBox$Quick" "FuseBox$Fuse" (⟨"FuseBox$Fuse", "heatBehind", "(II)I"⟩ : MethodName) yX10_heatBehind (Cond.code yX10_heatBehind cX10_heatBehind 3 (some .int) :: WL)) := gin_U wd108 wd109 wd114 wd111 wd87 wd112
theorem gc41 : GoodIn WL (va_wsU "FuseBox$House" 98 "FuseBox$Breaker" "FuseBox$Fuse" (⟨"FuseBox$Fuse", "heatBehind", "(II)I"⟩ : MethodName) yX0_heatBehind (Cond.code yX0_heatBehind cX0_heatBehind 3 (some .int) :: WL)) := gin_U wd108 wd109 wd115 wd116 wd3 wd117
theorem gc42 : GoodIn WL (va_wsU "FuseBox$House" 98 "FuseBox$Coil" "FuseBox$Fuse" (⟨"FuseBox$Fuse", "heatBehind", "(II)I"⟩ : MethodName) yX0_heatBehind (Cond.code yX0_heatBehind cX0_heatBehind 3 (some .int) :: WL)) := gin_U wd108 wd109 wd118 wd116 wd3 wd117
theorem gc43 : GoodIn WL (va_wsU "FuseBox$House" 103 "FuseBox$Wire" "FuseBox$Fuse" (⟨"FuseBox$Fuse", "deadBehind", "(III)I"⟩ : MethodName) yX10_deadBehind (Cond.code yX10_deadBehind cX10_deadBehind 4 (some .int) :: WL)) := gin_U wd119 wd120 wd121 wd101 wd87 wd102
theorem gc44 : ("FuseBox$Fuse" : String) ≠ "java/lang/invoke/MethodHandle" ∧ ("FuseBox$Fuse" : String) ≠ "java/lang/invoke/VarHandle" ∧ (parseMethodDescriptor ((⟨"FuseBox$Fuse", "deadBehind", "(III)I"⟩ : MethodName)).desc).map (fun d => d.parameters.length) = some 3 := by decide +kernel
theorem gc45 : GoodIn WL (va_wsU "FuseBox$House" 103 "FuseBox$Slow" "FuseBox$Fuse" (⟨"FuseBox$Fuse", "deadBehind", "(III)I"⟩ : MethodName) yX10_deadBehind (Cond.code yX10_deadBehind cX10_deadBehind 4 (some .int) :: WL)) := gin_U wd119 wd120 wd122 wd101 wd87 wd102
theorem gc46 : GoodIn WL (va_wsU "FuseBox$House" 103 "FuseBox$Quick" "FuseBox$Fuse" (⟨"FuseBox$Fuse", "deadBehind", "(III)I"⟩ : MethodName) yX5_deadBehind (Cond.code yX5_deadBehind cX5_deadBehind 4 (some .int) :: WL)) := gin_U wd119 wd120 wd123 wd124 wd125 wd126
theorem gc47 : GoodIn WL (va_wsU "FuseBox$House" 103 "FuseBox$Breaker" "FuseBox$Fuse" (⟨"FuseBox$Fuse", "deadBehind", "(III)I"⟩ : MethodName) yX0_deadBehind (Cond.code yX0_deadBehind cX0_deadBehind 4 (some .int) :: WL)) := gin_U wd119 wd120 wd127 wd128 wd3 wd129
theorem gc48 : GoodIn WL (va_wsU "FuseBox$House" 103 "FuseBox$Coil" "FuseBox$Fuse" (⟨"FuseBox$Fuse", "deadBehind", "(III)I"⟩ : MethodName) yX0_deadBehind (Cond.code yX0_deadBehind cX0_deadBehind 4 (some .int) :: WL)) := gin_U wd119 wd120 wd130 wd128 wd3 wd129
theorem gc49 : GoodIn WL (wsV "FuseBox$House" 83 "FuseBox$House" yX3_passLine (Cond.code yX3_passLine cX3_passLine 4 none :: WL)) := gin_V wd133 wd134 wd135 wd61 wd136
theorem gc50 : (yX3_passLine).cls = "FuseBox$House" ∧ (yX3_passLine).cls ≠ "java/lang/invoke/MethodHandle" ∧ (yX3_passLine).cls ≠ "java/lang/invoke/VarHandle" ∧ (parseMethodDescriptor (yX3_passLine).desc).map (fun d => d.parameters.length) = some 2 := by decide +kernel
theorem gc51 : GoodIn WL (wsV "FuseBox$House" 110 "FuseBox$House" yX3_passMinute (Cond.code yX3_passMinute cX3_passMinute 3 none :: WL)) := gin_V wd137 wd138 wd139 wd61 wd140
theorem gc52 : (yX3_passMinute).cls = "FuseBox$House" ∧ (yX3_passMinute).cls ≠ "java/lang/invoke/MethodHandle" ∧ (yX3_passMinute).cls ≠ "java/lang/invoke/VarHandle" ∧ (parseMethodDescriptor (yX3_passMinute).desc).map (fun d => d.parameters.length) = some 0 := by decide +kernel
theorem gc53 : GoodIn WL (wsV "FuseBox$House" 124 "FuseBox$House" yX3_mendLine (Cond.code yX3_mendLine cX3_mendLine 2 none :: WL)) := gin_V wd141 wd142 wd143 wd61 wd144
theorem gc54 : (yX3_mendLine).cls = "FuseBox$House" ∧ (yX3_mendLine).cls ≠ "java/lang/invoke/MethodHandle" ∧ (yX3_mendLine).cls ≠ "java/lang/invoke/VarHandle" ∧ (parseMethodDescriptor (yX3_mendLine).desc).map (fun d => d.parameters.length) = some 1 := by decide +kernel
theorem gc55 : GoodIn WL (wsV "FuseBox$House" 121 "FuseBox$House" yX3_mendAll (Cond.code yX3_mendAll cX3_mendAll 2 none :: WL)) := gin_V wd147 wd148 wd149 wd61 wd150
theorem gc56 : (yX3_mendAll).cls = "FuseBox$House" ∧ (yX3_mendAll).cls ≠ "java/lang/invoke/MethodHandle" ∧ (yX3_mendAll).cls ≠ "java/lang/invoke/VarHandle" ∧ (parseMethodDescriptor (yX3_mendAll).desc).map (fun d => d.parameters.length) = some 0 := by decide +kernel
theorem gc57 : GoodIn WL (wsV "FuseBox$House" 115 "FuseBox$House" yX3_toggle (Cond.code yX3_toggle cX3_toggle 2 none :: WL)) := gin_V wd151 wd152 wd153 wd61 wd154
theorem gc58 : (yX3_toggle).cls = "FuseBox$House" ∧ (yX3_toggle).cls ≠ "java/lang/invoke/MethodHandle" ∧ (yX3_toggle).cls ≠ "java/lang/invoke/VarHandle" ∧ (parseMethodDescriptor (yX3_toggle).desc).map (fun d => d.parameters.length) = some 1 := by decide +kernel
theorem gc59 : GoodIn WL (wsV "FuseBox$Plugging" 47 "FuseBox$House" yX3_loadThatIsOn (Cond.code yX3_loadThatIsOn cX3_loadThatIsOn 3 (some .int) :: WL)) := gin_V wd156 wd157 wd158 wd61 wd159
theorem gc60 : (yX3_loadThatIsOn).cls = "FuseBox$House" ∧ (yX3_loadThatIsOn).cls ≠ "java/lang/invoke/MethodHandle" ∧ (yX3_loadThatIsOn).cls ≠ "java/lang/invoke/VarHandle" ∧ (parseMethodDescriptor (yX3_loadThatIsOn).desc).map (fun d => d.parameters.length) = some 0 := by decide +kernel
theorem gc61 : GoodIn WL (wsV "FuseBox$Plugging" 51 "FuseBox$House" yX3_liveMinutes (Cond.code yX3_liveMinutes cX3_liveMinutes 9 (some .int) :: WL)) := gin_V wd162 wd163 wd164 wd61 wd165
theorem gc62 : (yX3_liveMinutes).cls = "FuseBox$House" ∧ (yX3_liveMinutes).cls ≠ "java/lang/invoke/MethodHandle" ∧ (yX3_liveMinutes).cls ≠ "java/lang/invoke/VarHandle" ∧ (parseMethodDescriptor (yX3_liveMinutes).desc).map (fun d => d.parameters.length) = some 3 := by decide +kernel
theorem gc63 : GoodIn WL (wsV "FuseBox$Plugging" 80 "FuseBox$Plugging" yX4_liveMinutes (Cond.code yX4_liveMinutes cX4_liveMinutes 2 (some .int) :: WL)) := gin_V wd172 wd173 wd174 wd175 wd176
theorem gc64 : (yX4_liveMinutes).cls = "FuseBox$Plugging" ∧ (yX4_liveMinutes).cls ≠ "java/lang/invoke/MethodHandle" ∧ (yX4_liveMinutes).cls ≠ "java/lang/invoke/VarHandle" ∧ (parseMethodDescriptor (yX4_liveMinutes).desc).map (fun d => d.parameters.length) = some 1 := by decide +kernel
theorem gc65 : GoodIn WL (wsV "FuseBox$Plugging" 91 "FuseBox$Plugging" yX4_usedUntilMainIsOut (Cond.code yX4_usedUntilMainIsOut cX4_usedUntilMainIsOut 5 (some .int) :: WL)) := gin_V wd177 wd178 wd179 wd175 wd180
theorem gc66 : (yX4_usedUntilMainIsOut).cls = "FuseBox$Plugging" ∧ (yX4_usedUntilMainIsOut).cls ≠ "java/lang/invoke/MethodHandle" ∧ (yX4_usedUntilMainIsOut).cls ≠ "java/lang/invoke/VarHandle" ∧ (parseMethodDescriptor (yX4_usedUntilMainIsOut).desc).map (fun d => d.parameters.length) = some 0 := by decide +kernel
theorem gc67 : GoodIn WL (va_wsS "FuseBox$Plugging" 83 yJ6_bitCount_0f7a4 (Cond.code yJ6_bitCount_0f7a4 cJ6_bitCount_0f7a4 1 (some .int) :: WL)) := gin_S wd181 wd182 wd183 wd184
theorem gc68 : (yJ6_bitCount_0f7a4).cls ≠ "java/lang/invoke/MethodHandle" ∧ (yJ6_bitCount_0f7a4).cls ≠ "java/lang/invoke/VarHandle" ∧ (parseMethodDescriptor (yJ6_bitCount_0f7a4).desc).map (fun d => d.parameters.length) = some 1 := by decide +kernel
theorem gc69 : GoodIn WL (wsV "FuseBox$Plugging" 71 "FuseBox$Plugging" yX4_usedThen (Cond.code yX4_usedThen cX4_usedThen 4 (some .int) :: WL)) := gin_V wd185 wd186 wd187 wd175 wd188
theorem gc70 : (yX4_usedThen).cls = "FuseBox$Plugging" ∧ (yX4_usedThen).cls ≠ "java/lang/invoke/MethodHandle" ∧ (yX4_usedThen).cls ≠ "java/lang/invoke/VarHandle" ∧ (parseMethodDescriptor (yX4_usedThen).desc).map (fun d => d.parameters.length) = some 0 := by decide +kernel
theorem gc71 : GoodIn WL (wsV "FuseBox$Plugging" 58 "FuseBox$Plugging" yX4_weigh (Cond.code yX4_weigh cX4_weigh 2 none :: WL)) := gin_V wd194 wd195 wd196 wd175 wd197
theorem gc72 : (yX4_weigh).cls = "FuseBox$Plugging" ∧ (yX4_weigh).cls ≠ "java/lang/invoke/MethodHandle" ∧ (yX4_weigh).cls ≠ "java/lang/invoke/VarHandle" ∧ (parseMethodDescriptor (yX4_weigh).desc).map (fun d => d.parameters.length) = some 0 := by decide +kernel
theorem gc73 : GoodIn WL (wsV "FuseBox$Plugging" 61 "FuseBox$House" yX3_isOn (Cond.code yX3_isOn cX3_isOn 2 (some .boolean) :: WL)) := gin_V wd198 wd59 wd60 wd61 wd62
theorem gc74 : GoodIn WL (wsV "FuseBox$Plugging" 44 "FuseBox$Plugging" yX4_plugFrom (Cond.code yX4_plugFrom cX4_plugFrom 3 none :: WL)) := gin_V wd200 wd201 wd202 wd175 wd203
theorem gc75 : (yX4_plugFrom).cls = "FuseBox$Plugging" ∧ (yX4_plugFrom).cls ≠ "java/lang/invoke/MethodHandle" ∧ (yX4_plugFrom).cls ≠ "java/lang/invoke/VarHandle" ∧ (parseMethodDescriptor (yX4_plugFrom).desc).map (fun d => d.parameters.length) = some 1 := by decide +kernel
theorem gc76 : GoodIn WL (wsV "FuseBox$Plugging" 40 "FuseBox$Plugging" yX4_foretellLine (Cond.code yX4_foretellLine cX4_foretellLine 4 none :: WL)) := gin_V wd205 wd206 wd207 wd175 wd208
theorem gc77 : (yX4_foretellLine).cls = "FuseBox$Plugging" ∧ (yX4_foretellLine).cls ≠ "java/lang/invoke/MethodHandle" ∧ (yX4_foretellLine).cls ≠ "java/lang/invoke/VarHandle" ∧ (parseMethodDescriptor (yX4_foretellLine).desc).map (fun d => d.parameters.length) = some 1 := by decide +kernel
theorem gc78 : GoodIn WL (wsV "FuseBox$Wire" 24 "FuseBox$Trace" yX9_leave (Cond.code yX9_leave cX9_leave 2 none :: WL)) := gin_V wd209 wd13 wd14 wd15 wd16
theorem gc79 : GoodIn WL (va_wsSU "FuseBox$Wire" 37 yX2_markOf (Cond.code yX2_markOf cX2_markOf 4 (some .int) :: WL)) := gin_SU wd210 wd26 wd211 wd27 wd23 wd28
theorem gc80 : GoodIn WL (wsV "FuseBox$Quick" 13 "FuseBox$Trace" yX9_leave (Cond.code yX9_leave cX9_leave 2 none :: WL)) := gin_V wd213 wd13 wd14 wd15 wd16
theorem gc81 : GoodIn WL (va_wsSU "FuseBox$Quick" 19 yX10_markOf (Cond.code yX10_markOf cX10_markOf 4 (some .int) :: WL)) := gin_SU wd214 wd215 wd100 wd216 wd87 wd217
theorem gc82 : (yX10_markOf).name ≠ "<init>" ∧ (parseMethodDescriptor (yX10_markOf).desc).map (fun d => d.parameters.length) = some 3 := by decide +kernel
theorem gc83 : GoodIn WL (wsV "FuseBox$Reader" 84 "FuseBox$Reader" yX6_isFigure (Cond.code yX6_isFigure cX6_isFigure 2 (some .boolean) :: WL)) := gin_V wd223 wd224 wd225 wd226 wd227
theorem gc84 : (yX6_isFigure).cls = "FuseBox$Reader" ∧ (yX6_isFigure).cls ≠ "java/lang/invoke/MethodHandle" ∧ (yX6_isFigure).cls ≠ "java/lang/invoke/VarHandle" ∧ (parseMethodDescriptor (yX6_isFigure).desc).map (fun d => d.parameters.length) = some 1 := by decide +kernel
theorem gc85 : GoodIn WL (wsV "FuseBox$Reader" 88 "FuseBox$Reader" yX6_readNumber (Cond.code yX6_readNumber cX6_readNumber 1 none :: WL)) := gin_V wd229 wd230 wd231 wd226 wd232
theorem gc86 : (yX6_readNumber).cls = "FuseBox$Reader" ∧ (yX6_readNumber).cls ≠ "java/lang/invoke/MethodHandle" ∧ (yX6_readNumber).cls ≠ "java/lang/invoke/VarHandle" ∧ (parseMethodDescriptor (yX6_readNumber).desc).map (fun d => d.parameters.length) = some 0 := by decide +kernel
theorem gc87 : GoodIn WL (wsV "FuseBox$Reader" 30 "FuseBox$Reader" yX6_readToken (Cond.code yX6_readToken cX6_readToken 2 none :: WL)) := gin_V wd234 wd235 wd236 wd226 wd237
theorem gc88 : (yX6_readToken).cls = "FuseBox$Reader" ∧ (yX6_readToken).cls ≠ "java/lang/invoke/MethodHandle" ∧ (yX6_readToken).cls ≠ "java/lang/invoke/VarHandle" ∧ (parseMethodDescriptor (yX6_readToken).desc).map (fun d => d.parameters.length) = some 0 := by decide +kernel
theorem gc89 : GoodIn WL (wsV "FuseBox$Reader" 61 "FuseBox$Reader" yX6_fail (Cond.code yX6_fail cX6_fail 2 none :: WL)) := gin_V wd238 wd239 wd240 wd226 wd241
theorem gc90 : (yX6_fail).cls = "FuseBox$Reader" ∧ (yX6_fail).cls ≠ "java/lang/invoke/MethodHandle" ∧ (yX6_fail).cls ≠ "java/lang/invoke/VarHandle" ∧ (parseMethodDescriptor (yX6_fail).desc).map (fun d => d.parameters.length) = some 1 := by decide +kernel
theorem gc91 : GoodIn WL (wsV "FuseBox$Reader" 50 "FuseBox$Reader" yX6_take (Cond.code yX6_take cX6_take 2 none :: WL)) := gin_V wd242 wd243 wd244 wd226 wd245
theorem gc92 : (yX6_take).cls = "FuseBox$Reader" ∧ (yX6_take).cls ≠ "java/lang/invoke/MethodHandle" ∧ (yX6_take).cls ≠ "java/lang/invoke/VarHandle" ∧ (parseMethodDescriptor (yX6_take).desc).map (fun d => d.parameters.length) = some 1 := by decide +kernel
theorem gc93 : GoodIn WL (wsV "FuseBox$Reader" 54 "FuseBox$Reader" yX6_takeNumber (Cond.code yX6_takeNumber cX6_takeNumber 4 (some .int) :: WL)) := gin_V wd246 wd247 wd248 wd226 wd249
theorem gc94 : (yX6_takeNumber).cls = "FuseBox$Reader" ∧ (yX6_takeNumber).cls ≠ "java/lang/invoke/MethodHandle" ∧ (yX6_takeNumber).cls ≠ "java/lang/invoke/VarHandle" ∧ (parseMethodDescriptor (yX6_takeNumber).desc).map (fun d => d.parameters.length) = some 2 := by decide +kernel
theorem gc95 : GoodIn WL (va_wsS "FuseBox$Reader" 43 yX6_sortOf (Cond.code yX6_sortOf cX6_sortOf 1 (some .int) :: WL)) := gin_S wd251 wd252 wd226 wd253
theorem gc96 : (yX6_sortOf).cls ≠ "java/lang/invoke/MethodHandle" ∧ (yX6_sortOf).cls ≠ "java/lang/invoke/VarHandle" ∧ (parseMethodDescriptor (yX6_sortOf).desc).map (fun d => d.parameters.length) = some 1 := by decide +kernel
theorem gc97 : GoodIn WL (wsV "FuseBox$Reader" 67 "FuseBox$House" yX3_addLine (Cond.code yX3_addLine cX3_addLine 3 none :: WL)) := gin_V wd254 wd255 wd256 wd61 wd257
theorem gc98 : (yX3_addLine).cls = "FuseBox$House" ∧ (yX3_addLine).cls ≠ "java/lang/invoke/MethodHandle" ∧ (yX3_addLine).cls ≠ "java/lang/invoke/VarHandle" ∧ (parseMethodDescriptor (yX3_addLine).desc).map (fun d => d.parameters.length) = some 2 := by decide +kernel
theorem gc99 : GoodIn WL (wsV "FuseBox$Reader" 74 "FuseBox$House" yX3_addThing (Cond.code yX3_addThing cX3_addThing 4 none :: WL)) := gin_V wd259 wd260 wd261 wd61 wd262
theorem gc100 : (yX3_addThing).cls = "FuseBox$House" ∧ (yX3_addThing).cls ≠ "java/lang/invoke/MethodHandle" ∧ (yX3_addThing).cls ≠ "java/lang/invoke/VarHandle" ∧ (parseMethodDescriptor (yX3_addThing).desc).map (fun d => d.parameters.length) = some 3 := by decide +kernel
theorem gc101 : GoodIn WL (wsV "FuseBox$Reader" 25 "FuseBox$House" yX3_clear (Cond.code yX3_clear cX3_clear 1 none :: WL)) := gin_V wd264 wd265 wd266 wd61 wd267
theorem gc102 : (yX3_clear).cls = "FuseBox$House" ∧ (yX3_clear).cls ≠ "java/lang/invoke/MethodHandle" ∧ (yX3_clear).cls ≠ "java/lang/invoke/VarHandle" ∧ (parseMethodDescriptor (yX3_clear).desc).map (fun d => d.parameters.length) = some 0 := by decide +kernel
theorem gc103 : GoodIn WL (wsV "FuseBox$Reader" 33 "FuseBox$Reader" yX6_readLaw (Cond.code yX6_readLaw cX6_readLaw 2 none :: WL)) := gin_V wd268 wd269 wd270 wd226 wd271
theorem gc104 : (yX6_readLaw).cls = "FuseBox$Reader" ∧ (yX6_readLaw).cls ≠ "java/lang/invoke/MethodHandle" ∧ (yX6_readLaw).cls ≠ "java/lang/invoke/VarHandle" ∧ (parseMethodDescriptor (yX6_readLaw).desc).map (fun d => d.parameters.length) = some 1 := by decide +kernel
theorem gc105 : GoodIn WL (wsV "FuseBox$Reader" 37 "FuseBox$Reader" yX6_readLine (Cond.code yX6_readLine cX6_readLine 4 none :: WL)) := gin_V wd272 wd273 wd274 wd226 wd275
theorem gc106 : (yX6_readLine).cls = "FuseBox$Reader" ∧ (yX6_readLine).cls ≠ "java/lang/invoke/MethodHandle" ∧ (yX6_readLine).cls ≠ "java/lang/invoke/VarHandle" ∧ (parseMethodDescriptor (yX6_readLine).desc).map (fun d => d.parameters.length) = some 1 := by decide +kernel
theorem gc107 : GoodIn WL (wsV "FuseBox$Reader" 47 "FuseBox$Reader" yX6_readThing (Cond.code yX6_readThing cX6_readThing 5 none :: WL)) := gin_V wd276 wd277 wd278 wd226 wd279
theorem gc108 : (yX6_readThing).cls = "FuseBox$Reader" ∧ (yX6_readThing).cls ≠ "java/lang/invoke/MethodHandle" ∧ (yX6_readThing).cls ≠ "java/lang/invoke/VarHandle" ∧ (parseMethodDescriptor (yX6_readThing).desc).map (fun d => d.parameters.length) = some 1 := by decide +kernel
theorem gc109 : GoodIn WL (wsV "FuseBox$Slow" 7 "FuseBox$Trace" yX9_leave (Cond.code yX9_leave cX9_leave 2 none :: WL)) := gin_V wd283 wd13 wd14 wd15 wd16
theorem gc110 : GoodIn WL (va_wsSU "FuseBox$Slow" 17 yX10_markOf (Cond.code yX10_markOf cX10_markOf 4 (some .int) :: WL)) := gin_SU wd284 wd215 wd285 wd216 wd87 wd217
theorem gc111 : GoodIn WL (va_wsSU "FuseBox$Wire" 30 yX2_sizeOf (Cond.code yX2_sizeOf cX2_sizeOf 4 (some .int) :: WL)) := gin_SU wd286 wd20 wd211 wd22 wd23 wd24
theorem gc112 : GoodIn WL (va_wsO "FuseBox$Wire" 34 "FuseBox$Slow" "FuseBox$Wire" yX10_markOf yX8_markOf (Cond.code yX8_markOf cX8_markOf 4 (some .int) :: WL)) := gin_O wd287 wd215 wd216 wd288 wd289 wd95 wd290
theorem gc113 : ("FuseBox$Wire" : String) ≠ "java/lang/invoke/MethodHandle" ∧ ("FuseBox$Wire" : String) ≠ "java/lang/invoke/VarHandle" ∧ (parseMethodDescriptor (yX10_markOf).desc).map (fun d => d.parameters.length) = some 3 := by decide +kernel
theorem gc114 : GoodIn WL (va_wsSU "FuseBox$Slow" 13 yX10_sizeOf (Cond.code yX10_sizeOf cX10_sizeOf 5 (some .int) :: WL)) := gin_SU wd291 wd292 wd285 wd293 wd87 wd294
theorem gc115 : (yX10_sizeOf).name ≠ "<init>" ∧ (parseMethodDescriptor (yX10_sizeOf).desc).map (fun d => d.parameters.length) = some 3 := by decide +kernel
theorem gc116 : GoodIn WL (wsV "FuseBox$Wire" 34 "FuseBox$Wire" yX10_markOf (Cond.code yX10_markOf cX10_markOf 4 (some .int) :: WL)) := gin_V wd287 wd216 wd295 wd87 wd217
theorem gc117 : (yX10_markOf).cls = "FuseBox$Wire" ∧ (yX10_markOf).cls ≠ "java/lang/invoke/MethodHandle" ∧ (yX10_markOf).cls ≠ "java/lang/invoke/VarHandle" ∧ (parseMethodDescriptor (yX10_markOf).desc).map (fun d => d.parameters.length) = some 3 := by decide +kernel
theorem gc118 : GoodIn WL (va_wsO "FuseBox$Wire" 34 "FuseBox$Quick" "FuseBox$Wire" yX10_markOf yX5_markOf (Cond.code yX5_markOf cX5_markOf 4 (some .int) :: WL)) := gin_O wd287 wd215 wd216 wd296 wd297 wd125 wd298
theorem gc119 : GoodIn WL (va_wsS "FuseBox" 73 yX11_noRow (Cond.code yX11_noRow cX11_noRow 1 (some .boolean) :: WL)) := gin_S wd301 wd302 wd303 wd304
theorem gc120 : (yX11_noRow).cls ≠ "java/lang/invoke/MethodHandle" ∧ (yX11_noRow).cls ≠ "java/lang/invoke/VarHandle" ∧ (parseMethodDescriptor (yX11_noRow).desc).map (fun d => d.parameters.length) = some 1 := by decide +kernel
theorem gc121 : GoodIn WL (wsV "FuseBox" 82 "FuseBox$Row" yX7_begin (Cond.code yX7_begin cX7_begin 4 none :: WL)) := gin_V wd307 wd308 wd309 wd310 wd311
theorem gc122 : (yX7_begin).cls = "FuseBox$Row" ∧ (yX7_begin).cls ≠ "java/lang/invoke/MethodHandle" ∧ (yX7_begin).cls ≠ "java/lang/invoke/VarHandle" ∧ (parseMethodDescriptor (yX7_begin).desc).map (fun d => d.parameters.length) = some 2 := by decide +kernel
theorem gc123 : GoodIn WL (wsV "FuseBox" 86 "FuseBox" yX11_fine (Cond.code yX11_fine cX11_fine 2 (some .int) :: WL)) := gin_V wd312 wd313 wd314 wd303 wd315
theorem gc124 : (yX11_fine).cls = "FuseBox" ∧ (yX11_fine).cls ≠ "java/lang/invoke/MethodHandle" ∧ (yX11_fine).cls ≠ "java/lang/invoke/VarHandle" ∧ (parseMethodDescriptor (yX11_fine).desc).map (fun d => d.parameters.length) = some 1 := by decide +kernel
theorem gc125 : GoodIn WL (wsV "FuseBox" 78 "FuseBox" yX11_found (Cond.code yX11_found cX11_found 2 (some .int) :: WL)) := gin_V wd316 wd317 wd318 wd303 wd319
theorem gc126 : (yX11_found).cls = "FuseBox" ∧ (yX11_found).cls ≠ "java/lang/invoke/MethodHandle" ∧ (yX11_found).cls ≠ "java/lang/invoke/VarHandle" ∧ (parseMethodDescriptor (yX11_found).desc).map (fun d => d.parameters.length) = some 1 := by decide +kernel
theorem gc127 : GoodIn WL (wsV "FuseBox" 89 "FuseBox$Row" yX7_isMissing (Cond.code yX7_isMissing cX7_isMissing 1 (some .boolean) :: WL)) := gin_V wd320 wd321 wd322 wd310 wd323
theorem gc128 : (yX7_isMissing).cls = "FuseBox$Row" ∧ (yX7_isMissing).cls ≠ "java/lang/invoke/MethodHandle" ∧ (yX7_isMissing).cls ≠ "java/lang/invoke/VarHandle" ∧ (parseMethodDescriptor (yX7_isMissing).desc).map (fun d => d.parameters.length) = some 0 := by decide +kernel
theorem gc129 : GoodIn WL (wsV "FuseBox" 93 "FuseBox$Row" yX7_has (Cond.code yX7_has cX7_has 3 (some .boolean) :: WL)) := gin_V wd324 wd325 wd326 wd310 wd327
theorem gc130 : (yX7_has).cls = "FuseBox$Row" ∧ (yX7_has).cls ≠ "java/lang/invoke/MethodHandle" ∧ (yX7_has).cls ≠ "java/lang/invoke/VarHandle" ∧ (parseMethodDescriptor (yX7_has).desc).map (fun d => d.parameters.length) = some 2 := by decide +kernel
theorem gc131 : GoodIn WL (wsV "FuseBox" 101 "FuseBox$Row" yX7_cut (Cond.code yX7_cut cX7_cut 2 (some .int) :: WL)) := gin_V wd329 wd330 wd331 wd310 wd332
theorem gc132 : (yX7_cut).cls = "FuseBox$Row" ∧ (yX7_cut).cls ≠ "java/lang/invoke/MethodHandle" ∧ (yX7_cut).cls ≠ "java/lang/invoke/VarHandle" ∧ (parseMethodDescriptor (yX7_cut).desc).map (fun d => d.parameters.length) = some 1 := by decide +kernel
theorem gc133 : GoodIn WL (wsV "FuseBox" 117 "FuseBox$Row" yX7_end (Cond.code yX7_end cX7_end 1 none :: WL)) := gin_V wd336 wd337 wd338 wd310 wd339
theorem gc134 : (yX7_end).cls = "FuseBox$Row" ∧ (yX7_end).cls ≠ "java/lang/invoke/MethodHandle" ∧ (yX7_end).cls ≠ "java/lang/invoke/VarHandle" ∧ (parseMethodDescriptor (yX7_end).desc).map (fun d => d.parameters.length) = some 0 := by decide +kernel
theorem gc135 : GoodIn WL (wsV "FuseBox" 126 "FuseBox$Reader" yX6_append (Cond.code yX6_append cX6_append 2 (some .int) :: WL)) := gin_V wd342 wd343 wd344 wd226 wd345
theorem gc136 : (yX6_append).cls = "FuseBox$Reader" ∧ (yX6_append).cls ≠ "java/lang/invoke/MethodHandle" ∧ (yX6_append).cls ≠ "java/lang/invoke/VarHandle" ∧ (parseMethodDescriptor (yX6_append).desc).map (fun d => d.parameters.length) = some 1 := by decide +kernel
theorem gc137 : GoodIn WL (wsV "FuseBox" 129 "FuseBox$Reader" yX6_readInto (Cond.code yX6_readInto cX6_readInto 3 (some .int) :: WL)) := gin_V wd350 wd351 wd352 wd226 wd353
theorem gc138 : (yX6_readInto).cls = "FuseBox$Reader" ∧ (yX6_readInto).cls ≠ "java/lang/invoke/MethodHandle" ∧ (yX6_readInto).cls ≠ "java/lang/invoke/VarHandle" ∧ (parseMethodDescriptor (yX6_readInto).desc).map (fun d => d.parameters.length) = some 1 := by decide +kernel
theorem gc139 : GoodIn WL (wsV "FuseBox" 140 "FuseBox$House" yX3_become (Cond.code yX3_become cX3_become 2 none :: WL)) := gin_V wd355 wd356 wd357 wd61 wd358
theorem gc140 : (yX3_become).cls = "FuseBox$House" ∧ (yX3_become).cls ≠ "java/lang/invoke/MethodHandle" ∧ (yX3_become).cls ≠ "java/lang/invoke/VarHandle" ∧ (parseMethodDescriptor (yX3_become).desc).map (fun d => d.parameters.length) = some 1 := by decide +kernel
theorem gc141 : GoodIn WL (wsV "FuseBox" 144 "FuseBox" yX11_forgetActs (Cond.code yX11_forgetActs cX11_forgetActs 1 none :: WL)) := gin_V wd359 wd360 wd361 wd303 wd362
theorem gc142 : (yX11_forgetActs).cls = "FuseBox" ∧ (yX11_forgetActs).cls ≠ "java/lang/invoke/MethodHandle" ∧ (yX11_forgetActs).cls ≠ "java/lang/invoke/VarHandle" ∧ (parseMethodDescriptor (yX11_forgetActs).desc).map (fun d => d.parameters.length) = some 0 := by decide +kernel
theorem gc143 : GoodIn WL (wsV "FuseBox" 150 "FuseBox" yX11_noHouse (Cond.code yX11_noHouse cX11_noHouse 1 (some .boolean) :: WL)) := gin_V wd368 wd369 wd370 wd303 wd371
theorem gc144 : (yX11_noHouse).cls = "FuseBox" ∧ (yX11_noHouse).cls ≠ "java/lang/invoke/MethodHandle" ∧ (yX11_noHouse).cls ≠ "java/lang/invoke/VarHandle" ∧ (parseMethodDescriptor (yX11_noHouse).desc).map (fun d => d.parameters.length) = some 0 := by decide +kernel
theorem gc145 : GoodIn WL (wsV "FuseBox" 163 "FuseBox$House" yX3_liveLines (Cond.code yX3_liveLines cX3_liveLines 3 (some .int) :: WL)) := gin_V wd373 wd374 wd375 wd61 wd376
theorem gc146 : (yX3_liveLines).cls = "FuseBox$House" ∧ (yX3_liveLines).cls ≠ "java/lang/invoke/MethodHandle" ∧ (yX3_liveLines).cls ≠ "java/lang/invoke/VarHandle" ∧ (parseMethodDescriptor (yX3_liveLines).desc).map (fun d => d.parameters.length) = some 0 := by decide +kernel
theorem gc147 : GoodIn WL (wsV "FuseBox" 157 "FuseBox" yX11_keepAct (Cond.code yX11_keepAct cX11_keepAct 1 none :: WL)) := gin_V wd377 wd378 wd379 wd303 wd380
theorem gc148 : (yX11_keepAct).cls = "FuseBox" ∧ (yX11_keepAct).cls ≠ "java/lang/invoke/MethodHandle" ∧ (yX11_keepAct).cls ≠ "java/lang/invoke/VarHandle" ∧ (parseMethodDescriptor (yX11_keepAct).desc).map (fun d => d.parameters.length) = some 0 := by decide +kernel
theorem gc149 : GoodIn WL (wsV "FuseBox" 160 "FuseBox$House" yX3_passMinute (Cond.code yX3_passMinute cX3_passMinute 3 none :: WL)) := gin_V wd381 wd138 wd139 wd61 wd140
theorem gc150 : GoodIn WL (wsV "FuseBox" 167 "FuseBox" yX11_noThing (Cond.code yX11_noThing cX11_noThing 2 (some .boolean) :: WL)) := gin_V wd384 wd385 wd386 wd303 wd387
theorem gc151 : (yX11_noThing).cls = "FuseBox" ∧ (yX11_noThing).cls ≠ "java/lang/invoke/MethodHandle" ∧ (yX11_noThing).cls ≠ "java/lang/invoke/VarHandle" ∧ (parseMethodDescriptor (yX11_noThing).desc).map (fun d => d.parameters.length) = some 1 := by decide +kernel
theorem gc152 : GoodIn WL (wsV "FuseBox" 170 "FuseBox$House" yX3_isOn (Cond.code yX3_isOn cX3_isOn 2 (some .boolean) :: WL)) := gin_V wd388 wd59 wd60 wd61 wd62
theorem gc153 : GoodIn WL (wsV "FuseBox" 173 "FuseBox$House" yX3_toggle (Cond.code yX3_toggle cX3_toggle 2 none :: WL)) := gin_V wd389 wd152 wd153 wd61 wd154
theorem gc154 : GoodIn WL (wsV "FuseBox" 177 "FuseBox$House" yX3_runningThings (Cond.code yX3_runningThings cX3_runningThings 3 (some .int) :: WL)) := gin_V wd390 wd391 wd392 wd61 wd393
theorem gc155 : (yX3_runningThings).cls = "FuseBox$House" ∧ (yX3_runningThings).cls ≠ "java/lang/invoke/MethodHandle" ∧ (yX3_runningThings).cls ≠ "java/lang/invoke/VarHandle" ∧ (parseMethodDescriptor (yX3_runningThings).desc).map (fun d => d.parameters.length) = some 0 := by decide +kernel
theorem gc156 : GoodIn WL (wsV "FuseBox" 180 "FuseBox" yX11_noLine (Cond.code yX11_noLine cX11_noLine 2 (some .boolean) :: WL)) := gin_V wd394 wd395 wd396 wd303 wd397
theorem gc157 : (yX11_noLine).cls = "FuseBox" ∧ (yX11_noLine).cls ≠ "java/lang/invoke/MethodHandle" ∧ (yX11_noLine).cls ≠ "java/lang/invoke/VarHandle" ∧ (parseMethodDescriptor (yX11_noLine).desc).map (fun d => d.parameters.length) = some 1 := by decide +kernel
theorem gc158 : GoodIn WL (wsV "FuseBox" 186 "FuseBox$House" yX3_isDead (Cond.code yX3_isDead cX3_isDead 2 (some .boolean) :: WL)) := gin_V wd399 wd68 wd69 wd61 wd70
theorem gc159 : GoodIn WL (wsV "FuseBox" 189 "FuseBox$House" yX3_mendLine (Cond.code yX3_mendLine cX3_mendLine 2 none :: WL)) := gin_V wd400 wd142 wd143 wd61 wd144
theorem gc160 : GoodIn WL (wsV "FuseBox" 192 "FuseBox$House" yX3_deadLines (Cond.code yX3_deadLines cX3_deadLines 3 (some .int) :: WL)) := gin_V wd401 wd402 wd403 wd61 wd404
theorem gc161 : (yX3_deadLines).cls = "FuseBox$House" ∧ (yX3_deadLines).cls ≠ "java/lang/invoke/MethodHandle" ∧ (yX3_deadLines).cls ≠ "java/lang/invoke/VarHandle" ∧ (parseMethodDescriptor (yX3_deadLines).desc).map (fun d => d.parameters.length) = some 0 := by decide +kernel
theorem gc162 : GoodIn WL (wsV "FuseBox" 214 "FuseBox$House" yX3_isLive (Cond.code yX3_isLive cX3_isLive 2 (some .boolean) :: WL)) := gin_V wd409 wd64 wd65 wd61 wd66
theorem gc163 : GoodIn WL (wsV "FuseBox" 217 "FuseBox$House" yX3_flowOf (Cond.code yX3_flowOf cX3_flowOf 2 (some .int) :: WL)) := gin_V wd410 wd411 wd412 wd61 wd413
theorem gc164 : (yX3_flowOf).cls = "FuseBox$House" ∧ (yX3_flowOf).cls ≠ "java/lang/invoke/MethodHandle" ∧ (yX3_flowOf).cls ≠ "java/lang/invoke/VarHandle" ∧ (parseMethodDescriptor (yX3_flowOf).desc).map (fun d => d.parameters.length) = some 1 := by decide +kernel
theorem gc165 : GoodIn WL (wsV "FuseBox" 220 "FuseBox$House" yX3_pluggedInto (Cond.code yX3_pluggedInto cX3_pluggedInto 4 (some .int) :: WL)) := gin_V wd414 wd415 wd416 wd61 wd417
theorem gc166 : (yX3_pluggedInto).cls = "FuseBox$House" ∧ (yX3_pluggedInto).cls ≠ "java/lang/invoke/MethodHandle" ∧ (yX3_pluggedInto).cls ≠ "java/lang/invoke/VarHandle" ∧ (parseMethodDescriptor (yX3_pluggedInto).desc).map (fun d => d.parameters.length) = some 1 := by decide +kernel
theorem gc167 : GoodIn WL (wsV "FuseBox" 226 "FuseBox$House" yX3_runs (Cond.code yX3_runs cX3_runs 2 (some .boolean) :: WL)) := gin_V wd419 wd72 wd73 wd61 wd74
theorem gc168 : GoodIn WL (wsV "FuseBox" 232 "FuseBox" yX11_foretell (Cond.code yX11_foretell cX11_foretell 3 none :: WL)) := gin_V wd420 wd421 wd422 wd303 wd423
theorem gc169 : (yX11_foretell).cls = "FuseBox" ∧ (yX11_foretell).cls ≠ "java/lang/invoke/MethodHandle" ∧ (yX11_foretell).cls ≠ "java/lang/invoke/VarHandle" ∧ (parseMethodDescriptor (yX11_foretell).desc).map (fun d => d.parameters.length) = some 1 := by decide +kernel
theorem gc170 : GoodIn WL (va_wsS "FuseBox" 242 yJ6_bitCount_0f7a4 (Cond.code yJ6_bitCount_0f7a4 cJ6_bitCount_0f7a4 1 (some .int) :: WL)) := gin_S wd427 wd182 wd183 wd184
theorem gc171 : GoodIn WL (wsV "FuseBox" 247 "FuseBox" yX11_runsWithout (Cond.code yX11_runsWithout cX11_runsWithout 5 (some .boolean) :: WL)) := gin_V wd428 wd429 wd430 wd303 wd431
theorem gc172 : (yX11_runsWithout).cls = "FuseBox" ∧ (yX11_runsWithout).cls ≠ "java/lang/invoke/MethodHandle" ∧ (yX11_runsWithout).cls ≠ "java/lang/invoke/VarHandle" ∧ (parseMethodDescriptor (yX11_runsWithout).desc).map (fun d => d.parameters.length) = some 3 := by decide +kernel
theorem gc173 : GoodIn WL (wsV "FuseBox" 251 "FuseBox$Plugging" yX4_search (Cond.code yX4_search cX4_search 4 none :: WL)) := gin_V wd433 wd434 wd435 wd175 wd436
theorem gc174 : (yX4_search).cls = "FuseBox$Plugging" ∧ (yX4_search).cls ≠ "java/lang/invoke/MethodHandle" ∧ (yX4_search).cls ≠ "java/lang/invoke/VarHandle" ∧ (parseMethodDescriptor (yX4_search).desc).map (fun d => d.parameters.length) = some 2 := by decide +kernel
theorem gc175 : GoodIn WL (wsV "FuseBox" 261 "FuseBox$House" yX3_staysLive (Cond.code yX3_staysLive cX3_staysLive 4 (some .boolean) :: WL)) := gin_V wd439 wd440 wd441 wd61 wd442
theorem gc176 : (yX3_staysLive).cls = "FuseBox$House" ∧ (yX3_staysLive).cls ≠ "java/lang/invoke/MethodHandle" ∧ (yX3_staysLive).cls ≠ "java/lang/invoke/VarHandle" ∧ (parseMethodDescriptor (yX3_staysLive).desc).map (fun d => d.parameters.length) = some 2 := by decide +kernel
theorem gc177 : GoodIn WL (wsV "FuseBox" 264 "FuseBox$House" yX3_reckonFlows (Cond.code yX3_reckonFlows cX3_reckonFlows 3 (some .int) :: WL)) := gin_V wd443 wd77 wd78 wd61 wd79
theorem gc178 : GoodIn WL (wsV "FuseBox" 303 "FuseBox$House" yX3_takeKind (Cond.code yX3_takeKind cX3_takeKind 3 none :: WL)) := gin_V wd444 wd445 wd446 wd61 wd447
theorem gc179 : (yX3_takeKind).cls = "FuseBox$House" ∧ (yX3_takeKind).cls ≠ "java/lang/invoke/MethodHandle" ∧ (yX3_takeKind).cls ≠ "java/lang/invoke/VarHandle" ∧ (parseMethodDescriptor (yX3_takeKind).desc).map (fun d => d.parameters.length) = some 2 := by decide +kernel
theorem gc180 : GoodIn WL (wsV "FuseBox" 306 "FuseBox$House" yX3_heatsAs (Cond.code yX3_heatsAs cX3_heatsAs 6 (some .boolean) :: WL)) := gin_V wd448 wd449 wd450 wd61 wd451
theorem gc181 : (yX3_heatsAs).cls = "FuseBox$House" ∧ (yX3_heatsAs).cls ≠ "java/lang/invoke/MethodHandle" ∧ (yX3_heatsAs).cls ≠ "java/lang/invoke/VarHandle" ∧ (parseMethodDescriptor (yX3_heatsAs).desc).map (fun d => d.parameters.length) = some 4 := by decide +kernel
theorem gc182 : GoodIn WL (wsV "FuseBox" 267 "FuseBox" yX11_sortsThatFit (Cond.code yX11_sortsThatFit cX11_sortsThatFit 7 (some .int) :: WL)) := gin_V wd453 wd454 wd455 wd303 wd456
theorem gc183 : (yX11_sortsThatFit).cls = "FuseBox" ∧ (yX11_sortsThatFit).cls ≠ "java/lang/invoke/MethodHandle" ∧ (yX11_sortsThatFit).cls ≠ "java/lang/invoke/VarHandle" ∧ (parseMethodDescriptor (yX11_sortsThatFit).desc).map (fun d => d.parameters.length) = some 4 := by decide +kernel
theorem gc184 : GoodIn WL (wsV "FuseBox" 271 "FuseBox" yX11_ratesThatFit (Cond.code yX11_ratesThatFit cX11_ratesThatFit 7 (some .int) :: WL)) := gin_V wd457 wd458 wd459 wd303 wd460
theorem gc185 : (yX11_ratesThatFit).cls = "FuseBox" ∧ (yX11_ratesThatFit).cls ≠ "java/lang/invoke/MethodHandle" ∧ (yX11_ratesThatFit).cls ≠ "java/lang/invoke/VarHandle" ∧ (parseMethodDescriptor (yX11_ratesThatFit).desc).map (fun d => d.parameters.length) = some 4 := by decide +kernel
theorem gc186 : GoodIn WL (wsV "FuseBox" 274 "FuseBox" yX11_heatsThatFit (Cond.code yX11_heatsThatFit cX11_heatsThatFit 7 (some .int) :: WL)) := gin_V wd461 wd462 wd463 wd303 wd464
theorem gc187 : (yX11_heatsThatFit).cls = "FuseBox" ∧ (yX11_heatsThatFit).cls ≠ "java/lang/invoke/MethodHandle" ∧ (yX11_heatsThatFit).cls ≠ "java/lang/invoke/VarHandle" ∧ (parseMethodDescriptor (yX11_heatsThatFit).desc).map (fun d => d.parameters.length) = some 4 := by decide +kernel
theorem gc188 : GoodIn WL (wsV "FuseBox" 277 "FuseBox" yX11_mainsThatFit (Cond.code yX11_mainsThatFit cX11_mainsThatFit 9 (some .int) :: WL)) := gin_V wd465 wd466 wd467 wd303 wd468
theorem gc189 : (yX11_mainsThatFit).cls = "FuseBox" ∧ (yX11_mainsThatFit).cls ≠ "java/lang/invoke/MethodHandle" ∧ (yX11_mainsThatFit).cls ≠ "java/lang/invoke/VarHandle" ∧ (parseMethodDescriptor (yX11_mainsThatFit).desc).map (fun d => d.parameters.length) = some 5 := by decide +kernel
theorem gc190 : GoodIn WL (va_wsS "FuseBox" 288 yX11_commonDivisor (Cond.code yX11_commonDivisor cX11_commonDivisor 4 (some .int) :: WL)) := gin_S wd469 wd470 wd303 wd471
theorem gc191 : (yX11_commonDivisor).cls ≠ "java/lang/invoke/MethodHandle" ∧ (yX11_commonDivisor).cls ≠ "java/lang/invoke/VarHandle" ∧ (parseMethodDescriptor (yX11_commonDivisor).desc).map (fun d => d.parameters.length) = some 2 := by decide +kernel
theorem gc192 : GoodIn WL (wsV "FuseBox" 285 "FuseBox" yX11_isLiveWithout (Cond.code yX11_isLiveWithout cX11_isLiveWithout 5 (some .boolean) :: WL)) := gin_V wd472 wd473 wd474 wd303 wd475
theorem gc193 : (yX11_isLiveWithout).cls = "FuseBox" ∧ (yX11_isLiveWithout).cls ≠ "java/lang/invoke/MethodHandle" ∧ (yX11_isLiveWithout).cls ≠ "java/lang/invoke/VarHandle" ∧ (parseMethodDescriptor (yX11_isLiveWithout).desc).map (fun d => d.parameters.length) = some 3 := by decide +kernel
theorem gc194 : GoodIn WL (wsV "FuseBox" 281 "FuseBox" yX11_weightOf (Cond.code yX11_weightOf cX11_weightOf 5 (some .int) :: WL)) := gin_V wd476 wd477 wd478 wd303 wd479
theorem gc195 : (yX11_weightOf).cls = "FuseBox" ∧ (yX11_weightOf).cls ≠ "java/lang/invoke/MethodHandle" ∧ (yX11_weightOf).cls ≠ "java/lang/invoke/VarHandle" ∧ (parseMethodDescriptor (yX11_weightOf).desc).map (fun d => d.parameters.length) = some 2 := by decide +kernel
theorem gc196 : GoodIn WL (wsV "FuseBox" 296 "FuseBox$House" yX3_draw (Cond.code yX3_draw cX3_draw 3 none :: WL)) := gin_V wd483 wd484 wd485 wd61 wd486
theorem gc197 : (yX3_draw).cls = "FuseBox$House" ∧ (yX3_draw).cls ≠ "java/lang/invoke/MethodHandle" ∧ (yX3_draw).cls ≠ "java/lang/invoke/VarHandle" ∧ (parseMethodDescriptor (yX3_draw).desc).map (fun d => d.parameters.length) = some 1 := by decide +kernel
theorem gc198 : GoodIn WL (va_wsS "FuseBox" 300 yX11_noImage (Cond.code yX11_noImage cX11_noImage 1 (some .boolean) :: WL)) := gin_S wd487 wd488 wd303 wd489
theorem gc199 : (yX11_noImage).cls ≠ "java/lang/invoke/MethodHandle" ∧ (yX11_noImage).cls ≠ "java/lang/invoke/VarHandle" ∧ (parseMethodDescriptor (yX11_noImage).desc).map (fun d => d.parameters.length) = some 1 := by decide +kernel
theorem gc200 : GoodIn WL (wsV "FuseBox" 316 "FuseBox$House" yX3_fuseOf (Cond.code yX3_fuseOf cX3_fuseOf 2 (some (.object "FuseBox$Fuse")) :: WL)) := gin_V wd497 wd105 wd106 wd61 wd107
theorem gc201 : GoodIn WL (va_wsS "FuseBox" 320 yX11_isA (Cond.code yX11_isA cX11_isA 2 (some .boolean) :: WL)) := gin_S wd498 wd499 wd303 wd500
theorem gc202 : (yX11_isA).cls ≠ "java/lang/invoke/MethodHandle" ∧ (yX11_isA).cls ≠ "java/lang/invoke/VarHandle" ∧ (parseMethodDescriptor (yX11_isA).desc).map (fun d => d.parameters.length) = some 2 := by decide +kernel
theorem gc203 : GoodIn WL (wsV "FuseBox" 324 "FuseBox$Trace" yX9_empty (Cond.code yX9_empty cX9_empty 1 none :: WL)) := gin_V wd502 wd503 wd504 wd15 wd505
theorem gc204 : (yX9_empty).cls = "FuseBox$Trace" ∧ (yX9_empty).cls ≠ "java/lang/invoke/MethodHandle" ∧ (yX9_empty).cls ≠ "java/lang/invoke/VarHandle" ∧ (parseMethodDescriptor (yX9_empty).desc).map (fun d => d.parameters.length) = some 0 := by decide +kernel
theorem gc205 : GoodIn WL (va_wsO "FuseBox" 331 "FuseBox$Wire" "FuseBox$Fuse" yX2_markOf yX10_markOf (Cond.code yX10_markOf cX10_markOf 4 (some .int) :: WL)) := gin_O wd506 wd26 wd27 wd507 wd216 wd87 wd217
theorem gc206 : ("FuseBox$Fuse" : String) ≠ "java/lang/invoke/MethodHandle" ∧ ("FuseBox$Fuse" : String) ≠ "java/lang/invoke/VarHandle" ∧ (parseMethodDescriptor (yX2_markOf).desc).map (fun d => d.parameters.length) = some 3 := by decide +kernel
theorem gc207 : GoodIn WL (va_wsO "FuseBox" 331 "FuseBox$Slow" "FuseBox$Fuse" yX2_markOf yX8_markOf (Cond.code yX8_markOf cX8_markOf 4 (some .int) :: WL)) := gin_O wd506 wd26 wd27 wd508 wd289 wd95 wd290
theorem gc208 : GoodIn WL (va_wsO "FuseBox" 331 "FuseBox$Quick" "FuseBox$Fuse" yX2_markOf yX5_markOf (Cond.code yX5_markOf cX5_markOf 4 (some .int) :: WL)) := gin_O wd506 wd26 wd27 wd509 wd297 wd125 wd298
theorem gc209 : GoodIn WL (va_wsO "FuseBox" 331 "FuseBox$Breaker" "FuseBox$Fuse" yX2_markOf yX0_markOf (Cond.code yX0_markOf cX0_markOf 5 (some .int) :: WL)) := gin_O wd506 wd26 wd27 wd510 wd511 wd3 wd512
theorem gc210 : GoodIn WL (va_wsO "FuseBox" 331 "FuseBox$Coil" "FuseBox$Fuse" yX2_markOf yX0_markOf (Cond.code yX0_markOf cX0_markOf 5 (some .int) :: WL)) := gin_O wd506 wd26 wd27 wd513 wd511 wd3 wd512
theorem gc211 : GoodIn WL (va_wsO "FuseBox" 327 "FuseBox$Wire" "FuseBox$Fuse" yX2_sizeOf yX10_sizeOf (Cond.code yX10_sizeOf cX10_sizeOf 5 (some .int) :: WL)) := gin_O wd514 wd20 wd22 wd515 wd293 wd87 wd294
theorem gc212 : ("FuseBox$Fuse" : String) ≠ "java/lang/invoke/MethodHandle" ∧ ("FuseBox$Fuse" : String) ≠ "java/lang/invoke/VarHandle" ∧ (parseMethodDescriptor (yX2_sizeOf).desc).map (fun d => d.parameters.length) = some 3 := by decide +kernel
theorem gc213 : GoodIn WL (va_wsO "FuseBox" 327 "FuseBox$Slow" "FuseBox$Fuse" yX2_sizeOf yX8_sizeOf (Cond.code yX8_sizeOf cX8_sizeOf 4 (some .int) :: WL)) := gin_O wd514 wd20 wd22 wd516 wd517 wd95 wd518
theorem gc214 : GoodIn WL (va_wsO "FuseBox" 327 "FuseBox$Quick" "FuseBox$Fuse" yX2_sizeOf yX10_sizeOf (Cond.code yX10_sizeOf cX10_sizeOf 5 (some .int) :: WL)) := gin_O wd514 wd20 wd22 wd519 wd293 wd87 wd294
theorem gc215 : GoodIn WL (va_wsO "FuseBox" 327 "FuseBox$Breaker" "FuseBox$Fuse" yX2_sizeOf yX0_sizeOf (Cond.code yX0_sizeOf cX0_sizeOf 4 (some .int) :: WL)) := gin_O wd514 wd20 wd22 wd520 wd30 wd3 wd32
theorem gc216 : GoodIn WL (va_wsO "FuseBox" 327 "FuseBox$Coil" "FuseBox$Fuse" yX2_sizeOf yX1_sizeOf (Cond.code yX1_sizeOf cX1_sizeOf 4 (some .int) :: WL)) := gin_O wd514 wd20 wd22 wd521 wd38 wd8 wd39
theorem gc217 : GoodIn WL (wsV "FuseBox" 338 "FuseBox" yX11_rowsThere (Cond.code yX11_rowsThere cX11_rowsThere 3 (some .int) :: WL)) := gin_V wd524 wd525 wd526 wd303 wd527
theorem gc218 : (yX11_rowsThere).cls = "FuseBox" ∧ (yX11_rowsThere).cls ≠ "java/lang/invoke/MethodHandle" ∧ (yX11_rowsThere).cls ≠ "java/lang/invoke/VarHandle" ∧ (parseMethodDescriptor (yX11_rowsThere).desc).map (fun d => d.parameters.length) = some 0 := by decide +kernel
theorem gc219 : GoodIn WL (va_wsS "FuseBoxModel" 60 yX12_in (Cond.code yX12_in cX12_in 6 (some .boolean) :: WL)) := gin_S wd531 wd532 wd533 wd534
theorem gc220 : (yX12_in).cls ≠ "java/lang/invoke/MethodHandle" ∧ (yX12_in).cls ≠ "java/lang/invoke/VarHandle" ∧ (parseMethodDescriptor (yX12_in).desc).map (fun d => d.parameters.length) = some 3 := by decide +kernel
theorem gc221 : GoodIn WL (wsV "FuseBoxModel" 71 "FuseBoxModel" yX12_fine (Cond.code yX12_fine cX12_fine 2 (some .int) :: WL)) := gin_V wd539 wd540 wd541 wd533 wd542
theorem gc222 : (yX12_fine).cls = "FuseBoxModel" ∧ (yX12_fine).cls ≠ "java/lang/invoke/MethodHandle" ∧ (yX12_fine).cls ≠ "java/lang/invoke/VarHandle" ∧ (parseMethodDescriptor (yX12_fine).desc).map (fun d => d.parameters.length) = some 1 := by decide +kernel
theorem gc223 : GoodIn WL (wsV "FuseBoxModel" 67 "FuseBoxModel" yX12_finds (Cond.code yX12_finds cX12_finds 2 (some .int) :: WL)) := gin_V wd544 wd545 wd546 wd533 wd547
theorem gc224 : (yX12_finds).cls = "FuseBoxModel" ∧ (yX12_finds).cls ≠ "java/lang/invoke/MethodHandle" ∧ (yX12_finds).cls ≠ "java/lang/invoke/VarHandle" ∧ (parseMethodDescriptor (yX12_finds).desc).map (fun d => d.parameters.length) = some 1 := by decide +kernel
theorem gc225 : GoodIn WL (wsV "FuseBoxModel" 86 "FuseBoxModel" yX12_byteAt (Cond.code yX12_byteAt cX12_byteAt 2 (some .int) :: WL)) := gin_V wd555 wd556 wd557 wd533 wd558
theorem gc226 : (yX12_byteAt).cls = "FuseBoxModel" ∧ (yX12_byteAt).cls ≠ "java/lang/invoke/MethodHandle" ∧ (yX12_byteAt).cls ≠ "java/lang/invoke/VarHandle" ∧ (parseMethodDescriptor (yX12_byteAt).desc).map (fun d => d.parameters.length) = some 1 := by decide +kernel
theorem gc227 : GoodIn WL (wsV "FuseBoxModel" 103 "FuseBoxModel" yX12_token (Cond.code yX12_token cX12_token 3 (some .int) :: WL)) := gin_V wd565 wd566 wd567 wd533 wd568
theorem gc228 : (yX12_token).cls = "FuseBoxModel" ∧ (yX12_token).cls ≠ "java/lang/invoke/MethodHandle" ∧ (yX12_token).cls ≠ "java/lang/invoke/VarHandle" ∧ (parseMethodDescriptor (yX12_token).desc).map (fun d => d.parameters.length) = some 0 := by decide +kernel
theorem gc229 : GoodIn WL (wsV "FuseBoxModel" 107 "FuseBoxModel" yX12_wants (Cond.code yX12_wants cX12_wants 4 (some .int) :: WL)) := gin_V wd570 wd571 wd572 wd533 wd573
theorem gc230 : (yX12_wants).cls = "FuseBoxModel" ∧ (yX12_wants).cls ≠ "java/lang/invoke/MethodHandle" ∧ (yX12_wants).cls ≠ "java/lang/invoke/VarHandle" ∧ (parseMethodDescriptor (yX12_wants).desc).map (fun d => d.parameters.length) = some 2 := by decide +kernel
theorem gc231 : GoodIn WL (wsV "FuseBoxModel" 111 "FuseBoxModel" yX12_sign (Cond.code yX12_sign cX12_sign 2 none :: WL)) := gin_V wd574 wd575 wd576 wd533 wd577
theorem gc232 : (yX12_sign).cls = "FuseBoxModel" ∧ (yX12_sign).cls ≠ "java/lang/invoke/MethodHandle" ∧ (yX12_sign).cls ≠ "java/lang/invoke/VarHandle" ∧ (parseMethodDescriptor (yX12_sign).desc).map (fun d => d.parameters.length) = some 1 := by decide +kernel
theorem gc233 : GoodIn WL (wsV "FuseBoxModel" 121 "FuseBoxModel" yX12_thingItem (Cond.code yX12_thingItem cX12_thingItem 4 none :: WL)) := gin_V wd581 wd582 wd583 wd533 wd584
theorem gc234 : (yX12_thingItem).cls = "FuseBoxModel" ∧ (yX12_thingItem).cls ≠ "java/lang/invoke/MethodHandle" ∧ (yX12_thingItem).cls ≠ "java/lang/invoke/VarHandle" ∧ (parseMethodDescriptor (yX12_thingItem).desc).map (fun d => d.parameters.length) = some 0 := by decide +kernel
theorem gc235 : GoodIn WL (wsV "FuseBoxModel" 118 "FuseBoxModel" yX12_lineItem (Cond.code yX12_lineItem cX12_lineItem 3 none :: WL)) := gin_V wd585 wd586 wd587 wd533 wd588
theorem gc236 : (yX12_lineItem).cls = "FuseBoxModel" ∧ (yX12_lineItem).cls ≠ "java/lang/invoke/MethodHandle" ∧ (yX12_lineItem).cls ≠ "java/lang/invoke/VarHandle" ∧ (parseMethodDescriptor (yX12_lineItem).desc).map (fun d => d.parameters.length) = some 1 := by decide +kernel
theorem gc237 : GoodIn WL (va_wsS "FuseBoxModel" 115 yX12_sortOf (Cond.code yX12_sortOf cX12_sortOf 1 (some .int) :: WL)) := gin_S wd589 wd590 wd533 wd591
theorem gc238 : (yX12_sortOf).cls ≠ "java/lang/invoke/MethodHandle" ∧ (yX12_sortOf).cls ≠ "java/lang/invoke/VarHandle" ∧ (parseMethodDescriptor (yX12_sortOf).desc).map (fun d => d.parameters.length) = some 1 := by decide +kernel
theorem gc239 : GoodIn WL (wsV "FuseBoxModel" 124 "FuseBoxModel" yX12_reads (Cond.code yX12_reads cX12_reads 4 none :: WL)) := gin_V wd592 wd593 wd594 wd533 wd595
theorem gc240 : (yX12_reads).cls = "FuseBoxModel" ∧ (yX12_reads).cls ≠ "java/lang/invoke/MethodHandle" ∧ (yX12_reads).cls ≠ "java/lang/invoke/VarHandle" ∧ (parseMethodDescriptor (yX12_reads).desc).map (fun d => d.parameters.length) = some 0 := by decide +kernel
theorem gc241 : GoodIn WL (wsV "FuseBoxModel" 134 "FuseBoxModel" yX12_isLive (Cond.code yX12_isLive cX12_isLive 3 (some .boolean) :: WL)) := gin_V wd601 wd602 wd603 wd533 wd604
theorem gc242 : (yX12_isLive).cls = "FuseBoxModel" ∧ (yX12_isLive).cls ≠ "java/lang/invoke/MethodHandle" ∧ (yX12_isLive).cls ≠ "java/lang/invoke/VarHandle" ∧ (parseMethodDescriptor (yX12_isLive).desc).map (fun d => d.parameters.length) = some 2 := by decide +kernel
theorem gc243 : GoodIn WL (wsV "FuseBoxModel" 138 "FuseBoxModel" yX12_runs (Cond.code yX12_runs cX12_runs 3 (some .boolean) :: WL)) := gin_V wd605 wd606 wd607 wd533 wd608
theorem gc244 : (yX12_runs).cls = "FuseBoxModel" ∧ (yX12_runs).cls ≠ "java/lang/invoke/MethodHandle" ∧ (yX12_runs).cls ≠ "java/lang/invoke/VarHandle" ∧ (parseMethodDescriptor (yX12_runs).desc).map (fun d => d.parameters.length) = some 2 := by decide +kernel
theorem gc245 : GoodIn WL (va_wsS "FuseBoxModel" 141 yX12_larger (Cond.code yX12_larger cX12_larger 2 (some .int) :: WL)) := gin_S wd609 wd610 wd533 wd611
theorem gc246 : (yX12_larger).cls ≠ "java/lang/invoke/MethodHandle" ∧ (yX12_larger).cls ≠ "java/lang/invoke/VarHandle" ∧ (parseMethodDescriptor (yX12_larger).desc).map (fun d => d.parameters.length) = some 2 := by decide +kernel
theorem gc247 : GoodIn WL (wsV "FuseBoxModel" 144 "FuseBoxModel" yX12_liveOnes (Cond.code yX12_liveOnes cX12_liveOnes 4 (some .int) :: WL)) := gin_V wd612 wd613 wd614 wd533 wd615
theorem gc248 : (yX12_liveOnes).cls = "FuseBoxModel" ∧ (yX12_liveOnes).cls ≠ "java/lang/invoke/MethodHandle" ∧ (yX12_liveOnes).cls ≠ "java/lang/invoke/VarHandle" ∧ (parseMethodDescriptor (yX12_liveOnes).desc).map (fun d => d.parameters.length) = some 1 := by decide +kernel
theorem gc249 : GoodIn WL (va_wsS "FuseBoxModel" 150 yX12_has (Cond.code yX12_has cX12_has 2 (some .boolean) :: WL)) := gin_S wd617 wd618 wd533 wd619
theorem gc250 : (yX12_has).cls ≠ "java/lang/invoke/MethodHandle" ∧ (yX12_has).cls ≠ "java/lang/invoke/VarHandle" ∧ (parseMethodDescriptor (yX12_has).desc).map (fun d => d.parameters.length) = some 2 := by decide +kernel
theorem gc251 : GoodIn WL (wsV "FuseBoxModel" 157 "FuseBoxModel" yX12_cools (Cond.code yX12_cools cX12_cools 3 none :: WL)) := gin_V wd620 wd621 wd622 wd533 wd623
theorem gc252 : (yX12_cools).cls = "FuseBoxModel" ∧ (yX12_cools).cls ≠ "java/lang/invoke/MethodHandle" ∧ (yX12_cools).cls ≠ "java/lang/invoke/VarHandle" ∧ (parseMethodDescriptor (yX12_cools).desc).map (fun d => d.parameters.length) = some 2 := by decide +kernel
theorem gc253 : GoodIn WL (wsV "FuseBoxModel" 153 "FuseBoxModel" yX12_heats (Cond.code yX12_heats cX12_heats 9 none :: WL)) := gin_V wd625 wd626 wd627 wd533 wd628
theorem gc254 : (yX12_heats).cls = "FuseBoxModel" ∧ (yX12_heats).cls ≠ "java/lang/invoke/MethodHandle" ∧ (yX12_heats).cls ≠ "java/lang/invoke/VarHandle" ∧ (parseMethodDescriptor (yX12_heats).desc).map (fun d => d.parameters.length) = some 3 := by decide +kernel
theorem gc255 : GoodIn WL (wsV "FuseBoxModel" 147 "FuseBoxModel" yX12_flowOf (Cond.code yX12_flowOf cX12_flowOf 5 (some .int) :: WL)) := gin_V wd629 wd630 wd631 wd533 wd632
theorem gc256 : (yX12_flowOf).cls = "FuseBoxModel" ∧ (yX12_flowOf).cls ≠ "java/lang/invoke/MethodHandle" ∧ (yX12_flowOf).cls ≠ "java/lang/invoke/VarHandle" ∧ (parseMethodDescriptor (yX12_flowOf).desc).map (fun d => d.parameters.length) = some 2 := by decide +kernel
theorem gc257 : GoodIn WL (wsV "FuseBoxModel" 162 "FuseBoxModel" yX12_copies (Cond.code yX12_copies cX12_copies 4 none :: WL)) := gin_V wd633 wd634 wd635 wd533 wd636
theorem gc258 : (yX12_copies).cls = "FuseBoxModel" ∧ (yX12_copies).cls ≠ "java/lang/invoke/MethodHandle" ∧ (yX12_copies).cls ≠ "java/lang/invoke/VarHandle" ∧ (parseMethodDescriptor (yX12_copies).desc).map (fun d => d.parameters.length) = some 2 := by decide +kernel
theorem gc259 : GoodIn WL (wsV "FuseBoxModel" 165 "FuseBoxModel" yX12_isHouse (Cond.code yX12_isHouse cX12_isHouse 1 (some .boolean) :: WL)) := gin_V wd637 wd638 wd639 wd533 wd640
theorem gc260 : (yX12_isHouse).cls = "FuseBoxModel" ∧ (yX12_isHouse).cls ≠ "java/lang/invoke/MethodHandle" ∧ (yX12_isHouse).cls ≠ "java/lang/invoke/VarHandle" ∧ (parseMethodDescriptor (yX12_isHouse).desc).map (fun d => d.parameters.length) = some 0 := by decide +kernel
theorem gc261 : GoodIn WL (wsV "FuseBoxModel" 172 "FuseBoxModel" yX12_known (Cond.code yX12_known cX12_known 2 none :: WL)) := gin_V wd642 wd643 wd644 wd533 wd645
theorem gc262 : (yX12_known).cls = "FuseBoxModel" ∧ (yX12_known).cls ≠ "java/lang/invoke/MethodHandle" ∧ (yX12_known).cls ≠ "java/lang/invoke/VarHandle" ∧ (parseMethodDescriptor (yX12_known).desc).map (fun d => d.parameters.length) = some 0 := by decide +kernel
theorem gc263 : GoodIn WL (wsV "FuseBoxModel" 175 "FuseBoxModel" yX12_passes (Cond.code yX12_passes cX12_passes 5 none :: WL)) := gin_V wd646 wd647 wd648 wd533 wd649
theorem gc264 : (yX12_passes).cls = "FuseBoxModel" ∧ (yX12_passes).cls ≠ "java/lang/invoke/MethodHandle" ∧ (yX12_passes).cls ≠ "java/lang/invoke/VarHandle" ∧ (parseMethodDescriptor (yX12_passes).desc).map (fun d => d.parameters.length) = some 1 := by decide +kernel
theorem gc265 : GoodIn WL (wsV "FuseBoxModel" 178 "FuseBoxModel" yX12_isThing (Cond.code yX12_isThing cX12_isThing 2 (some .boolean) :: WL)) := gin_V wd651 wd652 wd653 wd533 wd654
theorem gc266 : (yX12_isThing).cls = "FuseBoxModel" ∧ (yX12_isThing).cls ≠ "java/lang/invoke/MethodHandle" ∧ (yX12_isThing).cls ≠ "java/lang/invoke/VarHandle" ∧ (parseMethodDescriptor (yX12_isThing).desc).map (fun d => d.parameters.length) = some 1 := by decide +kernel
theorem gc267 : GoodIn WL (wsV "FuseBoxModel" 182 "FuseBoxModel" yX12_running (Cond.code yX12_running cX12_running 4 (some .int) :: WL)) := gin_V wd655 wd656 wd657 wd533 wd658
theorem gc268 : (yX12_running).cls = "FuseBoxModel" ∧ (yX12_running).cls ≠ "java/lang/invoke/MethodHandle" ∧ (yX12_running).cls ≠ "java/lang/invoke/VarHandle" ∧ (parseMethodDescriptor (yX12_running).desc).map (fun d => d.parameters.length) = some 1 := by decide +kernel
theorem gc269 : GoodIn WL (wsV "FuseBoxModel" 185 "FuseBoxModel" yX12_isLine (Cond.code yX12_isLine cX12_isLine 2 (some .boolean) :: WL)) := gin_V wd659 wd660 wd661 wd533 wd662
theorem gc270 : (yX12_isLine).cls = "FuseBoxModel" ∧ (yX12_isLine).cls ≠ "java/lang/invoke/MethodHandle" ∧ (yX12_isLine).cls ≠ "java/lang/invoke/VarHandle" ∧ (parseMethodDescriptor (yX12_isLine).desc).map (fun d => d.parameters.length) = some 1 := by decide +kernel
theorem gc271 : GoodIn WL (wsV "FuseBoxModel" 188 "FuseBoxModel" yX12_mends (Cond.code yX12_mends cX12_mends 3 none :: WL)) := gin_V wd663 wd664 wd665 wd533 wd666
theorem gc272 : (yX12_mends).cls = "FuseBoxModel" ∧ (yX12_mends).cls ≠ "java/lang/invoke/MethodHandle" ∧ (yX12_mends).cls ≠ "java/lang/invoke/VarHandle" ∧ (parseMethodDescriptor (yX12_mends).desc).map (fun d => d.parameters.length) = some 2 := by decide +kernel
theorem gc273 : GoodIn WL (wsV "FuseBoxModel" 191 "FuseBoxModel" yX12_deadOnes (Cond.code yX12_deadOnes cX12_deadOnes 3 (some .int) :: WL)) := gin_V wd667 wd668 wd669 wd533 wd670
theorem gc274 : (yX12_deadOnes).cls = "FuseBoxModel" ∧ (yX12_deadOnes).cls ≠ "java/lang/invoke/MethodHandle" ∧ (yX12_deadOnes).cls ≠ "java/lang/invoke/VarHandle" ∧ (parseMethodDescriptor (yX12_deadOnes).desc).map (fun d => d.parameters.length) = some 0 := by decide +kernel
theorem gc275 : GoodIn WL (wsV "FuseBoxModel" 202 "FuseBoxModel" yX12_goesOn (Cond.code yX12_goesOn cX12_goesOn 3 none :: WL)) := gin_V wd675 wd676 wd677 wd533 wd678
theorem gc276 : (yX12_goesOn).cls = "FuseBoxModel" ∧ (yX12_goesOn).cls ≠ "java/lang/invoke/MethodHandle" ∧ (yX12_goesOn).cls ≠ "java/lang/invoke/VarHandle" ∧ (parseMethodDescriptor (yX12_goesOn).desc).map (fun d => d.parameters.length) = some 1 := by decide +kernel
theorem gc277 : GoodIn WL (wsV "FuseBoxModel" 208 "FuseBoxModel" yX12_onOnes (Cond.code yX12_onOnes cX12_onOnes 3 (some .int) :: WL)) := gin_V wd681 wd682 wd683 wd533 wd684
theorem gc278 : (yX12_onOnes).cls = "FuseBoxModel" ∧ (yX12_onOnes).cls ≠ "java/lang/invoke/MethodHandle" ∧ (yX12_onOnes).cls ≠ "java/lang/invoke/VarHandle" ∧ (parseMethodDescriptor (yX12_onOnes).desc).map (fun d => d.parameters.length) = some 0 := by decide +kernel
theorem gc279 : GoodIn WL (va_wsS "FuseBoxModel" 211 yX12_bits (Cond.code yX12_bits cX12_bits 3 (some .int) :: WL)) := gin_S wd685 wd686 wd533 wd687
theorem gc280 : (yX12_bits).cls ≠ "java/lang/invoke/MethodHandle" ∧ (yX12_bits).cls ≠ "java/lang/invoke/VarHandle" ∧ (parseMethodDescriptor (yX12_bits).desc).map (fun d => d.parameters.length) = some 1 := by decide +kernel
theorem gc281 : GoodIn WL (wsV "FuseBoxModel" 214 "FuseBoxModel" yX12_offs (Cond.code yX12_offs cX12_offs 3 none :: WL)) := gin_V wd688 wd689 wd690 wd533 wd691
theorem gc282 : (yX12_offs).cls = "FuseBoxModel" ∧ (yX12_offs).cls ≠ "java/lang/invoke/MethodHandle" ∧ (yX12_offs).cls ≠ "java/lang/invoke/VarHandle" ∧ (parseMethodDescriptor (yX12_offs).desc).map (fun d => d.parameters.length) = some 1 := by decide +kernel
theorem gc283 : GoodIn WL (wsV "FuseBoxModel" 217 "FuseBoxModel" yX12_isLiveFor (Cond.code yX12_isLiveFor cX12_isLiveFor 5 (some .boolean) :: WL)) := gin_V wd692 wd693 wd694 wd533 wd695
theorem gc284 : (yX12_isLiveFor).cls = "FuseBoxModel" ∧ (yX12_isLiveFor).cls ≠ "java/lang/invoke/MethodHandle" ∧ (yX12_isLiveFor).cls ≠ "java/lang/invoke/VarHandle" ∧ (parseMethodDescriptor (yX12_isLiveFor).desc).map (fun d => d.parameters.length) = some 2 := by decide +kernel
theorem gc285 : GoodIn WL (wsV "FuseBoxModel" 224 "FuseBoxModel" yX12_plugged (Cond.code yX12_plugged cX12_plugged 5 (some .int) :: WL)) := gin_V wd698 wd699 wd700 wd533 wd701
theorem gc286 : (yX12_plugged).cls = "FuseBoxModel" ∧ (yX12_plugged).cls ≠ "java/lang/invoke/MethodHandle" ∧ (yX12_plugged).cls ≠ "java/lang/invoke/VarHandle" ∧ (parseMethodDescriptor (yX12_plugged).desc).map (fun d => d.parameters.length) = some 2 := by decide +kernel
theorem gc287 : GoodIn WL (wsV "FuseBoxModel" 227 "FuseBoxModel" yX12_usedBehind (Cond.code yX12_usedBehind cX12_usedBehind 2 (some .int) :: WL)) := gin_V wd702 wd703 wd704 wd533 wd705
theorem gc288 : (yX12_usedBehind).cls = "FuseBoxModel" ∧ (yX12_usedBehind).cls ≠ "java/lang/invoke/MethodHandle" ∧ (yX12_usedBehind).cls ≠ "java/lang/invoke/VarHandle" ∧ (parseMethodDescriptor (yX12_usedBehind).desc).map (fun d => d.parameters.length) = some 1 := by decide +kernel
theorem gc289 : GoodIn WL (wsV "FuseBoxModel" 232 "FuseBoxModel" yX12_isSo (Cond.code yX12_isSo cX12_isSo 7 (some .boolean) :: WL)) := gin_V wd707 wd708 wd709 wd533 wd710
theorem gc290 : (yX12_isSo).cls = "FuseBoxModel" ∧ (yX12_isSo).cls ≠ "java/lang/invoke/MethodHandle" ∧ (yX12_isSo).cls ≠ "java/lang/invoke/VarHandle" ∧ (parseMethodDescriptor (yX12_isSo).desc).map (fun d => d.parameters.length) = some 4 := by decide +kernel
theorem gc291 : GoodIn WL (wsV "FuseBoxModel" 242 "FuseBoxModel" yX12_mainsThat (Cond.code yX12_mainsThat cX12_mainsThat 11 (some .int) :: WL)) := gin_V wd712 wd713 wd714 wd533 wd715
theorem gc292 : (yX12_mainsThat).cls = "FuseBoxModel" ∧ (yX12_mainsThat).cls ≠ "java/lang/invoke/MethodHandle" ∧ (yX12_mainsThat).cls ≠ "java/lang/invoke/VarHandle" ∧ (parseMethodDescriptor (yX12_mainsThat).desc).map (fun d => d.parameters.length) = some 5 := by decide +kernel
theorem gc293 : GoodIn WL (wsV "FuseBoxModel" 238 "FuseBoxModel" yX12_sorts (Cond.code yX12_sorts cX12_sorts 9 (some .int) :: WL)) := gin_V wd716 wd717 wd718 wd533 wd719
theorem gc294 : (yX12_sorts).cls = "FuseBoxModel" ∧ (yX12_sorts).cls ≠ "java/lang/invoke/MethodHandle" ∧ (yX12_sorts).cls ≠ "java/lang/invoke/VarHandle" ∧ (parseMethodDescriptor (yX12_sorts).desc).map (fun d => d.parameters.length) = some 4 := by decide +kernel
theorem gc295 : GoodIn WL (wsV "FuseBoxModel" 257 "FuseBoxModel" yX12_leaves (Cond.code yX12_leaves cX12_leaves 2 none :: WL)) := gin_V wd727 wd728 wd729 wd533 wd730
theorem gc296 : (yX12_leaves).cls = "FuseBoxModel" ∧ (yX12_leaves).cls ≠ "java/lang/invoke/MethodHandle" ∧ (yX12_leaves).cls ≠ "java/lang/invoke/VarHandle" ∧ (parseMethodDescriptor (yX12_leaves).desc).map (fun d => d.parameters.length) = some 1 := by decide +kernel
theorem gc297 : GoodIn WL (wsV "FuseBoxModel" 260 "FuseBoxModel" yX12_lent (Cond.code yX12_lent cX12_lent 3 (some .int) :: WL)) := gin_V wd731 wd732 wd733 wd533 wd734
theorem gc298 : (yX12_lent).cls = "FuseBoxModel" ∧ (yX12_lent).cls ≠ "java/lang/invoke/MethodHandle" ∧ (yX12_lent).cls ≠ "java/lang/invoke/VarHandle" ∧ (parseMethodDescriptor (yX12_lent).desc).map (fun d => d.parameters.length) = some 2 := by decide +kernel
theorem gc299 : GoodIn WL (wsV "FuseBoxModel" 264 "FuseBoxModel" yX12_wireMark (Cond.code yX12_wireMark cX12_wireMark 4 (some .int) :: WL)) := gin_V wd735 wd736 wd737 wd533 wd738
theorem gc300 : (yX12_wireMark).cls = "FuseBoxModel" ∧ (yX12_wireMark).cls ≠ "java/lang/invoke/MethodHandle" ∧ (yX12_wireMark).cls ≠ "java/lang/invoke/VarHandle" ∧ (parseMethodDescriptor (yX12_wireMark).desc).map (fun d => d.parameters.length) = some 2 := by decide +kernel
theorem gc301 : GoodIn WL (wsV "FuseBoxModel" 267 "FuseBoxModel" yX12_breakerSize (Cond.code yX12_breakerSize cX12_breakerSize 4 (some .int) :: WL)) := gin_V wd739 wd740 wd741 wd533 wd742
theorem gc302 : (yX12_breakerSize).cls = "FuseBoxModel" ∧ (yX12_breakerSize).cls ≠ "java/lang/invoke/MethodHandle" ∧ (yX12_breakerSize).cls ≠ "java/lang/invoke/VarHandle" ∧ (parseMethodDescriptor (yX12_breakerSize).desc).map (fun d => d.parameters.length) = some 2 := by decide +kernel
theorem gc303 : GoodIn WL (wsV "FuseBoxModel" 273 "FuseBoxModel" yX12_breakerMark (Cond.code yX12_breakerMark cX12_breakerMark 4 (some .int) :: WL)) := gin_V wd743 wd744 wd745 wd533 wd746
theorem gc304 : (yX12_breakerMark).cls = "FuseBoxModel" ∧ (yX12_breakerMark).cls ≠ "java/lang/invoke/MethodHandle" ∧ (yX12_breakerMark).cls ≠ "java/lang/invoke/VarHandle" ∧ (parseMethodDescriptor (yX12_breakerMark).desc).map (fun d => d.parameters.length) = some 2 := by decide +kernel
theorem gc305 : GoodIn WL (wsV "FuseBoxModel" 270 "FuseBoxModel" yX12_wireSize (Cond.code yX12_wireSize cX12_wireSize 4 (some .int) :: WL)) := gin_V wd747 wd748 wd749 wd533 wd750
theorem gc306 : (yX12_wireSize).cls = "FuseBoxModel" ∧ (yX12_wireSize).cls ≠ "java/lang/invoke/MethodHandle" ∧ (yX12_wireSize).cls ≠ "java/lang/invoke/VarHandle" ∧ (parseMethodDescriptor (yX12_wireSize).desc).map (fun d => d.parameters.length) = some 2 := by decide +kernel
