section
-- ===== PART A: goes FIRST, ahead of the names: the tables' words, and 'selects' of the private methods out of them =====
/-- a private method of a class that the tables say can be made, by its rows of tables_1 -/
def lw_okq (q : MethodName × Nat) : Prop := (q.1.cls ≠ "java/lang/invoke/MethodHandle" ∧ q.1.cls ≠ "java/lang/invoke/VarHandle") ∧ Cond.instantiable q.1.cls q.2 ∈ tables_1 ∧ Cond.privateMethod q.1 ∈ tables_1 ∧ Cond.instanceMethod q.1 ∈ tables_1
theorem lw_p0 : lw_okq (⟨"FuseBox", "found", "(I)I"⟩, 12) := ⟨⟨by decide +kernel, by decide +kernel⟩, List.mem_of_getElem? (i := 18) (by decide +kernel), List.mem_of_getElem? (i := 283) (by decide +kernel), List.mem_of_getElem? (i := 284) (by decide +kernel)⟩
theorem lw_p1 : lw_okq (⟨"FuseBox", "fine", "(I)I"⟩, 12) := ⟨⟨by decide +kernel, by decide +kernel⟩, List.mem_of_getElem? (i := 18) (by decide +kernel), List.mem_of_getElem? (i := 292) (by decide +kernel), List.mem_of_getElem? (i := 293) (by decide +kernel)⟩
theorem lw_p2 : lw_okq (⟨"FuseBox$Reader", "readToken", "()V"⟩, 7) := ⟨⟨by decide +kernel, by decide +kernel⟩, List.mem_of_getElem? (i := 28) (by decide +kernel), List.mem_of_getElem? (i := 348) (by decide +kernel), List.mem_of_getElem? (i := 349) (by decide +kernel)⟩
theorem lw_p3 : lw_okq (⟨"FuseBox$Reader", "isFigure", "(I)Z"⟩, 7) := ⟨⟨by decide +kernel, by decide +kernel⟩, List.mem_of_getElem? (i := 28) (by decide +kernel), List.mem_of_getElem? (i := 352) (by decide +kernel), List.mem_of_getElem? (i := 353) (by decide +kernel)⟩
theorem lw_p4 : lw_okq (⟨"FuseBox$Reader", "readNumber", "()V"⟩, 7) := ⟨⟨by decide +kernel, by decide +kernel⟩, List.mem_of_getElem? (i := 28) (by decide +kernel), List.mem_of_getElem? (i := 356) (by decide +kernel), List.mem_of_getElem? (i := 357) (by decide +kernel)⟩
theorem lw_p5 : lw_okq (⟨"FuseBox$Reader", "readLaw", "(LFuseBox$House;)V"⟩, 7) := ⟨⟨by decide +kernel, by decide +kernel⟩, List.mem_of_getElem? (i := 28) (by decide +kernel), List.mem_of_getElem? (i := 360) (by decide +kernel), List.mem_of_getElem? (i := 361) (by decide +kernel)⟩
theorem lw_p6 : lw_okq (⟨"FuseBox$Reader", "take", "(I)V"⟩, 7) := ⟨⟨by decide +kernel, by decide +kernel⟩, List.mem_of_getElem? (i := 28) (by decide +kernel), List.mem_of_getElem? (i := 364) (by decide +kernel), List.mem_of_getElem? (i := 365) (by decide +kernel)⟩
theorem lw_p7 : lw_okq (⟨"FuseBox$Reader", "fail", "(I)V"⟩, 7) := ⟨⟨by decide +kernel, by decide +kernel⟩, List.mem_of_getElem? (i := 28) (by decide +kernel), List.mem_of_getElem? (i := 368) (by decide +kernel), List.mem_of_getElem? (i := 369) (by decide +kernel)⟩
theorem lw_p8 : lw_okq (⟨"FuseBox$Reader", "takeNumber", "(II)I"⟩, 7) := ⟨⟨by decide +kernel, by decide +kernel⟩, List.mem_of_getElem? (i := 28) (by decide +kernel), List.mem_of_getElem? (i := 372) (by decide +kernel), List.mem_of_getElem? (i := 373) (by decide +kernel)⟩
theorem lw_p9 : lw_okq (⟨"FuseBox$Reader", "readLine", "(LFuseBox$House;)V"⟩, 7) := ⟨⟨by decide +kernel, by decide +kernel⟩, List.mem_of_getElem? (i := 28) (by decide +kernel), List.mem_of_getElem? (i := 376) (by decide +kernel), List.mem_of_getElem? (i := 377) (by decide +kernel)⟩
theorem lw_p10 : lw_okq (⟨"FuseBox$Reader", "readThing", "(LFuseBox$House;)V"⟩, 7) := ⟨⟨by decide +kernel, by decide +kernel⟩, List.mem_of_getElem? (i := 28) (by decide +kernel), List.mem_of_getElem? (i := 387) (by decide +kernel), List.mem_of_getElem? (i := 388) (by decide +kernel)⟩
theorem lw_p11 : lw_okq (⟨"FuseBox", "forgetActs", "()V"⟩, 12) := ⟨⟨by decide +kernel, by decide +kernel⟩, List.mem_of_getElem? (i := 18) (by decide +kernel), List.mem_of_getElem? (i := 401) (by decide +kernel), List.mem_of_getElem? (i := 402) (by decide +kernel)⟩
theorem lw_p12 : lw_okq (⟨"FuseBox", "noHouse", "()Z"⟩, 12) := ⟨⟨by decide +kernel, by decide +kernel⟩, List.mem_of_getElem? (i := 18) (by decide +kernel), List.mem_of_getElem? (i := 413) (by decide +kernel), List.mem_of_getElem? (i := 414) (by decide +kernel)⟩
theorem lw_p13 : lw_okq (⟨"FuseBox", "keepAct", "()V"⟩, 12) := ⟨⟨by decide +kernel, by decide +kernel⟩, List.mem_of_getElem? (i := 18) (by decide +kernel), List.mem_of_getElem? (i := 418) (by decide +kernel), List.mem_of_getElem? (i := 419) (by decide +kernel)⟩
theorem lw_p14 : lw_okq (⟨"FuseBox$House", "passLine", "(II)V"⟩, 15) := ⟨⟨by decide +kernel, by decide +kernel⟩, List.mem_of_getElem? (i := 145) (by decide +kernel), List.mem_of_getElem? (i := 442) (by decide +kernel), List.mem_of_getElem? (i := 443) (by decide +kernel)⟩
theorem lw_p15 : lw_okq (⟨"FuseBox", "noThing", "(I)Z"⟩, 12) := ⟨⟨by decide +kernel, by decide +kernel⟩, List.mem_of_getElem? (i := 18) (by decide +kernel), List.mem_of_getElem? (i := 515) (by decide +kernel), List.mem_of_getElem? (i := 516) (by decide +kernel)⟩
def lw_privs_1 : List (MethodName × Nat) := [(⟨"FuseBox", "found", "(I)I"⟩, 12), (⟨"FuseBox", "fine", "(I)I"⟩, 12), (⟨"FuseBox$Reader", "readToken", "()V"⟩, 7), (⟨"FuseBox$Reader", "isFigure", "(I)Z"⟩, 7), (⟨"FuseBox$Reader", "readNumber", "()V"⟩, 7), (⟨"FuseBox$Reader", "readLaw", "(LFuseBox$House;)V"⟩, 7), (⟨"FuseBox$Reader", "take", "(I)V"⟩, 7), (⟨"FuseBox$Reader", "fail", "(I)V"⟩, 7), (⟨"FuseBox$Reader", "takeNumber", "(II)I"⟩, 7), (⟨"FuseBox$Reader", "readLine", "(LFuseBox$House;)V"⟩, 7), (⟨"FuseBox$Reader", "readThing", "(LFuseBox$House;)V"⟩, 7), (⟨"FuseBox", "forgetActs", "()V"⟩, 12), (⟨"FuseBox", "noHouse", "()Z"⟩, 12), (⟨"FuseBox", "keepAct", "()V"⟩, 12), (⟨"FuseBox$House", "passLine", "(II)V"⟩, 15), (⟨"FuseBox", "noThing", "(I)Z"⟩, 12)]
theorem lw_r1 : ∀ q ∈ lw_privs_1, lw_okq q := List.forall_mem_cons.mpr ⟨lw_p0, List.forall_mem_cons.mpr ⟨lw_p1, List.forall_mem_cons.mpr ⟨lw_p2, List.forall_mem_cons.mpr ⟨lw_p3, List.forall_mem_cons.mpr ⟨lw_p4, List.forall_mem_cons.mpr ⟨lw_p5, List.forall_mem_cons.mpr ⟨lw_p6, List.forall_mem_cons.mpr ⟨lw_p7, List.forall_mem_cons.mpr ⟨lw_p8, List.forall_mem_cons.mpr ⟨lw_p9, List.forall_mem_cons.mpr ⟨lw_p10, List.forall_mem_cons.mpr ⟨lw_p11, List.forall_mem_cons.mpr ⟨lw_p12, List.forall_mem_cons.mpr ⟨lw_p13, List.forall_mem_cons.mpr ⟨lw_p14, List.forall_mem_cons.mpr ⟨lw_p15, fun _ h => absurd h List.not_mem_nil⟩⟩⟩⟩⟩⟩⟩⟩⟩⟩⟩⟩⟩⟩⟩⟩
theorem lw_p16 : lw_okq (⟨"FuseBox", "noLine", "(I)Z"⟩, 12) := ⟨⟨by decide +kernel, by decide +kernel⟩, List.mem_of_getElem? (i := 18) (by decide +kernel), List.mem_of_getElem? (i := 532) (by decide +kernel), List.mem_of_getElem? (i := 533) (by decide +kernel)⟩
theorem lw_p17 : lw_okq (⟨"FuseBox", "foretell", "(I)V"⟩, 12) := ⟨⟨by decide +kernel, by decide +kernel⟩, List.mem_of_getElem? (i := 18) (by decide +kernel), List.mem_of_getElem? (i := 583) (by decide +kernel), List.mem_of_getElem? (i := 584) (by decide +kernel)⟩
theorem lw_p18 : lw_okq (⟨"FuseBox", "runsWithout", "(III)Z"⟩, 12) := ⟨⟨by decide +kernel, by decide +kernel⟩, List.mem_of_getElem? (i := 18) (by decide +kernel), List.mem_of_getElem? (i := 610) (by decide +kernel), List.mem_of_getElem? (i := 611) (by decide +kernel)⟩
theorem lw_p19 : lw_okq (⟨"FuseBox$Plugging", "foretellLine", "(I)V"⟩, 7) := ⟨⟨by decide +kernel, by decide +kernel⟩, List.mem_of_getElem? (i := 61) (by decide +kernel), List.mem_of_getElem? (i := 622) (by decide +kernel), List.mem_of_getElem? (i := 623) (by decide +kernel)⟩
theorem lw_p20 : lw_okq (⟨"FuseBox$Plugging", "plugFrom", "(I)V"⟩, 7) := ⟨⟨by decide +kernel, by decide +kernel⟩, List.mem_of_getElem? (i := 61) (by decide +kernel), List.mem_of_getElem? (i := 634) (by decide +kernel), List.mem_of_getElem? (i := 635) (by decide +kernel)⟩
theorem lw_p21 : lw_okq (⟨"FuseBox$Plugging", "weigh", "()V"⟩, 7) := ⟨⟨by decide +kernel, by decide +kernel⟩, List.mem_of_getElem? (i := 61) (by decide +kernel), List.mem_of_getElem? (i := 638) (by decide +kernel), List.mem_of_getElem? (i := 639) (by decide +kernel)⟩
theorem lw_p22 : lw_okq (⟨"FuseBox$Plugging", "usedThen", "()I"⟩, 7) := ⟨⟨by decide +kernel, by decide +kernel⟩, List.mem_of_getElem? (i := 61) (by decide +kernel), List.mem_of_getElem? (i := 642) (by decide +kernel), List.mem_of_getElem? (i := 643) (by decide +kernel)⟩
theorem lw_p23 : lw_okq (⟨"FuseBox$Plugging", "liveMinutes", "(I)I"⟩, 7) := ⟨⟨by decide +kernel, by decide +kernel⟩, List.mem_of_getElem? (i := 61) (by decide +kernel), List.mem_of_getElem? (i := 646) (by decide +kernel), List.mem_of_getElem? (i := 647) (by decide +kernel)⟩
theorem lw_p24 : lw_okq (⟨"FuseBox$Plugging", "usedUntilMainIsOut", "()I"⟩, 7) := ⟨⟨by decide +kernel, by decide +kernel⟩, List.mem_of_getElem? (i := 61) (by decide +kernel), List.mem_of_getElem? (i := 651) (by decide +kernel), List.mem_of_getElem? (i := 652) (by decide +kernel)⟩
theorem lw_p25 : lw_okq (⟨"FuseBox", "sortsThatFit", "(ILFuseBox$Row;II)I"⟩, 12) := ⟨⟨by decide +kernel, by decide +kernel⟩, List.mem_of_getElem? (i := 18) (by decide +kernel), List.mem_of_getElem? (i := 679) (by decide +kernel), List.mem_of_getElem? (i := 680) (by decide +kernel)⟩
theorem lw_p26 : lw_okq (⟨"FuseBox", "ratesThatFit", "(ILFuseBox$Row;II)I"⟩, 12) := ⟨⟨by decide +kernel, by decide +kernel⟩, List.mem_of_getElem? (i := 18) (by decide +kernel), List.mem_of_getElem? (i := 691) (by decide +kernel), List.mem_of_getElem? (i := 692) (by decide +kernel)⟩
theorem lw_p27 : lw_okq (⟨"FuseBox", "heatsThatFit", "(ILFuseBox$Row;II)I"⟩, 12) := ⟨⟨by decide +kernel, by decide +kernel⟩, List.mem_of_getElem? (i := 18) (by decide +kernel), List.mem_of_getElem? (i := 695) (by decide +kernel), List.mem_of_getElem? (i := 696) (by decide +kernel)⟩
theorem lw_p28 : lw_okq (⟨"FuseBox", "mainsThatFit", "(ILFuseBox$Row;IIZ)I"⟩, 12) := ⟨⟨by decide +kernel, by decide +kernel⟩, List.mem_of_getElem? (i := 18) (by decide +kernel), List.mem_of_getElem? (i := 699) (by decide +kernel), List.mem_of_getElem? (i := 700) (by decide +kernel)⟩
theorem lw_p29 : lw_okq (⟨"FuseBox", "weightOf", "(II)I"⟩, 12) := ⟨⟨by decide +kernel, by decide +kernel⟩, List.mem_of_getElem? (i := 18) (by decide +kernel), List.mem_of_getElem? (i := 707) (by decide +kernel), List.mem_of_getElem? (i := 708) (by decide +kernel)⟩
theorem lw_p30 : lw_okq (⟨"FuseBox", "isLiveWithout", "(III)Z"⟩, 12) := ⟨⟨by decide +kernel, by decide +kernel⟩, List.mem_of_getElem? (i := 18) (by decide +kernel), List.mem_of_getElem? (i := 711) (by decide +kernel), List.mem_of_getElem? (i := 712) (by decide +kernel)⟩
theorem lw_p31 : lw_okq (⟨"FuseBox$House", "mendAll", "()V"⟩, 15) := ⟨⟨by decide +kernel, by decide +kernel⟩, List.mem_of_getElem? (i := 145) (by decide +kernel), List.mem_of_getElem? (i := 732) (by decide +kernel), List.mem_of_getElem? (i := 733) (by decide +kernel)⟩
def lw_privs_2 : List (MethodName × Nat) := [(⟨"FuseBox", "noLine", "(I)Z"⟩, 12), (⟨"FuseBox", "foretell", "(I)V"⟩, 12), (⟨"FuseBox", "runsWithout", "(III)Z"⟩, 12), (⟨"FuseBox$Plugging", "foretellLine", "(I)V"⟩, 7), (⟨"FuseBox$Plugging", "plugFrom", "(I)V"⟩, 7), (⟨"FuseBox$Plugging", "weigh", "()V"⟩, 7), (⟨"FuseBox$Plugging", "usedThen", "()I"⟩, 7), (⟨"FuseBox$Plugging", "liveMinutes", "(I)I"⟩, 7), (⟨"FuseBox$Plugging", "usedUntilMainIsOut", "()I"⟩, 7), (⟨"FuseBox", "sortsThatFit", "(ILFuseBox$Row;II)I"⟩, 12), (⟨"FuseBox", "ratesThatFit", "(ILFuseBox$Row;II)I"⟩, 12), (⟨"FuseBox", "heatsThatFit", "(ILFuseBox$Row;II)I"⟩, 12), (⟨"FuseBox", "mainsThatFit", "(ILFuseBox$Row;IIZ)I"⟩, 12), (⟨"FuseBox", "weightOf", "(II)I"⟩, 12), (⟨"FuseBox", "isLiveWithout", "(III)Z"⟩, 12), (⟨"FuseBox$House", "mendAll", "()V"⟩, 15)]
theorem lw_r2 : ∀ q ∈ lw_privs_2, lw_okq q := List.forall_mem_cons.mpr ⟨lw_p16, List.forall_mem_cons.mpr ⟨lw_p17, List.forall_mem_cons.mpr ⟨lw_p18, List.forall_mem_cons.mpr ⟨lw_p19, List.forall_mem_cons.mpr ⟨lw_p20, List.forall_mem_cons.mpr ⟨lw_p21, List.forall_mem_cons.mpr ⟨lw_p22, List.forall_mem_cons.mpr ⟨lw_p23, List.forall_mem_cons.mpr ⟨lw_p24, List.forall_mem_cons.mpr ⟨lw_p25, List.forall_mem_cons.mpr ⟨lw_p26, List.forall_mem_cons.mpr ⟨lw_p27, List.forall_mem_cons.mpr ⟨lw_p28, List.forall_mem_cons.mpr ⟨lw_p29, List.forall_mem_cons.mpr ⟨lw_p30, List.forall_mem_cons.mpr ⟨lw_p31, fun _ h => absurd h List.not_mem_nil⟩⟩⟩⟩⟩⟩⟩⟩⟩⟩⟩⟩⟩⟩⟩⟩
theorem lw_p32 : lw_okq (⟨"FuseBox", "rowsThere", "()I"⟩, 12) := ⟨⟨by decide +kernel, by decide +kernel⟩, List.mem_of_getElem? (i := 18) (by decide +kernel), List.mem_of_getElem? (i := 827) (by decide +kernel), List.mem_of_getElem? (i := 828) (by decide +kernel)⟩
theorem lw_p33 : lw_okq (⟨"FuseBoxModel", "finds", "(I)I"⟩, 23) := ⟨⟨by decide +kernel, by decide +kernel⟩, List.mem_of_getElem? (i := 835) (by decide +kernel), List.mem_of_getElem? (i := 922) (by decide +kernel), List.mem_of_getElem? (i := 923) (by decide +kernel)⟩
theorem lw_p34 : lw_okq (⟨"FuseBoxModel", "fine", "(I)I"⟩, 23) := ⟨⟨by decide +kernel, by decide +kernel⟩, List.mem_of_getElem? (i := 835) (by decide +kernel), List.mem_of_getElem? (i := 927) (by decide +kernel), List.mem_of_getElem? (i := 928) (by decide +kernel)⟩
theorem lw_p35 : lw_okq (⟨"FuseBoxModel", "reads", "()V"⟩, 23) := ⟨⟨by decide +kernel, by decide +kernel⟩, List.mem_of_getElem? (i := 835) (by decide +kernel), List.mem_of_getElem? (i := 953) (by decide +kernel), List.mem_of_getElem? (i := 954) (by decide +kernel)⟩
theorem lw_p36 : lw_okq (⟨"FuseBoxModel", "token", "()I"⟩, 23) := ⟨⟨by decide +kernel, by decide +kernel⟩, List.mem_of_getElem? (i := 835) (by decide +kernel), List.mem_of_getElem? (i := 957) (by decide +kernel), List.mem_of_getElem? (i := 958) (by decide +kernel)⟩
theorem lw_p37 : lw_okq (⟨"FuseBoxModel", "byteAt", "(I)I"⟩, 23) := ⟨⟨by decide +kernel, by decide +kernel⟩, List.mem_of_getElem? (i := 835) (by decide +kernel), List.mem_of_getElem? (i := 961) (by decide +kernel), List.mem_of_getElem? (i := 962) (by decide +kernel)⟩
theorem lw_p38 : lw_okq (⟨"FuseBoxModel", "wants", "(II)I"⟩, 23) := ⟨⟨by decide +kernel, by decide +kernel⟩, List.mem_of_getElem? (i := 835) (by decide +kernel), List.mem_of_getElem? (i := 969) (by decide +kernel), List.mem_of_getElem? (i := 970) (by decide +kernel)⟩
theorem lw_p39 : lw_okq (⟨"FuseBoxModel", "sign", "(I)V"⟩, 23) := ⟨⟨by decide +kernel, by decide +kernel⟩, List.mem_of_getElem? (i := 835) (by decide +kernel), List.mem_of_getElem? (i := 973) (by decide +kernel), List.mem_of_getElem? (i := 974) (by decide +kernel)⟩
theorem lw_p40 : lw_okq (⟨"FuseBoxModel", "lineItem", "(I)V"⟩, 23) := ⟨⟨by decide +kernel, by decide +kernel⟩, List.mem_of_getElem? (i := 835) (by decide +kernel), List.mem_of_getElem? (i := 980) (by decide +kernel), List.mem_of_getElem? (i := 981) (by decide +kernel)⟩
theorem lw_p41 : lw_okq (⟨"FuseBoxModel", "thingItem", "()V"⟩, 23) := ⟨⟨by decide +kernel, by decide +kernel⟩, List.mem_of_getElem? (i := 835) (by decide +kernel), List.mem_of_getElem? (i := 984) (by decide +kernel), List.mem_of_getElem? (i := 985) (by decide +kernel)⟩
theorem lw_p42 : lw_okq (⟨"FuseBoxModel", "isHouse", "()Z"⟩, 23) := ⟨⟨by decide +kernel, by decide +kernel⟩, List.mem_of_getElem? (i := 835) (by decide +kernel), List.mem_of_getElem? (i := 997) (by decide +kernel), List.mem_of_getElem? (i := 998) (by decide +kernel)⟩
theorem lw_p43 : lw_okq (⟨"FuseBoxModel", "known", "()V"⟩, 23) := ⟨⟨by decide +kernel, by decide +kernel⟩, List.mem_of_getElem? (i := 835) (by decide +kernel), List.mem_of_getElem? (i := 1003) (by decide +kernel), List.mem_of_getElem? (i := 1004) (by decide +kernel)⟩
theorem lw_p44 : lw_okq (⟨"FuseBoxModel", "copies", "(II)V"⟩, 23) := ⟨⟨by decide +kernel, by decide +kernel⟩, List.mem_of_getElem? (i := 835) (by decide +kernel), List.mem_of_getElem? (i := 1007) (by decide +kernel), List.mem_of_getElem? (i := 1008) (by decide +kernel)⟩
theorem lw_p45 : lw_okq (⟨"FuseBoxModel", "passes", "(I)V"⟩, 23) := ⟨⟨by decide +kernel, by decide +kernel⟩, List.mem_of_getElem? (i := 835) (by decide +kernel), List.mem_of_getElem? (i := 1011) (by decide +kernel), List.mem_of_getElem? (i := 1012) (by decide +kernel)⟩
theorem lw_p46 : lw_okq (⟨"FuseBoxModel", "liveOnes", "(I)I"⟩, 23) := ⟨⟨by decide +kernel, by decide +kernel⟩, List.mem_of_getElem? (i := 835) (by decide +kernel), List.mem_of_getElem? (i := 1015) (by decide +kernel), List.mem_of_getElem? (i := 1016) (by decide +kernel)⟩
theorem lw_p47 : lw_okq (⟨"FuseBoxModel", "isLive", "(II)Z"⟩, 23) := ⟨⟨by decide +kernel, by decide +kernel⟩, List.mem_of_getElem? (i := 835) (by decide +kernel), List.mem_of_getElem? (i := 1019) (by decide +kernel), List.mem_of_getElem? (i := 1020) (by decide +kernel)⟩
def lw_privs_3 : List (MethodName × Nat) := [(⟨"FuseBox", "rowsThere", "()I"⟩, 12), (⟨"FuseBoxModel", "finds", "(I)I"⟩, 23), (⟨"FuseBoxModel", "fine", "(I)I"⟩, 23), (⟨"FuseBoxModel", "reads", "()V"⟩, 23), (⟨"FuseBoxModel", "token", "()I"⟩, 23), (⟨"FuseBoxModel", "byteAt", "(I)I"⟩, 23), (⟨"FuseBoxModel", "wants", "(II)I"⟩, 23), (⟨"FuseBoxModel", "sign", "(I)V"⟩, 23), (⟨"FuseBoxModel", "lineItem", "(I)V"⟩, 23), (⟨"FuseBoxModel", "thingItem", "()V"⟩, 23), (⟨"FuseBoxModel", "isHouse", "()Z"⟩, 23), (⟨"FuseBoxModel", "known", "()V"⟩, 23), (⟨"FuseBoxModel", "copies", "(II)V"⟩, 23), (⟨"FuseBoxModel", "passes", "(I)V"⟩, 23), (⟨"FuseBoxModel", "liveOnes", "(I)I"⟩, 23), (⟨"FuseBoxModel", "isLive", "(II)Z"⟩, 23)]
theorem lw_r3 : ∀ q ∈ lw_privs_3, lw_okq q := List.forall_mem_cons.mpr ⟨lw_p32, List.forall_mem_cons.mpr ⟨lw_p33, List.forall_mem_cons.mpr ⟨lw_p34, List.forall_mem_cons.mpr ⟨lw_p35, List.forall_mem_cons.mpr ⟨lw_p36, List.forall_mem_cons.mpr ⟨lw_p37, List.forall_mem_cons.mpr ⟨lw_p38, List.forall_mem_cons.mpr ⟨lw_p39, List.forall_mem_cons.mpr ⟨lw_p40, List.forall_mem_cons.mpr ⟨lw_p41, List.forall_mem_cons.mpr ⟨lw_p42, List.forall_mem_cons.mpr ⟨lw_p43, List.forall_mem_cons.mpr ⟨lw_p44, List.forall_mem_cons.mpr ⟨lw_p45, List.forall_mem_cons.mpr ⟨lw_p46, List.forall_mem_cons.mpr ⟨lw_p47, fun _ h => absurd h List.not_mem_nil⟩⟩⟩⟩⟩⟩⟩⟩⟩⟩⟩⟩⟩⟩⟩⟩
theorem lw_p48 : lw_okq (⟨"FuseBoxModel", "flowOf", "(II)I"⟩, 23) := ⟨⟨by decide +kernel, by decide +kernel⟩, List.mem_of_getElem? (i := 835) (by decide +kernel), List.mem_of_getElem? (i := 1023) (by decide +kernel), List.mem_of_getElem? (i := 1024) (by decide +kernel)⟩
theorem lw_p49 : lw_okq (⟨"FuseBoxModel", "runs", "(II)Z"⟩, 23) := ⟨⟨by decide +kernel, by decide +kernel⟩, List.mem_of_getElem? (i := 835) (by decide +kernel), List.mem_of_getElem? (i := 1027) (by decide +kernel), List.mem_of_getElem? (i := 1028) (by decide +kernel)⟩
theorem lw_p50 : lw_okq (⟨"FuseBoxModel", "heats", "(III)V"⟩, 23) := ⟨⟨by decide +kernel, by decide +kernel⟩, List.mem_of_getElem? (i := 835) (by decide +kernel), List.mem_of_getElem? (i := 1034) (by decide +kernel), List.mem_of_getElem? (i := 1035) (by decide +kernel)⟩
theorem lw_p51 : lw_okq (⟨"FuseBoxModel", "cools", "(II)V"⟩, 23) := ⟨⟨by decide +kernel, by decide +kernel⟩, List.mem_of_getElem? (i := 835) (by decide +kernel), List.mem_of_getElem? (i := 1038) (by decide +kernel), List.mem_of_getElem? (i := 1039) (by decide +kernel)⟩
theorem lw_p52 : lw_okq (⟨"FuseBoxModel", "isThing", "(I)Z"⟩, 23) := ⟨⟨by decide +kernel, by decide +kernel⟩, List.mem_of_getElem? (i := 835) (by decide +kernel), List.mem_of_getElem? (i := 1050) (by decide +kernel), List.mem_of_getElem? (i := 1051) (by decide +kernel)⟩
theorem lw_p53 : lw_okq (⟨"FuseBoxModel", "running", "(I)I"⟩, 23) := ⟨⟨by decide +kernel, by decide +kernel⟩, List.mem_of_getElem? (i := 835) (by decide +kernel), List.mem_of_getElem? (i := 1054) (by decide +kernel), List.mem_of_getElem? (i := 1055) (by decide +kernel)⟩
theorem lw_p54 : lw_okq (⟨"FuseBoxModel", "isLine", "(I)Z"⟩, 23) := ⟨⟨by decide +kernel, by decide +kernel⟩, List.mem_of_getElem? (i := 835) (by decide +kernel), List.mem_of_getElem? (i := 1062) (by decide +kernel), List.mem_of_getElem? (i := 1063) (by decide +kernel)⟩
theorem lw_p55 : lw_okq (⟨"FuseBoxModel", "mends", "(II)V"⟩, 23) := ⟨⟨by decide +kernel, by decide +kernel⟩, List.mem_of_getElem? (i := 835) (by decide +kernel), List.mem_of_getElem? (i := 1070) (by decide +kernel), List.mem_of_getElem? (i := 1071) (by decide +kernel)⟩
theorem lw_p56 : lw_okq (⟨"FuseBoxModel", "deadOnes", "()I"⟩, 23) := ⟨⟨by decide +kernel, by decide +kernel⟩, List.mem_of_getElem? (i := 835) (by decide +kernel), List.mem_of_getElem? (i := 1074) (by decide +kernel), List.mem_of_getElem? (i := 1075) (by decide +kernel)⟩
theorem lw_p57 : lw_okq (⟨"FuseBoxModel", "goesOn", "(I)V"⟩, 23) := ⟨⟨by decide +kernel, by decide +kernel⟩, List.mem_of_getElem? (i := 835) (by decide +kernel), List.mem_of_getElem? (i := 1106) (by decide +kernel), List.mem_of_getElem? (i := 1107) (by decide +kernel)⟩
theorem lw_p58 : lw_okq (⟨"FuseBoxModel", "onOnes", "()I"⟩, 23) := ⟨⟨by decide +kernel, by decide +kernel⟩, List.mem_of_getElem? (i := 835) (by decide +kernel), List.mem_of_getElem? (i := 1128) (by decide +kernel), List.mem_of_getElem? (i := 1129) (by decide +kernel)⟩
theorem lw_p59 : lw_okq (⟨"FuseBoxModel", "offs", "(I)V"⟩, 23) := ⟨⟨by decide +kernel, by decide +kernel⟩, List.mem_of_getElem? (i := 835) (by decide +kernel), List.mem_of_getElem? (i := 1135) (by decide +kernel), List.mem_of_getElem? (i := 1136) (by decide +kernel)⟩
theorem lw_p60 : lw_okq (⟨"FuseBoxModel", "isLiveFor", "(II)Z"⟩, 23) := ⟨⟨by decide +kernel, by decide +kernel⟩, List.mem_of_getElem? (i := 835) (by decide +kernel), List.mem_of_getElem? (i := 1139) (by decide +kernel), List.mem_of_getElem? (i := 1140) (by decide +kernel)⟩
theorem lw_p61 : lw_okq (⟨"FuseBoxModel", "plugged", "(II)I"⟩, 23) := ⟨⟨by decide +kernel, by decide +kernel⟩, List.mem_of_getElem? (i := 835) (by decide +kernel), List.mem_of_getElem? (i := 1149) (by decide +kernel), List.mem_of_getElem? (i := 1150) (by decide +kernel)⟩
theorem lw_p62 : lw_okq (⟨"FuseBoxModel", "usedBehind", "(I)I"⟩, 23) := ⟨⟨by decide +kernel, by decide +kernel⟩, List.mem_of_getElem? (i := 835) (by decide +kernel), List.mem_of_getElem? (i := 1153) (by decide +kernel), List.mem_of_getElem? (i := 1154) (by decide +kernel)⟩
theorem lw_p63 : lw_okq (⟨"FuseBoxModel", "sorts", "(IIII)I"⟩, 23) := ⟨⟨by decide +kernel, by decide +kernel⟩, List.mem_of_getElem? (i := 835) (by decide +kernel), List.mem_of_getElem? (i := 1175) (by decide +kernel), List.mem_of_getElem? (i := 1176) (by decide +kernel)⟩
def lw_privs_4 : List (MethodName × Nat) := [(⟨"FuseBoxModel", "flowOf", "(II)I"⟩, 23), (⟨"FuseBoxModel", "runs", "(II)Z"⟩, 23), (⟨"FuseBoxModel", "heats", "(III)V"⟩, 23), (⟨"FuseBoxModel", "cools", "(II)V"⟩, 23), (⟨"FuseBoxModel", "isThing", "(I)Z"⟩, 23), (⟨"FuseBoxModel", "running", "(I)I"⟩, 23), (⟨"FuseBoxModel", "isLine", "(I)Z"⟩, 23), (⟨"FuseBoxModel", "mends", "(II)V"⟩, 23), (⟨"FuseBoxModel", "deadOnes", "()I"⟩, 23), (⟨"FuseBoxModel", "goesOn", "(I)V"⟩, 23), (⟨"FuseBoxModel", "onOnes", "()I"⟩, 23), (⟨"FuseBoxModel", "offs", "(I)V"⟩, 23), (⟨"FuseBoxModel", "isLiveFor", "(II)Z"⟩, 23), (⟨"FuseBoxModel", "plugged", "(II)I"⟩, 23), (⟨"FuseBoxModel", "usedBehind", "(I)I"⟩, 23), (⟨"FuseBoxModel", "sorts", "(IIII)I"⟩, 23)]
theorem lw_r4 : ∀ q ∈ lw_privs_4, lw_okq q := List.forall_mem_cons.mpr ⟨lw_p48, List.forall_mem_cons.mpr ⟨lw_p49, List.forall_mem_cons.mpr ⟨lw_p50, List.forall_mem_cons.mpr ⟨lw_p51, List.forall_mem_cons.mpr ⟨lw_p52, List.forall_mem_cons.mpr ⟨lw_p53, List.forall_mem_cons.mpr ⟨lw_p54, List.forall_mem_cons.mpr ⟨lw_p55, List.forall_mem_cons.mpr ⟨lw_p56, List.forall_mem_cons.mpr ⟨lw_p57, List.forall_mem_cons.mpr ⟨lw_p58, List.forall_mem_cons.mpr ⟨lw_p59, List.forall_mem_cons.mpr ⟨lw_p60, List.forall_mem_cons.mpr ⟨lw_p61, List.forall_mem_cons.mpr ⟨lw_p62, List.forall_mem_cons.mpr ⟨lw_p63, fun _ h => absurd h List.not_mem_nil⟩⟩⟩⟩⟩⟩⟩⟩⟩⟩⟩⟩⟩⟩⟩⟩
theorem lw_p64 : lw_okq (⟨"FuseBoxModel", "isSo", "(IIII)Z"⟩, 23) := ⟨⟨by decide +kernel, by decide +kernel⟩, List.mem_of_getElem? (i := 835) (by decide +kernel), List.mem_of_getElem? (i := 1179) (by decide +kernel), List.mem_of_getElem? (i := 1180) (by decide +kernel)⟩
theorem lw_p65 : lw_okq (⟨"FuseBoxModel", "mainsThat", "(IIIIZ)I"⟩, 23) := ⟨⟨by decide +kernel, by decide +kernel⟩, List.mem_of_getElem? (i := 835) (by decide +kernel), List.mem_of_getElem? (i := 1183) (by decide +kernel), List.mem_of_getElem? (i := 1184) (by decide +kernel)⟩
theorem lw_p66 : lw_okq (⟨"FuseBoxModel", "wireSize", "(II)I"⟩, 23) := ⟨⟨by decide +kernel, by decide +kernel⟩, List.mem_of_getElem? (i := 835) (by decide +kernel), List.mem_of_getElem? (i := 1219) (by decide +kernel), List.mem_of_getElem? (i := 1220) (by decide +kernel)⟩
theorem lw_p67 : lw_okq (⟨"FuseBoxModel", "leaves", "(I)V"⟩, 23) := ⟨⟨by decide +kernel, by decide +kernel⟩, List.mem_of_getElem? (i := 835) (by decide +kernel), List.mem_of_getElem? (i := 1223) (by decide +kernel), List.mem_of_getElem? (i := 1224) (by decide +kernel)⟩
theorem lw_p68 : lw_okq (⟨"FuseBoxModel", "lent", "(IZ)I"⟩, 23) := ⟨⟨by decide +kernel, by decide +kernel⟩, List.mem_of_getElem? (i := 835) (by decide +kernel), List.mem_of_getElem? (i := 1227) (by decide +kernel), List.mem_of_getElem? (i := 1228) (by decide +kernel)⟩
theorem lw_p69 : lw_okq (⟨"FuseBoxModel", "wireMark", "(II)I"⟩, 23) := ⟨⟨by decide +kernel, by decide +kernel⟩, List.mem_of_getElem? (i := 835) (by decide +kernel), List.mem_of_getElem? (i := 1231) (by decide +kernel), List.mem_of_getElem? (i := 1232) (by decide +kernel)⟩
theorem lw_p70 : lw_okq (⟨"FuseBoxModel", "breakerSize", "(II)I"⟩, 23) := ⟨⟨by decide +kernel, by decide +kernel⟩, List.mem_of_getElem? (i := 835) (by decide +kernel), List.mem_of_getElem? (i := 1235) (by decide +kernel), List.mem_of_getElem? (i := 1236) (by decide +kernel)⟩
theorem lw_p71 : lw_okq (⟨"FuseBoxModel", "breakerMark", "(II)I"⟩, 23) := ⟨⟨by decide +kernel, by decide +kernel⟩, List.mem_of_getElem? (i := 835) (by decide +kernel), List.mem_of_getElem? (i := 1239) (by decide +kernel), List.mem_of_getElem? (i := 1240) (by decide +kernel)⟩
def lw_privs_5 : List (MethodName × Nat) := [(⟨"FuseBoxModel", "isSo", "(IIII)Z"⟩, 23), (⟨"FuseBoxModel", "mainsThat", "(IIIIZ)I"⟩, 23), (⟨"FuseBoxModel", "wireSize", "(II)I"⟩, 23), (⟨"FuseBoxModel", "leaves", "(I)V"⟩, 23), (⟨"FuseBoxModel", "lent", "(IZ)I"⟩, 23), (⟨"FuseBoxModel", "wireMark", "(II)I"⟩, 23), (⟨"FuseBoxModel", "breakerSize", "(II)I"⟩, 23), (⟨"FuseBoxModel", "breakerMark", "(II)I"⟩, 23)]
theorem lw_r5 : ∀ q ∈ lw_privs_5, lw_okq q := List.forall_mem_cons.mpr ⟨lw_p64, List.forall_mem_cons.mpr ⟨lw_p65, List.forall_mem_cons.mpr ⟨lw_p66, List.forall_mem_cons.mpr ⟨lw_p67, List.forall_mem_cons.mpr ⟨lw_p68, List.forall_mem_cons.mpr ⟨lw_p69, List.forall_mem_cons.mpr ⟨lw_p70, List.forall_mem_cons.mpr ⟨lw_p71, fun _ h => absurd h List.not_mem_nil⟩⟩⟩⟩⟩⟩⟩⟩
def lw_privs : List (MethodName × Nat) := lw_privs_1 ++ (lw_privs_2 ++ (lw_privs_3 ++ (lw_privs_4 ++ (lw_privs_5))))
def lw_tbl : List Cond := k2_sels lw_privs ++ tables_1
theorem lw_privs_ok : ∀ q ∈ lw_privs, lw_okq q := by
  show ∀ q ∈ lw_privs_1 ++ (lw_privs_2 ++ (lw_privs_3 ++ (lw_privs_4 ++ (lw_privs_5)))), lw_okq q
  exact List.forall_mem_append.mpr ⟨lw_r1, List.forall_mem_append.mpr ⟨lw_r2, List.forall_mem_append.mpr ⟨lw_r3, List.forall_mem_append.mpr ⟨lw_r4, lw_r5⟩⟩⟩⟩
end
section
/-! ===== BEGIN words of one list among another's, by their places ===== -/
theorem goodIn_r {big : List Cond} (ws : List Cond) (ps : List Nat) (hp : ws = ps.filterMap (fun i => big[i]?)) (h : ws.all goodWord = true) : GoodIn big ws := by
  intro w hw
  have h1 := List.all_eq_true.mp h w hw
  rw [hp] at hw
  obtain ⟨i, -, hi⟩ := List.mem_filterMap.mp hw
  have hm : w ∈ big := by first | exact List.mem_of_getElem? hi | exact List.getElem?_mem hi
  exact ⟨hm, good_of_word h1⟩
theorem goodIn_app {big a b : List Cond} (ha : GoodIn big a) (hb : GoodIn big b) : GoodIn big (a ++ b) := fun w h => (List.mem_append.mp h).elim (ha w) (hb w)
theorem goodIn_ca {big a b : List Cond} {c : Cond} (ha : GoodIn big (c :: a)) (hb : GoodIn big b) : GoodIn big (c :: (a ++ b)) := fun w h => (List.mem_cons.mp h).elim (fun e => ha w (List.mem_cons.mpr (Or.inl e))) (fun h => (List.mem_append.mp h).elim (fun h => ha w (List.mem_cons.mpr (Or.inr h))) (hb w))
theorem goodIn_sub {big ws : List Cond} (hm : ∀ w ∈ ws, w ∈ big) (h : ws.all goodWord = true) : GoodIn big ws := fun w hw => ⟨hm w hw, good_of_word (List.all_eq_true.mp h w hw)⟩
/-! ===== END ===== -/

/-! ===== BEGIN printed: names, fields, word lists, decode rows ===== -/
def RX0 : String := "FuseBox$Breaker"
def TX0 : u_T := fun k => match k with
  | _ => ("", "", "", false)
def tyX0 : Nat → FieldType := fun k => match k with
  | _ => .int
abbrev wsX00 : List Cond := u_ws RX0 TX0 0
theorem nmX0 : ∀ a, a < 0 → ∀ b, b < 0 → a ≠ b → (TX0 a).2.1 ≠ (TX0 b).2.1 := by decide +kernel
theorem tyX0_ok : ∀ k, k < 0 → parseFieldDescriptor (TX0 k).2.2.1 = some (tyX0 k) := by decide +kernel
abbrev cX0_init : ByteArray := prog_2_method_1_code
def yX0_init : MethodName := ⟨RX0, "<init>", "()V"⟩
abbrev cX0_deadIfOver : ByteArray := prog_2_method_2_code
def yX0_deadIfOver : MethodName := ⟨RX0, "deadIfOver", "()I"⟩
abbrev cX0_heatBehind : ByteArray := prog_2_method_3_code
def yX0_heatBehind : MethodName := ⟨RX0, "heatBehind", "(II)I"⟩
abbrev cX0_deadBehind : ByteArray := prog_2_method_4_code
def yX0_deadBehind : MethodName := ⟨RX0, "deadBehind", "(III)I"⟩
abbrev cX0_sizeOf : ByteArray := prog_2_method_5_code
def yX0_sizeOf : MethodName := ⟨RX0, "sizeOf", "(LFuseBox$House;ILFuseBox$Trace;)I"⟩
abbrev cX0_markOf : ByteArray := prog_2_method_6_code
def yX0_markOf : MethodName := ⟨RX0, "markOf", "(LFuseBox$House;ILFuseBox$Trace;)I"⟩
def RX1 : String := "FuseBox$Coil"
def TX1 : u_T := fun k => match k with
  | _ => ("", "", "", false)
def tyX1 : Nat → FieldType := fun k => match k with
  | _ => .int
abbrev wsX10 : List Cond := u_ws RX1 TX1 0
theorem nmX1 : ∀ a, a < 0 → ∀ b, b < 0 → a ≠ b → (TX1 a).2.1 ≠ (TX1 b).2.1 := by decide +kernel
theorem tyX1_ok : ∀ k, k < 0 → parseFieldDescriptor (TX1 k).2.2.1 = some (tyX1 k) := by decide +kernel
abbrev cX1_init : ByteArray := prog_3_method_1_code
def yX1_init : MethodName := ⟨RX1, "<init>", "()V"⟩
abbrev cX1_deadIfOver : ByteArray := prog_3_method_2_code
def yX1_deadIfOver : MethodName := ⟨RX1, "deadIfOver", "()I"⟩
abbrev cX1_sizeOf : ByteArray := prog_3_method_3_code
def yX1_sizeOf : MethodName := ⟨RX1, "sizeOf", "(LFuseBox$House;ILFuseBox$Trace;)I"⟩
def RX2 : String := "FuseBox$Fuse"
def TX2 : u_T := fun k => match k with
  | _ => ("", "", "", false)
def tyX2 : Nat → FieldType := fun k => match k with
  | _ => .int
abbrev wsX20 : List Cond := u_ws RX2 TX2 0
theorem nmX2 : ∀ a, a < 0 → ∀ b, b < 0 → a ≠ b → (TX2 a).2.1 ≠ (TX2 b).2.1 := by decide +kernel
theorem tyX2_ok : ∀ k, k < 0 → parseFieldDescriptor (TX2 k).2.2.1 = some (tyX2 k) := by decide +kernel
abbrev cX2_init : ByteArray := prog_4_method_1_code
def yX2_init : MethodName := ⟨RX2, "<init>", "()V"⟩
abbrev cX2_sizeOf : ByteArray := prog_4_method_4_code
def yX2_sizeOf : MethodName := ⟨RX2, "sizeOf", "(LFuseBox$House;ILFuseBox$Trace;)I"⟩
abbrev cX2_markOf : ByteArray := prog_4_method_5_code
def yX2_markOf : MethodName := ⟨RX2, "markOf", "(LFuseBox$House;ILFuseBox$Trace;)I"⟩
def RX3 : String := "FuseBox$House"
def TX3 : u_T := fun k => match k with
  | 0 => ("FuseBox$House", "fuses", "[LFuseBox$Fuse;", true)
  | 1 => ("FuseBox$House", "lines", "I", false)
  | 2 => ("FuseBox$House", "things", "I", false)
  | 3 => ("FuseBox$House", "main", "I", false)
  | 4 => ("FuseBox$House", "minute", "I", false)
  | 5 => ("FuseBox$House", "used", "I", false)
  | 6 => ("FuseBox$House", "mainIn", "Z", false)
  | 7 => ("FuseBox$House", "kind", "[I", true)
  | 8 => ("FuseBox$House", "rate", "[I", true)
  | 9 => ("FuseBox$House", "heat", "[I", true)
  | 10 => ("FuseBox$House", "dead", "[I", true)
  | 11 => ("FuseBox$House", "flow", "[I", true)
  | 12 => ("FuseBox$House", "plugged", "[I", true)
  | 13 => ("FuseBox$House", "load", "[I", true)
  | _ => ("FuseBox$House", "on", "I", false)
def tyX3 : Nat → FieldType := fun k => match k with
  | 0 => .array (.object "FuseBox$Fuse")
  | 1 => .int
  | 2 => .int
  | 3 => .int
  | 4 => .int
  | 5 => .int
  | 6 => .boolean
  | 7 => .array .int
  | 8 => .array .int
  | 9 => .array .int
  | 10 => .array .int
  | 11 => .array .int
  | 12 => .array .int
  | 13 => .array .int
  | _ => .int
abbrev wsX30 : List Cond := u_ws RX3 TX3 15
theorem nmX3 : ∀ a, a < 15 → ∀ b, b < 15 → a ≠ b → (TX3 a).2.1 ≠ (TX3 b).2.1 := by decide +kernel
theorem tyX3_ok : ∀ k, k < 15 → parseFieldDescriptor (TX3 k).2.2.1 = some (tyX3 k) := by decide +kernel
abbrev cX3_init : ByteArray := prog_5_method_1_code
def yX3_init : MethodName := ⟨RX3, "<init>", "([LFuseBox$Fuse;)V"⟩
abbrev cX3_clear : ByteArray := prog_5_method_2_code
def yX3_clear : MethodName := ⟨RX3, "clear", "()V"⟩
abbrev cX3_addLine : ByteArray := prog_5_method_3_code
def yX3_addLine : MethodName := ⟨RX3, "addLine", "(II)V"⟩
abbrev cX3_addThing : ByteArray := prog_5_method_4_code
def yX3_addThing : MethodName := ⟨RX3, "addThing", "(III)V"⟩
abbrev cX3_become : ByteArray := prog_5_method_5_code
def yX3_become : MethodName := ⟨RX3, "become", "(LFuseBox$House;)V"⟩
abbrev cX3_fuseOf : ByteArray := prog_5_method_6_code
def yX3_fuseOf : MethodName := ⟨RX3, "fuseOf", "(I)LFuseBox$Fuse;"⟩
abbrev cX3_isDead : ByteArray := prog_5_method_7_code
def yX3_isDead : MethodName := ⟨RX3, "isDead", "(I)Z"⟩
abbrev cX3_isLive : ByteArray := prog_5_method_8_code
def yX3_isLive : MethodName := ⟨RX3, "isLive", "(I)Z"⟩
abbrev cX3_isOn : ByteArray := prog_5_method_9_code
def yX3_isOn : MethodName := ⟨RX3, "isOn", "(I)Z"⟩
abbrev cX3_runs : ByteArray := prog_5_method_10_code
def yX3_runs : MethodName := ⟨RX3, "runs", "(I)Z"⟩
abbrev cX3_toggle : ByteArray := prog_5_method_11_code
def yX3_toggle : MethodName := ⟨RX3, "toggle", "(I)V"⟩
abbrev cX3_mendLine : ByteArray := prog_5_method_12_code
def yX3_mendLine : MethodName := ⟨RX3, "mendLine", "(I)V"⟩
abbrev cX3_deadLines : ByteArray := prog_5_method_13_code
def yX3_deadLines : MethodName := ⟨RX3, "deadLines", "()I"⟩
abbrev cX3_liveLines : ByteArray := prog_5_method_14_code
def yX3_liveLines : MethodName := ⟨RX3, "liveLines", "()I"⟩
abbrev cX3_runningThings : ByteArray := prog_5_method_15_code
def yX3_runningThings : MethodName := ⟨RX3, "runningThings", "()I"⟩
abbrev cX3_pluggedInto : ByteArray := prog_5_method_16_code
def yX3_pluggedInto : MethodName := ⟨RX3, "pluggedInto", "(I)I"⟩
abbrev cX3_loadThatIsOn : ByteArray := prog_5_method_17_code
def yX3_loadThatIsOn : MethodName := ⟨RX3, "loadThatIsOn", "()I"⟩
abbrev cX3_flowOf : ByteArray := prog_5_method_18_code
def yX3_flowOf : MethodName := ⟨RX3, "flowOf", "(I)I"⟩
abbrev cX3_reckonFlows : ByteArray := prog_5_method_19_code
def yX3_reckonFlows : MethodName := ⟨RX3, "reckonFlows", "()I"⟩
abbrev cX3_passMinute : ByteArray := prog_5_method_20_code
def yX3_passMinute : MethodName := ⟨RX3, "passMinute", "()V"⟩
abbrev cX3_passLine : ByteArray := prog_5_method_21_code
def yX3_passLine : MethodName := ⟨RX3, "passLine", "(II)V"⟩
abbrev cX3_staysLive : ByteArray := prog_5_method_22_code
def yX3_staysLive : MethodName := ⟨RX3, "staysLive", "(II)Z"⟩
abbrev cX3_liveMinutes : ByteArray := prog_5_method_23_code
def yX3_liveMinutes : MethodName := ⟨RX3, "liveMinutes", "(III)I"⟩
abbrev cX3_heatsAs : ByteArray := prog_5_method_24_code
def yX3_heatsAs : MethodName := ⟨RX3, "heatsAs", "(I[III)Z"⟩
abbrev cX3_takeKind : ByteArray := prog_5_method_25_code
def yX3_takeKind : MethodName := ⟨RX3, "takeKind", "(II)V"⟩
abbrev cX3_draw : ByteArray := prog_5_method_26_code
def yX3_draw : MethodName := ⟨RX3, "draw", "(J)V"⟩
abbrev cX3_mendAll : ByteArray := prog_5_method_27_code
def yX3_mendAll : MethodName := ⟨RX3, "mendAll", "()V"⟩
def RX4 : String := "FuseBox$Plugging"
def TX4 : u_T := fun k => match k with
  | 0 => ("FuseBox$Plugging", "live", "[I", true)
  | 1 => ("FuseBox$Plugging", "loads", "[I", true)
  | 2 => ("FuseBox$Plugging", "way", "[I", true)
  | 3 => ("FuseBox$Plugging", "best", "[I", true)
  | 4 => ("FuseBox$Plugging", "most", "I", false)
  | 5 => ("FuseBox$Plugging", "house", "LFuseBox$House;", false)
  | _ => ("FuseBox$Plugging", "minutes", "I", false)
def tyX4 : Nat → FieldType := fun k => match k with
  | 0 => .array .int
  | 1 => .array .int
  | 2 => .array .int
  | 3 => .array .int
  | 4 => .int
  | 5 => .object "FuseBox$House"
  | _ => .int
abbrev wsX40 : List Cond := u_ws RX4 TX4 7
theorem nmX4 : ∀ a, a < 7 → ∀ b, b < 7 → a ≠ b → (TX4 a).2.1 ≠ (TX4 b).2.1 := by decide +kernel
theorem tyX4_ok : ∀ k, k < 7 → parseFieldDescriptor (TX4 k).2.2.1 = some (tyX4 k) := by decide +kernel
abbrev cX4_init : ByteArray := prog_6_method_1_code
def yX4_init : MethodName := ⟨RX4, "<init>", "()V"⟩
abbrev cX4_search : ByteArray := prog_6_method_2_code
def yX4_search : MethodName := ⟨RX4, "search", "(LFuseBox$House;I)V"⟩
abbrev cX4_foretellLine : ByteArray := prog_6_method_3_code
def yX4_foretellLine : MethodName := ⟨RX4, "foretellLine", "(I)V"⟩
abbrev cX4_plugFrom : ByteArray := prog_6_method_4_code
def yX4_plugFrom : MethodName := ⟨RX4, "plugFrom", "(I)V"⟩
abbrev cX4_weigh : ByteArray := prog_6_method_5_code
def yX4_weigh : MethodName := ⟨RX4, "weigh", "()V"⟩
abbrev cX4_usedThen : ByteArray := prog_6_method_6_code
def yX4_usedThen : MethodName := ⟨RX4, "usedThen", "()I"⟩
abbrev cX4_usedUntilMainIsOut : ByteArray := prog_6_method_7_code
def yX4_usedUntilMainIsOut : MethodName := ⟨RX4, "usedUntilMainIsOut", "()I"⟩
abbrev cX4_liveMinutes : ByteArray := prog_6_method_8_code
def yX4_liveMinutes : MethodName := ⟨RX4, "liveMinutes", "(I)I"⟩
def RX5 : String := "FuseBox$Quick"
def TX5 : u_T := fun k => match k with
  | _ => ("", "", "", false)
def tyX5 : Nat → FieldType := fun k => match k with
  | _ => .int
abbrev wsX50 : List Cond := u_ws RX5 TX5 0
theorem nmX5 : ∀ a, a < 0 → ∀ b, b < 0 → a ≠ b → (TX5 a).2.1 ≠ (TX5 b).2.1 := by decide +kernel
theorem tyX5_ok : ∀ k, k < 0 → parseFieldDescriptor (TX5 k).2.2.1 = some (tyX5 k) := by decide +kernel
abbrev cX5_init : ByteArray := prog_7_method_1_code
def yX5_init : MethodName := ⟨RX5, "<init>", "()V"⟩
abbrev cX5_deadBehind : ByteArray := prog_7_method_2_code
def yX5_deadBehind : MethodName := ⟨RX5, "deadBehind", "(III)I"⟩
abbrev cX5_markOf : ByteArray := prog_7_method_3_code
def yX5_markOf : MethodName := ⟨RX5, "markOf", "(LFuseBox$House;ILFuseBox$Trace;)I"⟩
def RX6 : String := "FuseBox$Reader"
def TX6 : u_T := fun k => match k with
  | 0 => ("FuseBox$Reader", "letters", "[I", true)
  | 1 => ("FuseBox$Reader", "size", "I", false)
  | 2 => ("FuseBox$Reader", "token", "I", false)
  | 3 => ("FuseBox$Reader", "value", "I", false)
  | 4 => ("FuseBox$Reader", "behind", "I", false)
  | 5 => ("FuseBox$Reader", "start", "I", false)
  | _ => ("FuseBox$Reader", "fault", "I", false)
def tyX6 : Nat → FieldType := fun k => match k with
  | 0 => .array .int
  | 1 => .int
  | 2 => .int
  | 3 => .int
  | 4 => .int
  | 5 => .int
  | _ => .int
abbrev wsX60 : List Cond := u_ws RX6 TX6 7
theorem nmX6 : ∀ a, a < 7 → ∀ b, b < 7 → a ≠ b → (TX6 a).2.1 ≠ (TX6 b).2.1 := by decide +kernel
theorem tyX6_ok : ∀ k, k < 7 → parseFieldDescriptor (TX6 k).2.2.1 = some (tyX6 k) := by decide +kernel
abbrev cX6_init : ByteArray := prog_8_method_1_code
def yX6_init : MethodName := ⟨RX6, "<init>", "()V"⟩
abbrev cX6_append : ByteArray := prog_8_method_2_code
def yX6_append : MethodName := ⟨RX6, "append", "(I)I"⟩
abbrev cX6_readInto : ByteArray := prog_8_method_3_code
def yX6_readInto : MethodName := ⟨RX6, "readInto", "(LFuseBox$House;)I"⟩
abbrev cX6_readLaw : ByteArray := prog_8_method_4_code
def yX6_readLaw : MethodName := ⟨RX6, "readLaw", "(LFuseBox$House;)V"⟩
abbrev cX6_readLine : ByteArray := prog_8_method_5_code
def yX6_readLine : MethodName := ⟨RX6, "readLine", "(LFuseBox$House;)V"⟩
abbrev cX6_readThing : ByteArray := prog_8_method_6_code
def yX6_readThing : MethodName := ⟨RX6, "readThing", "(LFuseBox$House;)V"⟩
abbrev cX6_sortOf : ByteArray := prog_8_method_7_code
def yX6_sortOf : MethodName := ⟨RX6, "sortOf", "(I)I"⟩
abbrev cX6_take : ByteArray := prog_8_method_8_code
def yX6_take : MethodName := ⟨RX6, "take", "(I)V"⟩
abbrev cX6_takeNumber : ByteArray := prog_8_method_9_code
def yX6_takeNumber : MethodName := ⟨RX6, "takeNumber", "(II)I"⟩
abbrev cX6_fail : ByteArray := prog_8_method_10_code
def yX6_fail : MethodName := ⟨RX6, "fail", "(I)V"⟩
abbrev cX6_readToken : ByteArray := prog_8_method_11_code
def yX6_readToken : MethodName := ⟨RX6, "readToken", "()V"⟩
abbrev cX6_readNumber : ByteArray := prog_8_method_12_code
def yX6_readNumber : MethodName := ⟨RX6, "readNumber", "()V"⟩
abbrev cX6_isFigure : ByteArray := prog_8_method_13_code
def yX6_isFigure : MethodName := ⟨RX6, "isFigure", "(I)Z"⟩
def RX7 : String := "FuseBox$Row"
def TX7 : u_T := fun k => match k with
  | 0 => ("FuseBox$Row", "items", "[I", true)
  | 1 => ("FuseBox$Row", "lane", "I", false)
  | _ => ("FuseBox$Row", "size", "I", false)
def tyX7 : Nat → FieldType := fun k => match k with
  | 0 => .array .int
  | 1 => .int
  | _ => .int
abbrev wsX70 : List Cond := u_ws RX7 TX7 3
theorem nmX7 : ∀ a, a < 3 → ∀ b, b < 3 → a ≠ b → (TX7 a).2.1 ≠ (TX7 b).2.1 := by decide +kernel
theorem tyX7_ok : ∀ k, k < 3 → parseFieldDescriptor (TX7 k).2.2.1 = some (tyX7 k) := by decide +kernel
abbrev cX7_init : ByteArray := prog_9_method_1_code
def yX7_init : MethodName := ⟨RX7, "<init>", "()V"⟩
abbrev cX7_begin : ByteArray := prog_9_method_2_code
def yX7_begin : MethodName := ⟨RX7, "begin", "(II)V"⟩
abbrev cX7_end : ByteArray := prog_9_method_3_code
def yX7_end : MethodName := ⟨RX7, "end", "()V"⟩
abbrev cX7_isMissing : ByteArray := prog_9_method_4_code
def yX7_isMissing : MethodName := ⟨RX7, "isMissing", "()Z"⟩
abbrev cX7_has : ByteArray := prog_9_method_5_code
def yX7_has : MethodName := ⟨RX7, "has", "(II)Z"⟩
abbrev cX7_cut : ByteArray := prog_9_method_6_code
def yX7_cut : MethodName := ⟨RX7, "cut", "(I)I"⟩
def RX8 : String := "FuseBox$Slow"
def TX8 : u_T := fun k => match k with
  | _ => ("", "", "", false)
def tyX8 : Nat → FieldType := fun k => match k with
  | _ => .int
abbrev wsX80 : List Cond := u_ws RX8 TX8 0
theorem nmX8 : ∀ a, a < 0 → ∀ b, b < 0 → a ≠ b → (TX8 a).2.1 ≠ (TX8 b).2.1 := by decide +kernel
theorem tyX8_ok : ∀ k, k < 0 → parseFieldDescriptor (TX8 k).2.2.1 = some (tyX8 k) := by decide +kernel
abbrev cX8_init : ByteArray := prog_10_method_1_code
def yX8_init : MethodName := ⟨RX8, "<init>", "()V"⟩
abbrev cX8_heatBy : ByteArray := prog_10_method_2_code
def yX8_heatBy : MethodName := ⟨RX8, "heatBy", "(I)I"⟩
abbrev cX8_sizeOf : ByteArray := prog_10_method_3_code
def yX8_sizeOf : MethodName := ⟨RX8, "sizeOf", "(LFuseBox$House;ILFuseBox$Trace;)I"⟩
abbrev cX8_markOf : ByteArray := prog_10_method_4_code
def yX8_markOf : MethodName := ⟨RX8, "markOf", "(LFuseBox$House;ILFuseBox$Trace;)I"⟩
def RX9 : String := "FuseBox$Trace"
def TX9 : u_T := fun k => match k with
  | 0 => ("FuseBox$Trace", "bodies", "[I", true)
  | _ => ("FuseBox$Trace", "size", "I", false)
def tyX9 : Nat → FieldType := fun k => match k with
  | 0 => .array .int
  | _ => .int
abbrev wsX90 : List Cond := u_ws RX9 TX9 2
theorem nmX9 : ∀ a, a < 2 → ∀ b, b < 2 → a ≠ b → (TX9 a).2.1 ≠ (TX9 b).2.1 := by decide +kernel
theorem tyX9_ok : ∀ k, k < 2 → parseFieldDescriptor (TX9 k).2.2.1 = some (tyX9 k) := by decide +kernel
abbrev cX9_init : ByteArray := prog_11_method_1_code
def yX9_init : MethodName := ⟨RX9, "<init>", "()V"⟩
abbrev cX9_empty : ByteArray := prog_11_method_2_code
def yX9_empty : MethodName := ⟨RX9, "empty", "()V"⟩
abbrev cX9_leave : ByteArray := prog_11_method_3_code
def yX9_leave : MethodName := ⟨RX9, "leave", "(I)V"⟩
def RX10 : String := "FuseBox$Wire"
def TX10 : u_T := fun k => match k with
  | _ => ("", "", "", false)
def tyX10 : Nat → FieldType := fun k => match k with
  | _ => .int
abbrev wsX100 : List Cond := u_ws RX10 TX10 0
theorem nmX10 : ∀ a, a < 0 → ∀ b, b < 0 → a ≠ b → (TX10 a).2.1 ≠ (TX10 b).2.1 := by decide +kernel
theorem tyX10_ok : ∀ k, k < 0 → parseFieldDescriptor (TX10 k).2.2.1 = some (tyX10 k) := by decide +kernel
abbrev cX10_init : ByteArray := prog_12_method_1_code
def yX10_init : MethodName := ⟨RX10, "<init>", "()V"⟩
abbrev cX10_heatBy : ByteArray := prog_12_method_2_code
def yX10_heatBy : MethodName := ⟨RX10, "heatBy", "(I)I"⟩
abbrev cX10_heatBehind : ByteArray := prog_12_method_3_code
def yX10_heatBehind : MethodName := ⟨RX10, "heatBehind", "(II)I"⟩
abbrev cX10_deadBehind : ByteArray := prog_12_method_4_code
def yX10_deadBehind : MethodName := ⟨RX10, "deadBehind", "(III)I"⟩
abbrev cX10_sizeOf : ByteArray := prog_12_method_5_code
def yX10_sizeOf : MethodName := ⟨RX10, "sizeOf", "(LFuseBox$House;ILFuseBox$Trace;)I"⟩
abbrev cX10_markOf : ByteArray := prog_12_method_6_code
def yX10_markOf : MethodName := ⟨RX10, "markOf", "(LFuseBox$House;ILFuseBox$Trace;)I"⟩
def RX11 : String := "FuseBox"
def TX11 : u_T := fun k => match k with
  | 0 => ("FuseBox", "rows", "[LFuseBox$Row;", true)
  | 1 => ("FuseBox", "reader", "LFuseBox$Reader;", true)
  | 2 => ("FuseBox", "now", "LFuseBox$House;", true)
  | 3 => ("FuseBox", "trial", "LFuseBox$House;", true)
  | 4 => ("FuseBox", "images", "[LFuseBox$House;", true)
  | 5 => ("FuseBox", "acts", "[LFuseBox$House;", true)
  | 6 => ("FuseBox", "oldestAct", "I", false)
  | 7 => ("FuseBox", "actsKept", "I", false)
  | 8 => ("FuseBox", "plugging", "LFuseBox$Plugging;", true)
  | 9 => ("FuseBox", "trace", "LFuseBox$Trace;", true)
  | 10 => ("FuseBox", "latestFault", "I", false)
  | _ => ("FuseBox", "latestFinding", "I", false)
def tyX11 : Nat → FieldType := fun k => match k with
  | 0 => .array (.object "FuseBox$Row")
  | 1 => .object "FuseBox$Reader"
  | 2 => .object "FuseBox$House"
  | 3 => .object "FuseBox$House"
  | 4 => .array (.object "FuseBox$House")
  | 5 => .array (.object "FuseBox$House")
  | 6 => .int
  | 7 => .int
  | 8 => .object "FuseBox$Plugging"
  | 9 => .object "FuseBox$Trace"
  | 10 => .int
  | _ => .int
abbrev wsX110 : List Cond := u_ws RX11 TX11 12
theorem nmX11 : ∀ a, a < 12 → ∀ b, b < 12 → a ≠ b → (TX11 a).2.1 ≠ (TX11 b).2.1 := by decide +kernel
theorem tyX11_ok : ∀ k, k < 12 → parseFieldDescriptor (TX11 k).2.2.1 = some (tyX11 k) := by decide +kernel
abbrev cX11_init : ByteArray := prog_1_method_1_code
def yX11_init : MethodName := ⟨RX11, "<init>", "()V"⟩
abbrev cX11_row : ByteArray := prog_1_method_2_code
def yX11_row : MethodName := ⟨RX11, "row", "(III)I"⟩
abbrev cX11_set : ByteArray := prog_1_method_3_code
def yX11_set : MethodName := ⟨RX11, "set", "(III)I"⟩
abbrev cX11_copy : ByteArray := prog_1_method_4_code
def yX11_copy : MethodName := ⟨RX11, "copy", "(IIIII)I"⟩
abbrev cX11_drop : ByteArray := prog_1_method_5_code
def yX11_drop : MethodName := ⟨RX11, "drop", "(I)I"⟩
abbrev cX11_noRow : ByteArray := prog_1_method_6_code
def yX11_noRow : MethodName := ⟨RX11, "noRow", "(I)Z"⟩
abbrev cX11_found : ByteArray := prog_1_method_7_code
def yX11_found : MethodName := ⟨RX11, "found", "(I)I"⟩
abbrev cX11_fine : ByteArray := prog_1_method_8_code
def yX11_fine : MethodName := ⟨RX11, "fine", "(I)I"⟩
abbrev cX11_feed : ByteArray := prog_1_method_9_code
def yX11_feed : MethodName := ⟨RX11, "feed", "(I)I"⟩
abbrev cX11_house : ByteArray := prog_1_method_10_code
def yX11_house : MethodName := ⟨RX11, "house", "()I"⟩
abbrev cX11_fault : ByteArray := prog_1_method_11_code
def yX11_fault : MethodName := ⟨RX11, "fault", "()I"⟩
abbrev cX11_minutes : ByteArray := prog_1_method_12_code
def yX11_minutes : MethodName := ⟨RX11, "minutes", "(I)I"⟩
abbrev cX11_turn : ByteArray := prog_1_method_13_code
def yX11_turn : MethodName := ⟨RX11, "turn", "(II)I"⟩
abbrev cX11_plug : ByteArray := prog_1_method_14_code
def yX11_plug : MethodName := ⟨RX11, "plug", "(II)I"⟩
abbrev cX11_mend : ByteArray := prog_1_method_15_code
def yX11_mend : MethodName := ⟨RX11, "mend", "(I)I"⟩
abbrev cX11_mains : ByteArray := prog_1_method_16_code
def yX11_mains : MethodName := ⟨RX11, "mains", "()I"⟩
abbrev cX11_rate : ByteArray := prog_1_method_17_code
def yX11_rate : MethodName := ⟨RX11, "rate", "(II)I"⟩
abbrev cX11_undo : ByteArray := prog_1_method_18_code
def yX11_undo : MethodName := ⟨RX11, "undo", "()I"⟩
abbrev cX11_line : ByteArray := prog_1_method_19_code
def yX11_line : MethodName := ⟨RX11, "line", "(II)I"⟩
abbrev cX11_thing : ByteArray := prog_1_method_20_code
def yX11_thing : MethodName := ⟨RX11, "thing", "(II)I"⟩
abbrev cX11_noHouse : ByteArray := prog_1_method_21_code
def yX11_noHouse : MethodName := ⟨RX11, "noHouse", "()Z"⟩
abbrev cX11_noLine : ByteArray := prog_1_method_22_code
def yX11_noLine : MethodName := ⟨RX11, "noLine", "(I)Z"⟩
abbrev cX11_noThing : ByteArray := prog_1_method_23_code
def yX11_noThing : MethodName := ⟨RX11, "noThing", "(I)Z"⟩
abbrev cX11_forgetActs : ByteArray := prog_1_method_24_code
def yX11_forgetActs : MethodName := ⟨RX11, "forgetActs", "()V"⟩
abbrev cX11_keepAct : ByteArray := prog_1_method_25_code
def yX11_keepAct : MethodName := ⟨RX11, "keepAct", "()V"⟩
abbrev cX11_heat : ByteArray := prog_1_method_26_code
def yX11_heat : MethodName := ⟨RX11, "heat", "(II)I"⟩
abbrev cX11_later : ByteArray := prog_1_method_27_code
def yX11_later : MethodName := ⟨RX11, "later", "(II)I"⟩
abbrev cX11_lost : ByteArray := prog_1_method_28_code
def yX11_lost : MethodName := ⟨RX11, "lost", "(I)I"⟩
abbrev cX11_dark : ByteArray := prog_1_method_29_code
def yX11_dark : MethodName := ⟨RX11, "dark", "()I"⟩
abbrev cX11_shed : ByteArray := prog_1_method_30_code
def yX11_shed : MethodName := ⟨RX11, "shed", "(III)I"⟩
abbrev cX11_plugs : ByteArray := prog_1_method_31_code
def yX11_plugs : MethodName := ⟨RX11, "plugs", "(II)I"⟩
abbrev cX11_holds : ByteArray := prog_1_method_32_code
def yX11_holds : MethodName := ⟨RX11, "holds", "(II)I"⟩
abbrev cX11_faulty : ByteArray := prog_1_method_33_code
def yX11_faulty : MethodName := ⟨RX11, "faulty", "(II)I"⟩
abbrev cX11_bill : ByteArray := prog_1_method_34_code
def yX11_bill : MethodName := ⟨RX11, "bill", "(II)I"⟩
abbrev cX11_fits : ByteArray := prog_1_method_35_code
def yX11_fits : MethodName := ⟨RX11, "fits", "(IIIII)I"⟩
abbrev cX11_chance : ByteArray := prog_1_method_36_code
def yX11_chance : MethodName := ⟨RX11, "chance", "(IIII)I"⟩
abbrev cX11_drawn : ByteArray := prog_1_method_37_code
def yX11_drawn : MethodName := ⟨RX11, "drawn", "(III)I"⟩
abbrev cX11_image : ByteArray := prog_1_method_38_code
def yX11_image : MethodName := ⟨RX11, "image", "(I)I"⟩
abbrev cX11_restore : ByteArray := prog_1_method_39_code
def yX11_restore : MethodName := ⟨RX11, "restore", "(I)I"⟩
abbrev cX11_noImage : ByteArray := prog_1_method_40_code
def yX11_noImage : MethodName := ⟨RX11, "noImage", "(I)Z"⟩
abbrev cX11_foretell : ByteArray := prog_1_method_41_code
def yX11_foretell : MethodName := ⟨RX11, "foretell", "(I)V"⟩
abbrev cX11_runsWithout : ByteArray := prog_1_method_42_code
def yX11_runsWithout : MethodName := ⟨RX11, "runsWithout", "(III)Z"⟩
abbrev cX11_isLiveWithout : ByteArray := prog_1_method_43_code
def yX11_isLiveWithout : MethodName := ⟨RX11, "isLiveWithout", "(III)Z"⟩
abbrev cX11_weightOf : ByteArray := prog_1_method_44_code
def yX11_weightOf : MethodName := ⟨RX11, "weightOf", "(II)I"⟩
abbrev cX11_commonDivisor : ByteArray := prog_1_method_45_code
def yX11_commonDivisor : MethodName := ⟨RX11, "commonDivisor", "(II)I"⟩
abbrev cX11_sortsThatFit : ByteArray := prog_1_method_46_code
def yX11_sortsThatFit : MethodName := ⟨RX11, "sortsThatFit", "(ILFuseBox$Row;II)I"⟩
abbrev cX11_ratesThatFit : ByteArray := prog_1_method_47_code
def yX11_ratesThatFit : MethodName := ⟨RX11, "ratesThatFit", "(ILFuseBox$Row;II)I"⟩
abbrev cX11_heatsThatFit : ByteArray := prog_1_method_48_code
def yX11_heatsThatFit : MethodName := ⟨RX11, "heatsThatFit", "(ILFuseBox$Row;II)I"⟩
abbrev cX11_mainsThatFit : ByteArray := prog_1_method_49_code
def yX11_mainsThatFit : MethodName := ⟨RX11, "mainsThatFit", "(ILFuseBox$Row;IIZ)I"⟩
abbrev cX11_kind : ByteArray := prog_1_method_50_code
def yX11_kind : MethodName := ⟨RX11, "kind", "(I)I"⟩
abbrev cX11_as : ByteArray := prog_1_method_51_code
def yX11_as : MethodName := ⟨RX11, "as", "(II)I"⟩
abbrev cX11_ask : ByteArray := prog_1_method_52_code
def yX11_ask : MethodName := ⟨RX11, "ask", "(II)I"⟩
abbrev cX11_trace : ByteArray := prog_1_method_53_code
def yX11_trace : MethodName := ⟨RX11, "trace", "(I)I"⟩
abbrev cX11_count : ByteArray := prog_1_method_54_code
def yX11_count : MethodName := ⟨RX11, "count", "(I)I"⟩
abbrev cX11_status : ByteArray := prog_1_method_55_code
def yX11_status : MethodName := ⟨RX11, "status", "()I"⟩
abbrev cX11_isA : ByteArray := prog_1_method_56_code
def yX11_isA : MethodName := ⟨RX11, "isA", "(LFuseBox$Fuse;I)Z"⟩
abbrev cX11_rowsThere : ByteArray := prog_1_method_57_code
def yX11_rowsThere : MethodName := ⟨RX11, "rowsThere", "()I"⟩
def RX12 : String := "FuseBoxModel"
def TX12 : u_T := fun k => match k with
  | 0 => ("FuseBoxModel", "slot", "[I", true)
  | 1 => ("FuseBoxModel", "told", "[I", true)
  | 2 => ("FuseBoxModel", "kept", "[I", true)
  | 3 => ("FuseBoxModel", "acts", "I", false)
  | 4 => ("FuseBoxModel", "lane", "[I", true)
  | 5 => ("FuseBoxModel", "size", "[I", true)
  | 6 => ("FuseBoxModel", "items", "[I", true)
  | 7 => ("FuseBoxModel", "moved", "[I", true)
  | 8 => ("FuseBoxModel", "found", "I", false)
  | 9 => ("FuseBoxModel", "length", "I", false)
  | 10 => ("FuseBoxModel", "tape", "[B", true)
  | 11 => ("FuseBoxModel", "next", "I", false)
  | 12 => ("FuseBoxModel", "place", "I", false)
  | 13 => ("FuseBoxModel", "number", "I", false)
  | 14 => ("FuseBoxModel", "wrong", "I", false)
  | 15 => ("FuseBoxModel", "latest", "I", false)
  | 16 => ("FuseBoxModel", "read", "[I", true)
  | 17 => ("FuseBoxModel", "readRate", "[I", true)
  | 18 => ("FuseBoxModel", "readPlug", "[I", true)
  | 19 => ("FuseBoxModel", "readOn", "[I", true)
  | 20 => ("FuseBoxModel", "traces", "I", false)
  | 21 => ("FuseBoxModel", "traced", "[I", true)
  | _ => ("FuseBoxModel", "flows", "[I", true)
def tyX12 : Nat → FieldType := fun k => match k with
  | 0 => .array .int
  | 1 => .array .int
  | 2 => .array .int
  | 3 => .int
  | 4 => .array .int
  | 5 => .array .int
  | 6 => .array .int
  | 7 => .array .int
  | 8 => .int
  | 9 => .int
  | 10 => .array .byte
  | 11 => .int
  | 12 => .int
  | 13 => .int
  | 14 => .int
  | 15 => .int
  | 16 => .array .int
  | 17 => .array .int
  | 18 => .array .int
  | 19 => .array .int
  | 20 => .int
  | 21 => .array .int
  | _ => .array .int
abbrev wsX120 : List Cond := u_ws RX12 TX12 23
theorem nmX12 : ∀ a, a < 23 → ∀ b, b < 23 → a ≠ b → (TX12 a).2.1 ≠ (TX12 b).2.1 := by decide +kernel
theorem tyX12_ok : ∀ k, k < 23 → parseFieldDescriptor (TX12 k).2.2.1 = some (tyX12 k) := by decide +kernel
abbrev cX12_init : ByteArray := prog_14_method_1_code
def yX12_init : MethodName := ⟨RX12, "<init>", "()V"⟩
abbrev cX12_in : ByteArray := prog_14_method_2_code
def yX12_in : MethodName := ⟨RX12, "in", "(JJJ)Z"⟩
abbrev cX12_has : ByteArray := prog_14_method_3_code
def yX12_has : MethodName := ⟨RX12, "has", "(II)Z"⟩
abbrev cX12_bits : ByteArray := prog_14_method_4_code
def yX12_bits : MethodName := ⟨RX12, "bits", "(I)I"⟩
abbrev cX12_larger : ByteArray := prog_14_method_5_code
def yX12_larger : MethodName := ⟨RX12, "larger", "(II)I"⟩
abbrev cX12_finds : ByteArray := prog_14_method_6_code
def yX12_finds : MethodName := ⟨RX12, "finds", "(I)I"⟩
abbrev cX12_fine : ByteArray := prog_14_method_7_code
def yX12_fine : MethodName := ⟨RX12, "fine", "(I)I"⟩
abbrev cX12_row : ByteArray := prog_14_method_8_code
def yX12_row : MethodName := ⟨RX12, "row", "(III)I"⟩
abbrev cX12_set : ByteArray := prog_14_method_9_code
def yX12_set : MethodName := ⟨RX12, "set", "(III)I"⟩
abbrev cX12_copy : ByteArray := prog_14_method_10_code
def yX12_copy : MethodName := ⟨RX12, "copy", "(IIIII)I"⟩
abbrev cX12_drop : ByteArray := prog_14_method_11_code
def yX12_drop : MethodName := ⟨RX12, "drop", "(I)I"⟩
abbrev cX12_feed : ByteArray := prog_14_method_12_code
def yX12_feed : MethodName := ⟨RX12, "feed", "(I)I"⟩
abbrev cX12_byteAt : ByteArray := prog_14_method_13_code
def yX12_byteAt : MethodName := ⟨RX12, "byteAt", "(I)I"⟩
abbrev cX12_token : ByteArray := prog_14_method_14_code
def yX12_token : MethodName := ⟨RX12, "token", "()I"⟩
abbrev cX12_wants : ByteArray := prog_14_method_15_code
def yX12_wants : MethodName := ⟨RX12, "wants", "(II)I"⟩
abbrev cX12_sign : ByteArray := prog_14_method_16_code
def yX12_sign : MethodName := ⟨RX12, "sign", "(I)V"⟩
abbrev cX12_sortOf : ByteArray := prog_14_method_17_code
def yX12_sortOf : MethodName := ⟨RX12, "sortOf", "(I)I"⟩
abbrev cX12_lineItem : ByteArray := prog_14_method_18_code
def yX12_lineItem : MethodName := ⟨RX12, "lineItem", "(I)V"⟩
abbrev cX12_thingItem : ByteArray := prog_14_method_19_code
def yX12_thingItem : MethodName := ⟨RX12, "thingItem", "()V"⟩
abbrev cX12_reads : ByteArray := prog_14_method_20_code
def yX12_reads : MethodName := ⟨RX12, "reads", "()V"⟩
abbrev cX12_house : ByteArray := prog_14_method_21_code
def yX12_house : MethodName := ⟨RX12, "house", "()I"⟩
abbrev cX12_fault : ByteArray := prog_14_method_22_code
def yX12_fault : MethodName := ⟨RX12, "fault", "()I"⟩
abbrev cX12_isLine : ByteArray := prog_14_method_23_code
def yX12_isLine : MethodName := ⟨RX12, "isLine", "(I)Z"⟩
abbrev cX12_isThing : ByteArray := prog_14_method_24_code
def yX12_isThing : MethodName := ⟨RX12, "isThing", "(I)Z"⟩
abbrev cX12_isHouse : ByteArray := prog_14_method_25_code
def yX12_isHouse : MethodName := ⟨RX12, "isHouse", "()Z"⟩
abbrev cX12_isLive : ByteArray := prog_14_method_26_code
def yX12_isLive : MethodName := ⟨RX12, "isLive", "(II)Z"⟩
abbrev cX12_runs : ByteArray := prog_14_method_27_code
def yX12_runs : MethodName := ⟨RX12, "runs", "(II)Z"⟩
abbrev cX12_flowOf : ByteArray := prog_14_method_28_code
def yX12_flowOf : MethodName := ⟨RX12, "flowOf", "(II)I"⟩
abbrev cX12_liveOnes : ByteArray := prog_14_method_29_code
def yX12_liveOnes : MethodName := ⟨RX12, "liveOnes", "(I)I"⟩
abbrev cX12_running : ByteArray := prog_14_method_30_code
def yX12_running : MethodName := ⟨RX12, "running", "(I)I"⟩
abbrev cX12_deadOnes : ByteArray := prog_14_method_31_code
def yX12_deadOnes : MethodName := ⟨RX12, "deadOnes", "()I"⟩
abbrev cX12_heats : ByteArray := prog_14_method_32_code
def yX12_heats : MethodName := ⟨RX12, "heats", "(III)V"⟩
abbrev cX12_cools : ByteArray := prog_14_method_33_code
def yX12_cools : MethodName := ⟨RX12, "cools", "(II)V"⟩
abbrev cX12_passes : ByteArray := prog_14_method_34_code
def yX12_passes : MethodName := ⟨RX12, "passes", "(I)V"⟩
abbrev cX12_copies : ByteArray := prog_14_method_35_code
def yX12_copies : MethodName := ⟨RX12, "copies", "(II)V"⟩
abbrev cX12_known : ByteArray := prog_14_method_36_code
def yX12_known : MethodName := ⟨RX12, "known", "()V"⟩
abbrev cX12_minutes : ByteArray := prog_14_method_37_code
def yX12_minutes : MethodName := ⟨RX12, "minutes", "(I)I"⟩
abbrev cX12_turn : ByteArray := prog_14_method_38_code
def yX12_turn : MethodName := ⟨RX12, "turn", "(II)I"⟩
abbrev cX12_plug : ByteArray := prog_14_method_39_code
def yX12_plug : MethodName := ⟨RX12, "plug", "(II)I"⟩
abbrev cX12_mends : ByteArray := prog_14_method_40_code
def yX12_mends : MethodName := ⟨RX12, "mends", "(II)V"⟩
abbrev cX12_mend : ByteArray := prog_14_method_41_code
def yX12_mend : MethodName := ⟨RX12, "mend", "(I)I"⟩
abbrev cX12_mains : ByteArray := prog_14_method_42_code
def yX12_mains : MethodName := ⟨RX12, "mains", "()I"⟩
abbrev cX12_rate : ByteArray := prog_14_method_43_code
def yX12_rate : MethodName := ⟨RX12, "rate", "(II)I"⟩
abbrev cX12_undo : ByteArray := prog_14_method_44_code
def yX12_undo : MethodName := ⟨RX12, "undo", "()I"⟩
abbrev cX12_line : ByteArray := prog_14_method_45_code
def yX12_line : MethodName := ⟨RX12, "line", "(II)I"⟩
abbrev cX12_thing : ByteArray := prog_14_method_46_code
def yX12_thing : MethodName := ⟨RX12, "thing", "(II)I"⟩
abbrev cX12_goesOn : ByteArray := prog_14_method_47_code
def yX12_goesOn : MethodName := ⟨RX12, "goesOn", "(I)V"⟩
abbrev cX12_heat : ByteArray := prog_14_method_48_code
def yX12_heat : MethodName := ⟨RX12, "heat", "(II)I"⟩
abbrev cX12_later : ByteArray := prog_14_method_49_code
def yX12_later : MethodName := ⟨RX12, "later", "(II)I"⟩
abbrev cX12_lost : ByteArray := prog_14_method_50_code
def yX12_lost : MethodName := ⟨RX12, "lost", "(I)I"⟩
abbrev cX12_dark : ByteArray := prog_14_method_51_code
def yX12_dark : MethodName := ⟨RX12, "dark", "()I"⟩
abbrev cX12_onOnes : ByteArray := prog_14_method_52_code
def yX12_onOnes : MethodName := ⟨RX12, "onOnes", "()I"⟩
abbrev cX12_offs : ByteArray := prog_14_method_53_code
def yX12_offs : MethodName := ⟨RX12, "offs", "(I)V"⟩
abbrev cX12_isLiveFor : ByteArray := prog_14_method_54_code
def yX12_isLiveFor : MethodName := ⟨RX12, "isLiveFor", "(II)Z"⟩
abbrev cX12_shed : ByteArray := prog_14_method_55_code
def yX12_shed : MethodName := ⟨RX12, "shed", "(III)I"⟩
abbrev cX12_usedBehind : ByteArray := prog_14_method_56_code
def yX12_usedBehind : MethodName := ⟨RX12, "usedBehind", "(I)I"⟩
abbrev cX12_plugged : ByteArray := prog_14_method_57_code
def yX12_plugged : MethodName := ⟨RX12, "plugged", "(II)I"⟩
abbrev cX12_plugs : ByteArray := prog_14_method_58_code
def yX12_plugs : MethodName := ⟨RX12, "plugs", "(II)I"⟩
abbrev cX12_holds : ByteArray := prog_14_method_59_code
def yX12_holds : MethodName := ⟨RX12, "holds", "(II)I"⟩
abbrev cX12_faulty : ByteArray := prog_14_method_60_code
def yX12_faulty : MethodName := ⟨RX12, "faulty", "(II)I"⟩
abbrev cX12_bill : ByteArray := prog_14_method_61_code
def yX12_bill : MethodName := ⟨RX12, "bill", "(II)I"⟩
abbrev cX12_isSo : ByteArray := prog_14_method_62_code
def yX12_isSo : MethodName := ⟨RX12, "isSo", "(IIII)Z"⟩
abbrev cX12_sorts : ByteArray := prog_14_method_63_code
def yX12_sorts : MethodName := ⟨RX12, "sorts", "(IIII)I"⟩
abbrev cX12_mainsThat : ByteArray := prog_14_method_64_code
def yX12_mainsThat : MethodName := ⟨RX12, "mainsThat", "(IIIIZ)I"⟩
abbrev cX12_fits : ByteArray := prog_14_method_65_code
def yX12_fits : MethodName := ⟨RX12, "fits", "(IIIII)I"⟩
abbrev cX12_chance : ByteArray := prog_14_method_66_code
def yX12_chance : MethodName := ⟨RX12, "chance", "(IIII)I"⟩
abbrev cX12_drawn : ByteArray := prog_14_method_67_code
def yX12_drawn : MethodName := ⟨RX12, "drawn", "(III)I"⟩
abbrev cX12_image : ByteArray := prog_14_method_68_code
def yX12_image : MethodName := ⟨RX12, "image", "(I)I"⟩
abbrev cX12_restore : ByteArray := prog_14_method_69_code
def yX12_restore : MethodName := ⟨RX12, "restore", "(I)I"⟩
abbrev cX12_kind : ByteArray := prog_14_method_70_code
def yX12_kind : MethodName := ⟨RX12, "kind", "(I)I"⟩
abbrev cX12_as : ByteArray := prog_14_method_71_code
def yX12_as : MethodName := ⟨RX12, "as", "(II)I"⟩
abbrev cX12_leaves : ByteArray := prog_14_method_72_code
def yX12_leaves : MethodName := ⟨RX12, "leaves", "(I)V"⟩
abbrev cX12_lent : ByteArray := prog_14_method_73_code
def yX12_lent : MethodName := ⟨RX12, "lent", "(IZ)I"⟩
abbrev cX12_wireMark : ByteArray := prog_14_method_74_code
def yX12_wireMark : MethodName := ⟨RX12, "wireMark", "(II)I"⟩
abbrev cX12_wireSize : ByteArray := prog_14_method_75_code
def yX12_wireSize : MethodName := ⟨RX12, "wireSize", "(II)I"⟩
abbrev cX12_breakerSize : ByteArray := prog_14_method_76_code
def yX12_breakerSize : MethodName := ⟨RX12, "breakerSize", "(II)I"⟩
abbrev cX12_breakerMark : ByteArray := prog_14_method_77_code
def yX12_breakerMark : MethodName := ⟨RX12, "breakerMark", "(II)I"⟩
abbrev cX12_ask : ByteArray := prog_14_method_78_code
def yX12_ask : MethodName := ⟨RX12, "ask", "(II)I"⟩
abbrev cX12_trace : ByteArray := prog_14_method_79_code
def yX12_trace : MethodName := ⟨RX12, "trace", "(I)I"⟩
abbrev cX12_count : ByteArray := prog_14_method_80_code
def yX12_count : MethodName := ⟨RX12, "count", "(I)I"⟩
abbrev cX12_status : ByteArray := prog_14_method_81_code
def yX12_status : MethodName := ⟨RX12, "status", "()I"⟩
def RJ6 : String := "java/lang/Integer"
def TJ6 : u_T := fun k => match k with
  | _ => ("", "", "", false)
def tyJ6 : Nat → FieldType := fun k => match k with
  | _ => .int
abbrev wsJ60 : List Cond := u_ws RJ6 TJ6 0
theorem nmJ6 : ∀ a, a < 0 → ∀ b, b < 0 → a ≠ b → (TJ6 a).2.1 ≠ (TJ6 b).2.1 := by decide +kernel
theorem tyJ6_ok : ∀ k, k < 0 → parseFieldDescriptor (TJ6 k).2.2.1 = some (tyJ6 k) := by decide +kernel
abbrev cJ6_bitCount_0f7a4 : ByteArray := prog_15_method_49_code
def yJ6_bitCount_0f7a4 : MethodName := ⟨RJ6, "bitCount", "(I)I"⟩
def RJ9 : String := "java/lang/Math"
def TJ9 : u_T := fun k => match k with
  | _ => ("", "", "", false)
def tyJ9 : Nat → FieldType := fun k => match k with
  | _ => .int
abbrev wsJ90 : List Cond := u_ws RJ9 TJ9 0
theorem nmJ9 : ∀ a, a < 0 → ∀ b, b < 0 → a ≠ b → (TJ9 a).2.1 ≠ (TJ9 b).2.1 := by decide +kernel
theorem tyJ9_ok : ∀ k, k < 0 → parseFieldDescriptor (TJ9 k).2.2.1 = some (tyJ9 k) := by decide +kernel
abbrev cJ9_max_7cf53 : ByteArray := prog_16_method_65_code
def yJ9_max_7cf53 : MethodName := ⟨RJ9, "max", "(II)I"⟩
abbrev cJ9_min_7cf53 : ByteArray := prog_16_method_69_code
def yJ9_min_7cf53 : MethodName := ⟨RJ9, "min", "(II)I"⟩
def RJ10 : String := "java/lang/System"
def TJ10 : u_T := fun k => match k with
  | _ => ("", "", "", false)
def tyJ10 : Nat → FieldType := fun k => match k with
  | _ => .int
abbrev wsJ100 : List Cond := u_ws RJ10 TJ10 0
theorem nmJ10 : ∀ a, a < 0 → ∀ b, b < 0 → a ≠ b → (TJ10 a).2.1 ≠ (TJ10 b).2.1 := by decide +kernel
theorem tyJ10_ok : ∀ k, k < 0 → parseFieldDescriptor (TJ10 k).2.2.1 = some (tyJ10 k) := by decide +kernel
def RL : String := "FuseBoxLaw"
abbrev cL_law : ByteArray := code
def yL_law : MethodName := ⟨RL, "law", "([I)Z"⟩
abbrev vwCl : List vw_C := [(RX0, TX0, 0), (RX1, TX1, 0), (RX3, TX3, 15), (RX4, TX4, 7), (RX5, TX5, 0), (RX6, TX6, 7), (RX7, TX7, 3), (RX8, TX8, 0), (RX9, TX9, 2), (RX10, TX10, 0), (RX11, TX11, 12), (RX12, TX12, 23)]
end
section
/-! my own layer: the world as ints by (relative address, place), one fixed shape; rows over it -/
section ZRows
/-- the tables' words that stay, all of them -/
def WL : List Cond := lw_tbl.filter goodWord
theorem mem_WL {w : Cond} (h : w ∈ lw_tbl) (hg : goodWord w = true) : w ∈ WL := List.mem_filter.mpr ⟨h, hg⟩
theorem WL_in : ∀ w ∈ WL, w ∈ lw_tbl := fun _ h => (List.mem_filter.mp h).1
theorem t0_in {w : Cond} (h : w ∈ k2_sels lw_privs) : w ∈ lw_tbl := List.mem_append_left _ h
theorem t1_in {w : Cond} (h : w ∈ tables_1_1) : w ∈ lw_tbl := List.mem_append_right _ (List.mem_append_left _ h)
theorem t2_in {w : Cond} (h : w ∈ tables_1_2) : w ∈ lw_tbl := List.mem_append_right _ (List.mem_append_right _ (List.mem_append_left _ h))
theorem t3_in {w : Cond} (h : w ∈ tables_1_3) : w ∈ lw_tbl := List.mem_append_right _ (List.mem_append_right _ (List.mem_append_right _ (List.mem_append_left _ h)))
theorem t4_in {w : Cond} (h : w ∈ tables_1_4) : w ∈ lw_tbl := List.mem_append_right _ (List.mem_append_right _ (List.mem_append_right _ (List.mem_append_right _ (List.mem_append_left _ h))))
theorem t5_in {w : Cond} (h : w ∈ tables_1_5) : w ∈ lw_tbl := List.mem_append_right _ (List.mem_append_right _ (List.mem_append_right _ (List.mem_append_right _ (List.mem_append_right _ (List.mem_append_left _ h)))))
theorem t6_in {w : Cond} (h : w ∈ tables_1_6) : w ∈ lw_tbl := List.mem_append_right _ (List.mem_append_right _ (List.mem_append_right _ (List.mem_append_right _ (List.mem_append_right _ (List.mem_append_right _ h)))))
abbrev St : Type := Nat → Nat → Int32
def wr (σ : St) (a k : Nat) (v : Int32) : St := va_up σ a (upd (σ a) k v)
/-- a cell's shape: an array (kind of its class, length, whether places may be null, the references if it holds some), or an object (class, its fields: an int, or a reference, that may be null or not) -/
abbrev Shp : Type := (Nat × Nat × Bool × List Nat) ⊕ (Nat × List (Option (Bool × Nat)))
/-- the tables' numbers, the array classes, the first address, which cells may change -/
abbrev Ev : Type := va_G × (Nat → ClassId) × Nat × (Nat → Prop)
def fv (b0 : Nat) (x : Int32) (o : Option (Bool × Nat)) : Value := match o with
  | none => .int x
  | some (false, r) => .ref (b0 + r)
  | some (true, r) => if x = 0 then .null else .ref (b0 + r)
def cellE (b0 : Nat) (dA : Nat → ClassId) (f : Nat → Int32) (x : Shp) : va_E := match x with
  | .inl (k, n, _, []) => .inl (dA k, n, .inl f)
  | .inl (k, n, b, r :: rs) => .inl (dA k, n, .inr (.inr (.inr (.inr (fun i => if b = true ∧ f i = 0 then none else some (b0 + (r :: rs).getD i 0))))))
  | .inr (ci, ks) => .inr (ci, ks.mapIdx (fun k o => fv b0 (f k) o))
def Cov (E : Ev) (sh : Nat → Option Shp) (σ : St) (ws : va_W) : Prop := ∀ (a : Nat) (x : Shp), sh a = some x → ∃ k : Nat, ws[k]? = some (E.2.2.1 + a, cellE E.2.2.1 E.2.1 (σ a) x)
def World (E : Ev) (sh : Nat → Option Shp) (σ : St) (H : Heap) : Prop := ∃ ws : va_W, va_P E.1 vwCl ws H ∧ va_D E.2.2.2 ws ∧ Cov E sh σ ws
def tysOf (dA : Nat → ClassId) : List (ClassId × FieldType) := [(dA 0, .int), (dA 1, .byte), (dA 2, .object "FuseBox$Row"), (dA 3, .object "FuseBox$House"), (dA 4, .object "FuseBox$Fuse")]
theorem cov_set {E : Ev} {sh : Nat → Option Shp} {σ : St} {ws : va_W} {a q : Nat} {x : Shp} (f' : Nat → Int32) (hc : Cov E sh σ ws) (hs : sh a = some x) (hq : ws[q]? = some (E.2.2.1 + a, cellE E.2.2.1 E.2.1 (σ a) x)) : Cov E sh (va_up σ a f') (ws.set q (E.2.2.1 + a, cellE E.2.2.1 E.2.1 f' x)) := by
  intro a' x' hs'
  have hlt : q < ws.length := (List.getElem?_eq_some_iff.mp hq).1
  by_cases h : a' = a
  · subst h
    rw [hs] at hs'
    cases hs'
    refine ⟨q, ?_⟩
    rw [List.getElem?_set_self hlt]
    simp [va_up]
  · obtain ⟨k, hk⟩ := hc a' x' hs'
    refine ⟨k, ?_⟩
    have hne : q ≠ k := by
      intro e
      subst e
      rw [hq] at hk
      have h1 := congrArg Prod.fst (Option.some.inj hk)
      have h2 : E.2.2.1 + a = E.2.2.1 + a' := h1
      omega
    rw [List.getElem?_set_ne hne, hk]
    simp [va_up, h]
theorem mapIdx_get {b0 : Nat} {f : Nat → Int32} {ks : List (Option (Bool × Nat))} {k : Nat} {o : Option (Bool × Nat)} (h : ks[k]? = some o) : (ks.mapIdx (fun k o => fv b0 (f k) o))[k]? = some (fv b0 (f k) o) := by
  rw [List.getElem?_mapIdx, h]; rfl
theorem mapIdx_set {b0 : Nat} {f : Nat → Int32} {ks : List (Option (Bool × Nat))} {k : Nat} {o : Option (Bool × Nat)} {x : Int32} (h : ks[k]? = some o) : (ks.mapIdx (fun k o => fv b0 (f k) o)).set k (fv b0 x o) = ks.mapIdx (fun j o => fv b0 (upd f k x j) o) := by
  apply List.ext_getElem?
  intro j
  by_cases hj : k = j
  · subst hj
    have hlt : k < ks.length := (List.getElem?_eq_some_iff.mp h).1
    rw [List.getElem?_set_self (by simpa using hlt), List.getElem?_mapIdx, h]
    simp [upd]
  · rw [List.getElem?_set_ne hj, List.getElem?_mapIdx, List.getElem?_mapIdx]
    have hj2 : ¬ j = k := fun e => hj e.symm
    have : upd f k x j = f j := by simp [upd, hj2]
    rw [this]
/-- what the tables say beside the words -/
def XT (U : State) : Prop := va_Nw (.declares ⟨"FuseBox$Fuse", "heatBehind", "(II)I"⟩) U ∧ va_Nw (.declares ⟨"FuseBox$Fuse", "deadBehind", "(III)I"⟩) U ∧
  va_Nw (.castable "FuseBox$Slow" "FuseBox$Wire") U ∧ va_Nw (.castable "FuseBox$Quick" "FuseBox$Wire") U ∧ va_Nw (.castable "FuseBox$Coil" "FuseBox$Breaker") U ∧
  va_Nc "FuseBox$Breaker" "FuseBox$Wire" U ∧ va_Nc "FuseBox$Coil" "FuseBox$Wire" U ∧
  va_Nc "FuseBox$Wire" "FuseBox$Slow" U ∧ va_Nc "FuseBox$Quick" "FuseBox$Slow" U ∧ va_Nc "FuseBox$Breaker" "FuseBox$Slow" U ∧ va_Nc "FuseBox$Coil" "FuseBox$Slow" U ∧
  va_Nc "FuseBox$Wire" "FuseBox$Quick" U ∧ va_Nc "FuseBox$Slow" "FuseBox$Quick" U ∧ va_Nc "FuseBox$Breaker" "FuseBox$Quick" U ∧ va_Nc "FuseBox$Coil" "FuseBox$Quick" U ∧
  va_Nc "FuseBox$Wire" "FuseBox$Breaker" U ∧ va_Nc "FuseBox$Slow" "FuseBox$Breaker" U ∧ va_Nc "FuseBox$Quick" "FuseBox$Breaker" U ∧
  va_Nc "FuseBox$Wire" "FuseBox$Coil" U ∧ va_Nc "FuseBox$Slow" "FuseBox$Coil" U ∧ va_Nc "FuseBox$Quick" "FuseBox$Coil" U ∧ va_Nc "FuseBox$Breaker" "FuseBox$Coil" U
theorem XT.warm {s U : State} (hW : s.WarmedH U.vm) (h : XT s) : XT U := by
  obtain ⟨h1, h2, h3, h4, h5, h6, h7, h8, h9, h10, h11, h12, h13, h14, h15, h16, h17, h18, h19, h20, h21, h22⟩ := h
  exact ⟨h1.warmD hW, h2.warmD hW, h3.warmC hW, h4.warmC hW, h5.warmC hW, h6.moved hW.alike, h7.moved hW.alike, h8.moved hW.alike, h9.moved hW.alike, h10.moved hW.alike, h11.moved hW.alike, h12.moved hW.alike, h13.moved hW.alike, h14.moved hW.alike, h15.moved hW.alike, h16.moved hW.alike, h17.moved hW.alike, h18.moved hW.alike, h19.moved hW.alike, h20.moved hW.alike, h21.moved hW.alike, h22.moved hW.alike⟩
theorem XT.same {u U : State} (h0 : u.vm = U.vm) (h : XT u) : XT U := by
  obtain ⟨h1, h2, h3, h4, h5, h6, h7, h8, h9, h10, h11, h12, h13, h14, h15, h16, h17, h18, h19, h20, h21, h22⟩ := h
  have ha : u.vm.Alike U.vm := by rw [← h0]; exact Vm.Alike.refl u.vm
  exact ⟨h1.same rfl h0, h2.same rfl h0, h3.same rfl h0, h4.same rfl h0, h5.same rfl h0, h6.moved ha, h7.moved ha, h8.moved ha, h9.moved ha, h10.moved ha, h11.moved ha, h12.moved ha, h13.moved ha, h14.moved ha, h15.moved ha, h16.moved ha, h17.moved ha, h18.moved ha, h19.moved ha, h20.moved ha, h21.moved ha, h22.moved ha⟩
def TB (E : Ev) (U : State) : Prop := va_K E.1 vwCl (tysOf E.2.1) U ∧ XT U
theorem TB.warm {E : Ev} {s U : State} (hW : s.WarmedH U.vm) (h : TB E s) : TB E U := ⟨va_K.moved hW.alike h.1, h.2.warm hW⟩
theorem TB.same {E : Ev} {u U : State} (h0 : u.vm = U.vm) (h : TB E u) : TB E U := ⟨va_K.moved (by rw [← h0]; exact Vm.Alike.refl u.vm) h.1, h.2.same h0⟩
/-- a method's start and end over the world -/
def PW (E : Ev) (sh : Nat → Option Shp) (av : List Value) (σ : St) : Array Value → State → Prop := va_Pc av (fun U => World E sh σ U.heap ∧ TB E U)
def QW (E : Ev) (sh : Nat → Option Shp) (ov : Option Value) (σ' : St) : Array Value → State → Outcome → State → Prop := fun _ st oc t => oc = .returned ov ∧ World E sh σ' t.heap ∧ va_F E.2.2.2 st t
def MM (l : Launch) (E : Ev) (sh : Nat → Option Shp) (y : MethodName) (cc : ByteArray) (nL : Nat) (ret : Option FieldType) (rm : Room) (av : List Value) (σ : St) (ov : Option Value) (σ' : St) : Prop :=
  Met l y (.code y cc nL ret :: WL) rm (PW E sh av σ) (QW E sh ov σ') 0 0 E.2.2.2
theorem PW.blind {E : Ev} {sh : Nat → Option Shp} {av : List Value} {σ : St} : FrameBlind (PW E sh av σ) := by
  intro a U g mk h
  obtain ⟨h1, h2, h3⟩ := h
  exact ⟨h1, h2, h3.same rfl⟩
def rmd (d : Nat) : Room := { frames := d, cells := 0, slots := 0, locals := 40 * d }
theorem wsgood : ∀ w ∈ WL, ((w.onTables && w.keeps) = true ∨ ∃ ty, w = .arrayClass ty) := fun w h => good_of_word (List.mem_filter.mp h).2
theorem gin {ws : List Cond} (h : ∀ w ∈ ws, w ∈ WL) : GoodIn WL ws := fun w hw => ⟨h w hw, wsgood w (h w hw)⟩
theorem gin_code {y : MethodName} {b : ByteArray} {n : Nat} {r : Option FieldType} (h : Cond.code y b n r ∈ WL) : ∀ w ∈ (Cond.code y b n r :: WL), w ∈ WL := by
  intro w hw
  rcases List.mem_cons.mp hw with e | e
  · rw [e]; exact h
  · exact e
theorem gin_V {own C : String} {index : Nat} {y : MethodName} {b : ByteArray} {n : Nat} {r : Option FieldType} (h1 : Cond.methodLink own index y ∈ WL) (h2 : Cond.instanceMethod y ∈ WL) (h3 : Cond.selects C y y ∈ WL) (h4 : Cond.initialized C ∈ WL) (h5 : Cond.code y b n r ∈ WL) : GoodIn WL (wsV own index C y (Cond.code y b n r :: WL)) := by
  refine gin (fun w hw => ?_)
  unfold wsV at hw
  rcases List.mem_append.mp hw with hw | hw
  · simp only [List.mem_cons, List.not_mem_nil, or_false] at hw
    rcases hw with e | e | e | e <;> rw [e] <;> assumption
  · exact gin_code h5 w hw
theorem gin_S {own : String} {index : Nat} {y : MethodName} {b : ByteArray} {n : Nat} {r : Option FieldType} (h1 : Cond.methodLink own index y ∈ WL) (h2 : Cond.static y ∈ WL) (h4 : Cond.initialized y.cls ∈ WL) (h5 : Cond.code y b n r ∈ WL) : GoodIn WL (va_wsS own index y (Cond.code y b n r :: WL)) := by
  refine gin (fun w hw => ?_)
  unfold va_wsS at hw
  rcases List.mem_append.mp hw with hw | hw
  · simp only [List.mem_cons, List.not_mem_nil, or_false] at hw
    rcases hw with e | e | e <;> rw [e] <;> assumption
  · exact gin_code h5 w hw
theorem gin_U {own C owner : String} {index : Nat} {x y : MethodName} {b : ByteArray} {n : Nat} {r : Option FieldType} (h1 : Cond.methodLink own index x ∈ WL) (h2 : Cond.sameMethod x.cls owner x.name x.desc ∈ WL) (h3 : Cond.selects C x y ∈ WL) (h4 : Cond.instanceMethod y ∈ WL) (h6 : Cond.initialized y.cls ∈ WL) (h5 : Cond.code y b n r ∈ WL) : GoodIn WL (va_wsU own index C owner x y (Cond.code y b n r :: WL)) := by
  refine gin (fun w hw => ?_)
  unfold va_wsU at hw
  rcases List.mem_append.mp hw with hw | hw
  · simp only [List.mem_cons, List.not_mem_nil, or_false] at hw
    rcases hw with e | e | e | e | e <;> rw [e] <;> assumption
  · exact gin_code h5 w hw
theorem gin_O {own C owner : String} {index : Nat} {x y : MethodName} {b : ByteArray} {n : Nat} {r : Option FieldType} (h1 : Cond.methodLink own index x ∈ WL) (h2 : Cond.sameMethod x.cls owner x.name x.desc ∈ WL) (h7 : Cond.instanceMethod ⟨owner, x.name, x.desc⟩ ∈ WL) (h3 : Cond.selects C x y ∈ WL) (h4 : Cond.instanceMethod y ∈ WL) (h6 : Cond.initialized y.cls ∈ WL) (h5 : Cond.code y b n r ∈ WL) : GoodIn WL (va_wsO own index C owner x y (Cond.code y b n r :: WL)) := by
  refine gin (fun w hw => ?_)
  unfold va_wsO at hw
  rcases List.mem_append.mp hw with hw | hw
  · simp only [List.mem_cons, List.not_mem_nil, or_false] at hw
    rcases hw with e | e | e | e | e | e <;> rw [e] <;> assumption
  · exact gin_code h5 w hw
theorem gin_SU {own : String} {index : Nat} {y : MethodName} {b : ByteArray} {n : Nat} {r : Option FieldType} (h1 : Cond.methodLink own index y ∈ WL) (h2 : Cond.sameMethod y.cls y.cls y.name y.desc ∈ WL) (h3 : Cond.superclass own y.cls ∈ WL) (h4 : Cond.instanceMethod y ∈ WL) (h6 : Cond.initialized y.cls ∈ WL) (h5 : Cond.code y b n r ∈ WL) : GoodIn WL (va_wsSU own index y (Cond.code y b n r :: WL)) := by
  refine gin (fun w hw => ?_)
  unfold va_wsSU at hw
  rcases List.mem_append.mp hw with hw | hw
  · simp only [List.mem_cons, List.not_mem_nil, or_false] at hw
    rcases hw with e | e | e | e | e <;> rw [e] <;> assumption
  · exact gin_code h5 w hw
/-- what stands at every point of a method's walk -/
def Cx (p : Program) (s : State) (m : MethodId) (args : Array Value) (c : Code) (cc : ByteArray) (nL : Nat) (own : String) (E : Ev) : Prop := p.tables.exec = Jvm.exec ∧ c.code = cc ∧ c.maxLocals = nL ∧ s.vm.findClass own = some m.cls ∧ (∀ w ∈ WL, w.before args s = true) ∧ TB E s
end ZRows
section ZWalk
variable {p : Program} {l : Launch} {e : Env} {R : Room} {s : State} {m : MethodId} {args : Array Value} {below : List Frame} {meth : Method} {c : Code} {H : Heap} {locs : List Loc} {cells slots : Nat} {Q : State → Prop} {E : Ev} {sh : Nat → Option Shp} {σ : St} {pc : Nat} {ls : Array Slot} {rest : List Value} {cc : ByteArray} {nL : Nat} {own : String}
theorem z_get (hC : Cx p s m args c cc nL own E) (hw : World E sh σ H) {a ci : Nat} {ks : List (Option (Bool × Nat))} (hs : sh a = some (.inr (ci, ks))) {C : String} {T : u_T} {N : Nat} (hc : vwCl[ci]? = some (C, T, N)) (hin : ∀ w ∈ u_ws C T N, w ∈ WL) (k : Nat) (hk : k < N) {o : Option (Bool × Nat)} (ho : ks[k]? = some o) {v : Value} (hv : fv E.2.2.1 (σ a k) o = v) {index : Nat} (hl : Cond.fieldLink own index (T k).1 (T k).2.1 (T k).2.2.1 ∈ WL) (hdg : decode cc pc = .ok (.getfield index, 3))
    (kk : W p l e R s m args below meth c H locs cells slots Q (F0 m (pc + 3) ls (v :: rest))) : W p l e R s m args below meth c H locs cells slots Q (F0 m pc ls (.ref (E.2.2.1 + a) :: rest)) := by
  obtain ⟨hx, hb, hml, hown, hts, hT⟩ := hC
  obtain ⟨ws, hP, hD, hcv⟩ := hw
  obtain ⟨q, hq⟩ := hcv a _ hs
  subst hv
  exact va_get (ref := (T k).1) hx hb hts hin hown hT.1 hP q hq hc k hk (hts _ hl) (fun _ h => h) (mapIdx_get ho) hdg kk
theorem z_put (hC : Cx p s m args c cc nL own E) (hw : World E sh σ H) (hS : va_S E.2.2.2 s.heap H locs) {a ci : Nat} {ks : List (Option (Bool × Nat))} (hs : sh a = some (.inr (ci, ks))) {C : String} {T : u_T} {N : Nat} (hc : vwCl[ci]? = some (C, T, N)) (hin : ∀ w ∈ u_ws C T N, w ∈ WL) (ty0 : Nat → FieldType) (hty : ∀ k, k < N → parseFieldDescriptor (T k).2.2.1 = some (ty0 k)) (hnm : ∀ a, a < N → ∀ b, b < N → a ≠ b → (T a).2.1 ≠ (T b).2.1) (k : Nat) (hk : k < N) {o : Option (Bool × Nat)} (ho : ks[k]? = some o) (hfin : (T k).2.2.2 = false) {x : Int32} {v : Value} (hv : fv E.2.2.1 x o = v) (hn : narrow (ty0 k) v = v) (hfit : fits (ty0 k) v = true) {index : Nat} (hl : Cond.fieldLink own index (T k).1 (T k).2.1 (T k).2.2.1 ∈ WL) {σ' : St} (hσ : σ' = wr σ a k x) (hdg : decode cc pc = .ok (.putfield index, 3))
    (kk : ∀ (H1 : Heap) (locs1 : List Loc), World E sh σ' H1 → va_S E.2.2.2 s.heap H1 locs1 → W p l e R s m args below meth c H1 locs1 cells slots Q (F0 m (pc + 3) ls rest)) : W p l e R s m args below meth c H locs cells slots Q (F0 m pc ls (v :: .ref (E.2.2.1 + a) :: rest)) := by
  obtain ⟨hx, hb, hml, hown, hts, hT⟩ := hC
  obtain ⟨ws, hP, hD, hcv⟩ := hw
  obtain ⟨q, hq⟩ := hcv a _ hs
  subst hv
  subst hσ
  have hlen : k < (ks.mapIdx (fun k o => fv E.2.2.1 (σ a k) o)).length := by
    have h := (List.getElem?_eq_some_iff.mp ho).1
    simpa using h
  refine va_put (ref := (T k).1) hx hb hts hin ty0 hty hnm hown hT.1 hP hD hS q hq hc k hk (hts _ hl) (fun _ h => h) hfin (hty k hk) hn hfit hlen hdg (fun H1 locs1 hP1 hD1 hS1 => ?_)
  rw [mapIdx_set ho] at hP1 hD1
  exact kk H1 locs1 ⟨_, hP1, hD1, cov_set (upd (σ a) k x) hcv hs hq⟩ hS1
theorem z_iald (hC : Cx p s m args c cc nL own E) (hw : World E sh σ H) {a n : Nat} {bb : Bool} (hs : sh a = some (.inl (0, n, bb, []))) {i : Int32} (hin : vp_in i n) (hdg : decode cc pc = .ok (.iaload, 1))
    (kk : W p l e R s m args below meth c H locs cells slots Q (F0 m (pc + 1) ls (.int (σ a i.toNatClampNeg) :: rest))) : W p l e R s m args below meth c H locs cells slots Q (F0 m pc ls (.int i :: .ref (E.2.2.1 + a) :: rest)) := by
  obtain ⟨hx, hb, hml, hown, hts, hT⟩ := hC
  obtain ⟨ws, hP, hD, hcv⟩ := hw
  obtain ⟨q, hq⟩ := hcv a _ hs
  exact va_iald hx hb hT.1 hP q 0 hq rfl hin hdg kk
theorem z_bald (hC : Cx p s m args c cc nL own E) (hw : World E sh σ H) {a n : Nat} {bb : Bool} (hs : sh a = some (.inl (1, n, bb, []))) {i : Int32} (hin : vp_in i n) (hdg : decode cc pc = .ok (.baload, 1))
    (kk : W p l e R s m args below meth c H locs cells slots Q (F0 m (pc + 1) ls (.int (σ a i.toNatClampNeg) :: rest))) : W p l e R s m args below meth c H locs cells slots Q (F0 m pc ls (.int i :: .ref (E.2.2.1 + a) :: rest)) := by
  obtain ⟨hx, hb, hml, hown, hts, hT⟩ := hC
  obtain ⟨ws, hP, hD, hcv⟩ := hw
  obtain ⟨q, hq⟩ := hcv a _ hs
  exact va_bald hx hb hT.1 hP q 1 hq rfl hin hdg kk
theorem z_iast (hC : Cx p s m args c cc nL own E) (hw : World E sh σ H) (hS : va_S E.2.2.2 s.heap H locs) {a n : Nat} {bb : Bool} (hs : sh a = some (.inl (0, n, bb, []))) {i x : Int32} (hin : vp_in i n) {σ' : St} (hσ : σ' = wr σ a i.toNatClampNeg x) (hdg : decode cc pc = .ok (.iastore, 1))
    (kk : ∀ (H1 : Heap) (locs1 : List Loc), World E sh σ' H1 → va_S E.2.2.2 s.heap H1 locs1 → W p l e R s m args below meth c H1 locs1 cells slots Q (F0 m (pc + 1) ls rest)) : W p l e R s m args below meth c H locs cells slots Q (F0 m pc ls (.int x :: .int i :: .ref (E.2.2.1 + a) :: rest)) := by
  obtain ⟨hx, hb, hml, hown, hts, hT⟩ := hC
  obtain ⟨ws, hP, hD, hcv⟩ := hw
  obtain ⟨q, hq⟩ := hcv a _ hs
  subst hσ
  exact va_iast hx hb hT.1 hP hD hS q 0 hq rfl hin hdg (fun H1 locs1 hP1 hD1 hS1 => kk H1 locs1 ⟨_, hP1, hD1, cov_set (upd (σ a) i.toNatClampNeg x) hcv hs hq⟩ hS1)
theorem z_bast (hC : Cx p s m args c cc nL own E) (hw : World E sh σ H) (hS : va_S E.2.2.2 s.heap H locs) {a n : Nat} {bb : Bool} (hs : sh a = some (.inl (1, n, bb, []))) {i x : Int32} (hin : vp_in i n) {σ' : St} (hσ : σ' = wr σ a i.toNatClampNeg (vp_nar .byte x)) (hdg : decode cc pc = .ok (.bastore, 1))
    (kk : ∀ (H1 : Heap) (locs1 : List Loc), World E sh σ' H1 → va_S E.2.2.2 s.heap H1 locs1 → W p l e R s m args below meth c H1 locs1 cells slots Q (F0 m (pc + 1) ls rest)) : W p l e R s m args below meth c H locs cells slots Q (F0 m pc ls (.int x :: .int i :: .ref (E.2.2.1 + a) :: rest)) := by
  obtain ⟨hx, hb, hml, hown, hts, hT⟩ := hC
  obtain ⟨ws, hP, hD, hcv⟩ := hw
  obtain ⟨q, hq⟩ := hcv a _ hs
  subst hσ
  exact va_bast hx hb hT.1 hP hD hS q 1 hq rfl hin hdg (fun H1 locs1 hP1 hD1 hS1 => kk H1 locs1 ⟨_, hP1, hD1, cov_set (upd (σ a) i.toNatClampNeg (vp_nar .byte x)) hcv hs hq⟩ hS1)
theorem z_aald (hC : Cx p s m args c cc nL own E) (hw : World E sh σ H) {a k n r0 : Nat} {rs : List Nat} (hs : sh a = some (.inl (k, n, false, r0 :: rs))) {Cn : String} (ht : (tysOf E.2.1)[k]? = some (E.2.1 k, .object Cn)) {i : Int32} (hin : vp_in i n) {r : Nat} (hr : (r0 :: rs).getD i.toNatClampNeg 0 = r) (hdg : decode cc pc = .ok (.aaload, 1))
    (kk : W p l e R s m args below meth c H locs cells slots Q (F0 m (pc + 1) ls (.ref (E.2.2.1 + r) :: rest))) : W p l e R s m args below meth c H locs cells slots Q (F0 m pc ls (.int i :: .ref (E.2.2.1 + a) :: rest)) := by
  obtain ⟨hx, hb, hml, hown, hts, hT⟩ := hC
  obtain ⟨ws, hP, hD, hcv⟩ := hw
  obtain ⟨q, hq⟩ := hcv a _ hs
  subst hr
  exact va_aldq hx hb hT.1 hP q k hq ht hin hdg kk
theorem z_alen (hC : Cx p s m args c cc nL own E) (hw : World E sh σ H) {a k n : Nat} {bb : Bool} (hs : sh a = some (.inl (k, n, bb, []))) {ty : FieldType} (ht : (tysOf E.2.1)[k]? = some (E.2.1 k, ty)) {v : Int32} (hv : Int32.ofNat n = v) (hdg : decode cc pc = .ok (.arraylength, 1))
    (kk : W p l e R s m args below meth c H locs cells slots Q (F0 m (pc + 1) ls (.int v :: rest))) : W p l e R s m args below meth c H locs cells slots Q (F0 m pc ls (.ref (E.2.2.1 + a) :: rest)) := by
  obtain ⟨hx, hb, hml, hown, hts, hT⟩ := hC
  obtain ⟨ws, hP, hD, hcv⟩ := hw
  obtain ⟨q, hq⟩ := hcv a _ hs
  exact va_alen hx hb hT.1 hP q k hq ht hv hdg kk
theorem z_copy (hC : Cx p s m args c cc nL own E) (hls : ls.size = nL) (hw : World E sh σ H) (hS : va_S E.2.2.2 s.heap H locs) {a a0 n0 n1 : Nat} {b0 b1 : Bool} (hs0 : sh a0 = some (.inl (0, n0, b0, []))) (hs1 : sh a = some (.inl (0, n1, b1, []))) {index : Nat} (hlink : Cond.methodLink own index arraycopyName ∈ WL) (hnat : Cond.native arraycopyName ∈ WL) (hstat : Cond.static arraycopyName ∈ WL) (hini : Cond.initialized "java/lang/System" ∈ WL)
    {sp dp n : Int32} (h1 : ¬ sp < 0) (h2 : ¬ dp < 0) (h3 : ¬ n < 0) (h4 : sp.toNatClampNeg + n.toNatClampNeg ≤ n0) (h5 : dp.toNatClampNeg + n.toNatClampNeg ≤ n1) (hframes : 1 ≤ R.frames) (hlocals : (rest.map fun v => v.category).sum + (nativeFrameWords "java/lang/System" "arraycopy" 5 + 11) ≤ R.locals) {σ' : St} (hσ : σ' = va_up σ a (va_cpy (σ a0) (σ a) sp.toNatClampNeg dp.toNatClampNeg n.toNatClampNeg)) (hdg : decode cc pc = .ok (.invokestatic index, 3))
    (kk : ∀ (H1 : Heap) (locs1 : List Loc), World E sh σ' H1 → va_S E.2.2.2 s.heap H1 locs1 → W p l e R s m args below meth c H1 locs1 cells slots Q (F0 m (pc + 3) ls rest)) : W p l e R s m args below meth c H locs cells slots Q (F0 m pc ls (.int n :: .int dp :: .ref (E.2.2.1 + a) :: .int sp :: .ref (E.2.2.1 + a0) :: rest)) := by
  obtain ⟨hx, hb, hml, hown, hts, hT⟩ := hC
  obtain ⟨ws, hP, hD, hcv⟩ := hw
  obtain ⟨q, hq⟩ := hcv a _ hs1
  obtain ⟨q', hq'⟩ := hcv a0 _ hs0
  subst hσ
  exact va_copyi hx hb (hml.trans hls.symm) hown (hts _ hlink) (hts _ hnat) (hts _ hstat) (hts _ hini) hT.1 hP hD hS q' q 0 0 (ty := .int) hq' hq rfl rfl rfl h1 h2 h3 h4 h5 (fun _ _ => rfl) hframes hlocals hdg (fun H1 locs1 hP1 hD1 hS1 => kk H1 locs1 ⟨_, hP1, hD1, cov_set _ hcv hs1 hq⟩ hS1)
theorem z_max (hC : Cx p s m args c cc nL own E) (hls : ls.size = nL) {index : Nat} (hlink : Cond.methodLink own index Lib.Math.max.name ∈ WL) (hstat : Cond.static Lib.Math.max.name ∈ WL) (hini : Cond.initialized "java/lang/Math" ∈ WL) (hcode : Cond.code Lib.Math.max.name Lib.Math.max.code 2 (some .int) ∈ WL) (hframes : 1 ≤ R.frames) (hlocals : (rest.map fun v => v.category).sum + 13 ≤ R.locals) (hc : cells ≤ R.cells) (hs : slots ≤ R.slots) {x y : Int32} (hdg : decode cc pc = .ok (.invokestatic index, 3))
    (kk : W p l e R s m args below meth c H locs cells slots Q (F0 m (pc + 3) ls (.int (if x < y then y else x) :: rest))) : W p l e R s m args below meth c H locs cells slots Q (F0 m pc ls (.int y :: .int x :: rest)) := by
  obtain ⟨hx, hb, hml, hown, hts, hT⟩ := hC
  exact va_mmax hx hb (hml.trans hls.symm) hown (hts _ hlink) (hts _ hstat) (hts _ hini) (hts _ hcode) hframes hlocals hc hs hdg kk
theorem z_min (hC : Cx p s m args c cc nL own E) (hls : ls.size = nL) {index : Nat} (hlink : Cond.methodLink own index Lib.Math.min.name ∈ WL) (hstat : Cond.static Lib.Math.min.name ∈ WL) (hini : Cond.initialized "java/lang/Math" ∈ WL) (hcode : Cond.code Lib.Math.min.name Lib.Math.min.code 2 (some .int) ∈ WL) (hframes : 1 ≤ R.frames) (hlocals : (rest.map fun v => v.category).sum + 13 ≤ R.locals) (hc : cells ≤ R.cells) (hs : slots ≤ R.slots) {x y : Int32} (hdg : decode cc pc = .ok (.invokestatic index, 3))
    (kk : W p l e R s m args below meth c H locs cells slots Q (F0 m (pc + 3) ls (.int (if y < x then y else x) :: rest))) : W p l e R s m args below meth c H locs cells slots Q (F0 m pc ls (.int y :: .int x :: rest)) := by
  obtain ⟨hx, hb, hml, hown, hts, hT⟩ := hC
  exact va_mmin hx hb (hml.trans hls.symm) hown (hts _ hlink) (hts _ hstat) (hts _ hini) (hts _ hcode) hframes hlocals hc hs hdg kk
/-- behind a call -/
theorem z_run {ov : Option Value} {σ' : St} {st0 : List Value} {a : Array Value} (hr : va_Run p l e R s m args below meth c H locs cells slots 0 0 (F0 m pc ls st0) rest (QW E sh ov σ' a) E.2.2.2) (hS : va_S E.2.2.2 s.heap H locs)
    (kk : ∀ (H1 : Heap) (locs1 : List Loc), World E sh σ' H1 → va_S E.2.2.2 s.heap H1 locs1 → W p l e R s m args below meth c H1 locs1 cells slots Q (F0 m (pc + 3) ls (ov.toList ++ rest))) : W p l e R s m args below meth c H locs cells slots Q (F0 m pc ls st0) := by
  intro T hT X
  obtain ⟨v, st₀, t, T', L, h0, X', hL, e1, e2, ⟨hv, hw, hz, hk⟩, st⟩ := hr T hT X
  cases hv
  rw [h0] at hz hk
  obtain ⟨t2, a1, b1⟩ := kk T'.heap (locs ++ L) (by rw [e1]; exact hw)
    ⟨Nat.le_trans hS.1 (by rw [e1]; exact hz), fun q h1 h2 => by rw [e1, hk q (Nat.lt_of_lt_of_le h1 hS.1) h2]; exact hS.2.1 q h1 h2, fun q hq => by
      rcases List.mem_append.mp hq with h | h
      · exact hS.2.2 q h
      · exact hL q h⟩ T' rfl X'
  exact ⟨t2, st t2 a1, b1⟩
theorem z_pre (hC : Cx p s m args c cc nL own E) (hw : World E sh σ H) {av : List Value} : ∀ U : State, U.heap = H → s.WarmedH U.vm → PW E sh av σ av.toArray U := by
  intro U hU hW
  exact ⟨rfl, by rw [hU]; exact hw, hC.2.2.2.2.2.warm hW⟩
theorem z_recv (hC : Cx p s m args c cc nL own E) (hw : World E sh σ H) {a ci : Nat} {ks : List (Option (Bool × Nat))} (hs : sh a = some (.inr (ci, ks))) {q : vw_C} (hc : vwCl[ci]? = some q) : ∃ cell : Cell, H[E.2.2.1 + a]? = some cell ∧ cell.vm.isStatics = false ∧ s.vm.findClass q.1 = some cell.cls := by
  obtain ⟨ws, hP, hD, hcv⟩ := hw
  obtain ⟨k, hk⟩ := hcv a _ hs
  exact va_recv hC.2.2.2.2.2.1 hP hc hk
theorem z_cV (hC : Cx p s m args c cc nL own E) (hls : ls.size = nL) (hw : World E sh σ H) (hS : va_S E.2.2.2 s.heap H locs) {y : MethodName} {bytes : ByteArray} {maxL : Nat} {ret : Option FieldType} {d a : Nat} {As : List Value} {ov : Option Value} {σ' : St} (hM : MM l E sh y bytes maxL ret (rmd d) (.ref (E.2.2.1 + a) :: As) σ ov σ') {ci : Nat} {ks : List (Option (Bool × Nat))} (hs : sh a = some (.inr (ci, ks))) {C : String} {T : u_T} {N : Nat} (hc : vwCl[ci]? = some (C, T, N)) {index n : Nat} (hg : GoodIn WL (wsV own index C y (Cond.code y bytes maxL ret :: WL))) (hd : y.cls = C ∧ y.cls ≠ "java/lang/invoke/MethodHandle" ∧ y.cls ≠ "java/lang/invoke/VarHandle" ∧ (parseMethodDescriptor y.desc).map (fun d => d.parameters.length) = some n) (hR : d + 1 ≤ R.frames ∧ 8 + (maxL + 11) + 40 * d ≤ R.locals) (hf : cells + 0 ≤ R.cells ∧ slots + 0 ≤ R.slots)
    (hn : As.length = n) {st0 : List Value} (hst : st0 = As.reverse ++ .ref (E.2.2.1 + a) :: rest) (hW : (rest.map fun v => v.category).sum ≤ 8) (hdg : decode cc pc = .ok (.invokevirtual index, 3))
    (kk : ∀ (H1 : Heap) (locs1 : List Loc), World E sh σ' H1 → va_S E.2.2.2 s.heap H1 locs1 → W p l e R s m args below meth c H1 locs1 cells slots Q (F0 m (pc + 3) ls (ov.toList ++ rest))) : W p l e R s m args below meth c H locs cells slots Q (F0 m pc ls st0) := by
  obtain ⟨hx, hb, hml, hown, hts, hT⟩ := id hC
  exact z_run (va_runV (As := As) (rest := rest) ⟨hx, hb, hml, hown, hts⟩ hM (cwV n hts hg rfl rfl rfl hd hR) ⟨PW.blind, z_recv hC hw hs hc, z_pre hC hw⟩ rfl hn hls hst (lv_room hW) hdg hf) hS kk
theorem z_cS (hC : Cx p s m args c cc nL own E) (hls : ls.size = nL) (hw : World E sh σ H) (hS : va_S E.2.2.2 s.heap H locs) {y : MethodName} {bytes : ByteArray} {maxL : Nat} {ret : Option FieldType} {d : Nat} {As : List Value} {ov : Option Value} {σ' : St} (hM : MM l E sh y bytes maxL ret (rmd d) As σ ov σ') {index n : Nat} (hg : GoodIn WL (va_wsS own index y (Cond.code y bytes maxL ret :: WL))) (hd : y.cls ≠ "java/lang/invoke/MethodHandle" ∧ y.cls ≠ "java/lang/invoke/VarHandle" ∧ (parseMethodDescriptor y.desc).map (fun d => d.parameters.length) = some n) (hR : d + 1 ≤ R.frames ∧ 8 + (maxL + 11) + 40 * d ≤ R.locals) (hf : cells + 0 ≤ R.cells ∧ slots + 0 ≤ R.slots)
    (hn : As.length = n) {st0 : List Value} (hst : st0 = As.reverse ++ rest) (hW : (rest.map fun v => v.category).sum ≤ 8) (hdg : decode cc pc = .ok (.invokestatic index, 3))
    (kk : ∀ (H1 : Heap) (locs1 : List Loc), World E sh σ' H1 → va_S E.2.2.2 s.heap H1 locs1 → W p l e R s m args below meth c H1 locs1 cells slots Q (F0 m (pc + 3) ls (ov.toList ++ rest))) : W p l e R s m args below meth c H locs cells slots Q (F0 m pc ls st0) := by
  obtain ⟨hx, hb, hml, hown, hts, hT⟩ := id hC
  exact z_run (va_runS (As := As) (rest := rest) ⟨hx, hb, hml, hown, hts⟩ hM (va_cwS n hts hg rfl rfl rfl hd hR) ⟨PW.blind, z_pre hC hw⟩ rfl hn hls hst (lv_room hW) hdg hf) hS kk
theorem z_cU (hC : Cx p s m args c cc nL own E) (hls : ls.size = nL) (hw : World E sh σ H) (hS : va_S E.2.2.2 s.heap H locs) {x y : MethodName} {bytes : ByteArray} {maxL : Nat} {ret : Option FieldType} {d a : Nat} {As : List Value} {ov : Option Value} {σ' : St} (hM : MM l E sh y bytes maxL ret (rmd d) (.ref (E.2.2.1 + a) :: As) σ ov σ') {ci : Nat} {ks : List (Option (Bool × Nat))} (hs : sh a = some (.inr (ci, ks))) {C owner : String} {T : u_T} {N : Nat} (hc : vwCl[ci]? = some (C, T, N)) {index n : Nat} (cw : va_CU R s args own C owner index x y bytes maxL ret (Cond.code y bytes maxL ret :: WL) (rmd d) 0 0 n) (hf : cells + 0 ≤ R.cells ∧ slots + 0 ≤ R.slots)
    (hn : As.length = n) {st0 : List Value} (hst : st0 = As.reverse ++ .ref (E.2.2.1 + a) :: rest) (hW : (rest.map fun v => v.category).sum ≤ 8) (hdg : decode cc pc = .ok (.invokevirtual index, 3))
    (kk : ∀ (H1 : Heap) (locs1 : List Loc), World E sh σ' H1 → va_S E.2.2.2 s.heap H1 locs1 → W p l e R s m args below meth c H1 locs1 cells slots Q (F0 m (pc + 3) ls (ov.toList ++ rest))) : W p l e R s m args below meth c H locs cells slots Q (F0 m pc ls st0) := by
  obtain ⟨hx, hb, hml, hown, hts, hT⟩ := id hC
  exact z_run (va_runU (As := As) (rest := rest) ⟨hx, hb, hml, hown, hts⟩ hM cw ⟨PW.blind, z_recv hC hw hs hc, z_pre hC hw⟩ rfl hn hls hst (lv_room hW) hdg hf) hS kk
theorem z_cSU (hC : Cx p s m args c cc nL own E) (hls : ls.size = nL) (hw : World E sh σ H) (hS : va_S E.2.2.2 s.heap H locs) {y : MethodName} {bytes : ByteArray} {maxL : Nat} {ret : Option FieldType} {d a : Nat} {As : List Value} {ov : Option Value} {σ' : St} (hM : MM l E sh y bytes maxL ret (rmd d) (.ref (E.2.2.1 + a) :: As) σ ov σ') {ci : Nat} {ks : List (Option (Bool × Nat))} (hs : sh a = some (.inr (ci, ks))) {C : String} {T : u_T} {N : Nat} (hc : vwCl[ci]? = some (C, T, N)) {index n : Nat} (hg : GoodIn WL (va_wsSU own index y (Cond.code y bytes maxL ret :: WL))) (hd : y.name ≠ "<init>" ∧ (parseMethodDescriptor y.desc).map (fun d => d.parameters.length) = some n) (hR : d + 1 ≤ R.frames ∧ 8 + (maxL + 11) + 40 * d ≤ R.locals) (hf : cells + 0 ≤ R.cells ∧ slots + 0 ≤ R.slots)
    (hn : As.length = n) {st0 : List Value} (hst : st0 = As.reverse ++ .ref (E.2.2.1 + a) :: rest) (hW : (rest.map fun v => v.category).sum ≤ 8) (hdg : decode cc pc = .ok (.invokespecial index, 3))
    (kk : ∀ (H1 : Heap) (locs1 : List Loc), World E sh σ' H1 → va_S E.2.2.2 s.heap H1 locs1 → W p l e R s m args below meth c H1 locs1 cells slots Q (F0 m (pc + 3) ls (ov.toList ++ rest))) : W p l e R s m args below meth c H locs cells slots Q (F0 m pc ls st0) := by
  obtain ⟨hx, hb, hml, hown, hts, hT⟩ := id hC
  exact z_run (va_runSU (As := As) (rest := rest) (hT.1.1 ci _ hc).2 ⟨hx, hb, hml, hown, hts⟩ hM (va_cwSU n hts hg rfl rfl rfl hd hR) ⟨PW.blind, z_recv hC hw hs hc, z_pre hC hw⟩ rfl hn hls hst (lv_room hW) hdg hf) hS kk
/-- the ends -/
theorem z_iret (hC : Cx p s m args c cc nL own E) (hlocks : meth.locks = false) (hw : World E sh σ H) (hS : va_S E.2.2.2 s.heap H locs) {v : Int32} {ty : FieldType} (hr : meth.sig.returnType = some ty) (hn : narrow ty (.int v) = .int v) (hdg : decode cc pc = .ok (.ireturn, 1)) : W p l e R s m args below meth c H locs 0 0 (MQ below (QW E sh (some (.int v)) σ) args s 0 0 E.2.2.2) (F0 m pc ls [.int v]) :=
  W.zret hC.1 hC.2.1 hr hn (fun t ht hW => ⟨rfl, by rw [ht]; exact hw, hS.F ht⟩) hS.2.2 hdg hlocks
theorem z_vret (hC : Cx p s m args c cc nL own E) (hlocks : meth.locks = false) (hw : World E sh σ H) (hS : va_S E.2.2.2 s.heap H locs) (hr : meth.sig.returnType = none) (hdg : decode cc pc = .ok (.return_, 1)) : W p l e R s m args below meth c H locs 0 0 (MQ below (QW E sh none σ) args s 0 0 E.2.2.2) (F0 m pc ls []) :=
  W.vret hC.1 hC.2.1 hr (fun t ht hW => ⟨rfl, by rw [ht]; exact hw, hS.F ht⟩) hS.2.2 hdg hlocks
theorem z_aret (hC : Cx p s m args c cc nL own E) (hlocks : meth.locks = false) (hw : World E sh σ H) (hS : va_S E.2.2.2 s.heap H locs) {a : Nat} {nm : String} (hr : meth.sig.returnType = some (.object nm)) (hdg : decode cc pc = .ok (.areturn, 1)) : W p l e R s m args below meth c H locs 0 0 (MQ below (QW E sh (some (.ref (E.2.2.1 + a))) σ) args s 0 0 E.2.2.2) (F0 m pc ls [.ref (E.2.2.1 + a)]) :=
  W.aret hC.1 hC.2.1 hr (Or.inl ⟨nm, rfl⟩) (Or.inr ⟨_, rfl⟩) (fun t ht hW => ⟨rfl, by rw [ht]; exact hw, hS.F ht⟩) hS.2.2 hdg hlocks
end ZWalk
/-- a method's contract out of its walk -/
theorem z_enter {l : Launch} {E : Ev} {sh : Nat → Option Shp} {y : MethodName} {cc : ByteArray} {nL : Nat} {ret : Option FieldType} {rm : Room} {av : List Value} {σ σ' : St} {ov : Option Value} (hy : plainName y.cls = true) (hlen : (lg_sl av).length ≤ nL)
    (body : ∀ (p : Program) (e : Env) (s : State) (m : MethodId) (args : Array Value) (below : List Frame) (meth : Method) (c : Code) (ls : Array Slot), Cx p s m args c cc nL y.cls E → meth.sig.returnType = ret → meth.locks = false → World E sh σ s.heap → va_S E.2.2.2 s.heap s.heap [] → lv_has ls nL (lv_args 0 av) → W p l e rm s m args below meth c s.heap [] 0 0 (MQ below (QW E sh ov σ') args s 0 0 E.2.2.2) (F0 m 0 ls [])) : MM l E sh y cc nL ret rm av σ ov σ' := by
  refine Met.ofW (cc := cc) (maxL := nL) (ret := ret) hy rfl ?_
  intro p e s m args below meth c s₁ B hml hv
  obtain ⟨rfl, hw, hT⟩ := hv
  have hts := atoms_spec (ws := .code y cc nL ret :: WL) B.pre
  rw [lg_entry_eq]
  have hl := lv_entry av (n := nL) hlen
  generalize (lg_sl av ++ List.replicate (nL - (lg_sl av).length) Slot.unset).toArray = ls at hl ⊢
  exact body p e s m _ below meth c ls ⟨B.exec, B.bytes, hml, findClass_of_methodNamed B.named, fun w h => hts w (List.mem_cons_of_mem _ h), hT⟩ B.returns B.notSynchronized hw va_S.rf hl
/-! the pure programs: a value named, a loop with fuel; how a value that came out is taken apart -/
def lt {α β : Type} (e : α) (f : α → β) : β := f e
def loopF {σ ρ : Type} (body : σ → Option (σ ⊕ ρ)) : Nat → σ → Option ρ
  | 0, _ => none
  | n + 1, s => match body s with
    | none => none
    | some (.inl s') => loopF body n s'
    | some (.inr r) => some r
abbrev isB (x : Int32) : Prop := x = 0 ∨ x = 1
abbrev inb (i : Int32) (n : Nat) : Prop := ¬ (i < 0 ∨ n ≤ i.toNatClampNeg)
theorem ok_if {α : Type} {c : Prop} [Decidable c] {A B : Option α} {z : α} (h : (if c then A else B) = some z) : (c → A = some z) ∧ (¬ c → B = some z) := by
  refine ⟨fun q => ?_, fun q => ?_⟩
  · rw [if_pos q] at h; exact h
  · rw [if_neg q] at h; exact h
theorem ok_chk {α : Type} {c : Prop} [Decidable c] {A : Option α} {z : α} (h : (if c then A else none) = some z) : c ∧ A = some z := by
  by_cases q : c
  · rw [if_pos q] at h; exact ⟨q, h⟩
  · rw [if_neg q] at h; cases h
theorem ok_bind {α β : Type} {x : Option α} {k : α → Option β} {z : β} (h : x.bind k = some z) : ∃ v, x = some v ∧ k v = some z := by
  cases x with
  | none => cases h
  | some v => exact ⟨v, rfl, h⟩
theorem ok_lt {α β : Type} {e : α} {f : α → Option β} {z : β} (h : lt e f = some z) : ∃ x, x = e ∧ f x = some z := ⟨e, rfl, h⟩
theorem ok_loop {σ ρ : Type} {body : σ → Option (σ ⊕ ρ)} {n : Nat} {s : σ} {r : ρ} (h : loopF body (n + 1) s = some r) : ∃ x, body s = some x ∧ (∀ s', x = .inl s' → loopF body n s' = some r) ∧ (∀ r', x = .inr r' → r' = r) := by
  unfold loopF at h
  cases hb : body s with
  | none => rw [hb] at h; cases h
  | some x =>
    rw [hb] at h
    refine ⟨x, rfl, ?_, ?_⟩
    · intro s' e; subst e; exact h
    · intro r' e; subst e; exact Option.some.inj h
theorem nz {α : Type} {a : α} {P : Prop} (h : (none : Option α) = some a) : P := by cases h
theorem narB {x : Int32} (h : isB x) : narrow .boolean (.int x) = .int x := by
  rcases h with rfl | rfl <;> decide
theorem fitB {x : Int32} (h : isB x) : fits .boolean (.int x) = true := by
  rcases h with rfl | rfl <;> decide
section ZMore
variable {p : Program} {l : Launch} {e : Env} {R : Room} {s : State} {m : MethodId} {args : Array Value} {below : List Frame} {meth : Method} {c : Code} {H : Heap} {locs : List Loc} {cells slots : Nat} {Q : State → Prop} {E : Ev} {sh : Nat → Option Shp} {σ : St} {pc : Nat} {ls : Array Slot} {rest : List Value} {cc : ByteArray} {nL : Nat} {own : String}
theorem z_nm {x y : Int32} (h : y = x) (k : W p l e R s m args below meth c H locs cells slots Q (F0 m pc ls (.int y :: rest))) : W p l e R s m args below meth c H locs cells slots Q (F0 m pc ls (.int x :: rest)) := h ▸ k
theorem z_nml {x y : Int64} (h : y = x) (k : W p l e R s m args below meth c H locs cells slots Q (F0 m pc ls (.long y :: rest))) : W p l e R s m args below meth c H locs cells slots Q (F0 m pc ls (.long x :: rest)) := h ▸ k
/-- the ends, with what the pure program came to -/
theorem z_iretE (hC : Cx p s m args c cc nL own E) (hlocks : meth.locks = false) (hw : World E sh σ H) (hS : va_S E.2.2.2 s.heap H locs) {v r : Int32} {σ' : St} (hf : some (v, σ) = some (r, σ')) {ty : FieldType} (hr : meth.sig.returnType = some ty) (hn : narrow ty (.int v) = .int v) (hdg : decode cc pc = .ok (.ireturn, 1)) : W p l e R s m args below meth c H locs 0 0 (MQ below (QW E sh (some (.int r)) σ') args s 0 0 E.2.2.2) (F0 m pc ls [.int v]) := by
  cases hf
  exact z_iret hC hlocks hw hS hr hn hdg
theorem z_vretE (hC : Cx p s m args c cc nL own E) (hlocks : meth.locks = false) (hw : World E sh σ H) (hS : va_S E.2.2.2 s.heap H locs) {σ' : St} (hf : some σ = some σ') (hr : meth.sig.returnType = none) (hdg : decode cc pc = .ok (.return_, 1)) : W p l e R s m args below meth c H locs 0 0 (MQ below (QW E sh none σ') args s 0 0 E.2.2.2) (F0 m pc ls []) := by
  cases hf
  exact z_vret hC hlocks hw hS hr hdg
theorem z_aretE (hC : Cx p s m args c cc nL own E) (hlocks : meth.locks = false) (hw : World E sh σ H) (hS : va_S E.2.2.2 s.heap H locs) {a r : Nat} {σ' : St} (hf : some (a, σ) = some (r, σ')) {nm : String} (hr : meth.sig.returnType = some (.object nm)) (hdg : decode cc pc = .ok (.areturn, 1)) : W p l e R s m args below meth c H locs 0 0 (MQ below (QW E sh (some (.ref (E.2.2.1 + r))) σ') args s 0 0 E.2.2.2) (F0 m pc ls [.ref (E.2.2.1 + a)]) := by
  cases hf
  exact z_aret hC hlocks hw hS hr hdg
end ZMore
def bd {α β γ : Type} (x : Option (α × β)) (k : α → β → Option γ) : Option γ := match x with
  | none => none
  | some (a, b) => k a b
theorem ok_bd {α β γ : Type} {x : Option (α × β)} {k : α → β → Option γ} {z : γ} (h : bd x k = some z) : ∃ a b, x = some (a, b) ∧ k a b = some z := by
  cases x with
  | none => cases h
  | some v => exact ⟨v.1, v.2, rfl, h⟩
def sel {α β γ : Type} (f : α → γ) (g : β → γ) (x : α ⊕ β) : γ := match x with
  | .inl a => f a
  | .inr b => g b
end
section
/-! the fixed shape of the world behind the constructors -/
def ksH (a : Nat) : List (Option (Bool × Nat)) := [some (false, 13), none, none, none, none, none, none, some (false, a + 1), some (false, a + 2), some (false, a + 3), some (false, a + 4), some (false, a + 5), some (false, a + 6), some (false, a + 7), none]
def ksR (a : Nat) : List (Option (Bool × Nat)) := [some (false, a + 1), none, none]
def ksX : List (Option (Bool × Nat)) := [some (false, 1), some (false, 2), some (false, 19), some (false, 27), some (false, 4), some (false, 5), none, none, some (false, 6), some (false, 11), none, none]
def ksP : List (Option (Bool × Nat)) := [some (false, 7), some (false, 8), some (false, 9), some (false, 10), none, some (true, 27), none]
def ksRd : List (Option (Bool × Nat)) := [some (false, 3), none, none, none, none, none, none]
def ksT : List (Option (Bool × Nat)) := [some (false, 12), none]
def ksM : List (Option (Bool × Nat)) := [some (false, 260), some (false, 261), some (false, 262), none, some (false, 263), some (false, 264), some (false, 265), some (false, 266), none, none, some (false, 267), none, none, none, none, none, some (false, 268), some (false, 269), some (false, 270), some (false, 271), none, some (false, 272), some (false, 273)]
def houseL : List Nat := [19, 27, 51, 59, 67, 75, 83, 91, 99, 107, 115, 123, 131, 139, 147, 155, 163, 171, 179, 187, 195, 203, 211, 219, 227, 235, 243, 251]
def rowL : List Nat := [35, 37, 39, 41, 43, 45, 47, 49]
abbrev ia (n : Nat) : Shp := .inl (0, n, false, [])
def sh2a : List Shp := [.inr (10, ksX), .inl (2, 8, false, rowL), .inr (5, ksRd), ia 90, .inl (3, 2, false, [51, 59]), .inl (3, 24, false, houseL.drop 4), .inr (3, ksP), ia 484, ia 4, ia 6, ia 6, .inr (8, ksT), ia 16, .inl (4, 5, false, [14, 15, 16, 17, 18]), .inr (9, []), .inr (7, []), .inr (4, []), .inr (0, []), .inr (1, [])]
def sh2m : List Shp := [.inr (11, ksM), ia 756, ia 39, ia 2, ia 8, ia 8, ia 320, ia 40, .inl (1, 90, false, []), ia 13, ia 4, ia 6, ia 6, ia 16, ia 4]
def sh2 (a : Nat) : Option Shp :=
  if a < 19 then sh2a[a]?
  else if a < 259 then
    if 35 ≤ a ∧ a < 51 then some (if (a - 35) % 2 = 0 then .inr (6, ksR a) else ia 40)
    else some (if (a - 19) % 8 = 0 then .inr (2, ksH a) else if (a - 19) % 8 < 6 then ia 4 else ia 6)
  else sh2m[a - 259]?
def isH (a : Nat) : Prop := a ∈ houseL
def isR (a : Nat) : Prop := a ∈ rowL
def isIt (a : Nat) : Prop := sh2 a = some (ia 40)
theorem sH {a : Nat} (h : isH a) : sh2 a = some (.inr (2, ksH a)) ∧ sh2 (a + 1) = some (ia 4) ∧ sh2 (a + 2) = some (ia 4) ∧ sh2 (a + 3) = some (ia 4) ∧ sh2 (a + 4) = some (ia 4) ∧ sh2 (a + 5) = some (ia 4) ∧ sh2 (a + 6) = some (ia 6) ∧ sh2 (a + 7) = some (ia 6) := by
  simp only [isH, houseL, List.mem_cons, List.not_mem_nil, or_false] at h
  rcases h with h | h | h | h | h | h | h | h | h | h | h | h | h | h | h | h | h | h | h | h | h | h | h | h | h | h | h | h <;> subst h <;> exact ⟨rfl, rfl, rfl, rfl, rfl, rfl, rfl, rfl⟩
theorem sR {a : Nat} (h : isR a) : sh2 a = some (.inr (6, ksR a)) ∧ isIt (a + 1) := by
  simp only [isR, rowL, List.mem_cons, List.not_mem_nil, or_false] at h
  rcases h with h | h | h | h | h | h | h | h <;> subst h <;> exact ⟨rfl, rfl⟩
theorem isH_19 : isH 19 := (by decide +kernel : 19 ∈ houseL)
theorem isH_27 : isH 27 := (by decide +kernel : 27 ∈ houseL)
def rowA (i : Int32) : Nat := 35 + 2 * i.toNatClampNeg
def imgA (i : Int32) : Nat := 51 + 8 * i.toNatClampNeg
def actA (i : Int32) : Nat := 67 + 8 * i.toNatClampNeg
def fuseA (i : Int32) : Nat := 14 + i.toNatClampNeg
theorem inb_lt {i : Int32} {n : Nat} (h : inb i n) : i.toNatClampNeg < n := Nat.lt_of_not_le (fun q => h (Or.inr q))
theorem rowA_ok {i : Int32} (h : inb i 8) : rowL.getD i.toNatClampNeg 0 = rowA i ∧ isR (rowA i) := (by decide +kernel : ∀ j, j < 8 → rowL.getD j 0 = 35 + 2 * j ∧ 35 + 2 * j ∈ rowL) _ (inb_lt h)
theorem imgA_ok {i : Int32} (h : inb i 2) : ([51, 59] : List Nat).getD i.toNatClampNeg 0 = imgA i ∧ isH (imgA i) := (by decide +kernel : ∀ j, j < 2 → ([51, 59] : List Nat).getD j 0 = 51 + 8 * j ∧ 51 + 8 * j ∈ houseL) _ (inb_lt h)
theorem actA_ok {i : Int32} (h : inb i 24) : (houseL.drop 4).getD i.toNatClampNeg 0 = actA i ∧ isH (actA i) := (by decide +kernel : ∀ j, j < 24 → (houseL.drop 4).getD j 0 = 67 + 8 * j ∧ 67 + 8 * j ∈ houseL) _ (inb_lt h)
theorem fuseA_ok {i : Int32} (h : inb i 5) : ([14, 15, 16, 17, 18] : List Nat).getD i.toNatClampNeg 0 = fuseA i := (by decide +kernel : ∀ j, j < 5 → ([14, 15, 16, 17, 18] : List Nat).getD j 0 = 14 + j) _ (inb_lt h)
theorem inw_House : ∀ w ∈ wsX30, w ∈ WL := by decide +kernel
theorem inw_Plugging : ∀ w ∈ wsX40, w ∈ WL := by decide +kernel
theorem inw_Reader : ∀ w ∈ wsX60, w ∈ WL := by decide +kernel
theorem inw_Row : ∀ w ∈ wsX70, w ∈ WL := by decide +kernel
theorem inw_Trace : ∀ w ∈ wsX90, w ∈ WL := by decide +kernel
theorem inw_FuseBox : ∀ w ∈ wsX110, w ∈ WL := by decide +kernel
theorem inw_Model : ∀ w ∈ wsX120, w ∈ WL := by decide +kernel
section ZFields
variable {p : Program} {l : Launch} {e : Env} {R : Room} {s : State} {m : MethodId} {args : Array Value} {below : List Frame} {meth : Method} {c : Code} {H : Heap} {locs : List Loc} {cells slots : Nat} {Q : State → Prop} {E : Ev} {σ : St} {pc : Nat} {ls : Array Slot} {rest : List Value} {cc : ByteArray} {nL : Nat} {own : String}
theorem gHouse_fuses (hC : Cx p s m args c cc nL own E) (hw : World E sh2 σ H) {a : Nat} (ha : isH a) {index : Nat} (hl : Cond.fieldLink own index (TX3 0).1 (TX3 0).2.1 (TX3 0).2.2.1 ∈ WL) (hdg : decode cc pc = .ok (.getfield index, 3)) (kk : W p l e R s m args below meth c H locs cells slots Q (F0 m (pc + 3) ls (.ref (E.2.2.1 + 13) :: rest))) : W p l e R s m args below meth c H locs cells slots Q (F0 m pc ls (.ref (E.2.2.1 + a) :: rest)) :=
  z_get hC hw (sH ha).1 (C := RX3) (T := TX3) (N := 15) rfl inw_House 0 (by decide) rfl (v := .ref (E.2.2.1 + 13)) rfl hl hdg kk
theorem gHouse_lines (hC : Cx p s m args c cc nL own E) (hw : World E sh2 σ H) {a : Nat} (ha : isH a) {index : Nat} (hl : Cond.fieldLink own index (TX3 1).1 (TX3 1).2.1 (TX3 1).2.2.1 ∈ WL) (hdg : decode cc pc = .ok (.getfield index, 3)) (kk : W p l e R s m args below meth c H locs cells slots Q (F0 m (pc + 3) ls (.int (σ a 1) :: rest))) : W p l e R s m args below meth c H locs cells slots Q (F0 m pc ls (.ref (E.2.2.1 + a) :: rest)) :=
  z_get hC hw (sH ha).1 (C := RX3) (T := TX3) (N := 15) rfl inw_House 1 (by decide) rfl (v := .int (σ a 1)) rfl hl hdg kk
theorem pHouse_lines (hC : Cx p s m args c cc nL own E) (hw : World E sh2 σ H) (hS : va_S E.2.2.2 s.heap H locs) {a : Nat} (ha : isH a) {x : Int32} {index : Nat} (hl : Cond.fieldLink own index (TX3 1).1 (TX3 1).2.1 (TX3 1).2.2.1 ∈ WL) {σ' : St} (hσ : σ' = wr σ a 1 x) (hdg : decode cc pc = .ok (.putfield index, 3)) (kk : ∀ (H1 : Heap) (locs1 : List Loc), World E sh2 σ' H1 → va_S E.2.2.2 s.heap H1 locs1 → W p l e R s m args below meth c H1 locs1 cells slots Q (F0 m (pc + 3) ls (rest))) : W p l e R s m args below meth c H locs cells slots Q (F0 m pc ls (.int x :: .ref (E.2.2.1 + a) :: rest)) :=
  z_put hC hw hS (sH ha).1 (C := RX3) (T := TX3) (N := 15) rfl inw_House tyX3 tyX3_ok nmX3 1 (by decide) rfl rfl (x := x) (v := .int x) rfl rfl rfl hl hσ hdg kk
theorem gHouse_things (hC : Cx p s m args c cc nL own E) (hw : World E sh2 σ H) {a : Nat} (ha : isH a) {index : Nat} (hl : Cond.fieldLink own index (TX3 2).1 (TX3 2).2.1 (TX3 2).2.2.1 ∈ WL) (hdg : decode cc pc = .ok (.getfield index, 3)) (kk : W p l e R s m args below meth c H locs cells slots Q (F0 m (pc + 3) ls (.int (σ a 2) :: rest))) : W p l e R s m args below meth c H locs cells slots Q (F0 m pc ls (.ref (E.2.2.1 + a) :: rest)) :=
  z_get hC hw (sH ha).1 (C := RX3) (T := TX3) (N := 15) rfl inw_House 2 (by decide) rfl (v := .int (σ a 2)) rfl hl hdg kk
theorem pHouse_things (hC : Cx p s m args c cc nL own E) (hw : World E sh2 σ H) (hS : va_S E.2.2.2 s.heap H locs) {a : Nat} (ha : isH a) {x : Int32} {index : Nat} (hl : Cond.fieldLink own index (TX3 2).1 (TX3 2).2.1 (TX3 2).2.2.1 ∈ WL) {σ' : St} (hσ : σ' = wr σ a 2 x) (hdg : decode cc pc = .ok (.putfield index, 3)) (kk : ∀ (H1 : Heap) (locs1 : List Loc), World E sh2 σ' H1 → va_S E.2.2.2 s.heap H1 locs1 → W p l e R s m args below meth c H1 locs1 cells slots Q (F0 m (pc + 3) ls (rest))) : W p l e R s m args below meth c H locs cells slots Q (F0 m pc ls (.int x :: .ref (E.2.2.1 + a) :: rest)) :=
  z_put hC hw hS (sH ha).1 (C := RX3) (T := TX3) (N := 15) rfl inw_House tyX3 tyX3_ok nmX3 2 (by decide) rfl rfl (x := x) (v := .int x) rfl rfl rfl hl hσ hdg kk
theorem gHouse_main (hC : Cx p s m args c cc nL own E) (hw : World E sh2 σ H) {a : Nat} (ha : isH a) {index : Nat} (hl : Cond.fieldLink own index (TX3 3).1 (TX3 3).2.1 (TX3 3).2.2.1 ∈ WL) (hdg : decode cc pc = .ok (.getfield index, 3)) (kk : W p l e R s m args below meth c H locs cells slots Q (F0 m (pc + 3) ls (.int (σ a 3) :: rest))) : W p l e R s m args below meth c H locs cells slots Q (F0 m pc ls (.ref (E.2.2.1 + a) :: rest)) :=
  z_get hC hw (sH ha).1 (C := RX3) (T := TX3) (N := 15) rfl inw_House 3 (by decide) rfl (v := .int (σ a 3)) rfl hl hdg kk
theorem pHouse_main (hC : Cx p s m args c cc nL own E) (hw : World E sh2 σ H) (hS : va_S E.2.2.2 s.heap H locs) {a : Nat} (ha : isH a) {x : Int32} {index : Nat} (hl : Cond.fieldLink own index (TX3 3).1 (TX3 3).2.1 (TX3 3).2.2.1 ∈ WL) {σ' : St} (hσ : σ' = wr σ a 3 x) (hdg : decode cc pc = .ok (.putfield index, 3)) (kk : ∀ (H1 : Heap) (locs1 : List Loc), World E sh2 σ' H1 → va_S E.2.2.2 s.heap H1 locs1 → W p l e R s m args below meth c H1 locs1 cells slots Q (F0 m (pc + 3) ls (rest))) : W p l e R s m args below meth c H locs cells slots Q (F0 m pc ls (.int x :: .ref (E.2.2.1 + a) :: rest)) :=
  z_put hC hw hS (sH ha).1 (C := RX3) (T := TX3) (N := 15) rfl inw_House tyX3 tyX3_ok nmX3 3 (by decide) rfl rfl (x := x) (v := .int x) rfl rfl rfl hl hσ hdg kk
theorem gHouse_minute (hC : Cx p s m args c cc nL own E) (hw : World E sh2 σ H) {a : Nat} (ha : isH a) {index : Nat} (hl : Cond.fieldLink own index (TX3 4).1 (TX3 4).2.1 (TX3 4).2.2.1 ∈ WL) (hdg : decode cc pc = .ok (.getfield index, 3)) (kk : W p l e R s m args below meth c H locs cells slots Q (F0 m (pc + 3) ls (.int (σ a 4) :: rest))) : W p l e R s m args below meth c H locs cells slots Q (F0 m pc ls (.ref (E.2.2.1 + a) :: rest)) :=
  z_get hC hw (sH ha).1 (C := RX3) (T := TX3) (N := 15) rfl inw_House 4 (by decide) rfl (v := .int (σ a 4)) rfl hl hdg kk
theorem pHouse_minute (hC : Cx p s m args c cc nL own E) (hw : World E sh2 σ H) (hS : va_S E.2.2.2 s.heap H locs) {a : Nat} (ha : isH a) {x : Int32} {index : Nat} (hl : Cond.fieldLink own index (TX3 4).1 (TX3 4).2.1 (TX3 4).2.2.1 ∈ WL) {σ' : St} (hσ : σ' = wr σ a 4 x) (hdg : decode cc pc = .ok (.putfield index, 3)) (kk : ∀ (H1 : Heap) (locs1 : List Loc), World E sh2 σ' H1 → va_S E.2.2.2 s.heap H1 locs1 → W p l e R s m args below meth c H1 locs1 cells slots Q (F0 m (pc + 3) ls (rest))) : W p l e R s m args below meth c H locs cells slots Q (F0 m pc ls (.int x :: .ref (E.2.2.1 + a) :: rest)) :=
  z_put hC hw hS (sH ha).1 (C := RX3) (T := TX3) (N := 15) rfl inw_House tyX3 tyX3_ok nmX3 4 (by decide) rfl rfl (x := x) (v := .int x) rfl rfl rfl hl hσ hdg kk
theorem gHouse_used (hC : Cx p s m args c cc nL own E) (hw : World E sh2 σ H) {a : Nat} (ha : isH a) {index : Nat} (hl : Cond.fieldLink own index (TX3 5).1 (TX3 5).2.1 (TX3 5).2.2.1 ∈ WL) (hdg : decode cc pc = .ok (.getfield index, 3)) (kk : W p l e R s m args below meth c H locs cells slots Q (F0 m (pc + 3) ls (.int (σ a 5) :: rest))) : W p l e R s m args below meth c H locs cells slots Q (F0 m pc ls (.ref (E.2.2.1 + a) :: rest)) :=
  z_get hC hw (sH ha).1 (C := RX3) (T := TX3) (N := 15) rfl inw_House 5 (by decide) rfl (v := .int (σ a 5)) rfl hl hdg kk
theorem pHouse_used (hC : Cx p s m args c cc nL own E) (hw : World E sh2 σ H) (hS : va_S E.2.2.2 s.heap H locs) {a : Nat} (ha : isH a) {x : Int32} {index : Nat} (hl : Cond.fieldLink own index (TX3 5).1 (TX3 5).2.1 (TX3 5).2.2.1 ∈ WL) {σ' : St} (hσ : σ' = wr σ a 5 x) (hdg : decode cc pc = .ok (.putfield index, 3)) (kk : ∀ (H1 : Heap) (locs1 : List Loc), World E sh2 σ' H1 → va_S E.2.2.2 s.heap H1 locs1 → W p l e R s m args below meth c H1 locs1 cells slots Q (F0 m (pc + 3) ls (rest))) : W p l e R s m args below meth c H locs cells slots Q (F0 m pc ls (.int x :: .ref (E.2.2.1 + a) :: rest)) :=
  z_put hC hw hS (sH ha).1 (C := RX3) (T := TX3) (N := 15) rfl inw_House tyX3 tyX3_ok nmX3 5 (by decide) rfl rfl (x := x) (v := .int x) rfl rfl rfl hl hσ hdg kk
theorem gHouse_mainIn (hC : Cx p s m args c cc nL own E) (hw : World E sh2 σ H) {a : Nat} (ha : isH a) {index : Nat} (hl : Cond.fieldLink own index (TX3 6).1 (TX3 6).2.1 (TX3 6).2.2.1 ∈ WL) (hdg : decode cc pc = .ok (.getfield index, 3)) (kk : W p l e R s m args below meth c H locs cells slots Q (F0 m (pc + 3) ls (.int (σ a 6) :: rest))) : W p l e R s m args below meth c H locs cells slots Q (F0 m pc ls (.ref (E.2.2.1 + a) :: rest)) :=
  z_get hC hw (sH ha).1 (C := RX3) (T := TX3) (N := 15) rfl inw_House 6 (by decide) rfl (v := .int (σ a 6)) rfl hl hdg kk
theorem pHouse_mainIn (hC : Cx p s m args c cc nL own E) (hw : World E sh2 σ H) (hS : va_S E.2.2.2 s.heap H locs) {a : Nat} (ha : isH a) {x : Int32} (hx : isB x) {index : Nat} (hl : Cond.fieldLink own index (TX3 6).1 (TX3 6).2.1 (TX3 6).2.2.1 ∈ WL) {σ' : St} (hσ : σ' = wr σ a 6 x) (hdg : decode cc pc = .ok (.putfield index, 3)) (kk : ∀ (H1 : Heap) (locs1 : List Loc), World E sh2 σ' H1 → va_S E.2.2.2 s.heap H1 locs1 → W p l e R s m args below meth c H1 locs1 cells slots Q (F0 m (pc + 3) ls (rest))) : W p l e R s m args below meth c H locs cells slots Q (F0 m pc ls (.int x :: .ref (E.2.2.1 + a) :: rest)) :=
  z_put hC hw hS (sH ha).1 (C := RX3) (T := TX3) (N := 15) rfl inw_House tyX3 tyX3_ok nmX3 6 (by decide) rfl rfl (x := x) (v := .int x) rfl (narB hx) (fitB hx) hl hσ hdg kk
theorem gHouse_kind (hC : Cx p s m args c cc nL own E) (hw : World E sh2 σ H) {a : Nat} (ha : isH a) {index : Nat} (hl : Cond.fieldLink own index (TX3 7).1 (TX3 7).2.1 (TX3 7).2.2.1 ∈ WL) (hdg : decode cc pc = .ok (.getfield index, 3)) (kk : W p l e R s m args below meth c H locs cells slots Q (F0 m (pc + 3) ls (.ref (E.2.2.1 + (a + 1)) :: rest))) : W p l e R s m args below meth c H locs cells slots Q (F0 m pc ls (.ref (E.2.2.1 + a) :: rest)) :=
  z_get hC hw (sH ha).1 (C := RX3) (T := TX3) (N := 15) rfl inw_House 7 (by decide) rfl (v := .ref (E.2.2.1 + (a + 1))) rfl hl hdg kk
theorem gHouse_rate (hC : Cx p s m args c cc nL own E) (hw : World E sh2 σ H) {a : Nat} (ha : isH a) {index : Nat} (hl : Cond.fieldLink own index (TX3 8).1 (TX3 8).2.1 (TX3 8).2.2.1 ∈ WL) (hdg : decode cc pc = .ok (.getfield index, 3)) (kk : W p l e R s m args below meth c H locs cells slots Q (F0 m (pc + 3) ls (.ref (E.2.2.1 + (a + 2)) :: rest))) : W p l e R s m args below meth c H locs cells slots Q (F0 m pc ls (.ref (E.2.2.1 + a) :: rest)) :=
  z_get hC hw (sH ha).1 (C := RX3) (T := TX3) (N := 15) rfl inw_House 8 (by decide) rfl (v := .ref (E.2.2.1 + (a + 2))) rfl hl hdg kk
theorem gHouse_heat (hC : Cx p s m args c cc nL own E) (hw : World E sh2 σ H) {a : Nat} (ha : isH a) {index : Nat} (hl : Cond.fieldLink own index (TX3 9).1 (TX3 9).2.1 (TX3 9).2.2.1 ∈ WL) (hdg : decode cc pc = .ok (.getfield index, 3)) (kk : W p l e R s m args below meth c H locs cells slots Q (F0 m (pc + 3) ls (.ref (E.2.2.1 + (a + 3)) :: rest))) : W p l e R s m args below meth c H locs cells slots Q (F0 m pc ls (.ref (E.2.2.1 + a) :: rest)) :=
  z_get hC hw (sH ha).1 (C := RX3) (T := TX3) (N := 15) rfl inw_House 9 (by decide) rfl (v := .ref (E.2.2.1 + (a + 3))) rfl hl hdg kk
theorem gHouse_dead (hC : Cx p s m args c cc nL own E) (hw : World E sh2 σ H) {a : Nat} (ha : isH a) {index : Nat} (hl : Cond.fieldLink own index (TX3 10).1 (TX3 10).2.1 (TX3 10).2.2.1 ∈ WL) (hdg : decode cc pc = .ok (.getfield index, 3)) (kk : W p l e R s m args below meth c H locs cells slots Q (F0 m (pc + 3) ls (.ref (E.2.2.1 + (a + 4)) :: rest))) : W p l e R s m args below meth c H locs cells slots Q (F0 m pc ls (.ref (E.2.2.1 + a) :: rest)) :=
  z_get hC hw (sH ha).1 (C := RX3) (T := TX3) (N := 15) rfl inw_House 10 (by decide) rfl (v := .ref (E.2.2.1 + (a + 4))) rfl hl hdg kk
theorem gHouse_flow (hC : Cx p s m args c cc nL own E) (hw : World E sh2 σ H) {a : Nat} (ha : isH a) {index : Nat} (hl : Cond.fieldLink own index (TX3 11).1 (TX3 11).2.1 (TX3 11).2.2.1 ∈ WL) (hdg : decode cc pc = .ok (.getfield index, 3)) (kk : W p l e R s m args below meth c H locs cells slots Q (F0 m (pc + 3) ls (.ref (E.2.2.1 + (a + 5)) :: rest))) : W p l e R s m args below meth c H locs cells slots Q (F0 m pc ls (.ref (E.2.2.1 + a) :: rest)) :=
  z_get hC hw (sH ha).1 (C := RX3) (T := TX3) (N := 15) rfl inw_House 11 (by decide) rfl (v := .ref (E.2.2.1 + (a + 5))) rfl hl hdg kk
theorem gHouse_plugged (hC : Cx p s m args c cc nL own E) (hw : World E sh2 σ H) {a : Nat} (ha : isH a) {index : Nat} (hl : Cond.fieldLink own index (TX3 12).1 (TX3 12).2.1 (TX3 12).2.2.1 ∈ WL) (hdg : decode cc pc = .ok (.getfield index, 3)) (kk : W p l e R s m args below meth c H locs cells slots Q (F0 m (pc + 3) ls (.ref (E.2.2.1 + (a + 6)) :: rest))) : W p l e R s m args below meth c H locs cells slots Q (F0 m pc ls (.ref (E.2.2.1 + a) :: rest)) :=
  z_get hC hw (sH ha).1 (C := RX3) (T := TX3) (N := 15) rfl inw_House 12 (by decide) rfl (v := .ref (E.2.2.1 + (a + 6))) rfl hl hdg kk
theorem gHouse_load (hC : Cx p s m args c cc nL own E) (hw : World E sh2 σ H) {a : Nat} (ha : isH a) {index : Nat} (hl : Cond.fieldLink own index (TX3 13).1 (TX3 13).2.1 (TX3 13).2.2.1 ∈ WL) (hdg : decode cc pc = .ok (.getfield index, 3)) (kk : W p l e R s m args below meth c H locs cells slots Q (F0 m (pc + 3) ls (.ref (E.2.2.1 + (a + 7)) :: rest))) : W p l e R s m args below meth c H locs cells slots Q (F0 m pc ls (.ref (E.2.2.1 + a) :: rest)) :=
  z_get hC hw (sH ha).1 (C := RX3) (T := TX3) (N := 15) rfl inw_House 13 (by decide) rfl (v := .ref (E.2.2.1 + (a + 7))) rfl hl hdg kk
theorem gHouse_on (hC : Cx p s m args c cc nL own E) (hw : World E sh2 σ H) {a : Nat} (ha : isH a) {index : Nat} (hl : Cond.fieldLink own index (TX3 14).1 (TX3 14).2.1 (TX3 14).2.2.1 ∈ WL) (hdg : decode cc pc = .ok (.getfield index, 3)) (kk : W p l e R s m args below meth c H locs cells slots Q (F0 m (pc + 3) ls (.int (σ a 14) :: rest))) : W p l e R s m args below meth c H locs cells slots Q (F0 m pc ls (.ref (E.2.2.1 + a) :: rest)) :=
  z_get hC hw (sH ha).1 (C := RX3) (T := TX3) (N := 15) rfl inw_House 14 (by decide) rfl (v := .int (σ a 14)) rfl hl hdg kk
theorem pHouse_on (hC : Cx p s m args c cc nL own E) (hw : World E sh2 σ H) (hS : va_S E.2.2.2 s.heap H locs) {a : Nat} (ha : isH a) {x : Int32} {index : Nat} (hl : Cond.fieldLink own index (TX3 14).1 (TX3 14).2.1 (TX3 14).2.2.1 ∈ WL) {σ' : St} (hσ : σ' = wr σ a 14 x) (hdg : decode cc pc = .ok (.putfield index, 3)) (kk : ∀ (H1 : Heap) (locs1 : List Loc), World E sh2 σ' H1 → va_S E.2.2.2 s.heap H1 locs1 → W p l e R s m args below meth c H1 locs1 cells slots Q (F0 m (pc + 3) ls (rest))) : W p l e R s m args below meth c H locs cells slots Q (F0 m pc ls (.int x :: .ref (E.2.2.1 + a) :: rest)) :=
  z_put hC hw hS (sH ha).1 (C := RX3) (T := TX3) (N := 15) rfl inw_House tyX3 tyX3_ok nmX3 14 (by decide) rfl rfl (x := x) (v := .int x) rfl rfl rfl hl hσ hdg kk
theorem gPlugging_live (hC : Cx p s m args c cc nL own E) (hw : World E sh2 σ H) {index : Nat} (hl : Cond.fieldLink own index (TX4 0).1 (TX4 0).2.1 (TX4 0).2.2.1 ∈ WL) (hdg : decode cc pc = .ok (.getfield index, 3)) (kk : W p l e R s m args below meth c H locs cells slots Q (F0 m (pc + 3) ls (.ref (E.2.2.1 + 7) :: rest))) : W p l e R s m args below meth c H locs cells slots Q (F0 m pc ls (.ref (E.2.2.1 + 6) :: rest)) :=
  z_get hC hw rfl (C := RX4) (T := TX4) (N := 7) rfl inw_Plugging 0 (by decide) rfl (v := .ref (E.2.2.1 + 7)) rfl hl hdg kk
theorem gPlugging_loads (hC : Cx p s m args c cc nL own E) (hw : World E sh2 σ H) {index : Nat} (hl : Cond.fieldLink own index (TX4 1).1 (TX4 1).2.1 (TX4 1).2.2.1 ∈ WL) (hdg : decode cc pc = .ok (.getfield index, 3)) (kk : W p l e R s m args below meth c H locs cells slots Q (F0 m (pc + 3) ls (.ref (E.2.2.1 + 8) :: rest))) : W p l e R s m args below meth c H locs cells slots Q (F0 m pc ls (.ref (E.2.2.1 + 6) :: rest)) :=
  z_get hC hw rfl (C := RX4) (T := TX4) (N := 7) rfl inw_Plugging 1 (by decide) rfl (v := .ref (E.2.2.1 + 8)) rfl hl hdg kk
theorem gPlugging_way (hC : Cx p s m args c cc nL own E) (hw : World E sh2 σ H) {index : Nat} (hl : Cond.fieldLink own index (TX4 2).1 (TX4 2).2.1 (TX4 2).2.2.1 ∈ WL) (hdg : decode cc pc = .ok (.getfield index, 3)) (kk : W p l e R s m args below meth c H locs cells slots Q (F0 m (pc + 3) ls (.ref (E.2.2.1 + 9) :: rest))) : W p l e R s m args below meth c H locs cells slots Q (F0 m pc ls (.ref (E.2.2.1 + 6) :: rest)) :=
  z_get hC hw rfl (C := RX4) (T := TX4) (N := 7) rfl inw_Plugging 2 (by decide) rfl (v := .ref (E.2.2.1 + 9)) rfl hl hdg kk
theorem gPlugging_best (hC : Cx p s m args c cc nL own E) (hw : World E sh2 σ H) {index : Nat} (hl : Cond.fieldLink own index (TX4 3).1 (TX4 3).2.1 (TX4 3).2.2.1 ∈ WL) (hdg : decode cc pc = .ok (.getfield index, 3)) (kk : W p l e R s m args below meth c H locs cells slots Q (F0 m (pc + 3) ls (.ref (E.2.2.1 + 10) :: rest))) : W p l e R s m args below meth c H locs cells slots Q (F0 m pc ls (.ref (E.2.2.1 + 6) :: rest)) :=
  z_get hC hw rfl (C := RX4) (T := TX4) (N := 7) rfl inw_Plugging 3 (by decide) rfl (v := .ref (E.2.2.1 + 10)) rfl hl hdg kk
theorem gPlugging_most (hC : Cx p s m args c cc nL own E) (hw : World E sh2 σ H) {index : Nat} (hl : Cond.fieldLink own index (TX4 4).1 (TX4 4).2.1 (TX4 4).2.2.1 ∈ WL) (hdg : decode cc pc = .ok (.getfield index, 3)) (kk : W p l e R s m args below meth c H locs cells slots Q (F0 m (pc + 3) ls (.int (σ 6 4) :: rest))) : W p l e R s m args below meth c H locs cells slots Q (F0 m pc ls (.ref (E.2.2.1 + 6) :: rest)) :=
  z_get hC hw rfl (C := RX4) (T := TX4) (N := 7) rfl inw_Plugging 4 (by decide) rfl (v := .int (σ 6 4)) rfl hl hdg kk
theorem pPlugging_most (hC : Cx p s m args c cc nL own E) (hw : World E sh2 σ H) (hS : va_S E.2.2.2 s.heap H locs) {x : Int32} {index : Nat} (hl : Cond.fieldLink own index (TX4 4).1 (TX4 4).2.1 (TX4 4).2.2.1 ∈ WL) {σ' : St} (hσ : σ' = wr σ 6 4 x) (hdg : decode cc pc = .ok (.putfield index, 3)) (kk : ∀ (H1 : Heap) (locs1 : List Loc), World E sh2 σ' H1 → va_S E.2.2.2 s.heap H1 locs1 → W p l e R s m args below meth c H1 locs1 cells slots Q (F0 m (pc + 3) ls (rest))) : W p l e R s m args below meth c H locs cells slots Q (F0 m pc ls (.int x :: .ref (E.2.2.1 + 6) :: rest)) :=
  z_put hC hw hS rfl (C := RX4) (T := TX4) (N := 7) rfl inw_Plugging tyX4 tyX4_ok nmX4 4 (by decide) rfl rfl (x := x) (v := .int x) rfl rfl rfl hl hσ hdg kk
theorem gPlugging_house (hC : Cx p s m args c cc nL own E) (hw : World E sh2 σ H) (hz : ¬ σ 6 5 = 0) {index : Nat} (hl : Cond.fieldLink own index (TX4 5).1 (TX4 5).2.1 (TX4 5).2.2.1 ∈ WL) (hdg : decode cc pc = .ok (.getfield index, 3)) (kk : W p l e R s m args below meth c H locs cells slots Q (F0 m (pc + 3) ls (.ref (E.2.2.1 + 27) :: rest))) : W p l e R s m args below meth c H locs cells slots Q (F0 m pc ls (.ref (E.2.2.1 + 6) :: rest)) :=
  z_get hC hw rfl (C := RX4) (T := TX4) (N := 7) rfl inw_Plugging 5 (by decide) rfl (v := .ref (E.2.2.1 + 27)) (if_neg hz) hl hdg kk
theorem pPlugging_house (hC : Cx p s m args c cc nL own E) (hw : World E sh2 σ H) (hS : va_S E.2.2.2 s.heap H locs) {index : Nat} (hl : Cond.fieldLink own index (TX4 5).1 (TX4 5).2.1 (TX4 5).2.2.1 ∈ WL) {σ' : St} (hσ : σ' = wr σ 6 5 1) (hdg : decode cc pc = .ok (.putfield index, 3)) (kk : ∀ (H1 : Heap) (locs1 : List Loc), World E sh2 σ' H1 → va_S E.2.2.2 s.heap H1 locs1 → W p l e R s m args below meth c H1 locs1 cells slots Q (F0 m (pc + 3) ls (rest))) : W p l e R s m args below meth c H locs cells slots Q (F0 m pc ls (.ref (E.2.2.1 + 27) :: .ref (E.2.2.1 + 6) :: rest)) :=
  z_put hC hw hS rfl (C := RX4) (T := TX4) (N := 7) rfl inw_Plugging tyX4 tyX4_ok nmX4 5 (by decide) rfl rfl (o := some (true, 27)) (x := 1) (v := .ref (E.2.2.1 + 27)) (show (if (1 : Int32) = 0 then Value.null else Value.ref (E.2.2.1 + 27)) = Value.ref (E.2.2.1 + 27) from if_neg (by decide)) rfl rfl hl hσ hdg kk
theorem gPlugging_minutes (hC : Cx p s m args c cc nL own E) (hw : World E sh2 σ H) {index : Nat} (hl : Cond.fieldLink own index (TX4 6).1 (TX4 6).2.1 (TX4 6).2.2.1 ∈ WL) (hdg : decode cc pc = .ok (.getfield index, 3)) (kk : W p l e R s m args below meth c H locs cells slots Q (F0 m (pc + 3) ls (.int (σ 6 6) :: rest))) : W p l e R s m args below meth c H locs cells slots Q (F0 m pc ls (.ref (E.2.2.1 + 6) :: rest)) :=
  z_get hC hw rfl (C := RX4) (T := TX4) (N := 7) rfl inw_Plugging 6 (by decide) rfl (v := .int (σ 6 6)) rfl hl hdg kk
theorem pPlugging_minutes (hC : Cx p s m args c cc nL own E) (hw : World E sh2 σ H) (hS : va_S E.2.2.2 s.heap H locs) {x : Int32} {index : Nat} (hl : Cond.fieldLink own index (TX4 6).1 (TX4 6).2.1 (TX4 6).2.2.1 ∈ WL) {σ' : St} (hσ : σ' = wr σ 6 6 x) (hdg : decode cc pc = .ok (.putfield index, 3)) (kk : ∀ (H1 : Heap) (locs1 : List Loc), World E sh2 σ' H1 → va_S E.2.2.2 s.heap H1 locs1 → W p l e R s m args below meth c H1 locs1 cells slots Q (F0 m (pc + 3) ls (rest))) : W p l e R s m args below meth c H locs cells slots Q (F0 m pc ls (.int x :: .ref (E.2.2.1 + 6) :: rest)) :=
  z_put hC hw hS rfl (C := RX4) (T := TX4) (N := 7) rfl inw_Plugging tyX4 tyX4_ok nmX4 6 (by decide) rfl rfl (x := x) (v := .int x) rfl rfl rfl hl hσ hdg kk
theorem gReader_letters (hC : Cx p s m args c cc nL own E) (hw : World E sh2 σ H) {index : Nat} (hl : Cond.fieldLink own index (TX6 0).1 (TX6 0).2.1 (TX6 0).2.2.1 ∈ WL) (hdg : decode cc pc = .ok (.getfield index, 3)) (kk : W p l e R s m args below meth c H locs cells slots Q (F0 m (pc + 3) ls (.ref (E.2.2.1 + 3) :: rest))) : W p l e R s m args below meth c H locs cells slots Q (F0 m pc ls (.ref (E.2.2.1 + 2) :: rest)) :=
  z_get hC hw rfl (C := RX6) (T := TX6) (N := 7) rfl inw_Reader 0 (by decide) rfl (v := .ref (E.2.2.1 + 3)) rfl hl hdg kk
theorem gReader_size (hC : Cx p s m args c cc nL own E) (hw : World E sh2 σ H) {index : Nat} (hl : Cond.fieldLink own index (TX6 1).1 (TX6 1).2.1 (TX6 1).2.2.1 ∈ WL) (hdg : decode cc pc = .ok (.getfield index, 3)) (kk : W p l e R s m args below meth c H locs cells slots Q (F0 m (pc + 3) ls (.int (σ 2 1) :: rest))) : W p l e R s m args below meth c H locs cells slots Q (F0 m pc ls (.ref (E.2.2.1 + 2) :: rest)) :=
  z_get hC hw rfl (C := RX6) (T := TX6) (N := 7) rfl inw_Reader 1 (by decide) rfl (v := .int (σ 2 1)) rfl hl hdg kk
theorem pReader_size (hC : Cx p s m args c cc nL own E) (hw : World E sh2 σ H) (hS : va_S E.2.2.2 s.heap H locs) {x : Int32} {index : Nat} (hl : Cond.fieldLink own index (TX6 1).1 (TX6 1).2.1 (TX6 1).2.2.1 ∈ WL) {σ' : St} (hσ : σ' = wr σ 2 1 x) (hdg : decode cc pc = .ok (.putfield index, 3)) (kk : ∀ (H1 : Heap) (locs1 : List Loc), World E sh2 σ' H1 → va_S E.2.2.2 s.heap H1 locs1 → W p l e R s m args below meth c H1 locs1 cells slots Q (F0 m (pc + 3) ls (rest))) : W p l e R s m args below meth c H locs cells slots Q (F0 m pc ls (.int x :: .ref (E.2.2.1 + 2) :: rest)) :=
  z_put hC hw hS rfl (C := RX6) (T := TX6) (N := 7) rfl inw_Reader tyX6 tyX6_ok nmX6 1 (by decide) rfl rfl (x := x) (v := .int x) rfl rfl rfl hl hσ hdg kk
theorem gReader_token (hC : Cx p s m args c cc nL own E) (hw : World E sh2 σ H) {index : Nat} (hl : Cond.fieldLink own index (TX6 2).1 (TX6 2).2.1 (TX6 2).2.2.1 ∈ WL) (hdg : decode cc pc = .ok (.getfield index, 3)) (kk : W p l e R s m args below meth c H locs cells slots Q (F0 m (pc + 3) ls (.int (σ 2 2) :: rest))) : W p l e R s m args below meth c H locs cells slots Q (F0 m pc ls (.ref (E.2.2.1 + 2) :: rest)) :=
  z_get hC hw rfl (C := RX6) (T := TX6) (N := 7) rfl inw_Reader 2 (by decide) rfl (v := .int (σ 2 2)) rfl hl hdg kk
theorem pReader_token (hC : Cx p s m args c cc nL own E) (hw : World E sh2 σ H) (hS : va_S E.2.2.2 s.heap H locs) {x : Int32} {index : Nat} (hl : Cond.fieldLink own index (TX6 2).1 (TX6 2).2.1 (TX6 2).2.2.1 ∈ WL) {σ' : St} (hσ : σ' = wr σ 2 2 x) (hdg : decode cc pc = .ok (.putfield index, 3)) (kk : ∀ (H1 : Heap) (locs1 : List Loc), World E sh2 σ' H1 → va_S E.2.2.2 s.heap H1 locs1 → W p l e R s m args below meth c H1 locs1 cells slots Q (F0 m (pc + 3) ls (rest))) : W p l e R s m args below meth c H locs cells slots Q (F0 m pc ls (.int x :: .ref (E.2.2.1 + 2) :: rest)) :=
  z_put hC hw hS rfl (C := RX6) (T := TX6) (N := 7) rfl inw_Reader tyX6 tyX6_ok nmX6 2 (by decide) rfl rfl (x := x) (v := .int x) rfl rfl rfl hl hσ hdg kk
theorem gReader_value (hC : Cx p s m args c cc nL own E) (hw : World E sh2 σ H) {index : Nat} (hl : Cond.fieldLink own index (TX6 3).1 (TX6 3).2.1 (TX6 3).2.2.1 ∈ WL) (hdg : decode cc pc = .ok (.getfield index, 3)) (kk : W p l e R s m args below meth c H locs cells slots Q (F0 m (pc + 3) ls (.int (σ 2 3) :: rest))) : W p l e R s m args below meth c H locs cells slots Q (F0 m pc ls (.ref (E.2.2.1 + 2) :: rest)) :=
  z_get hC hw rfl (C := RX6) (T := TX6) (N := 7) rfl inw_Reader 3 (by decide) rfl (v := .int (σ 2 3)) rfl hl hdg kk
theorem pReader_value (hC : Cx p s m args c cc nL own E) (hw : World E sh2 σ H) (hS : va_S E.2.2.2 s.heap H locs) {x : Int32} {index : Nat} (hl : Cond.fieldLink own index (TX6 3).1 (TX6 3).2.1 (TX6 3).2.2.1 ∈ WL) {σ' : St} (hσ : σ' = wr σ 2 3 x) (hdg : decode cc pc = .ok (.putfield index, 3)) (kk : ∀ (H1 : Heap) (locs1 : List Loc), World E sh2 σ' H1 → va_S E.2.2.2 s.heap H1 locs1 → W p l e R s m args below meth c H1 locs1 cells slots Q (F0 m (pc + 3) ls (rest))) : W p l e R s m args below meth c H locs cells slots Q (F0 m pc ls (.int x :: .ref (E.2.2.1 + 2) :: rest)) :=
  z_put hC hw hS rfl (C := RX6) (T := TX6) (N := 7) rfl inw_Reader tyX6 tyX6_ok nmX6 3 (by decide) rfl rfl (x := x) (v := .int x) rfl rfl rfl hl hσ hdg kk
theorem gReader_behind (hC : Cx p s m args c cc nL own E) (hw : World E sh2 σ H) {index : Nat} (hl : Cond.fieldLink own index (TX6 4).1 (TX6 4).2.1 (TX6 4).2.2.1 ∈ WL) (hdg : decode cc pc = .ok (.getfield index, 3)) (kk : W p l e R s m args below meth c H locs cells slots Q (F0 m (pc + 3) ls (.int (σ 2 4) :: rest))) : W p l e R s m args below meth c H locs cells slots Q (F0 m pc ls (.ref (E.2.2.1 + 2) :: rest)) :=
  z_get hC hw rfl (C := RX6) (T := TX6) (N := 7) rfl inw_Reader 4 (by decide) rfl (v := .int (σ 2 4)) rfl hl hdg kk
theorem pReader_behind (hC : Cx p s m args c cc nL own E) (hw : World E sh2 σ H) (hS : va_S E.2.2.2 s.heap H locs) {x : Int32} {index : Nat} (hl : Cond.fieldLink own index (TX6 4).1 (TX6 4).2.1 (TX6 4).2.2.1 ∈ WL) {σ' : St} (hσ : σ' = wr σ 2 4 x) (hdg : decode cc pc = .ok (.putfield index, 3)) (kk : ∀ (H1 : Heap) (locs1 : List Loc), World E sh2 σ' H1 → va_S E.2.2.2 s.heap H1 locs1 → W p l e R s m args below meth c H1 locs1 cells slots Q (F0 m (pc + 3) ls (rest))) : W p l e R s m args below meth c H locs cells slots Q (F0 m pc ls (.int x :: .ref (E.2.2.1 + 2) :: rest)) :=
  z_put hC hw hS rfl (C := RX6) (T := TX6) (N := 7) rfl inw_Reader tyX6 tyX6_ok nmX6 4 (by decide) rfl rfl (x := x) (v := .int x) rfl rfl rfl hl hσ hdg kk
theorem gReader_start (hC : Cx p s m args c cc nL own E) (hw : World E sh2 σ H) {index : Nat} (hl : Cond.fieldLink own index (TX6 5).1 (TX6 5).2.1 (TX6 5).2.2.1 ∈ WL) (hdg : decode cc pc = .ok (.getfield index, 3)) (kk : W p l e R s m args below meth c H locs cells slots Q (F0 m (pc + 3) ls (.int (σ 2 5) :: rest))) : W p l e R s m args below meth c H locs cells slots Q (F0 m pc ls (.ref (E.2.2.1 + 2) :: rest)) :=
  z_get hC hw rfl (C := RX6) (T := TX6) (N := 7) rfl inw_Reader 5 (by decide) rfl (v := .int (σ 2 5)) rfl hl hdg kk
theorem pReader_start (hC : Cx p s m args c cc nL own E) (hw : World E sh2 σ H) (hS : va_S E.2.2.2 s.heap H locs) {x : Int32} {index : Nat} (hl : Cond.fieldLink own index (TX6 5).1 (TX6 5).2.1 (TX6 5).2.2.1 ∈ WL) {σ' : St} (hσ : σ' = wr σ 2 5 x) (hdg : decode cc pc = .ok (.putfield index, 3)) (kk : ∀ (H1 : Heap) (locs1 : List Loc), World E sh2 σ' H1 → va_S E.2.2.2 s.heap H1 locs1 → W p l e R s m args below meth c H1 locs1 cells slots Q (F0 m (pc + 3) ls (rest))) : W p l e R s m args below meth c H locs cells slots Q (F0 m pc ls (.int x :: .ref (E.2.2.1 + 2) :: rest)) :=
  z_put hC hw hS rfl (C := RX6) (T := TX6) (N := 7) rfl inw_Reader tyX6 tyX6_ok nmX6 5 (by decide) rfl rfl (x := x) (v := .int x) rfl rfl rfl hl hσ hdg kk
theorem gReader_fault (hC : Cx p s m args c cc nL own E) (hw : World E sh2 σ H) {index : Nat} (hl : Cond.fieldLink own index (TX6 6).1 (TX6 6).2.1 (TX6 6).2.2.1 ∈ WL) (hdg : decode cc pc = .ok (.getfield index, 3)) (kk : W p l e R s m args below meth c H locs cells slots Q (F0 m (pc + 3) ls (.int (σ 2 6) :: rest))) : W p l e R s m args below meth c H locs cells slots Q (F0 m pc ls (.ref (E.2.2.1 + 2) :: rest)) :=
  z_get hC hw rfl (C := RX6) (T := TX6) (N := 7) rfl inw_Reader 6 (by decide) rfl (v := .int (σ 2 6)) rfl hl hdg kk
theorem pReader_fault (hC : Cx p s m args c cc nL own E) (hw : World E sh2 σ H) (hS : va_S E.2.2.2 s.heap H locs) {x : Int32} {index : Nat} (hl : Cond.fieldLink own index (TX6 6).1 (TX6 6).2.1 (TX6 6).2.2.1 ∈ WL) {σ' : St} (hσ : σ' = wr σ 2 6 x) (hdg : decode cc pc = .ok (.putfield index, 3)) (kk : ∀ (H1 : Heap) (locs1 : List Loc), World E sh2 σ' H1 → va_S E.2.2.2 s.heap H1 locs1 → W p l e R s m args below meth c H1 locs1 cells slots Q (F0 m (pc + 3) ls (rest))) : W p l e R s m args below meth c H locs cells slots Q (F0 m pc ls (.int x :: .ref (E.2.2.1 + 2) :: rest)) :=
  z_put hC hw hS rfl (C := RX6) (T := TX6) (N := 7) rfl inw_Reader tyX6 tyX6_ok nmX6 6 (by decide) rfl rfl (x := x) (v := .int x) rfl rfl rfl hl hσ hdg kk
theorem gRow_items (hC : Cx p s m args c cc nL own E) (hw : World E sh2 σ H) {a : Nat} (ha : isR a) {index : Nat} (hl : Cond.fieldLink own index (TX7 0).1 (TX7 0).2.1 (TX7 0).2.2.1 ∈ WL) (hdg : decode cc pc = .ok (.getfield index, 3)) (kk : W p l e R s m args below meth c H locs cells slots Q (F0 m (pc + 3) ls (.ref (E.2.2.1 + (a + 1)) :: rest))) : W p l e R s m args below meth c H locs cells slots Q (F0 m pc ls (.ref (E.2.2.1 + a) :: rest)) :=
  z_get hC hw (sR ha).1 (C := RX7) (T := TX7) (N := 3) rfl inw_Row 0 (by decide) rfl (v := .ref (E.2.2.1 + (a + 1))) rfl hl hdg kk
theorem gRow_lane (hC : Cx p s m args c cc nL own E) (hw : World E sh2 σ H) {a : Nat} (ha : isR a) {index : Nat} (hl : Cond.fieldLink own index (TX7 1).1 (TX7 1).2.1 (TX7 1).2.2.1 ∈ WL) (hdg : decode cc pc = .ok (.getfield index, 3)) (kk : W p l e R s m args below meth c H locs cells slots Q (F0 m (pc + 3) ls (.int (σ a 1) :: rest))) : W p l e R s m args below meth c H locs cells slots Q (F0 m pc ls (.ref (E.2.2.1 + a) :: rest)) :=
  z_get hC hw (sR ha).1 (C := RX7) (T := TX7) (N := 3) rfl inw_Row 1 (by decide) rfl (v := .int (σ a 1)) rfl hl hdg kk
theorem pRow_lane (hC : Cx p s m args c cc nL own E) (hw : World E sh2 σ H) (hS : va_S E.2.2.2 s.heap H locs) {a : Nat} (ha : isR a) {x : Int32} {index : Nat} (hl : Cond.fieldLink own index (TX7 1).1 (TX7 1).2.1 (TX7 1).2.2.1 ∈ WL) {σ' : St} (hσ : σ' = wr σ a 1 x) (hdg : decode cc pc = .ok (.putfield index, 3)) (kk : ∀ (H1 : Heap) (locs1 : List Loc), World E sh2 σ' H1 → va_S E.2.2.2 s.heap H1 locs1 → W p l e R s m args below meth c H1 locs1 cells slots Q (F0 m (pc + 3) ls (rest))) : W p l e R s m args below meth c H locs cells slots Q (F0 m pc ls (.int x :: .ref (E.2.2.1 + a) :: rest)) :=
  z_put hC hw hS (sR ha).1 (C := RX7) (T := TX7) (N := 3) rfl inw_Row tyX7 tyX7_ok nmX7 1 (by decide) rfl rfl (x := x) (v := .int x) rfl rfl rfl hl hσ hdg kk
theorem gRow_size (hC : Cx p s m args c cc nL own E) (hw : World E sh2 σ H) {a : Nat} (ha : isR a) {index : Nat} (hl : Cond.fieldLink own index (TX7 2).1 (TX7 2).2.1 (TX7 2).2.2.1 ∈ WL) (hdg : decode cc pc = .ok (.getfield index, 3)) (kk : W p l e R s m args below meth c H locs cells slots Q (F0 m (pc + 3) ls (.int (σ a 2) :: rest))) : W p l e R s m args below meth c H locs cells slots Q (F0 m pc ls (.ref (E.2.2.1 + a) :: rest)) :=
  z_get hC hw (sR ha).1 (C := RX7) (T := TX7) (N := 3) rfl inw_Row 2 (by decide) rfl (v := .int (σ a 2)) rfl hl hdg kk
theorem pRow_size (hC : Cx p s m args c cc nL own E) (hw : World E sh2 σ H) (hS : va_S E.2.2.2 s.heap H locs) {a : Nat} (ha : isR a) {x : Int32} {index : Nat} (hl : Cond.fieldLink own index (TX7 2).1 (TX7 2).2.1 (TX7 2).2.2.1 ∈ WL) {σ' : St} (hσ : σ' = wr σ a 2 x) (hdg : decode cc pc = .ok (.putfield index, 3)) (kk : ∀ (H1 : Heap) (locs1 : List Loc), World E sh2 σ' H1 → va_S E.2.2.2 s.heap H1 locs1 → W p l e R s m args below meth c H1 locs1 cells slots Q (F0 m (pc + 3) ls (rest))) : W p l e R s m args below meth c H locs cells slots Q (F0 m pc ls (.int x :: .ref (E.2.2.1 + a) :: rest)) :=
  z_put hC hw hS (sR ha).1 (C := RX7) (T := TX7) (N := 3) rfl inw_Row tyX7 tyX7_ok nmX7 2 (by decide) rfl rfl (x := x) (v := .int x) rfl rfl rfl hl hσ hdg kk
theorem gTrace_bodies (hC : Cx p s m args c cc nL own E) (hw : World E sh2 σ H) {index : Nat} (hl : Cond.fieldLink own index (TX9 0).1 (TX9 0).2.1 (TX9 0).2.2.1 ∈ WL) (hdg : decode cc pc = .ok (.getfield index, 3)) (kk : W p l e R s m args below meth c H locs cells slots Q (F0 m (pc + 3) ls (.ref (E.2.2.1 + 12) :: rest))) : W p l e R s m args below meth c H locs cells slots Q (F0 m pc ls (.ref (E.2.2.1 + 11) :: rest)) :=
  z_get hC hw rfl (C := RX9) (T := TX9) (N := 2) rfl inw_Trace 0 (by decide) rfl (v := .ref (E.2.2.1 + 12)) rfl hl hdg kk
theorem gTrace_size (hC : Cx p s m args c cc nL own E) (hw : World E sh2 σ H) {index : Nat} (hl : Cond.fieldLink own index (TX9 1).1 (TX9 1).2.1 (TX9 1).2.2.1 ∈ WL) (hdg : decode cc pc = .ok (.getfield index, 3)) (kk : W p l e R s m args below meth c H locs cells slots Q (F0 m (pc + 3) ls (.int (σ 11 1) :: rest))) : W p l e R s m args below meth c H locs cells slots Q (F0 m pc ls (.ref (E.2.2.1 + 11) :: rest)) :=
  z_get hC hw rfl (C := RX9) (T := TX9) (N := 2) rfl inw_Trace 1 (by decide) rfl (v := .int (σ 11 1)) rfl hl hdg kk
theorem pTrace_size (hC : Cx p s m args c cc nL own E) (hw : World E sh2 σ H) (hS : va_S E.2.2.2 s.heap H locs) {x : Int32} {index : Nat} (hl : Cond.fieldLink own index (TX9 1).1 (TX9 1).2.1 (TX9 1).2.2.1 ∈ WL) {σ' : St} (hσ : σ' = wr σ 11 1 x) (hdg : decode cc pc = .ok (.putfield index, 3)) (kk : ∀ (H1 : Heap) (locs1 : List Loc), World E sh2 σ' H1 → va_S E.2.2.2 s.heap H1 locs1 → W p l e R s m args below meth c H1 locs1 cells slots Q (F0 m (pc + 3) ls (rest))) : W p l e R s m args below meth c H locs cells slots Q (F0 m pc ls (.int x :: .ref (E.2.2.1 + 11) :: rest)) :=
  z_put hC hw hS rfl (C := RX9) (T := TX9) (N := 2) rfl inw_Trace tyX9 tyX9_ok nmX9 1 (by decide) rfl rfl (x := x) (v := .int x) rfl rfl rfl hl hσ hdg kk
theorem gFuseBox_rows (hC : Cx p s m args c cc nL own E) (hw : World E sh2 σ H) {index : Nat} (hl : Cond.fieldLink own index (TX11 0).1 (TX11 0).2.1 (TX11 0).2.2.1 ∈ WL) (hdg : decode cc pc = .ok (.getfield index, 3)) (kk : W p l e R s m args below meth c H locs cells slots Q (F0 m (pc + 3) ls (.ref (E.2.2.1 + 1) :: rest))) : W p l e R s m args below meth c H locs cells slots Q (F0 m pc ls (.ref (E.2.2.1 + 0) :: rest)) :=
  z_get hC hw rfl (C := RX11) (T := TX11) (N := 12) rfl inw_FuseBox 0 (by decide) rfl (v := .ref (E.2.2.1 + 1)) rfl hl hdg kk
theorem gFuseBox_reader (hC : Cx p s m args c cc nL own E) (hw : World E sh2 σ H) {index : Nat} (hl : Cond.fieldLink own index (TX11 1).1 (TX11 1).2.1 (TX11 1).2.2.1 ∈ WL) (hdg : decode cc pc = .ok (.getfield index, 3)) (kk : W p l e R s m args below meth c H locs cells slots Q (F0 m (pc + 3) ls (.ref (E.2.2.1 + 2) :: rest))) : W p l e R s m args below meth c H locs cells slots Q (F0 m pc ls (.ref (E.2.2.1 + 0) :: rest)) :=
  z_get hC hw rfl (C := RX11) (T := TX11) (N := 12) rfl inw_FuseBox 1 (by decide) rfl (v := .ref (E.2.2.1 + 2)) rfl hl hdg kk
theorem gFuseBox_now (hC : Cx p s m args c cc nL own E) (hw : World E sh2 σ H) {index : Nat} (hl : Cond.fieldLink own index (TX11 2).1 (TX11 2).2.1 (TX11 2).2.2.1 ∈ WL) (hdg : decode cc pc = .ok (.getfield index, 3)) (kk : W p l e R s m args below meth c H locs cells slots Q (F0 m (pc + 3) ls (.ref (E.2.2.1 + 19) :: rest))) : W p l e R s m args below meth c H locs cells slots Q (F0 m pc ls (.ref (E.2.2.1 + 0) :: rest)) :=
  z_get hC hw rfl (C := RX11) (T := TX11) (N := 12) rfl inw_FuseBox 2 (by decide) rfl (v := .ref (E.2.2.1 + 19)) rfl hl hdg kk
theorem gFuseBox_trial (hC : Cx p s m args c cc nL own E) (hw : World E sh2 σ H) {index : Nat} (hl : Cond.fieldLink own index (TX11 3).1 (TX11 3).2.1 (TX11 3).2.2.1 ∈ WL) (hdg : decode cc pc = .ok (.getfield index, 3)) (kk : W p l e R s m args below meth c H locs cells slots Q (F0 m (pc + 3) ls (.ref (E.2.2.1 + 27) :: rest))) : W p l e R s m args below meth c H locs cells slots Q (F0 m pc ls (.ref (E.2.2.1 + 0) :: rest)) :=
  z_get hC hw rfl (C := RX11) (T := TX11) (N := 12) rfl inw_FuseBox 3 (by decide) rfl (v := .ref (E.2.2.1 + 27)) rfl hl hdg kk
theorem gFuseBox_images (hC : Cx p s m args c cc nL own E) (hw : World E sh2 σ H) {index : Nat} (hl : Cond.fieldLink own index (TX11 4).1 (TX11 4).2.1 (TX11 4).2.2.1 ∈ WL) (hdg : decode cc pc = .ok (.getfield index, 3)) (kk : W p l e R s m args below meth c H locs cells slots Q (F0 m (pc + 3) ls (.ref (E.2.2.1 + 4) :: rest))) : W p l e R s m args below meth c H locs cells slots Q (F0 m pc ls (.ref (E.2.2.1 + 0) :: rest)) :=
  z_get hC hw rfl (C := RX11) (T := TX11) (N := 12) rfl inw_FuseBox 4 (by decide) rfl (v := .ref (E.2.2.1 + 4)) rfl hl hdg kk
theorem gFuseBox_acts (hC : Cx p s m args c cc nL own E) (hw : World E sh2 σ H) {index : Nat} (hl : Cond.fieldLink own index (TX11 5).1 (TX11 5).2.1 (TX11 5).2.2.1 ∈ WL) (hdg : decode cc pc = .ok (.getfield index, 3)) (kk : W p l e R s m args below meth c H locs cells slots Q (F0 m (pc + 3) ls (.ref (E.2.2.1 + 5) :: rest))) : W p l e R s m args below meth c H locs cells slots Q (F0 m pc ls (.ref (E.2.2.1 + 0) :: rest)) :=
  z_get hC hw rfl (C := RX11) (T := TX11) (N := 12) rfl inw_FuseBox 5 (by decide) rfl (v := .ref (E.2.2.1 + 5)) rfl hl hdg kk
theorem gFuseBox_oldestAct (hC : Cx p s m args c cc nL own E) (hw : World E sh2 σ H) {index : Nat} (hl : Cond.fieldLink own index (TX11 6).1 (TX11 6).2.1 (TX11 6).2.2.1 ∈ WL) (hdg : decode cc pc = .ok (.getfield index, 3)) (kk : W p l e R s m args below meth c H locs cells slots Q (F0 m (pc + 3) ls (.int (σ 0 6) :: rest))) : W p l e R s m args below meth c H locs cells slots Q (F0 m pc ls (.ref (E.2.2.1 + 0) :: rest)) :=
  z_get hC hw rfl (C := RX11) (T := TX11) (N := 12) rfl inw_FuseBox 6 (by decide) rfl (v := .int (σ 0 6)) rfl hl hdg kk
theorem pFuseBox_oldestAct (hC : Cx p s m args c cc nL own E) (hw : World E sh2 σ H) (hS : va_S E.2.2.2 s.heap H locs) {x : Int32} {index : Nat} (hl : Cond.fieldLink own index (TX11 6).1 (TX11 6).2.1 (TX11 6).2.2.1 ∈ WL) {σ' : St} (hσ : σ' = wr σ 0 6 x) (hdg : decode cc pc = .ok (.putfield index, 3)) (kk : ∀ (H1 : Heap) (locs1 : List Loc), World E sh2 σ' H1 → va_S E.2.2.2 s.heap H1 locs1 → W p l e R s m args below meth c H1 locs1 cells slots Q (F0 m (pc + 3) ls (rest))) : W p l e R s m args below meth c H locs cells slots Q (F0 m pc ls (.int x :: .ref (E.2.2.1 + 0) :: rest)) :=
  z_put hC hw hS rfl (C := RX11) (T := TX11) (N := 12) rfl inw_FuseBox tyX11 tyX11_ok nmX11 6 (by decide) rfl rfl (x := x) (v := .int x) rfl rfl rfl hl hσ hdg kk
theorem gFuseBox_actsKept (hC : Cx p s m args c cc nL own E) (hw : World E sh2 σ H) {index : Nat} (hl : Cond.fieldLink own index (TX11 7).1 (TX11 7).2.1 (TX11 7).2.2.1 ∈ WL) (hdg : decode cc pc = .ok (.getfield index, 3)) (kk : W p l e R s m args below meth c H locs cells slots Q (F0 m (pc + 3) ls (.int (σ 0 7) :: rest))) : W p l e R s m args below meth c H locs cells slots Q (F0 m pc ls (.ref (E.2.2.1 + 0) :: rest)) :=
  z_get hC hw rfl (C := RX11) (T := TX11) (N := 12) rfl inw_FuseBox 7 (by decide) rfl (v := .int (σ 0 7)) rfl hl hdg kk
theorem pFuseBox_actsKept (hC : Cx p s m args c cc nL own E) (hw : World E sh2 σ H) (hS : va_S E.2.2.2 s.heap H locs) {x : Int32} {index : Nat} (hl : Cond.fieldLink own index (TX11 7).1 (TX11 7).2.1 (TX11 7).2.2.1 ∈ WL) {σ' : St} (hσ : σ' = wr σ 0 7 x) (hdg : decode cc pc = .ok (.putfield index, 3)) (kk : ∀ (H1 : Heap) (locs1 : List Loc), World E sh2 σ' H1 → va_S E.2.2.2 s.heap H1 locs1 → W p l e R s m args below meth c H1 locs1 cells slots Q (F0 m (pc + 3) ls (rest))) : W p l e R s m args below meth c H locs cells slots Q (F0 m pc ls (.int x :: .ref (E.2.2.1 + 0) :: rest)) :=
  z_put hC hw hS rfl (C := RX11) (T := TX11) (N := 12) rfl inw_FuseBox tyX11 tyX11_ok nmX11 7 (by decide) rfl rfl (x := x) (v := .int x) rfl rfl rfl hl hσ hdg kk
theorem gFuseBox_plugging (hC : Cx p s m args c cc nL own E) (hw : World E sh2 σ H) {index : Nat} (hl : Cond.fieldLink own index (TX11 8).1 (TX11 8).2.1 (TX11 8).2.2.1 ∈ WL) (hdg : decode cc pc = .ok (.getfield index, 3)) (kk : W p l e R s m args below meth c H locs cells slots Q (F0 m (pc + 3) ls (.ref (E.2.2.1 + 6) :: rest))) : W p l e R s m args below meth c H locs cells slots Q (F0 m pc ls (.ref (E.2.2.1 + 0) :: rest)) :=
  z_get hC hw rfl (C := RX11) (T := TX11) (N := 12) rfl inw_FuseBox 8 (by decide) rfl (v := .ref (E.2.2.1 + 6)) rfl hl hdg kk
theorem gFuseBox_trace (hC : Cx p s m args c cc nL own E) (hw : World E sh2 σ H) {index : Nat} (hl : Cond.fieldLink own index (TX11 9).1 (TX11 9).2.1 (TX11 9).2.2.1 ∈ WL) (hdg : decode cc pc = .ok (.getfield index, 3)) (kk : W p l e R s m args below meth c H locs cells slots Q (F0 m (pc + 3) ls (.ref (E.2.2.1 + 11) :: rest))) : W p l e R s m args below meth c H locs cells slots Q (F0 m pc ls (.ref (E.2.2.1 + 0) :: rest)) :=
  z_get hC hw rfl (C := RX11) (T := TX11) (N := 12) rfl inw_FuseBox 9 (by decide) rfl (v := .ref (E.2.2.1 + 11)) rfl hl hdg kk
theorem gFuseBox_latestFault (hC : Cx p s m args c cc nL own E) (hw : World E sh2 σ H) {index : Nat} (hl : Cond.fieldLink own index (TX11 10).1 (TX11 10).2.1 (TX11 10).2.2.1 ∈ WL) (hdg : decode cc pc = .ok (.getfield index, 3)) (kk : W p l e R s m args below meth c H locs cells slots Q (F0 m (pc + 3) ls (.int (σ 0 10) :: rest))) : W p l e R s m args below meth c H locs cells slots Q (F0 m pc ls (.ref (E.2.2.1 + 0) :: rest)) :=
  z_get hC hw rfl (C := RX11) (T := TX11) (N := 12) rfl inw_FuseBox 10 (by decide) rfl (v := .int (σ 0 10)) rfl hl hdg kk
theorem pFuseBox_latestFault (hC : Cx p s m args c cc nL own E) (hw : World E sh2 σ H) (hS : va_S E.2.2.2 s.heap H locs) {x : Int32} {index : Nat} (hl : Cond.fieldLink own index (TX11 10).1 (TX11 10).2.1 (TX11 10).2.2.1 ∈ WL) {σ' : St} (hσ : σ' = wr σ 0 10 x) (hdg : decode cc pc = .ok (.putfield index, 3)) (kk : ∀ (H1 : Heap) (locs1 : List Loc), World E sh2 σ' H1 → va_S E.2.2.2 s.heap H1 locs1 → W p l e R s m args below meth c H1 locs1 cells slots Q (F0 m (pc + 3) ls (rest))) : W p l e R s m args below meth c H locs cells slots Q (F0 m pc ls (.int x :: .ref (E.2.2.1 + 0) :: rest)) :=
  z_put hC hw hS rfl (C := RX11) (T := TX11) (N := 12) rfl inw_FuseBox tyX11 tyX11_ok nmX11 10 (by decide) rfl rfl (x := x) (v := .int x) rfl rfl rfl hl hσ hdg kk
theorem gFuseBox_latestFinding (hC : Cx p s m args c cc nL own E) (hw : World E sh2 σ H) {index : Nat} (hl : Cond.fieldLink own index (TX11 11).1 (TX11 11).2.1 (TX11 11).2.2.1 ∈ WL) (hdg : decode cc pc = .ok (.getfield index, 3)) (kk : W p l e R s m args below meth c H locs cells slots Q (F0 m (pc + 3) ls (.int (σ 0 11) :: rest))) : W p l e R s m args below meth c H locs cells slots Q (F0 m pc ls (.ref (E.2.2.1 + 0) :: rest)) :=
  z_get hC hw rfl (C := RX11) (T := TX11) (N := 12) rfl inw_FuseBox 11 (by decide) rfl (v := .int (σ 0 11)) rfl hl hdg kk
theorem pFuseBox_latestFinding (hC : Cx p s m args c cc nL own E) (hw : World E sh2 σ H) (hS : va_S E.2.2.2 s.heap H locs) {x : Int32} {index : Nat} (hl : Cond.fieldLink own index (TX11 11).1 (TX11 11).2.1 (TX11 11).2.2.1 ∈ WL) {σ' : St} (hσ : σ' = wr σ 0 11 x) (hdg : decode cc pc = .ok (.putfield index, 3)) (kk : ∀ (H1 : Heap) (locs1 : List Loc), World E sh2 σ' H1 → va_S E.2.2.2 s.heap H1 locs1 → W p l e R s m args below meth c H1 locs1 cells slots Q (F0 m (pc + 3) ls (rest))) : W p l e R s m args below meth c H locs cells slots Q (F0 m pc ls (.int x :: .ref (E.2.2.1 + 0) :: rest)) :=
  z_put hC hw hS rfl (C := RX11) (T := TX11) (N := 12) rfl inw_FuseBox tyX11 tyX11_ok nmX11 11 (by decide) rfl rfl (x := x) (v := .int x) rfl rfl rfl hl hσ hdg kk
theorem gModel_slot (hC : Cx p s m args c cc nL own E) (hw : World E sh2 σ H) {index : Nat} (hl : Cond.fieldLink own index (TX12 0).1 (TX12 0).2.1 (TX12 0).2.2.1 ∈ WL) (hdg : decode cc pc = .ok (.getfield index, 3)) (kk : W p l e R s m args below meth c H locs cells slots Q (F0 m (pc + 3) ls (.ref (E.2.2.1 + 260) :: rest))) : W p l e R s m args below meth c H locs cells slots Q (F0 m pc ls (.ref (E.2.2.1 + 259) :: rest)) :=
  z_get hC hw rfl (C := RX12) (T := TX12) (N := 23) rfl inw_Model 0 (by decide) rfl (v := .ref (E.2.2.1 + 260)) rfl hl hdg kk
theorem gModel_told (hC : Cx p s m args c cc nL own E) (hw : World E sh2 σ H) {index : Nat} (hl : Cond.fieldLink own index (TX12 1).1 (TX12 1).2.1 (TX12 1).2.2.1 ∈ WL) (hdg : decode cc pc = .ok (.getfield index, 3)) (kk : W p l e R s m args below meth c H locs cells slots Q (F0 m (pc + 3) ls (.ref (E.2.2.1 + 261) :: rest))) : W p l e R s m args below meth c H locs cells slots Q (F0 m pc ls (.ref (E.2.2.1 + 259) :: rest)) :=
  z_get hC hw rfl (C := RX12) (T := TX12) (N := 23) rfl inw_Model 1 (by decide) rfl (v := .ref (E.2.2.1 + 261)) rfl hl hdg kk
theorem gModel_kept (hC : Cx p s m args c cc nL own E) (hw : World E sh2 σ H) {index : Nat} (hl : Cond.fieldLink own index (TX12 2).1 (TX12 2).2.1 (TX12 2).2.2.1 ∈ WL) (hdg : decode cc pc = .ok (.getfield index, 3)) (kk : W p l e R s m args below meth c H locs cells slots Q (F0 m (pc + 3) ls (.ref (E.2.2.1 + 262) :: rest))) : W p l e R s m args below meth c H locs cells slots Q (F0 m pc ls (.ref (E.2.2.1 + 259) :: rest)) :=
  z_get hC hw rfl (C := RX12) (T := TX12) (N := 23) rfl inw_Model 2 (by decide) rfl (v := .ref (E.2.2.1 + 262)) rfl hl hdg kk
theorem gModel_acts (hC : Cx p s m args c cc nL own E) (hw : World E sh2 σ H) {index : Nat} (hl : Cond.fieldLink own index (TX12 3).1 (TX12 3).2.1 (TX12 3).2.2.1 ∈ WL) (hdg : decode cc pc = .ok (.getfield index, 3)) (kk : W p l e R s m args below meth c H locs cells slots Q (F0 m (pc + 3) ls (.int (σ 259 3) :: rest))) : W p l e R s m args below meth c H locs cells slots Q (F0 m pc ls (.ref (E.2.2.1 + 259) :: rest)) :=
  z_get hC hw rfl (C := RX12) (T := TX12) (N := 23) rfl inw_Model 3 (by decide) rfl (v := .int (σ 259 3)) rfl hl hdg kk
theorem pModel_acts (hC : Cx p s m args c cc nL own E) (hw : World E sh2 σ H) (hS : va_S E.2.2.2 s.heap H locs) {x : Int32} {index : Nat} (hl : Cond.fieldLink own index (TX12 3).1 (TX12 3).2.1 (TX12 3).2.2.1 ∈ WL) {σ' : St} (hσ : σ' = wr σ 259 3 x) (hdg : decode cc pc = .ok (.putfield index, 3)) (kk : ∀ (H1 : Heap) (locs1 : List Loc), World E sh2 σ' H1 → va_S E.2.2.2 s.heap H1 locs1 → W p l e R s m args below meth c H1 locs1 cells slots Q (F0 m (pc + 3) ls (rest))) : W p l e R s m args below meth c H locs cells slots Q (F0 m pc ls (.int x :: .ref (E.2.2.1 + 259) :: rest)) :=
  z_put hC hw hS rfl (C := RX12) (T := TX12) (N := 23) rfl inw_Model tyX12 tyX12_ok nmX12 3 (by decide) rfl rfl (x := x) (v := .int x) rfl rfl rfl hl hσ hdg kk
theorem gModel_lane (hC : Cx p s m args c cc nL own E) (hw : World E sh2 σ H) {index : Nat} (hl : Cond.fieldLink own index (TX12 4).1 (TX12 4).2.1 (TX12 4).2.2.1 ∈ WL) (hdg : decode cc pc = .ok (.getfield index, 3)) (kk : W p l e R s m args below meth c H locs cells slots Q (F0 m (pc + 3) ls (.ref (E.2.2.1 + 263) :: rest))) : W p l e R s m args below meth c H locs cells slots Q (F0 m pc ls (.ref (E.2.2.1 + 259) :: rest)) :=
  z_get hC hw rfl (C := RX12) (T := TX12) (N := 23) rfl inw_Model 4 (by decide) rfl (v := .ref (E.2.2.1 + 263)) rfl hl hdg kk
theorem gModel_size (hC : Cx p s m args c cc nL own E) (hw : World E sh2 σ H) {index : Nat} (hl : Cond.fieldLink own index (TX12 5).1 (TX12 5).2.1 (TX12 5).2.2.1 ∈ WL) (hdg : decode cc pc = .ok (.getfield index, 3)) (kk : W p l e R s m args below meth c H locs cells slots Q (F0 m (pc + 3) ls (.ref (E.2.2.1 + 264) :: rest))) : W p l e R s m args below meth c H locs cells slots Q (F0 m pc ls (.ref (E.2.2.1 + 259) :: rest)) :=
  z_get hC hw rfl (C := RX12) (T := TX12) (N := 23) rfl inw_Model 5 (by decide) rfl (v := .ref (E.2.2.1 + 264)) rfl hl hdg kk
theorem gModel_items (hC : Cx p s m args c cc nL own E) (hw : World E sh2 σ H) {index : Nat} (hl : Cond.fieldLink own index (TX12 6).1 (TX12 6).2.1 (TX12 6).2.2.1 ∈ WL) (hdg : decode cc pc = .ok (.getfield index, 3)) (kk : W p l e R s m args below meth c H locs cells slots Q (F0 m (pc + 3) ls (.ref (E.2.2.1 + 265) :: rest))) : W p l e R s m args below meth c H locs cells slots Q (F0 m pc ls (.ref (E.2.2.1 + 259) :: rest)) :=
  z_get hC hw rfl (C := RX12) (T := TX12) (N := 23) rfl inw_Model 6 (by decide) rfl (v := .ref (E.2.2.1 + 265)) rfl hl hdg kk
theorem gModel_moved (hC : Cx p s m args c cc nL own E) (hw : World E sh2 σ H) {index : Nat} (hl : Cond.fieldLink own index (TX12 7).1 (TX12 7).2.1 (TX12 7).2.2.1 ∈ WL) (hdg : decode cc pc = .ok (.getfield index, 3)) (kk : W p l e R s m args below meth c H locs cells slots Q (F0 m (pc + 3) ls (.ref (E.2.2.1 + 266) :: rest))) : W p l e R s m args below meth c H locs cells slots Q (F0 m pc ls (.ref (E.2.2.1 + 259) :: rest)) :=
  z_get hC hw rfl (C := RX12) (T := TX12) (N := 23) rfl inw_Model 7 (by decide) rfl (v := .ref (E.2.2.1 + 266)) rfl hl hdg kk
theorem gModel_found (hC : Cx p s m args c cc nL own E) (hw : World E sh2 σ H) {index : Nat} (hl : Cond.fieldLink own index (TX12 8).1 (TX12 8).2.1 (TX12 8).2.2.1 ∈ WL) (hdg : decode cc pc = .ok (.getfield index, 3)) (kk : W p l e R s m args below meth c H locs cells slots Q (F0 m (pc + 3) ls (.int (σ 259 8) :: rest))) : W p l e R s m args below meth c H locs cells slots Q (F0 m pc ls (.ref (E.2.2.1 + 259) :: rest)) :=
  z_get hC hw rfl (C := RX12) (T := TX12) (N := 23) rfl inw_Model 8 (by decide) rfl (v := .int (σ 259 8)) rfl hl hdg kk
theorem pModel_found (hC : Cx p s m args c cc nL own E) (hw : World E sh2 σ H) (hS : va_S E.2.2.2 s.heap H locs) {x : Int32} {index : Nat} (hl : Cond.fieldLink own index (TX12 8).1 (TX12 8).2.1 (TX12 8).2.2.1 ∈ WL) {σ' : St} (hσ : σ' = wr σ 259 8 x) (hdg : decode cc pc = .ok (.putfield index, 3)) (kk : ∀ (H1 : Heap) (locs1 : List Loc), World E sh2 σ' H1 → va_S E.2.2.2 s.heap H1 locs1 → W p l e R s m args below meth c H1 locs1 cells slots Q (F0 m (pc + 3) ls (rest))) : W p l e R s m args below meth c H locs cells slots Q (F0 m pc ls (.int x :: .ref (E.2.2.1 + 259) :: rest)) :=
  z_put hC hw hS rfl (C := RX12) (T := TX12) (N := 23) rfl inw_Model tyX12 tyX12_ok nmX12 8 (by decide) rfl rfl (x := x) (v := .int x) rfl rfl rfl hl hσ hdg kk
theorem gModel_length (hC : Cx p s m args c cc nL own E) (hw : World E sh2 σ H) {index : Nat} (hl : Cond.fieldLink own index (TX12 9).1 (TX12 9).2.1 (TX12 9).2.2.1 ∈ WL) (hdg : decode cc pc = .ok (.getfield index, 3)) (kk : W p l e R s m args below meth c H locs cells slots Q (F0 m (pc + 3) ls (.int (σ 259 9) :: rest))) : W p l e R s m args below meth c H locs cells slots Q (F0 m pc ls (.ref (E.2.2.1 + 259) :: rest)) :=
  z_get hC hw rfl (C := RX12) (T := TX12) (N := 23) rfl inw_Model 9 (by decide) rfl (v := .int (σ 259 9)) rfl hl hdg kk
theorem pModel_length (hC : Cx p s m args c cc nL own E) (hw : World E sh2 σ H) (hS : va_S E.2.2.2 s.heap H locs) {x : Int32} {index : Nat} (hl : Cond.fieldLink own index (TX12 9).1 (TX12 9).2.1 (TX12 9).2.2.1 ∈ WL) {σ' : St} (hσ : σ' = wr σ 259 9 x) (hdg : decode cc pc = .ok (.putfield index, 3)) (kk : ∀ (H1 : Heap) (locs1 : List Loc), World E sh2 σ' H1 → va_S E.2.2.2 s.heap H1 locs1 → W p l e R s m args below meth c H1 locs1 cells slots Q (F0 m (pc + 3) ls (rest))) : W p l e R s m args below meth c H locs cells slots Q (F0 m pc ls (.int x :: .ref (E.2.2.1 + 259) :: rest)) :=
  z_put hC hw hS rfl (C := RX12) (T := TX12) (N := 23) rfl inw_Model tyX12 tyX12_ok nmX12 9 (by decide) rfl rfl (x := x) (v := .int x) rfl rfl rfl hl hσ hdg kk
theorem gModel_tape (hC : Cx p s m args c cc nL own E) (hw : World E sh2 σ H) {index : Nat} (hl : Cond.fieldLink own index (TX12 10).1 (TX12 10).2.1 (TX12 10).2.2.1 ∈ WL) (hdg : decode cc pc = .ok (.getfield index, 3)) (kk : W p l e R s m args below meth c H locs cells slots Q (F0 m (pc + 3) ls (.ref (E.2.2.1 + 267) :: rest))) : W p l e R s m args below meth c H locs cells slots Q (F0 m pc ls (.ref (E.2.2.1 + 259) :: rest)) :=
  z_get hC hw rfl (C := RX12) (T := TX12) (N := 23) rfl inw_Model 10 (by decide) rfl (v := .ref (E.2.2.1 + 267)) rfl hl hdg kk
theorem gModel_next (hC : Cx p s m args c cc nL own E) (hw : World E sh2 σ H) {index : Nat} (hl : Cond.fieldLink own index (TX12 11).1 (TX12 11).2.1 (TX12 11).2.2.1 ∈ WL) (hdg : decode cc pc = .ok (.getfield index, 3)) (kk : W p l e R s m args below meth c H locs cells slots Q (F0 m (pc + 3) ls (.int (σ 259 11) :: rest))) : W p l e R s m args below meth c H locs cells slots Q (F0 m pc ls (.ref (E.2.2.1 + 259) :: rest)) :=
  z_get hC hw rfl (C := RX12) (T := TX12) (N := 23) rfl inw_Model 11 (by decide) rfl (v := .int (σ 259 11)) rfl hl hdg kk
theorem pModel_next (hC : Cx p s m args c cc nL own E) (hw : World E sh2 σ H) (hS : va_S E.2.2.2 s.heap H locs) {x : Int32} {index : Nat} (hl : Cond.fieldLink own index (TX12 11).1 (TX12 11).2.1 (TX12 11).2.2.1 ∈ WL) {σ' : St} (hσ : σ' = wr σ 259 11 x) (hdg : decode cc pc = .ok (.putfield index, 3)) (kk : ∀ (H1 : Heap) (locs1 : List Loc), World E sh2 σ' H1 → va_S E.2.2.2 s.heap H1 locs1 → W p l e R s m args below meth c H1 locs1 cells slots Q (F0 m (pc + 3) ls (rest))) : W p l e R s m args below meth c H locs cells slots Q (F0 m pc ls (.int x :: .ref (E.2.2.1 + 259) :: rest)) :=
  z_put hC hw hS rfl (C := RX12) (T := TX12) (N := 23) rfl inw_Model tyX12 tyX12_ok nmX12 11 (by decide) rfl rfl (x := x) (v := .int x) rfl rfl rfl hl hσ hdg kk
theorem gModel_place (hC : Cx p s m args c cc nL own E) (hw : World E sh2 σ H) {index : Nat} (hl : Cond.fieldLink own index (TX12 12).1 (TX12 12).2.1 (TX12 12).2.2.1 ∈ WL) (hdg : decode cc pc = .ok (.getfield index, 3)) (kk : W p l e R s m args below meth c H locs cells slots Q (F0 m (pc + 3) ls (.int (σ 259 12) :: rest))) : W p l e R s m args below meth c H locs cells slots Q (F0 m pc ls (.ref (E.2.2.1 + 259) :: rest)) :=
  z_get hC hw rfl (C := RX12) (T := TX12) (N := 23) rfl inw_Model 12 (by decide) rfl (v := .int (σ 259 12)) rfl hl hdg kk
theorem pModel_place (hC : Cx p s m args c cc nL own E) (hw : World E sh2 σ H) (hS : va_S E.2.2.2 s.heap H locs) {x : Int32} {index : Nat} (hl : Cond.fieldLink own index (TX12 12).1 (TX12 12).2.1 (TX12 12).2.2.1 ∈ WL) {σ' : St} (hσ : σ' = wr σ 259 12 x) (hdg : decode cc pc = .ok (.putfield index, 3)) (kk : ∀ (H1 : Heap) (locs1 : List Loc), World E sh2 σ' H1 → va_S E.2.2.2 s.heap H1 locs1 → W p l e R s m args below meth c H1 locs1 cells slots Q (F0 m (pc + 3) ls (rest))) : W p l e R s m args below meth c H locs cells slots Q (F0 m pc ls (.int x :: .ref (E.2.2.1 + 259) :: rest)) :=
  z_put hC hw hS rfl (C := RX12) (T := TX12) (N := 23) rfl inw_Model tyX12 tyX12_ok nmX12 12 (by decide) rfl rfl (x := x) (v := .int x) rfl rfl rfl hl hσ hdg kk
theorem gModel_number (hC : Cx p s m args c cc nL own E) (hw : World E sh2 σ H) {index : Nat} (hl : Cond.fieldLink own index (TX12 13).1 (TX12 13).2.1 (TX12 13).2.2.1 ∈ WL) (hdg : decode cc pc = .ok (.getfield index, 3)) (kk : W p l e R s m args below meth c H locs cells slots Q (F0 m (pc + 3) ls (.int (σ 259 13) :: rest))) : W p l e R s m args below meth c H locs cells slots Q (F0 m pc ls (.ref (E.2.2.1 + 259) :: rest)) :=
  z_get hC hw rfl (C := RX12) (T := TX12) (N := 23) rfl inw_Model 13 (by decide) rfl (v := .int (σ 259 13)) rfl hl hdg kk
theorem pModel_number (hC : Cx p s m args c cc nL own E) (hw : World E sh2 σ H) (hS : va_S E.2.2.2 s.heap H locs) {x : Int32} {index : Nat} (hl : Cond.fieldLink own index (TX12 13).1 (TX12 13).2.1 (TX12 13).2.2.1 ∈ WL) {σ' : St} (hσ : σ' = wr σ 259 13 x) (hdg : decode cc pc = .ok (.putfield index, 3)) (kk : ∀ (H1 : Heap) (locs1 : List Loc), World E sh2 σ' H1 → va_S E.2.2.2 s.heap H1 locs1 → W p l e R s m args below meth c H1 locs1 cells slots Q (F0 m (pc + 3) ls (rest))) : W p l e R s m args below meth c H locs cells slots Q (F0 m pc ls (.int x :: .ref (E.2.2.1 + 259) :: rest)) :=
  z_put hC hw hS rfl (C := RX12) (T := TX12) (N := 23) rfl inw_Model tyX12 tyX12_ok nmX12 13 (by decide) rfl rfl (x := x) (v := .int x) rfl rfl rfl hl hσ hdg kk
theorem gModel_wrong (hC : Cx p s m args c cc nL own E) (hw : World E sh2 σ H) {index : Nat} (hl : Cond.fieldLink own index (TX12 14).1 (TX12 14).2.1 (TX12 14).2.2.1 ∈ WL) (hdg : decode cc pc = .ok (.getfield index, 3)) (kk : W p l e R s m args below meth c H locs cells slots Q (F0 m (pc + 3) ls (.int (σ 259 14) :: rest))) : W p l e R s m args below meth c H locs cells slots Q (F0 m pc ls (.ref (E.2.2.1 + 259) :: rest)) :=
  z_get hC hw rfl (C := RX12) (T := TX12) (N := 23) rfl inw_Model 14 (by decide) rfl (v := .int (σ 259 14)) rfl hl hdg kk
theorem pModel_wrong (hC : Cx p s m args c cc nL own E) (hw : World E sh2 σ H) (hS : va_S E.2.2.2 s.heap H locs) {x : Int32} {index : Nat} (hl : Cond.fieldLink own index (TX12 14).1 (TX12 14).2.1 (TX12 14).2.2.1 ∈ WL) {σ' : St} (hσ : σ' = wr σ 259 14 x) (hdg : decode cc pc = .ok (.putfield index, 3)) (kk : ∀ (H1 : Heap) (locs1 : List Loc), World E sh2 σ' H1 → va_S E.2.2.2 s.heap H1 locs1 → W p l e R s m args below meth c H1 locs1 cells slots Q (F0 m (pc + 3) ls (rest))) : W p l e R s m args below meth c H locs cells slots Q (F0 m pc ls (.int x :: .ref (E.2.2.1 + 259) :: rest)) :=
  z_put hC hw hS rfl (C := RX12) (T := TX12) (N := 23) rfl inw_Model tyX12 tyX12_ok nmX12 14 (by decide) rfl rfl (x := x) (v := .int x) rfl rfl rfl hl hσ hdg kk
theorem gModel_latest (hC : Cx p s m args c cc nL own E) (hw : World E sh2 σ H) {index : Nat} (hl : Cond.fieldLink own index (TX12 15).1 (TX12 15).2.1 (TX12 15).2.2.1 ∈ WL) (hdg : decode cc pc = .ok (.getfield index, 3)) (kk : W p l e R s m args below meth c H locs cells slots Q (F0 m (pc + 3) ls (.int (σ 259 15) :: rest))) : W p l e R s m args below meth c H locs cells slots Q (F0 m pc ls (.ref (E.2.2.1 + 259) :: rest)) :=
  z_get hC hw rfl (C := RX12) (T := TX12) (N := 23) rfl inw_Model 15 (by decide) rfl (v := .int (σ 259 15)) rfl hl hdg kk
theorem pModel_latest (hC : Cx p s m args c cc nL own E) (hw : World E sh2 σ H) (hS : va_S E.2.2.2 s.heap H locs) {x : Int32} {index : Nat} (hl : Cond.fieldLink own index (TX12 15).1 (TX12 15).2.1 (TX12 15).2.2.1 ∈ WL) {σ' : St} (hσ : σ' = wr σ 259 15 x) (hdg : decode cc pc = .ok (.putfield index, 3)) (kk : ∀ (H1 : Heap) (locs1 : List Loc), World E sh2 σ' H1 → va_S E.2.2.2 s.heap H1 locs1 → W p l e R s m args below meth c H1 locs1 cells slots Q (F0 m (pc + 3) ls (rest))) : W p l e R s m args below meth c H locs cells slots Q (F0 m pc ls (.int x :: .ref (E.2.2.1 + 259) :: rest)) :=
  z_put hC hw hS rfl (C := RX12) (T := TX12) (N := 23) rfl inw_Model tyX12 tyX12_ok nmX12 15 (by decide) rfl rfl (x := x) (v := .int x) rfl rfl rfl hl hσ hdg kk
theorem gModel_read (hC : Cx p s m args c cc nL own E) (hw : World E sh2 σ H) {index : Nat} (hl : Cond.fieldLink own index (TX12 16).1 (TX12 16).2.1 (TX12 16).2.2.1 ∈ WL) (hdg : decode cc pc = .ok (.getfield index, 3)) (kk : W p l e R s m args below meth c H locs cells slots Q (F0 m (pc + 3) ls (.ref (E.2.2.1 + 268) :: rest))) : W p l e R s m args below meth c H locs cells slots Q (F0 m pc ls (.ref (E.2.2.1 + 259) :: rest)) :=
  z_get hC hw rfl (C := RX12) (T := TX12) (N := 23) rfl inw_Model 16 (by decide) rfl (v := .ref (E.2.2.1 + 268)) rfl hl hdg kk
theorem gModel_readRate (hC : Cx p s m args c cc nL own E) (hw : World E sh2 σ H) {index : Nat} (hl : Cond.fieldLink own index (TX12 17).1 (TX12 17).2.1 (TX12 17).2.2.1 ∈ WL) (hdg : decode cc pc = .ok (.getfield index, 3)) (kk : W p l e R s m args below meth c H locs cells slots Q (F0 m (pc + 3) ls (.ref (E.2.2.1 + 269) :: rest))) : W p l e R s m args below meth c H locs cells slots Q (F0 m pc ls (.ref (E.2.2.1 + 259) :: rest)) :=
  z_get hC hw rfl (C := RX12) (T := TX12) (N := 23) rfl inw_Model 17 (by decide) rfl (v := .ref (E.2.2.1 + 269)) rfl hl hdg kk
theorem gModel_readPlug (hC : Cx p s m args c cc nL own E) (hw : World E sh2 σ H) {index : Nat} (hl : Cond.fieldLink own index (TX12 18).1 (TX12 18).2.1 (TX12 18).2.2.1 ∈ WL) (hdg : decode cc pc = .ok (.getfield index, 3)) (kk : W p l e R s m args below meth c H locs cells slots Q (F0 m (pc + 3) ls (.ref (E.2.2.1 + 270) :: rest))) : W p l e R s m args below meth c H locs cells slots Q (F0 m pc ls (.ref (E.2.2.1 + 259) :: rest)) :=
  z_get hC hw rfl (C := RX12) (T := TX12) (N := 23) rfl inw_Model 18 (by decide) rfl (v := .ref (E.2.2.1 + 270)) rfl hl hdg kk
theorem gModel_readOn (hC : Cx p s m args c cc nL own E) (hw : World E sh2 σ H) {index : Nat} (hl : Cond.fieldLink own index (TX12 19).1 (TX12 19).2.1 (TX12 19).2.2.1 ∈ WL) (hdg : decode cc pc = .ok (.getfield index, 3)) (kk : W p l e R s m args below meth c H locs cells slots Q (F0 m (pc + 3) ls (.ref (E.2.2.1 + 271) :: rest))) : W p l e R s m args below meth c H locs cells slots Q (F0 m pc ls (.ref (E.2.2.1 + 259) :: rest)) :=
  z_get hC hw rfl (C := RX12) (T := TX12) (N := 23) rfl inw_Model 19 (by decide) rfl (v := .ref (E.2.2.1 + 271)) rfl hl hdg kk
theorem gModel_traces (hC : Cx p s m args c cc nL own E) (hw : World E sh2 σ H) {index : Nat} (hl : Cond.fieldLink own index (TX12 20).1 (TX12 20).2.1 (TX12 20).2.2.1 ∈ WL) (hdg : decode cc pc = .ok (.getfield index, 3)) (kk : W p l e R s m args below meth c H locs cells slots Q (F0 m (pc + 3) ls (.int (σ 259 20) :: rest))) : W p l e R s m args below meth c H locs cells slots Q (F0 m pc ls (.ref (E.2.2.1 + 259) :: rest)) :=
  z_get hC hw rfl (C := RX12) (T := TX12) (N := 23) rfl inw_Model 20 (by decide) rfl (v := .int (σ 259 20)) rfl hl hdg kk
theorem pModel_traces (hC : Cx p s m args c cc nL own E) (hw : World E sh2 σ H) (hS : va_S E.2.2.2 s.heap H locs) {x : Int32} {index : Nat} (hl : Cond.fieldLink own index (TX12 20).1 (TX12 20).2.1 (TX12 20).2.2.1 ∈ WL) {σ' : St} (hσ : σ' = wr σ 259 20 x) (hdg : decode cc pc = .ok (.putfield index, 3)) (kk : ∀ (H1 : Heap) (locs1 : List Loc), World E sh2 σ' H1 → va_S E.2.2.2 s.heap H1 locs1 → W p l e R s m args below meth c H1 locs1 cells slots Q (F0 m (pc + 3) ls (rest))) : W p l e R s m args below meth c H locs cells slots Q (F0 m pc ls (.int x :: .ref (E.2.2.1 + 259) :: rest)) :=
  z_put hC hw hS rfl (C := RX12) (T := TX12) (N := 23) rfl inw_Model tyX12 tyX12_ok nmX12 20 (by decide) rfl rfl (x := x) (v := .int x) rfl rfl rfl hl hσ hdg kk
theorem gModel_traced (hC : Cx p s m args c cc nL own E) (hw : World E sh2 σ H) {index : Nat} (hl : Cond.fieldLink own index (TX12 21).1 (TX12 21).2.1 (TX12 21).2.2.1 ∈ WL) (hdg : decode cc pc = .ok (.getfield index, 3)) (kk : W p l e R s m args below meth c H locs cells slots Q (F0 m (pc + 3) ls (.ref (E.2.2.1 + 272) :: rest))) : W p l e R s m args below meth c H locs cells slots Q (F0 m pc ls (.ref (E.2.2.1 + 259) :: rest)) :=
  z_get hC hw rfl (C := RX12) (T := TX12) (N := 23) rfl inw_Model 21 (by decide) rfl (v := .ref (E.2.2.1 + 272)) rfl hl hdg kk
theorem gModel_flows (hC : Cx p s m args c cc nL own E) (hw : World E sh2 σ H) {index : Nat} (hl : Cond.fieldLink own index (TX12 22).1 (TX12 22).2.1 (TX12 22).2.2.1 ∈ WL) (hdg : decode cc pc = .ok (.getfield index, 3)) (kk : W p l e R s m args below meth c H locs cells slots Q (F0 m (pc + 3) ls (.ref (E.2.2.1 + 273) :: rest))) : W p l e R s m args below meth c H locs cells slots Q (F0 m pc ls (.ref (E.2.2.1 + 259) :: rest)) :=
  z_get hC hw rfl (C := RX12) (T := TX12) (N := 23) rfl inw_Model 22 (by decide) rfl (v := .ref (E.2.2.1 + 273)) rfl hl hdg kk
end ZFields
end
section
/-! tuples taken apart, arrays of references, instanceof -/
def un1 {A1 γ : Type} (f : A1 → γ) (x : A1) : γ := f x
theorem ok_un1 {A1 γ : Type} {f : A1 → Option γ} {z : γ} {a1 : A1} (h : un1 f a1 = some z) : f a1 = some z := h
def un2 {A1 A2 γ : Type} (f : A1 → A2 → γ) (x : A1 × A2) : γ := f x.1 x.2
theorem ok_un2 {A1 A2 γ : Type} {f : A1 → A2 → Option γ} {z : γ} {a1 : A1} {a2 : A2} (h : un2 f (a1, a2) = some z) : f a1 a2 = some z := h
def un3 {A1 A2 A3 γ : Type} (f : A1 → A2 → A3 → γ) (x : A1 × A2 × A3) : γ := f x.1 x.2.1 x.2.2
theorem ok_un3 {A1 A2 A3 γ : Type} {f : A1 → A2 → A3 → Option γ} {z : γ} {a1 : A1} {a2 : A2} {a3 : A3} (h : un3 f (a1, a2, a3) = some z) : f a1 a2 a3 = some z := h
def un4 {A1 A2 A3 A4 γ : Type} (f : A1 → A2 → A3 → A4 → γ) (x : A1 × A2 × A3 × A4) : γ := f x.1 x.2.1 x.2.2.1 x.2.2.2
theorem ok_un4 {A1 A2 A3 A4 γ : Type} {f : A1 → A2 → A3 → A4 → Option γ} {z : γ} {a1 : A1} {a2 : A2} {a3 : A3} {a4 : A4} (h : un4 f (a1, a2, a3, a4) = some z) : f a1 a2 a3 a4 = some z := h
def un5 {A1 A2 A3 A4 A5 γ : Type} (f : A1 → A2 → A3 → A4 → A5 → γ) (x : A1 × A2 × A3 × A4 × A5) : γ := f x.1 x.2.1 x.2.2.1 x.2.2.2.1 x.2.2.2.2
theorem ok_un5 {A1 A2 A3 A4 A5 γ : Type} {f : A1 → A2 → A3 → A4 → A5 → Option γ} {z : γ} {a1 : A1} {a2 : A2} {a3 : A3} {a4 : A4} {a5 : A5} (h : un5 f (a1, a2, a3, a4, a5) = some z) : f a1 a2 a3 a4 a5 = some z := h
def un6 {A1 A2 A3 A4 A5 A6 γ : Type} (f : A1 → A2 → A3 → A4 → A5 → A6 → γ) (x : A1 × A2 × A3 × A4 × A5 × A6) : γ := f x.1 x.2.1 x.2.2.1 x.2.2.2.1 x.2.2.2.2.1 x.2.2.2.2.2
theorem ok_un6 {A1 A2 A3 A4 A5 A6 γ : Type} {f : A1 → A2 → A3 → A4 → A5 → A6 → Option γ} {z : γ} {a1 : A1} {a2 : A2} {a3 : A3} {a4 : A4} {a5 : A5} {a6 : A6} (h : un6 f (a1, a2, a3, a4, a5, a6) = some z) : f a1 a2 a3 a4 a5 a6 = some z := h
def un7 {A1 A2 A3 A4 A5 A6 A7 γ : Type} (f : A1 → A2 → A3 → A4 → A5 → A6 → A7 → γ) (x : A1 × A2 × A3 × A4 × A5 × A6 × A7) : γ := f x.1 x.2.1 x.2.2.1 x.2.2.2.1 x.2.2.2.2.1 x.2.2.2.2.2.1 x.2.2.2.2.2.2
theorem ok_un7 {A1 A2 A3 A4 A5 A6 A7 γ : Type} {f : A1 → A2 → A3 → A4 → A5 → A6 → A7 → Option γ} {z : γ} {a1 : A1} {a2 : A2} {a3 : A3} {a4 : A4} {a5 : A5} {a6 : A6} {a7 : A7} (h : un7 f (a1, a2, a3, a4, a5, a6, a7) = some z) : f a1 a2 a3 a4 a5 a6 a7 = some z := h
def un8 {A1 A2 A3 A4 A5 A6 A7 A8 γ : Type} (f : A1 → A2 → A3 → A4 → A5 → A6 → A7 → A8 → γ) (x : A1 × A2 × A3 × A4 × A5 × A6 × A7 × A8) : γ := f x.1 x.2.1 x.2.2.1 x.2.2.2.1 x.2.2.2.2.1 x.2.2.2.2.2.1 x.2.2.2.2.2.2.1 x.2.2.2.2.2.2.2
theorem ok_un8 {A1 A2 A3 A4 A5 A6 A7 A8 γ : Type} {f : A1 → A2 → A3 → A4 → A5 → A6 → A7 → A8 → Option γ} {z : γ} {a1 : A1} {a2 : A2} {a3 : A3} {a4 : A4} {a5 : A5} {a6 : A6} {a7 : A7} {a8 : A8} (h : un8 f (a1, a2, a3, a4, a5, a6, a7, a8) = some z) : f a1 a2 a3 a4 a5 a6 a7 a8 = some z := h
def un9 {A1 A2 A3 A4 A5 A6 A7 A8 A9 γ : Type} (f : A1 → A2 → A3 → A4 → A5 → A6 → A7 → A8 → A9 → γ) (x : A1 × A2 × A3 × A4 × A5 × A6 × A7 × A8 × A9) : γ := f x.1 x.2.1 x.2.2.1 x.2.2.2.1 x.2.2.2.2.1 x.2.2.2.2.2.1 x.2.2.2.2.2.2.1 x.2.2.2.2.2.2.2.1 x.2.2.2.2.2.2.2.2
theorem ok_un9 {A1 A2 A3 A4 A5 A6 A7 A8 A9 γ : Type} {f : A1 → A2 → A3 → A4 → A5 → A6 → A7 → A8 → A9 → Option γ} {z : γ} {a1 : A1} {a2 : A2} {a3 : A3} {a4 : A4} {a5 : A5} {a6 : A6} {a7 : A7} {a8 : A8} {a9 : A9} (h : un9 f (a1, a2, a3, a4, a5, a6, a7, a8, a9) = some z) : f a1 a2 a3 a4 a5 a6 a7 a8 a9 = some z := h
theorem ok_sell {α β γ : Type} {f : α → Option γ} {g : β → Option γ} {a : α} {z : γ} (h : sel f g (.inl a) = some z) : f a = some z := h
theorem ok_selr {α β γ : Type} {f : α → Option γ} {g : β → Option γ} {b : β} {z : γ} (h : sel f g (.inr b) = some z) : g b = some z := h
theorem rmd_f {d n k : Nat} (h : d ≤ k) : (d + n) + 1 ≤ (rmd (k + (n + 1))).frames := by show d + n + 1 ≤ k + (n + 1); omega
theorem rmd_l {d n k m : Nat} (h : m ≤ 20 ∧ d ≤ k) : 8 + (m + 11) + 40 * (d + n) ≤ (rmd (k + (n + 1))).locals := by show 8 + (m + 11) + 40 * (d + n) ≤ 40 * (k + (n + 1)); omega
def insA (k r : Nat) : Option Int32 := if r = 14 then some (if k = 14 then 1 else 0) else if r = 15 then some (if k = 14 ∨ k = 15 then 1 else 0) else if r = 16 then some (if k = 14 ∨ k = 16 then 1 else 0) else if r = 17 then some (if k = 17 then 1 else 0) else if r = 18 then some (if k = 17 ∨ k = 18 then 1 else 0) else none
section ZMore2
variable {p : Program} {l : Launch} {e : Env} {R : Room} {s : State} {m : MethodId} {args : Array Value} {below : List Frame} {meth : Method} {c : Code} {H : Heap} {locs : List Loc} {cells slots : Nat} {Q : State → Prop} {E : Ev} {σ : St} {pc : Nat} {ls : Array Slot} {rest : List Value} {cc : ByteArray} {nL : Nat} {own : String}
theorem z_nma {x y : Nat} (h : y = x) (k : W p l e R s m args below meth c H locs cells slots Q (F0 m pc ls (.ref (E.2.2.1 + y) :: rest))) : W p l e R s m args below meth c H locs cells slots Q (F0 m pc ls (.ref (E.2.2.1 + x) :: rest)) := h ▸ k
theorem z_arow (hC : Cx p s m args c cc nL own E) (hw : World E sh2 σ H) {i : Int32} (hin : inb i 8) (hdg : decode cc pc = .ok (.aaload, 1)) (kk : W p l e R s m args below meth c H locs cells slots Q (F0 m (pc + 1) ls (.ref (E.2.2.1 + rowA i) :: rest))) : W p l e R s m args below meth c H locs cells slots Q (F0 m pc ls (.int i :: .ref (E.2.2.1 + 1) :: rest)) :=
  z_aald hC hw (k := 2) (n := 8) (r0 := 35) (rs := rowL.drop 1) rfl (Cn := "FuseBox$Row") rfl hin (rowA_ok hin).1 hdg kk
theorem z_aimg (hC : Cx p s m args c cc nL own E) (hw : World E sh2 σ H) {i : Int32} (hin : inb i 2) (hdg : decode cc pc = .ok (.aaload, 1)) (kk : W p l e R s m args below meth c H locs cells slots Q (F0 m (pc + 1) ls (.ref (E.2.2.1 + imgA i) :: rest))) : W p l e R s m args below meth c H locs cells slots Q (F0 m pc ls (.int i :: .ref (E.2.2.1 + 4) :: rest)) :=
  z_aald hC hw (k := 3) (n := 2) (r0 := 51) (rs := [59]) rfl (Cn := "FuseBox$House") rfl hin (imgA_ok hin).1 hdg kk
theorem z_aact (hC : Cx p s m args c cc nL own E) (hw : World E sh2 σ H) {i : Int32} (hin : inb i 24) (hdg : decode cc pc = .ok (.aaload, 1)) (kk : W p l e R s m args below meth c H locs cells slots Q (F0 m (pc + 1) ls (.ref (E.2.2.1 + actA i) :: rest))) : W p l e R s m args below meth c H locs cells slots Q (F0 m pc ls (.int i :: .ref (E.2.2.1 + 5) :: rest)) :=
  z_aald hC hw (k := 3) (n := 24) (r0 := 67) (rs := houseL.drop 5) rfl (Cn := "FuseBox$House") rfl hin (actA_ok hin).1 hdg kk
theorem z_afuse (hC : Cx p s m args c cc nL own E) (hw : World E sh2 σ H) {i : Int32} (hin : inb i 5) (hdg : decode cc pc = .ok (.aaload, 1)) (kk : W p l e R s m args below meth c H locs cells slots Q (F0 m (pc + 1) ls (.ref (E.2.2.1 + fuseA i) :: rest))) : W p l e R s m args below meth c H locs cells slots Q (F0 m pc ls (.int i :: .ref (E.2.2.1 + 13) :: rest)) :=
  z_aald hC hw (k := 4) (n := 5) (r0 := 14) (rs := [15, 16, 17, 18]) rfl (Cn := "FuseBox$Fuse") rfl hin (fuseA_ok hin) hdg kk
theorem z_ins14 (hC : Cx p s m args c cc nL own E) (hw : World E sh2 σ H) {r : Nat} {v : Int32} (h : insA 14 r = some v) {index : Nat} (hl : Cond.classLink own index "FuseBox$Wire" ∈ WL) (hdg : decode cc pc = .ok (.instanceof index, 3)) (kk : W p l e R s m args below meth c H locs cells slots Q (F0 m (pc + 3) ls (.int v :: rest))) : W p l e R s m args below meth c H locs cells slots Q (F0 m pc ls (.ref (E.2.2.1 + r) :: rest)) := by
  obtain ⟨hx, hb, hml, hown, hts, hT, hX⟩ := id hC
  unfold insA at h
  by_cases h14 : r = 14
  · rw [if_pos h14] at h
    subst h14
    cases h
    exact va_instS hx hb hown (hts _ hl) (hT.1 9 _ rfl).2 (z_recv hC hw (a := 14) (ci := 9) (ks := []) rfl rfl) hdg kk
  rw [if_neg h14] at h
  by_cases h15 : r = 15
  · rw [if_pos h15] at h
    subst h15
    cases h
    exact va_instY (C := "FuseBox$Slow") hx hb hown (hts _ hl) hX.2.2.1 (z_recv hC hw (a := 15) (ci := 7) (ks := []) rfl rfl) hdg kk
  rw [if_neg h15] at h
  by_cases h16 : r = 16
  · rw [if_pos h16] at h
    subst h16
    cases h
    exact va_instY (C := "FuseBox$Quick") hx hb hown (hts _ hl) hX.2.2.2.1 (z_recv hC hw (a := 16) (ci := 4) (ks := []) rfl rfl) hdg kk
  rw [if_neg h16] at h
  by_cases h17 : r = 17
  · rw [if_pos h17] at h
    subst h17
    cases h
    exact va_instNo (C := "FuseBox$Breaker") hx hb hown (hts _ hl) hX.2.2.2.2.2.1 (z_recv hC hw (a := 17) (ci := 0) (ks := []) rfl rfl) hdg kk
  rw [if_neg h17] at h
  by_cases h18 : r = 18
  · rw [if_pos h18] at h
    subst h18
    cases h
    exact va_instNo (C := "FuseBox$Coil") hx hb hown (hts _ hl) hX.2.2.2.2.2.2.1 (z_recv hC hw (a := 18) (ci := 1) (ks := []) rfl rfl) hdg kk
  rw [if_neg h18] at h
  exact nz h
theorem z_ins15 (hC : Cx p s m args c cc nL own E) (hw : World E sh2 σ H) {r : Nat} {v : Int32} (h : insA 15 r = some v) {index : Nat} (hl : Cond.classLink own index "FuseBox$Slow" ∈ WL) (hdg : decode cc pc = .ok (.instanceof index, 3)) (kk : W p l e R s m args below meth c H locs cells slots Q (F0 m (pc + 3) ls (.int v :: rest))) : W p l e R s m args below meth c H locs cells slots Q (F0 m pc ls (.ref (E.2.2.1 + r) :: rest)) := by
  obtain ⟨hx, hb, hml, hown, hts, hT, hX⟩ := id hC
  unfold insA at h
  by_cases h14 : r = 14
  · rw [if_pos h14] at h
    subst h14
    cases h
    exact va_instNo (C := "FuseBox$Wire") hx hb hown (hts _ hl) hX.2.2.2.2.2.2.2.1 (z_recv hC hw (a := 14) (ci := 9) (ks := []) rfl rfl) hdg kk
  rw [if_neg h14] at h
  by_cases h15 : r = 15
  · rw [if_pos h15] at h
    subst h15
    cases h
    exact va_instS hx hb hown (hts _ hl) (hT.1 7 _ rfl).2 (z_recv hC hw (a := 15) (ci := 7) (ks := []) rfl rfl) hdg kk
  rw [if_neg h15] at h
  by_cases h16 : r = 16
  · rw [if_pos h16] at h
    subst h16
    cases h
    exact va_instNo (C := "FuseBox$Quick") hx hb hown (hts _ hl) hX.2.2.2.2.2.2.2.2.1 (z_recv hC hw (a := 16) (ci := 4) (ks := []) rfl rfl) hdg kk
  rw [if_neg h16] at h
  by_cases h17 : r = 17
  · rw [if_pos h17] at h
    subst h17
    cases h
    exact va_instNo (C := "FuseBox$Breaker") hx hb hown (hts _ hl) hX.2.2.2.2.2.2.2.2.2.1 (z_recv hC hw (a := 17) (ci := 0) (ks := []) rfl rfl) hdg kk
  rw [if_neg h17] at h
  by_cases h18 : r = 18
  · rw [if_pos h18] at h
    subst h18
    cases h
    exact va_instNo (C := "FuseBox$Coil") hx hb hown (hts _ hl) hX.2.2.2.2.2.2.2.2.2.2.1 (z_recv hC hw (a := 18) (ci := 1) (ks := []) rfl rfl) hdg kk
  rw [if_neg h18] at h
  exact nz h
theorem z_ins16 (hC : Cx p s m args c cc nL own E) (hw : World E sh2 σ H) {r : Nat} {v : Int32} (h : insA 16 r = some v) {index : Nat} (hl : Cond.classLink own index "FuseBox$Quick" ∈ WL) (hdg : decode cc pc = .ok (.instanceof index, 3)) (kk : W p l e R s m args below meth c H locs cells slots Q (F0 m (pc + 3) ls (.int v :: rest))) : W p l e R s m args below meth c H locs cells slots Q (F0 m pc ls (.ref (E.2.2.1 + r) :: rest)) := by
  obtain ⟨hx, hb, hml, hown, hts, hT, hX⟩ := id hC
  unfold insA at h
  by_cases h14 : r = 14
  · rw [if_pos h14] at h
    subst h14
    cases h
    exact va_instNo (C := "FuseBox$Wire") hx hb hown (hts _ hl) hX.2.2.2.2.2.2.2.2.2.2.2.1 (z_recv hC hw (a := 14) (ci := 9) (ks := []) rfl rfl) hdg kk
  rw [if_neg h14] at h
  by_cases h15 : r = 15
  · rw [if_pos h15] at h
    subst h15
    cases h
    exact va_instNo (C := "FuseBox$Slow") hx hb hown (hts _ hl) hX.2.2.2.2.2.2.2.2.2.2.2.2.1 (z_recv hC hw (a := 15) (ci := 7) (ks := []) rfl rfl) hdg kk
  rw [if_neg h15] at h
  by_cases h16 : r = 16
  · rw [if_pos h16] at h
    subst h16
    cases h
    exact va_instS hx hb hown (hts _ hl) (hT.1 4 _ rfl).2 (z_recv hC hw (a := 16) (ci := 4) (ks := []) rfl rfl) hdg kk
  rw [if_neg h16] at h
  by_cases h17 : r = 17
  · rw [if_pos h17] at h
    subst h17
    cases h
    exact va_instNo (C := "FuseBox$Breaker") hx hb hown (hts _ hl) hX.2.2.2.2.2.2.2.2.2.2.2.2.2.1 (z_recv hC hw (a := 17) (ci := 0) (ks := []) rfl rfl) hdg kk
  rw [if_neg h17] at h
  by_cases h18 : r = 18
  · rw [if_pos h18] at h
    subst h18
    cases h
    exact va_instNo (C := "FuseBox$Coil") hx hb hown (hts _ hl) hX.2.2.2.2.2.2.2.2.2.2.2.2.2.2.1 (z_recv hC hw (a := 18) (ci := 1) (ks := []) rfl rfl) hdg kk
  rw [if_neg h18] at h
  exact nz h
theorem z_ins17 (hC : Cx p s m args c cc nL own E) (hw : World E sh2 σ H) {r : Nat} {v : Int32} (h : insA 17 r = some v) {index : Nat} (hl : Cond.classLink own index "FuseBox$Breaker" ∈ WL) (hdg : decode cc pc = .ok (.instanceof index, 3)) (kk : W p l e R s m args below meth c H locs cells slots Q (F0 m (pc + 3) ls (.int v :: rest))) : W p l e R s m args below meth c H locs cells slots Q (F0 m pc ls (.ref (E.2.2.1 + r) :: rest)) := by
  obtain ⟨hx, hb, hml, hown, hts, hT, hX⟩ := id hC
  unfold insA at h
  by_cases h14 : r = 14
  · rw [if_pos h14] at h
    subst h14
    cases h
    exact va_instNo (C := "FuseBox$Wire") hx hb hown (hts _ hl) hX.2.2.2.2.2.2.2.2.2.2.2.2.2.2.2.1 (z_recv hC hw (a := 14) (ci := 9) (ks := []) rfl rfl) hdg kk
  rw [if_neg h14] at h
  by_cases h15 : r = 15
  · rw [if_pos h15] at h
    subst h15
    cases h
    exact va_instNo (C := "FuseBox$Slow") hx hb hown (hts _ hl) hX.2.2.2.2.2.2.2.2.2.2.2.2.2.2.2.2.1 (z_recv hC hw (a := 15) (ci := 7) (ks := []) rfl rfl) hdg kk
  rw [if_neg h15] at h
  by_cases h16 : r = 16
  · rw [if_pos h16] at h
    subst h16
    cases h
    exact va_instNo (C := "FuseBox$Quick") hx hb hown (hts _ hl) hX.2.2.2.2.2.2.2.2.2.2.2.2.2.2.2.2.2.1 (z_recv hC hw (a := 16) (ci := 4) (ks := []) rfl rfl) hdg kk
  rw [if_neg h16] at h
  by_cases h17 : r = 17
  · rw [if_pos h17] at h
    subst h17
    cases h
    exact va_instS hx hb hown (hts _ hl) (hT.1 0 _ rfl).2 (z_recv hC hw (a := 17) (ci := 0) (ks := []) rfl rfl) hdg kk
  rw [if_neg h17] at h
  by_cases h18 : r = 18
  · rw [if_pos h18] at h
    subst h18
    cases h
    exact va_instY (C := "FuseBox$Coil") hx hb hown (hts _ hl) hX.2.2.2.2.1 (z_recv hC hw (a := 18) (ci := 1) (ks := []) rfl rfl) hdg kk
  rw [if_neg h18] at h
  exact nz h
theorem z_ins18 (hC : Cx p s m args c cc nL own E) (hw : World E sh2 σ H) {r : Nat} {v : Int32} (h : insA 18 r = some v) {index : Nat} (hl : Cond.classLink own index "FuseBox$Coil" ∈ WL) (hdg : decode cc pc = .ok (.instanceof index, 3)) (kk : W p l e R s m args below meth c H locs cells slots Q (F0 m (pc + 3) ls (.int v :: rest))) : W p l e R s m args below meth c H locs cells slots Q (F0 m pc ls (.ref (E.2.2.1 + r) :: rest)) := by
  obtain ⟨hx, hb, hml, hown, hts, hT, hX⟩ := id hC
  unfold insA at h
  by_cases h14 : r = 14
  · rw [if_pos h14] at h
    subst h14
    cases h
    exact va_instNo (C := "FuseBox$Wire") hx hb hown (hts _ hl) hX.2.2.2.2.2.2.2.2.2.2.2.2.2.2.2.2.2.2.1 (z_recv hC hw (a := 14) (ci := 9) (ks := []) rfl rfl) hdg kk
  rw [if_neg h14] at h
  by_cases h15 : r = 15
  · rw [if_pos h15] at h
    subst h15
    cases h
    exact va_instNo (C := "FuseBox$Slow") hx hb hown (hts _ hl) hX.2.2.2.2.2.2.2.2.2.2.2.2.2.2.2.2.2.2.2.1 (z_recv hC hw (a := 15) (ci := 7) (ks := []) rfl rfl) hdg kk
  rw [if_neg h15] at h
  by_cases h16 : r = 16
  · rw [if_pos h16] at h
    subst h16
    cases h
    exact va_instNo (C := "FuseBox$Quick") hx hb hown (hts _ hl) hX.2.2.2.2.2.2.2.2.2.2.2.2.2.2.2.2.2.2.2.2.1 (z_recv hC hw (a := 16) (ci := 4) (ks := []) rfl rfl) hdg kk
  rw [if_neg h16] at h
  by_cases h17 : r = 17
  · rw [if_pos h17] at h
    subst h17
    cases h
    exact va_instNo (C := "FuseBox$Breaker") hx hb hown (hts _ hl) hX.2.2.2.2.2.2.2.2.2.2.2.2.2.2.2.2.2.2.2.2.2 (z_recv hC hw (a := 17) (ci := 0) (ks := []) rfl rfl) hdg kk
  rw [if_neg h17] at h
  by_cases h18 : r = 18
  · rw [if_pos h18] at h
    subst h18
    cases h
    exact va_instS hx hb hown (hts _ hl) (hT.1 1 _ rfl).2 (z_recv hC hw (a := 18) (ci := 1) (ks := []) rfl rfl) hdg kk
  rw [if_neg h18] at h
  exact nz h
end ZMore2
end
section
/-! the words that are used, by their places; facts of the calls -/
theorem wd0 : Cond.methodLink "FuseBox$Breaker" 9 yX0_deadIfOver ∈ WL := mem_WL (t3_in (List.mem_of_getElem? (i := 2) rfl)) rfl
theorem wd1 : Cond.instanceMethod yX0_deadIfOver ∈ WL := mem_WL (t3_in (List.mem_of_getElem? (i := 3) rfl)) rfl
theorem wd2 : Cond.selects "FuseBox$Breaker" yX0_deadIfOver yX0_deadIfOver ∈ WL := mem_WL (t3_in (List.mem_of_getElem? (i := 4) rfl)) rfl
theorem wd3 : Cond.initialized "FuseBox$Breaker" ∈ WL := mem_WL (t1_in (List.mem_of_getElem? (i := 9) rfl)) rfl
theorem wd4 : Cond.code yX0_deadIfOver cX0_deadIfOver 1 (some .int) ∈ WL := mem_WL (t3_in (List.mem_of_getElem? (i := 9) rfl)) rfl
theorem wd5 : Cond.sameMethod "FuseBox$Breaker" "FuseBox$Breaker" "deadIfOver" "()I" ∈ WL := mem_WL (t3_in (List.mem_of_getElem? (i := 5) rfl)) rfl
theorem wd6 : Cond.selects "FuseBox$Coil" yX0_deadIfOver yX1_deadIfOver ∈ WL := mem_WL (t3_in (List.mem_of_getElem? (i := 6) rfl)) rfl
theorem wd7 : Cond.instanceMethod yX1_deadIfOver ∈ WL := mem_WL (t3_in (List.mem_of_getElem? (i := 7) rfl)) rfl
theorem wd8 : Cond.initialized "FuseBox$Coil" ∈ WL := mem_WL (t1_in (List.mem_of_getElem? (i := 10) rfl)) rfl
theorem wd9 : Cond.code yX1_deadIfOver cX1_deadIfOver 1 (some .int) ∈ WL := mem_WL (t3_in (List.mem_of_getElem? (i := 8) rfl)) rfl
theorem wd10 : Cond.fieldLink "FuseBox$Trace" 15 "FuseBox$Trace" "size" "I" ∈ WL := mem_WL (t1_in (List.mem_of_getElem? (i := 98) rfl)) rfl
theorem wd11 : Cond.fieldLink "FuseBox$Trace" 9 "FuseBox$Trace" "bodies" "[I" ∈ WL := mem_WL (t1_in (List.mem_of_getElem? (i := 96) rfl)) rfl
theorem wd12 : Cond.methodLink "FuseBox$Fuse" 7 yX9_leave ∈ WL := mem_WL (t4_in (List.mem_of_getElem? (i := 86) rfl)) rfl
theorem wd13 : Cond.instanceMethod yX9_leave ∈ WL := mem_WL (t4_in (List.mem_of_getElem? (i := 54) rfl)) rfl
theorem wd14 : Cond.selects "FuseBox$Trace" yX9_leave yX9_leave ∈ WL := mem_WL (t4_in (List.mem_of_getElem? (i := 55) rfl)) rfl
theorem wd15 : Cond.initialized "FuseBox$Trace" ∈ WL := mem_WL (t1_in (List.mem_of_getElem? (i := 4) rfl)) rfl
theorem wd16 : Cond.code yX9_leave cX9_leave 2 none ∈ WL := mem_WL (t4_in (List.mem_of_getElem? (i := 56) rfl)) rfl
theorem wd17 : Cond.fieldLink "FuseBox$Fuse" 13 "FuseBox$House" "rate" "[I" ∈ WL := mem_WL (t1_in (List.mem_of_getElem? (i := 172) rfl)) rfl
theorem wd18 : Cond.methodLink "FuseBox$Breaker" 15 yX9_leave ∈ WL := mem_WL (t4_in (List.mem_of_getElem? (i := 53) rfl)) rfl
theorem wd19 : Cond.methodLink "FuseBox$Breaker" 21 yX2_sizeOf ∈ WL := mem_WL (t4_in (List.mem_of_getElem? (i := 57) rfl)) rfl
theorem wd20 : Cond.sameMethod "FuseBox$Fuse" "FuseBox$Fuse" "sizeOf" "(LFuseBox$House;ILFuseBox$Trace;)I" ∈ WL := mem_WL (t4_in (List.mem_of_getElem? (i := 49) rfl)) rfl
theorem wd21 : Cond.superclass "FuseBox$Breaker" "FuseBox$Fuse" ∈ WL := mem_WL (t1_in (List.mem_of_getElem? (i := 137) rfl)) rfl
theorem wd22 : Cond.instanceMethod yX2_sizeOf ∈ WL := mem_WL (t4_in (List.mem_of_getElem? (i := 48) rfl)) rfl
theorem wd23 : Cond.initialized "FuseBox$Fuse" ∈ WL := mem_WL (t1_in (List.mem_of_getElem? (i := 5) rfl)) rfl
theorem wd24 : Cond.code yX2_sizeOf cX2_sizeOf 4 (some .int) ∈ WL := mem_WL (t4_in (List.mem_of_getElem? (i := 92) rfl)) rfl
theorem wd25 : Cond.methodLink "FuseBox$Breaker" 25 yX2_markOf ∈ WL := mem_WL (t4_in (List.mem_of_getElem? (i := 96) rfl)) rfl
theorem wd26 : Cond.sameMethod "FuseBox$Fuse" "FuseBox$Fuse" "markOf" "(LFuseBox$House;ILFuseBox$Trace;)I" ∈ WL := mem_WL (t6_in (List.mem_of_getElem? (i := 57) rfl)) rfl
theorem wd27 : Cond.instanceMethod yX2_markOf ∈ WL := mem_WL (t4_in (List.mem_of_getElem? (i := 84) rfl)) rfl
theorem wd28 : Cond.code yX2_markOf cX2_markOf 4 (some .int) ∈ WL := mem_WL (t4_in (List.mem_of_getElem? (i := 85) rfl)) rfl
theorem wd29 : Cond.methodLink "FuseBox$Breaker" 28 yX0_sizeOf ∈ WL := mem_WL (t4_in (List.mem_of_getElem? (i := 97) rfl)) rfl
theorem wd30 : Cond.instanceMethod yX0_sizeOf ∈ WL := mem_WL (t4_in (List.mem_of_getElem? (i := 51) rfl)) rfl
theorem wd31 : Cond.selects "FuseBox$Breaker" yX0_sizeOf yX0_sizeOf ∈ WL := mem_WL (t6_in (List.mem_of_getElem? (i := 60) rfl)) rfl
theorem wd32 : Cond.code yX0_sizeOf cX0_sizeOf 4 (some .int) ∈ WL := mem_WL (t4_in (List.mem_of_getElem? (i := 52) rfl)) rfl
theorem wd33 : Cond.methodLink "FuseBox$Coil" 9 yX9_leave ∈ WL := mem_WL (t4_in (List.mem_of_getElem? (i := 61) rfl)) rfl
theorem wd34 : Cond.methodLink "FuseBox$Coil" 15 yX0_sizeOf ∈ WL := mem_WL (t4_in (List.mem_of_getElem? (i := 62) rfl)) rfl
theorem wd35 : Cond.sameMethod "FuseBox$Breaker" "FuseBox$Breaker" "sizeOf" "(LFuseBox$House;ILFuseBox$Trace;)I" ∈ WL := mem_WL (t6_in (List.mem_of_getElem? (i := 56) rfl)) rfl
theorem wd36 : Cond.superclass "FuseBox$Coil" "FuseBox$Breaker" ∈ WL := mem_WL (t1_in (List.mem_of_getElem? (i := 144) rfl)) rfl
theorem wd37 : Cond.selects "FuseBox$Coil" yX0_sizeOf yX1_sizeOf ∈ WL := mem_WL (t6_in (List.mem_of_getElem? (i := 61) rfl)) rfl
theorem wd38 : Cond.instanceMethod yX1_sizeOf ∈ WL := mem_WL (t4_in (List.mem_of_getElem? (i := 59) rfl)) rfl
theorem wd39 : Cond.code yX1_sizeOf cX1_sizeOf 4 (some .int) ∈ WL := mem_WL (t4_in (List.mem_of_getElem? (i := 60) rfl)) rfl
theorem wd40 : Cond.fieldLink "FuseBox$House" 37 "FuseBox$House" "lines" "I" ∈ WL := mem_WL (t1_in (List.mem_of_getElem? (i := 151) rfl)) rfl
theorem wd41 : Cond.fieldLink "FuseBox$House" 41 "FuseBox$House" "things" "I" ∈ WL := mem_WL (t1_in (List.mem_of_getElem? (i := 155) rfl)) rfl
theorem wd42 : Cond.fieldLink "FuseBox$House" 44 "FuseBox$House" "main" "I" ∈ WL := mem_WL (t1_in (List.mem_of_getElem? (i := 159) rfl)) rfl
theorem wd43 : Cond.fieldLink "FuseBox$House" 47 "FuseBox$House" "minute" "I" ∈ WL := mem_WL (t1_in (List.mem_of_getElem? (i := 163) rfl)) rfl
theorem wd44 : Cond.fieldLink "FuseBox$House" 50 "FuseBox$House" "used" "I" ∈ WL := mem_WL (t1_in (List.mem_of_getElem? (i := 165) rfl)) rfl
theorem wd45 : Cond.fieldLink "FuseBox$House" 53 "FuseBox$House" "mainIn" "Z" ∈ WL := mem_WL (t1_in (List.mem_of_getElem? (i := 167) rfl)) rfl
theorem wd46 : Cond.fieldLink "FuseBox$House" 57 "FuseBox$House" "on" "I" ∈ WL := mem_WL (t1_in (List.mem_of_getElem? (i := 186) rfl)) rfl
theorem wd47 : Cond.fieldLink "FuseBox$House" 9 "FuseBox$House" "kind" "[I" ∈ WL := mem_WL (t1_in (List.mem_of_getElem? (i := 169) rfl)) rfl
theorem wd48 : Cond.fieldLink "FuseBox$House" 15 "FuseBox$House" "rate" "[I" ∈ WL := mem_WL (t1_in (List.mem_of_getElem? (i := 171) rfl)) rfl
theorem wd49 : Cond.fieldLink "FuseBox$House" 18 "FuseBox$House" "heat" "[I" ∈ WL := mem_WL (t1_in (List.mem_of_getElem? (i := 174) rfl)) rfl
theorem wd50 : Cond.fieldLink "FuseBox$House" 21 "FuseBox$House" "dead" "[I" ∈ WL := mem_WL (t1_in (List.mem_of_getElem? (i := 177) rfl)) rfl
theorem wd51 : Cond.fieldLink "FuseBox$House" 27 "FuseBox$House" "plugged" "[I" ∈ WL := mem_WL (t1_in (List.mem_of_getElem? (i := 180) rfl)) rfl
theorem wd52 : Cond.fieldLink "FuseBox$House" 30 "FuseBox$House" "load" "[I" ∈ WL := mem_WL (t1_in (List.mem_of_getElem? (i := 183) rfl)) rfl
theorem wd53 : Cond.methodLink "FuseBox$House" 60 arraycopyName ∈ WL := mem_WL (t2_in (List.mem_of_getElem? (i := 159) rfl)) rfl
theorem wd54 : Cond.static arraycopyName ∈ WL := mem_WL (t2_in (List.mem_of_getElem? (i := 76) rfl)) rfl
theorem wd55 : Cond.native arraycopyName ∈ WL := mem_WL (t2_in (List.mem_of_getElem? (i := 77) rfl)) rfl
theorem wd56 : Cond.initialized "java/lang/System" ∈ WL := mem_WL (t1_in (List.mem_of_getElem? (i := 14) rfl)) rfl
theorem wd57 : Cond.fieldLink "FuseBox$House" 33 "FuseBox$House" "fuses" "[LFuseBox$Fuse;" ∈ WL := mem_WL (t1_in (List.mem_of_getElem? (i := 150) rfl)) rfl
theorem wd58 : Cond.methodLink "FuseBox$House" 66 yX3_isOn ∈ WL := mem_WL (t2_in (List.mem_of_getElem? (i := 193) rfl)) rfl
theorem wd59 : Cond.instanceMethod yX3_isOn ∈ WL := mem_WL (t2_in (List.mem_of_getElem? (i := 194) rfl)) rfl
theorem wd60 : Cond.selects "FuseBox$House" yX3_isOn yX3_isOn ∈ WL := mem_WL (t2_in (List.mem_of_getElem? (i := 195) rfl)) rfl
theorem wd61 : Cond.initialized "FuseBox$House" ∈ WL := mem_WL (t1_in (List.mem_of_getElem? (i := 11) rfl)) rfl
theorem wd62 : Cond.code yX3_isOn cX3_isOn 2 (some .boolean) ∈ WL := mem_WL (t2_in (List.mem_of_getElem? (i := 196) rfl)) rfl
theorem wd63 : Cond.methodLink "FuseBox$House" 70 yX3_isLive ∈ WL := mem_WL (t2_in (List.mem_of_getElem? (i := 197) rfl)) rfl
theorem wd64 : Cond.instanceMethod yX3_isLive ∈ WL := mem_WL (t2_in (List.mem_of_getElem? (i := 198) rfl)) rfl
theorem wd65 : Cond.selects "FuseBox$House" yX3_isLive yX3_isLive ∈ WL := mem_WL (t2_in (List.mem_of_getElem? (i := 199) rfl)) rfl
theorem wd66 : Cond.code yX3_isLive cX3_isLive 2 (some .boolean) ∈ WL := mem_WL (t2_in (List.mem_of_getElem? (i := 200) rfl)) rfl
theorem wd67 : Cond.methodLink "FuseBox$House" 73 yX3_isDead ∈ WL := mem_WL (t3_in (List.mem_of_getElem? (i := 20) rfl)) rfl
theorem wd68 : Cond.instanceMethod yX3_isDead ∈ WL := mem_WL (t3_in (List.mem_of_getElem? (i := 21) rfl)) rfl
theorem wd69 : Cond.selects "FuseBox$House" yX3_isDead yX3_isDead ∈ WL := mem_WL (t3_in (List.mem_of_getElem? (i := 22) rfl)) rfl
theorem wd70 : Cond.code yX3_isDead cX3_isDead 2 (some .boolean) ∈ WL := mem_WL (t3_in (List.mem_of_getElem? (i := 23) rfl)) rfl
theorem wd71 : Cond.methodLink "FuseBox$House" 76 yX3_runs ∈ WL := mem_WL (t2_in (List.mem_of_getElem? (i := 189) rfl)) rfl
theorem wd72 : Cond.instanceMethod yX3_runs ∈ WL := mem_WL (t2_in (List.mem_of_getElem? (i := 190) rfl)) rfl
theorem wd73 : Cond.selects "FuseBox$House" yX3_runs yX3_runs ∈ WL := mem_WL (t2_in (List.mem_of_getElem? (i := 191) rfl)) rfl
theorem wd74 : Cond.code yX3_runs cX3_runs 2 (some .boolean) ∈ WL := mem_WL (t2_in (List.mem_of_getElem? (i := 192) rfl)) rfl
theorem wd75 : Cond.fieldLink "FuseBox$House" 24 "FuseBox$House" "flow" "[I" ∈ WL := mem_WL (t1_in (List.mem_of_getElem? (i := 179) rfl)) rfl
theorem wd76 : Cond.methodLink "FuseBox$House" 79 yX3_reckonFlows ∈ WL := mem_WL (t2_in (List.mem_of_getElem? (i := 185) rfl)) rfl
theorem wd77 : Cond.instanceMethod yX3_reckonFlows ∈ WL := mem_WL (t2_in (List.mem_of_getElem? (i := 186) rfl)) rfl
theorem wd78 : Cond.selects "FuseBox$House" yX3_reckonFlows yX3_reckonFlows ∈ WL := mem_WL (t2_in (List.mem_of_getElem? (i := 187) rfl)) rfl
theorem wd79 : Cond.code yX3_reckonFlows cX3_reckonFlows 3 (some .int) ∈ WL := mem_WL (t2_in (List.mem_of_getElem? (i := 188) rfl)) rfl
theorem wd80 : Cond.code Lib.Math.max.name Lib.Math.max.code 2 (some .int) ∈ WL := mem_WL (t2_in (List.mem_of_getElem? (i := 233) rfl)) rfl
theorem wd81 : Cond.methodLink "FuseBox$Wire" 21 Lib.Math.max.name ∈ WL := mem_WL (t2_in (List.mem_of_getElem? (i := 231) rfl)) rfl
theorem wd82 : Cond.static Lib.Math.max.name ∈ WL := mem_WL (t2_in (List.mem_of_getElem? (i := 232) rfl)) rfl
theorem wd83 : Cond.initialized "java/lang/Math" ∈ WL := mem_WL (t1_in (List.mem_of_getElem? (i := 15) rfl)) rfl
theorem wd84 : Cond.methodLink "FuseBox$Wire" 9 yX10_heatBy ∈ WL := mem_WL (t2_in (List.mem_of_getElem? (i := 219) rfl)) rfl
theorem wd85 : Cond.instanceMethod yX10_heatBy ∈ WL := mem_WL (t2_in (List.mem_of_getElem? (i := 220) rfl)) rfl
theorem wd86 : Cond.selects "FuseBox$Wire" yX10_heatBy yX10_heatBy ∈ WL := mem_WL (t2_in (List.mem_of_getElem? (i := 221) rfl)) rfl
theorem wd87 : Cond.initialized "FuseBox$Wire" ∈ WL := mem_WL (t1_in (List.mem_of_getElem? (i := 6) rfl)) rfl
theorem wd88 : Cond.code yX10_heatBy cX10_heatBy 2 (some .int) ∈ WL := mem_WL (t2_in (List.mem_of_getElem? (i := 227) rfl)) rfl
theorem wd89 : Cond.code Lib.Math.min.name Lib.Math.min.code 2 (some .int) ∈ WL := mem_WL (t2_in (List.mem_of_getElem? (i := 230) rfl)) rfl
theorem wd90 : Cond.methodLink "FuseBox$Wire" 15 Lib.Math.min.name ∈ WL := mem_WL (t2_in (List.mem_of_getElem? (i := 228) rfl)) rfl
theorem wd91 : Cond.static Lib.Math.min.name ∈ WL := mem_WL (t2_in (List.mem_of_getElem? (i := 229) rfl)) rfl
theorem wd92 : Cond.sameMethod "FuseBox$Wire" "FuseBox$Wire" "heatBy" "(I)I" ∈ WL := mem_WL (t2_in (List.mem_of_getElem? (i := 222) rfl)) rfl
theorem wd93 : Cond.selects "FuseBox$Slow" yX10_heatBy yX8_heatBy ∈ WL := mem_WL (t2_in (List.mem_of_getElem? (i := 224) rfl)) rfl
theorem wd94 : Cond.instanceMethod yX8_heatBy ∈ WL := mem_WL (t2_in (List.mem_of_getElem? (i := 225) rfl)) rfl
theorem wd95 : Cond.initialized "FuseBox$Slow" ∈ WL := mem_WL (t1_in (List.mem_of_getElem? (i := 7) rfl)) rfl
theorem wd96 : Cond.code yX8_heatBy cX8_heatBy 2 (some .int) ∈ WL := mem_WL (t2_in (List.mem_of_getElem? (i := 226) rfl)) rfl
theorem wd97 : Cond.selects "FuseBox$Quick" yX10_heatBy yX10_heatBy ∈ WL := mem_WL (t2_in (List.mem_of_getElem? (i := 223) rfl)) rfl
theorem wd98 : Cond.methodLink "FuseBox$Quick" 9 yX10_deadBehind ∈ WL := mem_WL (t3_in (List.mem_of_getElem? (i := 14) rfl)) rfl
theorem wd99 : Cond.sameMethod "FuseBox$Wire" "FuseBox$Wire" "deadBehind" "(III)I" ∈ WL := mem_WL (t6_in (List.mem_of_getElem? (i := 55) rfl)) rfl
theorem wd100 : Cond.superclass "FuseBox$Quick" "FuseBox$Wire" ∈ WL := mem_WL (t1_in (List.mem_of_getElem? (i := 130) rfl)) rfl
theorem wd101 : Cond.instanceMethod yX10_deadBehind ∈ WL := mem_WL (t3_in (List.mem_of_getElem? (i := 15) rfl)) rfl
theorem wd102 : Cond.code yX10_deadBehind cX10_deadBehind 4 (some .int) ∈ WL := mem_WL (t3_in (List.mem_of_getElem? (i := 16) rfl)) rfl
theorem wd103 : Cond.methodLink "FuseBox$House" 107 Lib.Math.max.name ∈ WL := mem_WL (t3_in (List.mem_of_getElem? (i := 19) rfl)) rfl
theorem wd104 : Cond.methodLink "FuseBox$House" 94 yX3_fuseOf ∈ WL := mem_WL (t2_in (List.mem_of_getElem? (i := 205) rfl)) rfl
theorem wd105 : Cond.instanceMethod yX3_fuseOf ∈ WL := mem_WL (t2_in (List.mem_of_getElem? (i := 206) rfl)) rfl
theorem wd106 : Cond.selects "FuseBox$House" yX3_fuseOf yX3_fuseOf ∈ WL := mem_WL (t2_in (List.mem_of_getElem? (i := 207) rfl)) rfl
theorem wd107 : Cond.code yX3_fuseOf cX3_fuseOf 2 (some (.object "FuseBox$Fuse")) ∈ WL := mem_WL (t2_in (List.mem_of_getElem? (i := 208) rfl)) rfl
theorem wd108 : Cond.methodLink "FuseBox$House" 98 (⟨"FuseBox$Fuse", "heatBehind", "(II)I"⟩ : MethodName) ∈ WL := mem_WL (t2_in (List.mem_of_getElem? (i := 209) rfl)) rfl
theorem wd109 : Cond.sameMethod "FuseBox$Fuse" "FuseBox$Fuse" "heatBehind" "(II)I" ∈ WL := mem_WL (t2_in (List.mem_of_getElem? (i := 211) rfl)) rfl
theorem wd110 : Cond.selects "FuseBox$Wire" (⟨"FuseBox$Fuse", "heatBehind", "(II)I"⟩ : MethodName) yX10_heatBehind ∈ WL := mem_WL (t2_in (List.mem_of_getElem? (i := 235) rfl)) rfl
theorem wd111 : Cond.instanceMethod yX10_heatBehind ∈ WL := mem_WL (t2_in (List.mem_of_getElem? (i := 217) rfl)) rfl
theorem wd112 : Cond.code yX10_heatBehind cX10_heatBehind 3 (some .int) ∈ WL := mem_WL (t2_in (List.mem_of_getElem? (i := 218) rfl)) rfl
theorem wd113 : Cond.selects "FuseBox$Slow" (⟨"FuseBox$Fuse", "heatBehind", "(II)I"⟩ : MethodName) yX10_heatBehind ∈ WL := mem_WL (t2_in (List.mem_of_getElem? (i := 234) rfl)) rfl
theorem wd114 : Cond.selects "FuseBox$Quick" (⟨"FuseBox$Fuse", "heatBehind", "(II)I"⟩ : MethodName) yX10_heatBehind ∈ WL := mem_WL (t2_in (List.mem_of_getElem? (i := 216) rfl)) rfl
theorem wd115 : Cond.selects "FuseBox$Breaker" (⟨"FuseBox$Fuse", "heatBehind", "(II)I"⟩ : MethodName) yX0_heatBehind ∈ WL := mem_WL (t2_in (List.mem_of_getElem? (i := 212) rfl)) rfl
theorem wd116 : Cond.instanceMethod yX0_heatBehind ∈ WL := mem_WL (t2_in (List.mem_of_getElem? (i := 213) rfl)) rfl
theorem wd117 : Cond.code yX0_heatBehind cX0_heatBehind 3 (some .int) ∈ WL := mem_WL (t2_in (List.mem_of_getElem? (i := 214) rfl)) rfl
theorem wd118 : Cond.selects "FuseBox$Coil" (⟨"FuseBox$Fuse", "heatBehind", "(II)I"⟩ : MethodName) yX0_heatBehind ∈ WL := mem_WL (t2_in (List.mem_of_getElem? (i := 215) rfl)) rfl
theorem wd119 : Cond.methodLink "FuseBox$House" 103 (⟨"FuseBox$Fuse", "deadBehind", "(III)I"⟩ : MethodName) ∈ WL := mem_WL (t2_in (List.mem_of_getElem? (i := 236) rfl)) rfl
theorem wd120 : Cond.sameMethod "FuseBox$Fuse" "FuseBox$Fuse" "deadBehind" "(III)I" ∈ WL := mem_WL (t2_in (List.mem_of_getElem? (i := 238) rfl)) rfl
theorem wd121 : Cond.selects "FuseBox$Wire" (⟨"FuseBox$Fuse", "deadBehind", "(III)I"⟩ : MethodName) yX10_deadBehind ∈ WL := mem_WL (t3_in (List.mem_of_getElem? (i := 18) rfl)) rfl
theorem wd122 : Cond.selects "FuseBox$Slow" (⟨"FuseBox$Fuse", "deadBehind", "(III)I"⟩ : MethodName) yX10_deadBehind ∈ WL := mem_WL (t3_in (List.mem_of_getElem? (i := 17) rfl)) rfl
theorem wd123 : Cond.selects "FuseBox$Quick" (⟨"FuseBox$Fuse", "deadBehind", "(III)I"⟩ : MethodName) yX5_deadBehind ∈ WL := mem_WL (t3_in (List.mem_of_getElem? (i := 11) rfl)) rfl
theorem wd124 : Cond.instanceMethod yX5_deadBehind ∈ WL := mem_WL (t3_in (List.mem_of_getElem? (i := 12) rfl)) rfl
theorem wd125 : Cond.initialized "FuseBox$Quick" ∈ WL := mem_WL (t1_in (List.mem_of_getElem? (i := 8) rfl)) rfl
theorem wd126 : Cond.code yX5_deadBehind cX5_deadBehind 4 (some .int) ∈ WL := mem_WL (t3_in (List.mem_of_getElem? (i := 13) rfl)) rfl
theorem wd127 : Cond.selects "FuseBox$Breaker" (⟨"FuseBox$Fuse", "deadBehind", "(III)I"⟩ : MethodName) yX0_deadBehind ∈ WL := mem_WL (t2_in (List.mem_of_getElem? (i := 239) rfl)) rfl
theorem wd128 : Cond.instanceMethod yX0_deadBehind ∈ WL := mem_WL (t3_in (List.mem_of_getElem? (i := 0) rfl)) rfl
theorem wd129 : Cond.code yX0_deadBehind cX0_deadBehind 4 (some .int) ∈ WL := mem_WL (t3_in (List.mem_of_getElem? (i := 1) rfl)) rfl
theorem wd130 : Cond.selects "FuseBox$Coil" (⟨"FuseBox$Fuse", "deadBehind", "(III)I"⟩ : MethodName) yX0_deadBehind ∈ WL := mem_WL (t3_in (List.mem_of_getElem? (i := 10) rfl)) rfl
theorem wd131 : Cond.constant "FuseBox$House" 87 (99999) ∈ WL := mem_WL (t3_in (List.mem_of_getElem? (i := 24) rfl)) rfl
theorem wd132 : Cond.methodLink "FuseBox$House" 88 Lib.Math.min.name ∈ WL := mem_WL (t3_in (List.mem_of_getElem? (i := 25) rfl)) rfl
theorem wd133 : Cond.methodLink "FuseBox$House" 83 yX3_passLine ∈ WL := mem_WL (t2_in (List.mem_of_getElem? (i := 201) rfl)) rfl
theorem wd134 : Cond.instanceMethod yX3_passLine ∈ WL := mem_WL (t2_in (List.mem_of_getElem? (i := 203) rfl)) rfl
theorem wd135 : Cond.selects "FuseBox$House" yX3_passLine yX3_passLine ∈ WL := mem_WL (t0_in (List.mem_of_getElem? (i := 14) rfl)) rfl
theorem wd136 : Cond.code yX3_passLine cX3_passLine 4 none ∈ WL := mem_WL (t2_in (List.mem_of_getElem? (i := 204) rfl)) rfl
theorem wd137 : Cond.methodLink "FuseBox$House" 110 yX3_passMinute ∈ WL := mem_WL (t3_in (List.mem_of_getElem? (i := 184) rfl)) rfl
theorem wd138 : Cond.instanceMethod yX3_passMinute ∈ WL := mem_WL (t2_in (List.mem_of_getElem? (i := 182) rfl)) rfl
theorem wd139 : Cond.selects "FuseBox$House" yX3_passMinute yX3_passMinute ∈ WL := mem_WL (t2_in (List.mem_of_getElem? (i := 183) rfl)) rfl
theorem wd140 : Cond.code yX3_passMinute cX3_passMinute 3 none ∈ WL := mem_WL (t2_in (List.mem_of_getElem? (i := 184) rfl)) rfl
theorem wd141 : Cond.methodLink "FuseBox$House" 124 yX3_mendLine ∈ WL := mem_WL (t4_in (List.mem_of_getElem? (i := 15) rfl)) rfl
theorem wd142 : Cond.instanceMethod yX3_mendLine ∈ WL := mem_WL (t3_in (List.mem_of_getElem? (i := 61) rfl)) rfl
theorem wd143 : Cond.selects "FuseBox$House" yX3_mendLine yX3_mendLine ∈ WL := mem_WL (t3_in (List.mem_of_getElem? (i := 62) rfl)) rfl
theorem wd144 : Cond.code yX3_mendLine cX3_mendLine 2 none ∈ WL := mem_WL (t3_in (List.mem_of_getElem? (i := 63) rfl)) rfl
theorem wd145 : Cond.constantLong "FuseBox$House" 113 (3) ∈ WL := mem_WL (t4_in (List.mem_of_getElem? (i := 8) rfl)) rfl
theorem wd146 : Cond.constantLong "FuseBox$House" 119 (5) ∈ WL := mem_WL (t4_in (List.mem_of_getElem? (i := 10) rfl)) rfl
theorem wd147 : Cond.methodLink "FuseBox$House" 121 yX3_mendAll ∈ WL := mem_WL (t4_in (List.mem_of_getElem? (i := 11) rfl)) rfl
theorem wd148 : Cond.instanceMethod yX3_mendAll ∈ WL := mem_WL (t4_in (List.mem_of_getElem? (i := 13) rfl)) rfl
theorem wd149 : Cond.selects "FuseBox$House" yX3_mendAll yX3_mendAll ∈ WL := mem_WL (t0_in (List.mem_of_getElem? (i := 31) rfl)) rfl
theorem wd150 : Cond.code yX3_mendAll cX3_mendAll 2 none ∈ WL := mem_WL (t4_in (List.mem_of_getElem? (i := 14) rfl)) rfl
theorem wd151 : Cond.methodLink "FuseBox$House" 115 yX3_toggle ∈ WL := mem_WL (t4_in (List.mem_of_getElem? (i := 9) rfl)) rfl
theorem wd152 : Cond.instanceMethod yX3_toggle ∈ WL := mem_WL (t3_in (List.mem_of_getElem? (i := 40) rfl)) rfl
theorem wd153 : Cond.selects "FuseBox$House" yX3_toggle yX3_toggle ∈ WL := mem_WL (t3_in (List.mem_of_getElem? (i := 41) rfl)) rfl
theorem wd154 : Cond.code yX3_toggle cX3_toggle 2 none ∈ WL := mem_WL (t3_in (List.mem_of_getElem? (i := 42) rfl)) rfl
theorem wd155 : Cond.fieldLink "FuseBox$Plugging" 24 "FuseBox$Plugging" "house" "LFuseBox$House;" ∈ WL := mem_WL (t1_in (List.mem_of_getElem? (i := 73) rfl)) rfl
theorem wd156 : Cond.methodLink "FuseBox$Plugging" 47 yX3_loadThatIsOn ∈ WL := mem_WL (t3_in (List.mem_of_getElem? (i := 145) rfl)) rfl
theorem wd157 : Cond.instanceMethod yX3_loadThatIsOn ∈ WL := mem_WL (t3_in (List.mem_of_getElem? (i := 146) rfl)) rfl
theorem wd158 : Cond.selects "FuseBox$House" yX3_loadThatIsOn yX3_loadThatIsOn ∈ WL := mem_WL (t3_in (List.mem_of_getElem? (i := 147) rfl)) rfl
theorem wd159 : Cond.code yX3_loadThatIsOn cX3_loadThatIsOn 3 (some .int) ∈ WL := mem_WL (t3_in (List.mem_of_getElem? (i := 148) rfl)) rfl
theorem wd160 : Cond.fieldLink "FuseBox$Plugging" 11 "FuseBox$Plugging" "live" "[I" ∈ WL := mem_WL (t1_in (List.mem_of_getElem? (i := 66) rfl)) rfl
theorem wd161 : Cond.fieldLink "FuseBox$Plugging" 28 "FuseBox$Plugging" "minutes" "I" ∈ WL := mem_WL (t1_in (List.mem_of_getElem? (i := 74) rfl)) rfl
theorem wd162 : Cond.methodLink "FuseBox$Plugging" 51 yX3_liveMinutes ∈ WL := mem_WL (t3_in (List.mem_of_getElem? (i := 149) rfl)) rfl
theorem wd163 : Cond.instanceMethod yX3_liveMinutes ∈ WL := mem_WL (t3_in (List.mem_of_getElem? (i := 150) rfl)) rfl
theorem wd164 : Cond.selects "FuseBox$House" yX3_liveMinutes yX3_liveMinutes ∈ WL := mem_WL (t3_in (List.mem_of_getElem? (i := 151) rfl)) rfl
theorem wd165 : Cond.code yX3_liveMinutes cX3_liveMinutes 9 (some .int) ∈ WL := mem_WL (t3_in (List.mem_of_getElem? (i := 152) rfl)) rfl
theorem wd166 : Cond.fieldLink "FuseBox$Plugging" 15 "FuseBox$Plugging" "loads" "[I" ∈ WL := mem_WL (t1_in (List.mem_of_getElem? (i := 67) rfl)) rfl
theorem wd167 : Cond.constant "java/lang/Integer" 265 (1431655765) ∈ WL := mem_WL (t3_in (List.mem_of_getElem? (i := 126) rfl)) rfl
theorem wd168 : Cond.constant "java/lang/Integer" 266 (858993459) ∈ WL := mem_WL (t3_in (List.mem_of_getElem? (i := 127) rfl)) rfl
theorem wd169 : Cond.constant "java/lang/Integer" 267 (252645135) ∈ WL := mem_WL (t3_in (List.mem_of_getElem? (i := 128) rfl)) rfl
theorem wd170 : Cond.fieldLink "FuseBox$Plugging" 88 "FuseBox$House" "main" "I" ∈ WL := mem_WL (t1_in (List.mem_of_getElem? (i := 161) rfl)) rfl
theorem wd171 : Cond.fieldLink "FuseBox$Plugging" 35 "FuseBox$House" "lines" "I" ∈ WL := mem_WL (t1_in (List.mem_of_getElem? (i := 152) rfl)) rfl
theorem wd172 : Cond.methodLink "FuseBox$Plugging" 80 yX4_liveMinutes ∈ WL := mem_WL (t3_in (List.mem_of_getElem? (i := 165) rfl)) rfl
theorem wd173 : Cond.instanceMethod yX4_liveMinutes ∈ WL := mem_WL (t3_in (List.mem_of_getElem? (i := 167) rfl)) rfl
theorem wd174 : Cond.selects "FuseBox$Plugging" yX4_liveMinutes yX4_liveMinutes ∈ WL := mem_WL (t0_in (List.mem_of_getElem? (i := 23) rfl)) rfl
theorem wd175 : Cond.initialized "FuseBox$Plugging" ∈ WL := mem_WL (t1_in (List.mem_of_getElem? (i := 3) rfl)) rfl
theorem wd176 : Cond.code yX4_liveMinutes cX4_liveMinutes 2 (some .int) ∈ WL := mem_WL (t3_in (List.mem_of_getElem? (i := 168) rfl)) rfl
theorem wd177 : Cond.methodLink "FuseBox$Plugging" 91 yX4_usedUntilMainIsOut ∈ WL := mem_WL (t3_in (List.mem_of_getElem? (i := 170) rfl)) rfl
theorem wd178 : Cond.instanceMethod yX4_usedUntilMainIsOut ∈ WL := mem_WL (t3_in (List.mem_of_getElem? (i := 172) rfl)) rfl
theorem wd179 : Cond.selects "FuseBox$Plugging" yX4_usedUntilMainIsOut yX4_usedUntilMainIsOut ∈ WL := mem_WL (t0_in (List.mem_of_getElem? (i := 24) rfl)) rfl
theorem wd180 : Cond.code yX4_usedUntilMainIsOut cX4_usedUntilMainIsOut 5 (some .int) ∈ WL := mem_WL (t3_in (List.mem_of_getElem? (i := 173) rfl)) rfl
theorem wd181 : Cond.methodLink "FuseBox$Plugging" 83 yJ6_bitCount_0f7a4 ∈ WL := mem_WL (t3_in (List.mem_of_getElem? (i := 169) rfl)) rfl
theorem wd182 : Cond.static yJ6_bitCount_0f7a4 ∈ WL := mem_WL (t3_in (List.mem_of_getElem? (i := 124) rfl)) rfl
theorem wd183 : Cond.initialized "java/lang/Integer" ∈ WL := mem_WL (t1_in (List.mem_of_getElem? (i := 16) rfl)) rfl
theorem wd184 : Cond.code yJ6_bitCount_0f7a4 cJ6_bitCount_0f7a4 1 (some .int) ∈ WL := mem_WL (t3_in (List.mem_of_getElem? (i := 125) rfl)) rfl
theorem wd185 : Cond.methodLink "FuseBox$Plugging" 71 yX4_usedThen ∈ WL := mem_WL (t3_in (List.mem_of_getElem? (i := 161) rfl)) rfl
theorem wd186 : Cond.instanceMethod yX4_usedThen ∈ WL := mem_WL (t3_in (List.mem_of_getElem? (i := 163) rfl)) rfl
theorem wd187 : Cond.selects "FuseBox$Plugging" yX4_usedThen yX4_usedThen ∈ WL := mem_WL (t0_in (List.mem_of_getElem? (i := 22) rfl)) rfl
theorem wd188 : Cond.code yX4_usedThen cX4_usedThen 4 (some .int) ∈ WL := mem_WL (t3_in (List.mem_of_getElem? (i := 164) rfl)) rfl
theorem wd189 : Cond.fieldLink "FuseBox$Plugging" 32 "FuseBox$Plugging" "most" "I" ∈ WL := mem_WL (t1_in (List.mem_of_getElem? (i := 71) rfl)) rfl
theorem wd190 : Cond.fieldLink "FuseBox$Plugging" 18 "FuseBox$Plugging" "way" "[I" ∈ WL := mem_WL (t1_in (List.mem_of_getElem? (i := 68) rfl)) rfl
theorem wd191 : Cond.fieldLink "FuseBox$Plugging" 21 "FuseBox$Plugging" "best" "[I" ∈ WL := mem_WL (t1_in (List.mem_of_getElem? (i := 69) rfl)) rfl
theorem wd192 : Cond.methodLink "FuseBox$Plugging" 74 arraycopyName ∈ WL := mem_WL (t3_in (List.mem_of_getElem? (i := 174) rfl)) rfl
theorem wd193 : Cond.fieldLink "FuseBox$Plugging" 55 "FuseBox$House" "things" "I" ∈ WL := mem_WL (t1_in (List.mem_of_getElem? (i := 156) rfl)) rfl
theorem wd194 : Cond.methodLink "FuseBox$Plugging" 58 yX4_weigh ∈ WL := mem_WL (t3_in (List.mem_of_getElem? (i := 157) rfl)) rfl
theorem wd195 : Cond.instanceMethod yX4_weigh ∈ WL := mem_WL (t3_in (List.mem_of_getElem? (i := 159) rfl)) rfl
theorem wd196 : Cond.selects "FuseBox$Plugging" yX4_weigh yX4_weigh ∈ WL := mem_WL (t0_in (List.mem_of_getElem? (i := 21) rfl)) rfl
theorem wd197 : Cond.code yX4_weigh cX4_weigh 2 none ∈ WL := mem_WL (t3_in (List.mem_of_getElem? (i := 160) rfl)) rfl
theorem wd198 : Cond.methodLink "FuseBox$Plugging" 61 yX3_isOn ∈ WL := mem_WL (t3_in (List.mem_of_getElem? (i := 175) rfl)) rfl
theorem wd199 : Cond.fieldLink "FuseBox$Plugging" 68 "FuseBox$House" "load" "[I" ∈ WL := mem_WL (t1_in (List.mem_of_getElem? (i := 184) rfl)) rfl
theorem wd200 : Cond.methodLink "FuseBox$Plugging" 44 yX4_plugFrom ∈ WL := mem_WL (t3_in (List.mem_of_getElem? (i := 153) rfl)) rfl
theorem wd201 : Cond.instanceMethod yX4_plugFrom ∈ WL := mem_WL (t3_in (List.mem_of_getElem? (i := 155) rfl)) rfl
theorem wd202 : Cond.selects "FuseBox$Plugging" yX4_plugFrom yX4_plugFrom ∈ WL := mem_WL (t0_in (List.mem_of_getElem? (i := 20) rfl)) rfl
theorem wd203 : Cond.code yX4_plugFrom cX4_plugFrom 3 none ∈ WL := mem_WL (t3_in (List.mem_of_getElem? (i := 156) rfl)) rfl
theorem wd204 : Cond.fieldLink "FuseBox$Plugging" 65 "FuseBox$House" "plugged" "[I" ∈ WL := mem_WL (t1_in (List.mem_of_getElem? (i := 181) rfl)) rfl
theorem wd205 : Cond.methodLink "FuseBox$Plugging" 40 yX4_foretellLine ∈ WL := mem_WL (t3_in (List.mem_of_getElem? (i := 141) rfl)) rfl
theorem wd206 : Cond.instanceMethod yX4_foretellLine ∈ WL := mem_WL (t3_in (List.mem_of_getElem? (i := 143) rfl)) rfl
theorem wd207 : Cond.selects "FuseBox$Plugging" yX4_foretellLine yX4_foretellLine ∈ WL := mem_WL (t0_in (List.mem_of_getElem? (i := 19) rfl)) rfl
theorem wd208 : Cond.code yX4_foretellLine cX4_foretellLine 4 none ∈ WL := mem_WL (t3_in (List.mem_of_getElem? (i := 144) rfl)) rfl
theorem wd209 : Cond.methodLink "FuseBox$Wire" 24 yX9_leave ∈ WL := mem_WL (t4_in (List.mem_of_getElem? (i := 66) rfl)) rfl
theorem wd210 : Cond.methodLink "FuseBox$Wire" 37 yX2_markOf ∈ WL := mem_WL (t4_in (List.mem_of_getElem? (i := 83) rfl)) rfl
theorem wd211 : Cond.superclass "FuseBox$Wire" "FuseBox$Fuse" ∈ WL := mem_WL (t1_in (List.mem_of_getElem? (i := 116) rfl)) rfl
theorem wd212 : Cond.fieldLink "FuseBox$Wire" 38 "FuseBox$House" "heat" "[I" ∈ WL := mem_WL (t1_in (List.mem_of_getElem? (i := 175) rfl)) rfl
theorem wd213 : Cond.methodLink "FuseBox$Quick" 13 yX9_leave ∈ WL := mem_WL (t4_in (List.mem_of_getElem? (i := 75) rfl)) rfl
theorem wd214 : Cond.methodLink "FuseBox$Quick" 19 yX10_markOf ∈ WL := mem_WL (t4_in (List.mem_of_getElem? (i := 76) rfl)) rfl
theorem wd215 : Cond.sameMethod "FuseBox$Wire" "FuseBox$Wire" "markOf" "(LFuseBox$House;ILFuseBox$Trace;)I" ∈ WL := mem_WL (t4_in (List.mem_of_getElem? (i := 71) rfl)) rfl
theorem wd216 : Cond.instanceMethod yX10_markOf ∈ WL := mem_WL (t4_in (List.mem_of_getElem? (i := 69) rfl)) rfl
theorem wd217 : Cond.code yX10_markOf cX10_markOf 4 (some .int) ∈ WL := mem_WL (t4_in (List.mem_of_getElem? (i := 82) rfl)) rfl
theorem wd218 : Cond.fieldLink "FuseBox$Reader" 9 "FuseBox$Reader" "letters" "[I" ∈ WL := mem_WL (t1_in (List.mem_of_getElem? (i := 33) rfl)) rfl
theorem wd219 : Cond.fieldLink "FuseBox$Reader" 15 "FuseBox$Reader" "size" "I" ∈ WL := mem_WL (t1_in (List.mem_of_getElem? (i := 34) rfl)) rfl
theorem wd220 : Cond.fieldLink "FuseBox$Reader" 40 "FuseBox$Reader" "token" "I" ∈ WL := mem_WL (t1_in (List.mem_of_getElem? (i := 36) rfl)) rfl
theorem wd221 : Cond.fieldLink "FuseBox$Reader" 81 "FuseBox$Reader" "start" "I" ∈ WL := mem_WL (t1_in (List.mem_of_getElem? (i := 40) rfl)) rfl
theorem wd222 : Cond.fieldLink "FuseBox$Reader" 78 "FuseBox$Reader" "value" "I" ∈ WL := mem_WL (t1_in (List.mem_of_getElem? (i := 37) rfl)) rfl
theorem wd223 : Cond.methodLink "FuseBox$Reader" 84 yX6_isFigure ∈ WL := mem_WL (t2_in (List.mem_of_getElem? (i := 111) rfl)) rfl
theorem wd224 : Cond.instanceMethod yX6_isFigure ∈ WL := mem_WL (t2_in (List.mem_of_getElem? (i := 113) rfl)) rfl
theorem wd225 : Cond.selects "FuseBox$Reader" yX6_isFigure yX6_isFigure ∈ WL := mem_WL (t0_in (List.mem_of_getElem? (i := 3) rfl)) rfl
theorem wd226 : Cond.initialized "FuseBox$Reader" ∈ WL := mem_WL (t1_in (List.mem_of_getElem? (i := 2) rfl)) rfl
theorem wd227 : Cond.code yX6_isFigure cX6_isFigure 2 (some .boolean) ∈ WL := mem_WL (t2_in (List.mem_of_getElem? (i := 114) rfl)) rfl
theorem wd228 : Cond.fieldLink "FuseBox$Reader" 22 "FuseBox$Reader" "behind" "I" ∈ WL := mem_WL (t1_in (List.mem_of_getElem? (i := 38) rfl)) rfl
theorem wd229 : Cond.methodLink "FuseBox$Reader" 88 yX6_readNumber ∈ WL := mem_WL (t2_in (List.mem_of_getElem? (i := 115) rfl)) rfl
theorem wd230 : Cond.instanceMethod yX6_readNumber ∈ WL := mem_WL (t2_in (List.mem_of_getElem? (i := 117) rfl)) rfl
theorem wd231 : Cond.selects "FuseBox$Reader" yX6_readNumber yX6_readNumber ∈ WL := mem_WL (t0_in (List.mem_of_getElem? (i := 4) rfl)) rfl
theorem wd232 : Cond.code yX6_readNumber cX6_readNumber 1 none ∈ WL := mem_WL (t2_in (List.mem_of_getElem? (i := 118) rfl)) rfl
theorem wd233 : Cond.fieldLink "FuseBox$Reader" 19 "FuseBox$Reader" "fault" "I" ∈ WL := mem_WL (t1_in (List.mem_of_getElem? (i := 41) rfl)) rfl
theorem wd234 : Cond.methodLink "FuseBox$Reader" 30 yX6_readToken ∈ WL := mem_WL (t2_in (List.mem_of_getElem? (i := 107) rfl)) rfl
theorem wd235 : Cond.instanceMethod yX6_readToken ∈ WL := mem_WL (t2_in (List.mem_of_getElem? (i := 109) rfl)) rfl
theorem wd236 : Cond.selects "FuseBox$Reader" yX6_readToken yX6_readToken ∈ WL := mem_WL (t0_in (List.mem_of_getElem? (i := 2) rfl)) rfl
theorem wd237 : Cond.code yX6_readToken cX6_readToken 2 none ∈ WL := mem_WL (t2_in (List.mem_of_getElem? (i := 110) rfl)) rfl
theorem wd238 : Cond.methodLink "FuseBox$Reader" 61 yX6_fail ∈ WL := mem_WL (t2_in (List.mem_of_getElem? (i := 127) rfl)) rfl
theorem wd239 : Cond.instanceMethod yX6_fail ∈ WL := mem_WL (t2_in (List.mem_of_getElem? (i := 129) rfl)) rfl
theorem wd240 : Cond.selects "FuseBox$Reader" yX6_fail yX6_fail ∈ WL := mem_WL (t0_in (List.mem_of_getElem? (i := 7) rfl)) rfl
theorem wd241 : Cond.code yX6_fail cX6_fail 2 none ∈ WL := mem_WL (t2_in (List.mem_of_getElem? (i := 130) rfl)) rfl
theorem wd242 : Cond.methodLink "FuseBox$Reader" 50 yX6_take ∈ WL := mem_WL (t2_in (List.mem_of_getElem? (i := 123) rfl)) rfl
theorem wd243 : Cond.instanceMethod yX6_take ∈ WL := mem_WL (t2_in (List.mem_of_getElem? (i := 125) rfl)) rfl
theorem wd244 : Cond.selects "FuseBox$Reader" yX6_take yX6_take ∈ WL := mem_WL (t0_in (List.mem_of_getElem? (i := 6) rfl)) rfl
theorem wd245 : Cond.code yX6_take cX6_take 2 none ∈ WL := mem_WL (t2_in (List.mem_of_getElem? (i := 126) rfl)) rfl
theorem wd246 : Cond.methodLink "FuseBox$Reader" 54 yX6_takeNumber ∈ WL := mem_WL (t2_in (List.mem_of_getElem? (i := 131) rfl)) rfl
theorem wd247 : Cond.instanceMethod yX6_takeNumber ∈ WL := mem_WL (t2_in (List.mem_of_getElem? (i := 133) rfl)) rfl
theorem wd248 : Cond.selects "FuseBox$Reader" yX6_takeNumber yX6_takeNumber ∈ WL := mem_WL (t0_in (List.mem_of_getElem? (i := 8) rfl)) rfl
theorem wd249 : Cond.code yX6_takeNumber cX6_takeNumber 4 (some .int) ∈ WL := mem_WL (t2_in (List.mem_of_getElem? (i := 134) rfl)) rfl
theorem wd250 : Cond.fieldLink "FuseBox$Reader" 58 "FuseBox$House" "main" "I" ∈ WL := mem_WL (t1_in (List.mem_of_getElem? (i := 160) rfl)) rfl
theorem wd251 : Cond.methodLink "FuseBox$Reader" 43 yX6_sortOf ∈ WL := mem_WL (t2_in (List.mem_of_getElem? (i := 139) rfl)) rfl
theorem wd252 : Cond.static yX6_sortOf ∈ WL := mem_WL (t2_in (List.mem_of_getElem? (i := 140) rfl)) rfl
theorem wd253 : Cond.code yX6_sortOf cX6_sortOf 1 (some .int) ∈ WL := mem_WL (t2_in (List.mem_of_getElem? (i := 141) rfl)) rfl
theorem wd254 : Cond.methodLink "FuseBox$Reader" 67 yX3_addLine ∈ WL := mem_WL (t2_in (List.mem_of_getElem? (i := 142) rfl)) rfl
theorem wd255 : Cond.instanceMethod yX3_addLine ∈ WL := mem_WL (t2_in (List.mem_of_getElem? (i := 143) rfl)) rfl
theorem wd256 : Cond.selects "FuseBox$House" yX3_addLine yX3_addLine ∈ WL := mem_WL (t2_in (List.mem_of_getElem? (i := 144) rfl)) rfl
theorem wd257 : Cond.code yX3_addLine cX3_addLine 3 none ∈ WL := mem_WL (t2_in (List.mem_of_getElem? (i := 145) rfl)) rfl
theorem wd258 : Cond.fieldLink "FuseBox$Reader" 64 "FuseBox$House" "lines" "I" ∈ WL := mem_WL (t1_in (List.mem_of_getElem? (i := 153) rfl)) rfl
theorem wd259 : Cond.methodLink "FuseBox$Reader" 74 yX3_addThing ∈ WL := mem_WL (t2_in (List.mem_of_getElem? (i := 150) rfl)) rfl
theorem wd260 : Cond.instanceMethod yX3_addThing ∈ WL := mem_WL (t2_in (List.mem_of_getElem? (i := 151) rfl)) rfl
theorem wd261 : Cond.selects "FuseBox$House" yX3_addThing yX3_addThing ∈ WL := mem_WL (t2_in (List.mem_of_getElem? (i := 152) rfl)) rfl
theorem wd262 : Cond.code yX3_addThing cX3_addThing 4 none ∈ WL := mem_WL (t2_in (List.mem_of_getElem? (i := 153) rfl)) rfl
theorem wd263 : Cond.fieldLink "FuseBox$Reader" 71 "FuseBox$House" "things" "I" ∈ WL := mem_WL (t1_in (List.mem_of_getElem? (i := 157) rfl)) rfl
theorem wd264 : Cond.methodLink "FuseBox$Reader" 25 yX3_clear ∈ WL := mem_WL (t2_in (List.mem_of_getElem? (i := 103) rfl)) rfl
theorem wd265 : Cond.instanceMethod yX3_clear ∈ WL := mem_WL (t2_in (List.mem_of_getElem? (i := 104) rfl)) rfl
theorem wd266 : Cond.selects "FuseBox$House" yX3_clear yX3_clear ∈ WL := mem_WL (t2_in (List.mem_of_getElem? (i := 105) rfl)) rfl
theorem wd267 : Cond.code yX3_clear cX3_clear 1 none ∈ WL := mem_WL (t2_in (List.mem_of_getElem? (i := 106) rfl)) rfl
theorem wd268 : Cond.methodLink "FuseBox$Reader" 33 yX6_readLaw ∈ WL := mem_WL (t2_in (List.mem_of_getElem? (i := 119) rfl)) rfl
theorem wd269 : Cond.instanceMethod yX6_readLaw ∈ WL := mem_WL (t2_in (List.mem_of_getElem? (i := 121) rfl)) rfl
theorem wd270 : Cond.selects "FuseBox$Reader" yX6_readLaw yX6_readLaw ∈ WL := mem_WL (t0_in (List.mem_of_getElem? (i := 5) rfl)) rfl
theorem wd271 : Cond.code yX6_readLaw cX6_readLaw 2 none ∈ WL := mem_WL (t2_in (List.mem_of_getElem? (i := 122) rfl)) rfl
theorem wd272 : Cond.methodLink "FuseBox$Reader" 37 yX6_readLine ∈ WL := mem_WL (t2_in (List.mem_of_getElem? (i := 135) rfl)) rfl
theorem wd273 : Cond.instanceMethod yX6_readLine ∈ WL := mem_WL (t2_in (List.mem_of_getElem? (i := 137) rfl)) rfl
theorem wd274 : Cond.selects "FuseBox$Reader" yX6_readLine yX6_readLine ∈ WL := mem_WL (t0_in (List.mem_of_getElem? (i := 9) rfl)) rfl
theorem wd275 : Cond.code yX6_readLine cX6_readLine 4 none ∈ WL := mem_WL (t2_in (List.mem_of_getElem? (i := 138) rfl)) rfl
theorem wd276 : Cond.methodLink "FuseBox$Reader" 47 yX6_readThing ∈ WL := mem_WL (t2_in (List.mem_of_getElem? (i := 146) rfl)) rfl
theorem wd277 : Cond.instanceMethod yX6_readThing ∈ WL := mem_WL (t2_in (List.mem_of_getElem? (i := 148) rfl)) rfl
theorem wd278 : Cond.selects "FuseBox$Reader" yX6_readThing yX6_readThing ∈ WL := mem_WL (t0_in (List.mem_of_getElem? (i := 10) rfl)) rfl
theorem wd279 : Cond.code yX6_readThing cX6_readThing 5 none ∈ WL := mem_WL (t2_in (List.mem_of_getElem? (i := 149) rfl)) rfl
theorem wd280 : Cond.fieldLink "FuseBox$Row" 19 "FuseBox$Row" "lane" "I" ∈ WL := mem_WL (t1_in (List.mem_of_getElem? (i := 226) rfl)) rfl
theorem wd281 : Cond.fieldLink "FuseBox$Row" 15 "FuseBox$Row" "size" "I" ∈ WL := mem_WL (t1_in (List.mem_of_getElem? (i := 228) rfl)) rfl
theorem wd282 : Cond.fieldLink "FuseBox$Row" 9 "FuseBox$Row" "items" "[I" ∈ WL := mem_WL (t1_in (List.mem_of_getElem? (i := 224) rfl)) rfl
theorem wd283 : Cond.methodLink "FuseBox$Slow" 7 yX9_leave ∈ WL := mem_WL (t4_in (List.mem_of_getElem? (i := 80) rfl)) rfl
theorem wd284 : Cond.methodLink "FuseBox$Slow" 17 yX10_markOf ∈ WL := mem_WL (t4_in (List.mem_of_getElem? (i := 81) rfl)) rfl
theorem wd285 : Cond.superclass "FuseBox$Slow" "FuseBox$Wire" ∈ WL := mem_WL (t1_in (List.mem_of_getElem? (i := 123) rfl)) rfl
theorem wd286 : Cond.methodLink "FuseBox$Wire" 30 yX2_sizeOf ∈ WL := mem_WL (t4_in (List.mem_of_getElem? (i := 67) rfl)) rfl
theorem wd287 : Cond.methodLink "FuseBox$Wire" 34 yX10_markOf ∈ WL := mem_WL (t4_in (List.mem_of_getElem? (i := 68) rfl)) rfl
theorem wd288 : Cond.selects "FuseBox$Slow" yX10_markOf yX8_markOf ∈ WL := mem_WL (t4_in (List.mem_of_getElem? (i := 77) rfl)) rfl
theorem wd289 : Cond.instanceMethod yX8_markOf ∈ WL := mem_WL (t4_in (List.mem_of_getElem? (i := 78) rfl)) rfl
theorem wd290 : Cond.code yX8_markOf cX8_markOf 4 (some .int) ∈ WL := mem_WL (t4_in (List.mem_of_getElem? (i := 79) rfl)) rfl
theorem wd291 : Cond.methodLink "FuseBox$Slow" 13 yX10_sizeOf ∈ WL := mem_WL (t4_in (List.mem_of_getElem? (i := 90) rfl)) rfl
theorem wd292 : Cond.sameMethod "FuseBox$Wire" "FuseBox$Wire" "sizeOf" "(LFuseBox$House;ILFuseBox$Trace;)I" ∈ WL := mem_WL (t6_in (List.mem_of_getElem? (i := 58) rfl)) rfl
theorem wd293 : Cond.instanceMethod yX10_sizeOf ∈ WL := mem_WL (t4_in (List.mem_of_getElem? (i := 64) rfl)) rfl
theorem wd294 : Cond.code yX10_sizeOf cX10_sizeOf 5 (some .int) ∈ WL := mem_WL (t4_in (List.mem_of_getElem? (i := 65) rfl)) rfl
theorem wd295 : Cond.selects "FuseBox$Wire" yX10_markOf yX10_markOf ∈ WL := mem_WL (t4_in (List.mem_of_getElem? (i := 70) rfl)) rfl
theorem wd296 : Cond.selects "FuseBox$Quick" yX10_markOf yX5_markOf ∈ WL := mem_WL (t4_in (List.mem_of_getElem? (i := 72) rfl)) rfl
theorem wd297 : Cond.instanceMethod yX5_markOf ∈ WL := mem_WL (t4_in (List.mem_of_getElem? (i := 73) rfl)) rfl
theorem wd298 : Cond.code yX5_markOf cX5_markOf 4 (some .int) ∈ WL := mem_WL (t4_in (List.mem_of_getElem? (i := 74) rfl)) rfl
theorem wd299 : Cond.fieldLink "FuseBox" 120 "FuseBox" "latestFinding" "I" ∈ WL := mem_WL (t2_in (List.mem_of_getElem? (i := 8) rfl)) rfl
theorem wd300 : Cond.constant "FuseBox" 123 (-1000010) ∈ WL := mem_WL (t2_in (List.mem_of_getElem? (i := 46) rfl)) rfl
theorem wd301 : Cond.methodLink "FuseBox" 73 yX11_noRow ∈ WL := mem_WL (t2_in (List.mem_of_getElem? (i := 38) rfl)) rfl
theorem wd302 : Cond.static yX11_noRow ∈ WL := mem_WL (t2_in (List.mem_of_getElem? (i := 39) rfl)) rfl
theorem wd303 : Cond.initialized "FuseBox" ∈ WL := mem_WL (t1_in (List.mem_of_getElem? (i := 1) rfl)) rfl
theorem wd304 : Cond.code yX11_noRow cX11_noRow 1 (some .boolean) ∈ WL := mem_WL (t2_in (List.mem_of_getElem? (i := 40) rfl)) rfl
theorem wd305 : Cond.constant "FuseBox" 77 (-1000001) ∈ WL := mem_WL (t2_in (List.mem_of_getElem? (i := 41) rfl)) rfl
theorem wd306 : Cond.fieldLink "FuseBox" 11 "FuseBox" "rows" "[LFuseBox$Row;" ∈ WL := mem_WL (t1_in (List.mem_of_getElem? (i := 237) rfl)) rfl
theorem wd307 : Cond.methodLink "FuseBox" 82 yX7_begin ∈ WL := mem_WL (t2_in (List.mem_of_getElem? (i := 47) rfl)) rfl
theorem wd308 : Cond.instanceMethod yX7_begin ∈ WL := mem_WL (t2_in (List.mem_of_getElem? (i := 48) rfl)) rfl
theorem wd309 : Cond.selects "FuseBox$Row" yX7_begin yX7_begin ∈ WL := mem_WL (t2_in (List.mem_of_getElem? (i := 49) rfl)) rfl
theorem wd310 : Cond.initialized "FuseBox$Row" ∈ WL := mem_WL (t1_in (List.mem_of_getElem? (i := 12) rfl)) rfl
theorem wd311 : Cond.code yX7_begin cX7_begin 4 none ∈ WL := mem_WL (t2_in (List.mem_of_getElem? (i := 50) rfl)) rfl
theorem wd312 : Cond.methodLink "FuseBox" 86 yX11_fine ∈ WL := mem_WL (t2_in (List.mem_of_getElem? (i := 51) rfl)) rfl
theorem wd313 : Cond.instanceMethod yX11_fine ∈ WL := mem_WL (t2_in (List.mem_of_getElem? (i := 53) rfl)) rfl
theorem wd314 : Cond.selects "FuseBox" yX11_fine yX11_fine ∈ WL := mem_WL (t0_in (List.mem_of_getElem? (i := 1) rfl)) rfl
theorem wd315 : Cond.code yX11_fine cX11_fine 2 (some .int) ∈ WL := mem_WL (t2_in (List.mem_of_getElem? (i := 54) rfl)) rfl
theorem wd316 : Cond.methodLink "FuseBox" 78 yX11_found ∈ WL := mem_WL (t2_in (List.mem_of_getElem? (i := 42) rfl)) rfl
theorem wd317 : Cond.instanceMethod yX11_found ∈ WL := mem_WL (t2_in (List.mem_of_getElem? (i := 44) rfl)) rfl
theorem wd318 : Cond.selects "FuseBox" yX11_found yX11_found ∈ WL := mem_WL (t0_in (List.mem_of_getElem? (i := 0) rfl)) rfl
theorem wd319 : Cond.code yX11_found cX11_found 2 (some .int) ∈ WL := mem_WL (t2_in (List.mem_of_getElem? (i := 45) rfl)) rfl
theorem wd320 : Cond.methodLink "FuseBox" 89 yX7_isMissing ∈ WL := mem_WL (t2_in (List.mem_of_getElem? (i := 59) rfl)) rfl
theorem wd321 : Cond.instanceMethod yX7_isMissing ∈ WL := mem_WL (t2_in (List.mem_of_getElem? (i := 60) rfl)) rfl
theorem wd322 : Cond.selects "FuseBox$Row" yX7_isMissing yX7_isMissing ∈ WL := mem_WL (t2_in (List.mem_of_getElem? (i := 61) rfl)) rfl
theorem wd323 : Cond.code yX7_isMissing cX7_isMissing 1 (some .boolean) ∈ WL := mem_WL (t2_in (List.mem_of_getElem? (i := 62) rfl)) rfl
theorem wd324 : Cond.methodLink "FuseBox" 93 yX7_has ∈ WL := mem_WL (t2_in (List.mem_of_getElem? (i := 63) rfl)) rfl
theorem wd325 : Cond.instanceMethod yX7_has ∈ WL := mem_WL (t2_in (List.mem_of_getElem? (i := 64) rfl)) rfl
theorem wd326 : Cond.selects "FuseBox$Row" yX7_has yX7_has ∈ WL := mem_WL (t2_in (List.mem_of_getElem? (i := 65) rfl)) rfl
theorem wd327 : Cond.code yX7_has cX7_has 3 (some .boolean) ∈ WL := mem_WL (t2_in (List.mem_of_getElem? (i := 66) rfl)) rfl
theorem wd328 : Cond.fieldLink "FuseBox" 97 "FuseBox$Row" "items" "[I" ∈ WL := mem_WL (t1_in (List.mem_of_getElem? (i := 225) rfl)) rfl
theorem wd329 : Cond.methodLink "FuseBox" 101 yX7_cut ∈ WL := mem_WL (t2_in (List.mem_of_getElem? (i := 67) rfl)) rfl
theorem wd330 : Cond.instanceMethod yX7_cut ∈ WL := mem_WL (t2_in (List.mem_of_getElem? (i := 68) rfl)) rfl
theorem wd331 : Cond.selects "FuseBox$Row" yX7_cut yX7_cut ∈ WL := mem_WL (t2_in (List.mem_of_getElem? (i := 69) rfl)) rfl
theorem wd332 : Cond.code yX7_cut cX7_cut 2 (some .int) ∈ WL := mem_WL (t2_in (List.mem_of_getElem? (i := 70) rfl)) rfl
theorem wd333 : Cond.fieldLink "FuseBox" 104 "FuseBox$Row" "lane" "I" ∈ WL := mem_WL (t1_in (List.mem_of_getElem? (i := 227) rfl)) rfl
theorem wd334 : Cond.methodLink "FuseBox" 108 arraycopyName ∈ WL := mem_WL (t2_in (List.mem_of_getElem? (i := 75) rfl)) rfl
theorem wd335 : Cond.fieldLink "FuseBox" 114 "FuseBox$Row" "size" "I" ∈ WL := mem_WL (t1_in (List.mem_of_getElem? (i := 229) rfl)) rfl
theorem wd336 : Cond.methodLink "FuseBox" 117 yX7_end ∈ WL := mem_WL (t2_in (List.mem_of_getElem? (i := 82) rfl)) rfl
theorem wd337 : Cond.instanceMethod yX7_end ∈ WL := mem_WL (t2_in (List.mem_of_getElem? (i := 83) rfl)) rfl
theorem wd338 : Cond.selects "FuseBox$Row" yX7_end yX7_end ∈ WL := mem_WL (t2_in (List.mem_of_getElem? (i := 84) rfl)) rfl
theorem wd339 : Cond.code yX7_end cX7_end 1 none ∈ WL := mem_WL (t2_in (List.mem_of_getElem? (i := 85) rfl)) rfl
theorem wd340 : Cond.fieldLink "FuseBox" 18 "FuseBox" "reader" "LFuseBox$Reader;" ∈ WL := mem_WL (t1_in (List.mem_of_getElem? (i := 238) rfl)) rfl
theorem wd341 : Cond.fieldLink "FuseBox" 124 "FuseBox$Reader" "size" "I" ∈ WL := mem_WL (t1_in (List.mem_of_getElem? (i := 35) rfl)) rfl
theorem wd342 : Cond.methodLink "FuseBox" 126 yX6_append ∈ WL := mem_WL (t2_in (List.mem_of_getElem? (i := 91) rfl)) rfl
theorem wd343 : Cond.instanceMethod yX6_append ∈ WL := mem_WL (t2_in (List.mem_of_getElem? (i := 92) rfl)) rfl
theorem wd344 : Cond.selects "FuseBox$Reader" yX6_append yX6_append ∈ WL := mem_WL (t2_in (List.mem_of_getElem? (i := 93) rfl)) rfl
theorem wd345 : Cond.code yX6_append cX6_append 2 (some .int) ∈ WL := mem_WL (t2_in (List.mem_of_getElem? (i := 94) rfl)) rfl
theorem wd346 : Cond.constant "FuseBox" 125 (-1000003) ∈ WL := mem_WL (t2_in (List.mem_of_getElem? (i := 90) rfl)) rfl
theorem wd347 : Cond.fieldLink "FuseBox" 205 "FuseBox" "oldestAct" "I" ∈ WL := mem_WL (t2_in (List.mem_of_getElem? (i := 3) rfl)) rfl
theorem wd348 : Cond.fieldLink "FuseBox" 202 "FuseBox" "actsKept" "I" ∈ WL := mem_WL (t2_in (List.mem_of_getElem? (i := 4) rfl)) rfl
theorem wd349 : Cond.fieldLink "FuseBox" 69 "FuseBox" "trial" "LFuseBox$House;" ∈ WL := mem_WL (t2_in (List.mem_of_getElem? (i := 0) rfl)) rfl
theorem wd350 : Cond.methodLink "FuseBox" 129 yX6_readInto ∈ WL := mem_WL (t2_in (List.mem_of_getElem? (i := 99) rfl)) rfl
theorem wd351 : Cond.instanceMethod yX6_readInto ∈ WL := mem_WL (t2_in (List.mem_of_getElem? (i := 100) rfl)) rfl
theorem wd352 : Cond.selects "FuseBox$Reader" yX6_readInto yX6_readInto ∈ WL := mem_WL (t2_in (List.mem_of_getElem? (i := 101) rfl)) rfl
theorem wd353 : Cond.code yX6_readInto cX6_readInto 3 (some .int) ∈ WL := mem_WL (t2_in (List.mem_of_getElem? (i := 102) rfl)) rfl
theorem wd354 : Cond.fieldLink "FuseBox" 65 "FuseBox" "now" "LFuseBox$House;" ∈ WL := mem_WL (t1_in (List.mem_of_getElem? (i := 239) rfl)) rfl
theorem wd355 : Cond.methodLink "FuseBox" 140 yX3_become ∈ WL := mem_WL (t2_in (List.mem_of_getElem? (i := 155) rfl)) rfl
theorem wd356 : Cond.instanceMethod yX3_become ∈ WL := mem_WL (t2_in (List.mem_of_getElem? (i := 156) rfl)) rfl
theorem wd357 : Cond.selects "FuseBox$House" yX3_become yX3_become ∈ WL := mem_WL (t2_in (List.mem_of_getElem? (i := 157) rfl)) rfl
theorem wd358 : Cond.code yX3_become cX3_become 2 none ∈ WL := mem_WL (t2_in (List.mem_of_getElem? (i := 158) rfl)) rfl
theorem wd359 : Cond.methodLink "FuseBox" 144 yX11_forgetActs ∈ WL := mem_WL (t2_in (List.mem_of_getElem? (i := 160) rfl)) rfl
theorem wd360 : Cond.instanceMethod yX11_forgetActs ∈ WL := mem_WL (t2_in (List.mem_of_getElem? (i := 162) rfl)) rfl
theorem wd361 : Cond.selects "FuseBox" yX11_forgetActs yX11_forgetActs ∈ WL := mem_WL (t0_in (List.mem_of_getElem? (i := 11) rfl)) rfl
theorem wd362 : Cond.code yX11_forgetActs cX11_forgetActs 1 none ∈ WL := mem_WL (t2_in (List.mem_of_getElem? (i := 163) rfl)) rfl
theorem wd363 : Cond.fieldLink "FuseBox" 147 "FuseBox$House" "lines" "I" ∈ WL := mem_WL (t1_in (List.mem_of_getElem? (i := 154) rfl)) rfl
theorem wd364 : Cond.fieldLink "FuseBox" 133 "FuseBox" "latestFault" "I" ∈ WL := mem_WL (t2_in (List.mem_of_getElem? (i := 7) rfl)) rfl
theorem wd365 : Cond.constant "FuseBox" 136 (-1000100) ∈ WL := mem_WL (t2_in (List.mem_of_getElem? (i := 154) rfl)) rfl
theorem wd366 : Cond.fieldLink "FuseBox" 137 "FuseBox$Reader" "start" "I" ∈ WL := mem_WL (t1_in (List.mem_of_getElem? (i := 39) rfl)) rfl
theorem wd367 : Cond.fieldLink "FuseBox" 28 "FuseBox" "acts" "[LFuseBox$House;" ∈ WL := mem_WL (t2_in (List.mem_of_getElem? (i := 2) rfl)) rfl
theorem wd368 : Cond.methodLink "FuseBox" 150 yX11_noHouse ∈ WL := mem_WL (t2_in (List.mem_of_getElem? (i := 172) rfl)) rfl
theorem wd369 : Cond.instanceMethod yX11_noHouse ∈ WL := mem_WL (t2_in (List.mem_of_getElem? (i := 174) rfl)) rfl
theorem wd370 : Cond.selects "FuseBox" yX11_noHouse yX11_noHouse ∈ WL := mem_WL (t0_in (List.mem_of_getElem? (i := 12) rfl)) rfl
theorem wd371 : Cond.code yX11_noHouse cX11_noHouse 1 (some .boolean) ∈ WL := mem_WL (t2_in (List.mem_of_getElem? (i := 175) rfl)) rfl
theorem wd372 : Cond.fieldLink "FuseBox" 154 "FuseBox$House" "minute" "I" ∈ WL := mem_WL (t1_in (List.mem_of_getElem? (i := 164) rfl)) rfl
theorem wd373 : Cond.methodLink "FuseBox" 163 yX3_liveLines ∈ WL := mem_WL (t3_in (List.mem_of_getElem? (i := 26) rfl)) rfl
theorem wd374 : Cond.instanceMethod yX3_liveLines ∈ WL := mem_WL (t3_in (List.mem_of_getElem? (i := 27) rfl)) rfl
theorem wd375 : Cond.selects "FuseBox$House" yX3_liveLines yX3_liveLines ∈ WL := mem_WL (t3_in (List.mem_of_getElem? (i := 28) rfl)) rfl
theorem wd376 : Cond.code yX3_liveLines cX3_liveLines 3 (some .int) ∈ WL := mem_WL (t3_in (List.mem_of_getElem? (i := 29) rfl)) rfl
theorem wd377 : Cond.methodLink "FuseBox" 157 yX11_keepAct ∈ WL := mem_WL (t2_in (List.mem_of_getElem? (i := 177) rfl)) rfl
theorem wd378 : Cond.instanceMethod yX11_keepAct ∈ WL := mem_WL (t2_in (List.mem_of_getElem? (i := 179) rfl)) rfl
theorem wd379 : Cond.selects "FuseBox" yX11_keepAct yX11_keepAct ∈ WL := mem_WL (t0_in (List.mem_of_getElem? (i := 13) rfl)) rfl
theorem wd380 : Cond.code yX11_keepAct cX11_keepAct 1 none ∈ WL := mem_WL (t2_in (List.mem_of_getElem? (i := 180) rfl)) rfl
theorem wd381 : Cond.methodLink "FuseBox" 160 yX3_passMinute ∈ WL := mem_WL (t2_in (List.mem_of_getElem? (i := 181) rfl)) rfl
theorem wd382 : Cond.constant "FuseBox" 153 (-1000002) ∈ WL := mem_WL (t2_in (List.mem_of_getElem? (i := 176) rfl)) rfl
theorem wd383 : Cond.fieldLink "FuseBox" 229 "FuseBox$House" "things" "I" ∈ WL := mem_WL (t1_in (List.mem_of_getElem? (i := 158) rfl)) rfl
theorem wd384 : Cond.methodLink "FuseBox" 167 yX11_noThing ∈ WL := mem_WL (t3_in (List.mem_of_getElem? (i := 34) rfl)) rfl
theorem wd385 : Cond.instanceMethod yX11_noThing ∈ WL := mem_WL (t3_in (List.mem_of_getElem? (i := 36) rfl)) rfl
theorem wd386 : Cond.selects "FuseBox" yX11_noThing yX11_noThing ∈ WL := mem_WL (t0_in (List.mem_of_getElem? (i := 15) rfl)) rfl
theorem wd387 : Cond.code yX11_noThing cX11_noThing 2 (some .boolean) ∈ WL := mem_WL (t3_in (List.mem_of_getElem? (i := 37) rfl)) rfl
theorem wd388 : Cond.methodLink "FuseBox" 170 yX3_isOn ∈ WL := mem_WL (t3_in (List.mem_of_getElem? (i := 38) rfl)) rfl
theorem wd389 : Cond.methodLink "FuseBox" 173 yX3_toggle ∈ WL := mem_WL (t3_in (List.mem_of_getElem? (i := 39) rfl)) rfl
theorem wd390 : Cond.methodLink "FuseBox" 177 yX3_runningThings ∈ WL := mem_WL (t3_in (List.mem_of_getElem? (i := 43) rfl)) rfl
theorem wd391 : Cond.instanceMethod yX3_runningThings ∈ WL := mem_WL (t3_in (List.mem_of_getElem? (i := 44) rfl)) rfl
theorem wd392 : Cond.selects "FuseBox$House" yX3_runningThings yX3_runningThings ∈ WL := mem_WL (t3_in (List.mem_of_getElem? (i := 45) rfl)) rfl
theorem wd393 : Cond.code yX3_runningThings cX3_runningThings 3 (some .int) ∈ WL := mem_WL (t3_in (List.mem_of_getElem? (i := 46) rfl)) rfl
theorem wd394 : Cond.methodLink "FuseBox" 180 yX11_noLine ∈ WL := mem_WL (t3_in (List.mem_of_getElem? (i := 51) rfl)) rfl
theorem wd395 : Cond.instanceMethod yX11_noLine ∈ WL := mem_WL (t3_in (List.mem_of_getElem? (i := 53) rfl)) rfl
theorem wd396 : Cond.selects "FuseBox" yX11_noLine yX11_noLine ∈ WL := mem_WL (t0_in (List.mem_of_getElem? (i := 16) rfl)) rfl
theorem wd397 : Cond.code yX11_noLine cX11_noLine 2 (some .boolean) ∈ WL := mem_WL (t3_in (List.mem_of_getElem? (i := 54) rfl)) rfl
theorem wd398 : Cond.fieldLink "FuseBox" 183 "FuseBox$House" "plugged" "[I" ∈ WL := mem_WL (t1_in (List.mem_of_getElem? (i := 182) rfl)) rfl
theorem wd399 : Cond.methodLink "FuseBox" 186 yX3_isDead ∈ WL := mem_WL (t3_in (List.mem_of_getElem? (i := 59) rfl)) rfl
theorem wd400 : Cond.methodLink "FuseBox" 189 yX3_mendLine ∈ WL := mem_WL (t3_in (List.mem_of_getElem? (i := 60) rfl)) rfl
theorem wd401 : Cond.methodLink "FuseBox" 192 yX3_deadLines ∈ WL := mem_WL (t3_in (List.mem_of_getElem? (i := 64) rfl)) rfl
theorem wd402 : Cond.instanceMethod yX3_deadLines ∈ WL := mem_WL (t3_in (List.mem_of_getElem? (i := 65) rfl)) rfl
theorem wd403 : Cond.selects "FuseBox$House" yX3_deadLines yX3_deadLines ∈ WL := mem_WL (t3_in (List.mem_of_getElem? (i := 66) rfl)) rfl
theorem wd404 : Cond.code yX3_deadLines cX3_deadLines 3 (some .int) ∈ WL := mem_WL (t3_in (List.mem_of_getElem? (i := 67) rfl)) rfl
theorem wd405 : Cond.fieldLink "FuseBox" 195 "FuseBox$House" "mainIn" "Z" ∈ WL := mem_WL (t1_in (List.mem_of_getElem? (i := 168) rfl)) rfl
theorem wd406 : Cond.fieldLink "FuseBox" 199 "FuseBox$House" "rate" "[I" ∈ WL := mem_WL (t1_in (List.mem_of_getElem? (i := 173) rfl)) rfl
theorem wd407 : Cond.fieldLink "FuseBox" 208 "FuseBox$House" "heat" "[I" ∈ WL := mem_WL (t1_in (List.mem_of_getElem? (i := 176) rfl)) rfl
theorem wd408 : Cond.fieldLink "FuseBox" 211 "FuseBox$House" "dead" "[I" ∈ WL := mem_WL (t1_in (List.mem_of_getElem? (i := 178) rfl)) rfl
theorem wd409 : Cond.methodLink "FuseBox" 214 yX3_isLive ∈ WL := mem_WL (t3_in (List.mem_of_getElem? (i := 84) rfl)) rfl
theorem wd410 : Cond.methodLink "FuseBox" 217 yX3_flowOf ∈ WL := mem_WL (t3_in (List.mem_of_getElem? (i := 85) rfl)) rfl
theorem wd411 : Cond.instanceMethod yX3_flowOf ∈ WL := mem_WL (t3_in (List.mem_of_getElem? (i := 86) rfl)) rfl
theorem wd412 : Cond.selects "FuseBox$House" yX3_flowOf yX3_flowOf ∈ WL := mem_WL (t3_in (List.mem_of_getElem? (i := 87) rfl)) rfl
theorem wd413 : Cond.code yX3_flowOf cX3_flowOf 2 (some .int) ∈ WL := mem_WL (t3_in (List.mem_of_getElem? (i := 88) rfl)) rfl
theorem wd414 : Cond.methodLink "FuseBox" 220 yX3_pluggedInto ∈ WL := mem_WL (t3_in (List.mem_of_getElem? (i := 89) rfl)) rfl
theorem wd415 : Cond.instanceMethod yX3_pluggedInto ∈ WL := mem_WL (t3_in (List.mem_of_getElem? (i := 90) rfl)) rfl
theorem wd416 : Cond.selects "FuseBox$House" yX3_pluggedInto yX3_pluggedInto ∈ WL := mem_WL (t3_in (List.mem_of_getElem? (i := 91) rfl)) rfl
theorem wd417 : Cond.code yX3_pluggedInto cX3_pluggedInto 4 (some .int) ∈ WL := mem_WL (t3_in (List.mem_of_getElem? (i := 92) rfl)) rfl
theorem wd418 : Cond.fieldLink "FuseBox" 223 "FuseBox$House" "load" "[I" ∈ WL := mem_WL (t1_in (List.mem_of_getElem? (i := 185) rfl)) rfl
theorem wd419 : Cond.methodLink "FuseBox" 226 yX3_runs ∈ WL := mem_WL (t3_in (List.mem_of_getElem? (i := 97) rfl)) rfl
theorem wd420 : Cond.methodLink "FuseBox" 232 yX11_foretell ∈ WL := mem_WL (t3_in (List.mem_of_getElem? (i := 102) rfl)) rfl
theorem wd421 : Cond.instanceMethod yX11_foretell ∈ WL := mem_WL (t3_in (List.mem_of_getElem? (i := 104) rfl)) rfl
theorem wd422 : Cond.selects "FuseBox" yX11_foretell yX11_foretell ∈ WL := mem_WL (t0_in (List.mem_of_getElem? (i := 17) rfl)) rfl
theorem wd423 : Cond.code yX11_foretell cX11_foretell 3 none ∈ WL := mem_WL (t3_in (List.mem_of_getElem? (i := 105) rfl)) rfl
theorem wd424 : Cond.fieldLink "FuseBox" 235 "FuseBox$House" "used" "I" ∈ WL := mem_WL (t1_in (List.mem_of_getElem? (i := 166) rfl)) rfl
theorem wd425 : Cond.constant "FuseBox" 238 (-1000000) ∈ WL := mem_WL (t3_in (List.mem_of_getElem? (i := 114) rfl)) rfl
theorem wd426 : Cond.fieldLink "FuseBox" 239 "FuseBox$House" "on" "I" ∈ WL := mem_WL (t1_in (List.mem_of_getElem? (i := 187) rfl)) rfl
theorem wd427 : Cond.methodLink "FuseBox" 242 yJ6_bitCount_0f7a4 ∈ WL := mem_WL (t3_in (List.mem_of_getElem? (i := 123) rfl)) rfl
theorem wd428 : Cond.methodLink "FuseBox" 247 yX11_runsWithout ∈ WL := mem_WL (t3_in (List.mem_of_getElem? (i := 129) rfl)) rfl
theorem wd429 : Cond.instanceMethod yX11_runsWithout ∈ WL := mem_WL (t3_in (List.mem_of_getElem? (i := 131) rfl)) rfl
theorem wd430 : Cond.selects "FuseBox" yX11_runsWithout yX11_runsWithout ∈ WL := mem_WL (t0_in (List.mem_of_getElem? (i := 18) rfl)) rfl
theorem wd431 : Cond.code yX11_runsWithout cX11_runsWithout 5 (some .boolean) ∈ WL := mem_WL (t3_in (List.mem_of_getElem? (i := 132) rfl)) rfl
theorem wd432 : Cond.fieldLink "FuseBox" 34 "FuseBox" "plugging" "LFuseBox$Plugging;" ∈ WL := mem_WL (t2_in (List.mem_of_getElem? (i := 5) rfl)) rfl
theorem wd433 : Cond.methodLink "FuseBox" 251 yX4_search ∈ WL := mem_WL (t3_in (List.mem_of_getElem? (i := 137) rfl)) rfl
theorem wd434 : Cond.instanceMethod yX4_search ∈ WL := mem_WL (t3_in (List.mem_of_getElem? (i := 138) rfl)) rfl
theorem wd435 : Cond.selects "FuseBox$Plugging" yX4_search yX4_search ∈ WL := mem_WL (t3_in (List.mem_of_getElem? (i := 139) rfl)) rfl
theorem wd436 : Cond.code yX4_search cX4_search 4 none ∈ WL := mem_WL (t3_in (List.mem_of_getElem? (i := 140) rfl)) rfl
theorem wd437 : Cond.fieldLink "FuseBox" 258 "FuseBox$Plugging" "best" "[I" ∈ WL := mem_WL (t1_in (List.mem_of_getElem? (i := 70) rfl)) rfl
theorem wd438 : Cond.fieldLink "FuseBox" 255 "FuseBox$Plugging" "most" "I" ∈ WL := mem_WL (t1_in (List.mem_of_getElem? (i := 72) rfl)) rfl
theorem wd439 : Cond.methodLink "FuseBox" 261 yX3_staysLive ∈ WL := mem_WL (t3_in (List.mem_of_getElem? (i := 180) rfl)) rfl
theorem wd440 : Cond.instanceMethod yX3_staysLive ∈ WL := mem_WL (t3_in (List.mem_of_getElem? (i := 181) rfl)) rfl
theorem wd441 : Cond.selects "FuseBox$House" yX3_staysLive yX3_staysLive ∈ WL := mem_WL (t3_in (List.mem_of_getElem? (i := 182) rfl)) rfl
theorem wd442 : Cond.code yX3_staysLive cX3_staysLive 4 (some .boolean) ∈ WL := mem_WL (t3_in (List.mem_of_getElem? (i := 183) rfl)) rfl
theorem wd443 : Cond.methodLink "FuseBox" 264 yX3_reckonFlows ∈ WL := mem_WL (t3_in (List.mem_of_getElem? (i := 193) rfl)) rfl
theorem wd444 : Cond.methodLink "FuseBox" 303 yX3_takeKind ∈ WL := mem_WL (t3_in (List.mem_of_getElem? (i := 202) rfl)) rfl
theorem wd445 : Cond.instanceMethod yX3_takeKind ∈ WL := mem_WL (t3_in (List.mem_of_getElem? (i := 203) rfl)) rfl
theorem wd446 : Cond.selects "FuseBox$House" yX3_takeKind yX3_takeKind ∈ WL := mem_WL (t3_in (List.mem_of_getElem? (i := 204) rfl)) rfl
theorem wd447 : Cond.code yX3_takeKind cX3_takeKind 3 none ∈ WL := mem_WL (t3_in (List.mem_of_getElem? (i := 205) rfl)) rfl
theorem wd448 : Cond.methodLink "FuseBox" 306 yX3_heatsAs ∈ WL := mem_WL (t3_in (List.mem_of_getElem? (i := 206) rfl)) rfl
theorem wd449 : Cond.instanceMethod yX3_heatsAs ∈ WL := mem_WL (t3_in (List.mem_of_getElem? (i := 207) rfl)) rfl
theorem wd450 : Cond.selects "FuseBox$House" yX3_heatsAs yX3_heatsAs ∈ WL := mem_WL (t3_in (List.mem_of_getElem? (i := 208) rfl)) rfl
theorem wd451 : Cond.code yX3_heatsAs cX3_heatsAs 6 (some .boolean) ∈ WL := mem_WL (t3_in (List.mem_of_getElem? (i := 209) rfl)) rfl
theorem wd452 : Cond.fieldLink "FuseBox" 310 "FuseBox$House" "main" "I" ∈ WL := mem_WL (t1_in (List.mem_of_getElem? (i := 162) rfl)) rfl
theorem wd453 : Cond.methodLink "FuseBox" 267 yX11_sortsThatFit ∈ WL := mem_WL (t3_in (List.mem_of_getElem? (i := 198) rfl)) rfl
theorem wd454 : Cond.instanceMethod yX11_sortsThatFit ∈ WL := mem_WL (t3_in (List.mem_of_getElem? (i := 200) rfl)) rfl
theorem wd455 : Cond.selects "FuseBox" yX11_sortsThatFit yX11_sortsThatFit ∈ WL := mem_WL (t0_in (List.mem_of_getElem? (i := 25) rfl)) rfl
theorem wd456 : Cond.code yX11_sortsThatFit cX11_sortsThatFit 7 (some .int) ∈ WL := mem_WL (t3_in (List.mem_of_getElem? (i := 201) rfl)) rfl
theorem wd457 : Cond.methodLink "FuseBox" 271 yX11_ratesThatFit ∈ WL := mem_WL (t3_in (List.mem_of_getElem? (i := 210) rfl)) rfl
theorem wd458 : Cond.instanceMethod yX11_ratesThatFit ∈ WL := mem_WL (t3_in (List.mem_of_getElem? (i := 212) rfl)) rfl
theorem wd459 : Cond.selects "FuseBox" yX11_ratesThatFit yX11_ratesThatFit ∈ WL := mem_WL (t0_in (List.mem_of_getElem? (i := 26) rfl)) rfl
theorem wd460 : Cond.code yX11_ratesThatFit cX11_ratesThatFit 7 (some .int) ∈ WL := mem_WL (t3_in (List.mem_of_getElem? (i := 213) rfl)) rfl
theorem wd461 : Cond.methodLink "FuseBox" 274 yX11_heatsThatFit ∈ WL := mem_WL (t3_in (List.mem_of_getElem? (i := 214) rfl)) rfl
theorem wd462 : Cond.instanceMethod yX11_heatsThatFit ∈ WL := mem_WL (t3_in (List.mem_of_getElem? (i := 216) rfl)) rfl
theorem wd463 : Cond.selects "FuseBox" yX11_heatsThatFit yX11_heatsThatFit ∈ WL := mem_WL (t0_in (List.mem_of_getElem? (i := 27) rfl)) rfl
theorem wd464 : Cond.code yX11_heatsThatFit cX11_heatsThatFit 7 (some .int) ∈ WL := mem_WL (t3_in (List.mem_of_getElem? (i := 217) rfl)) rfl
theorem wd465 : Cond.methodLink "FuseBox" 277 yX11_mainsThatFit ∈ WL := mem_WL (t3_in (List.mem_of_getElem? (i := 218) rfl)) rfl
theorem wd466 : Cond.instanceMethod yX11_mainsThatFit ∈ WL := mem_WL (t3_in (List.mem_of_getElem? (i := 220) rfl)) rfl
theorem wd467 : Cond.selects "FuseBox" yX11_mainsThatFit yX11_mainsThatFit ∈ WL := mem_WL (t0_in (List.mem_of_getElem? (i := 28) rfl)) rfl
theorem wd468 : Cond.code yX11_mainsThatFit cX11_mainsThatFit 9 (some .int) ∈ WL := mem_WL (t3_in (List.mem_of_getElem? (i := 221) rfl)) rfl
theorem wd469 : Cond.methodLink "FuseBox" 288 yX11_commonDivisor ∈ WL := mem_WL (t3_in (List.mem_of_getElem? (i := 234) rfl)) rfl
theorem wd470 : Cond.static yX11_commonDivisor ∈ WL := mem_WL (t3_in (List.mem_of_getElem? (i := 235) rfl)) rfl
theorem wd471 : Cond.code yX11_commonDivisor cX11_commonDivisor 4 (some .int) ∈ WL := mem_WL (t3_in (List.mem_of_getElem? (i := 236) rfl)) rfl
theorem wd472 : Cond.methodLink "FuseBox" 285 yX11_isLiveWithout ∈ WL := mem_WL (t3_in (List.mem_of_getElem? (i := 230) rfl)) rfl
theorem wd473 : Cond.instanceMethod yX11_isLiveWithout ∈ WL := mem_WL (t3_in (List.mem_of_getElem? (i := 232) rfl)) rfl
theorem wd474 : Cond.selects "FuseBox" yX11_isLiveWithout yX11_isLiveWithout ∈ WL := mem_WL (t0_in (List.mem_of_getElem? (i := 30) rfl)) rfl
theorem wd475 : Cond.code yX11_isLiveWithout cX11_isLiveWithout 5 (some .boolean) ∈ WL := mem_WL (t3_in (List.mem_of_getElem? (i := 233) rfl)) rfl
theorem wd476 : Cond.methodLink "FuseBox" 281 yX11_weightOf ∈ WL := mem_WL (t3_in (List.mem_of_getElem? (i := 226) rfl)) rfl
theorem wd477 : Cond.instanceMethod yX11_weightOf ∈ WL := mem_WL (t3_in (List.mem_of_getElem? (i := 228) rfl)) rfl
theorem wd478 : Cond.selects "FuseBox" yX11_weightOf yX11_weightOf ∈ WL := mem_WL (t0_in (List.mem_of_getElem? (i := 29) rfl)) rfl
theorem wd479 : Cond.code yX11_weightOf cX11_weightOf 5 (some .int) ∈ WL := mem_WL (t3_in (List.mem_of_getElem? (i := 229) rfl)) rfl
theorem wd480 : Cond.constant "FuseBox" 291 (999999) ∈ WL := mem_WL (t4_in (List.mem_of_getElem? (i := 1) rfl)) rfl
theorem wd481 : Cond.constantLong "FuseBox" 292 (16807) ∈ WL := mem_WL (t4_in (List.mem_of_getElem? (i := 2) rfl)) rfl
theorem wd482 : Cond.constantLong "FuseBox" 294 (2147483647) ∈ WL := mem_WL (t4_in (List.mem_of_getElem? (i := 3) rfl)) rfl
theorem wd483 : Cond.methodLink "FuseBox" 296 yX3_draw ∈ WL := mem_WL (t4_in (List.mem_of_getElem? (i := 4) rfl)) rfl
theorem wd484 : Cond.instanceMethod yX3_draw ∈ WL := mem_WL (t4_in (List.mem_of_getElem? (i := 5) rfl)) rfl
theorem wd485 : Cond.selects "FuseBox$House" yX3_draw yX3_draw ∈ WL := mem_WL (t4_in (List.mem_of_getElem? (i := 6) rfl)) rfl
theorem wd486 : Cond.code yX3_draw cX3_draw 3 none ∈ WL := mem_WL (t4_in (List.mem_of_getElem? (i := 7) rfl)) rfl
theorem wd487 : Cond.methodLink "FuseBox" 300 yX11_noImage ∈ WL := mem_WL (t4_in (List.mem_of_getElem? (i := 20) rfl)) rfl
theorem wd488 : Cond.static yX11_noImage ∈ WL := mem_WL (t4_in (List.mem_of_getElem? (i := 21) rfl)) rfl
theorem wd489 : Cond.code yX11_noImage cX11_noImage 1 (some .boolean) ∈ WL := mem_WL (t4_in (List.mem_of_getElem? (i := 22) rfl)) rfl
theorem wd490 : Cond.fieldLink "FuseBox" 24 "FuseBox" "images" "[LFuseBox$House;" ∈ WL := mem_WL (t2_in (List.mem_of_getElem? (i := 1) rfl)) rfl
theorem wd491 : Cond.fieldLink "FuseBox" 313 "FuseBox$House" "kind" "[I" ∈ WL := mem_WL (t1_in (List.mem_of_getElem? (i := 170) rfl)) rfl
theorem wd492 : Cond.classLink "FuseBox" 47 "FuseBox$Wire" ∈ WL := mem_WL (t1_in (List.mem_of_getElem? (i := 107) rfl)) rfl
theorem wd493 : Cond.classLink "FuseBox" 50 "FuseBox$Slow" ∈ WL := mem_WL (t1_in (List.mem_of_getElem? (i := 117) rfl)) rfl
theorem wd494 : Cond.classLink "FuseBox" 53 "FuseBox$Quick" ∈ WL := mem_WL (t1_in (List.mem_of_getElem? (i := 124) rfl)) rfl
theorem wd495 : Cond.classLink "FuseBox" 56 "FuseBox$Breaker" ∈ WL := mem_WL (t1_in (List.mem_of_getElem? (i := 131) rfl)) rfl
theorem wd496 : Cond.classLink "FuseBox" 59 "FuseBox$Coil" ∈ WL := mem_WL (t1_in (List.mem_of_getElem? (i := 138) rfl)) rfl
theorem wd497 : Cond.methodLink "FuseBox" 316 yX3_fuseOf ∈ WL := mem_WL (t4_in (List.mem_of_getElem? (i := 35) rfl)) rfl
theorem wd498 : Cond.methodLink "FuseBox" 320 yX11_isA ∈ WL := mem_WL (t4_in (List.mem_of_getElem? (i := 36) rfl)) rfl
theorem wd499 : Cond.static yX11_isA ∈ WL := mem_WL (t4_in (List.mem_of_getElem? (i := 37) rfl)) rfl
theorem wd500 : Cond.code yX11_isA cX11_isA 2 (some .boolean) ∈ WL := mem_WL (t4_in (List.mem_of_getElem? (i := 38) rfl)) rfl
theorem wd501 : Cond.fieldLink "FuseBox" 41 "FuseBox" "trace" "LFuseBox$Trace;" ∈ WL := mem_WL (t2_in (List.mem_of_getElem? (i := 6) rfl)) rfl
theorem wd502 : Cond.methodLink "FuseBox" 324 yX9_empty ∈ WL := mem_WL (t4_in (List.mem_of_getElem? (i := 43) rfl)) rfl
theorem wd503 : Cond.instanceMethod yX9_empty ∈ WL := mem_WL (t4_in (List.mem_of_getElem? (i := 44) rfl)) rfl
theorem wd504 : Cond.selects "FuseBox$Trace" yX9_empty yX9_empty ∈ WL := mem_WL (t4_in (List.mem_of_getElem? (i := 45) rfl)) rfl
theorem wd505 : Cond.code yX9_empty cX9_empty 1 none ∈ WL := mem_WL (t4_in (List.mem_of_getElem? (i := 46) rfl)) rfl
theorem wd506 : Cond.methodLink "FuseBox" 331 yX2_markOf ∈ WL := mem_WL (t4_in (List.mem_of_getElem? (i := 93) rfl)) rfl
theorem wd507 : Cond.selects "FuseBox$Wire" yX2_markOf yX10_markOf ∈ WL := mem_WL (t6_in (List.mem_of_getElem? (i := 65) rfl)) rfl
theorem wd508 : Cond.selects "FuseBox$Slow" yX2_markOf yX8_markOf ∈ WL := mem_WL (t6_in (List.mem_of_getElem? (i := 64) rfl)) rfl
theorem wd509 : Cond.selects "FuseBox$Quick" yX2_markOf yX5_markOf ∈ WL := mem_WL (t6_in (List.mem_of_getElem? (i := 63) rfl)) rfl
theorem wd510 : Cond.selects "FuseBox$Breaker" yX2_markOf yX0_markOf ∈ WL := mem_WL (t6_in (List.mem_of_getElem? (i := 59) rfl)) rfl
theorem wd511 : Cond.instanceMethod yX0_markOf ∈ WL := mem_WL (t4_in (List.mem_of_getElem? (i := 94) rfl)) rfl
theorem wd512 : Cond.code yX0_markOf cX0_markOf 5 (some .int) ∈ WL := mem_WL (t4_in (List.mem_of_getElem? (i := 95) rfl)) rfl
theorem wd513 : Cond.selects "FuseBox$Coil" yX2_markOf yX0_markOf ∈ WL := mem_WL (t6_in (List.mem_of_getElem? (i := 62) rfl)) rfl
theorem wd514 : Cond.methodLink "FuseBox" 327 yX2_sizeOf ∈ WL := mem_WL (t4_in (List.mem_of_getElem? (i := 47) rfl)) rfl
theorem wd515 : Cond.selects "FuseBox$Wire" yX2_sizeOf yX10_sizeOf ∈ WL := mem_WL (t4_in (List.mem_of_getElem? (i := 91) rfl)) rfl
theorem wd516 : Cond.selects "FuseBox$Slow" yX2_sizeOf yX8_sizeOf ∈ WL := mem_WL (t4_in (List.mem_of_getElem? (i := 87) rfl)) rfl
theorem wd517 : Cond.instanceMethod yX8_sizeOf ∈ WL := mem_WL (t4_in (List.mem_of_getElem? (i := 88) rfl)) rfl
theorem wd518 : Cond.code yX8_sizeOf cX8_sizeOf 4 (some .int) ∈ WL := mem_WL (t4_in (List.mem_of_getElem? (i := 89) rfl)) rfl
theorem wd519 : Cond.selects "FuseBox$Quick" yX2_sizeOf yX10_sizeOf ∈ WL := mem_WL (t4_in (List.mem_of_getElem? (i := 63) rfl)) rfl
theorem wd520 : Cond.selects "FuseBox$Breaker" yX2_sizeOf yX0_sizeOf ∈ WL := mem_WL (t4_in (List.mem_of_getElem? (i := 50) rfl)) rfl
theorem wd521 : Cond.selects "FuseBox$Coil" yX2_sizeOf yX1_sizeOf ∈ WL := mem_WL (t4_in (List.mem_of_getElem? (i := 58) rfl)) rfl
theorem wd522 : Cond.fieldLink "FuseBox" 334 "FuseBox$Trace" "size" "I" ∈ WL := mem_WL (t1_in (List.mem_of_getElem? (i := 99) rfl)) rfl
theorem wd523 : Cond.fieldLink "FuseBox" 335 "FuseBox$Trace" "bodies" "[I" ∈ WL := mem_WL (t1_in (List.mem_of_getElem? (i := 97) rfl)) rfl
theorem wd524 : Cond.methodLink "FuseBox" 338 yX11_rowsThere ∈ WL := mem_WL (t4_in (List.mem_of_getElem? (i := 106) rfl)) rfl
theorem wd525 : Cond.instanceMethod yX11_rowsThere ∈ WL := mem_WL (t4_in (List.mem_of_getElem? (i := 108) rfl)) rfl
theorem wd526 : Cond.selects "FuseBox" yX11_rowsThere yX11_rowsThere ∈ WL := mem_WL (t0_in (List.mem_of_getElem? (i := 32) rfl)) rfl
theorem wd527 : Cond.code yX11_rowsThere cX11_rowsThere 3 (some .int) ∈ WL := mem_WL (t4_in (List.mem_of_getElem? (i := 109) rfl)) rfl
theorem wd528 : Cond.fieldLink "FuseBoxModel" 53 "FuseBoxModel" "found" "I" ∈ WL := mem_WL (t4_in (List.mem_of_getElem? (i := 128) rfl)) rfl
theorem wd529 : Cond.constant "FuseBoxModel" 57 (-1000010) ∈ WL := mem_WL (t4_in (List.mem_of_getElem? (i := 205) rfl)) rfl
theorem wd530 : Cond.constantLong "FuseBoxModel" 58 (7) ∈ WL := mem_WL (t4_in (List.mem_of_getElem? (i := 195) rfl)) rfl
theorem wd531 : Cond.methodLink "FuseBoxModel" 60 yX12_in ∈ WL := mem_WL (t4_in (List.mem_of_getElem? (i := 196) rfl)) rfl
theorem wd532 : Cond.static yX12_in ∈ WL := mem_WL (t4_in (List.mem_of_getElem? (i := 197) rfl)) rfl
theorem wd533 : Cond.initialized "FuseBoxModel" ∈ WL := mem_WL (t1_in (List.mem_of_getElem? (i := 13) rfl)) rfl
theorem wd534 : Cond.code yX12_in cX12_in 6 (some .boolean) ∈ WL := mem_WL (t4_in (List.mem_of_getElem? (i := 198) rfl)) rfl
theorem wd535 : Cond.constant "FuseBoxModel" 66 (-1000001) ∈ WL := mem_WL (t4_in (List.mem_of_getElem? (i := 200) rfl)) rfl
theorem wd536 : Cond.constantLong "FuseBoxModel" 64 (2) ∈ WL := mem_WL (t4_in (List.mem_of_getElem? (i := 199) rfl)) rfl
theorem wd537 : Cond.fieldLink "FuseBoxModel" 19 "FuseBoxModel" "lane" "[I" ∈ WL := mem_WL (t4_in (List.mem_of_getElem? (i := 124) rfl)) rfl
theorem wd538 : Cond.fieldLink "FuseBoxModel" 22 "FuseBoxModel" "size" "[I" ∈ WL := mem_WL (t4_in (List.mem_of_getElem? (i := 125) rfl)) rfl
theorem wd539 : Cond.methodLink "FuseBoxModel" 71 yX12_fine ∈ WL := mem_WL (t4_in (List.mem_of_getElem? (i := 206) rfl)) rfl
theorem wd540 : Cond.instanceMethod yX12_fine ∈ WL := mem_WL (t4_in (List.mem_of_getElem? (i := 208) rfl)) rfl
theorem wd541 : Cond.selects "FuseBoxModel" yX12_fine yX12_fine ∈ WL := mem_WL (t0_in (List.mem_of_getElem? (i := 34) rfl)) rfl
theorem wd542 : Cond.code yX12_fine cX12_fine 2 (some .int) ∈ WL := mem_WL (t4_in (List.mem_of_getElem? (i := 209) rfl)) rfl
theorem wd543 : Cond.fieldLink "FuseBoxModel" 25 "FuseBoxModel" "items" "[I" ∈ WL := mem_WL (t4_in (List.mem_of_getElem? (i := 126) rfl)) rfl
theorem wd544 : Cond.methodLink "FuseBoxModel" 67 yX12_finds ∈ WL := mem_WL (t4_in (List.mem_of_getElem? (i := 201) rfl)) rfl
theorem wd545 : Cond.instanceMethod yX12_finds ∈ WL := mem_WL (t4_in (List.mem_of_getElem? (i := 203) rfl)) rfl
theorem wd546 : Cond.selects "FuseBoxModel" yX12_finds yX12_finds ∈ WL := mem_WL (t0_in (List.mem_of_getElem? (i := 33) rfl)) rfl
theorem wd547 : Cond.code yX12_finds cX12_finds 2 (some .int) ∈ WL := mem_WL (t4_in (List.mem_of_getElem? (i := 204) rfl)) rfl
theorem wd548 : Cond.fieldLink "FuseBoxModel" 28 "FuseBoxModel" "moved" "[I" ∈ WL := mem_WL (t4_in (List.mem_of_getElem? (i := 127) rfl)) rfl
theorem wd549 : Cond.constantLong "FuseBoxModel" 74 (255) ∈ WL := mem_WL (t4_in (List.mem_of_getElem? (i := 226) rfl)) rfl
theorem wd550 : Cond.fieldLink "FuseBoxModel" 76 "FuseBoxModel" "length" "I" ∈ WL := mem_WL (t4_in (List.mem_of_getElem? (i := 129) rfl)) rfl
theorem wd551 : Cond.fieldLink "FuseBoxModel" 31 "FuseBoxModel" "tape" "[B" ∈ WL := mem_WL (t4_in (List.mem_of_getElem? (i := 130) rfl)) rfl
theorem wd552 : Cond.constant "FuseBoxModel" 79 (-1000003) ∈ WL := mem_WL (t4_in (List.mem_of_getElem? (i := 227) rfl)) rfl
theorem wd553 : Cond.fieldLink "FuseBoxModel" 80 "FuseBoxModel" "next" "I" ∈ WL := mem_WL (t4_in (List.mem_of_getElem? (i := 131) rfl)) rfl
theorem wd554 : Cond.fieldLink "FuseBoxModel" 83 "FuseBoxModel" "place" "I" ∈ WL := mem_WL (t4_in (List.mem_of_getElem? (i := 132) rfl)) rfl
theorem wd555 : Cond.methodLink "FuseBoxModel" 86 yX12_byteAt ∈ WL := mem_WL (t5_in (List.mem_of_getElem? (i := 0) rfl)) rfl
theorem wd556 : Cond.instanceMethod yX12_byteAt ∈ WL := mem_WL (t5_in (List.mem_of_getElem? (i := 2) rfl)) rfl
theorem wd557 : Cond.selects "FuseBoxModel" yX12_byteAt yX12_byteAt ∈ WL := mem_WL (t0_in (List.mem_of_getElem? (i := 37) rfl)) rfl
theorem wd558 : Cond.code yX12_byteAt cX12_byteAt 2 (some .int) ∈ WL := mem_WL (t5_in (List.mem_of_getElem? (i := 3) rfl)) rfl
theorem wd559 : Cond.constantLong "FuseBoxModel" 89 (48) ∈ WL := mem_WL (t5_in (List.mem_of_getElem? (i := 4) rfl)) rfl
theorem wd560 : Cond.constantLong "FuseBoxModel" 91 (57) ∈ WL := mem_WL (t5_in (List.mem_of_getElem? (i := 5) rfl)) rfl
theorem wd561 : Cond.constantLong "FuseBoxModel" 96 (97) ∈ WL := mem_WL (t5_in (List.mem_of_getElem? (i := 6) rfl)) rfl
theorem wd562 : Cond.constantLong "FuseBoxModel" 98 (122) ∈ WL := mem_WL (t5_in (List.mem_of_getElem? (i := 7) rfl)) rfl
theorem wd563 : Cond.fieldLink "FuseBoxModel" 93 "FuseBoxModel" "number" "I" ∈ WL := mem_WL (t4_in (List.mem_of_getElem? (i := 133) rfl)) rfl
theorem wd564 : Cond.fieldLink "FuseBoxModel" 100 "FuseBoxModel" "wrong" "I" ∈ WL := mem_WL (t4_in (List.mem_of_getElem? (i := 134) rfl)) rfl
theorem wd565 : Cond.methodLink "FuseBoxModel" 103 yX12_token ∈ WL := mem_WL (t4_in (List.mem_of_getElem? (i := 236) rfl)) rfl
theorem wd566 : Cond.instanceMethod yX12_token ∈ WL := mem_WL (t4_in (List.mem_of_getElem? (i := 238) rfl)) rfl
theorem wd567 : Cond.selects "FuseBoxModel" yX12_token yX12_token ∈ WL := mem_WL (t0_in (List.mem_of_getElem? (i := 36) rfl)) rfl
theorem wd568 : Cond.code yX12_token cX12_token 3 (some .int) ∈ WL := mem_WL (t4_in (List.mem_of_getElem? (i := 239) rfl)) rfl
theorem wd569 : Cond.fieldLink "FuseBoxModel" 35 "FuseBoxModel" "read" "[I" ∈ WL := mem_WL (t4_in (List.mem_of_getElem? (i := 136) rfl)) rfl
theorem wd570 : Cond.methodLink "FuseBoxModel" 107 yX12_wants ∈ WL := mem_WL (t5_in (List.mem_of_getElem? (i := 8) rfl)) rfl
theorem wd571 : Cond.instanceMethod yX12_wants ∈ WL := mem_WL (t5_in (List.mem_of_getElem? (i := 10) rfl)) rfl
theorem wd572 : Cond.selects "FuseBoxModel" yX12_wants yX12_wants ∈ WL := mem_WL (t0_in (List.mem_of_getElem? (i := 38) rfl)) rfl
theorem wd573 : Cond.code yX12_wants cX12_wants 4 (some .int) ∈ WL := mem_WL (t5_in (List.mem_of_getElem? (i := 11) rfl)) rfl
theorem wd574 : Cond.methodLink "FuseBoxModel" 111 yX12_sign ∈ WL := mem_WL (t5_in (List.mem_of_getElem? (i := 12) rfl)) rfl
theorem wd575 : Cond.instanceMethod yX12_sign ∈ WL := mem_WL (t5_in (List.mem_of_getElem? (i := 14) rfl)) rfl
theorem wd576 : Cond.selects "FuseBoxModel" yX12_sign yX12_sign ∈ WL := mem_WL (t0_in (List.mem_of_getElem? (i := 39) rfl)) rfl
theorem wd577 : Cond.code yX12_sign cX12_sign 2 none ∈ WL := mem_WL (t5_in (List.mem_of_getElem? (i := 15) rfl)) rfl
theorem wd578 : Cond.fieldLink "FuseBoxModel" 38 "FuseBoxModel" "readRate" "[I" ∈ WL := mem_WL (t4_in (List.mem_of_getElem? (i := 137) rfl)) rfl
theorem wd579 : Cond.fieldLink "FuseBoxModel" 41 "FuseBoxModel" "readPlug" "[I" ∈ WL := mem_WL (t4_in (List.mem_of_getElem? (i := 138) rfl)) rfl
theorem wd580 : Cond.fieldLink "FuseBoxModel" 44 "FuseBoxModel" "readOn" "[I" ∈ WL := mem_WL (t4_in (List.mem_of_getElem? (i := 139) rfl)) rfl
theorem wd581 : Cond.methodLink "FuseBoxModel" 121 yX12_thingItem ∈ WL := mem_WL (t5_in (List.mem_of_getElem? (i := 23) rfl)) rfl
theorem wd582 : Cond.instanceMethod yX12_thingItem ∈ WL := mem_WL (t5_in (List.mem_of_getElem? (i := 25) rfl)) rfl
theorem wd583 : Cond.selects "FuseBoxModel" yX12_thingItem yX12_thingItem ∈ WL := mem_WL (t0_in (List.mem_of_getElem? (i := 41) rfl)) rfl
theorem wd584 : Cond.code yX12_thingItem cX12_thingItem 4 none ∈ WL := mem_WL (t5_in (List.mem_of_getElem? (i := 26) rfl)) rfl
theorem wd585 : Cond.methodLink "FuseBoxModel" 118 yX12_lineItem ∈ WL := mem_WL (t5_in (List.mem_of_getElem? (i := 19) rfl)) rfl
theorem wd586 : Cond.instanceMethod yX12_lineItem ∈ WL := mem_WL (t5_in (List.mem_of_getElem? (i := 21) rfl)) rfl
theorem wd587 : Cond.selects "FuseBoxModel" yX12_lineItem yX12_lineItem ∈ WL := mem_WL (t0_in (List.mem_of_getElem? (i := 40) rfl)) rfl
theorem wd588 : Cond.code yX12_lineItem cX12_lineItem 3 none ∈ WL := mem_WL (t5_in (List.mem_of_getElem? (i := 22) rfl)) rfl
theorem wd589 : Cond.methodLink "FuseBoxModel" 115 yX12_sortOf ∈ WL := mem_WL (t5_in (List.mem_of_getElem? (i := 16) rfl)) rfl
theorem wd590 : Cond.static yX12_sortOf ∈ WL := mem_WL (t5_in (List.mem_of_getElem? (i := 17) rfl)) rfl
theorem wd591 : Cond.code yX12_sortOf cX12_sortOf 1 (some .int) ∈ WL := mem_WL (t5_in (List.mem_of_getElem? (i := 18) rfl)) rfl
theorem wd592 : Cond.methodLink "FuseBoxModel" 124 yX12_reads ∈ WL := mem_WL (t4_in (List.mem_of_getElem? (i := 232) rfl)) rfl
theorem wd593 : Cond.instanceMethod yX12_reads ∈ WL := mem_WL (t4_in (List.mem_of_getElem? (i := 234) rfl)) rfl
theorem wd594 : Cond.selects "FuseBoxModel" yX12_reads yX12_reads ∈ WL := mem_WL (t0_in (List.mem_of_getElem? (i := 35) rfl)) rfl
theorem wd595 : Cond.code yX12_reads cX12_reads 4 none ∈ WL := mem_WL (t4_in (List.mem_of_getElem? (i := 235) rfl)) rfl
theorem wd596 : Cond.fieldLink "FuseBoxModel" 131 "FuseBoxModel" "acts" "I" ∈ WL := mem_WL (t4_in (List.mem_of_getElem? (i := 123) rfl)) rfl
theorem wd597 : Cond.fieldLink "FuseBoxModel" 13 "FuseBoxModel" "told" "[I" ∈ WL := mem_WL (t4_in (List.mem_of_getElem? (i := 121) rfl)) rfl
theorem wd598 : Cond.fieldLink "FuseBoxModel" 7 "FuseBoxModel" "slot" "[I" ∈ WL := mem_WL (t4_in (List.mem_of_getElem? (i := 120) rfl)) rfl
theorem wd599 : Cond.fieldLink "FuseBoxModel" 127 "FuseBoxModel" "latest" "I" ∈ WL := mem_WL (t4_in (List.mem_of_getElem? (i := 135) rfl)) rfl
theorem wd600 : Cond.constant "FuseBoxModel" 130 (-1000100) ∈ WL := mem_WL (t5_in (List.mem_of_getElem? (i := 27) rfl)) rfl
theorem wd601 : Cond.methodLink "FuseBoxModel" 134 yX12_isLive ∈ WL := mem_WL (t5_in (List.mem_of_getElem? (i := 58) rfl)) rfl
theorem wd602 : Cond.instanceMethod yX12_isLive ∈ WL := mem_WL (t5_in (List.mem_of_getElem? (i := 60) rfl)) rfl
theorem wd603 : Cond.selects "FuseBoxModel" yX12_isLive yX12_isLive ∈ WL := mem_WL (t0_in (List.mem_of_getElem? (i := 47) rfl)) rfl
theorem wd604 : Cond.code yX12_isLive cX12_isLive 3 (some .boolean) ∈ WL := mem_WL (t5_in (List.mem_of_getElem? (i := 61) rfl)) rfl
theorem wd605 : Cond.methodLink "FuseBoxModel" 138 yX12_runs ∈ WL := mem_WL (t5_in (List.mem_of_getElem? (i := 66) rfl)) rfl
theorem wd606 : Cond.instanceMethod yX12_runs ∈ WL := mem_WL (t5_in (List.mem_of_getElem? (i := 68) rfl)) rfl
theorem wd607 : Cond.selects "FuseBoxModel" yX12_runs yX12_runs ∈ WL := mem_WL (t0_in (List.mem_of_getElem? (i := 49) rfl)) rfl
theorem wd608 : Cond.code yX12_runs cX12_runs 3 (some .boolean) ∈ WL := mem_WL (t5_in (List.mem_of_getElem? (i := 69) rfl)) rfl
theorem wd609 : Cond.methodLink "FuseBoxModel" 141 yX12_larger ∈ WL := mem_WL (t5_in (List.mem_of_getElem? (i := 81) rfl)) rfl
theorem wd610 : Cond.static yX12_larger ∈ WL := mem_WL (t5_in (List.mem_of_getElem? (i := 82) rfl)) rfl
theorem wd611 : Cond.code yX12_larger cX12_larger 2 (some .int) ∈ WL := mem_WL (t5_in (List.mem_of_getElem? (i := 83) rfl)) rfl
theorem wd612 : Cond.methodLink "FuseBoxModel" 144 yX12_liveOnes ∈ WL := mem_WL (t5_in (List.mem_of_getElem? (i := 54) rfl)) rfl
theorem wd613 : Cond.instanceMethod yX12_liveOnes ∈ WL := mem_WL (t5_in (List.mem_of_getElem? (i := 56) rfl)) rfl
theorem wd614 : Cond.selects "FuseBoxModel" yX12_liveOnes yX12_liveOnes ∈ WL := mem_WL (t0_in (List.mem_of_getElem? (i := 46) rfl)) rfl
theorem wd615 : Cond.code yX12_liveOnes cX12_liveOnes 4 (some .int) ∈ WL := mem_WL (t5_in (List.mem_of_getElem? (i := 57) rfl)) rfl
theorem wd616 : Cond.constant "FuseBoxModel" 161 (99999) ∈ WL := mem_WL (t5_in (List.mem_of_getElem? (i := 84) rfl)) rfl
theorem wd617 : Cond.methodLink "FuseBoxModel" 150 yX12_has ∈ WL := mem_WL (t5_in (List.mem_of_getElem? (i := 70) rfl)) rfl
theorem wd618 : Cond.static yX12_has ∈ WL := mem_WL (t5_in (List.mem_of_getElem? (i := 71) rfl)) rfl
theorem wd619 : Cond.code yX12_has cX12_has 2 (some .boolean) ∈ WL := mem_WL (t5_in (List.mem_of_getElem? (i := 72) rfl)) rfl
theorem wd620 : Cond.methodLink "FuseBoxModel" 157 yX12_cools ∈ WL := mem_WL (t5_in (List.mem_of_getElem? (i := 77) rfl)) rfl
theorem wd621 : Cond.instanceMethod yX12_cools ∈ WL := mem_WL (t5_in (List.mem_of_getElem? (i := 79) rfl)) rfl
theorem wd622 : Cond.selects "FuseBoxModel" yX12_cools yX12_cools ∈ WL := mem_WL (t0_in (List.mem_of_getElem? (i := 51) rfl)) rfl
theorem wd623 : Cond.code yX12_cools cX12_cools 3 none ∈ WL := mem_WL (t5_in (List.mem_of_getElem? (i := 80) rfl)) rfl
theorem wd624 : Cond.fieldLink "FuseBoxModel" 50 "FuseBoxModel" "flows" "[I" ∈ WL := mem_WL (t4_in (List.mem_of_getElem? (i := 142) rfl)) rfl
theorem wd625 : Cond.methodLink "FuseBoxModel" 153 yX12_heats ∈ WL := mem_WL (t5_in (List.mem_of_getElem? (i := 73) rfl)) rfl
theorem wd626 : Cond.instanceMethod yX12_heats ∈ WL := mem_WL (t5_in (List.mem_of_getElem? (i := 75) rfl)) rfl
theorem wd627 : Cond.selects "FuseBoxModel" yX12_heats yX12_heats ∈ WL := mem_WL (t0_in (List.mem_of_getElem? (i := 50) rfl)) rfl
theorem wd628 : Cond.code yX12_heats cX12_heats 9 none ∈ WL := mem_WL (t5_in (List.mem_of_getElem? (i := 76) rfl)) rfl
theorem wd629 : Cond.methodLink "FuseBoxModel" 147 yX12_flowOf ∈ WL := mem_WL (t5_in (List.mem_of_getElem? (i := 62) rfl)) rfl
theorem wd630 : Cond.instanceMethod yX12_flowOf ∈ WL := mem_WL (t5_in (List.mem_of_getElem? (i := 64) rfl)) rfl
theorem wd631 : Cond.selects "FuseBoxModel" yX12_flowOf yX12_flowOf ∈ WL := mem_WL (t0_in (List.mem_of_getElem? (i := 48) rfl)) rfl
theorem wd632 : Cond.code yX12_flowOf cX12_flowOf 5 (some .int) ∈ WL := mem_WL (t5_in (List.mem_of_getElem? (i := 65) rfl)) rfl
theorem wd633 : Cond.methodLink "FuseBoxModel" 162 yX12_copies ∈ WL := mem_WL (t5_in (List.mem_of_getElem? (i := 46) rfl)) rfl
theorem wd634 : Cond.instanceMethod yX12_copies ∈ WL := mem_WL (t5_in (List.mem_of_getElem? (i := 48) rfl)) rfl
theorem wd635 : Cond.selects "FuseBoxModel" yX12_copies yX12_copies ∈ WL := mem_WL (t0_in (List.mem_of_getElem? (i := 44) rfl)) rfl
theorem wd636 : Cond.code yX12_copies cX12_copies 4 none ∈ WL := mem_WL (t5_in (List.mem_of_getElem? (i := 49) rfl)) rfl
theorem wd637 : Cond.methodLink "FuseBoxModel" 165 yX12_isHouse ∈ WL := mem_WL (t5_in (List.mem_of_getElem? (i := 36) rfl)) rfl
theorem wd638 : Cond.instanceMethod yX12_isHouse ∈ WL := mem_WL (t5_in (List.mem_of_getElem? (i := 38) rfl)) rfl
theorem wd639 : Cond.selects "FuseBoxModel" yX12_isHouse yX12_isHouse ∈ WL := mem_WL (t0_in (List.mem_of_getElem? (i := 42) rfl)) rfl
theorem wd640 : Cond.code yX12_isHouse cX12_isHouse 1 (some .boolean) ∈ WL := mem_WL (t5_in (List.mem_of_getElem? (i := 39) rfl)) rfl
theorem wd641 : Cond.constantLong "FuseBoxModel" 170 (24) ∈ WL := mem_WL (t5_in (List.mem_of_getElem? (i := 41) rfl)) rfl
theorem wd642 : Cond.methodLink "FuseBoxModel" 172 yX12_known ∈ WL := mem_WL (t5_in (List.mem_of_getElem? (i := 42) rfl)) rfl
theorem wd643 : Cond.instanceMethod yX12_known ∈ WL := mem_WL (t5_in (List.mem_of_getElem? (i := 44) rfl)) rfl
theorem wd644 : Cond.selects "FuseBoxModel" yX12_known yX12_known ∈ WL := mem_WL (t0_in (List.mem_of_getElem? (i := 43) rfl)) rfl
theorem wd645 : Cond.code yX12_known cX12_known 2 none ∈ WL := mem_WL (t5_in (List.mem_of_getElem? (i := 45) rfl)) rfl
theorem wd646 : Cond.methodLink "FuseBoxModel" 175 yX12_passes ∈ WL := mem_WL (t5_in (List.mem_of_getElem? (i := 50) rfl)) rfl
theorem wd647 : Cond.instanceMethod yX12_passes ∈ WL := mem_WL (t5_in (List.mem_of_getElem? (i := 52) rfl)) rfl
theorem wd648 : Cond.selects "FuseBoxModel" yX12_passes yX12_passes ∈ WL := mem_WL (t0_in (List.mem_of_getElem? (i := 45) rfl)) rfl
theorem wd649 : Cond.code yX12_passes cX12_passes 5 none ∈ WL := mem_WL (t5_in (List.mem_of_getElem? (i := 53) rfl)) rfl
theorem wd650 : Cond.constant "FuseBoxModel" 169 (-1000002) ∈ WL := mem_WL (t5_in (List.mem_of_getElem? (i := 40) rfl)) rfl
theorem wd651 : Cond.methodLink "FuseBoxModel" 178 yX12_isThing ∈ WL := mem_WL (t5_in (List.mem_of_getElem? (i := 89) rfl)) rfl
theorem wd652 : Cond.instanceMethod yX12_isThing ∈ WL := mem_WL (t5_in (List.mem_of_getElem? (i := 91) rfl)) rfl
theorem wd653 : Cond.selects "FuseBoxModel" yX12_isThing yX12_isThing ∈ WL := mem_WL (t0_in (List.mem_of_getElem? (i := 52) rfl)) rfl
theorem wd654 : Cond.code yX12_isThing cX12_isThing 2 (some .boolean) ∈ WL := mem_WL (t5_in (List.mem_of_getElem? (i := 92) rfl)) rfl
theorem wd655 : Cond.methodLink "FuseBoxModel" 182 yX12_running ∈ WL := mem_WL (t5_in (List.mem_of_getElem? (i := 93) rfl)) rfl
theorem wd656 : Cond.instanceMethod yX12_running ∈ WL := mem_WL (t5_in (List.mem_of_getElem? (i := 95) rfl)) rfl
theorem wd657 : Cond.selects "FuseBoxModel" yX12_running yX12_running ∈ WL := mem_WL (t0_in (List.mem_of_getElem? (i := 53) rfl)) rfl
theorem wd658 : Cond.code yX12_running cX12_running 4 (some .int) ∈ WL := mem_WL (t5_in (List.mem_of_getElem? (i := 96) rfl)) rfl
theorem wd659 : Cond.methodLink "FuseBoxModel" 185 yX12_isLine ∈ WL := mem_WL (t5_in (List.mem_of_getElem? (i := 101) rfl)) rfl
theorem wd660 : Cond.instanceMethod yX12_isLine ∈ WL := mem_WL (t5_in (List.mem_of_getElem? (i := 103) rfl)) rfl
theorem wd661 : Cond.selects "FuseBoxModel" yX12_isLine yX12_isLine ∈ WL := mem_WL (t0_in (List.mem_of_getElem? (i := 54) rfl)) rfl
theorem wd662 : Cond.code yX12_isLine cX12_isLine 2 (some .boolean) ∈ WL := mem_WL (t5_in (List.mem_of_getElem? (i := 104) rfl)) rfl
theorem wd663 : Cond.methodLink "FuseBoxModel" 188 yX12_mends ∈ WL := mem_WL (t5_in (List.mem_of_getElem? (i := 109) rfl)) rfl
theorem wd664 : Cond.instanceMethod yX12_mends ∈ WL := mem_WL (t5_in (List.mem_of_getElem? (i := 111) rfl)) rfl
theorem wd665 : Cond.selects "FuseBoxModel" yX12_mends yX12_mends ∈ WL := mem_WL (t0_in (List.mem_of_getElem? (i := 55) rfl)) rfl
theorem wd666 : Cond.code yX12_mends cX12_mends 3 none ∈ WL := mem_WL (t5_in (List.mem_of_getElem? (i := 112) rfl)) rfl
theorem wd667 : Cond.methodLink "FuseBoxModel" 191 yX12_deadOnes ∈ WL := mem_WL (t5_in (List.mem_of_getElem? (i := 113) rfl)) rfl
theorem wd668 : Cond.instanceMethod yX12_deadOnes ∈ WL := mem_WL (t5_in (List.mem_of_getElem? (i := 115) rfl)) rfl
theorem wd669 : Cond.selects "FuseBoxModel" yX12_deadOnes yX12_deadOnes ∈ WL := mem_WL (t0_in (List.mem_of_getElem? (i := 56) rfl)) rfl
theorem wd670 : Cond.code yX12_deadOnes cX12_deadOnes 3 (some .int) ∈ WL := mem_WL (t5_in (List.mem_of_getElem? (i := 116) rfl)) rfl
theorem wd671 : Cond.constantLong "FuseBoxModel" 194 (20) ∈ WL := mem_WL (t5_in (List.mem_of_getElem? (i := 125) rfl)) rfl
theorem wd672 : Cond.constantLong "FuseBoxModel" 196 (5) ∈ WL := mem_WL (t5_in (List.mem_of_getElem? (i := 134) rfl)) rfl
theorem wd673 : Cond.constantLong "FuseBoxModel" 198 (3) ∈ WL := mem_WL (t5_in (List.mem_of_getElem? (i := 139) rfl)) rfl
theorem wd674 : Cond.constantLong "FuseBoxModel" 200 (60) ∈ WL := mem_WL (t5_in (List.mem_of_getElem? (i := 144) rfl)) rfl
theorem wd675 : Cond.methodLink "FuseBoxModel" 202 yX12_goesOn ∈ WL := mem_WL (t5_in (List.mem_of_getElem? (i := 145) rfl)) rfl
theorem wd676 : Cond.instanceMethod yX12_goesOn ∈ WL := mem_WL (t5_in (List.mem_of_getElem? (i := 147) rfl)) rfl
theorem wd677 : Cond.selects "FuseBoxModel" yX12_goesOn yX12_goesOn ∈ WL := mem_WL (t0_in (List.mem_of_getElem? (i := 57) rfl)) rfl
theorem wd678 : Cond.code yX12_goesOn cX12_goesOn 3 none ∈ WL := mem_WL (t5_in (List.mem_of_getElem? (i := 148) rfl)) rfl
theorem wd679 : Cond.constant "FuseBoxModel" 205 (-1000000) ∈ WL := mem_WL (t5_in (List.mem_of_getElem? (i := 157) rfl)) rfl
theorem wd680 : Cond.constantLong "FuseBoxModel" 206 (30) ∈ WL := mem_WL (t5_in (List.mem_of_getElem? (i := 166) rfl)) rfl
theorem wd681 : Cond.methodLink "FuseBoxModel" 208 yX12_onOnes ∈ WL := mem_WL (t5_in (List.mem_of_getElem? (i := 167) rfl)) rfl
theorem wd682 : Cond.instanceMethod yX12_onOnes ∈ WL := mem_WL (t5_in (List.mem_of_getElem? (i := 169) rfl)) rfl
theorem wd683 : Cond.selects "FuseBoxModel" yX12_onOnes yX12_onOnes ∈ WL := mem_WL (t0_in (List.mem_of_getElem? (i := 58) rfl)) rfl
theorem wd684 : Cond.code yX12_onOnes cX12_onOnes 3 (some .int) ∈ WL := mem_WL (t5_in (List.mem_of_getElem? (i := 170) rfl)) rfl
theorem wd685 : Cond.methodLink "FuseBoxModel" 211 yX12_bits ∈ WL := mem_WL (t5_in (List.mem_of_getElem? (i := 171) rfl)) rfl
theorem wd686 : Cond.static yX12_bits ∈ WL := mem_WL (t5_in (List.mem_of_getElem? (i := 172) rfl)) rfl
theorem wd687 : Cond.code yX12_bits cX12_bits 3 (some .int) ∈ WL := mem_WL (t5_in (List.mem_of_getElem? (i := 173) rfl)) rfl
theorem wd688 : Cond.methodLink "FuseBoxModel" 214 yX12_offs ∈ WL := mem_WL (t5_in (List.mem_of_getElem? (i := 174) rfl)) rfl
theorem wd689 : Cond.instanceMethod yX12_offs ∈ WL := mem_WL (t5_in (List.mem_of_getElem? (i := 176) rfl)) rfl
theorem wd690 : Cond.selects "FuseBoxModel" yX12_offs yX12_offs ∈ WL := mem_WL (t0_in (List.mem_of_getElem? (i := 59) rfl)) rfl
theorem wd691 : Cond.code yX12_offs cX12_offs 3 none ∈ WL := mem_WL (t5_in (List.mem_of_getElem? (i := 177) rfl)) rfl
theorem wd692 : Cond.methodLink "FuseBoxModel" 217 yX12_isLiveFor ∈ WL := mem_WL (t5_in (List.mem_of_getElem? (i := 178) rfl)) rfl
theorem wd693 : Cond.instanceMethod yX12_isLiveFor ∈ WL := mem_WL (t5_in (List.mem_of_getElem? (i := 180) rfl)) rfl
theorem wd694 : Cond.selects "FuseBoxModel" yX12_isLiveFor yX12_isLiveFor ∈ WL := mem_WL (t0_in (List.mem_of_getElem? (i := 60) rfl)) rfl
theorem wd695 : Cond.code yX12_isLiveFor cX12_isLiveFor 5 (some .boolean) ∈ WL := mem_WL (t5_in (List.mem_of_getElem? (i := 181) rfl)) rfl
theorem wd696 : Cond.constantLong "FuseBoxModel" 220 (12) ∈ WL := mem_WL (t5_in (List.mem_of_getElem? (i := 186) rfl)) rfl
theorem wd697 : Cond.constantLong "FuseBoxModel" 222 (-1) ∈ WL := mem_WL (t5_in (List.mem_of_getElem? (i := 187) rfl)) rfl
theorem wd698 : Cond.methodLink "FuseBoxModel" 224 yX12_plugged ∈ WL := mem_WL (t5_in (List.mem_of_getElem? (i := 188) rfl)) rfl
theorem wd699 : Cond.instanceMethod yX12_plugged ∈ WL := mem_WL (t5_in (List.mem_of_getElem? (i := 190) rfl)) rfl
theorem wd700 : Cond.selects "FuseBoxModel" yX12_plugged yX12_plugged ∈ WL := mem_WL (t0_in (List.mem_of_getElem? (i := 61) rfl)) rfl
theorem wd701 : Cond.code yX12_plugged cX12_plugged 5 (some .int) ∈ WL := mem_WL (t5_in (List.mem_of_getElem? (i := 191) rfl)) rfl
theorem wd702 : Cond.methodLink "FuseBoxModel" 227 yX12_usedBehind ∈ WL := mem_WL (t5_in (List.mem_of_getElem? (i := 192) rfl)) rfl
theorem wd703 : Cond.instanceMethod yX12_usedBehind ∈ WL := mem_WL (t5_in (List.mem_of_getElem? (i := 194) rfl)) rfl
theorem wd704 : Cond.selects "FuseBoxModel" yX12_usedBehind yX12_usedBehind ∈ WL := mem_WL (t0_in (List.mem_of_getElem? (i := 62) rfl)) rfl
theorem wd705 : Cond.code yX12_usedBehind cX12_usedBehind 2 (some .int) ∈ WL := mem_WL (t5_in (List.mem_of_getElem? (i := 195) rfl)) rfl
theorem wd706 : Cond.constantLong "FuseBoxModel" 230 (999) ∈ WL := mem_WL (t5_in (List.mem_of_getElem? (i := 208) rfl)) rfl
theorem wd707 : Cond.methodLink "FuseBoxModel" 232 yX12_isSo ∈ WL := mem_WL (t5_in (List.mem_of_getElem? (i := 218) rfl)) rfl
theorem wd708 : Cond.instanceMethod yX12_isSo ∈ WL := mem_WL (t5_in (List.mem_of_getElem? (i := 220) rfl)) rfl
theorem wd709 : Cond.selects "FuseBoxModel" yX12_isSo yX12_isSo ∈ WL := mem_WL (t0_in (List.mem_of_getElem? (i := 64) rfl)) rfl
theorem wd710 : Cond.code yX12_isSo cX12_isSo 7 (some .boolean) ∈ WL := mem_WL (t5_in (List.mem_of_getElem? (i := 221) rfl)) rfl
theorem wd711 : Cond.constantLong "FuseBoxModel" 236 (4) ∈ WL := mem_WL (t5_in (List.mem_of_getElem? (i := 213) rfl)) rfl
theorem wd712 : Cond.methodLink "FuseBoxModel" 242 yX12_mainsThat ∈ WL := mem_WL (t5_in (List.mem_of_getElem? (i := 222) rfl)) rfl
theorem wd713 : Cond.instanceMethod yX12_mainsThat ∈ WL := mem_WL (t5_in (List.mem_of_getElem? (i := 224) rfl)) rfl
theorem wd714 : Cond.selects "FuseBoxModel" yX12_mainsThat yX12_mainsThat ∈ WL := mem_WL (t0_in (List.mem_of_getElem? (i := 65) rfl)) rfl
theorem wd715 : Cond.code yX12_mainsThat cX12_mainsThat 11 (some .int) ∈ WL := mem_WL (t5_in (List.mem_of_getElem? (i := 225) rfl)) rfl
theorem wd716 : Cond.methodLink "FuseBoxModel" 238 yX12_sorts ∈ WL := mem_WL (t5_in (List.mem_of_getElem? (i := 214) rfl)) rfl
theorem wd717 : Cond.instanceMethod yX12_sorts ∈ WL := mem_WL (t5_in (List.mem_of_getElem? (i := 216) rfl)) rfl
theorem wd718 : Cond.selects "FuseBoxModel" yX12_sorts yX12_sorts ∈ WL := mem_WL (t0_in (List.mem_of_getElem? (i := 63) rfl)) rfl
theorem wd719 : Cond.code yX12_sorts cX12_sorts 9 (some .int) ∈ WL := mem_WL (t5_in (List.mem_of_getElem? (i := 217) rfl)) rfl
theorem wd720 : Cond.constantLong "FuseBoxModel" 246 (10) ∈ WL := mem_WL (t5_in (List.mem_of_getElem? (i := 230) rfl)) rfl
theorem wd721 : Cond.constantLong "FuseBoxModel" 248 (999999) ∈ WL := mem_WL (t5_in (List.mem_of_getElem? (i := 235) rfl)) rfl
theorem wd722 : Cond.constantLong "FuseBoxModel" 250 (16807) ∈ WL := mem_WL (t5_in (List.mem_of_getElem? (i := 236) rfl)) rfl
theorem wd723 : Cond.constantLong "FuseBoxModel" 252 (2147483647) ∈ WL := mem_WL (t5_in (List.mem_of_getElem? (i := 237) rfl)) rfl
theorem wd724 : Cond.fieldLink "FuseBoxModel" 16 "FuseBoxModel" "kept" "[I" ∈ WL := mem_WL (t4_in (List.mem_of_getElem? (i := 122) rfl)) rfl
theorem wd725 : Cond.fieldLink "FuseBoxModel" 254 "FuseBoxModel" "traces" "I" ∈ WL := mem_WL (t4_in (List.mem_of_getElem? (i := 140) rfl)) rfl
theorem wd726 : Cond.fieldLink "FuseBoxModel" 47 "FuseBoxModel" "traced" "[I" ∈ WL := mem_WL (t4_in (List.mem_of_getElem? (i := 141) rfl)) rfl
theorem wd727 : Cond.methodLink "FuseBoxModel" 257 yX12_leaves ∈ WL := mem_WL (t6_in (List.mem_of_getElem? (i := 22) rfl)) rfl
theorem wd728 : Cond.instanceMethod yX12_leaves ∈ WL := mem_WL (t6_in (List.mem_of_getElem? (i := 24) rfl)) rfl
theorem wd729 : Cond.selects "FuseBoxModel" yX12_leaves yX12_leaves ∈ WL := mem_WL (t0_in (List.mem_of_getElem? (i := 67) rfl)) rfl
theorem wd730 : Cond.code yX12_leaves cX12_leaves 2 none ∈ WL := mem_WL (t6_in (List.mem_of_getElem? (i := 25) rfl)) rfl
theorem wd731 : Cond.methodLink "FuseBoxModel" 260 yX12_lent ∈ WL := mem_WL (t6_in (List.mem_of_getElem? (i := 26) rfl)) rfl
theorem wd732 : Cond.instanceMethod yX12_lent ∈ WL := mem_WL (t6_in (List.mem_of_getElem? (i := 28) rfl)) rfl
theorem wd733 : Cond.selects "FuseBoxModel" yX12_lent yX12_lent ∈ WL := mem_WL (t0_in (List.mem_of_getElem? (i := 68) rfl)) rfl
theorem wd734 : Cond.code yX12_lent cX12_lent 3 (some .int) ∈ WL := mem_WL (t6_in (List.mem_of_getElem? (i := 29) rfl)) rfl
theorem wd735 : Cond.methodLink "FuseBoxModel" 264 yX12_wireMark ∈ WL := mem_WL (t6_in (List.mem_of_getElem? (i := 30) rfl)) rfl
theorem wd736 : Cond.instanceMethod yX12_wireMark ∈ WL := mem_WL (t6_in (List.mem_of_getElem? (i := 32) rfl)) rfl
theorem wd737 : Cond.selects "FuseBoxModel" yX12_wireMark yX12_wireMark ∈ WL := mem_WL (t0_in (List.mem_of_getElem? (i := 69) rfl)) rfl
theorem wd738 : Cond.code yX12_wireMark cX12_wireMark 4 (some .int) ∈ WL := mem_WL (t6_in (List.mem_of_getElem? (i := 33) rfl)) rfl
theorem wd739 : Cond.methodLink "FuseBoxModel" 267 yX12_breakerSize ∈ WL := mem_WL (t6_in (List.mem_of_getElem? (i := 34) rfl)) rfl
theorem wd740 : Cond.instanceMethod yX12_breakerSize ∈ WL := mem_WL (t6_in (List.mem_of_getElem? (i := 36) rfl)) rfl
theorem wd741 : Cond.selects "FuseBoxModel" yX12_breakerSize yX12_breakerSize ∈ WL := mem_WL (t0_in (List.mem_of_getElem? (i := 70) rfl)) rfl
theorem wd742 : Cond.code yX12_breakerSize cX12_breakerSize 4 (some .int) ∈ WL := mem_WL (t6_in (List.mem_of_getElem? (i := 37) rfl)) rfl
theorem wd743 : Cond.methodLink "FuseBoxModel" 273 yX12_breakerMark ∈ WL := mem_WL (t6_in (List.mem_of_getElem? (i := 38) rfl)) rfl
theorem wd744 : Cond.instanceMethod yX12_breakerMark ∈ WL := mem_WL (t6_in (List.mem_of_getElem? (i := 40) rfl)) rfl
theorem wd745 : Cond.selects "FuseBoxModel" yX12_breakerMark yX12_breakerMark ∈ WL := mem_WL (t0_in (List.mem_of_getElem? (i := 71) rfl)) rfl
theorem wd746 : Cond.code yX12_breakerMark cX12_breakerMark 4 (some .int) ∈ WL := mem_WL (t6_in (List.mem_of_getElem? (i := 41) rfl)) rfl
theorem wd747 : Cond.methodLink "FuseBoxModel" 270 yX12_wireSize ∈ WL := mem_WL (t6_in (List.mem_of_getElem? (i := 18) rfl)) rfl
theorem wd748 : Cond.instanceMethod yX12_wireSize ∈ WL := mem_WL (t6_in (List.mem_of_getElem? (i := 20) rfl)) rfl
theorem wd749 : Cond.selects "FuseBoxModel" yX12_wireSize yX12_wireSize ∈ WL := mem_WL (t0_in (List.mem_of_getElem? (i := 66) rfl)) rfl
theorem wd750 : Cond.code yX12_wireSize cX12_wireSize 4 (some .int) ∈ WL := mem_WL (t6_in (List.mem_of_getElem? (i := 21) rfl)) rfl
theorem wd751 : Cond.constantLong "FuseBoxModel" 276 (9) ∈ WL := mem_WL (t6_in (List.mem_of_getElem? (i := 50) rfl)) rfl
theorem gc0 : GoodIn WL (wsV "FuseBox$Breaker" 9 "FuseBox$Breaker" yX0_deadIfOver (Cond.code yX0_deadIfOver cX0_deadIfOver 1 (some .int) :: WL)) := gin_V wd0 wd1 wd2 wd3 wd4
theorem gc1 : (yX0_deadIfOver).cls = "FuseBox$Breaker" ∧ (yX0_deadIfOver).cls ≠ "java/lang/invoke/MethodHandle" ∧ (yX0_deadIfOver).cls ≠ "java/lang/invoke/VarHandle" ∧ (parseMethodDescriptor (yX0_deadIfOver).desc).map (fun d => d.parameters.length) = some 0 := by decide +kernel
theorem gc2 : GoodIn WL (va_wsO "FuseBox$Breaker" 9 "FuseBox$Coil" "FuseBox$Breaker" yX0_deadIfOver yX1_deadIfOver (Cond.code yX1_deadIfOver cX1_deadIfOver 1 (some .int) :: WL)) := gin_O wd0 wd5 wd1 wd6 wd7 wd8 wd9
theorem gc3 : ("FuseBox$Breaker" : String) ≠ "java/lang/invoke/MethodHandle" ∧ ("FuseBox$Breaker" : String) ≠ "java/lang/invoke/VarHandle" ∧ (parseMethodDescriptor (yX0_deadIfOver).desc).map (fun d => d.parameters.length) = some 0 := by decide +kernel
theorem gc4 : GoodIn WL (wsV "FuseBox$Fuse" 7 "FuseBox$Trace" yX9_leave (Cond.code yX9_leave cX9_leave 2 none :: WL)) := gin_V wd12 wd13 wd14 wd15 wd16
theorem gc5 : (yX9_leave).cls = "FuseBox$Trace" ∧ (yX9_leave).cls ≠ "java/lang/invoke/MethodHandle" ∧ (yX9_leave).cls ≠ "java/lang/invoke/VarHandle" ∧ (parseMethodDescriptor (yX9_leave).desc).map (fun d => d.parameters.length) = some 1 := by decide +kernel
theorem gc6 : GoodIn WL (wsV "FuseBox$Breaker" 15 "FuseBox$Trace" yX9_leave (Cond.code yX9_leave cX9_leave 2 none :: WL)) := gin_V wd18 wd13 wd14 wd15 wd16
theorem gc7 : GoodIn WL (va_wsSU "FuseBox$Breaker" 21 yX2_sizeOf (Cond.code yX2_sizeOf cX2_sizeOf 4 (some .int) :: WL)) := gin_SU wd19 wd20 wd21 wd22 wd23 wd24
theorem gc8 : (yX2_sizeOf).name ≠ "<init>" ∧ (parseMethodDescriptor (yX2_sizeOf).desc).map (fun d => d.parameters.length) = some 3 := by decide +kernel
theorem gc9 : GoodIn WL (va_wsSU "FuseBox$Breaker" 25 yX2_markOf (Cond.code yX2_markOf cX2_markOf 4 (some .int) :: WL)) := gin_SU wd25 wd26 wd21 wd27 wd23 wd28
theorem gc10 : (yX2_markOf).name ≠ "<init>" ∧ (parseMethodDescriptor (yX2_markOf).desc).map (fun d => d.parameters.length) = some 3 := by decide +kernel
theorem gc11 : GoodIn WL (wsV "FuseBox$Breaker" 28 "FuseBox$Breaker" yX0_sizeOf (Cond.code yX0_sizeOf cX0_sizeOf 4 (some .int) :: WL)) := gin_V wd29 wd30 wd31 wd3 wd32
theorem gc12 : (yX0_sizeOf).cls = "FuseBox$Breaker" ∧ (yX0_sizeOf).cls ≠ "java/lang/invoke/MethodHandle" ∧ (yX0_sizeOf).cls ≠ "java/lang/invoke/VarHandle" ∧ (parseMethodDescriptor (yX0_sizeOf).desc).map (fun d => d.parameters.length) = some 3 := by decide +kernel
theorem gc13 : GoodIn WL (wsV "FuseBox$Coil" 9 "FuseBox$Trace" yX9_leave (Cond.code yX9_leave cX9_leave 2 none :: WL)) := gin_V wd33 wd13 wd14 wd15 wd16
theorem gc14 : GoodIn WL (va_wsSU "FuseBox$Coil" 15 yX0_sizeOf (Cond.code yX0_sizeOf cX0_sizeOf 4 (some .int) :: WL)) := gin_SU wd34 wd35 wd36 wd30 wd3 wd32
theorem gc15 : (yX0_sizeOf).name ≠ "<init>" ∧ (parseMethodDescriptor (yX0_sizeOf).desc).map (fun d => d.parameters.length) = some 3 := by decide +kernel
theorem gc16 : GoodIn WL (va_wsO "FuseBox$Breaker" 28 "FuseBox$Coil" "FuseBox$Breaker" yX0_sizeOf yX1_sizeOf (Cond.code yX1_sizeOf cX1_sizeOf 4 (some .int) :: WL)) := gin_O wd29 wd35 wd30 wd37 wd38 wd8 wd39
theorem gc17 : ("FuseBox$Breaker" : String) ≠ "java/lang/invoke/MethodHandle" ∧ ("FuseBox$Breaker" : String) ≠ "java/lang/invoke/VarHandle" ∧ (parseMethodDescriptor (yX0_sizeOf).desc).map (fun d => d.parameters.length) = some 3 := by decide +kernel
theorem gc18 : GoodIn WL (wsV "FuseBox$House" 66 "FuseBox$House" yX3_isOn (Cond.code yX3_isOn cX3_isOn 2 (some .boolean) :: WL)) := gin_V wd58 wd59 wd60 wd61 wd62
theorem gc19 : (yX3_isOn).cls = "FuseBox$House" ∧ (yX3_isOn).cls ≠ "java/lang/invoke/MethodHandle" ∧ (yX3_isOn).cls ≠ "java/lang/invoke/VarHandle" ∧ (parseMethodDescriptor (yX3_isOn).desc).map (fun d => d.parameters.length) = some 1 := by decide +kernel
theorem gc20 : GoodIn WL (wsV "FuseBox$House" 70 "FuseBox$House" yX3_isLive (Cond.code yX3_isLive cX3_isLive 2 (some .boolean) :: WL)) := gin_V wd63 wd64 wd65 wd61 wd66
theorem gc21 : (yX3_isLive).cls = "FuseBox$House" ∧ (yX3_isLive).cls ≠ "java/lang/invoke/MethodHandle" ∧ (yX3_isLive).cls ≠ "java/lang/invoke/VarHandle" ∧ (parseMethodDescriptor (yX3_isLive).desc).map (fun d => d.parameters.length) = some 1 := by decide +kernel
theorem gc22 : GoodIn WL (wsV "FuseBox$House" 73 "FuseBox$House" yX3_isDead (Cond.code yX3_isDead cX3_isDead 2 (some .boolean) :: WL)) := gin_V wd67 wd68 wd69 wd61 wd70
theorem gc23 : (yX3_isDead).cls = "FuseBox$House" ∧ (yX3_isDead).cls ≠ "java/lang/invoke/MethodHandle" ∧ (yX3_isDead).cls ≠ "java/lang/invoke/VarHandle" ∧ (parseMethodDescriptor (yX3_isDead).desc).map (fun d => d.parameters.length) = some 1 := by decide +kernel
theorem gc24 : GoodIn WL (wsV "FuseBox$House" 76 "FuseBox$House" yX3_runs (Cond.code yX3_runs cX3_runs 2 (some .boolean) :: WL)) := gin_V wd71 wd72 wd73 wd61 wd74
theorem gc25 : (yX3_runs).cls = "FuseBox$House" ∧ (yX3_runs).cls ≠ "java/lang/invoke/MethodHandle" ∧ (yX3_runs).cls ≠ "java/lang/invoke/VarHandle" ∧ (parseMethodDescriptor (yX3_runs).desc).map (fun d => d.parameters.length) = some 1 := by decide +kernel
theorem gc26 : GoodIn WL (wsV "FuseBox$House" 79 "FuseBox$House" yX3_reckonFlows (Cond.code yX3_reckonFlows cX3_reckonFlows 3 (some .int) :: WL)) := gin_V wd76 wd77 wd78 wd61 wd79
theorem gc27 : (yX3_reckonFlows).cls = "FuseBox$House" ∧ (yX3_reckonFlows).cls ≠ "java/lang/invoke/MethodHandle" ∧ (yX3_reckonFlows).cls ≠ "java/lang/invoke/VarHandle" ∧ (parseMethodDescriptor (yX3_reckonFlows).desc).map (fun d => d.parameters.length) = some 0 := by decide +kernel
theorem gc28 : GoodIn WL (wsV "FuseBox$Wire" 9 "FuseBox$Wire" yX10_heatBy (Cond.code yX10_heatBy cX10_heatBy 2 (some .int) :: WL)) := gin_V wd84 wd85 wd86 wd87 wd88
theorem gc29 : (yX10_heatBy).cls = "FuseBox$Wire" ∧ (yX10_heatBy).cls ≠ "java/lang/invoke/MethodHandle" ∧ (yX10_heatBy).cls ≠ "java/lang/invoke/VarHandle" ∧ (parseMethodDescriptor (yX10_heatBy).desc).map (fun d => d.parameters.length) = some 1 := by decide +kernel
theorem gc30 : GoodIn WL (va_wsO "FuseBox$Wire" 9 "FuseBox$Slow" "FuseBox$Wire" yX10_heatBy yX8_heatBy (Cond.code yX8_heatBy cX8_heatBy 2 (some .int) :: WL)) := gin_O wd84 wd92 wd85 wd93 wd94 wd95 wd96
theorem gc31 : ("FuseBox$Wire" : String) ≠ "java/lang/invoke/MethodHandle" ∧ ("FuseBox$Wire" : String) ≠ "java/lang/invoke/VarHandle" ∧ (parseMethodDescriptor (yX10_heatBy).desc).map (fun d => d.parameters.length) = some 1 := by decide +kernel
theorem gc32 : GoodIn WL (va_wsU "FuseBox$Wire" 9 "FuseBox$Quick" "FuseBox$Wire" yX10_heatBy yX10_heatBy (Cond.code yX10_heatBy cX10_heatBy 2 (some .int) :: WL)) := gin_U wd84 wd92 wd97 wd85 wd87 wd88
theorem gc33 : GoodIn WL (va_wsSU "FuseBox$Quick" 9 yX10_deadBehind (Cond.code yX10_deadBehind cX10_deadBehind 4 (some .int) :: WL)) := gin_SU wd98 wd99 wd100 wd101 wd87 wd102
theorem gc34 : (yX10_deadBehind).name ≠ "<init>" ∧ (parseMethodDescriptor (yX10_deadBehind).desc).map (fun d => d.parameters.length) = some 3 := by decide +kernel
theorem gc35 : GoodIn WL (wsV "FuseBox$House" 94 "FuseBox$House" yX3_fuseOf (Cond.code yX3_fuseOf cX3_fuseOf 2 (some (.object "FuseBox$Fuse")) :: WL)) := gin_V wd104 wd105 wd106 wd61 wd107
theorem gc36 : (yX3_fuseOf).cls = "FuseBox$House" ∧ (yX3_fuseOf).cls ≠ "java/lang/invoke/MethodHandle" ∧ (yX3_fuseOf).cls ≠ "java/lang/invoke/VarHandle" ∧ (parseMethodDescriptor (yX3_fuseOf).desc).map (fun d => d.parameters.length) = some 1 := by decide +kernel
theorem gc37 : GoodIn WL (va_wsU "FuseBox$House" 98 "FuseBox$Wire" "FuseBox$Fuse" (⟨"FuseBox$Fuse", "heatBehind", "(II)I"⟩ : MethodName) yX10_heatBehind (Cond.code yX10_heatBehind cX10_heatBehind 3 (some .int) :: WL)) := gin_U wd108 wd109 wd110 wd111 wd87 wd112
theorem gc38 : ("FuseBox$Fuse" : String) ≠ "java/lang/invoke/MethodHandle" ∧ ("FuseBox$Fuse" : String) ≠ "java/lang/invoke/VarHandle" ∧ (parseMethodDescriptor ((⟨"FuseBox$Fuse", "heatBehind", "(II)I"⟩ : MethodName)).desc).map (fun d => d.parameters.length) = some 2 := by decide +kernel
theorem gc39 : GoodIn WL (va_wsU "FuseBox$House" 98 "FuseBox$Slow" "FuseBox$Fuse" (⟨"FuseBox$Fuse", "heatBehind", "(II)I"⟩ : MethodName) yX10_heatBehind (Cond.code yX10_heatBehind cX10_heatBehind 3 (some .int) :: WL)) := gin_U wd108 wd109 wd113 wd111 wd87 wd112
theorem gc40 : GoodIn WL (va_wsU "FuseBox$House" 98 "FuseBox$Quick" "FuseBox$Fuse" (⟨"FuseBox$Fuse", "heatBehind", "(II)I"⟩ : MethodName) yX10_heatBehind (Cond.code yX10_heatBehind cX10_heatBehind 3 (some .int) :: WL)) := gin_U wd108 wd109 wd114 wd111 wd87 wd112
theorem gc41 : GoodIn WL (va_wsU "FuseBox$House" 98 "FuseBox$Breaker" "FuseBox$Fuse" (⟨"FuseBox$Fuse", "heatBehind", "(II)I"⟩ : MethodName) yX0_heatBehind (Cond.code yX0_heatBehind cX0_heatBehind 3 (some .int) :: WL)) := gin_U wd108 wd109 wd115 wd116 wd3 wd117
theorem gc42 : GoodIn WL (va_wsU "FuseBox$House" 98 "FuseBox$Coil" "FuseBox$Fuse" (⟨"FuseBox$Fuse", "heatBehind", "(II)I"⟩ : MethodName) yX0_heatBehind (Cond.code yX0_heatBehind cX0_heatBehind 3 (some .int) :: WL)) := gin_U wd108 wd109 wd118 wd116 wd3 wd117
theorem gc43 : GoodIn WL (va_wsU "FuseBox$House" 103 "FuseBox$Wire" "FuseBox$Fuse" (⟨"FuseBox$Fuse", "deadBehind", "(III)I"⟩ : MethodName) yX10_deadBehind (Cond.code yX10_deadBehind cX10_deadBehind 4 (some .int) :: WL)) := gin_U wd119 wd120 wd121 wd101 wd87 wd102
theorem gc44 : ("FuseBox$Fuse" : String) ≠ "java/lang/invoke/MethodHandle" ∧ ("FuseBox$Fuse" : String) ≠ "java/lang/invoke/VarHandle" ∧ (parseMethodDescriptor ((⟨"FuseBox$Fuse", "deadBehind", "(III)I"⟩ : MethodName)).desc).map (fun d => d.parameters.length) = some 3 := by decide +kernel
theorem gc45 : GoodIn WL (va_wsU "FuseBox$House" 103 "FuseBox$Slow" "FuseBox$Fuse" (⟨"FuseBox$Fuse", "deadBehind", "(III)I"⟩ : MethodName) yX10_deadBehind (Cond.code yX10_deadBehind cX10_deadBehind 4 (some .int) :: WL)) := gin_U wd119 wd120 wd122 wd101 wd87 wd102
theorem gc46 : GoodIn WL (va_wsU "FuseBox$House" 103 "FuseBox$Quick" "FuseBox$Fuse" (⟨"FuseBox$Fuse", "deadBehind", "(III)I"⟩ : MethodName) yX5_deadBehind (Cond.code yX5_deadBehind cX5_deadBehind 4 (some .int) :: WL)) := gin_U wd119 wd120 wd123 wd124 wd125 wd126
theorem gc47 : GoodIn WL (va_wsU "FuseBox$House" 103 "FuseBox$Breaker" "FuseBox$Fuse" (⟨"FuseBox$Fuse", "deadBehind", "(III)I"⟩ : MethodName) yX0_deadBehind (Cond.code yX0_deadBehind cX0_deadBehind 4 (some .int) :: WL)) := gin_U wd119 wd120 wd127 wd128 wd3 wd129
theorem gc48 : GoodIn WL (va_wsU "FuseBox$House" 103 "FuseBox$Coil" "FuseBox$Fuse" (⟨"FuseBox$Fuse", "deadBehind", "(III)I"⟩ : MethodName) yX0_deadBehind (Cond.code yX0_deadBehind cX0_deadBehind 4 (some .int) :: WL)) := gin_U wd119 wd120 wd130 wd128 wd3 wd129
theorem gc49 : GoodIn WL (wsV "FuseBox$House" 83 "FuseBox$House" yX3_passLine (Cond.code yX3_passLine cX3_passLine 4 none :: WL)) := gin_V wd133 wd134 wd135 wd61 wd136
theorem gc50 : (yX3_passLine).cls = "FuseBox$House" ∧ (yX3_passLine).cls ≠ "java/lang/invoke/MethodHandle" ∧ (yX3_passLine).cls ≠ "java/lang/invoke/VarHandle" ∧ (parseMethodDescriptor (yX3_passLine).desc).map (fun d => d.parameters.length) = some 2 := by decide +kernel
theorem gc51 : GoodIn WL (wsV "FuseBox$House" 110 "FuseBox$House" yX3_passMinute (Cond.code yX3_passMinute cX3_passMinute 3 none :: WL)) := gin_V wd137 wd138 wd139 wd61 wd140
theorem gc52 : (yX3_passMinute).cls = "FuseBox$House" ∧ (yX3_passMinute).cls ≠ "java/lang/invoke/MethodHandle" ∧ (yX3_passMinute).cls ≠ "java/lang/invoke/VarHandle" ∧ (parseMethodDescriptor (yX3_passMinute).desc).map (fun d => d.parameters.length) = some 0 := by decide +kernel
theorem gc53 : GoodIn WL (wsV "FuseBox$House" 124 "FuseBox$House" yX3_mendLine (Cond.code yX3_mendLine cX3_mendLine 2 none :: WL)) := gin_V wd141 wd142 wd143 wd61 wd144
theorem gc54 : (yX3_mendLine).cls = "FuseBox$House" ∧ (yX3_mendLine).cls ≠ "java/lang/invoke/MethodHandle" ∧ (yX3_mendLine).cls ≠ "java/lang/invoke/VarHandle" ∧ (parseMethodDescriptor (yX3_mendLine).desc).map (fun d => d.parameters.length) = some 1 := by decide +kernel
theorem gc55 : GoodIn WL (wsV "FuseBox$House" 121 "FuseBox$House" yX3_mendAll (Cond.code yX3_mendAll cX3_mendAll 2 none :: WL)) := gin_V wd147 wd148 wd149 wd61 wd150
theorem gc56 : (yX3_mendAll).cls = "FuseBox$House" ∧ (yX3_mendAll).cls ≠ "java/lang/invoke/MethodHandle" ∧ (yX3_mendAll).cls ≠ "java/lang/invoke/VarHandle" ∧ (parseMethodDescriptor (yX3_mendAll).desc).map (fun d => d.parameters.length) = some 0 := by decide +kernel
theorem gc57 : GoodIn WL (wsV "FuseBox$House" 115 "FuseBox$House" yX3_toggle (Cond.code yX3_toggle cX3_toggle 2 none :: WL)) := gin_V wd151 wd152 wd153 wd61 wd154
theorem gc58 : (yX3_toggle).cls = "FuseBox$House" ∧ (yX3_toggle).cls ≠ "java/lang/invoke/MethodHandle" ∧ (yX3_toggle).cls ≠ "java/lang/invoke/VarHandle" ∧ (parseMethodDescriptor (yX3_toggle).desc).map (fun d => d.parameters.length) = some 1 := by decide +kernel
theorem gc59 : GoodIn WL (wsV "FuseBox$Plugging" 47 "FuseBox$House" yX3_loadThatIsOn (Cond.code yX3_loadThatIsOn cX3_loadThatIsOn 3 (some .int) :: WL)) := gin_V wd156 wd157 wd158 wd61 wd159
theorem gc60 : (yX3_loadThatIsOn).cls = "FuseBox$House" ∧ (yX3_loadThatIsOn).cls ≠ "java/lang/invoke/MethodHandle" ∧ (yX3_loadThatIsOn).cls ≠ "java/lang/invoke/VarHandle" ∧ (parseMethodDescriptor (yX3_loadThatIsOn).desc).map (fun d => d.parameters.length) = some 0 := by decide +kernel
theorem gc61 : GoodIn WL (wsV "FuseBox$Plugging" 51 "FuseBox$House" yX3_liveMinutes (Cond.code yX3_liveMinutes cX3_liveMinutes 9 (some .int) :: WL)) := gin_V wd162 wd163 wd164 wd61 wd165
theorem gc62 : (yX3_liveMinutes).cls = "FuseBox$House" ∧ (yX3_liveMinutes).cls ≠ "java/lang/invoke/MethodHandle" ∧ (yX3_liveMinutes).cls ≠ "java/lang/invoke/VarHandle" ∧ (parseMethodDescriptor (yX3_liveMinutes).desc).map (fun d => d.parameters.length) = some 3 := by decide +kernel
theorem gc63 : GoodIn WL (wsV "FuseBox$Plugging" 80 "FuseBox$Plugging" yX4_liveMinutes (Cond.code yX4_liveMinutes cX4_liveMinutes 2 (some .int) :: WL)) := gin_V wd172 wd173 wd174 wd175 wd176
theorem gc64 : (yX4_liveMinutes).cls = "FuseBox$Plugging" ∧ (yX4_liveMinutes).cls ≠ "java/lang/invoke/MethodHandle" ∧ (yX4_liveMinutes).cls ≠ "java/lang/invoke/VarHandle" ∧ (parseMethodDescriptor (yX4_liveMinutes).desc).map (fun d => d.parameters.length) = some 1 := by decide +kernel
theorem gc65 : GoodIn WL (wsV "FuseBox$Plugging" 91 "FuseBox$Plugging" yX4_usedUntilMainIsOut (Cond.code yX4_usedUntilMainIsOut cX4_usedUntilMainIsOut 5 (some .int) :: WL)) := gin_V wd177 wd178 wd179 wd175 wd180
theorem gc66 : (yX4_usedUntilMainIsOut).cls = "FuseBox$Plugging" ∧ (yX4_usedUntilMainIsOut).cls ≠ "java/lang/invoke/MethodHandle" ∧ (yX4_usedUntilMainIsOut).cls ≠ "java/lang/invoke/VarHandle" ∧ (parseMethodDescriptor (yX4_usedUntilMainIsOut).desc).map (fun d => d.parameters.length) = some 0 := by decide +kernel
theorem gc67 : GoodIn WL (va_wsS "FuseBox$Plugging" 83 yJ6_bitCount_0f7a4 (Cond.code yJ6_bitCount_0f7a4 cJ6_bitCount_0f7a4 1 (some .int) :: WL)) := gin_S wd181 wd182 wd183 wd184
theorem gc68 : (yJ6_bitCount_0f7a4).cls ≠ "java/lang/invoke/MethodHandle" ∧ (yJ6_bitCount_0f7a4).cls ≠ "java/lang/invoke/VarHandle" ∧ (parseMethodDescriptor (yJ6_bitCount_0f7a4).desc).map (fun d => d.parameters.length) = some 1 := by decide +kernel
theorem gc69 : GoodIn WL (wsV "FuseBox$Plugging" 71 "FuseBox$Plugging" yX4_usedThen (Cond.code yX4_usedThen cX4_usedThen 4 (some .int) :: WL)) := gin_V wd185 wd186 wd187 wd175 wd188
theorem gc70 : (yX4_usedThen).cls = "FuseBox$Plugging" ∧ (yX4_usedThen).cls ≠ "java/lang/invoke/MethodHandle" ∧ (yX4_usedThen).cls ≠ "java/lang/invoke/VarHandle" ∧ (parseMethodDescriptor (yX4_usedThen).desc).map (fun d => d.parameters.length) = some 0 := by decide +kernel
theorem gc71 : GoodIn WL (wsV "FuseBox$Plugging" 58 "FuseBox$Plugging" yX4_weigh (Cond.code yX4_weigh cX4_weigh 2 none :: WL)) := gin_V wd194 wd195 wd196 wd175 wd197
theorem gc72 : (yX4_weigh).cls = "FuseBox$Plugging" ∧ (yX4_weigh).cls ≠ "java/lang/invoke/MethodHandle" ∧ (yX4_weigh).cls ≠ "java/lang/invoke/VarHandle" ∧ (parseMethodDescriptor (yX4_weigh).desc).map (fun d => d.parameters.length) = some 0 := by decide +kernel
theorem gc73 : GoodIn WL (wsV "FuseBox$Plugging" 61 "FuseBox$House" yX3_isOn (Cond.code yX3_isOn cX3_isOn 2 (some .boolean) :: WL)) := gin_V wd198 wd59 wd60 wd61 wd62
theorem gc74 : GoodIn WL (wsV "FuseBox$Plugging" 44 "FuseBox$Plugging" yX4_plugFrom (Cond.code yX4_plugFrom cX4_plugFrom 3 none :: WL)) := gin_V wd200 wd201 wd202 wd175 wd203
theorem gc75 : (yX4_plugFrom).cls = "FuseBox$Plugging" ∧ (yX4_plugFrom).cls ≠ "java/lang/invoke/MethodHandle" ∧ (yX4_plugFrom).cls ≠ "java/lang/invoke/VarHandle" ∧ (parseMethodDescriptor (yX4_plugFrom).desc).map (fun d => d.parameters.length) = some 1 := by decide +kernel
theorem gc76 : GoodIn WL (wsV "FuseBox$Plugging" 40 "FuseBox$Plugging" yX4_foretellLine (Cond.code yX4_foretellLine cX4_foretellLine 4 none :: WL)) := gin_V wd205 wd206 wd207 wd175 wd208
theorem gc77 : (yX4_foretellLine).cls = "FuseBox$Plugging" ∧ (yX4_foretellLine).cls ≠ "java/lang/invoke/MethodHandle" ∧ (yX4_foretellLine).cls ≠ "java/lang/invoke/VarHandle" ∧ (parseMethodDescriptor (yX4_foretellLine).desc).map (fun d => d.parameters.length) = some 1 := by decide +kernel
theorem gc78 : GoodIn WL (wsV "FuseBox$Wire" 24 "FuseBox$Trace" yX9_leave (Cond.code yX9_leave cX9_leave 2 none :: WL)) := gin_V wd209 wd13 wd14 wd15 wd16
theorem gc79 : GoodIn WL (va_wsSU "FuseBox$Wire" 37 yX2_markOf (Cond.code yX2_markOf cX2_markOf 4 (some .int) :: WL)) := gin_SU wd210 wd26 wd211 wd27 wd23 wd28
theorem gc80 : GoodIn WL (wsV "FuseBox$Quick" 13 "FuseBox$Trace" yX9_leave (Cond.code yX9_leave cX9_leave 2 none :: WL)) := gin_V wd213 wd13 wd14 wd15 wd16
theorem gc81 : GoodIn WL (va_wsSU "FuseBox$Quick" 19 yX10_markOf (Cond.code yX10_markOf cX10_markOf 4 (some .int) :: WL)) := gin_SU wd214 wd215 wd100 wd216 wd87 wd217
theorem gc82 : (yX10_markOf).name ≠ "<init>" ∧ (parseMethodDescriptor (yX10_markOf).desc).map (fun d => d.parameters.length) = some 3 := by decide +kernel
theorem gc83 : GoodIn WL (wsV "FuseBox$Reader" 84 "FuseBox$Reader" yX6_isFigure (Cond.code yX6_isFigure cX6_isFigure 2 (some .boolean) :: WL)) := gin_V wd223 wd224 wd225 wd226 wd227
theorem gc84 : (yX6_isFigure).cls = "FuseBox$Reader" ∧ (yX6_isFigure).cls ≠ "java/lang/invoke/MethodHandle" ∧ (yX6_isFigure).cls ≠ "java/lang/invoke/VarHandle" ∧ (parseMethodDescriptor (yX6_isFigure).desc).map (fun d => d.parameters.length) = some 1 := by decide +kernel
theorem gc85 : GoodIn WL (wsV "FuseBox$Reader" 88 "FuseBox$Reader" yX6_readNumber (Cond.code yX6_readNumber cX6_readNumber 1 none :: WL)) := gin_V wd229 wd230 wd231 wd226 wd232
theorem gc86 : (yX6_readNumber).cls = "FuseBox$Reader" ∧ (yX6_readNumber).cls ≠ "java/lang/invoke/MethodHandle" ∧ (yX6_readNumber).cls ≠ "java/lang/invoke/VarHandle" ∧ (parseMethodDescriptor (yX6_readNumber).desc).map (fun d => d.parameters.length) = some 0 := by decide +kernel
theorem gc87 : GoodIn WL (wsV "FuseBox$Reader" 30 "FuseBox$Reader" yX6_readToken (Cond.code yX6_readToken cX6_readToken 2 none :: WL)) := gin_V wd234 wd235 wd236 wd226 wd237
theorem gc88 : (yX6_readToken).cls = "FuseBox$Reader" ∧ (yX6_readToken).cls ≠ "java/lang/invoke/MethodHandle" ∧ (yX6_readToken).cls ≠ "java/lang/invoke/VarHandle" ∧ (parseMethodDescriptor (yX6_readToken).desc).map (fun d => d.parameters.length) = some 0 := by decide +kernel
theorem gc89 : GoodIn WL (wsV "FuseBox$Reader" 61 "FuseBox$Reader" yX6_fail (Cond.code yX6_fail cX6_fail 2 none :: WL)) := gin_V wd238 wd239 wd240 wd226 wd241
theorem gc90 : (yX6_fail).cls = "FuseBox$Reader" ∧ (yX6_fail).cls ≠ "java/lang/invoke/MethodHandle" ∧ (yX6_fail).cls ≠ "java/lang/invoke/VarHandle" ∧ (parseMethodDescriptor (yX6_fail).desc).map (fun d => d.parameters.length) = some 1 := by decide +kernel
theorem gc91 : GoodIn WL (wsV "FuseBox$Reader" 50 "FuseBox$Reader" yX6_take (Cond.code yX6_take cX6_take 2 none :: WL)) := gin_V wd242 wd243 wd244 wd226 wd245
theorem gc92 : (yX6_take).cls = "FuseBox$Reader" ∧ (yX6_take).cls ≠ "java/lang/invoke/MethodHandle" ∧ (yX6_take).cls ≠ "java/lang/invoke/VarHandle" ∧ (parseMethodDescriptor (yX6_take).desc).map (fun d => d.parameters.length) = some 1 := by decide +kernel
theorem gc93 : GoodIn WL (wsV "FuseBox$Reader" 54 "FuseBox$Reader" yX6_takeNumber (Cond.code yX6_takeNumber cX6_takeNumber 4 (some .int) :: WL)) := gin_V wd246 wd247 wd248 wd226 wd249
theorem gc94 : (yX6_takeNumber).cls = "FuseBox$Reader" ∧ (yX6_takeNumber).cls ≠ "java/lang/invoke/MethodHandle" ∧ (yX6_takeNumber).cls ≠ "java/lang/invoke/VarHandle" ∧ (parseMethodDescriptor (yX6_takeNumber).desc).map (fun d => d.parameters.length) = some 2 := by decide +kernel
theorem gc95 : GoodIn WL (va_wsS "FuseBox$Reader" 43 yX6_sortOf (Cond.code yX6_sortOf cX6_sortOf 1 (some .int) :: WL)) := gin_S wd251 wd252 wd226 wd253
theorem gc96 : (yX6_sortOf).cls ≠ "java/lang/invoke/MethodHandle" ∧ (yX6_sortOf).cls ≠ "java/lang/invoke/VarHandle" ∧ (parseMethodDescriptor (yX6_sortOf).desc).map (fun d => d.parameters.length) = some 1 := by decide +kernel
theorem gc97 : GoodIn WL (wsV "FuseBox$Reader" 67 "FuseBox$House" yX3_addLine (Cond.code yX3_addLine cX3_addLine 3 none :: WL)) := gin_V wd254 wd255 wd256 wd61 wd257
theorem gc98 : (yX3_addLine).cls = "FuseBox$House" ∧ (yX3_addLine).cls ≠ "java/lang/invoke/MethodHandle" ∧ (yX3_addLine).cls ≠ "java/lang/invoke/VarHandle" ∧ (parseMethodDescriptor (yX3_addLine).desc).map (fun d => d.parameters.length) = some 2 := by decide +kernel
theorem gc99 : GoodIn WL (wsV "FuseBox$Reader" 74 "FuseBox$House" yX3_addThing (Cond.code yX3_addThing cX3_addThing 4 none :: WL)) := gin_V wd259 wd260 wd261 wd61 wd262
theorem gc100 : (yX3_addThing).cls = "FuseBox$House" ∧ (yX3_addThing).cls ≠ "java/lang/invoke/MethodHandle" ∧ (yX3_addThing).cls ≠ "java/lang/invoke/VarHandle" ∧ (parseMethodDescriptor (yX3_addThing).desc).map (fun d => d.parameters.length) = some 3 := by decide +kernel
theorem gc101 : GoodIn WL (wsV "FuseBox$Reader" 25 "FuseBox$House" yX3_clear (Cond.code yX3_clear cX3_clear 1 none :: WL)) := gin_V wd264 wd265 wd266 wd61 wd267
theorem gc102 : (yX3_clear).cls = "FuseBox$House" ∧ (yX3_clear).cls ≠ "java/lang/invoke/MethodHandle" ∧ (yX3_clear).cls ≠ "java/lang/invoke/VarHandle" ∧ (parseMethodDescriptor (yX3_clear).desc).map (fun d => d.parameters.length) = some 0 := by decide +kernel
theorem gc103 : GoodIn WL (wsV "FuseBox$Reader" 33 "FuseBox$Reader" yX6_readLaw (Cond.code yX6_readLaw cX6_readLaw 2 none :: WL)) := gin_V wd268 wd269 wd270 wd226 wd271
theorem gc104 : (yX6_readLaw).cls = "FuseBox$Reader" ∧ (yX6_readLaw).cls ≠ "java/lang/invoke/MethodHandle" ∧ (yX6_readLaw).cls ≠ "java/lang/invoke/VarHandle" ∧ (parseMethodDescriptor (yX6_readLaw).desc).map (fun d => d.parameters.length) = some 1 := by decide +kernel
theorem gc105 : GoodIn WL (wsV "FuseBox$Reader" 37 "FuseBox$Reader" yX6_readLine (Cond.code yX6_readLine cX6_readLine 4 none :: WL)) := gin_V wd272 wd273 wd274 wd226 wd275
theorem gc106 : (yX6_readLine).cls = "FuseBox$Reader" ∧ (yX6_readLine).cls ≠ "java/lang/invoke/MethodHandle" ∧ (yX6_readLine).cls ≠ "java/lang/invoke/VarHandle" ∧ (parseMethodDescriptor (yX6_readLine).desc).map (fun d => d.parameters.length) = some 1 := by decide +kernel
theorem gc107 : GoodIn WL (wsV "FuseBox$Reader" 47 "FuseBox$Reader" yX6_readThing (Cond.code yX6_readThing cX6_readThing 5 none :: WL)) := gin_V wd276 wd277 wd278 wd226 wd279
theorem gc108 : (yX6_readThing).cls = "FuseBox$Reader" ∧ (yX6_readThing).cls ≠ "java/lang/invoke/MethodHandle" ∧ (yX6_readThing).cls ≠ "java/lang/invoke/VarHandle" ∧ (parseMethodDescriptor (yX6_readThing).desc).map (fun d => d.parameters.length) = some 1 := by decide +kernel
theorem gc109 : GoodIn WL (wsV "FuseBox$Slow" 7 "FuseBox$Trace" yX9_leave (Cond.code yX9_leave cX9_leave 2 none :: WL)) := gin_V wd283 wd13 wd14 wd15 wd16
theorem gc110 : GoodIn WL (va_wsSU "FuseBox$Slow" 17 yX10_markOf (Cond.code yX10_markOf cX10_markOf 4 (some .int) :: WL)) := gin_SU wd284 wd215 wd285 wd216 wd87 wd217
theorem gc111 : GoodIn WL (va_wsSU "FuseBox$Wire" 30 yX2_sizeOf (Cond.code yX2_sizeOf cX2_sizeOf 4 (some .int) :: WL)) := gin_SU wd286 wd20 wd211 wd22 wd23 wd24
theorem gc112 : GoodIn WL (va_wsO "FuseBox$Wire" 34 "FuseBox$Slow" "FuseBox$Wire" yX10_markOf yX8_markOf (Cond.code yX8_markOf cX8_markOf 4 (some .int) :: WL)) := gin_O wd287 wd215 wd216 wd288 wd289 wd95 wd290
theorem gc113 : ("FuseBox$Wire" : String) ≠ "java/lang/invoke/MethodHandle" ∧ ("FuseBox$Wire" : String) ≠ "java/lang/invoke/VarHandle" ∧ (parseMethodDescriptor (yX10_markOf).desc).map (fun d => d.parameters.length) = some 3 := by decide +kernel
theorem gc114 : GoodIn WL (va_wsSU "FuseBox$Slow" 13 yX10_sizeOf (Cond.code yX10_sizeOf cX10_sizeOf 5 (some .int) :: WL)) := gin_SU wd291 wd292 wd285 wd293 wd87 wd294
theorem gc115 : (yX10_sizeOf).name ≠ "<init>" ∧ (parseMethodDescriptor (yX10_sizeOf).desc).map (fun d => d.parameters.length) = some 3 := by decide +kernel
theorem gc116 : GoodIn WL (wsV "FuseBox$Wire" 34 "FuseBox$Wire" yX10_markOf (Cond.code yX10_markOf cX10_markOf 4 (some .int) :: WL)) := gin_V wd287 wd216 wd295 wd87 wd217
theorem gc117 : (yX10_markOf).cls = "FuseBox$Wire" ∧ (yX10_markOf).cls ≠ "java/lang/invoke/MethodHandle" ∧ (yX10_markOf).cls ≠ "java/lang/invoke/VarHandle" ∧ (parseMethodDescriptor (yX10_markOf).desc).map (fun d => d.parameters.length) = some 3 := by decide +kernel
theorem gc118 : GoodIn WL (va_wsO "FuseBox$Wire" 34 "FuseBox$Quick" "FuseBox$Wire" yX10_markOf yX5_markOf (Cond.code yX5_markOf cX5_markOf 4 (some .int) :: WL)) := gin_O wd287 wd215 wd216 wd296 wd297 wd125 wd298
theorem gc119 : GoodIn WL (va_wsS "FuseBox" 73 yX11_noRow (Cond.code yX11_noRow cX11_noRow 1 (some .boolean) :: WL)) := gin_S wd301 wd302 wd303 wd304
theorem gc120 : (yX11_noRow).cls ≠ "java/lang/invoke/MethodHandle" ∧ (yX11_noRow).cls ≠ "java/lang/invoke/VarHandle" ∧ (parseMethodDescriptor (yX11_noRow).desc).map (fun d => d.parameters.length) = some 1 := by decide +kernel
theorem gc121 : GoodIn WL (wsV "FuseBox" 82 "FuseBox$Row" yX7_begin (Cond.code yX7_begin cX7_begin 4 none :: WL)) := gin_V wd307 wd308 wd309 wd310 wd311
theorem gc122 : (yX7_begin).cls = "FuseBox$Row" ∧ (yX7_begin).cls ≠ "java/lang/invoke/MethodHandle" ∧ (yX7_begin).cls ≠ "java/lang/invoke/VarHandle" ∧ (parseMethodDescriptor (yX7_begin).desc).map (fun d => d.parameters.length) = some 2 := by decide +kernel
theorem gc123 : GoodIn WL (wsV "FuseBox" 86 "FuseBox" yX11_fine (Cond.code yX11_fine cX11_fine 2 (some .int) :: WL)) := gin_V wd312 wd313 wd314 wd303 wd315
theorem gc124 : (yX11_fine).cls = "FuseBox" ∧ (yX11_fine).cls ≠ "java/lang/invoke/MethodHandle" ∧ (yX11_fine).cls ≠ "java/lang/invoke/VarHandle" ∧ (parseMethodDescriptor (yX11_fine).desc).map (fun d => d.parameters.length) = some 1 := by decide +kernel
theorem gc125 : GoodIn WL (wsV "FuseBox" 78 "FuseBox" yX11_found (Cond.code yX11_found cX11_found 2 (some .int) :: WL)) := gin_V wd316 wd317 wd318 wd303 wd319
theorem gc126 : (yX11_found).cls = "FuseBox" ∧ (yX11_found).cls ≠ "java/lang/invoke/MethodHandle" ∧ (yX11_found).cls ≠ "java/lang/invoke/VarHandle" ∧ (parseMethodDescriptor (yX11_found).desc).map (fun d => d.parameters.length) = some 1 := by decide +kernel
theorem gc127 : GoodIn WL (wsV "FuseBox" 89 "FuseBox$Row" yX7_isMissing (Cond.code yX7_isMissing cX7_isMissing 1 (some .boolean) :: WL)) := gin_V wd320 wd321 wd322 wd310 wd323
theorem gc128 : (yX7_isMissing).cls = "FuseBox$Row" ∧ (yX7_isMissing).cls ≠ "java/lang/invoke/MethodHandle" ∧ (yX7_isMissing).cls ≠ "java/lang/invoke/VarHandle" ∧ (parseMethodDescriptor (yX7_isMissing).desc).map (fun d => d.parameters.length) = some 0 := by decide +kernel
theorem gc129 : GoodIn WL (wsV "FuseBox" 93 "FuseBox$Row" yX7_has (Cond.code yX7_has cX7_has 3 (some .boolean) :: WL)) := gin_V wd324 wd325 wd326 wd310 wd327
theorem gc130 : (yX7_has).cls = "FuseBox$Row" ∧ (yX7_has).cls ≠ "java/lang/invoke/MethodHandle" ∧ (yX7_has).cls ≠ "java/lang/invoke/VarHandle" ∧ (parseMethodDescriptor (yX7_has).desc).map (fun d => d.parameters.length) = some 2 := by decide +kernel
theorem gc131 : GoodIn WL (wsV "FuseBox" 101 "FuseBox$Row" yX7_cut (Cond.code yX7_cut cX7_cut 2 (some .int) :: WL)) := gin_V wd329 wd330 wd331 wd310 wd332
theorem gc132 : (yX7_cut).cls = "FuseBox$Row" ∧ (yX7_cut).cls ≠ "java/lang/invoke/MethodHandle" ∧ (yX7_cut).cls ≠ "java/lang/invoke/VarHandle" ∧ (parseMethodDescriptor (yX7_cut).desc).map (fun d => d.parameters.length) = some 1 := by decide +kernel
theorem gc133 : GoodIn WL (wsV "FuseBox" 117 "FuseBox$Row" yX7_end (Cond.code yX7_end cX7_end 1 none :: WL)) := gin_V wd336 wd337 wd338 wd310 wd339
theorem gc134 : (yX7_end).cls = "FuseBox$Row" ∧ (yX7_end).cls ≠ "java/lang/invoke/MethodHandle" ∧ (yX7_end).cls ≠ "java/lang/invoke/VarHandle" ∧ (parseMethodDescriptor (yX7_end).desc).map (fun d => d.parameters.length) = some 0 := by decide +kernel
theorem gc135 : GoodIn WL (wsV "FuseBox" 126 "FuseBox$Reader" yX6_append (Cond.code yX6_append cX6_append 2 (some .int) :: WL)) := gin_V wd342 wd343 wd344 wd226 wd345
theorem gc136 : (yX6_append).cls = "FuseBox$Reader" ∧ (yX6_append).cls ≠ "java/lang/invoke/MethodHandle" ∧ (yX6_append).cls ≠ "java/lang/invoke/VarHandle" ∧ (parseMethodDescriptor (yX6_append).desc).map (fun d => d.parameters.length) = some 1 := by decide +kernel
theorem gc137 : GoodIn WL (wsV "FuseBox" 129 "FuseBox$Reader" yX6_readInto (Cond.code yX6_readInto cX6_readInto 3 (some .int) :: WL)) := gin_V wd350 wd351 wd352 wd226 wd353
theorem gc138 : (yX6_readInto).cls = "FuseBox$Reader" ∧ (yX6_readInto).cls ≠ "java/lang/invoke/MethodHandle" ∧ (yX6_readInto).cls ≠ "java/lang/invoke/VarHandle" ∧ (parseMethodDescriptor (yX6_readInto).desc).map (fun d => d.parameters.length) = some 1 := by decide +kernel
theorem gc139 : GoodIn WL (wsV "FuseBox" 140 "FuseBox$House" yX3_become (Cond.code yX3_become cX3_become 2 none :: WL)) := gin_V wd355 wd356 wd357 wd61 wd358
theorem gc140 : (yX3_become).cls = "FuseBox$House" ∧ (yX3_become).cls ≠ "java/lang/invoke/MethodHandle" ∧ (yX3_become).cls ≠ "java/lang/invoke/VarHandle" ∧ (parseMethodDescriptor (yX3_become).desc).map (fun d => d.parameters.length) = some 1 := by decide +kernel
theorem gc141 : GoodIn WL (wsV "FuseBox" 144 "FuseBox" yX11_forgetActs (Cond.code yX11_forgetActs cX11_forgetActs 1 none :: WL)) := gin_V wd359 wd360 wd361 wd303 wd362
theorem gc142 : (yX11_forgetActs).cls = "FuseBox" ∧ (yX11_forgetActs).cls ≠ "java/lang/invoke/MethodHandle" ∧ (yX11_forgetActs).cls ≠ "java/lang/invoke/VarHandle" ∧ (parseMethodDescriptor (yX11_forgetActs).desc).map (fun d => d.parameters.length) = some 0 := by decide +kernel
theorem gc143 : GoodIn WL (wsV "FuseBox" 150 "FuseBox" yX11_noHouse (Cond.code yX11_noHouse cX11_noHouse 1 (some .boolean) :: WL)) := gin_V wd368 wd369 wd370 wd303 wd371
theorem gc144 : (yX11_noHouse).cls = "FuseBox" ∧ (yX11_noHouse).cls ≠ "java/lang/invoke/MethodHandle" ∧ (yX11_noHouse).cls ≠ "java/lang/invoke/VarHandle" ∧ (parseMethodDescriptor (yX11_noHouse).desc).map (fun d => d.parameters.length) = some 0 := by decide +kernel
theorem gc145 : GoodIn WL (wsV "FuseBox" 163 "FuseBox$House" yX3_liveLines (Cond.code yX3_liveLines cX3_liveLines 3 (some .int) :: WL)) := gin_V wd373 wd374 wd375 wd61 wd376
theorem gc146 : (yX3_liveLines).cls = "FuseBox$House" ∧ (yX3_liveLines).cls ≠ "java/lang/invoke/MethodHandle" ∧ (yX3_liveLines).cls ≠ "java/lang/invoke/VarHandle" ∧ (parseMethodDescriptor (yX3_liveLines).desc).map (fun d => d.parameters.length) = some 0 := by decide +kernel
theorem gc147 : GoodIn WL (wsV "FuseBox" 157 "FuseBox" yX11_keepAct (Cond.code yX11_keepAct cX11_keepAct 1 none :: WL)) := gin_V wd377 wd378 wd379 wd303 wd380
theorem gc148 : (yX11_keepAct).cls = "FuseBox" ∧ (yX11_keepAct).cls ≠ "java/lang/invoke/MethodHandle" ∧ (yX11_keepAct).cls ≠ "java/lang/invoke/VarHandle" ∧ (parseMethodDescriptor (yX11_keepAct).desc).map (fun d => d.parameters.length) = some 0 := by decide +kernel
theorem gc149 : GoodIn WL (wsV "FuseBox" 160 "FuseBox$House" yX3_passMinute (Cond.code yX3_passMinute cX3_passMinute 3 none :: WL)) := gin_V wd381 wd138 wd139 wd61 wd140
theorem gc150 : GoodIn WL (wsV "FuseBox" 167 "FuseBox" yX11_noThing (Cond.code yX11_noThing cX11_noThing 2 (some .boolean) :: WL)) := gin_V wd384 wd385 wd386 wd303 wd387
theorem gc151 : (yX11_noThing).cls = "FuseBox" ∧ (yX11_noThing).cls ≠ "java/lang/invoke/MethodHandle" ∧ (yX11_noThing).cls ≠ "java/lang/invoke/VarHandle" ∧ (parseMethodDescriptor (yX11_noThing).desc).map (fun d => d.parameters.length) = some 1 := by decide +kernel
theorem gc152 : GoodIn WL (wsV "FuseBox" 170 "FuseBox$House" yX3_isOn (Cond.code yX3_isOn cX3_isOn 2 (some .boolean) :: WL)) := gin_V wd388 wd59 wd60 wd61 wd62
theorem gc153 : GoodIn WL (wsV "FuseBox" 173 "FuseBox$House" yX3_toggle (Cond.code yX3_toggle cX3_toggle 2 none :: WL)) := gin_V wd389 wd152 wd153 wd61 wd154
theorem gc154 : GoodIn WL (wsV "FuseBox" 177 "FuseBox$House" yX3_runningThings (Cond.code yX3_runningThings cX3_runningThings 3 (some .int) :: WL)) := gin_V wd390 wd391 wd392 wd61 wd393
theorem gc155 : (yX3_runningThings).cls = "FuseBox$House" ∧ (yX3_runningThings).cls ≠ "java/lang/invoke/MethodHandle" ∧ (yX3_runningThings).cls ≠ "java/lang/invoke/VarHandle" ∧ (parseMethodDescriptor (yX3_runningThings).desc).map (fun d => d.parameters.length) = some 0 := by decide +kernel
theorem gc156 : GoodIn WL (wsV "FuseBox" 180 "FuseBox" yX11_noLine (Cond.code yX11_noLine cX11_noLine 2 (some .boolean) :: WL)) := gin_V wd394 wd395 wd396 wd303 wd397
theorem gc157 : (yX11_noLine).cls = "FuseBox" ∧ (yX11_noLine).cls ≠ "java/lang/invoke/MethodHandle" ∧ (yX11_noLine).cls ≠ "java/lang/invoke/VarHandle" ∧ (parseMethodDescriptor (yX11_noLine).desc).map (fun d => d.parameters.length) = some 1 := by decide +kernel
theorem gc158 : GoodIn WL (wsV "FuseBox" 186 "FuseBox$House" yX3_isDead (Cond.code yX3_isDead cX3_isDead 2 (some .boolean) :: WL)) := gin_V wd399 wd68 wd69 wd61 wd70
theorem gc159 : GoodIn WL (wsV "FuseBox" 189 "FuseBox$House" yX3_mendLine (Cond.code yX3_mendLine cX3_mendLine 2 none :: WL)) := gin_V wd400 wd142 wd143 wd61 wd144
theorem gc160 : GoodIn WL (wsV "FuseBox" 192 "FuseBox$House" yX3_deadLines (Cond.code yX3_deadLines cX3_deadLines 3 (some .int) :: WL)) := gin_V wd401 wd402 wd403 wd61 wd404
theorem gc161 : (yX3_deadLines).cls = "FuseBox$House" ∧ (yX3_deadLines).cls ≠ "java/lang/invoke/MethodHandle" ∧ (yX3_deadLines).cls ≠ "java/lang/invoke/VarHandle" ∧ (parseMethodDescriptor (yX3_deadLines).desc).map (fun d => d.parameters.length) = some 0 := by decide +kernel
theorem gc162 : GoodIn WL (wsV "FuseBox" 214 "FuseBox$House" yX3_isLive (Cond.code yX3_isLive cX3_isLive 2 (some .boolean) :: WL)) := gin_V wd409 wd64 wd65 wd61 wd66
theorem gc163 : GoodIn WL (wsV "FuseBox" 217 "FuseBox$House" yX3_flowOf (Cond.code yX3_flowOf cX3_flowOf 2 (some .int) :: WL)) := gin_V wd410 wd411 wd412 wd61 wd413
theorem gc164 : (yX3_flowOf).cls = "FuseBox$House" ∧ (yX3_flowOf).cls ≠ "java/lang/invoke/MethodHandle" ∧ (yX3_flowOf).cls ≠ "java/lang/invoke/VarHandle" ∧ (parseMethodDescriptor (yX3_flowOf).desc).map (fun d => d.parameters.length) = some 1 := by decide +kernel
theorem gc165 : GoodIn WL (wsV "FuseBox" 220 "FuseBox$House" yX3_pluggedInto (Cond.code yX3_pluggedInto cX3_pluggedInto 4 (some .int) :: WL)) := gin_V wd414 wd415 wd416 wd61 wd417
theorem gc166 : (yX3_pluggedInto).cls = "FuseBox$House" ∧ (yX3_pluggedInto).cls ≠ "java/lang/invoke/MethodHandle" ∧ (yX3_pluggedInto).cls ≠ "java/lang/invoke/VarHandle" ∧ (parseMethodDescriptor (yX3_pluggedInto).desc).map (fun d => d.parameters.length) = some 1 := by decide +kernel
theorem gc167 : GoodIn WL (wsV "FuseBox" 226 "FuseBox$House" yX3_runs (Cond.code yX3_runs cX3_runs 2 (some .boolean) :: WL)) := gin_V wd419 wd72 wd73 wd61 wd74
theorem gc168 : GoodIn WL (wsV "FuseBox" 232 "FuseBox" yX11_foretell (Cond.code yX11_foretell cX11_foretell 3 none :: WL)) := gin_V wd420 wd421 wd422 wd303 wd423
theorem gc169 : (yX11_foretell).cls = "FuseBox" ∧ (yX11_foretell).cls ≠ "java/lang/invoke/MethodHandle" ∧ (yX11_foretell).cls ≠ "java/lang/invoke/VarHandle" ∧ (parseMethodDescriptor (yX11_foretell).desc).map (fun d => d.parameters.length) = some 1 := by decide +kernel
theorem gc170 : GoodIn WL (va_wsS "FuseBox" 242 yJ6_bitCount_0f7a4 (Cond.code yJ6_bitCount_0f7a4 cJ6_bitCount_0f7a4 1 (some .int) :: WL)) := gin_S wd427 wd182 wd183 wd184
theorem gc171 : GoodIn WL (wsV "FuseBox" 247 "FuseBox" yX11_runsWithout (Cond.code yX11_runsWithout cX11_runsWithout 5 (some .boolean) :: WL)) := gin_V wd428 wd429 wd430 wd303 wd431
theorem gc172 : (yX11_runsWithout).cls = "FuseBox" ∧ (yX11_runsWithout).cls ≠ "java/lang/invoke/MethodHandle" ∧ (yX11_runsWithout).cls ≠ "java/lang/invoke/VarHandle" ∧ (parseMethodDescriptor (yX11_runsWithout).desc).map (fun d => d.parameters.length) = some 3 := by decide +kernel
theorem gc173 : GoodIn WL (wsV "FuseBox" 251 "FuseBox$Plugging" yX4_search (Cond.code yX4_search cX4_search 4 none :: WL)) := gin_V wd433 wd434 wd435 wd175 wd436
theorem gc174 : (yX4_search).cls = "FuseBox$Plugging" ∧ (yX4_search).cls ≠ "java/lang/invoke/MethodHandle" ∧ (yX4_search).cls ≠ "java/lang/invoke/VarHandle" ∧ (parseMethodDescriptor (yX4_search).desc).map (fun d => d.parameters.length) = some 2 := by decide +kernel
theorem gc175 : GoodIn WL (wsV "FuseBox" 261 "FuseBox$House" yX3_staysLive (Cond.code yX3_staysLive cX3_staysLive 4 (some .boolean) :: WL)) := gin_V wd439 wd440 wd441 wd61 wd442
theorem gc176 : (yX3_staysLive).cls = "FuseBox$House" ∧ (yX3_staysLive).cls ≠ "java/lang/invoke/MethodHandle" ∧ (yX3_staysLive).cls ≠ "java/lang/invoke/VarHandle" ∧ (parseMethodDescriptor (yX3_staysLive).desc).map (fun d => d.parameters.length) = some 2 := by decide +kernel
theorem gc177 : GoodIn WL (wsV "FuseBox" 264 "FuseBox$House" yX3_reckonFlows (Cond.code yX3_reckonFlows cX3_reckonFlows 3 (some .int) :: WL)) := gin_V wd443 wd77 wd78 wd61 wd79
theorem gc178 : GoodIn WL (wsV "FuseBox" 303 "FuseBox$House" yX3_takeKind (Cond.code yX3_takeKind cX3_takeKind 3 none :: WL)) := gin_V wd444 wd445 wd446 wd61 wd447
theorem gc179 : (yX3_takeKind).cls = "FuseBox$House" ∧ (yX3_takeKind).cls ≠ "java/lang/invoke/MethodHandle" ∧ (yX3_takeKind).cls ≠ "java/lang/invoke/VarHandle" ∧ (parseMethodDescriptor (yX3_takeKind).desc).map (fun d => d.parameters.length) = some 2 := by decide +kernel
theorem gc180 : GoodIn WL (wsV "FuseBox" 306 "FuseBox$House" yX3_heatsAs (Cond.code yX3_heatsAs cX3_heatsAs 6 (some .boolean) :: WL)) := gin_V wd448 wd449 wd450 wd61 wd451
theorem gc181 : (yX3_heatsAs).cls = "FuseBox$House" ∧ (yX3_heatsAs).cls ≠ "java/lang/invoke/MethodHandle" ∧ (yX3_heatsAs).cls ≠ "java/lang/invoke/VarHandle" ∧ (parseMethodDescriptor (yX3_heatsAs).desc).map (fun d => d.parameters.length) = some 4 := by decide +kernel
theorem gc182 : GoodIn WL (wsV "FuseBox" 267 "FuseBox" yX11_sortsThatFit (Cond.code yX11_sortsThatFit cX11_sortsThatFit 7 (some .int) :: WL)) := gin_V wd453 wd454 wd455 wd303 wd456
theorem gc183 : (yX11_sortsThatFit).cls = "FuseBox" ∧ (yX11_sortsThatFit).cls ≠ "java/lang/invoke/MethodHandle" ∧ (yX11_sortsThatFit).cls ≠ "java/lang/invoke/VarHandle" ∧ (parseMethodDescriptor (yX11_sortsThatFit).desc).map (fun d => d.parameters.length) = some 4 := by decide +kernel
theorem gc184 : GoodIn WL (wsV "FuseBox" 271 "FuseBox" yX11_ratesThatFit (Cond.code yX11_ratesThatFit cX11_ratesThatFit 7 (some .int) :: WL)) := gin_V wd457 wd458 wd459 wd303 wd460
theorem gc185 : (yX11_ratesThatFit).cls = "FuseBox" ∧ (yX11_ratesThatFit).cls ≠ "java/lang/invoke/MethodHandle" ∧ (yX11_ratesThatFit).cls ≠ "java/lang/invoke/VarHandle" ∧ (parseMethodDescriptor (yX11_ratesThatFit).desc).map (fun d => d.parameters.length) = some 4 := by decide +kernel
theorem gc186 : GoodIn WL (wsV "FuseBox" 274 "FuseBox" yX11_heatsThatFit (Cond.code yX11_heatsThatFit cX11_heatsThatFit 7 (some .int) :: WL)) := gin_V wd461 wd462 wd463 wd303 wd464
theorem gc187 : (yX11_heatsThatFit).cls = "FuseBox" ∧ (yX11_heatsThatFit).cls ≠ "java/lang/invoke/MethodHandle" ∧ (yX11_heatsThatFit).cls ≠ "java/lang/invoke/VarHandle" ∧ (parseMethodDescriptor (yX11_heatsThatFit).desc).map (fun d => d.parameters.length) = some 4 := by decide +kernel
theorem gc188 : GoodIn WL (wsV "FuseBox" 277 "FuseBox" yX11_mainsThatFit (Cond.code yX11_mainsThatFit cX11_mainsThatFit 9 (some .int) :: WL)) := gin_V wd465 wd466 wd467 wd303 wd468
theorem gc189 : (yX11_mainsThatFit).cls = "FuseBox" ∧ (yX11_mainsThatFit).cls ≠ "java/lang/invoke/MethodHandle" ∧ (yX11_mainsThatFit).cls ≠ "java/lang/invoke/VarHandle" ∧ (parseMethodDescriptor (yX11_mainsThatFit).desc).map (fun d => d.parameters.length) = some 5 := by decide +kernel
theorem gc190 : GoodIn WL (va_wsS "FuseBox" 288 yX11_commonDivisor (Cond.code yX11_commonDivisor cX11_commonDivisor 4 (some .int) :: WL)) := gin_S wd469 wd470 wd303 wd471
theorem gc191 : (yX11_commonDivisor).cls ≠ "java/lang/invoke/MethodHandle" ∧ (yX11_commonDivisor).cls ≠ "java/lang/invoke/VarHandle" ∧ (parseMethodDescriptor (yX11_commonDivisor).desc).map (fun d => d.parameters.length) = some 2 := by decide +kernel
theorem gc192 : GoodIn WL (wsV "FuseBox" 285 "FuseBox" yX11_isLiveWithout (Cond.code yX11_isLiveWithout cX11_isLiveWithout 5 (some .boolean) :: WL)) := gin_V wd472 wd473 wd474 wd303 wd475
theorem gc193 : (yX11_isLiveWithout).cls = "FuseBox" ∧ (yX11_isLiveWithout).cls ≠ "java/lang/invoke/MethodHandle" ∧ (yX11_isLiveWithout).cls ≠ "java/lang/invoke/VarHandle" ∧ (parseMethodDescriptor (yX11_isLiveWithout).desc).map (fun d => d.parameters.length) = some 3 := by decide +kernel
theorem gc194 : GoodIn WL (wsV "FuseBox" 281 "FuseBox" yX11_weightOf (Cond.code yX11_weightOf cX11_weightOf 5 (some .int) :: WL)) := gin_V wd476 wd477 wd478 wd303 wd479
theorem gc195 : (yX11_weightOf).cls = "FuseBox" ∧ (yX11_weightOf).cls ≠ "java/lang/invoke/MethodHandle" ∧ (yX11_weightOf).cls ≠ "java/lang/invoke/VarHandle" ∧ (parseMethodDescriptor (yX11_weightOf).desc).map (fun d => d.parameters.length) = some 2 := by decide +kernel
theorem gc196 : GoodIn WL (wsV "FuseBox" 296 "FuseBox$House" yX3_draw (Cond.code yX3_draw cX3_draw 3 none :: WL)) := gin_V wd483 wd484 wd485 wd61 wd486
theorem gc197 : (yX3_draw).cls = "FuseBox$House" ∧ (yX3_draw).cls ≠ "java/lang/invoke/MethodHandle" ∧ (yX3_draw).cls ≠ "java/lang/invoke/VarHandle" ∧ (parseMethodDescriptor (yX3_draw).desc).map (fun d => d.parameters.length) = some 1 := by decide +kernel
theorem gc198 : GoodIn WL (va_wsS "FuseBox" 300 yX11_noImage (Cond.code yX11_noImage cX11_noImage 1 (some .boolean) :: WL)) := gin_S wd487 wd488 wd303 wd489
theorem gc199 : (yX11_noImage).cls ≠ "java/lang/invoke/MethodHandle" ∧ (yX11_noImage).cls ≠ "java/lang/invoke/VarHandle" ∧ (parseMethodDescriptor (yX11_noImage).desc).map (fun d => d.parameters.length) = some 1 := by decide +kernel
theorem gc200 : GoodIn WL (wsV "FuseBox" 316 "FuseBox$House" yX3_fuseOf (Cond.code yX3_fuseOf cX3_fuseOf 2 (some (.object "FuseBox$Fuse")) :: WL)) := gin_V wd497 wd105 wd106 wd61 wd107
theorem gc201 : GoodIn WL (va_wsS "FuseBox" 320 yX11_isA (Cond.code yX11_isA cX11_isA 2 (some .boolean) :: WL)) := gin_S wd498 wd499 wd303 wd500
theorem gc202 : (yX11_isA).cls ≠ "java/lang/invoke/MethodHandle" ∧ (yX11_isA).cls ≠ "java/lang/invoke/VarHandle" ∧ (parseMethodDescriptor (yX11_isA).desc).map (fun d => d.parameters.length) = some 2 := by decide +kernel
theorem gc203 : GoodIn WL (wsV "FuseBox" 324 "FuseBox$Trace" yX9_empty (Cond.code yX9_empty cX9_empty 1 none :: WL)) := gin_V wd502 wd503 wd504 wd15 wd505
theorem gc204 : (yX9_empty).cls = "FuseBox$Trace" ∧ (yX9_empty).cls ≠ "java/lang/invoke/MethodHandle" ∧ (yX9_empty).cls ≠ "java/lang/invoke/VarHandle" ∧ (parseMethodDescriptor (yX9_empty).desc).map (fun d => d.parameters.length) = some 0 := by decide +kernel
theorem gc205 : GoodIn WL (va_wsO "FuseBox" 331 "FuseBox$Wire" "FuseBox$Fuse" yX2_markOf yX10_markOf (Cond.code yX10_markOf cX10_markOf 4 (some .int) :: WL)) := gin_O wd506 wd26 wd27 wd507 wd216 wd87 wd217
theorem gc206 : ("FuseBox$Fuse" : String) ≠ "java/lang/invoke/MethodHandle" ∧ ("FuseBox$Fuse" : String) ≠ "java/lang/invoke/VarHandle" ∧ (parseMethodDescriptor (yX2_markOf).desc).map (fun d => d.parameters.length) = some 3 := by decide +kernel
theorem gc207 : GoodIn WL (va_wsO "FuseBox" 331 "FuseBox$Slow" "FuseBox$Fuse" yX2_markOf yX8_markOf (Cond.code yX8_markOf cX8_markOf 4 (some .int) :: WL)) := gin_O wd506 wd26 wd27 wd508 wd289 wd95 wd290
theorem gc208 : GoodIn WL (va_wsO "FuseBox" 331 "FuseBox$Quick" "FuseBox$Fuse" yX2_markOf yX5_markOf (Cond.code yX5_markOf cX5_markOf 4 (some .int) :: WL)) := gin_O wd506 wd26 wd27 wd509 wd297 wd125 wd298
theorem gc209 : GoodIn WL (va_wsO "FuseBox" 331 "FuseBox$Breaker" "FuseBox$Fuse" yX2_markOf yX0_markOf (Cond.code yX0_markOf cX0_markOf 5 (some .int) :: WL)) := gin_O wd506 wd26 wd27 wd510 wd511 wd3 wd512
theorem gc210 : GoodIn WL (va_wsO "FuseBox" 331 "FuseBox$Coil" "FuseBox$Fuse" yX2_markOf yX0_markOf (Cond.code yX0_markOf cX0_markOf 5 (some .int) :: WL)) := gin_O wd506 wd26 wd27 wd513 wd511 wd3 wd512
theorem gc211 : GoodIn WL (va_wsO "FuseBox" 327 "FuseBox$Wire" "FuseBox$Fuse" yX2_sizeOf yX10_sizeOf (Cond.code yX10_sizeOf cX10_sizeOf 5 (some .int) :: WL)) := gin_O wd514 wd20 wd22 wd515 wd293 wd87 wd294
theorem gc212 : ("FuseBox$Fuse" : String) ≠ "java/lang/invoke/MethodHandle" ∧ ("FuseBox$Fuse" : String) ≠ "java/lang/invoke/VarHandle" ∧ (parseMethodDescriptor (yX2_sizeOf).desc).map (fun d => d.parameters.length) = some 3 := by decide +kernel
theorem gc213 : GoodIn WL (va_wsO "FuseBox" 327 "FuseBox$Slow" "FuseBox$Fuse" yX2_sizeOf yX8_sizeOf (Cond.code yX8_sizeOf cX8_sizeOf 4 (some .int) :: WL)) := gin_O wd514 wd20 wd22 wd516 wd517 wd95 wd518
theorem gc214 : GoodIn WL (va_wsO "FuseBox" 327 "FuseBox$Quick" "FuseBox$Fuse" yX2_sizeOf yX10_sizeOf (Cond.code yX10_sizeOf cX10_sizeOf 5 (some .int) :: WL)) := gin_O wd514 wd20 wd22 wd519 wd293 wd87 wd294
theorem gc215 : GoodIn WL (va_wsO "FuseBox" 327 "FuseBox$Breaker" "FuseBox$Fuse" yX2_sizeOf yX0_sizeOf (Cond.code yX0_sizeOf cX0_sizeOf 4 (some .int) :: WL)) := gin_O wd514 wd20 wd22 wd520 wd30 wd3 wd32
theorem gc216 : GoodIn WL (va_wsO "FuseBox" 327 "FuseBox$Coil" "FuseBox$Fuse" yX2_sizeOf yX1_sizeOf (Cond.code yX1_sizeOf cX1_sizeOf 4 (some .int) :: WL)) := gin_O wd514 wd20 wd22 wd521 wd38 wd8 wd39
theorem gc217 : GoodIn WL (wsV "FuseBox" 338 "FuseBox" yX11_rowsThere (Cond.code yX11_rowsThere cX11_rowsThere 3 (some .int) :: WL)) := gin_V wd524 wd525 wd526 wd303 wd527
theorem gc218 : (yX11_rowsThere).cls = "FuseBox" ∧ (yX11_rowsThere).cls ≠ "java/lang/invoke/MethodHandle" ∧ (yX11_rowsThere).cls ≠ "java/lang/invoke/VarHandle" ∧ (parseMethodDescriptor (yX11_rowsThere).desc).map (fun d => d.parameters.length) = some 0 := by decide +kernel
theorem gc219 : GoodIn WL (va_wsS "FuseBoxModel" 60 yX12_in (Cond.code yX12_in cX12_in 6 (some .boolean) :: WL)) := gin_S wd531 wd532 wd533 wd534
theorem gc220 : (yX12_in).cls ≠ "java/lang/invoke/MethodHandle" ∧ (yX12_in).cls ≠ "java/lang/invoke/VarHandle" ∧ (parseMethodDescriptor (yX12_in).desc).map (fun d => d.parameters.length) = some 3 := by decide +kernel
theorem gc221 : GoodIn WL (wsV "FuseBoxModel" 71 "FuseBoxModel" yX12_fine (Cond.code yX12_fine cX12_fine 2 (some .int) :: WL)) := gin_V wd539 wd540 wd541 wd533 wd542
theorem gc222 : (yX12_fine).cls = "FuseBoxModel" ∧ (yX12_fine).cls ≠ "java/lang/invoke/MethodHandle" ∧ (yX12_fine).cls ≠ "java/lang/invoke/VarHandle" ∧ (parseMethodDescriptor (yX12_fine).desc).map (fun d => d.parameters.length) = some 1 := by decide +kernel
theorem gc223 : GoodIn WL (wsV "FuseBoxModel" 67 "FuseBoxModel" yX12_finds (Cond.code yX12_finds cX12_finds 2 (some .int) :: WL)) := gin_V wd544 wd545 wd546 wd533 wd547
theorem gc224 : (yX12_finds).cls = "FuseBoxModel" ∧ (yX12_finds).cls ≠ "java/lang/invoke/MethodHandle" ∧ (yX12_finds).cls ≠ "java/lang/invoke/VarHandle" ∧ (parseMethodDescriptor (yX12_finds).desc).map (fun d => d.parameters.length) = some 1 := by decide +kernel
theorem gc225 : GoodIn WL (wsV "FuseBoxModel" 86 "FuseBoxModel" yX12_byteAt (Cond.code yX12_byteAt cX12_byteAt 2 (some .int) :: WL)) := gin_V wd555 wd556 wd557 wd533 wd558
theorem gc226 : (yX12_byteAt).cls = "FuseBoxModel" ∧ (yX12_byteAt).cls ≠ "java/lang/invoke/MethodHandle" ∧ (yX12_byteAt).cls ≠ "java/lang/invoke/VarHandle" ∧ (parseMethodDescriptor (yX12_byteAt).desc).map (fun d => d.parameters.length) = some 1 := by decide +kernel
theorem gc227 : GoodIn WL (wsV "FuseBoxModel" 103 "FuseBoxModel" yX12_token (Cond.code yX12_token cX12_token 3 (some .int) :: WL)) := gin_V wd565 wd566 wd567 wd533 wd568
theorem gc228 : (yX12_token).cls = "FuseBoxModel" ∧ (yX12_token).cls ≠ "java/lang/invoke/MethodHandle" ∧ (yX12_token).cls ≠ "java/lang/invoke/VarHandle" ∧ (parseMethodDescriptor (yX12_token).desc).map (fun d => d.parameters.length) = some 0 := by decide +kernel
theorem gc229 : GoodIn WL (wsV "FuseBoxModel" 107 "FuseBoxModel" yX12_wants (Cond.code yX12_wants cX12_wants 4 (some .int) :: WL)) := gin_V wd570 wd571 wd572 wd533 wd573
theorem gc230 : (yX12_wants).cls = "FuseBoxModel" ∧ (yX12_wants).cls ≠ "java/lang/invoke/MethodHandle" ∧ (yX12_wants).cls ≠ "java/lang/invoke/VarHandle" ∧ (parseMethodDescriptor (yX12_wants).desc).map (fun d => d.parameters.length) = some 2 := by decide +kernel
theorem gc231 : GoodIn WL (wsV "FuseBoxModel" 111 "FuseBoxModel" yX12_sign (Cond.code yX12_sign cX12_sign 2 none :: WL)) := gin_V wd574 wd575 wd576 wd533 wd577
theorem gc232 : (yX12_sign).cls = "FuseBoxModel" ∧ (yX12_sign).cls ≠ "java/lang/invoke/MethodHandle" ∧ (yX12_sign).cls ≠ "java/lang/invoke/VarHandle" ∧ (parseMethodDescriptor (yX12_sign).desc).map (fun d => d.parameters.length) = some 1 := by decide +kernel
theorem gc233 : GoodIn WL (wsV "FuseBoxModel" 121 "FuseBoxModel" yX12_thingItem (Cond.code yX12_thingItem cX12_thingItem 4 none :: WL)) := gin_V wd581 wd582 wd583 wd533 wd584
theorem gc234 : (yX12_thingItem).cls = "FuseBoxModel" ∧ (yX12_thingItem).cls ≠ "java/lang/invoke/MethodHandle" ∧ (yX12_thingItem).cls ≠ "java/lang/invoke/VarHandle" ∧ (parseMethodDescriptor (yX12_thingItem).desc).map (fun d => d.parameters.length) = some 0 := by decide +kernel
theorem gc235 : GoodIn WL (wsV "FuseBoxModel" 118 "FuseBoxModel" yX12_lineItem (Cond.code yX12_lineItem cX12_lineItem 3 none :: WL)) := gin_V wd585 wd586 wd587 wd533 wd588
theorem gc236 : (yX12_lineItem).cls = "FuseBoxModel" ∧ (yX12_lineItem).cls ≠ "java/lang/invoke/MethodHandle" ∧ (yX12_lineItem).cls ≠ "java/lang/invoke/VarHandle" ∧ (parseMethodDescriptor (yX12_lineItem).desc).map (fun d => d.parameters.length) = some 1 := by decide +kernel
theorem gc237 : GoodIn WL (va_wsS "FuseBoxModel" 115 yX12_sortOf (Cond.code yX12_sortOf cX12_sortOf 1 (some .int) :: WL)) := gin_S wd589 wd590 wd533 wd591
theorem gc238 : (yX12_sortOf).cls ≠ "java/lang/invoke/MethodHandle" ∧ (yX12_sortOf).cls ≠ "java/lang/invoke/VarHandle" ∧ (parseMethodDescriptor (yX12_sortOf).desc).map (fun d => d.parameters.length) = some 1 := by decide +kernel
theorem gc239 : GoodIn WL (wsV "FuseBoxModel" 124 "FuseBoxModel" yX12_reads (Cond.code yX12_reads cX12_reads 4 none :: WL)) := gin_V wd592 wd593 wd594 wd533 wd595
theorem gc240 : (yX12_reads).cls = "FuseBoxModel" ∧ (yX12_reads).cls ≠ "java/lang/invoke/MethodHandle" ∧ (yX12_reads).cls ≠ "java/lang/invoke/VarHandle" ∧ (parseMethodDescriptor (yX12_reads).desc).map (fun d => d.parameters.length) = some 0 := by decide +kernel
theorem gc241 : GoodIn WL (wsV "FuseBoxModel" 134 "FuseBoxModel" yX12_isLive (Cond.code yX12_isLive cX12_isLive 3 (some .boolean) :: WL)) := gin_V wd601 wd602 wd603 wd533 wd604
theorem gc242 : (yX12_isLive).cls = "FuseBoxModel" ∧ (yX12_isLive).cls ≠ "java/lang/invoke/MethodHandle" ∧ (yX12_isLive).cls ≠ "java/lang/invoke/VarHandle" ∧ (parseMethodDescriptor (yX12_isLive).desc).map (fun d => d.parameters.length) = some 2 := by decide +kernel
theorem gc243 : GoodIn WL (wsV "FuseBoxModel" 138 "FuseBoxModel" yX12_runs (Cond.code yX12_runs cX12_runs 3 (some .boolean) :: WL)) := gin_V wd605 wd606 wd607 wd533 wd608
theorem gc244 : (yX12_runs).cls = "FuseBoxModel" ∧ (yX12_runs).cls ≠ "java/lang/invoke/MethodHandle" ∧ (yX12_runs).cls ≠ "java/lang/invoke/VarHandle" ∧ (parseMethodDescriptor (yX12_runs).desc).map (fun d => d.parameters.length) = some 2 := by decide +kernel
theorem gc245 : GoodIn WL (va_wsS "FuseBoxModel" 141 yX12_larger (Cond.code yX12_larger cX12_larger 2 (some .int) :: WL)) := gin_S wd609 wd610 wd533 wd611
theorem gc246 : (yX12_larger).cls ≠ "java/lang/invoke/MethodHandle" ∧ (yX12_larger).cls ≠ "java/lang/invoke/VarHandle" ∧ (parseMethodDescriptor (yX12_larger).desc).map (fun d => d.parameters.length) = some 2 := by decide +kernel
theorem gc247 : GoodIn WL (wsV "FuseBoxModel" 144 "FuseBoxModel" yX12_liveOnes (Cond.code yX12_liveOnes cX12_liveOnes 4 (some .int) :: WL)) := gin_V wd612 wd613 wd614 wd533 wd615
theorem gc248 : (yX12_liveOnes).cls = "FuseBoxModel" ∧ (yX12_liveOnes).cls ≠ "java/lang/invoke/MethodHandle" ∧ (yX12_liveOnes).cls ≠ "java/lang/invoke/VarHandle" ∧ (parseMethodDescriptor (yX12_liveOnes).desc).map (fun d => d.parameters.length) = some 1 := by decide +kernel
theorem gc249 : GoodIn WL (va_wsS "FuseBoxModel" 150 yX12_has (Cond.code yX12_has cX12_has 2 (some .boolean) :: WL)) := gin_S wd617 wd618 wd533 wd619
theorem gc250 : (yX12_has).cls ≠ "java/lang/invoke/MethodHandle" ∧ (yX12_has).cls ≠ "java/lang/invoke/VarHandle" ∧ (parseMethodDescriptor (yX12_has).desc).map (fun d => d.parameters.length) = some 2 := by decide +kernel
theorem gc251 : GoodIn WL (wsV "FuseBoxModel" 157 "FuseBoxModel" yX12_cools (Cond.code yX12_cools cX12_cools 3 none :: WL)) := gin_V wd620 wd621 wd622 wd533 wd623
theorem gc252 : (yX12_cools).cls = "FuseBoxModel" ∧ (yX12_cools).cls ≠ "java/lang/invoke/MethodHandle" ∧ (yX12_cools).cls ≠ "java/lang/invoke/VarHandle" ∧ (parseMethodDescriptor (yX12_cools).desc).map (fun d => d.parameters.length) = some 2 := by decide +kernel
theorem gc253 : GoodIn WL (wsV "FuseBoxModel" 153 "FuseBoxModel" yX12_heats (Cond.code yX12_heats cX12_heats 9 none :: WL)) := gin_V wd625 wd626 wd627 wd533 wd628
theorem gc254 : (yX12_heats).cls = "FuseBoxModel" ∧ (yX12_heats).cls ≠ "java/lang/invoke/MethodHandle" ∧ (yX12_heats).cls ≠ "java/lang/invoke/VarHandle" ∧ (parseMethodDescriptor (yX12_heats).desc).map (fun d => d.parameters.length) = some 3 := by decide +kernel
theorem gc255 : GoodIn WL (wsV "FuseBoxModel" 147 "FuseBoxModel" yX12_flowOf (Cond.code yX12_flowOf cX12_flowOf 5 (some .int) :: WL)) := gin_V wd629 wd630 wd631 wd533 wd632
theorem gc256 : (yX12_flowOf).cls = "FuseBoxModel" ∧ (yX12_flowOf).cls ≠ "java/lang/invoke/MethodHandle" ∧ (yX12_flowOf).cls ≠ "java/lang/invoke/VarHandle" ∧ (parseMethodDescriptor (yX12_flowOf).desc).map (fun d => d.parameters.length) = some 2 := by decide +kernel
theorem gc257 : GoodIn WL (wsV "FuseBoxModel" 162 "FuseBoxModel" yX12_copies (Cond.code yX12_copies cX12_copies 4 none :: WL)) := gin_V wd633 wd634 wd635 wd533 wd636
theorem gc258 : (yX12_copies).cls = "FuseBoxModel" ∧ (yX12_copies).cls ≠ "java/lang/invoke/MethodHandle" ∧ (yX12_copies).cls ≠ "java/lang/invoke/VarHandle" ∧ (parseMethodDescriptor (yX12_copies).desc).map (fun d => d.parameters.length) = some 2 := by decide +kernel
theorem gc259 : GoodIn WL (wsV "FuseBoxModel" 165 "FuseBoxModel" yX12_isHouse (Cond.code yX12_isHouse cX12_isHouse 1 (some .boolean) :: WL)) := gin_V wd637 wd638 wd639 wd533 wd640
theorem gc260 : (yX12_isHouse).cls = "FuseBoxModel" ∧ (yX12_isHouse).cls ≠ "java/lang/invoke/MethodHandle" ∧ (yX12_isHouse).cls ≠ "java/lang/invoke/VarHandle" ∧ (parseMethodDescriptor (yX12_isHouse).desc).map (fun d => d.parameters.length) = some 0 := by decide +kernel
theorem gc261 : GoodIn WL (wsV "FuseBoxModel" 172 "FuseBoxModel" yX12_known (Cond.code yX12_known cX12_known 2 none :: WL)) := gin_V wd642 wd643 wd644 wd533 wd645
theorem gc262 : (yX12_known).cls = "FuseBoxModel" ∧ (yX12_known).cls ≠ "java/lang/invoke/MethodHandle" ∧ (yX12_known).cls ≠ "java/lang/invoke/VarHandle" ∧ (parseMethodDescriptor (yX12_known).desc).map (fun d => d.parameters.length) = some 0 := by decide +kernel
theorem gc263 : GoodIn WL (wsV "FuseBoxModel" 175 "FuseBoxModel" yX12_passes (Cond.code yX12_passes cX12_passes 5 none :: WL)) := gin_V wd646 wd647 wd648 wd533 wd649
theorem gc264 : (yX12_passes).cls = "FuseBoxModel" ∧ (yX12_passes).cls ≠ "java/lang/invoke/MethodHandle" ∧ (yX12_passes).cls ≠ "java/lang/invoke/VarHandle" ∧ (parseMethodDescriptor (yX12_passes).desc).map (fun d => d.parameters.length) = some 1 := by decide +kernel
theorem gc265 : GoodIn WL (wsV "FuseBoxModel" 178 "FuseBoxModel" yX12_isThing (Cond.code yX12_isThing cX12_isThing 2 (some .boolean) :: WL)) := gin_V wd651 wd652 wd653 wd533 wd654
theorem gc266 : (yX12_isThing).cls = "FuseBoxModel" ∧ (yX12_isThing).cls ≠ "java/lang/invoke/MethodHandle" ∧ (yX12_isThing).cls ≠ "java/lang/invoke/VarHandle" ∧ (parseMethodDescriptor (yX12_isThing).desc).map (fun d => d.parameters.length) = some 1 := by decide +kernel
theorem gc267 : GoodIn WL (wsV "FuseBoxModel" 182 "FuseBoxModel" yX12_running (Cond.code yX12_running cX12_running 4 (some .int) :: WL)) := gin_V wd655 wd656 wd657 wd533 wd658
theorem gc268 : (yX12_running).cls = "FuseBoxModel" ∧ (yX12_running).cls ≠ "java/lang/invoke/MethodHandle" ∧ (yX12_running).cls ≠ "java/lang/invoke/VarHandle" ∧ (parseMethodDescriptor (yX12_running).desc).map (fun d => d.parameters.length) = some 1 := by decide +kernel
theorem gc269 : GoodIn WL (wsV "FuseBoxModel" 185 "FuseBoxModel" yX12_isLine (Cond.code yX12_isLine cX12_isLine 2 (some .boolean) :: WL)) := gin_V wd659 wd660 wd661 wd533 wd662
theorem gc270 : (yX12_isLine).cls = "FuseBoxModel" ∧ (yX12_isLine).cls ≠ "java/lang/invoke/MethodHandle" ∧ (yX12_isLine).cls ≠ "java/lang/invoke/VarHandle" ∧ (parseMethodDescriptor (yX12_isLine).desc).map (fun d => d.parameters.length) = some 1 := by decide +kernel
theorem gc271 : GoodIn WL (wsV "FuseBoxModel" 188 "FuseBoxModel" yX12_mends (Cond.code yX12_mends cX12_mends 3 none :: WL)) := gin_V wd663 wd664 wd665 wd533 wd666
theorem gc272 : (yX12_mends).cls = "FuseBoxModel" ∧ (yX12_mends).cls ≠ "java/lang/invoke/MethodHandle" ∧ (yX12_mends).cls ≠ "java/lang/invoke/VarHandle" ∧ (parseMethodDescriptor (yX12_mends).desc).map (fun d => d.parameters.length) = some 2 := by decide +kernel
theorem gc273 : GoodIn WL (wsV "FuseBoxModel" 191 "FuseBoxModel" yX12_deadOnes (Cond.code yX12_deadOnes cX12_deadOnes 3 (some .int) :: WL)) := gin_V wd667 wd668 wd669 wd533 wd670
theorem gc274 : (yX12_deadOnes).cls = "FuseBoxModel" ∧ (yX12_deadOnes).cls ≠ "java/lang/invoke/MethodHandle" ∧ (yX12_deadOnes).cls ≠ "java/lang/invoke/VarHandle" ∧ (parseMethodDescriptor (yX12_deadOnes).desc).map (fun d => d.parameters.length) = some 0 := by decide +kernel
theorem gc275 : GoodIn WL (wsV "FuseBoxModel" 202 "FuseBoxModel" yX12_goesOn (Cond.code yX12_goesOn cX12_goesOn 3 none :: WL)) := gin_V wd675 wd676 wd677 wd533 wd678
theorem gc276 : (yX12_goesOn).cls = "FuseBoxModel" ∧ (yX12_goesOn).cls ≠ "java/lang/invoke/MethodHandle" ∧ (yX12_goesOn).cls ≠ "java/lang/invoke/VarHandle" ∧ (parseMethodDescriptor (yX12_goesOn).desc).map (fun d => d.parameters.length) = some 1 := by decide +kernel
theorem gc277 : GoodIn WL (wsV "FuseBoxModel" 208 "FuseBoxModel" yX12_onOnes (Cond.code yX12_onOnes cX12_onOnes 3 (some .int) :: WL)) := gin_V wd681 wd682 wd683 wd533 wd684
theorem gc278 : (yX12_onOnes).cls = "FuseBoxModel" ∧ (yX12_onOnes).cls ≠ "java/lang/invoke/MethodHandle" ∧ (yX12_onOnes).cls ≠ "java/lang/invoke/VarHandle" ∧ (parseMethodDescriptor (yX12_onOnes).desc).map (fun d => d.parameters.length) = some 0 := by decide +kernel
theorem gc279 : GoodIn WL (va_wsS "FuseBoxModel" 211 yX12_bits (Cond.code yX12_bits cX12_bits 3 (some .int) :: WL)) := gin_S wd685 wd686 wd533 wd687
theorem gc280 : (yX12_bits).cls ≠ "java/lang/invoke/MethodHandle" ∧ (yX12_bits).cls ≠ "java/lang/invoke/VarHandle" ∧ (parseMethodDescriptor (yX12_bits).desc).map (fun d => d.parameters.length) = some 1 := by decide +kernel
theorem gc281 : GoodIn WL (wsV "FuseBoxModel" 214 "FuseBoxModel" yX12_offs (Cond.code yX12_offs cX12_offs 3 none :: WL)) := gin_V wd688 wd689 wd690 wd533 wd691
theorem gc282 : (yX12_offs).cls = "FuseBoxModel" ∧ (yX12_offs).cls ≠ "java/lang/invoke/MethodHandle" ∧ (yX12_offs).cls ≠ "java/lang/invoke/VarHandle" ∧ (parseMethodDescriptor (yX12_offs).desc).map (fun d => d.parameters.length) = some 1 := by decide +kernel
theorem gc283 : GoodIn WL (wsV "FuseBoxModel" 217 "FuseBoxModel" yX12_isLiveFor (Cond.code yX12_isLiveFor cX12_isLiveFor 5 (some .boolean) :: WL)) := gin_V wd692 wd693 wd694 wd533 wd695
theorem gc284 : (yX12_isLiveFor).cls = "FuseBoxModel" ∧ (yX12_isLiveFor).cls ≠ "java/lang/invoke/MethodHandle" ∧ (yX12_isLiveFor).cls ≠ "java/lang/invoke/VarHandle" ∧ (parseMethodDescriptor (yX12_isLiveFor).desc).map (fun d => d.parameters.length) = some 2 := by decide +kernel
theorem gc285 : GoodIn WL (wsV "FuseBoxModel" 224 "FuseBoxModel" yX12_plugged (Cond.code yX12_plugged cX12_plugged 5 (some .int) :: WL)) := gin_V wd698 wd699 wd700 wd533 wd701
theorem gc286 : (yX12_plugged).cls = "FuseBoxModel" ∧ (yX12_plugged).cls ≠ "java/lang/invoke/MethodHandle" ∧ (yX12_plugged).cls ≠ "java/lang/invoke/VarHandle" ∧ (parseMethodDescriptor (yX12_plugged).desc).map (fun d => d.parameters.length) = some 2 := by decide +kernel
theorem gc287 : GoodIn WL (wsV "FuseBoxModel" 227 "FuseBoxModel" yX12_usedBehind (Cond.code yX12_usedBehind cX12_usedBehind 2 (some .int) :: WL)) := gin_V wd702 wd703 wd704 wd533 wd705
theorem gc288 : (yX12_usedBehind).cls = "FuseBoxModel" ∧ (yX12_usedBehind).cls ≠ "java/lang/invoke/MethodHandle" ∧ (yX12_usedBehind).cls ≠ "java/lang/invoke/VarHandle" ∧ (parseMethodDescriptor (yX12_usedBehind).desc).map (fun d => d.parameters.length) = some 1 := by decide +kernel
theorem gc289 : GoodIn WL (wsV "FuseBoxModel" 232 "FuseBoxModel" yX12_isSo (Cond.code yX12_isSo cX12_isSo 7 (some .boolean) :: WL)) := gin_V wd707 wd708 wd709 wd533 wd710
theorem gc290 : (yX12_isSo).cls = "FuseBoxModel" ∧ (yX12_isSo).cls ≠ "java/lang/invoke/MethodHandle" ∧ (yX12_isSo).cls ≠ "java/lang/invoke/VarHandle" ∧ (parseMethodDescriptor (yX12_isSo).desc).map (fun d => d.parameters.length) = some 4 := by decide +kernel
theorem gc291 : GoodIn WL (wsV "FuseBoxModel" 242 "FuseBoxModel" yX12_mainsThat (Cond.code yX12_mainsThat cX12_mainsThat 11 (some .int) :: WL)) := gin_V wd712 wd713 wd714 wd533 wd715
theorem gc292 : (yX12_mainsThat).cls = "FuseBoxModel" ∧ (yX12_mainsThat).cls ≠ "java/lang/invoke/MethodHandle" ∧ (yX12_mainsThat).cls ≠ "java/lang/invoke/VarHandle" ∧ (parseMethodDescriptor (yX12_mainsThat).desc).map (fun d => d.parameters.length) = some 5 := by decide +kernel
theorem gc293 : GoodIn WL (wsV "FuseBoxModel" 238 "FuseBoxModel" yX12_sorts (Cond.code yX12_sorts cX12_sorts 9 (some .int) :: WL)) := gin_V wd716 wd717 wd718 wd533 wd719
theorem gc294 : (yX12_sorts).cls = "FuseBoxModel" ∧ (yX12_sorts).cls ≠ "java/lang/invoke/MethodHandle" ∧ (yX12_sorts).cls ≠ "java/lang/invoke/VarHandle" ∧ (parseMethodDescriptor (yX12_sorts).desc).map (fun d => d.parameters.length) = some 4 := by decide +kernel
theorem gc295 : GoodIn WL (wsV "FuseBoxModel" 257 "FuseBoxModel" yX12_leaves (Cond.code yX12_leaves cX12_leaves 2 none :: WL)) := gin_V wd727 wd728 wd729 wd533 wd730
theorem gc296 : (yX12_leaves).cls = "FuseBoxModel" ∧ (yX12_leaves).cls ≠ "java/lang/invoke/MethodHandle" ∧ (yX12_leaves).cls ≠ "java/lang/invoke/VarHandle" ∧ (parseMethodDescriptor (yX12_leaves).desc).map (fun d => d.parameters.length) = some 1 := by decide +kernel
theorem gc297 : GoodIn WL (wsV "FuseBoxModel" 260 "FuseBoxModel" yX12_lent (Cond.code yX12_lent cX12_lent 3 (some .int) :: WL)) := gin_V wd731 wd732 wd733 wd533 wd734
theorem gc298 : (yX12_lent).cls = "FuseBoxModel" ∧ (yX12_lent).cls ≠ "java/lang/invoke/MethodHandle" ∧ (yX12_lent).cls ≠ "java/lang/invoke/VarHandle" ∧ (parseMethodDescriptor (yX12_lent).desc).map (fun d => d.parameters.length) = some 2 := by decide +kernel
theorem gc299 : GoodIn WL (wsV "FuseBoxModel" 264 "FuseBoxModel" yX12_wireMark (Cond.code yX12_wireMark cX12_wireMark 4 (some .int) :: WL)) := gin_V wd735 wd736 wd737 wd533 wd738
theorem gc300 : (yX12_wireMark).cls = "FuseBoxModel" ∧ (yX12_wireMark).cls ≠ "java/lang/invoke/MethodHandle" ∧ (yX12_wireMark).cls ≠ "java/lang/invoke/VarHandle" ∧ (parseMethodDescriptor (yX12_wireMark).desc).map (fun d => d.parameters.length) = some 2 := by decide +kernel
theorem gc301 : GoodIn WL (wsV "FuseBoxModel" 267 "FuseBoxModel" yX12_breakerSize (Cond.code yX12_breakerSize cX12_breakerSize 4 (some .int) :: WL)) := gin_V wd739 wd740 wd741 wd533 wd742
theorem gc302 : (yX12_breakerSize).cls = "FuseBoxModel" ∧ (yX12_breakerSize).cls ≠ "java/lang/invoke/MethodHandle" ∧ (yX12_breakerSize).cls ≠ "java/lang/invoke/VarHandle" ∧ (parseMethodDescriptor (yX12_breakerSize).desc).map (fun d => d.parameters.length) = some 2 := by decide +kernel
theorem gc303 : GoodIn WL (wsV "FuseBoxModel" 273 "FuseBoxModel" yX12_breakerMark (Cond.code yX12_breakerMark cX12_breakerMark 4 (some .int) :: WL)) := gin_V wd743 wd744 wd745 wd533 wd746
theorem gc304 : (yX12_breakerMark).cls = "FuseBoxModel" ∧ (yX12_breakerMark).cls ≠ "java/lang/invoke/MethodHandle" ∧ (yX12_breakerMark).cls ≠ "java/lang/invoke/VarHandle" ∧ (parseMethodDescriptor (yX12_breakerMark).desc).map (fun d => d.parameters.length) = some 2 := by decide +kernel
theorem gc305 : GoodIn WL (wsV "FuseBoxModel" 270 "FuseBoxModel" yX12_wireSize (Cond.code yX12_wireSize cX12_wireSize 4 (some .int) :: WL)) := gin_V wd747 wd748 wd749 wd533 wd750
theorem gc306 : (yX12_wireSize).cls = "FuseBoxModel" ∧ (yX12_wireSize).cls ≠ "java/lang/invoke/MethodHandle" ∧ (yX12_wireSize).cls ≠ "java/lang/invoke/VarHandle" ∧ (parseMethodDescriptor (yX12_wireSize).desc).map (fun d => d.parameters.length) = some 2 := by decide +kernel
end
section
theorem dX0_deadIfOver_0 : decode cX0_deadIfOver 0 = .ok (.iconst 1, 1) := by decide +kernel
theorem dX0_deadIfOver_1 : decode cX0_deadIfOver 1 = .ok (.ireturn, 1) := by decide +kernel
theorem dX0_heatBehind_0 : decode cX0_heatBehind 0 = .ok (.iload_n 1, 1) := by decide +kernel
theorem dX0_heatBehind_1 : decode cX0_heatBehind 1 = .ok (.ireturn, 1) := by decide +kernel
theorem dX0_deadBehind_0 : decode cX0_deadBehind 0 = .ok (.iload_n 2, 1) := by decide +kernel
theorem dX0_deadBehind_1 : decode cX0_deadBehind 1 = .ok (.iload_n 3, 1) := by decide +kernel
theorem dX0_deadBehind_2 : decode cX0_deadBehind 2 = .ok (.if_icmp .le 10, 3) := by decide +kernel
theorem dX0_deadBehind_5 : decode cX0_deadBehind 5 = .ok (.aload_n 0, 1) := by decide +kernel
theorem dX0_deadBehind_6 : decode cX0_deadBehind 6 = .ok (.invokevirtual 9, 3) := by decide +kernel
theorem dX0_deadBehind_9 : decode cX0_deadBehind 9 = .ok (.goto 4, 3) := by decide +kernel
theorem dX0_deadBehind_12 : decode cX0_deadBehind 12 = .ok (.iconst 0, 1) := by decide +kernel
theorem dX0_deadBehind_13 : decode cX0_deadBehind 13 = .ok (.ireturn, 1) := by decide +kernel
theorem dX1_deadIfOver_0 : decode cX1_deadIfOver 0 = .ok (.iconst 3, 1) := by decide +kernel
theorem dX1_deadIfOver_1 : decode cX1_deadIfOver 1 = .ok (.ireturn, 1) := by decide +kernel
theorem dX9_leave_0 : decode cX9_leave 0 = .ok (.aload_n 0, 1) := by decide +kernel
theorem dX9_leave_1 : decode cX9_leave 1 = .ok (.getfield 15, 3) := by decide +kernel
theorem dX9_leave_4 : decode cX9_leave 4 = .ok (.bipush 16, 2) := by decide +kernel
theorem dX9_leave_6 : decode cX9_leave 6 = .ok (.if_icmp .ge 23, 3) := by decide +kernel
theorem dX9_leave_9 : decode cX9_leave 9 = .ok (.aload_n 0, 1) := by decide +kernel
theorem dX9_leave_10 : decode cX9_leave 10 = .ok (.getfield 9, 3) := by decide +kernel
theorem dX9_leave_13 : decode cX9_leave 13 = .ok (.aload_n 0, 1) := by decide +kernel
theorem dX9_leave_14 : decode cX9_leave 14 = .ok (.getfield 15, 3) := by decide +kernel
theorem dX9_leave_17 : decode cX9_leave 17 = .ok (.iload_n 1, 1) := by decide +kernel
theorem dX9_leave_18 : decode cX9_leave 18 = .ok (.iastore, 1) := by decide +kernel
theorem dX9_leave_19 : decode cX9_leave 19 = .ok (.aload_n 0, 1) := by decide +kernel
theorem dX9_leave_20 : decode cX9_leave 20 = .ok (.dup, 1) := by decide +kernel
theorem dX9_leave_21 : decode cX9_leave 21 = .ok (.getfield 15, 3) := by decide +kernel
theorem dX9_leave_24 : decode cX9_leave 24 = .ok (.iconst 1, 1) := by decide +kernel
theorem dX9_leave_25 : decode cX9_leave 25 = .ok (.iadd, 1) := by decide +kernel
theorem dX9_leave_26 : decode cX9_leave 26 = .ok (.putfield 15, 3) := by decide +kernel
theorem dX9_leave_29 : decode cX9_leave 29 = .ok (.return_, 1) := by decide +kernel
theorem dX2_sizeOf_0 : decode cX2_sizeOf 0 = .ok (.aload_n 3, 1) := by decide +kernel
theorem dX2_sizeOf_1 : decode cX2_sizeOf 1 = .ok (.bipush 10, 2) := by decide +kernel
theorem dX2_sizeOf_3 : decode cX2_sizeOf 3 = .ok (.invokevirtual 7, 3) := by decide +kernel
theorem dX2_sizeOf_6 : decode cX2_sizeOf 6 = .ok (.aload_n 1, 1) := by decide +kernel
theorem dX2_sizeOf_7 : decode cX2_sizeOf 7 = .ok (.getfield 13, 3) := by decide +kernel
theorem dX2_sizeOf_10 : decode cX2_sizeOf 10 = .ok (.iload_n 2, 1) := by decide +kernel
theorem dX2_sizeOf_11 : decode cX2_sizeOf 11 = .ok (.iaload, 1) := by decide +kernel
theorem dX2_sizeOf_12 : decode cX2_sizeOf 12 = .ok (.ireturn, 1) := by decide +kernel
theorem dX0_sizeOf_0 : decode cX0_sizeOf 0 = .ok (.aload_n 3, 1) := by decide +kernel
theorem dX0_sizeOf_1 : decode cX0_sizeOf 1 = .ok (.bipush 13, 2) := by decide +kernel
theorem dX0_sizeOf_3 : decode cX0_sizeOf 3 = .ok (.invokevirtual 15, 3) := by decide +kernel
theorem dX0_sizeOf_6 : decode cX0_sizeOf 6 = .ok (.aload_n 0, 1) := by decide +kernel
theorem dX0_sizeOf_7 : decode cX0_sizeOf 7 = .ok (.aload_n 1, 1) := by decide +kernel
theorem dX0_sizeOf_8 : decode cX0_sizeOf 8 = .ok (.iload_n 2, 1) := by decide +kernel
theorem dX0_sizeOf_9 : decode cX0_sizeOf 9 = .ok (.aload_n 3, 1) := by decide +kernel
theorem dX0_sizeOf_10 : decode cX0_sizeOf 10 = .ok (.invokespecial 21, 3) := by decide +kernel
theorem dX0_sizeOf_13 : decode cX0_sizeOf 13 = .ok (.bipush 100, 2) := by decide +kernel
theorem dX0_sizeOf_15 : decode cX0_sizeOf 15 = .ok (.isub, 1) := by decide +kernel
theorem dX0_sizeOf_16 : decode cX0_sizeOf 16 = .ok (.ireturn, 1) := by decide +kernel
theorem dX2_markOf_0 : decode cX2_markOf 0 = .ok (.aload_n 3, 1) := by decide +kernel
theorem dX2_markOf_1 : decode cX2_markOf 1 = .ok (.bipush 20, 2) := by decide +kernel
theorem dX2_markOf_3 : decode cX2_markOf 3 = .ok (.invokevirtual 7, 3) := by decide +kernel
theorem dX2_markOf_6 : decode cX2_markOf 6 = .ok (.iload_n 2, 1) := by decide +kernel
theorem dX2_markOf_7 : decode cX2_markOf 7 = .ok (.ireturn, 1) := by decide +kernel
theorem dX0_markOf_0 : decode cX0_markOf 0 = .ok (.aload_n 3, 1) := by decide +kernel
theorem dX0_markOf_1 : decode cX0_markOf 1 = .ok (.bipush 23, 2) := by decide +kernel
theorem dX0_markOf_3 : decode cX0_markOf 3 = .ok (.invokevirtual 15, 3) := by decide +kernel
theorem dX0_markOf_6 : decode cX0_markOf 6 = .ok (.aload_n 0, 1) := by decide +kernel
theorem dX0_markOf_7 : decode cX0_markOf 7 = .ok (.aload_n 1, 1) := by decide +kernel
theorem dX0_markOf_8 : decode cX0_markOf 8 = .ok (.iload_n 2, 1) := by decide +kernel
theorem dX0_markOf_9 : decode cX0_markOf 9 = .ok (.aload_n 3, 1) := by decide +kernel
theorem dX0_markOf_10 : decode cX0_markOf 10 = .ok (.invokespecial 25, 3) := by decide +kernel
theorem dX0_markOf_13 : decode cX0_markOf 13 = .ok (.istore 4, 2) := by decide +kernel
theorem dX0_markOf_15 : decode cX0_markOf 15 = .ok (.iload 4, 2) := by decide +kernel
theorem dX0_markOf_17 : decode cX0_markOf 17 = .ok (.aload_n 0, 1) := by decide +kernel
theorem dX0_markOf_18 : decode cX0_markOf 18 = .ok (.aload_n 1, 1) := by decide +kernel
theorem dX0_markOf_19 : decode cX0_markOf 19 = .ok (.iload_n 2, 1) := by decide +kernel
theorem dX0_markOf_20 : decode cX0_markOf 20 = .ok (.aload_n 3, 1) := by decide +kernel
theorem dX0_markOf_21 : decode cX0_markOf 21 = .ok (.invokevirtual 28, 3) := by decide +kernel
theorem dX0_markOf_24 : decode cX0_markOf 24 = .ok (.isub, 1) := by decide +kernel
theorem dX0_markOf_25 : decode cX0_markOf 25 = .ok (.ireturn, 1) := by decide +kernel
theorem dX1_sizeOf_0 : decode cX1_sizeOf 0 = .ok (.aload_n 3, 1) := by decide +kernel
theorem dX1_sizeOf_1 : decode cX1_sizeOf 1 = .ok (.bipush 14, 2) := by decide +kernel
theorem dX1_sizeOf_3 : decode cX1_sizeOf 3 = .ok (.invokevirtual 9, 3) := by decide +kernel
theorem dX1_sizeOf_6 : decode cX1_sizeOf 6 = .ok (.iconst 2, 1) := by decide +kernel
theorem dX1_sizeOf_7 : decode cX1_sizeOf 7 = .ok (.aload_n 0, 1) := by decide +kernel
theorem dX1_sizeOf_8 : decode cX1_sizeOf 8 = .ok (.aload_n 1, 1) := by decide +kernel
theorem dX1_sizeOf_9 : decode cX1_sizeOf 9 = .ok (.iload_n 2, 1) := by decide +kernel
theorem dX1_sizeOf_10 : decode cX1_sizeOf 10 = .ok (.aload_n 3, 1) := by decide +kernel
theorem dX1_sizeOf_11 : decode cX1_sizeOf 11 = .ok (.invokespecial 15, 3) := by decide +kernel
theorem dX1_sizeOf_14 : decode cX1_sizeOf 14 = .ok (.imul, 1) := by decide +kernel
theorem dX1_sizeOf_15 : decode cX1_sizeOf 15 = .ok (.ireturn, 1) := by decide +kernel
theorem dX10_heatBy_0 : decode cX10_heatBy 0 = .ok (.iload_n 1, 1) := by decide +kernel
theorem dX10_heatBy_1 : decode cX10_heatBy 1 = .ok (.ireturn, 1) := by decide +kernel
theorem dX10_heatBehind_0 : decode cX10_heatBehind 0 = .ok (.iload_n 2, 1) := by decide +kernel
theorem dX10_heatBehind_1 : decode cX10_heatBehind 1 = .ok (.ifCond .le 18, 3) := by decide +kernel
theorem dX10_heatBehind_4 : decode cX10_heatBehind 4 = .ok (.bipush 99, 2) := by decide +kernel
theorem dX10_heatBehind_6 : decode cX10_heatBehind 6 = .ok (.iload_n 1, 1) := by decide +kernel
theorem dX10_heatBehind_7 : decode cX10_heatBehind 7 = .ok (.aload_n 0, 1) := by decide +kernel
theorem dX10_heatBehind_8 : decode cX10_heatBehind 8 = .ok (.iload_n 2, 1) := by decide +kernel
theorem dX10_heatBehind_9 : decode cX10_heatBehind 9 = .ok (.invokevirtual 9, 3) := by decide +kernel
theorem dX10_heatBehind_12 : decode cX10_heatBehind 12 = .ok (.iadd, 1) := by decide +kernel
theorem dX10_heatBehind_13 : decode cX10_heatBehind 13 = .ok (.invokestatic 15, 3) := by decide +kernel
theorem dX10_heatBehind_16 : decode cX10_heatBehind 16 = .ok (.goto 10, 3) := by decide +kernel
theorem dX10_heatBehind_19 : decode cX10_heatBehind 19 = .ok (.iconst 0, 1) := by decide +kernel
theorem dX10_heatBehind_20 : decode cX10_heatBehind 20 = .ok (.iload_n 1, 1) := by decide +kernel
theorem dX10_heatBehind_21 : decode cX10_heatBehind 21 = .ok (.iconst 1, 1) := by decide +kernel
theorem dX10_heatBehind_22 : decode cX10_heatBehind 22 = .ok (.isub, 1) := by decide +kernel
theorem dX10_heatBehind_23 : decode cX10_heatBehind 23 = .ok (.invokestatic 21, 3) := by decide +kernel
theorem dX10_heatBehind_26 : decode cX10_heatBehind 26 = .ok (.ireturn, 1) := by decide +kernel
theorem dX8_heatBy_0 : decode cX8_heatBy 0 = .ok (.iload_n 1, 1) := by decide +kernel
theorem dX8_heatBy_1 : decode cX8_heatBy 1 = .ok (.iconst 2, 1) := by decide +kernel
theorem dX8_heatBy_2 : decode cX8_heatBy 2 = .ok (.idiv, 1) := by decide +kernel
theorem dX8_heatBy_3 : decode cX8_heatBy 3 = .ok (.ireturn, 1) := by decide +kernel
theorem dX10_deadBehind_0 : decode cX10_deadBehind 0 = .ok (.iload_n 1, 1) := by decide +kernel
theorem dX10_deadBehind_1 : decode cX10_deadBehind 1 = .ok (.bipush 10, 2) := by decide +kernel
theorem dX10_deadBehind_3 : decode cX10_deadBehind 3 = .ok (.if_icmp .lt 7, 3) := by decide +kernel
theorem dX10_deadBehind_6 : decode cX10_deadBehind 6 = .ok (.iconst 1, 1) := by decide +kernel
theorem dX10_deadBehind_7 : decode cX10_deadBehind 7 = .ok (.goto 4, 3) := by decide +kernel
theorem dX10_deadBehind_10 : decode cX10_deadBehind 10 = .ok (.iconst 0, 1) := by decide +kernel
theorem dX10_deadBehind_11 : decode cX10_deadBehind 11 = .ok (.ireturn, 1) := by decide +kernel
theorem dX5_deadBehind_0 : decode cX5_deadBehind 0 = .ok (.iload_n 2, 1) := by decide +kernel
theorem dX5_deadBehind_1 : decode cX5_deadBehind 1 = .ok (.iconst 2, 1) := by decide +kernel
theorem dX5_deadBehind_2 : decode cX5_deadBehind 2 = .ok (.iload_n 3, 1) := by decide +kernel
theorem dX5_deadBehind_3 : decode cX5_deadBehind 3 = .ok (.imul, 1) := by decide +kernel
theorem dX5_deadBehind_4 : decode cX5_deadBehind 4 = .ok (.if_icmp .lt 7, 3) := by decide +kernel
theorem dX5_deadBehind_7 : decode cX5_deadBehind 7 = .ok (.iconst 1, 1) := by decide +kernel
theorem dX5_deadBehind_8 : decode cX5_deadBehind 8 = .ok (.goto 10, 3) := by decide +kernel
theorem dX5_deadBehind_11 : decode cX5_deadBehind 11 = .ok (.aload_n 0, 1) := by decide +kernel
theorem dX5_deadBehind_12 : decode cX5_deadBehind 12 = .ok (.iload_n 1, 1) := by decide +kernel
theorem dX5_deadBehind_13 : decode cX5_deadBehind 13 = .ok (.iload_n 2, 1) := by decide +kernel
theorem dX5_deadBehind_14 : decode cX5_deadBehind 14 = .ok (.iload_n 3, 1) := by decide +kernel
theorem dX5_deadBehind_15 : decode cX5_deadBehind 15 = .ok (.invokespecial 9, 3) := by decide +kernel
theorem dX5_deadBehind_18 : decode cX5_deadBehind 18 = .ok (.ireturn, 1) := by decide +kernel
theorem dJ6_bitCount_0f7a4_0 : decode cJ6_bitCount_0f7a4 0 = .ok (.iload_n 0, 1) := by decide +kernel
theorem dJ6_bitCount_0f7a4_1 : decode cJ6_bitCount_0f7a4 1 = .ok (.iload_n 0, 1) := by decide +kernel
theorem dJ6_bitCount_0f7a4_2 : decode cJ6_bitCount_0f7a4 2 = .ok (.iconst 1, 1) := by decide +kernel
theorem dJ6_bitCount_0f7a4_3 : decode cJ6_bitCount_0f7a4 3 = .ok (.iushr, 1) := by decide +kernel
theorem dJ6_bitCount_0f7a4_4 : decode cJ6_bitCount_0f7a4 4 = .ok (.ldc_w 265, 3) := by decide +kernel
theorem dJ6_bitCount_0f7a4_7 : decode cJ6_bitCount_0f7a4 7 = .ok (.iand, 1) := by decide +kernel
theorem dJ6_bitCount_0f7a4_8 : decode cJ6_bitCount_0f7a4 8 = .ok (.isub, 1) := by decide +kernel
theorem dJ6_bitCount_0f7a4_9 : decode cJ6_bitCount_0f7a4 9 = .ok (.istore_n 0, 1) := by decide +kernel
theorem dJ6_bitCount_0f7a4_10 : decode cJ6_bitCount_0f7a4 10 = .ok (.iload_n 0, 1) := by decide +kernel
theorem dJ6_bitCount_0f7a4_11 : decode cJ6_bitCount_0f7a4 11 = .ok (.ldc_w 266, 3) := by decide +kernel
theorem dJ6_bitCount_0f7a4_14 : decode cJ6_bitCount_0f7a4 14 = .ok (.iand, 1) := by decide +kernel
theorem dJ6_bitCount_0f7a4_15 : decode cJ6_bitCount_0f7a4 15 = .ok (.iload_n 0, 1) := by decide +kernel
theorem dJ6_bitCount_0f7a4_16 : decode cJ6_bitCount_0f7a4 16 = .ok (.iconst 2, 1) := by decide +kernel
theorem dJ6_bitCount_0f7a4_17 : decode cJ6_bitCount_0f7a4 17 = .ok (.iushr, 1) := by decide +kernel
theorem dJ6_bitCount_0f7a4_18 : decode cJ6_bitCount_0f7a4 18 = .ok (.ldc_w 266, 3) := by decide +kernel
theorem dJ6_bitCount_0f7a4_21 : decode cJ6_bitCount_0f7a4 21 = .ok (.iand, 1) := by decide +kernel
theorem dJ6_bitCount_0f7a4_22 : decode cJ6_bitCount_0f7a4 22 = .ok (.iadd, 1) := by decide +kernel
theorem dJ6_bitCount_0f7a4_23 : decode cJ6_bitCount_0f7a4 23 = .ok (.istore_n 0, 1) := by decide +kernel
theorem dJ6_bitCount_0f7a4_24 : decode cJ6_bitCount_0f7a4 24 = .ok (.iload_n 0, 1) := by decide +kernel
theorem dJ6_bitCount_0f7a4_25 : decode cJ6_bitCount_0f7a4 25 = .ok (.iload_n 0, 1) := by decide +kernel
theorem dJ6_bitCount_0f7a4_26 : decode cJ6_bitCount_0f7a4 26 = .ok (.iconst 4, 1) := by decide +kernel
theorem dJ6_bitCount_0f7a4_27 : decode cJ6_bitCount_0f7a4 27 = .ok (.iushr, 1) := by decide +kernel
theorem dJ6_bitCount_0f7a4_28 : decode cJ6_bitCount_0f7a4 28 = .ok (.iadd, 1) := by decide +kernel
theorem dJ6_bitCount_0f7a4_29 : decode cJ6_bitCount_0f7a4 29 = .ok (.ldc_w 267, 3) := by decide +kernel
theorem dJ6_bitCount_0f7a4_32 : decode cJ6_bitCount_0f7a4 32 = .ok (.iand, 1) := by decide +kernel
theorem dJ6_bitCount_0f7a4_33 : decode cJ6_bitCount_0f7a4 33 = .ok (.istore_n 0, 1) := by decide +kernel
theorem dJ6_bitCount_0f7a4_34 : decode cJ6_bitCount_0f7a4 34 = .ok (.iload_n 0, 1) := by decide +kernel
theorem dJ6_bitCount_0f7a4_35 : decode cJ6_bitCount_0f7a4 35 = .ok (.iload_n 0, 1) := by decide +kernel
theorem dJ6_bitCount_0f7a4_36 : decode cJ6_bitCount_0f7a4 36 = .ok (.bipush 8, 2) := by decide +kernel
theorem dJ6_bitCount_0f7a4_38 : decode cJ6_bitCount_0f7a4 38 = .ok (.iushr, 1) := by decide +kernel
theorem dJ6_bitCount_0f7a4_39 : decode cJ6_bitCount_0f7a4 39 = .ok (.iadd, 1) := by decide +kernel
theorem dJ6_bitCount_0f7a4_40 : decode cJ6_bitCount_0f7a4 40 = .ok (.istore_n 0, 1) := by decide +kernel
theorem dJ6_bitCount_0f7a4_41 : decode cJ6_bitCount_0f7a4 41 = .ok (.iload_n 0, 1) := by decide +kernel
theorem dJ6_bitCount_0f7a4_42 : decode cJ6_bitCount_0f7a4 42 = .ok (.iload_n 0, 1) := by decide +kernel
theorem dJ6_bitCount_0f7a4_43 : decode cJ6_bitCount_0f7a4 43 = .ok (.bipush 16, 2) := by decide +kernel
theorem dJ6_bitCount_0f7a4_45 : decode cJ6_bitCount_0f7a4 45 = .ok (.iushr, 1) := by decide +kernel
theorem dJ6_bitCount_0f7a4_46 : decode cJ6_bitCount_0f7a4 46 = .ok (.iadd, 1) := by decide +kernel
theorem dJ6_bitCount_0f7a4_47 : decode cJ6_bitCount_0f7a4 47 = .ok (.istore_n 0, 1) := by decide +kernel
theorem dJ6_bitCount_0f7a4_48 : decode cJ6_bitCount_0f7a4 48 = .ok (.iload_n 0, 1) := by decide +kernel
theorem dJ6_bitCount_0f7a4_49 : decode cJ6_bitCount_0f7a4 49 = .ok (.bipush 63, 2) := by decide +kernel
theorem dJ6_bitCount_0f7a4_51 : decode cJ6_bitCount_0f7a4 51 = .ok (.iand, 1) := by decide +kernel
theorem dJ6_bitCount_0f7a4_52 : decode cJ6_bitCount_0f7a4 52 = .ok (.ireturn, 1) := by decide +kernel
theorem dX10_markOf_0 : decode cX10_markOf 0 = .ok (.aload_n 3, 1) := by decide +kernel
theorem dX10_markOf_1 : decode cX10_markOf 1 = .ok (.bipush 21, 2) := by decide +kernel
theorem dX10_markOf_3 : decode cX10_markOf 3 = .ok (.invokevirtual 24, 3) := by decide +kernel
theorem dX10_markOf_6 : decode cX10_markOf 6 = .ok (.aload_n 0, 1) := by decide +kernel
theorem dX10_markOf_7 : decode cX10_markOf 7 = .ok (.aload_n 1, 1) := by decide +kernel
theorem dX10_markOf_8 : decode cX10_markOf 8 = .ok (.iload_n 2, 1) := by decide +kernel
theorem dX10_markOf_9 : decode cX10_markOf 9 = .ok (.aload_n 3, 1) := by decide +kernel
theorem dX10_markOf_10 : decode cX10_markOf 10 = .ok (.invokespecial 37, 3) := by decide +kernel
theorem dX10_markOf_13 : decode cX10_markOf 13 = .ok (.aload_n 1, 1) := by decide +kernel
theorem dX10_markOf_14 : decode cX10_markOf 14 = .ok (.getfield 38, 3) := by decide +kernel
theorem dX10_markOf_17 : decode cX10_markOf 17 = .ok (.iload_n 2, 1) := by decide +kernel
theorem dX10_markOf_18 : decode cX10_markOf 18 = .ok (.iaload, 1) := by decide +kernel
theorem dX10_markOf_19 : decode cX10_markOf 19 = .ok (.iadd, 1) := by decide +kernel
theorem dX10_markOf_20 : decode cX10_markOf 20 = .ok (.ireturn, 1) := by decide +kernel
theorem dX5_markOf_0 : decode cX5_markOf 0 = .ok (.aload_n 3, 1) := by decide +kernel
theorem dX5_markOf_1 : decode cX5_markOf 1 = .ok (.bipush 22, 2) := by decide +kernel
theorem dX5_markOf_3 : decode cX5_markOf 3 = .ok (.invokevirtual 13, 3) := by decide +kernel
theorem dX5_markOf_6 : decode cX5_markOf 6 = .ok (.aload_n 0, 1) := by decide +kernel
theorem dX5_markOf_7 : decode cX5_markOf 7 = .ok (.aload_n 1, 1) := by decide +kernel
theorem dX5_markOf_8 : decode cX5_markOf 8 = .ok (.iload_n 2, 1) := by decide +kernel
theorem dX5_markOf_9 : decode cX5_markOf 9 = .ok (.aload_n 3, 1) := by decide +kernel
theorem dX5_markOf_10 : decode cX5_markOf 10 = .ok (.invokespecial 19, 3) := by decide +kernel
theorem dX5_markOf_13 : decode cX5_markOf 13 = .ok (.sipush 1000, 3) := by decide +kernel
theorem dX5_markOf_16 : decode cX5_markOf 16 = .ok (.isub, 1) := by decide +kernel
theorem dX5_markOf_17 : decode cX5_markOf 17 = .ok (.ireturn, 1) := by decide +kernel
theorem dX7_begin_0 : decode cX7_begin 0 = .ok (.aload_n 0, 1) := by decide +kernel
theorem dX7_begin_1 : decode cX7_begin 1 = .ok (.iload_n 1, 1) := by decide +kernel
theorem dX7_begin_2 : decode cX7_begin 2 = .ok (.putfield 19, 3) := by decide +kernel
theorem dX7_begin_5 : decode cX7_begin 5 = .ok (.aload_n 0, 1) := by decide +kernel
theorem dX7_begin_6 : decode cX7_begin 6 = .ok (.iload_n 2, 1) := by decide +kernel
theorem dX7_begin_7 : decode cX7_begin 7 = .ok (.putfield 15, 3) := by decide +kernel
theorem dX7_begin_10 : decode cX7_begin 10 = .ok (.iconst 0, 1) := by decide +kernel
theorem dX7_begin_11 : decode cX7_begin 11 = .ok (.istore_n 3, 1) := by decide +kernel
theorem dX7_begin_12 : decode cX7_begin 12 = .ok (.iload_n 3, 1) := by decide +kernel
theorem dX7_begin_13 : decode cX7_begin 13 = .ok (.bipush 40, 2) := by decide +kernel
theorem dX7_begin_15 : decode cX7_begin 15 = .ok (.if_icmp .ge 16, 3) := by decide +kernel
theorem dX7_begin_18 : decode cX7_begin 18 = .ok (.aload_n 0, 1) := by decide +kernel
theorem dX7_begin_19 : decode cX7_begin 19 = .ok (.getfield 9, 3) := by decide +kernel
theorem dX7_begin_22 : decode cX7_begin 22 = .ok (.iload_n 3, 1) := by decide +kernel
theorem dX7_begin_23 : decode cX7_begin 23 = .ok (.iconst 0, 1) := by decide +kernel
theorem dX7_begin_24 : decode cX7_begin 24 = .ok (.iastore, 1) := by decide +kernel
theorem dX7_begin_25 : decode cX7_begin 25 = .ok (.iinc 3 1, 3) := by decide +kernel
theorem dX7_begin_28 : decode cX7_begin 28 = .ok (.goto (-16), 3) := by decide +kernel
theorem dX7_begin_31 : decode cX7_begin 31 = .ok (.return_, 1) := by decide +kernel
theorem dX7_end_0 : decode cX7_end 0 = .ok (.aload_n 0, 1) := by decide +kernel
theorem dX7_end_1 : decode cX7_end 1 = .ok (.iconst (-1), 1) := by decide +kernel
theorem dX7_end_2 : decode cX7_end 2 = .ok (.putfield 15, 3) := by decide +kernel
theorem dX7_end_5 : decode cX7_end 5 = .ok (.return_, 1) := by decide +kernel
theorem dX7_isMissing_0 : decode cX7_isMissing 0 = .ok (.aload_n 0, 1) := by decide +kernel
theorem dX7_isMissing_1 : decode cX7_isMissing 1 = .ok (.getfield 15, 3) := by decide +kernel
theorem dX7_isMissing_4 : decode cX7_isMissing 4 = .ok (.ifCond .ge 7, 3) := by decide +kernel
theorem dX7_isMissing_7 : decode cX7_isMissing 7 = .ok (.iconst 1, 1) := by decide +kernel
theorem dX7_isMissing_8 : decode cX7_isMissing 8 = .ok (.goto 4, 3) := by decide +kernel
theorem dX7_isMissing_11 : decode cX7_isMissing 11 = .ok (.iconst 0, 1) := by decide +kernel
theorem dX7_isMissing_12 : decode cX7_isMissing 12 = .ok (.ireturn, 1) := by decide +kernel
theorem dX7_has_0 : decode cX7_has 0 = .ok (.iload_n 1, 1) := by decide +kernel
theorem dX7_has_1 : decode cX7_has 1 = .ok (.ifCond .lt 29, 3) := by decide +kernel
theorem dX7_has_4 : decode cX7_has 4 = .ok (.iload_n 2, 1) := by decide +kernel
theorem dX7_has_5 : decode cX7_has 5 = .ok (.ifCond .lt 25, 3) := by decide +kernel
theorem dX7_has_8 : decode cX7_has 8 = .ok (.iload_n 1, 1) := by decide +kernel
theorem dX7_has_9 : decode cX7_has 9 = .ok (.aload_n 0, 1) := by decide +kernel
theorem dX7_has_10 : decode cX7_has 10 = .ok (.getfield 15, 3) := by decide +kernel
theorem dX7_has_13 : decode cX7_has 13 = .ok (.if_icmp .gt 17, 3) := by decide +kernel
theorem dX7_has_16 : decode cX7_has 16 = .ok (.iload_n 2, 1) := by decide +kernel
theorem dX7_has_17 : decode cX7_has 17 = .ok (.aload_n 0, 1) := by decide +kernel
theorem dX7_has_18 : decode cX7_has 18 = .ok (.getfield 15, 3) := by decide +kernel
theorem dX7_has_21 : decode cX7_has 21 = .ok (.iload_n 1, 1) := by decide +kernel
theorem dX7_has_22 : decode cX7_has 22 = .ok (.isub, 1) := by decide +kernel
theorem dX7_has_23 : decode cX7_has 23 = .ok (.if_icmp .gt 7, 3) := by decide +kernel
theorem dX7_has_26 : decode cX7_has 26 = .ok (.iconst 1, 1) := by decide +kernel
theorem dX7_has_27 : decode cX7_has 27 = .ok (.goto 4, 3) := by decide +kernel
theorem dX7_has_30 : decode cX7_has 30 = .ok (.iconst 0, 1) := by decide +kernel
theorem dX7_has_31 : decode cX7_has 31 = .ok (.ireturn, 1) := by decide +kernel
theorem dX7_cut_0 : decode cX7_cut 0 = .ok (.aload_n 0, 1) := by decide +kernel
theorem dX7_cut_1 : decode cX7_cut 1 = .ok (.getfield 19, 3) := by decide +kernel
theorem dX7_cut_4 : decode cX7_cut 4 = .ok (.lookupswitch 34 #[(0, 28), (1, 31)], 28) := by decide +kernel
theorem dX7_cut_32 : decode cX7_cut 32 = .ok (.iload_n 1, 1) := by decide +kernel
theorem dX7_cut_33 : decode cX7_cut 33 = .ok (.i2b, 1) := by decide +kernel
theorem dX7_cut_34 : decode cX7_cut 34 = .ok (.ireturn, 1) := by decide +kernel
theorem dX7_cut_35 : decode cX7_cut 35 = .ok (.iload_n 1, 1) := by decide +kernel
theorem dX7_cut_36 : decode cX7_cut 36 = .ok (.i2s, 1) := by decide +kernel
theorem dX7_cut_37 : decode cX7_cut 37 = .ok (.ireturn, 1) := by decide +kernel
theorem dX7_cut_38 : decode cX7_cut 38 = .ok (.iload_n 1, 1) := by decide +kernel
theorem dX7_cut_39 : decode cX7_cut 39 = .ok (.ireturn, 1) := by decide +kernel
theorem dX8_markOf_0 : decode cX8_markOf 0 = .ok (.aload_n 3, 1) := by decide +kernel
theorem dX8_markOf_1 : decode cX8_markOf 1 = .ok (.bipush 24, 2) := by decide +kernel
theorem dX8_markOf_3 : decode cX8_markOf 3 = .ok (.invokevirtual 7, 3) := by decide +kernel
theorem dX8_markOf_6 : decode cX8_markOf 6 = .ok (.iconst 2, 1) := by decide +kernel
theorem dX8_markOf_7 : decode cX8_markOf 7 = .ok (.aload_n 0, 1) := by decide +kernel
theorem dX8_markOf_8 : decode cX8_markOf 8 = .ok (.aload_n 1, 1) := by decide +kernel
theorem dX8_markOf_9 : decode cX8_markOf 9 = .ok (.iload_n 2, 1) := by decide +kernel
theorem dX8_markOf_10 : decode cX8_markOf 10 = .ok (.aload_n 3, 1) := by decide +kernel
theorem dX8_markOf_11 : decode cX8_markOf 11 = .ok (.invokespecial 17, 3) := by decide +kernel
theorem dX8_markOf_14 : decode cX8_markOf 14 = .ok (.imul, 1) := by decide +kernel
theorem dX8_markOf_15 : decode cX8_markOf 15 = .ok (.ireturn, 1) := by decide +kernel
theorem dX10_sizeOf_0 : decode cX10_sizeOf 0 = .ok (.aload_n 3, 1) := by decide +kernel
theorem dX10_sizeOf_1 : decode cX10_sizeOf 1 = .ok (.bipush 11, 2) := by decide +kernel
theorem dX10_sizeOf_3 : decode cX10_sizeOf 3 = .ok (.invokevirtual 24, 3) := by decide +kernel
theorem dX10_sizeOf_6 : decode cX10_sizeOf 6 = .ok (.aload_n 0, 1) := by decide +kernel
theorem dX10_sizeOf_7 : decode cX10_sizeOf 7 = .ok (.aload_n 1, 1) := by decide +kernel
theorem dX10_sizeOf_8 : decode cX10_sizeOf 8 = .ok (.iload_n 2, 1) := by decide +kernel
theorem dX10_sizeOf_9 : decode cX10_sizeOf 9 = .ok (.aload_n 3, 1) := by decide +kernel
theorem dX10_sizeOf_10 : decode cX10_sizeOf 10 = .ok (.invokespecial 30, 3) := by decide +kernel
theorem dX10_sizeOf_13 : decode cX10_sizeOf 13 = .ok (.istore 4, 2) := by decide +kernel
theorem dX10_sizeOf_15 : decode cX10_sizeOf 15 = .ok (.iload 4, 2) := by decide +kernel
theorem dX10_sizeOf_17 : decode cX10_sizeOf 17 = .ok (.aload_n 0, 1) := by decide +kernel
theorem dX10_sizeOf_18 : decode cX10_sizeOf 18 = .ok (.aload_n 1, 1) := by decide +kernel
theorem dX10_sizeOf_19 : decode cX10_sizeOf 19 = .ok (.iload_n 2, 1) := by decide +kernel
theorem dX10_sizeOf_20 : decode cX10_sizeOf 20 = .ok (.aload_n 3, 1) := by decide +kernel
theorem dX10_sizeOf_21 : decode cX10_sizeOf 21 = .ok (.invokevirtual 34, 3) := by decide +kernel
theorem dX10_sizeOf_24 : decode cX10_sizeOf 24 = .ok (.iadd, 1) := by decide +kernel
theorem dX10_sizeOf_25 : decode cX10_sizeOf 25 = .ok (.ireturn, 1) := by decide +kernel
theorem dX8_sizeOf_0 : decode cX8_sizeOf 0 = .ok (.aload_n 3, 1) := by decide +kernel
theorem dX8_sizeOf_1 : decode cX8_sizeOf 1 = .ok (.bipush 12, 2) := by decide +kernel
theorem dX8_sizeOf_3 : decode cX8_sizeOf 3 = .ok (.invokevirtual 7, 3) := by decide +kernel
theorem dX8_sizeOf_6 : decode cX8_sizeOf 6 = .ok (.aload_n 0, 1) := by decide +kernel
theorem dX8_sizeOf_7 : decode cX8_sizeOf 7 = .ok (.aload_n 1, 1) := by decide +kernel
theorem dX8_sizeOf_8 : decode cX8_sizeOf 8 = .ok (.iload_n 2, 1) := by decide +kernel
theorem dX8_sizeOf_9 : decode cX8_sizeOf 9 = .ok (.aload_n 3, 1) := by decide +kernel
theorem dX8_sizeOf_10 : decode cX8_sizeOf 10 = .ok (.invokespecial 13, 3) := by decide +kernel
theorem dX8_sizeOf_13 : decode cX8_sizeOf 13 = .ok (.ineg, 1) := by decide +kernel
theorem dX8_sizeOf_14 : decode cX8_sizeOf 14 = .ok (.ireturn, 1) := by decide +kernel
theorem dX9_empty_0 : decode cX9_empty 0 = .ok (.aload_n 0, 1) := by decide +kernel
theorem dX9_empty_1 : decode cX9_empty 1 = .ok (.iconst 0, 1) := by decide +kernel
theorem dX9_empty_2 : decode cX9_empty 2 = .ok (.putfield 15, 3) := by decide +kernel
theorem dX9_empty_5 : decode cX9_empty 5 = .ok (.return_, 1) := by decide +kernel
end
section
def f_X0_deadIfOver_17  (s0 : St) : Option (Int32 × St) := some ((1 : Int32), s0)
def f_X0_deadIfOver_18  (s0 : St) : Option (Int32 × St) := some ((1 : Int32), s0)
def f_X0_heatBehind_17 (x1 : Int32) (x2 : Int32) (s0 : St) : Option (Int32 × St) := some (x1, s0)
def f_X0_heatBehind_18 (x1 : Int32) (x2 : Int32) (s0 : St) : Option (Int32 × St) := some (x1, s0)
def f_X0_deadBehind_17 (x1 : Int32) (x2 : Int32) (x3 : Int32) (s0 : St) : Option (Int32 × St) := lt (fun (k_1 : Int32) (s_2 : St) => some (k_1, s_2)) fun j13 => if x2 ≤ x3 then (j13 (0 : Int32) s0) else (bd (f_X0_deadIfOver_17 s0) fun (r_4 : Int32) (s_3 : St) => j13 r_4 s_3)
def f_X1_deadIfOver_18  (s0 : St) : Option (Int32 × St) := some ((3 : Int32), s0)
def f_X0_deadBehind_18 (x1 : Int32) (x2 : Int32) (x3 : Int32) (s0 : St) : Option (Int32 × St) := lt (fun (k_1 : Int32) (s_2 : St) => some (k_1, s_2)) fun j13 => if x2 ≤ x3 then (j13 (0 : Int32) s0) else (bd (f_X1_deadIfOver_18 s0) fun (r_4 : Int32) (s_3 : St) => j13 r_4 s_3)
def f_X9_leave (x1 : Int32) (s0 : St) : Option St := lt (fun (s_1 : St) => some s_1) fun j29 => if (16 : Int32) ≤ (s0 11 1) then (j29 s0) else (if inb (s0 11 1) 16 then lt (wr s0 12 ((s0 11 1)).toNatClampNeg x1) fun (s_2 : St) => lt (wr s_2 11 1 ((s_2 11 1) + (1 : Int32))) fun (s_3 : St) => j29 s_3 else none)
def f_X2_sizeOf_17 (a1 : Nat) (x2 : Int32) (s0 : St) : Option (Int32 × St) := (f_X9_leave (10 : Int32) s0).bind fun (s_1 : St) => if inb x2 4 then some ((s_1 (a1 + 2) (x2).toNatClampNeg), s_1) else none
def f_X0_sizeOf_17 (a1 : Nat) (x2 : Int32) (s0 : St) : Option (Int32 × St) := (f_X9_leave (13 : Int32) s0).bind fun (s_1 : St) => bd (f_X2_sizeOf_17 a1 x2 s_1) fun (r_3 : Int32) (s_2 : St) => some ((r_3 - (100 : Int32)), s_2)
def f_X2_sizeOf_18 (a1 : Nat) (x2 : Int32) (s0 : St) : Option (Int32 × St) := (f_X9_leave (10 : Int32) s0).bind fun (s_1 : St) => if inb x2 4 then some ((s_1 (a1 + 2) (x2).toNatClampNeg), s_1) else none
def f_X0_sizeOf_18 (a1 : Nat) (x2 : Int32) (s0 : St) : Option (Int32 × St) := (f_X9_leave (13 : Int32) s0).bind fun (s_1 : St) => bd (f_X2_sizeOf_18 a1 x2 s_1) fun (r_3 : Int32) (s_2 : St) => some ((r_3 - (100 : Int32)), s_2)
def f_X2_markOf_17 (a1 : Nat) (x2 : Int32) (s0 : St) : Option (Int32 × St) := (f_X9_leave (20 : Int32) s0).bind fun (s_1 : St) => some (x2, s_1)
def f_X0_markOf_17 (a1 : Nat) (x2 : Int32) (s0 : St) : Option (Int32 × St) := (f_X9_leave (23 : Int32) s0).bind fun (s_1 : St) => bd (f_X2_markOf_17 a1 x2 s_1) fun (r_3 : Int32) (s_2 : St) => bd (f_X0_sizeOf_17 a1 x2 s_2) fun (r_5 : Int32) (s_4 : St) => some ((r_3 - r_5), s_4)
def f_X2_markOf_18 (a1 : Nat) (x2 : Int32) (s0 : St) : Option (Int32 × St) := (f_X9_leave (20 : Int32) s0).bind fun (s_1 : St) => some (x2, s_1)
def f_X1_sizeOf_18 (a1 : Nat) (x2 : Int32) (s0 : St) : Option (Int32 × St) := (f_X9_leave (14 : Int32) s0).bind fun (s_1 : St) => bd (f_X0_sizeOf_18 a1 x2 s_1) fun (r_3 : Int32) (s_2 : St) => some (((2 : Int32) * r_3), s_2)
def f_X0_markOf_18 (a1 : Nat) (x2 : Int32) (s0 : St) : Option (Int32 × St) := (f_X9_leave (23 : Int32) s0).bind fun (s_1 : St) => bd (f_X2_markOf_18 a1 x2 s_1) fun (r_3 : Int32) (s_2 : St) => bd (f_X1_sizeOf_18 a1 x2 s_2) fun (r_5 : Int32) (s_4 : St) => some ((r_3 - r_5), s_4)
def f_X2_sizeOf_14 (a1 : Nat) (x2 : Int32) (s0 : St) : Option (Int32 × St) := (f_X9_leave (10 : Int32) s0).bind fun (s_1 : St) => if inb x2 4 then some ((s_1 (a1 + 2) (x2).toNatClampNeg), s_1) else none
def f_X2_sizeOf_15 (a1 : Nat) (x2 : Int32) (s0 : St) : Option (Int32 × St) := (f_X9_leave (10 : Int32) s0).bind fun (s_1 : St) => if inb x2 4 then some ((s_1 (a1 + 2) (x2).toNatClampNeg), s_1) else none
def f_X2_sizeOf_16 (a1 : Nat) (x2 : Int32) (s0 : St) : Option (Int32 × St) := (f_X9_leave (10 : Int32) s0).bind fun (s_1 : St) => if inb x2 4 then some ((s_1 (a1 + 2) (x2).toNatClampNeg), s_1) else none
def f_X2_markOf_14 (a1 : Nat) (x2 : Int32) (s0 : St) : Option (Int32 × St) := (f_X9_leave (20 : Int32) s0).bind fun (s_1 : St) => some (x2, s_1)
def f_X2_markOf_15 (a1 : Nat) (x2 : Int32) (s0 : St) : Option (Int32 × St) := (f_X9_leave (20 : Int32) s0).bind fun (s_1 : St) => some (x2, s_1)
def f_X2_markOf_16 (a1 : Nat) (x2 : Int32) (s0 : St) : Option (Int32 × St) := (f_X9_leave (20 : Int32) s0).bind fun (s_1 : St) => some (x2, s_1)
def f_X10_heatBy_14 (x1 : Int32) (s0 : St) : Option (Int32 × St) := some (x1, s0)
def f_X10_heatBehind_14 (x1 : Int32) (x2 : Int32) (s0 : St) : Option (Int32 × St) := lt (fun (k_1 : Int32) (s_2 : St) => some (k_1, s_2)) fun j26 => if x2 ≤ 0 then (j26 (if (0 : Int32) < (x1 - (1 : Int32)) then (x1 - (1 : Int32)) else (0 : Int32)) s0) else (bd (f_X10_heatBy_14 x2 s0) fun (r_4 : Int32) (s_3 : St) => j26 (if (x1 + r_4) < (99 : Int32) then (x1 + r_4) else (99 : Int32)) s_3)
def f_X8_heatBy_15 (x1 : Int32) (s0 : St) : Option (Int32 × St) := some ((x1 / (2 : Int32)), s0)
def f_X10_heatBehind_15 (x1 : Int32) (x2 : Int32) (s0 : St) : Option (Int32 × St) := lt (fun (k_1 : Int32) (s_2 : St) => some (k_1, s_2)) fun j26 => if x2 ≤ 0 then (j26 (if (0 : Int32) < (x1 - (1 : Int32)) then (x1 - (1 : Int32)) else (0 : Int32)) s0) else (bd (f_X8_heatBy_15 x2 s0) fun (r_4 : Int32) (s_3 : St) => j26 (if (x1 + r_4) < (99 : Int32) then (x1 + r_4) else (99 : Int32)) s_3)
def f_X10_heatBy_16 (x1 : Int32) (s0 : St) : Option (Int32 × St) := some (x1, s0)
def f_X10_heatBehind_16 (x1 : Int32) (x2 : Int32) (s0 : St) : Option (Int32 × St) := lt (fun (k_1 : Int32) (s_2 : St) => some (k_1, s_2)) fun j26 => if x2 ≤ 0 then (j26 (if (0 : Int32) < (x1 - (1 : Int32)) then (x1 - (1 : Int32)) else (0 : Int32)) s0) else (bd (f_X10_heatBy_16 x2 s0) fun (r_4 : Int32) (s_3 : St) => j26 (if (x1 + r_4) < (99 : Int32) then (x1 + r_4) else (99 : Int32)) s_3)
def f_X10_deadBehind_14 (x1 : Int32) (x2 : Int32) (x3 : Int32) (s0 : St) : Option (Int32 × St) := lt (fun (k_1 : Int32) (s_2 : St) => some (k_1, s_2)) fun j11 => if x1 < (10 : Int32) then (j11 (0 : Int32) s0) else (j11 (1 : Int32) s0)
def f_X10_deadBehind_15 (x1 : Int32) (x2 : Int32) (x3 : Int32) (s0 : St) : Option (Int32 × St) := lt (fun (k_1 : Int32) (s_2 : St) => some (k_1, s_2)) fun j11 => if x1 < (10 : Int32) then (j11 (0 : Int32) s0) else (j11 (1 : Int32) s0)
def f_X10_deadBehind_16 (x1 : Int32) (x2 : Int32) (x3 : Int32) (s0 : St) : Option (Int32 × St) := lt (fun (k_1 : Int32) (s_2 : St) => some (k_1, s_2)) fun j11 => if x1 < (10 : Int32) then (j11 (0 : Int32) s0) else (j11 (1 : Int32) s0)
def f_X5_deadBehind_16 (x1 : Int32) (x2 : Int32) (x3 : Int32) (s0 : St) : Option (Int32 × St) := lt (fun (k_1 : Int32) (s_2 : St) => some (k_1, s_2)) fun j18 => if x2 < ((2 : Int32) * x3) then (bd (f_X10_deadBehind_16 x1 x2 x3 s0) fun (r_4 : Int32) (s_3 : St) => j18 r_4 s_3) else (j18 (1 : Int32) s0)
def f_J6_bitCount_0f7a4 (x0 : Int32) (s0 : St) : Option (Int32 × St) := lt (x0 - ((((x0).toUInt32 >>> (((1 : Int32)).toUInt32 &&& Int32.toUInt32 31)).toInt32) &&& (1431655765 : Int32))) fun (v0_1 : Int32) => lt ((v0_1 &&& (858993459 : Int32)) + ((((v0_1).toUInt32 >>> (((2 : Int32)).toUInt32 &&& Int32.toUInt32 31)).toInt32) &&& (858993459 : Int32))) fun (v0_2 : Int32) => lt ((v0_2 + (((v0_2).toUInt32 >>> (((4 : Int32)).toUInt32 &&& Int32.toUInt32 31)).toInt32)) &&& (252645135 : Int32)) fun (v0_3 : Int32) => lt (v0_3 + (((v0_3).toUInt32 >>> (((8 : Int32)).toUInt32 &&& Int32.toUInt32 31)).toInt32)) fun (v0_4 : Int32) => lt (v0_4 + (((v0_4).toUInt32 >>> (((16 : Int32)).toUInt32 &&& Int32.toUInt32 31)).toInt32)) fun (v0_5 : Int32) => some ((v0_5 &&& (63 : Int32)), s0)
def f_X10_markOf_16 (a1 : Nat) (x2 : Int32) (s0 : St) : Option (Int32 × St) := (f_X9_leave (21 : Int32) s0).bind fun (s_1 : St) => bd (f_X2_markOf_16 a1 x2 s_1) fun (r_3 : Int32) (s_2 : St) => if inb x2 4 then some ((r_3 + (s_2 (a1 + 3) (x2).toNatClampNeg)), s_2) else none
def f_X5_markOf_16 (a1 : Nat) (x2 : Int32) (s0 : St) : Option (Int32 × St) := (f_X9_leave (22 : Int32) s0).bind fun (s_1 : St) => bd (f_X10_markOf_16 a1 x2 s_1) fun (r_3 : Int32) (s_2 : St) => some ((r_3 - (1000 : Int32)), s_2)
def f_X7_begin_L12 (a0 : Nat) : Int32 × St → Option ((Int32 × St) ⊕ (St)) := un2 fun (v3_4 : Int32) (s_5 : St) => if (40 : Int32) ≤ v3_4 then (some (.inr s_5)) else (if inb v3_4 40 then lt (wr s_5 (a0 + 1) (v3_4).toNatClampNeg (0 : Int32)) fun (s_7 : St) => lt (v3_4 + 1) fun (v3_8 : Int32) => some (.inl (v3_8, s_7)) else none)
def f_X7_begin (a0 : Nat) (x1 : Int32) (x2 : Int32) (s0 : St) : Option St := lt (wr s0 a0 1 x1) fun (s_1 : St) => lt (wr s_1 a0 2 x2) fun (s_2 : St) => lt (0 : Int32) fun (v3_3 : Int32) => (loopF (f_X7_begin_L12 a0) 5000 (v3_3, s_2)).bind (un1 fun (s_6 : St) => some s_6)
def f_X7_end (a0 : Nat) (s0 : St) : Option St := lt (wr s0 a0 2 (-1)) fun (s_1 : St) => some s_1
def f_X7_isMissing (a0 : Nat) (s0 : St) : Option (Int32 × St) := lt (fun (k_1 : Int32) (s_2 : St) => if isB k_1 then some (k_1, s_2) else none) fun j12 => if 0 ≤ (s0 a0 2) then (j12 (0 : Int32) s0) else (j12 (1 : Int32) s0)
def f_X7_has (a0 : Nat) (x1 : Int32) (x2 : Int32) (s0 : St) : Option (Int32 × St) := lt (fun (k_1 : Int32) (s_2 : St) => if isB k_1 then some (k_1, s_2) else none) fun j31 => lt (fun (s_3 : St) => j31 (0 : Int32) s_3) fun j30 => if x1 < 0 then (j30 s0) else (if x2 < 0 then (j30 s0) else (if (s0 a0 2) < x1 then (j30 s0) else (if ((s0 a0 2) - x1) < x2 then (j30 s0) else (j31 (1 : Int32) s0))))
def f_X7_cut (a0 : Nat) (x1 : Int32) (s0 : St) : Option (Int32 × St) := if (s0 a0 1) = 0 then (some (((x1).toInt8.toInt32), s0)) else (if (s0 a0 1) = 1 then (some (((x1).toInt16.toInt32), s0)) else (some (x1, s0)))
def f_X10_markOf_15 (a1 : Nat) (x2 : Int32) (s0 : St) : Option (Int32 × St) := (f_X9_leave (21 : Int32) s0).bind fun (s_1 : St) => bd (f_X2_markOf_15 a1 x2 s_1) fun (r_3 : Int32) (s_2 : St) => if inb x2 4 then some ((r_3 + (s_2 (a1 + 3) (x2).toNatClampNeg)), s_2) else none
def f_X8_markOf_15 (a1 : Nat) (x2 : Int32) (s0 : St) : Option (Int32 × St) := (f_X9_leave (24 : Int32) s0).bind fun (s_1 : St) => bd (f_X10_markOf_15 a1 x2 s_1) fun (r_3 : Int32) (s_2 : St) => some (((2 : Int32) * r_3), s_2)
def f_X10_sizeOf_15 (a1 : Nat) (x2 : Int32) (s0 : St) : Option (Int32 × St) := (f_X9_leave (11 : Int32) s0).bind fun (s_1 : St) => bd (f_X2_sizeOf_15 a1 x2 s_1) fun (r_3 : Int32) (s_2 : St) => bd (f_X8_markOf_15 a1 x2 s_2) fun (r_5 : Int32) (s_4 : St) => some ((r_3 + r_5), s_4)
def f_X8_sizeOf_15 (a1 : Nat) (x2 : Int32) (s0 : St) : Option (Int32 × St) := (f_X9_leave (12 : Int32) s0).bind fun (s_1 : St) => bd (f_X10_sizeOf_15 a1 x2 s_1) fun (r_3 : Int32) (s_2 : St) => some ((-r_3), s_2)
def f_X9_empty  (s0 : St) : Option St := lt (wr s0 11 1 (0 : Int32)) fun (s_1 : St) => some s_1
def f_X10_heatBy_15 (x1 : Int32) (s0 : St) : Option (Int32 × St) := some (x1, s0)
def f_X10_markOf_14 (a1 : Nat) (x2 : Int32) (s0 : St) : Option (Int32 × St) := (f_X9_leave (21 : Int32) s0).bind fun (s_1 : St) => bd (f_X2_markOf_14 a1 x2 s_1) fun (r_3 : Int32) (s_2 : St) => if inb x2 4 then some ((r_3 + (s_2 (a1 + 3) (x2).toNatClampNeg)), s_2) else none
def f_X10_sizeOf_14 (a1 : Nat) (x2 : Int32) (s0 : St) : Option (Int32 × St) := (f_X9_leave (11 : Int32) s0).bind fun (s_1 : St) => bd (f_X2_sizeOf_14 a1 x2 s_1) fun (r_3 : Int32) (s_2 : St) => bd (f_X10_markOf_14 a1 x2 s_2) fun (r_5 : Int32) (s_4 : St) => some ((r_3 + r_5), s_4)
def f_X10_sizeOf_16 (a1 : Nat) (x2 : Int32) (s0 : St) : Option (Int32 × St) := (f_X9_leave (11 : Int32) s0).bind fun (s_1 : St) => bd (f_X2_sizeOf_16 a1 x2 s_1) fun (r_3 : Int32) (s_2 : St) => bd (f_X5_markOf_16 a1 x2 s_2) fun (r_5 : Int32) (s_4 : St) => some ((r_3 + r_5), s_4)
def d_heatBehind (r : Nat) (x1 : Int32) (x2 : Int32) (s0 : St) : Option (Int32 × St) := if r = 14 then f_X10_heatBehind_14 x1 x2 s0 else if r = 15 then f_X10_heatBehind_15 x1 x2 s0 else if r = 16 then f_X10_heatBehind_16 x1 x2 s0 else if r = 17 then f_X0_heatBehind_17 x1 x2 s0 else if r = 18 then f_X0_heatBehind_18 x1 x2 s0 else none
def d_deadBehind (r : Nat) (x1 : Int32) (x2 : Int32) (x3 : Int32) (s0 : St) : Option (Int32 × St) := if r = 14 then f_X10_deadBehind_14 x1 x2 x3 s0 else if r = 15 then f_X10_deadBehind_15 x1 x2 x3 s0 else if r = 16 then f_X5_deadBehind_16 x1 x2 x3 s0 else if r = 17 then f_X0_deadBehind_17 x1 x2 x3 s0 else if r = 18 then f_X0_deadBehind_18 x1 x2 x3 s0 else none
def d_sizeOf (r : Nat) (a1 : Nat) (x2 : Int32) (s0 : St) : Option (Int32 × St) := if r = 14 then f_X10_sizeOf_14 a1 x2 s0 else if r = 15 then f_X8_sizeOf_15 a1 x2 s0 else if r = 16 then f_X10_sizeOf_16 a1 x2 s0 else if r = 17 then f_X0_sizeOf_17 a1 x2 s0 else if r = 18 then f_X1_sizeOf_18 a1 x2 s0 else none
def d_markOf (r : Nat) (a1 : Nat) (x2 : Int32) (s0 : St) : Option (Int32 × St) := if r = 14 then f_X10_markOf_14 a1 x2 s0 else if r = 15 then f_X8_markOf_15 a1 x2 s0 else if r = 16 then f_X5_markOf_16 a1 x2 s0 else if r = 17 then f_X0_markOf_17 a1 x2 s0 else if r = 18 then f_X0_markOf_18 a1 x2 s0 else none
end
section
set_option maxHeartbeats 4000000 in
set_option maxRecDepth 100000 in
theorem m_X0_deadIfOver_17 (l : Launch) (E : Ev)   {s0 sz : St} {rz : Int32} (hf : f_X0_deadIfOver_17 s0 = some (rz, sz)) : MM l E sh2 yX0_deadIfOver cX0_deadIfOver 1 (some .int) (rmd 1) [.ref (E.2.2.1 + 17)] s0 (some (.int rz)) sz := by
  unfold f_X0_deadIfOver_17 at hf
  refine z_enter (by decide +kernel) (Nat.le_of_ble_eq_true rfl) ?_
  intro p e s m args below meth c ls hC hr hlocks hw hS hl
  have hC : Cx p s m args c cX0_deadIfOver 1 "FuseBox$Breaker" E := hC
  obtain ⟨hx, hb, hml, hown, hts, hTB⟩ := id hC
  have hl : lv_has ls 1 [(0, .ref (E.2.2.1 + 17))] := hl
  refine lv_iconst (v := 1) hx hb dX0_deadIfOver_0 (by decide) ?_
  exact z_iretE hC hlocks hw hS hf hr rfl dX0_deadIfOver_1
set_option maxHeartbeats 4000000 in
set_option maxRecDepth 100000 in
theorem m_X0_deadIfOver_18 (l : Launch) (E : Ev)   {s0 sz : St} {rz : Int32} (hf : f_X0_deadIfOver_18 s0 = some (rz, sz)) : MM l E sh2 yX0_deadIfOver cX0_deadIfOver 1 (some .int) (rmd 1) [.ref (E.2.2.1 + 18)] s0 (some (.int rz)) sz := by
  unfold f_X0_deadIfOver_18 at hf
  refine z_enter (by decide +kernel) (Nat.le_of_ble_eq_true rfl) ?_
  intro p e s m args below meth c ls hC hr hlocks hw hS hl
  have hC : Cx p s m args c cX0_deadIfOver 1 "FuseBox$Breaker" E := hC
  obtain ⟨hx, hb, hml, hown, hts, hTB⟩ := id hC
  have hl : lv_has ls 1 [(0, .ref (E.2.2.1 + 18))] := hl
  refine lv_iconst (v := 1) hx hb dX0_deadIfOver_0 (by decide) ?_
  exact z_iretE hC hlocks hw hS hf hr rfl dX0_deadIfOver_1
set_option maxHeartbeats 4000000 in
set_option maxRecDepth 100000 in
theorem m_X0_heatBehind_17 (l : Launch) (E : Ev) {x1 : Int32} {x2 : Int32}  {s0 sz : St} {rz : Int32} (hf : f_X0_heatBehind_17 x1 x2 s0 = some (rz, sz)) : MM l E sh2 yX0_heatBehind cX0_heatBehind 3 (some .int) (rmd 1) [.ref (E.2.2.1 + 17), .int x1, .int x2] s0 (some (.int rz)) sz := by
  unfold f_X0_heatBehind_17 at hf
  refine z_enter (by decide +kernel) (Nat.le_of_ble_eq_true rfl) ?_
  intro p e s m args below meth c ls hC hr hlocks hw hS hl
  have hC : Cx p s m args c cX0_heatBehind 3 "FuseBox$Breaker" E := hC
  obtain ⟨hx, hb, hml, hown, hts, hTB⟩ := id hC
  have hl : lv_has ls 3 [(0, .ref (E.2.2.1 + 17)), (1, .int x1), (2, .int x2)] := hl
  refine lv_iload_n hx hb dX0_heatBehind_0 rfl (lv_at hl 1 rfl) ?_
  exact z_iretE hC hlocks hw hS hf hr rfl dX0_heatBehind_1
set_option maxHeartbeats 4000000 in
set_option maxRecDepth 100000 in
theorem m_X0_heatBehind_18 (l : Launch) (E : Ev) {x1 : Int32} {x2 : Int32}  {s0 sz : St} {rz : Int32} (hf : f_X0_heatBehind_18 x1 x2 s0 = some (rz, sz)) : MM l E sh2 yX0_heatBehind cX0_heatBehind 3 (some .int) (rmd 1) [.ref (E.2.2.1 + 18), .int x1, .int x2] s0 (some (.int rz)) sz := by
  unfold f_X0_heatBehind_18 at hf
  refine z_enter (by decide +kernel) (Nat.le_of_ble_eq_true rfl) ?_
  intro p e s m args below meth c ls hC hr hlocks hw hS hl
  have hC : Cx p s m args c cX0_heatBehind 3 "FuseBox$Breaker" E := hC
  obtain ⟨hx, hb, hml, hown, hts, hTB⟩ := id hC
  have hl : lv_has ls 3 [(0, .ref (E.2.2.1 + 18)), (1, .int x1), (2, .int x2)] := hl
  refine lv_iload_n hx hb dX0_heatBehind_0 rfl (lv_at hl 1 rfl) ?_
  exact z_iretE hC hlocks hw hS hf hr rfl dX0_heatBehind_1
set_option maxHeartbeats 4000000 in
set_option maxRecDepth 100000 in
theorem m_X0_deadBehind_17 (l : Launch) (E : Ev) {x1 : Int32} {x2 : Int32} {x3 : Int32}  {s0 sz : St} {rz : Int32} (hf : f_X0_deadBehind_17 x1 x2 x3 s0 = some (rz, sz)) : MM l E sh2 yX0_deadBehind cX0_deadBehind 4 (some .int) (rmd 2) [.ref (E.2.2.1 + 17), .int x1, .int x2, .int x3] s0 (some (.int rz)) sz := by
  unfold f_X0_deadBehind_17 at hf
  refine z_enter (by decide +kernel) (Nat.le_of_ble_eq_true rfl) ?_
  intro p e s m args below meth c ls hC hr hlocks hw hS hl
  have hC : Cx p s m args c cX0_deadBehind 4 "FuseBox$Breaker" E := hC
  obtain ⟨hx, hb, hml, hown, hts, hTB⟩ := id hC
  have hl : lv_has ls 4 [(0, .ref (E.2.2.1 + 17)), (1, .int x1), (2, .int x2), (3, .int x3)] := hl
  refine lv_iload_n hx hb dX0_deadBehind_0 rfl (lv_at hl 2 rfl) ?_
  refine lv_iload_n hx hb dX0_deadBehind_1 rfl (lv_at hl 3 rfl) ?_
  obtain ⟨j13, ej13, hf⟩ := ok_lt hf
  have J13 : ∀ (k_1 : Int32) (s_2 : St), j13 k_1 s_2 = some (rz, sz) → ∀ (H : Heap) (locs : List Loc) (ls : Array Slot), lv_has ls 4 [] → World E sh2 s_2 H → va_S E.2.2.2 s.heap H locs → W p l e (rmd 2) s m args below meth c H locs 0 0 (MQ below (QW E sh2 (some (.int rz)) sz) args s 0 0 E.2.2.2) (F0 m 13 ls [.int k_1]) := by
    intro k_1 s_2 hf H locs ls hl hw hS
    subst ej13
    exact z_iretE hC hlocks hw hS hf hr rfl dX0_deadBehind_13
  clear ej13
  have hif := ok_if hf
  refine lv_icmp_le (tgt := 12) hx hb dX0_deadBehind_2 (by decide) (fun hcd => ?_) (fun hcd => ?_)
  · have hf := hif.1 hcd
    clear hif
    refine lv_iconst (v := 0) hx hb dX0_deadBehind_12 (by decide) ?_
    exact J13 _ _ hf _ _ ls (lv_sub hl [] rfl) hw hS
  · have hf := hif.2 hcd
    clear hif
    refine lv_aload_n hx hb dX0_deadBehind_5 rfl (lv_at hl 0 rfl) ?_
    obtain ⟨r_4, s_3, hc, hf⟩ := ok_bd hf
    refine z_cV hC hl.1 hw hS (As := []) (rest := []) (m_X0_deadIfOver_17 l E  hc) (ci := 0) (ks := []) rfl rfl gc0 gc1 ⟨Nat.le_of_ble_eq_true rfl, Nat.le_of_ble_eq_true rfl⟩ ⟨Nat.le_of_ble_eq_true rfl, Nat.le_of_ble_eq_true rfl⟩ rfl rfl (Nat.le_of_ble_eq_true rfl) dX0_deadBehind_6 (fun H locs hw hS => ?_)
    clear hc
    refine lv_goto (tgt := 13) hx hb dX0_deadBehind_9 (by decide) ?_
    exact J13 _ _ hf _ _ ls (lv_sub hl [] rfl) hw hS
set_option maxHeartbeats 4000000 in
set_option maxRecDepth 100000 in
theorem m_X1_deadIfOver_18 (l : Launch) (E : Ev)   {s0 sz : St} {rz : Int32} (hf : f_X1_deadIfOver_18 s0 = some (rz, sz)) : MM l E sh2 yX1_deadIfOver cX1_deadIfOver 1 (some .int) (rmd 1) [.ref (E.2.2.1 + 18)] s0 (some (.int rz)) sz := by
  unfold f_X1_deadIfOver_18 at hf
  refine z_enter (by decide +kernel) (Nat.le_of_ble_eq_true rfl) ?_
  intro p e s m args below meth c ls hC hr hlocks hw hS hl
  have hC : Cx p s m args c cX1_deadIfOver 1 "FuseBox$Coil" E := hC
  obtain ⟨hx, hb, hml, hown, hts, hTB⟩ := id hC
  have hl : lv_has ls 1 [(0, .ref (E.2.2.1 + 18))] := hl
  refine lv_iconst (v := 3) hx hb dX1_deadIfOver_0 (by decide) ?_
  exact z_iretE hC hlocks hw hS hf hr rfl dX1_deadIfOver_1
set_option maxHeartbeats 4000000 in
set_option maxRecDepth 100000 in
theorem m_X0_deadBehind_18 (l : Launch) (E : Ev) {x1 : Int32} {x2 : Int32} {x3 : Int32}  {s0 sz : St} {rz : Int32} (hf : f_X0_deadBehind_18 x1 x2 x3 s0 = some (rz, sz)) : MM l E sh2 yX0_deadBehind cX0_deadBehind 4 (some .int) (rmd 2) [.ref (E.2.2.1 + 18), .int x1, .int x2, .int x3] s0 (some (.int rz)) sz := by
  unfold f_X0_deadBehind_18 at hf
  refine z_enter (by decide +kernel) (Nat.le_of_ble_eq_true rfl) ?_
  intro p e s m args below meth c ls hC hr hlocks hw hS hl
  have hC : Cx p s m args c cX0_deadBehind 4 "FuseBox$Breaker" E := hC
  obtain ⟨hx, hb, hml, hown, hts, hTB⟩ := id hC
  have hl : lv_has ls 4 [(0, .ref (E.2.2.1 + 18)), (1, .int x1), (2, .int x2), (3, .int x3)] := hl
  refine lv_iload_n hx hb dX0_deadBehind_0 rfl (lv_at hl 2 rfl) ?_
  refine lv_iload_n hx hb dX0_deadBehind_1 rfl (lv_at hl 3 rfl) ?_
  obtain ⟨j13, ej13, hf⟩ := ok_lt hf
  have J13 : ∀ (k_1 : Int32) (s_2 : St), j13 k_1 s_2 = some (rz, sz) → ∀ (H : Heap) (locs : List Loc) (ls : Array Slot), lv_has ls 4 [] → World E sh2 s_2 H → va_S E.2.2.2 s.heap H locs → W p l e (rmd 2) s m args below meth c H locs 0 0 (MQ below (QW E sh2 (some (.int rz)) sz) args s 0 0 E.2.2.2) (F0 m 13 ls [.int k_1]) := by
    intro k_1 s_2 hf H locs ls hl hw hS
    subst ej13
    exact z_iretE hC hlocks hw hS hf hr rfl dX0_deadBehind_13
  clear ej13
  have hif := ok_if hf
  refine lv_icmp_le (tgt := 12) hx hb dX0_deadBehind_2 (by decide) (fun hcd => ?_) (fun hcd => ?_)
  · have hf := hif.1 hcd
    clear hif
    refine lv_iconst (v := 0) hx hb dX0_deadBehind_12 (by decide) ?_
    exact J13 _ _ hf _ _ ls (lv_sub hl [] rfl) hw hS
  · have hf := hif.2 hcd
    clear hif
    refine lv_aload_n hx hb dX0_deadBehind_5 rfl (lv_at hl 0 rfl) ?_
    obtain ⟨r_4, s_3, hc, hf⟩ := ok_bd hf
    refine z_cU hC hl.1 hw hS (As := []) (rest := []) (m_X1_deadIfOver_18 l E  hc) (ci := 1) (ks := []) rfl rfl (C := "FuseBox$Coil") (va_cwO 0 hts gc2 rfl rfl rfl wd4 gc3 ⟨Nat.le_of_ble_eq_true rfl, Nat.le_of_ble_eq_true rfl⟩) ⟨Nat.le_of_ble_eq_true rfl, Nat.le_of_ble_eq_true rfl⟩ rfl rfl (Nat.le_of_ble_eq_true rfl) dX0_deadBehind_6 (fun H locs hw hS => ?_)
    clear hc
    refine lv_goto (tgt := 13) hx hb dX0_deadBehind_9 (by decide) ?_
    exact J13 _ _ hf _ _ ls (lv_sub hl [] rfl) hw hS
set_option maxHeartbeats 4000000 in
set_option maxRecDepth 100000 in
theorem m_X9_leave (l : Launch) (E : Ev) {x1 : Int32}  {s0 sz : St} (hf : f_X9_leave x1 s0 = some sz) : MM l E sh2 yX9_leave cX9_leave 2 none (rmd 1) [.ref (E.2.2.1 + 11), .int x1] s0 none sz := by
  unfold f_X9_leave at hf
  refine z_enter (by decide +kernel) (Nat.le_of_ble_eq_true rfl) ?_
  intro p e s m args below meth c ls hC hr hlocks hw hS hl
  have hC : Cx p s m args c cX9_leave 2 "FuseBox$Trace" E := hC
  obtain ⟨hx, hb, hml, hown, hts, hTB⟩ := id hC
  have hl : lv_has ls 2 [(0, .ref (E.2.2.1 + 11)), (1, .int x1)] := hl
  refine lv_aload_n hx hb dX9_leave_0 rfl (lv_at hl 0 rfl) ?_
  refine gTrace_size hC hw wd10 dX9_leave_1 ?_
  refine lv_bipush (v := 16) hx hb dX9_leave_4 (by decide) ?_
  obtain ⟨j29, ej29, hf⟩ := ok_lt hf
  have J29 : ∀ (s_1 : St), j29 s_1 = some sz → ∀ (H : Heap) (locs : List Loc) (ls : Array Slot), lv_has ls 2 [] → World E sh2 s_1 H → va_S E.2.2.2 s.heap H locs → W p l e (rmd 1) s m args below meth c H locs 0 0 (MQ below (QW E sh2 none sz) args s 0 0 E.2.2.2) (F0 m 29 ls []) := by
    intro s_1 hf H locs ls hl hw hS
    subst ej29
    exact z_vretE hC hlocks hw hS hf hr dX9_leave_29
  clear ej29
  have hif := ok_if hf
  refine lv_icmp_ge (tgt := 29) hx hb dX9_leave_6 (by decide) (fun hcd => ?_) (fun hcd => ?_)
  · have hf := hif.1 hcd
    clear hif
    exact J29 _ hf _ _ ls (lv_sub hl [] rfl) hw hS
  · have hf := hif.2 hcd
    clear hif
    refine lv_aload_n hx hb dX9_leave_9 rfl (lv_at hl 0 rfl) ?_
    refine gTrace_bodies hC hw wd11 dX9_leave_10 ?_
    refine lv_aload_n hx hb dX9_leave_13 rfl (lv_at hl 0 rfl) ?_
    refine gTrace_size hC hw wd10 dX9_leave_14 ?_
    refine lv_iload_n hx hb dX9_leave_17 rfl (lv_at hl 1 rfl) ?_
    obtain ⟨hin, hf⟩ := ok_chk hf
    obtain ⟨s_2, en, hf⟩ := ok_lt hf
    refine z_iast hC hw hS rfl hin en dX9_leave_18 (fun H locs hw hS => ?_)
    clear en
    refine lv_aload_n hx hb dX9_leave_19 rfl (lv_at hl 0 rfl) ?_
    refine lv_dup hx hb dX9_leave_20 rfl ?_
    refine gTrace_size hC hw wd10 dX9_leave_21 ?_
    refine lv_iconst (v := 1) hx hb dX9_leave_24 (by decide) ?_
    refine lv_iadd hx hb dX9_leave_25 ?_
    obtain ⟨s_3, en, hf⟩ := ok_lt hf
    refine pTrace_size hC hw hS wd10 en dX9_leave_26 (fun H locs hw hS => ?_)
    clear en
    exact J29 _ hf _ _ ls (lv_sub hl [] rfl) hw hS
set_option maxHeartbeats 4000000 in
set_option maxRecDepth 100000 in
theorem m_X2_sizeOf_17 (l : Launch) (E : Ev) {a1 : Nat} {x2 : Int32} (t1 : isH a1) {s0 sz : St} {rz : Int32} (hf : f_X2_sizeOf_17 a1 x2 s0 = some (rz, sz)) : MM l E sh2 yX2_sizeOf cX2_sizeOf 4 (some .int) (rmd 2) [.ref (E.2.2.1 + 17), .ref (E.2.2.1 + a1), .int x2, .ref (E.2.2.1 + 11)] s0 (some (.int rz)) sz := by
  unfold f_X2_sizeOf_17 at hf
  refine z_enter (by decide +kernel) (Nat.le_of_ble_eq_true rfl) ?_
  intro p e s m args below meth c ls hC hr hlocks hw hS hl
  have hC : Cx p s m args c cX2_sizeOf 4 "FuseBox$Fuse" E := hC
  obtain ⟨hx, hb, hml, hown, hts, hTB⟩ := id hC
  have hl : lv_has ls 4 [(0, .ref (E.2.2.1 + 17)), (1, .ref (E.2.2.1 + a1)), (2, .int x2), (3, .ref (E.2.2.1 + 11))] := hl
  refine lv_aload_n hx hb dX2_sizeOf_0 rfl (lv_at hl 3 rfl) ?_
  refine lv_bipush (v := 10) hx hb dX2_sizeOf_1 (by decide) ?_
  obtain ⟨s_1, hc, hf⟩ := ok_bind hf
  refine z_cV hC hl.1 hw hS (As := [.int (10 : Int32)]) (rest := []) (m_X9_leave l E  hc) rfl rfl gc4 gc5 ⟨Nat.le_of_ble_eq_true rfl, Nat.le_of_ble_eq_true rfl⟩ ⟨Nat.le_of_ble_eq_true rfl, Nat.le_of_ble_eq_true rfl⟩ rfl rfl (Nat.le_of_ble_eq_true rfl) dX2_sizeOf_3 (fun H locs hw hS => ?_)
  clear hc
  refine lv_aload_n hx hb dX2_sizeOf_6 rfl (lv_at hl 1 rfl) ?_
  refine gHouse_rate hC hw t1 wd17 dX2_sizeOf_7 ?_
  refine lv_iload_n hx hb dX2_sizeOf_10 rfl (lv_at hl 2 rfl) ?_
  obtain ⟨hin, hf⟩ := ok_chk hf
  refine z_iald hC hw (sH t1).2.2.1 hin dX2_sizeOf_11 ?_
  exact z_iretE hC hlocks hw hS hf hr rfl dX2_sizeOf_12
set_option maxHeartbeats 4000000 in
set_option maxRecDepth 100000 in
theorem m_X0_sizeOf_17 (l : Launch) (E : Ev) {a1 : Nat} {x2 : Int32} (t1 : isH a1) {s0 sz : St} {rz : Int32} (hf : f_X0_sizeOf_17 a1 x2 s0 = some (rz, sz)) : MM l E sh2 yX0_sizeOf cX0_sizeOf 4 (some .int) (rmd 3) [.ref (E.2.2.1 + 17), .ref (E.2.2.1 + a1), .int x2, .ref (E.2.2.1 + 11)] s0 (some (.int rz)) sz := by
  unfold f_X0_sizeOf_17 at hf
  refine z_enter (by decide +kernel) (Nat.le_of_ble_eq_true rfl) ?_
  intro p e s m args below meth c ls hC hr hlocks hw hS hl
  have hC : Cx p s m args c cX0_sizeOf 4 "FuseBox$Breaker" E := hC
  obtain ⟨hx, hb, hml, hown, hts, hTB⟩ := id hC
  have hl : lv_has ls 4 [(0, .ref (E.2.2.1 + 17)), (1, .ref (E.2.2.1 + a1)), (2, .int x2), (3, .ref (E.2.2.1 + 11))] := hl
  refine lv_aload_n hx hb dX0_sizeOf_0 rfl (lv_at hl 3 rfl) ?_
  refine lv_bipush (v := 13) hx hb dX0_sizeOf_1 (by decide) ?_
  obtain ⟨s_1, hc, hf⟩ := ok_bind hf
  refine z_cV hC hl.1 hw hS (As := [.int (13 : Int32)]) (rest := []) (m_X9_leave l E  hc) rfl rfl gc6 gc5 ⟨Nat.le_of_ble_eq_true rfl, Nat.le_of_ble_eq_true rfl⟩ ⟨Nat.le_of_ble_eq_true rfl, Nat.le_of_ble_eq_true rfl⟩ rfl rfl (Nat.le_of_ble_eq_true rfl) dX0_sizeOf_3 (fun H locs hw hS => ?_)
  clear hc
  refine lv_aload_n hx hb dX0_sizeOf_6 rfl (lv_at hl 0 rfl) ?_
  refine lv_aload_n hx hb dX0_sizeOf_7 rfl (lv_at hl 1 rfl) ?_
  refine lv_iload_n hx hb dX0_sizeOf_8 rfl (lv_at hl 2 rfl) ?_
  refine lv_aload_n hx hb dX0_sizeOf_9 rfl (lv_at hl 3 rfl) ?_
  obtain ⟨r_3, s_2, hc, hf⟩ := ok_bd hf
  refine z_cSU hC hl.1 hw hS (As := [.ref (E.2.2.1 + a1), .int x2, .ref (E.2.2.1 + 11)]) (rest := []) (m_X2_sizeOf_17 l E t1 hc) (ci := 0) (ks := []) rfl rfl gc7 gc8 ⟨Nat.le_of_ble_eq_true rfl, Nat.le_of_ble_eq_true rfl⟩ ⟨Nat.le_of_ble_eq_true rfl, Nat.le_of_ble_eq_true rfl⟩ rfl rfl (Nat.le_of_ble_eq_true rfl) dX0_sizeOf_10 (fun H locs hw hS => ?_)
  clear hc
  refine lv_bipush (v := 100) hx hb dX0_sizeOf_13 (by decide) ?_
  refine lv_isub hx hb dX0_sizeOf_15 ?_
  exact z_iretE hC hlocks hw hS hf hr rfl dX0_sizeOf_16
set_option maxHeartbeats 4000000 in
set_option maxRecDepth 100000 in
theorem m_X2_sizeOf_18 (l : Launch) (E : Ev) {a1 : Nat} {x2 : Int32} (t1 : isH a1) {s0 sz : St} {rz : Int32} (hf : f_X2_sizeOf_18 a1 x2 s0 = some (rz, sz)) : MM l E sh2 yX2_sizeOf cX2_sizeOf 4 (some .int) (rmd 2) [.ref (E.2.2.1 + 18), .ref (E.2.2.1 + a1), .int x2, .ref (E.2.2.1 + 11)] s0 (some (.int rz)) sz := by
  unfold f_X2_sizeOf_18 at hf
  refine z_enter (by decide +kernel) (Nat.le_of_ble_eq_true rfl) ?_
  intro p e s m args below meth c ls hC hr hlocks hw hS hl
  have hC : Cx p s m args c cX2_sizeOf 4 "FuseBox$Fuse" E := hC
  obtain ⟨hx, hb, hml, hown, hts, hTB⟩ := id hC
  have hl : lv_has ls 4 [(0, .ref (E.2.2.1 + 18)), (1, .ref (E.2.2.1 + a1)), (2, .int x2), (3, .ref (E.2.2.1 + 11))] := hl
  refine lv_aload_n hx hb dX2_sizeOf_0 rfl (lv_at hl 3 rfl) ?_
  refine lv_bipush (v := 10) hx hb dX2_sizeOf_1 (by decide) ?_
  obtain ⟨s_1, hc, hf⟩ := ok_bind hf
  refine z_cV hC hl.1 hw hS (As := [.int (10 : Int32)]) (rest := []) (m_X9_leave l E  hc) rfl rfl gc4 gc5 ⟨Nat.le_of_ble_eq_true rfl, Nat.le_of_ble_eq_true rfl⟩ ⟨Nat.le_of_ble_eq_true rfl, Nat.le_of_ble_eq_true rfl⟩ rfl rfl (Nat.le_of_ble_eq_true rfl) dX2_sizeOf_3 (fun H locs hw hS => ?_)
  clear hc
  refine lv_aload_n hx hb dX2_sizeOf_6 rfl (lv_at hl 1 rfl) ?_
  refine gHouse_rate hC hw t1 wd17 dX2_sizeOf_7 ?_
  refine lv_iload_n hx hb dX2_sizeOf_10 rfl (lv_at hl 2 rfl) ?_
  obtain ⟨hin, hf⟩ := ok_chk hf
  refine z_iald hC hw (sH t1).2.2.1 hin dX2_sizeOf_11 ?_
  exact z_iretE hC hlocks hw hS hf hr rfl dX2_sizeOf_12
set_option maxHeartbeats 4000000 in
set_option maxRecDepth 100000 in
theorem m_X0_sizeOf_18 (l : Launch) (E : Ev) {a1 : Nat} {x2 : Int32} (t1 : isH a1) {s0 sz : St} {rz : Int32} (hf : f_X0_sizeOf_18 a1 x2 s0 = some (rz, sz)) : MM l E sh2 yX0_sizeOf cX0_sizeOf 4 (some .int) (rmd 3) [.ref (E.2.2.1 + 18), .ref (E.2.2.1 + a1), .int x2, .ref (E.2.2.1 + 11)] s0 (some (.int rz)) sz := by
  unfold f_X0_sizeOf_18 at hf
  refine z_enter (by decide +kernel) (Nat.le_of_ble_eq_true rfl) ?_
  intro p e s m args below meth c ls hC hr hlocks hw hS hl
  have hC : Cx p s m args c cX0_sizeOf 4 "FuseBox$Breaker" E := hC
  obtain ⟨hx, hb, hml, hown, hts, hTB⟩ := id hC
  have hl : lv_has ls 4 [(0, .ref (E.2.2.1 + 18)), (1, .ref (E.2.2.1 + a1)), (2, .int x2), (3, .ref (E.2.2.1 + 11))] := hl
  refine lv_aload_n hx hb dX0_sizeOf_0 rfl (lv_at hl 3 rfl) ?_
  refine lv_bipush (v := 13) hx hb dX0_sizeOf_1 (by decide) ?_
  obtain ⟨s_1, hc, hf⟩ := ok_bind hf
  refine z_cV hC hl.1 hw hS (As := [.int (13 : Int32)]) (rest := []) (m_X9_leave l E  hc) rfl rfl gc6 gc5 ⟨Nat.le_of_ble_eq_true rfl, Nat.le_of_ble_eq_true rfl⟩ ⟨Nat.le_of_ble_eq_true rfl, Nat.le_of_ble_eq_true rfl⟩ rfl rfl (Nat.le_of_ble_eq_true rfl) dX0_sizeOf_3 (fun H locs hw hS => ?_)
  clear hc
  refine lv_aload_n hx hb dX0_sizeOf_6 rfl (lv_at hl 0 rfl) ?_
  refine lv_aload_n hx hb dX0_sizeOf_7 rfl (lv_at hl 1 rfl) ?_
  refine lv_iload_n hx hb dX0_sizeOf_8 rfl (lv_at hl 2 rfl) ?_
  refine lv_aload_n hx hb dX0_sizeOf_9 rfl (lv_at hl 3 rfl) ?_
  obtain ⟨r_3, s_2, hc, hf⟩ := ok_bd hf
  refine z_cSU hC hl.1 hw hS (As := [.ref (E.2.2.1 + a1), .int x2, .ref (E.2.2.1 + 11)]) (rest := []) (m_X2_sizeOf_18 l E t1 hc) (ci := 1) (ks := []) rfl rfl gc7 gc8 ⟨Nat.le_of_ble_eq_true rfl, Nat.le_of_ble_eq_true rfl⟩ ⟨Nat.le_of_ble_eq_true rfl, Nat.le_of_ble_eq_true rfl⟩ rfl rfl (Nat.le_of_ble_eq_true rfl) dX0_sizeOf_10 (fun H locs hw hS => ?_)
  clear hc
  refine lv_bipush (v := 100) hx hb dX0_sizeOf_13 (by decide) ?_
  refine lv_isub hx hb dX0_sizeOf_15 ?_
  exact z_iretE hC hlocks hw hS hf hr rfl dX0_sizeOf_16
set_option maxHeartbeats 4000000 in
set_option maxRecDepth 100000 in
theorem m_X2_markOf_17 (l : Launch) (E : Ev) {a1 : Nat} {x2 : Int32} (t1 : isH a1) {s0 sz : St} {rz : Int32} (hf : f_X2_markOf_17 a1 x2 s0 = some (rz, sz)) : MM l E sh2 yX2_markOf cX2_markOf 4 (some .int) (rmd 2) [.ref (E.2.2.1 + 17), .ref (E.2.2.1 + a1), .int x2, .ref (E.2.2.1 + 11)] s0 (some (.int rz)) sz := by
  unfold f_X2_markOf_17 at hf
  refine z_enter (by decide +kernel) (Nat.le_of_ble_eq_true rfl) ?_
  intro p e s m args below meth c ls hC hr hlocks hw hS hl
  have hC : Cx p s m args c cX2_markOf 4 "FuseBox$Fuse" E := hC
  obtain ⟨hx, hb, hml, hown, hts, hTB⟩ := id hC
  have hl : lv_has ls 4 [(0, .ref (E.2.2.1 + 17)), (1, .ref (E.2.2.1 + a1)), (2, .int x2), (3, .ref (E.2.2.1 + 11))] := hl
  refine lv_aload_n hx hb dX2_markOf_0 rfl (lv_at hl 3 rfl) ?_
  refine lv_bipush (v := 20) hx hb dX2_markOf_1 (by decide) ?_
  obtain ⟨s_1, hc, hf⟩ := ok_bind hf
  refine z_cV hC hl.1 hw hS (As := [.int (20 : Int32)]) (rest := []) (m_X9_leave l E  hc) rfl rfl gc4 gc5 ⟨Nat.le_of_ble_eq_true rfl, Nat.le_of_ble_eq_true rfl⟩ ⟨Nat.le_of_ble_eq_true rfl, Nat.le_of_ble_eq_true rfl⟩ rfl rfl (Nat.le_of_ble_eq_true rfl) dX2_markOf_3 (fun H locs hw hS => ?_)
  clear hc
  refine lv_iload_n hx hb dX2_markOf_6 rfl (lv_at hl 2 rfl) ?_
  exact z_iretE hC hlocks hw hS hf hr rfl dX2_markOf_7
set_option maxHeartbeats 4000000 in
set_option maxRecDepth 100000 in
theorem m_X0_markOf_17 (l : Launch) (E : Ev) {a1 : Nat} {x2 : Int32} (t1 : isH a1) {s0 sz : St} {rz : Int32} (hf : f_X0_markOf_17 a1 x2 s0 = some (rz, sz)) : MM l E sh2 yX0_markOf cX0_markOf 5 (some .int) (rmd 4) [.ref (E.2.2.1 + 17), .ref (E.2.2.1 + a1), .int x2, .ref (E.2.2.1 + 11)] s0 (some (.int rz)) sz := by
  unfold f_X0_markOf_17 at hf
  refine z_enter (by decide +kernel) (Nat.le_of_ble_eq_true rfl) ?_
  intro p e s m args below meth c ls hC hr hlocks hw hS hl
  have hC : Cx p s m args c cX0_markOf 5 "FuseBox$Breaker" E := hC
  obtain ⟨hx, hb, hml, hown, hts, hTB⟩ := id hC
  have hl : lv_has ls 5 [(0, .ref (E.2.2.1 + 17)), (1, .ref (E.2.2.1 + a1)), (2, .int x2), (3, .ref (E.2.2.1 + 11))] := hl
  refine lv_aload_n hx hb dX0_markOf_0 rfl (lv_at hl 3 rfl) ?_
  refine lv_bipush (v := 23) hx hb dX0_markOf_1 (by decide) ?_
  obtain ⟨s_1, hc, hf⟩ := ok_bind hf
  refine z_cV hC hl.1 hw hS (As := [.int (23 : Int32)]) (rest := []) (m_X9_leave l E  hc) rfl rfl gc6 gc5 ⟨Nat.le_of_ble_eq_true rfl, Nat.le_of_ble_eq_true rfl⟩ ⟨Nat.le_of_ble_eq_true rfl, Nat.le_of_ble_eq_true rfl⟩ rfl rfl (Nat.le_of_ble_eq_true rfl) dX0_markOf_3 (fun H locs hw hS => ?_)
  clear hc
  refine lv_aload_n hx hb dX0_markOf_6 rfl (lv_at hl 0 rfl) ?_
  refine lv_aload_n hx hb dX0_markOf_7 rfl (lv_at hl 1 rfl) ?_
  refine lv_iload_n hx hb dX0_markOf_8 rfl (lv_at hl 2 rfl) ?_
  refine lv_aload_n hx hb dX0_markOf_9 rfl (lv_at hl 3 rfl) ?_
  obtain ⟨r_3, s_2, hc, hf⟩ := ok_bd hf
  refine z_cSU hC hl.1 hw hS (As := [.ref (E.2.2.1 + a1), .int x2, .ref (E.2.2.1 + 11)]) (rest := []) (m_X2_markOf_17 l E t1 hc) (ci := 0) (ks := []) rfl rfl gc9 gc10 ⟨Nat.le_of_ble_eq_true rfl, Nat.le_of_ble_eq_true rfl⟩ ⟨Nat.le_of_ble_eq_true rfl, Nat.le_of_ble_eq_true rfl⟩ rfl rfl (Nat.le_of_ble_eq_true rfl) dX0_markOf_10 (fun H locs hw hS => ?_)
  clear hc
  refine lv_istore (lv' := [(4, .int r_3), (0, .ref (E.2.2.1 + 17)), (1, .ref (E.2.2.1 + a1)), (2, .int x2), (3, .ref (E.2.2.1 + 11))]) hx hb dX0_markOf_13 hl (by decide) rfl (fun ls hl => ?_)
  refine lv_iload hx hb dX0_markOf_15 (lv_at hl 0 rfl) ?_
  refine lv_aload_n hx hb dX0_markOf_17 rfl (lv_at hl 1 rfl) ?_
  refine lv_aload_n hx hb dX0_markOf_18 rfl (lv_at hl 2 rfl) ?_
  refine lv_iload_n hx hb dX0_markOf_19 rfl (lv_at hl 3 rfl) ?_
  refine lv_aload_n hx hb dX0_markOf_20 rfl (lv_at hl 4 rfl) ?_
  obtain ⟨r_5, s_4, hc, hf⟩ := ok_bd hf
  refine z_cV hC hl.1 hw hS (As := [.ref (E.2.2.1 + a1), .int x2, .ref (E.2.2.1 + 11)]) (rest := [.int r_3]) (m_X0_sizeOf_17 l E t1 hc) (ci := 0) (ks := []) rfl rfl gc11 gc12 ⟨Nat.le_of_ble_eq_true rfl, Nat.le_of_ble_eq_true rfl⟩ ⟨Nat.le_of_ble_eq_true rfl, Nat.le_of_ble_eq_true rfl⟩ rfl rfl (Nat.le_of_ble_eq_true rfl) dX0_markOf_21 (fun H locs hw hS => ?_)
  clear hc
  refine lv_isub hx hb dX0_markOf_24 ?_
  exact z_iretE hC hlocks hw hS hf hr rfl dX0_markOf_25
set_option maxHeartbeats 4000000 in
set_option maxRecDepth 100000 in
theorem m_X2_markOf_18 (l : Launch) (E : Ev) {a1 : Nat} {x2 : Int32} (t1 : isH a1) {s0 sz : St} {rz : Int32} (hf : f_X2_markOf_18 a1 x2 s0 = some (rz, sz)) : MM l E sh2 yX2_markOf cX2_markOf 4 (some .int) (rmd 2) [.ref (E.2.2.1 + 18), .ref (E.2.2.1 + a1), .int x2, .ref (E.2.2.1 + 11)] s0 (some (.int rz)) sz := by
  unfold f_X2_markOf_18 at hf
  refine z_enter (by decide +kernel) (Nat.le_of_ble_eq_true rfl) ?_
  intro p e s m args below meth c ls hC hr hlocks hw hS hl
  have hC : Cx p s m args c cX2_markOf 4 "FuseBox$Fuse" E := hC
  obtain ⟨hx, hb, hml, hown, hts, hTB⟩ := id hC
  have hl : lv_has ls 4 [(0, .ref (E.2.2.1 + 18)), (1, .ref (E.2.2.1 + a1)), (2, .int x2), (3, .ref (E.2.2.1 + 11))] := hl
  refine lv_aload_n hx hb dX2_markOf_0 rfl (lv_at hl 3 rfl) ?_
  refine lv_bipush (v := 20) hx hb dX2_markOf_1 (by decide) ?_
  obtain ⟨s_1, hc, hf⟩ := ok_bind hf
  refine z_cV hC hl.1 hw hS (As := [.int (20 : Int32)]) (rest := []) (m_X9_leave l E  hc) rfl rfl gc4 gc5 ⟨Nat.le_of_ble_eq_true rfl, Nat.le_of_ble_eq_true rfl⟩ ⟨Nat.le_of_ble_eq_true rfl, Nat.le_of_ble_eq_true rfl⟩ rfl rfl (Nat.le_of_ble_eq_true rfl) dX2_markOf_3 (fun H locs hw hS => ?_)
  clear hc
  refine lv_iload_n hx hb dX2_markOf_6 rfl (lv_at hl 2 rfl) ?_
  exact z_iretE hC hlocks hw hS hf hr rfl dX2_markOf_7
set_option maxHeartbeats 4000000 in
set_option maxRecDepth 100000 in
theorem m_X1_sizeOf_18 (l : Launch) (E : Ev) {a1 : Nat} {x2 : Int32} (t1 : isH a1) {s0 sz : St} {rz : Int32} (hf : f_X1_sizeOf_18 a1 x2 s0 = some (rz, sz)) : MM l E sh2 yX1_sizeOf cX1_sizeOf 4 (some .int) (rmd 4) [.ref (E.2.2.1 + 18), .ref (E.2.2.1 + a1), .int x2, .ref (E.2.2.1 + 11)] s0 (some (.int rz)) sz := by
  unfold f_X1_sizeOf_18 at hf
  refine z_enter (by decide +kernel) (Nat.le_of_ble_eq_true rfl) ?_
  intro p e s m args below meth c ls hC hr hlocks hw hS hl
  have hC : Cx p s m args c cX1_sizeOf 4 "FuseBox$Coil" E := hC
  obtain ⟨hx, hb, hml, hown, hts, hTB⟩ := id hC
  have hl : lv_has ls 4 [(0, .ref (E.2.2.1 + 18)), (1, .ref (E.2.2.1 + a1)), (2, .int x2), (3, .ref (E.2.2.1 + 11))] := hl
  refine lv_aload_n hx hb dX1_sizeOf_0 rfl (lv_at hl 3 rfl) ?_
  refine lv_bipush (v := 14) hx hb dX1_sizeOf_1 (by decide) ?_
  obtain ⟨s_1, hc, hf⟩ := ok_bind hf
  refine z_cV hC hl.1 hw hS (As := [.int (14 : Int32)]) (rest := []) (m_X9_leave l E  hc) rfl rfl gc13 gc5 ⟨Nat.le_of_ble_eq_true rfl, Nat.le_of_ble_eq_true rfl⟩ ⟨Nat.le_of_ble_eq_true rfl, Nat.le_of_ble_eq_true rfl⟩ rfl rfl (Nat.le_of_ble_eq_true rfl) dX1_sizeOf_3 (fun H locs hw hS => ?_)
  clear hc
  refine lv_iconst (v := 2) hx hb dX1_sizeOf_6 (by decide) ?_
  refine lv_aload_n hx hb dX1_sizeOf_7 rfl (lv_at hl 0 rfl) ?_
  refine lv_aload_n hx hb dX1_sizeOf_8 rfl (lv_at hl 1 rfl) ?_
  refine lv_iload_n hx hb dX1_sizeOf_9 rfl (lv_at hl 2 rfl) ?_
  refine lv_aload_n hx hb dX1_sizeOf_10 rfl (lv_at hl 3 rfl) ?_
  obtain ⟨r_3, s_2, hc, hf⟩ := ok_bd hf
  refine z_cSU hC hl.1 hw hS (As := [.ref (E.2.2.1 + a1), .int x2, .ref (E.2.2.1 + 11)]) (rest := [.int (2 : Int32)]) (m_X0_sizeOf_18 l E t1 hc) (ci := 1) (ks := []) rfl rfl gc14 gc15 ⟨Nat.le_of_ble_eq_true rfl, Nat.le_of_ble_eq_true rfl⟩ ⟨Nat.le_of_ble_eq_true rfl, Nat.le_of_ble_eq_true rfl⟩ rfl rfl (Nat.le_of_ble_eq_true rfl) dX1_sizeOf_11 (fun H locs hw hS => ?_)
  clear hc
  refine lv_imul hx hb dX1_sizeOf_14 ?_
  exact z_iretE hC hlocks hw hS hf hr rfl dX1_sizeOf_15
set_option maxHeartbeats 4000000 in
set_option maxRecDepth 100000 in
theorem m_X0_markOf_18 (l : Launch) (E : Ev) {a1 : Nat} {x2 : Int32} (t1 : isH a1) {s0 sz : St} {rz : Int32} (hf : f_X0_markOf_18 a1 x2 s0 = some (rz, sz)) : MM l E sh2 yX0_markOf cX0_markOf 5 (some .int) (rmd 5) [.ref (E.2.2.1 + 18), .ref (E.2.2.1 + a1), .int x2, .ref (E.2.2.1 + 11)] s0 (some (.int rz)) sz := by
  unfold f_X0_markOf_18 at hf
  refine z_enter (by decide +kernel) (Nat.le_of_ble_eq_true rfl) ?_
  intro p e s m args below meth c ls hC hr hlocks hw hS hl
  have hC : Cx p s m args c cX0_markOf 5 "FuseBox$Breaker" E := hC
  obtain ⟨hx, hb, hml, hown, hts, hTB⟩ := id hC
  have hl : lv_has ls 5 [(0, .ref (E.2.2.1 + 18)), (1, .ref (E.2.2.1 + a1)), (2, .int x2), (3, .ref (E.2.2.1 + 11))] := hl
  refine lv_aload_n hx hb dX0_markOf_0 rfl (lv_at hl 3 rfl) ?_
  refine lv_bipush (v := 23) hx hb dX0_markOf_1 (by decide) ?_
  obtain ⟨s_1, hc, hf⟩ := ok_bind hf
  refine z_cV hC hl.1 hw hS (As := [.int (23 : Int32)]) (rest := []) (m_X9_leave l E  hc) rfl rfl gc6 gc5 ⟨Nat.le_of_ble_eq_true rfl, Nat.le_of_ble_eq_true rfl⟩ ⟨Nat.le_of_ble_eq_true rfl, Nat.le_of_ble_eq_true rfl⟩ rfl rfl (Nat.le_of_ble_eq_true rfl) dX0_markOf_3 (fun H locs hw hS => ?_)
  clear hc
  refine lv_aload_n hx hb dX0_markOf_6 rfl (lv_at hl 0 rfl) ?_
  refine lv_aload_n hx hb dX0_markOf_7 rfl (lv_at hl 1 rfl) ?_
  refine lv_iload_n hx hb dX0_markOf_8 rfl (lv_at hl 2 rfl) ?_
  refine lv_aload_n hx hb dX0_markOf_9 rfl (lv_at hl 3 rfl) ?_
  obtain ⟨r_3, s_2, hc, hf⟩ := ok_bd hf
  refine z_cSU hC hl.1 hw hS (As := [.ref (E.2.2.1 + a1), .int x2, .ref (E.2.2.1 + 11)]) (rest := []) (m_X2_markOf_18 l E t1 hc) (ci := 1) (ks := []) rfl rfl gc9 gc10 ⟨Nat.le_of_ble_eq_true rfl, Nat.le_of_ble_eq_true rfl⟩ ⟨Nat.le_of_ble_eq_true rfl, Nat.le_of_ble_eq_true rfl⟩ rfl rfl (Nat.le_of_ble_eq_true rfl) dX0_markOf_10 (fun H locs hw hS => ?_)
  clear hc
  refine lv_istore (lv' := [(4, .int r_3), (0, .ref (E.2.2.1 + 18)), (1, .ref (E.2.2.1 + a1)), (2, .int x2), (3, .ref (E.2.2.1 + 11))]) hx hb dX0_markOf_13 hl (by decide) rfl (fun ls hl => ?_)
  refine lv_iload hx hb dX0_markOf_15 (lv_at hl 0 rfl) ?_
  refine lv_aload_n hx hb dX0_markOf_17 rfl (lv_at hl 1 rfl) ?_
  refine lv_aload_n hx hb dX0_markOf_18 rfl (lv_at hl 2 rfl) ?_
  refine lv_iload_n hx hb dX0_markOf_19 rfl (lv_at hl 3 rfl) ?_
  refine lv_aload_n hx hb dX0_markOf_20 rfl (lv_at hl 4 rfl) ?_
  obtain ⟨r_5, s_4, hc, hf⟩ := ok_bd hf
  refine z_cU hC hl.1 hw hS (As := [.ref (E.2.2.1 + a1), .int x2, .ref (E.2.2.1 + 11)]) (rest := [.int r_3]) (m_X1_sizeOf_18 l E t1 hc) (ci := 1) (ks := []) rfl rfl (C := "FuseBox$Coil") (va_cwO 3 hts gc16 rfl rfl rfl wd32 gc17 ⟨Nat.le_of_ble_eq_true rfl, Nat.le_of_ble_eq_true rfl⟩) ⟨Nat.le_of_ble_eq_true rfl, Nat.le_of_ble_eq_true rfl⟩ rfl rfl (Nat.le_of_ble_eq_true rfl) dX0_markOf_21 (fun H locs hw hS => ?_)
  clear hc
  refine lv_isub hx hb dX0_markOf_24 ?_
  exact z_iretE hC hlocks hw hS hf hr rfl dX0_markOf_25
set_option maxHeartbeats 4000000 in
set_option maxRecDepth 100000 in
theorem m_X2_sizeOf_14 (l : Launch) (E : Ev) {a1 : Nat} {x2 : Int32} (t1 : isH a1) {s0 sz : St} {rz : Int32} (hf : f_X2_sizeOf_14 a1 x2 s0 = some (rz, sz)) : MM l E sh2 yX2_sizeOf cX2_sizeOf 4 (some .int) (rmd 2) [.ref (E.2.2.1 + 14), .ref (E.2.2.1 + a1), .int x2, .ref (E.2.2.1 + 11)] s0 (some (.int rz)) sz := by
  unfold f_X2_sizeOf_14 at hf
  refine z_enter (by decide +kernel) (Nat.le_of_ble_eq_true rfl) ?_
  intro p e s m args below meth c ls hC hr hlocks hw hS hl
  have hC : Cx p s m args c cX2_sizeOf 4 "FuseBox$Fuse" E := hC
  obtain ⟨hx, hb, hml, hown, hts, hTB⟩ := id hC
  have hl : lv_has ls 4 [(0, .ref (E.2.2.1 + 14)), (1, .ref (E.2.2.1 + a1)), (2, .int x2), (3, .ref (E.2.2.1 + 11))] := hl
  refine lv_aload_n hx hb dX2_sizeOf_0 rfl (lv_at hl 3 rfl) ?_
  refine lv_bipush (v := 10) hx hb dX2_sizeOf_1 (by decide) ?_
  obtain ⟨s_1, hc, hf⟩ := ok_bind hf
  refine z_cV hC hl.1 hw hS (As := [.int (10 : Int32)]) (rest := []) (m_X9_leave l E  hc) rfl rfl gc4 gc5 ⟨Nat.le_of_ble_eq_true rfl, Nat.le_of_ble_eq_true rfl⟩ ⟨Nat.le_of_ble_eq_true rfl, Nat.le_of_ble_eq_true rfl⟩ rfl rfl (Nat.le_of_ble_eq_true rfl) dX2_sizeOf_3 (fun H locs hw hS => ?_)
  clear hc
  refine lv_aload_n hx hb dX2_sizeOf_6 rfl (lv_at hl 1 rfl) ?_
  refine gHouse_rate hC hw t1 wd17 dX2_sizeOf_7 ?_
  refine lv_iload_n hx hb dX2_sizeOf_10 rfl (lv_at hl 2 rfl) ?_
  obtain ⟨hin, hf⟩ := ok_chk hf
  refine z_iald hC hw (sH t1).2.2.1 hin dX2_sizeOf_11 ?_
  exact z_iretE hC hlocks hw hS hf hr rfl dX2_sizeOf_12
set_option maxHeartbeats 4000000 in
set_option maxRecDepth 100000 in
theorem m_X2_sizeOf_15 (l : Launch) (E : Ev) {a1 : Nat} {x2 : Int32} (t1 : isH a1) {s0 sz : St} {rz : Int32} (hf : f_X2_sizeOf_15 a1 x2 s0 = some (rz, sz)) : MM l E sh2 yX2_sizeOf cX2_sizeOf 4 (some .int) (rmd 2) [.ref (E.2.2.1 + 15), .ref (E.2.2.1 + a1), .int x2, .ref (E.2.2.1 + 11)] s0 (some (.int rz)) sz := by
  unfold f_X2_sizeOf_15 at hf
  refine z_enter (by decide +kernel) (Nat.le_of_ble_eq_true rfl) ?_
  intro p e s m args below meth c ls hC hr hlocks hw hS hl
  have hC : Cx p s m args c cX2_sizeOf 4 "FuseBox$Fuse" E := hC
  obtain ⟨hx, hb, hml, hown, hts, hTB⟩ := id hC
  have hl : lv_has ls 4 [(0, .ref (E.2.2.1 + 15)), (1, .ref (E.2.2.1 + a1)), (2, .int x2), (3, .ref (E.2.2.1 + 11))] := hl
  refine lv_aload_n hx hb dX2_sizeOf_0 rfl (lv_at hl 3 rfl) ?_
  refine lv_bipush (v := 10) hx hb dX2_sizeOf_1 (by decide) ?_
  obtain ⟨s_1, hc, hf⟩ := ok_bind hf
  refine z_cV hC hl.1 hw hS (As := [.int (10 : Int32)]) (rest := []) (m_X9_leave l E  hc) rfl rfl gc4 gc5 ⟨Nat.le_of_ble_eq_true rfl, Nat.le_of_ble_eq_true rfl⟩ ⟨Nat.le_of_ble_eq_true rfl, Nat.le_of_ble_eq_true rfl⟩ rfl rfl (Nat.le_of_ble_eq_true rfl) dX2_sizeOf_3 (fun H locs hw hS => ?_)
  clear hc
  refine lv_aload_n hx hb dX2_sizeOf_6 rfl (lv_at hl 1 rfl) ?_
  refine gHouse_rate hC hw t1 wd17 dX2_sizeOf_7 ?_
  refine lv_iload_n hx hb dX2_sizeOf_10 rfl (lv_at hl 2 rfl) ?_
  obtain ⟨hin, hf⟩ := ok_chk hf
  refine z_iald hC hw (sH t1).2.2.1 hin dX2_sizeOf_11 ?_
  exact z_iretE hC hlocks hw hS hf hr rfl dX2_sizeOf_12
set_option maxHeartbeats 4000000 in
set_option maxRecDepth 100000 in
theorem m_X2_sizeOf_16 (l : Launch) (E : Ev) {a1 : Nat} {x2 : Int32} (t1 : isH a1) {s0 sz : St} {rz : Int32} (hf : f_X2_sizeOf_16 a1 x2 s0 = some (rz, sz)) : MM l E sh2 yX2_sizeOf cX2_sizeOf 4 (some .int) (rmd 2) [.ref (E.2.2.1 + 16), .ref (E.2.2.1 + a1), .int x2, .ref (E.2.2.1 + 11)] s0 (some (.int rz)) sz := by
  unfold f_X2_sizeOf_16 at hf
  refine z_enter (by decide +kernel) (Nat.le_of_ble_eq_true rfl) ?_
  intro p e s m args below meth c ls hC hr hlocks hw hS hl
  have hC : Cx p s m args c cX2_sizeOf 4 "FuseBox$Fuse" E := hC
  obtain ⟨hx, hb, hml, hown, hts, hTB⟩ := id hC
  have hl : lv_has ls 4 [(0, .ref (E.2.2.1 + 16)), (1, .ref (E.2.2.1 + a1)), (2, .int x2), (3, .ref (E.2.2.1 + 11))] := hl
  refine lv_aload_n hx hb dX2_sizeOf_0 rfl (lv_at hl 3 rfl) ?_
  refine lv_bipush (v := 10) hx hb dX2_sizeOf_1 (by decide) ?_
  obtain ⟨s_1, hc, hf⟩ := ok_bind hf
  refine z_cV hC hl.1 hw hS (As := [.int (10 : Int32)]) (rest := []) (m_X9_leave l E  hc) rfl rfl gc4 gc5 ⟨Nat.le_of_ble_eq_true rfl, Nat.le_of_ble_eq_true rfl⟩ ⟨Nat.le_of_ble_eq_true rfl, Nat.le_of_ble_eq_true rfl⟩ rfl rfl (Nat.le_of_ble_eq_true rfl) dX2_sizeOf_3 (fun H locs hw hS => ?_)
  clear hc
  refine lv_aload_n hx hb dX2_sizeOf_6 rfl (lv_at hl 1 rfl) ?_
  refine gHouse_rate hC hw t1 wd17 dX2_sizeOf_7 ?_
  refine lv_iload_n hx hb dX2_sizeOf_10 rfl (lv_at hl 2 rfl) ?_
  obtain ⟨hin, hf⟩ := ok_chk hf
  refine z_iald hC hw (sH t1).2.2.1 hin dX2_sizeOf_11 ?_
  exact z_iretE hC hlocks hw hS hf hr rfl dX2_sizeOf_12
set_option maxHeartbeats 4000000 in
set_option maxRecDepth 100000 in
theorem m_X2_markOf_14 (l : Launch) (E : Ev) {a1 : Nat} {x2 : Int32} (t1 : isH a1) {s0 sz : St} {rz : Int32} (hf : f_X2_markOf_14 a1 x2 s0 = some (rz, sz)) : MM l E sh2 yX2_markOf cX2_markOf 4 (some .int) (rmd 2) [.ref (E.2.2.1 + 14), .ref (E.2.2.1 + a1), .int x2, .ref (E.2.2.1 + 11)] s0 (some (.int rz)) sz := by
  unfold f_X2_markOf_14 at hf
  refine z_enter (by decide +kernel) (Nat.le_of_ble_eq_true rfl) ?_
  intro p e s m args below meth c ls hC hr hlocks hw hS hl
  have hC : Cx p s m args c cX2_markOf 4 "FuseBox$Fuse" E := hC
  obtain ⟨hx, hb, hml, hown, hts, hTB⟩ := id hC
  have hl : lv_has ls 4 [(0, .ref (E.2.2.1 + 14)), (1, .ref (E.2.2.1 + a1)), (2, .int x2), (3, .ref (E.2.2.1 + 11))] := hl
  refine lv_aload_n hx hb dX2_markOf_0 rfl (lv_at hl 3 rfl) ?_
  refine lv_bipush (v := 20) hx hb dX2_markOf_1 (by decide) ?_
  obtain ⟨s_1, hc, hf⟩ := ok_bind hf
  refine z_cV hC hl.1 hw hS (As := [.int (20 : Int32)]) (rest := []) (m_X9_leave l E  hc) rfl rfl gc4 gc5 ⟨Nat.le_of_ble_eq_true rfl, Nat.le_of_ble_eq_true rfl⟩ ⟨Nat.le_of_ble_eq_true rfl, Nat.le_of_ble_eq_true rfl⟩ rfl rfl (Nat.le_of_ble_eq_true rfl) dX2_markOf_3 (fun H locs hw hS => ?_)
  clear hc
  refine lv_iload_n hx hb dX2_markOf_6 rfl (lv_at hl 2 rfl) ?_
  exact z_iretE hC hlocks hw hS hf hr rfl dX2_markOf_7
set_option maxHeartbeats 4000000 in
set_option maxRecDepth 100000 in
theorem m_X2_markOf_15 (l : Launch) (E : Ev) {a1 : Nat} {x2 : Int32} (t1 : isH a1) {s0 sz : St} {rz : Int32} (hf : f_X2_markOf_15 a1 x2 s0 = some (rz, sz)) : MM l E sh2 yX2_markOf cX2_markOf 4 (some .int) (rmd 2) [.ref (E.2.2.1 + 15), .ref (E.2.2.1 + a1), .int x2, .ref (E.2.2.1 + 11)] s0 (some (.int rz)) sz := by
  unfold f_X2_markOf_15 at hf
  refine z_enter (by decide +kernel) (Nat.le_of_ble_eq_true rfl) ?_
  intro p e s m args below meth c ls hC hr hlocks hw hS hl
  have hC : Cx p s m args c cX2_markOf 4 "FuseBox$Fuse" E := hC
  obtain ⟨hx, hb, hml, hown, hts, hTB⟩ := id hC
  have hl : lv_has ls 4 [(0, .ref (E.2.2.1 + 15)), (1, .ref (E.2.2.1 + a1)), (2, .int x2), (3, .ref (E.2.2.1 + 11))] := hl
  refine lv_aload_n hx hb dX2_markOf_0 rfl (lv_at hl 3 rfl) ?_
  refine lv_bipush (v := 20) hx hb dX2_markOf_1 (by decide) ?_
  obtain ⟨s_1, hc, hf⟩ := ok_bind hf
  refine z_cV hC hl.1 hw hS (As := [.int (20 : Int32)]) (rest := []) (m_X9_leave l E  hc) rfl rfl gc4 gc5 ⟨Nat.le_of_ble_eq_true rfl, Nat.le_of_ble_eq_true rfl⟩ ⟨Nat.le_of_ble_eq_true rfl, Nat.le_of_ble_eq_true rfl⟩ rfl rfl (Nat.le_of_ble_eq_true rfl) dX2_markOf_3 (fun H locs hw hS => ?_)
  clear hc
  refine lv_iload_n hx hb dX2_markOf_6 rfl (lv_at hl 2 rfl) ?_
  exact z_iretE hC hlocks hw hS hf hr rfl dX2_markOf_7
set_option maxHeartbeats 4000000 in
set_option maxRecDepth 100000 in
theorem m_X2_markOf_16 (l : Launch) (E : Ev) {a1 : Nat} {x2 : Int32} (t1 : isH a1) {s0 sz : St} {rz : Int32} (hf : f_X2_markOf_16 a1 x2 s0 = some (rz, sz)) : MM l E sh2 yX2_markOf cX2_markOf 4 (some .int) (rmd 2) [.ref (E.2.2.1 + 16), .ref (E.2.2.1 + a1), .int x2, .ref (E.2.2.1 + 11)] s0 (some (.int rz)) sz := by
  unfold f_X2_markOf_16 at hf
  refine z_enter (by decide +kernel) (Nat.le_of_ble_eq_true rfl) ?_
  intro p e s m args below meth c ls hC hr hlocks hw hS hl
  have hC : Cx p s m args c cX2_markOf 4 "FuseBox$Fuse" E := hC
  obtain ⟨hx, hb, hml, hown, hts, hTB⟩ := id hC
  have hl : lv_has ls 4 [(0, .ref (E.2.2.1 + 16)), (1, .ref (E.2.2.1 + a1)), (2, .int x2), (3, .ref (E.2.2.1 + 11))] := hl
  refine lv_aload_n hx hb dX2_markOf_0 rfl (lv_at hl 3 rfl) ?_
  refine lv_bipush (v := 20) hx hb dX2_markOf_1 (by decide) ?_
  obtain ⟨s_1, hc, hf⟩ := ok_bind hf
  refine z_cV hC hl.1 hw hS (As := [.int (20 : Int32)]) (rest := []) (m_X9_leave l E  hc) rfl rfl gc4 gc5 ⟨Nat.le_of_ble_eq_true rfl, Nat.le_of_ble_eq_true rfl⟩ ⟨Nat.le_of_ble_eq_true rfl, Nat.le_of_ble_eq_true rfl⟩ rfl rfl (Nat.le_of_ble_eq_true rfl) dX2_markOf_3 (fun H locs hw hS => ?_)
  clear hc
  refine lv_iload_n hx hb dX2_markOf_6 rfl (lv_at hl 2 rfl) ?_
  exact z_iretE hC hlocks hw hS hf hr rfl dX2_markOf_7
set_option maxHeartbeats 4000000 in
set_option maxRecDepth 100000 in
theorem m_X10_heatBy_14 (l : Launch) (E : Ev) {x1 : Int32}  {s0 sz : St} {rz : Int32} (hf : f_X10_heatBy_14 x1 s0 = some (rz, sz)) : MM l E sh2 yX10_heatBy cX10_heatBy 2 (some .int) (rmd 1) [.ref (E.2.2.1 + 14), .int x1] s0 (some (.int rz)) sz := by
  unfold f_X10_heatBy_14 at hf
  refine z_enter (by decide +kernel) (Nat.le_of_ble_eq_true rfl) ?_
  intro p e s m args below meth c ls hC hr hlocks hw hS hl
  have hC : Cx p s m args c cX10_heatBy 2 "FuseBox$Wire" E := hC
  obtain ⟨hx, hb, hml, hown, hts, hTB⟩ := id hC
  have hl : lv_has ls 2 [(0, .ref (E.2.2.1 + 14)), (1, .int x1)] := hl
  refine lv_iload_n hx hb dX10_heatBy_0 rfl (lv_at hl 1 rfl) ?_
  exact z_iretE hC hlocks hw hS hf hr rfl dX10_heatBy_1
set_option maxHeartbeats 4000000 in
set_option maxRecDepth 100000 in
theorem m_X10_heatBehind_14 (l : Launch) (E : Ev) {x1 : Int32} {x2 : Int32}  {s0 sz : St} {rz : Int32} (hf : f_X10_heatBehind_14 x1 x2 s0 = some (rz, sz)) : MM l E sh2 yX10_heatBehind cX10_heatBehind 3 (some .int) (rmd 2) [.ref (E.2.2.1 + 14), .int x1, .int x2] s0 (some (.int rz)) sz := by
  unfold f_X10_heatBehind_14 at hf
  refine z_enter (by decide +kernel) (Nat.le_of_ble_eq_true rfl) ?_
  intro p e s m args below meth c ls hC hr hlocks hw hS hl
  have hC : Cx p s m args c cX10_heatBehind 3 "FuseBox$Wire" E := hC
  obtain ⟨hx, hb, hml, hown, hts, hTB⟩ := id hC
  have hl : lv_has ls 3 [(0, .ref (E.2.2.1 + 14)), (1, .int x1), (2, .int x2)] := hl
  refine lv_iload_n hx hb dX10_heatBehind_0 rfl (lv_at hl 2 rfl) ?_
  obtain ⟨j26, ej26, hf⟩ := ok_lt hf
  have J26 : ∀ (k_1 : Int32) (s_2 : St), j26 k_1 s_2 = some (rz, sz) → ∀ (H : Heap) (locs : List Loc) (ls : Array Slot), lv_has ls 3 [] → World E sh2 s_2 H → va_S E.2.2.2 s.heap H locs → W p l e (rmd 2) s m args below meth c H locs 0 0 (MQ below (QW E sh2 (some (.int rz)) sz) args s 0 0 E.2.2.2) (F0 m 26 ls [.int k_1]) := by
    intro k_1 s_2 hf H locs ls hl hw hS
    subst ej26
    exact z_iretE hC hlocks hw hS hf hr rfl dX10_heatBehind_26
  clear ej26
  have hif := ok_if hf
  refine lv_if_le (tgt := 19) hx hb dX10_heatBehind_1 (by decide) (fun hcd => ?_) (fun hcd => ?_)
  · have hf := hif.1 hcd
    clear hif
    refine lv_iconst (v := 0) hx hb dX10_heatBehind_19 (by decide) ?_
    refine lv_iload_n hx hb dX10_heatBehind_20 rfl (lv_at hl 1 rfl) ?_
    refine lv_iconst (v := 1) hx hb dX10_heatBehind_21 (by decide) ?_
    refine lv_isub hx hb dX10_heatBehind_22 ?_
    refine z_max hC hl.1 (rest := []) wd81 wd82 wd83 wd80 (Nat.le_of_ble_eq_true rfl) (Nat.le_of_ble_eq_true rfl) (Nat.le_of_ble_eq_true rfl) (Nat.le_of_ble_eq_true rfl) dX10_heatBehind_23 ?_
    exact J26 _ _ hf _ _ ls (lv_sub hl [] rfl) hw hS
  · have hf := hif.2 hcd
    clear hif
    refine lv_bipush (v := 99) hx hb dX10_heatBehind_4 (by decide) ?_
    refine lv_iload_n hx hb dX10_heatBehind_6 rfl (lv_at hl 1 rfl) ?_
    refine lv_aload_n hx hb dX10_heatBehind_7 rfl (lv_at hl 0 rfl) ?_
    refine lv_iload_n hx hb dX10_heatBehind_8 rfl (lv_at hl 2 rfl) ?_
    obtain ⟨r_4, s_3, hc, hf⟩ := ok_bd hf
    refine z_cV hC hl.1 hw hS (As := [.int x2]) (rest := [.int x1, .int (99 : Int32)]) (m_X10_heatBy_14 l E  hc) (ci := 9) (ks := []) rfl rfl gc28 gc29 ⟨Nat.le_of_ble_eq_true rfl, Nat.le_of_ble_eq_true rfl⟩ ⟨Nat.le_of_ble_eq_true rfl, Nat.le_of_ble_eq_true rfl⟩ rfl rfl (Nat.le_of_ble_eq_true rfl) dX10_heatBehind_9 (fun H locs hw hS => ?_)
    clear hc
    refine lv_iadd hx hb dX10_heatBehind_12 ?_
    refine z_min hC hl.1 (rest := []) wd90 wd91 wd83 wd89 (Nat.le_of_ble_eq_true rfl) (Nat.le_of_ble_eq_true rfl) (Nat.le_of_ble_eq_true rfl) (Nat.le_of_ble_eq_true rfl) dX10_heatBehind_13 ?_
    refine lv_goto (tgt := 26) hx hb dX10_heatBehind_16 (by decide) ?_
    exact J26 _ _ hf _ _ ls (lv_sub hl [] rfl) hw hS
set_option maxHeartbeats 4000000 in
set_option maxRecDepth 100000 in
theorem m_X8_heatBy_15 (l : Launch) (E : Ev) {x1 : Int32}  {s0 sz : St} {rz : Int32} (hf : f_X8_heatBy_15 x1 s0 = some (rz, sz)) : MM l E sh2 yX8_heatBy cX8_heatBy 2 (some .int) (rmd 1) [.ref (E.2.2.1 + 15), .int x1] s0 (some (.int rz)) sz := by
  unfold f_X8_heatBy_15 at hf
  refine z_enter (by decide +kernel) (Nat.le_of_ble_eq_true rfl) ?_
  intro p e s m args below meth c ls hC hr hlocks hw hS hl
  have hC : Cx p s m args c cX8_heatBy 2 "FuseBox$Slow" E := hC
  obtain ⟨hx, hb, hml, hown, hts, hTB⟩ := id hC
  have hl : lv_has ls 2 [(0, .ref (E.2.2.1 + 15)), (1, .int x1)] := hl
  refine lv_iload_n hx hb dX8_heatBy_0 rfl (lv_at hl 1 rfl) ?_
  refine lv_iconst (v := 2) hx hb dX8_heatBy_1 (by decide) ?_
  refine lv_idiv hx hb dX8_heatBy_2 (by decide) ?_
  exact z_iretE hC hlocks hw hS hf hr rfl dX8_heatBy_3
set_option maxHeartbeats 4000000 in
set_option maxRecDepth 100000 in
theorem m_X10_heatBehind_15 (l : Launch) (E : Ev) {x1 : Int32} {x2 : Int32}  {s0 sz : St} {rz : Int32} (hf : f_X10_heatBehind_15 x1 x2 s0 = some (rz, sz)) : MM l E sh2 yX10_heatBehind cX10_heatBehind 3 (some .int) (rmd 2) [.ref (E.2.2.1 + 15), .int x1, .int x2] s0 (some (.int rz)) sz := by
  unfold f_X10_heatBehind_15 at hf
  refine z_enter (by decide +kernel) (Nat.le_of_ble_eq_true rfl) ?_
  intro p e s m args below meth c ls hC hr hlocks hw hS hl
  have hC : Cx p s m args c cX10_heatBehind 3 "FuseBox$Wire" E := hC
  obtain ⟨hx, hb, hml, hown, hts, hTB⟩ := id hC
  have hl : lv_has ls 3 [(0, .ref (E.2.2.1 + 15)), (1, .int x1), (2, .int x2)] := hl
  refine lv_iload_n hx hb dX10_heatBehind_0 rfl (lv_at hl 2 rfl) ?_
  obtain ⟨j26, ej26, hf⟩ := ok_lt hf
  have J26 : ∀ (k_1 : Int32) (s_2 : St), j26 k_1 s_2 = some (rz, sz) → ∀ (H : Heap) (locs : List Loc) (ls : Array Slot), lv_has ls 3 [] → World E sh2 s_2 H → va_S E.2.2.2 s.heap H locs → W p l e (rmd 2) s m args below meth c H locs 0 0 (MQ below (QW E sh2 (some (.int rz)) sz) args s 0 0 E.2.2.2) (F0 m 26 ls [.int k_1]) := by
    intro k_1 s_2 hf H locs ls hl hw hS
    subst ej26
    exact z_iretE hC hlocks hw hS hf hr rfl dX10_heatBehind_26
  clear ej26
  have hif := ok_if hf
  refine lv_if_le (tgt := 19) hx hb dX10_heatBehind_1 (by decide) (fun hcd => ?_) (fun hcd => ?_)
  · have hf := hif.1 hcd
    clear hif
    refine lv_iconst (v := 0) hx hb dX10_heatBehind_19 (by decide) ?_
    refine lv_iload_n hx hb dX10_heatBehind_20 rfl (lv_at hl 1 rfl) ?_
    refine lv_iconst (v := 1) hx hb dX10_heatBehind_21 (by decide) ?_
    refine lv_isub hx hb dX10_heatBehind_22 ?_
    refine z_max hC hl.1 (rest := []) wd81 wd82 wd83 wd80 (Nat.le_of_ble_eq_true rfl) (Nat.le_of_ble_eq_true rfl) (Nat.le_of_ble_eq_true rfl) (Nat.le_of_ble_eq_true rfl) dX10_heatBehind_23 ?_
    exact J26 _ _ hf _ _ ls (lv_sub hl [] rfl) hw hS
  · have hf := hif.2 hcd
    clear hif
    refine lv_bipush (v := 99) hx hb dX10_heatBehind_4 (by decide) ?_
    refine lv_iload_n hx hb dX10_heatBehind_6 rfl (lv_at hl 1 rfl) ?_
    refine lv_aload_n hx hb dX10_heatBehind_7 rfl (lv_at hl 0 rfl) ?_
    refine lv_iload_n hx hb dX10_heatBehind_8 rfl (lv_at hl 2 rfl) ?_
    obtain ⟨r_4, s_3, hc, hf⟩ := ok_bd hf
    refine z_cU hC hl.1 hw hS (As := [.int x2]) (rest := [.int x1, .int (99 : Int32)]) (m_X8_heatBy_15 l E  hc) (ci := 7) (ks := []) rfl rfl (C := "FuseBox$Slow") (va_cwO 1 hts gc30 rfl rfl rfl wd88 gc31 ⟨Nat.le_of_ble_eq_true rfl, Nat.le_of_ble_eq_true rfl⟩) ⟨Nat.le_of_ble_eq_true rfl, Nat.le_of_ble_eq_true rfl⟩ rfl rfl (Nat.le_of_ble_eq_true rfl) dX10_heatBehind_9 (fun H locs hw hS => ?_)
    clear hc
    refine lv_iadd hx hb dX10_heatBehind_12 ?_
    refine z_min hC hl.1 (rest := []) wd90 wd91 wd83 wd89 (Nat.le_of_ble_eq_true rfl) (Nat.le_of_ble_eq_true rfl) (Nat.le_of_ble_eq_true rfl) (Nat.le_of_ble_eq_true rfl) dX10_heatBehind_13 ?_
    refine lv_goto (tgt := 26) hx hb dX10_heatBehind_16 (by decide) ?_
    exact J26 _ _ hf _ _ ls (lv_sub hl [] rfl) hw hS
set_option maxHeartbeats 4000000 in
set_option maxRecDepth 100000 in
theorem m_X10_heatBy_16 (l : Launch) (E : Ev) {x1 : Int32}  {s0 sz : St} {rz : Int32} (hf : f_X10_heatBy_16 x1 s0 = some (rz, sz)) : MM l E sh2 yX10_heatBy cX10_heatBy 2 (some .int) (rmd 1) [.ref (E.2.2.1 + 16), .int x1] s0 (some (.int rz)) sz := by
  unfold f_X10_heatBy_16 at hf
  refine z_enter (by decide +kernel) (Nat.le_of_ble_eq_true rfl) ?_
  intro p e s m args below meth c ls hC hr hlocks hw hS hl
  have hC : Cx p s m args c cX10_heatBy 2 "FuseBox$Wire" E := hC
  obtain ⟨hx, hb, hml, hown, hts, hTB⟩ := id hC
  have hl : lv_has ls 2 [(0, .ref (E.2.2.1 + 16)), (1, .int x1)] := hl
  refine lv_iload_n hx hb dX10_heatBy_0 rfl (lv_at hl 1 rfl) ?_
  exact z_iretE hC hlocks hw hS hf hr rfl dX10_heatBy_1
set_option maxHeartbeats 4000000 in
set_option maxRecDepth 100000 in
theorem m_X10_heatBehind_16 (l : Launch) (E : Ev) {x1 : Int32} {x2 : Int32}  {s0 sz : St} {rz : Int32} (hf : f_X10_heatBehind_16 x1 x2 s0 = some (rz, sz)) : MM l E sh2 yX10_heatBehind cX10_heatBehind 3 (some .int) (rmd 2) [.ref (E.2.2.1 + 16), .int x1, .int x2] s0 (some (.int rz)) sz := by
  unfold f_X10_heatBehind_16 at hf
  refine z_enter (by decide +kernel) (Nat.le_of_ble_eq_true rfl) ?_
  intro p e s m args below meth c ls hC hr hlocks hw hS hl
  have hC : Cx p s m args c cX10_heatBehind 3 "FuseBox$Wire" E := hC
  obtain ⟨hx, hb, hml, hown, hts, hTB⟩ := id hC
  have hl : lv_has ls 3 [(0, .ref (E.2.2.1 + 16)), (1, .int x1), (2, .int x2)] := hl
  refine lv_iload_n hx hb dX10_heatBehind_0 rfl (lv_at hl 2 rfl) ?_
  obtain ⟨j26, ej26, hf⟩ := ok_lt hf
  have J26 : ∀ (k_1 : Int32) (s_2 : St), j26 k_1 s_2 = some (rz, sz) → ∀ (H : Heap) (locs : List Loc) (ls : Array Slot), lv_has ls 3 [] → World E sh2 s_2 H → va_S E.2.2.2 s.heap H locs → W p l e (rmd 2) s m args below meth c H locs 0 0 (MQ below (QW E sh2 (some (.int rz)) sz) args s 0 0 E.2.2.2) (F0 m 26 ls [.int k_1]) := by
    intro k_1 s_2 hf H locs ls hl hw hS
    subst ej26
    exact z_iretE hC hlocks hw hS hf hr rfl dX10_heatBehind_26
  clear ej26
  have hif := ok_if hf
  refine lv_if_le (tgt := 19) hx hb dX10_heatBehind_1 (by decide) (fun hcd => ?_) (fun hcd => ?_)
  · have hf := hif.1 hcd
    clear hif
    refine lv_iconst (v := 0) hx hb dX10_heatBehind_19 (by decide) ?_
    refine lv_iload_n hx hb dX10_heatBehind_20 rfl (lv_at hl 1 rfl) ?_
    refine lv_iconst (v := 1) hx hb dX10_heatBehind_21 (by decide) ?_
    refine lv_isub hx hb dX10_heatBehind_22 ?_
    refine z_max hC hl.1 (rest := []) wd81 wd82 wd83 wd80 (Nat.le_of_ble_eq_true rfl) (Nat.le_of_ble_eq_true rfl) (Nat.le_of_ble_eq_true rfl) (Nat.le_of_ble_eq_true rfl) dX10_heatBehind_23 ?_
    exact J26 _ _ hf _ _ ls (lv_sub hl [] rfl) hw hS
  · have hf := hif.2 hcd
    clear hif
    refine lv_bipush (v := 99) hx hb dX10_heatBehind_4 (by decide) ?_
    refine lv_iload_n hx hb dX10_heatBehind_6 rfl (lv_at hl 1 rfl) ?_
    refine lv_aload_n hx hb dX10_heatBehind_7 rfl (lv_at hl 0 rfl) ?_
    refine lv_iload_n hx hb dX10_heatBehind_8 rfl (lv_at hl 2 rfl) ?_
    obtain ⟨r_4, s_3, hc, hf⟩ := ok_bd hf
    refine z_cU hC hl.1 hw hS (As := [.int x2]) (rest := [.int x1, .int (99 : Int32)]) (m_X10_heatBy_16 l E  hc) (ci := 4) (ks := []) rfl rfl (C := "FuseBox$Quick") (va_cwU 1 hts gc32 rfl rfl rfl rfl gc31 ⟨Nat.le_of_ble_eq_true rfl, Nat.le_of_ble_eq_true rfl⟩) ⟨Nat.le_of_ble_eq_true rfl, Nat.le_of_ble_eq_true rfl⟩ rfl rfl (Nat.le_of_ble_eq_true rfl) dX10_heatBehind_9 (fun H locs hw hS => ?_)
    clear hc
    refine lv_iadd hx hb dX10_heatBehind_12 ?_
    refine z_min hC hl.1 (rest := []) wd90 wd91 wd83 wd89 (Nat.le_of_ble_eq_true rfl) (Nat.le_of_ble_eq_true rfl) (Nat.le_of_ble_eq_true rfl) (Nat.le_of_ble_eq_true rfl) dX10_heatBehind_13 ?_
    refine lv_goto (tgt := 26) hx hb dX10_heatBehind_16 (by decide) ?_
    exact J26 _ _ hf _ _ ls (lv_sub hl [] rfl) hw hS
set_option maxHeartbeats 4000000 in
set_option maxRecDepth 100000 in
theorem m_X10_deadBehind_14 (l : Launch) (E : Ev) {x1 : Int32} {x2 : Int32} {x3 : Int32}  {s0 sz : St} {rz : Int32} (hf : f_X10_deadBehind_14 x1 x2 x3 s0 = some (rz, sz)) : MM l E sh2 yX10_deadBehind cX10_deadBehind 4 (some .int) (rmd 1) [.ref (E.2.2.1 + 14), .int x1, .int x2, .int x3] s0 (some (.int rz)) sz := by
  unfold f_X10_deadBehind_14 at hf
  refine z_enter (by decide +kernel) (Nat.le_of_ble_eq_true rfl) ?_
  intro p e s m args below meth c ls hC hr hlocks hw hS hl
  have hC : Cx p s m args c cX10_deadBehind 4 "FuseBox$Wire" E := hC
  obtain ⟨hx, hb, hml, hown, hts, hTB⟩ := id hC
  have hl : lv_has ls 4 [(0, .ref (E.2.2.1 + 14)), (1, .int x1), (2, .int x2), (3, .int x3)] := hl
  refine lv_iload_n hx hb dX10_deadBehind_0 rfl (lv_at hl 1 rfl) ?_
  refine lv_bipush (v := 10) hx hb dX10_deadBehind_1 (by decide) ?_
  obtain ⟨j11, ej11, hf⟩ := ok_lt hf
  have J11 : ∀ (k_1 : Int32) (s_2 : St), j11 k_1 s_2 = some (rz, sz) → ∀ (H : Heap) (locs : List Loc) (ls : Array Slot), lv_has ls 4 [] → World E sh2 s_2 H → va_S E.2.2.2 s.heap H locs → W p l e (rmd 1) s m args below meth c H locs 0 0 (MQ below (QW E sh2 (some (.int rz)) sz) args s 0 0 E.2.2.2) (F0 m 11 ls [.int k_1]) := by
    intro k_1 s_2 hf H locs ls hl hw hS
    subst ej11
    exact z_iretE hC hlocks hw hS hf hr rfl dX10_deadBehind_11
  clear ej11
  have hif := ok_if hf
  refine lv_icmp_lt (tgt := 10) hx hb dX10_deadBehind_3 (by decide) (fun hcd => ?_) (fun hcd => ?_)
  · have hf := hif.1 hcd
    clear hif
    refine lv_iconst (v := 0) hx hb dX10_deadBehind_10 (by decide) ?_
    exact J11 _ _ hf _ _ ls (lv_sub hl [] rfl) hw hS
  · have hf := hif.2 hcd
    clear hif
    refine lv_iconst (v := 1) hx hb dX10_deadBehind_6 (by decide) ?_
    refine lv_goto (tgt := 11) hx hb dX10_deadBehind_7 (by decide) ?_
    exact J11 _ _ hf _ _ ls (lv_sub hl [] rfl) hw hS
set_option maxHeartbeats 4000000 in
set_option maxRecDepth 100000 in
theorem m_X10_deadBehind_15 (l : Launch) (E : Ev) {x1 : Int32} {x2 : Int32} {x3 : Int32}  {s0 sz : St} {rz : Int32} (hf : f_X10_deadBehind_15 x1 x2 x3 s0 = some (rz, sz)) : MM l E sh2 yX10_deadBehind cX10_deadBehind 4 (some .int) (rmd 1) [.ref (E.2.2.1 + 15), .int x1, .int x2, .int x3] s0 (some (.int rz)) sz := by
  unfold f_X10_deadBehind_15 at hf
  refine z_enter (by decide +kernel) (Nat.le_of_ble_eq_true rfl) ?_
  intro p e s m args below meth c ls hC hr hlocks hw hS hl
  have hC : Cx p s m args c cX10_deadBehind 4 "FuseBox$Wire" E := hC
  obtain ⟨hx, hb, hml, hown, hts, hTB⟩ := id hC
  have hl : lv_has ls 4 [(0, .ref (E.2.2.1 + 15)), (1, .int x1), (2, .int x2), (3, .int x3)] := hl
  refine lv_iload_n hx hb dX10_deadBehind_0 rfl (lv_at hl 1 rfl) ?_
  refine lv_bipush (v := 10) hx hb dX10_deadBehind_1 (by decide) ?_
  obtain ⟨j11, ej11, hf⟩ := ok_lt hf
  have J11 : ∀ (k_1 : Int32) (s_2 : St), j11 k_1 s_2 = some (rz, sz) → ∀ (H : Heap) (locs : List Loc) (ls : Array Slot), lv_has ls 4 [] → World E sh2 s_2 H → va_S E.2.2.2 s.heap H locs → W p l e (rmd 1) s m args below meth c H locs 0 0 (MQ below (QW E sh2 (some (.int rz)) sz) args s 0 0 E.2.2.2) (F0 m 11 ls [.int k_1]) := by
    intro k_1 s_2 hf H locs ls hl hw hS
    subst ej11
    exact z_iretE hC hlocks hw hS hf hr rfl dX10_deadBehind_11
  clear ej11
  have hif := ok_if hf
  refine lv_icmp_lt (tgt := 10) hx hb dX10_deadBehind_3 (by decide) (fun hcd => ?_) (fun hcd => ?_)
  · have hf := hif.1 hcd
    clear hif
    refine lv_iconst (v := 0) hx hb dX10_deadBehind_10 (by decide) ?_
    exact J11 _ _ hf _ _ ls (lv_sub hl [] rfl) hw hS
  · have hf := hif.2 hcd
    clear hif
    refine lv_iconst (v := 1) hx hb dX10_deadBehind_6 (by decide) ?_
    refine lv_goto (tgt := 11) hx hb dX10_deadBehind_7 (by decide) ?_
    exact J11 _ _ hf _ _ ls (lv_sub hl [] rfl) hw hS
set_option maxHeartbeats 4000000 in
set_option maxRecDepth 100000 in
theorem m_X10_deadBehind_16 (l : Launch) (E : Ev) {x1 : Int32} {x2 : Int32} {x3 : Int32}  {s0 sz : St} {rz : Int32} (hf : f_X10_deadBehind_16 x1 x2 x3 s0 = some (rz, sz)) : MM l E sh2 yX10_deadBehind cX10_deadBehind 4 (some .int) (rmd 1) [.ref (E.2.2.1 + 16), .int x1, .int x2, .int x3] s0 (some (.int rz)) sz := by
  unfold f_X10_deadBehind_16 at hf
  refine z_enter (by decide +kernel) (Nat.le_of_ble_eq_true rfl) ?_
  intro p e s m args below meth c ls hC hr hlocks hw hS hl
  have hC : Cx p s m args c cX10_deadBehind 4 "FuseBox$Wire" E := hC
  obtain ⟨hx, hb, hml, hown, hts, hTB⟩ := id hC
  have hl : lv_has ls 4 [(0, .ref (E.2.2.1 + 16)), (1, .int x1), (2, .int x2), (3, .int x3)] := hl
  refine lv_iload_n hx hb dX10_deadBehind_0 rfl (lv_at hl 1 rfl) ?_
  refine lv_bipush (v := 10) hx hb dX10_deadBehind_1 (by decide) ?_
  obtain ⟨j11, ej11, hf⟩ := ok_lt hf
  have J11 : ∀ (k_1 : Int32) (s_2 : St), j11 k_1 s_2 = some (rz, sz) → ∀ (H : Heap) (locs : List Loc) (ls : Array Slot), lv_has ls 4 [] → World E sh2 s_2 H → va_S E.2.2.2 s.heap H locs → W p l e (rmd 1) s m args below meth c H locs 0 0 (MQ below (QW E sh2 (some (.int rz)) sz) args s 0 0 E.2.2.2) (F0 m 11 ls [.int k_1]) := by
    intro k_1 s_2 hf H locs ls hl hw hS
    subst ej11
    exact z_iretE hC hlocks hw hS hf hr rfl dX10_deadBehind_11
  clear ej11
  have hif := ok_if hf
  refine lv_icmp_lt (tgt := 10) hx hb dX10_deadBehind_3 (by decide) (fun hcd => ?_) (fun hcd => ?_)
  · have hf := hif.1 hcd
    clear hif
    refine lv_iconst (v := 0) hx hb dX10_deadBehind_10 (by decide) ?_
    exact J11 _ _ hf _ _ ls (lv_sub hl [] rfl) hw hS
  · have hf := hif.2 hcd
    clear hif
    refine lv_iconst (v := 1) hx hb dX10_deadBehind_6 (by decide) ?_
    refine lv_goto (tgt := 11) hx hb dX10_deadBehind_7 (by decide) ?_
    exact J11 _ _ hf _ _ ls (lv_sub hl [] rfl) hw hS
set_option maxHeartbeats 4000000 in
set_option maxRecDepth 100000 in
theorem m_X5_deadBehind_16 (l : Launch) (E : Ev) {x1 : Int32} {x2 : Int32} {x3 : Int32}  {s0 sz : St} {rz : Int32} (hf : f_X5_deadBehind_16 x1 x2 x3 s0 = some (rz, sz)) : MM l E sh2 yX5_deadBehind cX5_deadBehind 4 (some .int) (rmd 2) [.ref (E.2.2.1 + 16), .int x1, .int x2, .int x3] s0 (some (.int rz)) sz := by
  unfold f_X5_deadBehind_16 at hf
  refine z_enter (by decide +kernel) (Nat.le_of_ble_eq_true rfl) ?_
  intro p e s m args below meth c ls hC hr hlocks hw hS hl
  have hC : Cx p s m args c cX5_deadBehind 4 "FuseBox$Quick" E := hC
  obtain ⟨hx, hb, hml, hown, hts, hTB⟩ := id hC
  have hl : lv_has ls 4 [(0, .ref (E.2.2.1 + 16)), (1, .int x1), (2, .int x2), (3, .int x3)] := hl
  refine lv_iload_n hx hb dX5_deadBehind_0 rfl (lv_at hl 2 rfl) ?_
  refine lv_iconst (v := 2) hx hb dX5_deadBehind_1 (by decide) ?_
  refine lv_iload_n hx hb dX5_deadBehind_2 rfl (lv_at hl 3 rfl) ?_
  refine lv_imul hx hb dX5_deadBehind_3 ?_
  obtain ⟨j18, ej18, hf⟩ := ok_lt hf
  have J18 : ∀ (k_1 : Int32) (s_2 : St), j18 k_1 s_2 = some (rz, sz) → ∀ (H : Heap) (locs : List Loc) (ls : Array Slot), lv_has ls 4 [] → World E sh2 s_2 H → va_S E.2.2.2 s.heap H locs → W p l e (rmd 2) s m args below meth c H locs 0 0 (MQ below (QW E sh2 (some (.int rz)) sz) args s 0 0 E.2.2.2) (F0 m 18 ls [.int k_1]) := by
    intro k_1 s_2 hf H locs ls hl hw hS
    subst ej18
    exact z_iretE hC hlocks hw hS hf hr rfl dX5_deadBehind_18
  clear ej18
  have hif := ok_if hf
  refine lv_icmp_lt (tgt := 11) hx hb dX5_deadBehind_4 (by decide) (fun hcd => ?_) (fun hcd => ?_)
  · have hf := hif.1 hcd
    clear hif
    refine lv_aload_n hx hb dX5_deadBehind_11 rfl (lv_at hl 0 rfl) ?_
    refine lv_iload_n hx hb dX5_deadBehind_12 rfl (lv_at hl 1 rfl) ?_
    refine lv_iload_n hx hb dX5_deadBehind_13 rfl (lv_at hl 2 rfl) ?_
    refine lv_iload_n hx hb dX5_deadBehind_14 rfl (lv_at hl 3 rfl) ?_
    obtain ⟨r_4, s_3, hc, hf⟩ := ok_bd hf
    refine z_cSU hC hl.1 hw hS (As := [.int x1, .int x2, .int x3]) (rest := []) (m_X10_deadBehind_16 l E  hc) (ci := 4) (ks := []) rfl rfl gc33 gc34 ⟨Nat.le_of_ble_eq_true rfl, Nat.le_of_ble_eq_true rfl⟩ ⟨Nat.le_of_ble_eq_true rfl, Nat.le_of_ble_eq_true rfl⟩ rfl rfl (Nat.le_of_ble_eq_true rfl) dX5_deadBehind_15 (fun H locs hw hS => ?_)
    clear hc
    exact J18 _ _ hf _ _ ls (lv_sub hl [] rfl) hw hS
  · have hf := hif.2 hcd
    clear hif
    refine lv_iconst (v := 1) hx hb dX5_deadBehind_7 (by decide) ?_
    refine lv_goto (tgt := 18) hx hb dX5_deadBehind_8 (by decide) ?_
    exact J18 _ _ hf _ _ ls (lv_sub hl [] rfl) hw hS
set_option maxHeartbeats 4000000 in
set_option maxRecDepth 100000 in
theorem m_J6_bitCount_0f7a4 (l : Launch) (E : Ev) {x0 : Int32}  {s0 sz : St} {rz : Int32} (hf : f_J6_bitCount_0f7a4 x0 s0 = some (rz, sz)) : MM l E sh2 yJ6_bitCount_0f7a4 cJ6_bitCount_0f7a4 1 (some .int) (rmd 1) [.int x0] s0 (some (.int rz)) sz := by
  unfold f_J6_bitCount_0f7a4 at hf
  refine z_enter (by decide +kernel) (Nat.le_of_ble_eq_true rfl) ?_
  intro p e s m args below meth c ls hC hr hlocks hw hS hl
  have hC : Cx p s m args c cJ6_bitCount_0f7a4 1 "java/lang/Integer" E := hC
  obtain ⟨hx, hb, hml, hown, hts, hTB⟩ := id hC
  have hl : lv_has ls 1 [(0, .int x0)] := hl
  refine lv_iload_n hx hb dJ6_bitCount_0f7a4_0 rfl (lv_at hl 0 rfl) ?_
  refine lv_iload_n hx hb dJ6_bitCount_0f7a4_1 rfl (lv_at hl 0 rfl) ?_
  refine lv_iconst (v := 1) hx hb dJ6_bitCount_0f7a4_2 (by decide) ?_
  refine lv_iushr (v := ((x0).toUInt32 >>> (((1 : Int32)).toUInt32 &&& Int32.toUInt32 31)).toInt32) hx hb dJ6_bitCount_0f7a4_3 rfl ?_
  refine lv_ldcw (v := 1431655765) hx hb hown (hts _ wd167) dJ6_bitCount_0f7a4_4 ?_
  refine lv_iand hx hb dJ6_bitCount_0f7a4_7 ?_
  refine lv_isub hx hb dJ6_bitCount_0f7a4_8 ?_
  obtain ⟨v0_1, en, hf⟩ := ok_lt hf
  refine z_nm en ?_
  clear en
  refine lv_istore_n (lv' := [(0, .int v0_1)]) hx hb dJ6_bitCount_0f7a4_9 rfl hl (by decide) rfl (fun ls hl => ?_)
  refine lv_iload_n hx hb dJ6_bitCount_0f7a4_10 rfl (lv_at hl 0 rfl) ?_
  refine lv_ldcw (v := 858993459) hx hb hown (hts _ wd168) dJ6_bitCount_0f7a4_11 ?_
  refine lv_iand hx hb dJ6_bitCount_0f7a4_14 ?_
  refine lv_iload_n hx hb dJ6_bitCount_0f7a4_15 rfl (lv_at hl 0 rfl) ?_
  refine lv_iconst (v := 2) hx hb dJ6_bitCount_0f7a4_16 (by decide) ?_
  refine lv_iushr (v := ((v0_1).toUInt32 >>> (((2 : Int32)).toUInt32 &&& Int32.toUInt32 31)).toInt32) hx hb dJ6_bitCount_0f7a4_17 rfl ?_
  refine lv_ldcw (v := 858993459) hx hb hown (hts _ wd168) dJ6_bitCount_0f7a4_18 ?_
  refine lv_iand hx hb dJ6_bitCount_0f7a4_21 ?_
  refine lv_iadd hx hb dJ6_bitCount_0f7a4_22 ?_
  obtain ⟨v0_2, en, hf⟩ := ok_lt hf
  refine z_nm en ?_
  clear en
  refine lv_istore_n (lv' := [(0, .int v0_2)]) hx hb dJ6_bitCount_0f7a4_23 rfl hl (by decide) rfl (fun ls hl => ?_)
  refine lv_iload_n hx hb dJ6_bitCount_0f7a4_24 rfl (lv_at hl 0 rfl) ?_
  refine lv_iload_n hx hb dJ6_bitCount_0f7a4_25 rfl (lv_at hl 0 rfl) ?_
  refine lv_iconst (v := 4) hx hb dJ6_bitCount_0f7a4_26 (by decide) ?_
  refine lv_iushr (v := ((v0_2).toUInt32 >>> (((4 : Int32)).toUInt32 &&& Int32.toUInt32 31)).toInt32) hx hb dJ6_bitCount_0f7a4_27 rfl ?_
  refine lv_iadd hx hb dJ6_bitCount_0f7a4_28 ?_
  refine lv_ldcw (v := 252645135) hx hb hown (hts _ wd169) dJ6_bitCount_0f7a4_29 ?_
  refine lv_iand hx hb dJ6_bitCount_0f7a4_32 ?_
  obtain ⟨v0_3, en, hf⟩ := ok_lt hf
  refine z_nm en ?_
  clear en
  refine lv_istore_n (lv' := [(0, .int v0_3)]) hx hb dJ6_bitCount_0f7a4_33 rfl hl (by decide) rfl (fun ls hl => ?_)
  refine lv_iload_n hx hb dJ6_bitCount_0f7a4_34 rfl (lv_at hl 0 rfl) ?_
  refine lv_iload_n hx hb dJ6_bitCount_0f7a4_35 rfl (lv_at hl 0 rfl) ?_
  refine lv_bipush (v := 8) hx hb dJ6_bitCount_0f7a4_36 (by decide) ?_
  refine lv_iushr (v := ((v0_3).toUInt32 >>> (((8 : Int32)).toUInt32 &&& Int32.toUInt32 31)).toInt32) hx hb dJ6_bitCount_0f7a4_38 rfl ?_
  refine lv_iadd hx hb dJ6_bitCount_0f7a4_39 ?_
  obtain ⟨v0_4, en, hf⟩ := ok_lt hf
  refine z_nm en ?_
  clear en
  refine lv_istore_n (lv' := [(0, .int v0_4)]) hx hb dJ6_bitCount_0f7a4_40 rfl hl (by decide) rfl (fun ls hl => ?_)
  refine lv_iload_n hx hb dJ6_bitCount_0f7a4_41 rfl (lv_at hl 0 rfl) ?_
  refine lv_iload_n hx hb dJ6_bitCount_0f7a4_42 rfl (lv_at hl 0 rfl) ?_
  refine lv_bipush (v := 16) hx hb dJ6_bitCount_0f7a4_43 (by decide) ?_
  refine lv_iushr (v := ((v0_4).toUInt32 >>> (((16 : Int32)).toUInt32 &&& Int32.toUInt32 31)).toInt32) hx hb dJ6_bitCount_0f7a4_45 rfl ?_
  refine lv_iadd hx hb dJ6_bitCount_0f7a4_46 ?_
  obtain ⟨v0_5, en, hf⟩ := ok_lt hf
  refine z_nm en ?_
  clear en
  refine lv_istore_n (lv' := [(0, .int v0_5)]) hx hb dJ6_bitCount_0f7a4_47 rfl hl (by decide) rfl (fun ls hl => ?_)
  refine lv_iload_n hx hb dJ6_bitCount_0f7a4_48 rfl (lv_at hl 0 rfl) ?_
  refine lv_bipush (v := 63) hx hb dJ6_bitCount_0f7a4_49 (by decide) ?_
  refine lv_iand hx hb dJ6_bitCount_0f7a4_51 ?_
  exact z_iretE hC hlocks hw hS hf hr rfl dJ6_bitCount_0f7a4_52
set_option maxHeartbeats 4000000 in
set_option maxRecDepth 100000 in
theorem m_X10_markOf_16 (l : Launch) (E : Ev) {a1 : Nat} {x2 : Int32} (t1 : isH a1) {s0 sz : St} {rz : Int32} (hf : f_X10_markOf_16 a1 x2 s0 = some (rz, sz)) : MM l E sh2 yX10_markOf cX10_markOf 4 (some .int) (rmd 3) [.ref (E.2.2.1 + 16), .ref (E.2.2.1 + a1), .int x2, .ref (E.2.2.1 + 11)] s0 (some (.int rz)) sz := by
  unfold f_X10_markOf_16 at hf
  refine z_enter (by decide +kernel) (Nat.le_of_ble_eq_true rfl) ?_
  intro p e s m args below meth c ls hC hr hlocks hw hS hl
  have hC : Cx p s m args c cX10_markOf 4 "FuseBox$Wire" E := hC
  obtain ⟨hx, hb, hml, hown, hts, hTB⟩ := id hC
  have hl : lv_has ls 4 [(0, .ref (E.2.2.1 + 16)), (1, .ref (E.2.2.1 + a1)), (2, .int x2), (3, .ref (E.2.2.1 + 11))] := hl
  refine lv_aload_n hx hb dX10_markOf_0 rfl (lv_at hl 3 rfl) ?_
  refine lv_bipush (v := 21) hx hb dX10_markOf_1 (by decide) ?_
  obtain ⟨s_1, hc, hf⟩ := ok_bind hf
  refine z_cV hC hl.1 hw hS (As := [.int (21 : Int32)]) (rest := []) (m_X9_leave l E  hc) rfl rfl gc78 gc5 ⟨Nat.le_of_ble_eq_true rfl, Nat.le_of_ble_eq_true rfl⟩ ⟨Nat.le_of_ble_eq_true rfl, Nat.le_of_ble_eq_true rfl⟩ rfl rfl (Nat.le_of_ble_eq_true rfl) dX10_markOf_3 (fun H locs hw hS => ?_)
  clear hc
  refine lv_aload_n hx hb dX10_markOf_6 rfl (lv_at hl 0 rfl) ?_
  refine lv_aload_n hx hb dX10_markOf_7 rfl (lv_at hl 1 rfl) ?_
  refine lv_iload_n hx hb dX10_markOf_8 rfl (lv_at hl 2 rfl) ?_
  refine lv_aload_n hx hb dX10_markOf_9 rfl (lv_at hl 3 rfl) ?_
  obtain ⟨r_3, s_2, hc, hf⟩ := ok_bd hf
  refine z_cSU hC hl.1 hw hS (As := [.ref (E.2.2.1 + a1), .int x2, .ref (E.2.2.1 + 11)]) (rest := []) (m_X2_markOf_16 l E t1 hc) (ci := 4) (ks := []) rfl rfl gc79 gc10 ⟨Nat.le_of_ble_eq_true rfl, Nat.le_of_ble_eq_true rfl⟩ ⟨Nat.le_of_ble_eq_true rfl, Nat.le_of_ble_eq_true rfl⟩ rfl rfl (Nat.le_of_ble_eq_true rfl) dX10_markOf_10 (fun H locs hw hS => ?_)
  clear hc
  refine lv_aload_n hx hb dX10_markOf_13 rfl (lv_at hl 1 rfl) ?_
  refine gHouse_heat hC hw t1 wd212 dX10_markOf_14 ?_
  refine lv_iload_n hx hb dX10_markOf_17 rfl (lv_at hl 2 rfl) ?_
  obtain ⟨hin, hf⟩ := ok_chk hf
  refine z_iald hC hw (sH t1).2.2.2.1 hin dX10_markOf_18 ?_
  refine lv_iadd hx hb dX10_markOf_19 ?_
  exact z_iretE hC hlocks hw hS hf hr rfl dX10_markOf_20
set_option maxHeartbeats 4000000 in
set_option maxRecDepth 100000 in
theorem m_X5_markOf_16 (l : Launch) (E : Ev) {a1 : Nat} {x2 : Int32} (t1 : isH a1) {s0 sz : St} {rz : Int32} (hf : f_X5_markOf_16 a1 x2 s0 = some (rz, sz)) : MM l E sh2 yX5_markOf cX5_markOf 4 (some .int) (rmd 4) [.ref (E.2.2.1 + 16), .ref (E.2.2.1 + a1), .int x2, .ref (E.2.2.1 + 11)] s0 (some (.int rz)) sz := by
  unfold f_X5_markOf_16 at hf
  refine z_enter (by decide +kernel) (Nat.le_of_ble_eq_true rfl) ?_
  intro p e s m args below meth c ls hC hr hlocks hw hS hl
  have hC : Cx p s m args c cX5_markOf 4 "FuseBox$Quick" E := hC
  obtain ⟨hx, hb, hml, hown, hts, hTB⟩ := id hC
  have hl : lv_has ls 4 [(0, .ref (E.2.2.1 + 16)), (1, .ref (E.2.2.1 + a1)), (2, .int x2), (3, .ref (E.2.2.1 + 11))] := hl
  refine lv_aload_n hx hb dX5_markOf_0 rfl (lv_at hl 3 rfl) ?_
  refine lv_bipush (v := 22) hx hb dX5_markOf_1 (by decide) ?_
  obtain ⟨s_1, hc, hf⟩ := ok_bind hf
  refine z_cV hC hl.1 hw hS (As := [.int (22 : Int32)]) (rest := []) (m_X9_leave l E  hc) rfl rfl gc80 gc5 ⟨Nat.le_of_ble_eq_true rfl, Nat.le_of_ble_eq_true rfl⟩ ⟨Nat.le_of_ble_eq_true rfl, Nat.le_of_ble_eq_true rfl⟩ rfl rfl (Nat.le_of_ble_eq_true rfl) dX5_markOf_3 (fun H locs hw hS => ?_)
  clear hc
  refine lv_aload_n hx hb dX5_markOf_6 rfl (lv_at hl 0 rfl) ?_
  refine lv_aload_n hx hb dX5_markOf_7 rfl (lv_at hl 1 rfl) ?_
  refine lv_iload_n hx hb dX5_markOf_8 rfl (lv_at hl 2 rfl) ?_
  refine lv_aload_n hx hb dX5_markOf_9 rfl (lv_at hl 3 rfl) ?_
  obtain ⟨r_3, s_2, hc, hf⟩ := ok_bd hf
  refine z_cSU hC hl.1 hw hS (As := [.ref (E.2.2.1 + a1), .int x2, .ref (E.2.2.1 + 11)]) (rest := []) (m_X10_markOf_16 l E t1 hc) (ci := 4) (ks := []) rfl rfl gc81 gc82 ⟨Nat.le_of_ble_eq_true rfl, Nat.le_of_ble_eq_true rfl⟩ ⟨Nat.le_of_ble_eq_true rfl, Nat.le_of_ble_eq_true rfl⟩ rfl rfl (Nat.le_of_ble_eq_true rfl) dX5_markOf_10 (fun H locs hw hS => ?_)
  clear hc
  refine lv_sipush (v := 1000) hx hb dX5_markOf_13 (by decide) ?_
  refine lv_isub hx hb dX5_markOf_16 ?_
  exact z_iretE hC hlocks hw hS hf hr rfl dX5_markOf_17
set_option maxHeartbeats 4000000 in
set_option maxRecDepth 100000 in
theorem m_X7_begin (l : Launch) (E : Ev) {a0 : Nat} {x1 : Int32} {x2 : Int32} (t0 : isR a0) {s0 sz : St} (hf : f_X7_begin a0 x1 x2 s0 = some sz) : MM l E sh2 yX7_begin cX7_begin 4 none (rmd 1) [.ref (E.2.2.1 + a0), .int x1, .int x2] s0 none sz := by
  unfold f_X7_begin at hf
  refine z_enter (by decide +kernel) (Nat.le_of_ble_eq_true rfl) ?_
  intro p e s m args below meth c ls hC hr hlocks hw hS hl
  have hC : Cx p s m args c cX7_begin 4 "FuseBox$Row" E := hC
  obtain ⟨hx, hb, hml, hown, hts, hTB⟩ := id hC
  have hl : lv_has ls 4 [(0, .ref (E.2.2.1 + a0)), (1, .int x1), (2, .int x2)] := hl
  refine lv_aload_n hx hb dX7_begin_0 rfl (lv_at hl 0 rfl) ?_
  refine lv_iload_n hx hb dX7_begin_1 rfl (lv_at hl 1 rfl) ?_
  obtain ⟨s_1, en, hf⟩ := ok_lt hf
  refine pRow_lane hC hw hS t0 wd280 en dX7_begin_2 (fun H locs hw hS => ?_)
  clear en
  refine lv_aload_n hx hb dX7_begin_5 rfl (lv_at hl 0 rfl) ?_
  refine lv_iload_n hx hb dX7_begin_6 rfl (lv_at hl 2 rfl) ?_
  obtain ⟨s_2, en, hf⟩ := ok_lt hf
  refine pRow_size hC hw hS t0 wd281 en dX7_begin_7 (fun H locs hw hS => ?_)
  clear en
  refine lv_iconst (v := 0) hx hb dX7_begin_10 (by decide) ?_
  obtain ⟨v3_3, en, hf⟩ := ok_lt hf
  refine z_nm en ?_
  clear en
  refine lv_istore_n (lv' := [(3, .int v3_3), (0, .ref (E.2.2.1 + a0)), (1, .int x1), (2, .int x2)]) hx hb dX7_begin_11 rfl hl (by decide) rfl (fun ls hl => ?_)
  obtain ⟨r12, hL12, hf⟩ := ok_bind hf
  have X12_0 : ∀ (s_6 : St), s_6 = r12 → ∀ (H : Heap) (locs : List Loc) (ls : Array Slot), lv_has ls 4 [] → World E sh2 s_6 H → va_S E.2.2.2 s.heap H locs → W p l e (rmd 1) s m args below meth c H locs 0 0 (MQ below (QW E sh2 none sz) args s 0 0 E.2.2.2) (F0 m 31 ls []) := by
    intro s_6 er H locs ls hl hw hS
    subst er
    replace hf := ok_un1 hf
    exact z_vretE hC hlocks hw hS hf hr dX7_begin_31
  have L12 : ∀ (n : Nat) (v3_4 : Int32) (s_5 : St), loopF (f_X7_begin_L12 a0) n (v3_4, s_5) = some r12 → ∀ (H : Heap) (locs : List Loc) (ls : Array Slot), lv_has ls 4 [(0, .ref (E.2.2.1 + a0)), (3, .int v3_4)] → World E sh2 s_5 H → va_S E.2.2.2 s.heap H locs → W p l e (rmd 1) s m args below meth c H locs 0 0 (MQ below (QW E sh2 none sz) args s 0 0 E.2.2.2) (F0 m 12 ls []) := by
    intro n
    induction n with
    | zero =>
      intro v3_4 s_5 hf
      exact nz hf
    | succ n ih12 =>
      intro v3_4 s_5 hf H locs ls hl hw hS
      obtain ⟨x12, hf, hi12, he12⟩ := ok_loop hf
      unfold f_X7_begin_L12 at hf
      replace hf := ok_un2 hf
      refine lv_iload_n hx hb dX7_begin_12 rfl (lv_at hl 1 rfl) ?_
      refine lv_bipush (v := 40) hx hb dX7_begin_13 (by decide) ?_
      have hif := ok_if hf
      refine lv_icmp_ge (tgt := 31) hx hb dX7_begin_15 (by decide) (fun hcd => ?_) (fun hcd => ?_)
      · have hf := hif.1 hcd
        clear hif
        cases hf
        exact X12_0 _ (he12 _ rfl) _ _ ls (lv_sub hl [] rfl) hw hS
      · have hf := hif.2 hcd
        clear hif
        refine lv_aload_n hx hb dX7_begin_18 rfl (lv_at hl 0 rfl) ?_
        refine gRow_items hC hw t0 wd282 dX7_begin_19 ?_
        refine lv_iload_n hx hb dX7_begin_22 rfl (lv_at hl 1 rfl) ?_
        refine lv_iconst (v := 0) hx hb dX7_begin_23 (by decide) ?_
        obtain ⟨hin, hf⟩ := ok_chk hf
        obtain ⟨s_7, en, hf⟩ := ok_lt hf
        refine z_iast hC hw hS (sR t0).2 hin en dX7_begin_24 (fun H locs hw hS => ?_)
        clear en
        obtain ⟨v3_8, en, hf⟩ := ok_lt hf
        refine lv_iinc (v := v3_8) (lv' := [(3, .int v3_8), (0, .ref (E.2.2.1 + a0))]) hx hb dX7_begin_25 hl (k := 1) rfl (by rw [en]; rfl) (by decide) rfl (fun ls hl => ?_)
        clear en
        refine lv_goto (tgt := 12) hx hb dX7_begin_28 (by decide) ?_
        cases hf
        exact ih12 _ _ (hi12 _ rfl) _ _ ls (lv_sub hl [1, 0] rfl) hw hS
  exact L12 5000 _ _ hL12 _ _ ls (lv_sub hl [1, 0] rfl) hw hS
set_option maxHeartbeats 4000000 in
set_option maxRecDepth 100000 in
theorem m_X7_end (l : Launch) (E : Ev) {a0 : Nat} (t0 : isR a0) {s0 sz : St} (hf : f_X7_end a0 s0 = some sz) : MM l E sh2 yX7_end cX7_end 1 none (rmd 1) [.ref (E.2.2.1 + a0)] s0 none sz := by
  unfold f_X7_end at hf
  refine z_enter (by decide +kernel) (Nat.le_of_ble_eq_true rfl) ?_
  intro p e s m args below meth c ls hC hr hlocks hw hS hl
  have hC : Cx p s m args c cX7_end 1 "FuseBox$Row" E := hC
  obtain ⟨hx, hb, hml, hown, hts, hTB⟩ := id hC
  have hl : lv_has ls 1 [(0, .ref (E.2.2.1 + a0))] := hl
  refine lv_aload_n hx hb dX7_end_0 rfl (lv_at hl 0 rfl) ?_
  refine lv_iconst (v := -1) hx hb dX7_end_1 (by decide) ?_
  obtain ⟨s_1, en, hf⟩ := ok_lt hf
  refine pRow_size hC hw hS t0 wd281 en dX7_end_2 (fun H locs hw hS => ?_)
  clear en
  exact z_vretE hC hlocks hw hS hf hr dX7_end_5
set_option maxHeartbeats 4000000 in
set_option maxRecDepth 100000 in
theorem m_X7_isMissing (l : Launch) (E : Ev) {a0 : Nat} (t0 : isR a0) {s0 sz : St} {rz : Int32} (hf : f_X7_isMissing a0 s0 = some (rz, sz)) : MM l E sh2 yX7_isMissing cX7_isMissing 1 (some .boolean) (rmd 1) [.ref (E.2.2.1 + a0)] s0 (some (.int rz)) sz := by
  unfold f_X7_isMissing at hf
  refine z_enter (by decide +kernel) (Nat.le_of_ble_eq_true rfl) ?_
  intro p e s m args below meth c ls hC hr hlocks hw hS hl
  have hC : Cx p s m args c cX7_isMissing 1 "FuseBox$Row" E := hC
  obtain ⟨hx, hb, hml, hown, hts, hTB⟩ := id hC
  have hl : lv_has ls 1 [(0, .ref (E.2.2.1 + a0))] := hl
  refine lv_aload_n hx hb dX7_isMissing_0 rfl (lv_at hl 0 rfl) ?_
  refine gRow_size hC hw t0 wd281 dX7_isMissing_1 ?_
  obtain ⟨j12, ej12, hf⟩ := ok_lt hf
  have J12 : ∀ (k_1 : Int32) (s_2 : St), j12 k_1 s_2 = some (rz, sz) → ∀ (H : Heap) (locs : List Loc) (ls : Array Slot), lv_has ls 1 [] → World E sh2 s_2 H → va_S E.2.2.2 s.heap H locs → W p l e (rmd 1) s m args below meth c H locs 0 0 (MQ below (QW E sh2 (some (.int rz)) sz) args s 0 0 E.2.2.2) (F0 m 12 ls [.int k_1]) := by
    intro k_1 s_2 hf H locs ls hl hw hS
    subst ej12
    obtain ⟨hbo, hf⟩ := ok_chk hf
    exact z_iretE hC hlocks hw hS hf hr (narB hbo) dX7_isMissing_12
  clear ej12
  have hif := ok_if hf
  refine lv_if_ge (tgt := 11) hx hb dX7_isMissing_4 (by decide) (fun hcd => ?_) (fun hcd => ?_)
  · have hf := hif.1 hcd
    clear hif
    refine lv_iconst (v := 0) hx hb dX7_isMissing_11 (by decide) ?_
    exact J12 _ _ hf _ _ ls (lv_sub hl [] rfl) hw hS
  · have hf := hif.2 hcd
    clear hif
    refine lv_iconst (v := 1) hx hb dX7_isMissing_7 (by decide) ?_
    refine lv_goto (tgt := 12) hx hb dX7_isMissing_8 (by decide) ?_
    exact J12 _ _ hf _ _ ls (lv_sub hl [] rfl) hw hS
set_option maxHeartbeats 4000000 in
set_option maxRecDepth 100000 in
theorem m_X7_has (l : Launch) (E : Ev) {a0 : Nat} {x1 : Int32} {x2 : Int32} (t0 : isR a0) {s0 sz : St} {rz : Int32} (hf : f_X7_has a0 x1 x2 s0 = some (rz, sz)) : MM l E sh2 yX7_has cX7_has 3 (some .boolean) (rmd 1) [.ref (E.2.2.1 + a0), .int x1, .int x2] s0 (some (.int rz)) sz := by
  unfold f_X7_has at hf
  refine z_enter (by decide +kernel) (Nat.le_of_ble_eq_true rfl) ?_
  intro p e s m args below meth c ls hC hr hlocks hw hS hl
  have hC : Cx p s m args c cX7_has 3 "FuseBox$Row" E := hC
  obtain ⟨hx, hb, hml, hown, hts, hTB⟩ := id hC
  have hl : lv_has ls 3 [(0, .ref (E.2.2.1 + a0)), (1, .int x1), (2, .int x2)] := hl
  refine lv_iload_n hx hb dX7_has_0 rfl (lv_at hl 1 rfl) ?_
  obtain ⟨j31, ej31, hf⟩ := ok_lt hf
  have J31 : ∀ (k_1 : Int32) (s_2 : St), j31 k_1 s_2 = some (rz, sz) → ∀ (H : Heap) (locs : List Loc) (ls : Array Slot), lv_has ls 3 [] → World E sh2 s_2 H → va_S E.2.2.2 s.heap H locs → W p l e (rmd 1) s m args below meth c H locs 0 0 (MQ below (QW E sh2 (some (.int rz)) sz) args s 0 0 E.2.2.2) (F0 m 31 ls [.int k_1]) := by
    intro k_1 s_2 hf H locs ls hl hw hS
    subst ej31
    obtain ⟨hbo, hf⟩ := ok_chk hf
    exact z_iretE hC hlocks hw hS hf hr (narB hbo) dX7_has_31
  clear ej31
  obtain ⟨j30, ej30, hf⟩ := ok_lt hf
  have J30 : ∀ (s_3 : St), j30 s_3 = some (rz, sz) → ∀ (H : Heap) (locs : List Loc) (ls : Array Slot), lv_has ls 3 [] → World E sh2 s_3 H → va_S E.2.2.2 s.heap H locs → W p l e (rmd 1) s m args below meth c H locs 0 0 (MQ below (QW E sh2 (some (.int rz)) sz) args s 0 0 E.2.2.2) (F0 m 30 ls []) := by
    intro s_3 hf H locs ls hl hw hS
    subst ej30
    refine lv_iconst (v := 0) hx hb dX7_has_30 (by decide) ?_
    exact J31 _ _ hf _ _ ls hl hw hS
  clear ej30
  have hif := ok_if hf
  refine lv_if_lt (tgt := 30) hx hb dX7_has_1 (by decide) (fun hcd => ?_) (fun hcd => ?_)
  · have hf := hif.1 hcd
    clear hif
    exact J30 _ hf _ _ ls (lv_sub hl [] rfl) hw hS
  · have hf := hif.2 hcd
    clear hif
    refine lv_iload_n hx hb dX7_has_4 rfl (lv_at hl 2 rfl) ?_
    have hif := ok_if hf
    refine lv_if_lt (tgt := 30) hx hb dX7_has_5 (by decide) (fun hcd => ?_) (fun hcd => ?_)
    · have hf := hif.1 hcd
      clear hif
      exact J30 _ hf _ _ ls (lv_sub hl [] rfl) hw hS
    · have hf := hif.2 hcd
      clear hif
      refine lv_iload_n hx hb dX7_has_8 rfl (lv_at hl 1 rfl) ?_
      refine lv_aload_n hx hb dX7_has_9 rfl (lv_at hl 0 rfl) ?_
      refine gRow_size hC hw t0 wd281 dX7_has_10 ?_
      have hif := ok_if hf
      refine lv_icmp_gt (tgt := 30) hx hb dX7_has_13 (by decide) (fun hcd => ?_) (fun hcd => ?_)
      · have hf := hif.1 hcd
        clear hif
        exact J30 _ hf _ _ ls (lv_sub hl [] rfl) hw hS
      · have hf := hif.2 hcd
        clear hif
        refine lv_iload_n hx hb dX7_has_16 rfl (lv_at hl 2 rfl) ?_
        refine lv_aload_n hx hb dX7_has_17 rfl (lv_at hl 0 rfl) ?_
        refine gRow_size hC hw t0 wd281 dX7_has_18 ?_
        refine lv_iload_n hx hb dX7_has_21 rfl (lv_at hl 1 rfl) ?_
        refine lv_isub hx hb dX7_has_22 ?_
        have hif := ok_if hf
        refine lv_icmp_gt (tgt := 30) hx hb dX7_has_23 (by decide) (fun hcd => ?_) (fun hcd => ?_)
        · have hf := hif.1 hcd
          clear hif
          exact J30 _ hf _ _ ls (lv_sub hl [] rfl) hw hS
        · have hf := hif.2 hcd
          clear hif
          refine lv_iconst (v := 1) hx hb dX7_has_26 (by decide) ?_
          refine lv_goto (tgt := 31) hx hb dX7_has_27 (by decide) ?_
          exact J31 _ _ hf _ _ ls (lv_sub hl [] rfl) hw hS
set_option maxHeartbeats 4000000 in
set_option maxRecDepth 100000 in
theorem m_X7_cut (l : Launch) (E : Ev) {a0 : Nat} {x1 : Int32} (t0 : isR a0) {s0 sz : St} {rz : Int32} (hf : f_X7_cut a0 x1 s0 = some (rz, sz)) : MM l E sh2 yX7_cut cX7_cut 2 (some .int) (rmd 1) [.ref (E.2.2.1 + a0), .int x1] s0 (some (.int rz)) sz := by
  unfold f_X7_cut at hf
  refine z_enter (by decide +kernel) (Nat.le_of_ble_eq_true rfl) ?_
  intro p e s m args below meth c ls hC hr hlocks hw hS hl
  have hC : Cx p s m args c cX7_cut 2 "FuseBox$Row" E := hC
  obtain ⟨hx, hb, hml, hown, hts, hTB⟩ := id hC
  have hl : lv_has ls 2 [(0, .ref (E.2.2.1 + a0)), (1, .int x1)] := hl
  refine lv_aload_n hx hb dX7_cut_0 rfl (lv_at hl 0 rfl) ?_
  refine gRow_lane hC hw t0 wd280 dX7_cut_1 ?_
  have hif := ok_if hf
  by_cases hk0 : (s0 a0 1) = 0
  · have hf := hif.1 hk0
    clear hif
    refine lv_lookup (off := 28) (tgt := 32) hx hb dX7_cut_4 (by decide) (by rw [hk0]; rfl) (by decide) ?_
    refine lv_iload_n hx hb dX7_cut_32 rfl (lv_at hl 1 rfl) ?_
    refine lv_i2b (v := (x1).toInt8.toInt32) hx hb dX7_cut_33 rfl ?_
    exact z_iretE hC hlocks hw hS hf hr rfl dX7_cut_34
  replace hf := hif.2 hk0
  clear hif
  have hif := ok_if hf
  by_cases hk1 : (s0 a0 1) = 1
  · have hf := hif.1 hk1
    clear hif
    refine lv_lookup (off := 31) (tgt := 35) hx hb dX7_cut_4 (by decide) (by rw [hk1]; rfl) (by decide) ?_
    refine lv_iload_n hx hb dX7_cut_35 rfl (lv_at hl 1 rfl) ?_
    refine lv_i2s (v := (x1).toInt16.toInt32) hx hb dX7_cut_36 rfl ?_
    exact z_iretE hC hlocks hw hS hf hr rfl dX7_cut_37
  replace hf := hif.2 hk1
  clear hif
  refine lv_lookup (off := 34) (tgt := 38) hx hb dX7_cut_4 (by decide) (by show Op.lookupswitch.offset [(0, 28), (1, 31)] 34 _ = _; rw [lv_osw hk0 (by decide : (0 : Int32).toInt = 0), lv_osw hk1 (by decide : (1 : Int32).toInt = 1)]; rfl) (by decide) ?_
  refine lv_iload_n hx hb dX7_cut_38 rfl (lv_at hl 1 rfl) ?_
  exact z_iretE hC hlocks hw hS hf hr rfl dX7_cut_39
set_option maxHeartbeats 4000000 in
set_option maxRecDepth 100000 in
theorem m_X10_markOf_15 (l : Launch) (E : Ev) {a1 : Nat} {x2 : Int32} (t1 : isH a1) {s0 sz : St} {rz : Int32} (hf : f_X10_markOf_15 a1 x2 s0 = some (rz, sz)) : MM l E sh2 yX10_markOf cX10_markOf 4 (some .int) (rmd 3) [.ref (E.2.2.1 + 15), .ref (E.2.2.1 + a1), .int x2, .ref (E.2.2.1 + 11)] s0 (some (.int rz)) sz := by
  unfold f_X10_markOf_15 at hf
  refine z_enter (by decide +kernel) (Nat.le_of_ble_eq_true rfl) ?_
  intro p e s m args below meth c ls hC hr hlocks hw hS hl
  have hC : Cx p s m args c cX10_markOf 4 "FuseBox$Wire" E := hC
  obtain ⟨hx, hb, hml, hown, hts, hTB⟩ := id hC
  have hl : lv_has ls 4 [(0, .ref (E.2.2.1 + 15)), (1, .ref (E.2.2.1 + a1)), (2, .int x2), (3, .ref (E.2.2.1 + 11))] := hl
  refine lv_aload_n hx hb dX10_markOf_0 rfl (lv_at hl 3 rfl) ?_
  refine lv_bipush (v := 21) hx hb dX10_markOf_1 (by decide) ?_
  obtain ⟨s_1, hc, hf⟩ := ok_bind hf
  refine z_cV hC hl.1 hw hS (As := [.int (21 : Int32)]) (rest := []) (m_X9_leave l E  hc) rfl rfl gc78 gc5 ⟨Nat.le_of_ble_eq_true rfl, Nat.le_of_ble_eq_true rfl⟩ ⟨Nat.le_of_ble_eq_true rfl, Nat.le_of_ble_eq_true rfl⟩ rfl rfl (Nat.le_of_ble_eq_true rfl) dX10_markOf_3 (fun H locs hw hS => ?_)
  clear hc
  refine lv_aload_n hx hb dX10_markOf_6 rfl (lv_at hl 0 rfl) ?_
  refine lv_aload_n hx hb dX10_markOf_7 rfl (lv_at hl 1 rfl) ?_
  refine lv_iload_n hx hb dX10_markOf_8 rfl (lv_at hl 2 rfl) ?_
  refine lv_aload_n hx hb dX10_markOf_9 rfl (lv_at hl 3 rfl) ?_
  obtain ⟨r_3, s_2, hc, hf⟩ := ok_bd hf
  refine z_cSU hC hl.1 hw hS (As := [.ref (E.2.2.1 + a1), .int x2, .ref (E.2.2.1 + 11)]) (rest := []) (m_X2_markOf_15 l E t1 hc) (ci := 7) (ks := []) rfl rfl gc79 gc10 ⟨Nat.le_of_ble_eq_true rfl, Nat.le_of_ble_eq_true rfl⟩ ⟨Nat.le_of_ble_eq_true rfl, Nat.le_of_ble_eq_true rfl⟩ rfl rfl (Nat.le_of_ble_eq_true rfl) dX10_markOf_10 (fun H locs hw hS => ?_)
  clear hc
  refine lv_aload_n hx hb dX10_markOf_13 rfl (lv_at hl 1 rfl) ?_
  refine gHouse_heat hC hw t1 wd212 dX10_markOf_14 ?_
  refine lv_iload_n hx hb dX10_markOf_17 rfl (lv_at hl 2 rfl) ?_
  obtain ⟨hin, hf⟩ := ok_chk hf
  refine z_iald hC hw (sH t1).2.2.2.1 hin dX10_markOf_18 ?_
  refine lv_iadd hx hb dX10_markOf_19 ?_
  exact z_iretE hC hlocks hw hS hf hr rfl dX10_markOf_20
set_option maxHeartbeats 4000000 in
set_option maxRecDepth 100000 in
theorem m_X8_markOf_15 (l : Launch) (E : Ev) {a1 : Nat} {x2 : Int32} (t1 : isH a1) {s0 sz : St} {rz : Int32} (hf : f_X8_markOf_15 a1 x2 s0 = some (rz, sz)) : MM l E sh2 yX8_markOf cX8_markOf 4 (some .int) (rmd 4) [.ref (E.2.2.1 + 15), .ref (E.2.2.1 + a1), .int x2, .ref (E.2.2.1 + 11)] s0 (some (.int rz)) sz := by
  unfold f_X8_markOf_15 at hf
  refine z_enter (by decide +kernel) (Nat.le_of_ble_eq_true rfl) ?_
  intro p e s m args below meth c ls hC hr hlocks hw hS hl
  have hC : Cx p s m args c cX8_markOf 4 "FuseBox$Slow" E := hC
  obtain ⟨hx, hb, hml, hown, hts, hTB⟩ := id hC
  have hl : lv_has ls 4 [(0, .ref (E.2.2.1 + 15)), (1, .ref (E.2.2.1 + a1)), (2, .int x2), (3, .ref (E.2.2.1 + 11))] := hl
  refine lv_aload_n hx hb dX8_markOf_0 rfl (lv_at hl 3 rfl) ?_
  refine lv_bipush (v := 24) hx hb dX8_markOf_1 (by decide) ?_
  obtain ⟨s_1, hc, hf⟩ := ok_bind hf
  refine z_cV hC hl.1 hw hS (As := [.int (24 : Int32)]) (rest := []) (m_X9_leave l E  hc) rfl rfl gc109 gc5 ⟨Nat.le_of_ble_eq_true rfl, Nat.le_of_ble_eq_true rfl⟩ ⟨Nat.le_of_ble_eq_true rfl, Nat.le_of_ble_eq_true rfl⟩ rfl rfl (Nat.le_of_ble_eq_true rfl) dX8_markOf_3 (fun H locs hw hS => ?_)
  clear hc
  refine lv_iconst (v := 2) hx hb dX8_markOf_6 (by decide) ?_
  refine lv_aload_n hx hb dX8_markOf_7 rfl (lv_at hl 0 rfl) ?_
  refine lv_aload_n hx hb dX8_markOf_8 rfl (lv_at hl 1 rfl) ?_
  refine lv_iload_n hx hb dX8_markOf_9 rfl (lv_at hl 2 rfl) ?_
  refine lv_aload_n hx hb dX8_markOf_10 rfl (lv_at hl 3 rfl) ?_
  obtain ⟨r_3, s_2, hc, hf⟩ := ok_bd hf
  refine z_cSU hC hl.1 hw hS (As := [.ref (E.2.2.1 + a1), .int x2, .ref (E.2.2.1 + 11)]) (rest := [.int (2 : Int32)]) (m_X10_markOf_15 l E t1 hc) (ci := 7) (ks := []) rfl rfl gc110 gc82 ⟨Nat.le_of_ble_eq_true rfl, Nat.le_of_ble_eq_true rfl⟩ ⟨Nat.le_of_ble_eq_true rfl, Nat.le_of_ble_eq_true rfl⟩ rfl rfl (Nat.le_of_ble_eq_true rfl) dX8_markOf_11 (fun H locs hw hS => ?_)
  clear hc
  refine lv_imul hx hb dX8_markOf_14 ?_
  exact z_iretE hC hlocks hw hS hf hr rfl dX8_markOf_15
set_option maxHeartbeats 4000000 in
set_option maxRecDepth 100000 in
theorem m_X10_sizeOf_15 (l : Launch) (E : Ev) {a1 : Nat} {x2 : Int32} (t1 : isH a1) {s0 sz : St} {rz : Int32} (hf : f_X10_sizeOf_15 a1 x2 s0 = some (rz, sz)) : MM l E sh2 yX10_sizeOf cX10_sizeOf 5 (some .int) (rmd 5) [.ref (E.2.2.1 + 15), .ref (E.2.2.1 + a1), .int x2, .ref (E.2.2.1 + 11)] s0 (some (.int rz)) sz := by
  unfold f_X10_sizeOf_15 at hf
  refine z_enter (by decide +kernel) (Nat.le_of_ble_eq_true rfl) ?_
  intro p e s m args below meth c ls hC hr hlocks hw hS hl
  have hC : Cx p s m args c cX10_sizeOf 5 "FuseBox$Wire" E := hC
  obtain ⟨hx, hb, hml, hown, hts, hTB⟩ := id hC
  have hl : lv_has ls 5 [(0, .ref (E.2.2.1 + 15)), (1, .ref (E.2.2.1 + a1)), (2, .int x2), (3, .ref (E.2.2.1 + 11))] := hl
  refine lv_aload_n hx hb dX10_sizeOf_0 rfl (lv_at hl 3 rfl) ?_
  refine lv_bipush (v := 11) hx hb dX10_sizeOf_1 (by decide) ?_
  obtain ⟨s_1, hc, hf⟩ := ok_bind hf
  refine z_cV hC hl.1 hw hS (As := [.int (11 : Int32)]) (rest := []) (m_X9_leave l E  hc) rfl rfl gc78 gc5 ⟨Nat.le_of_ble_eq_true rfl, Nat.le_of_ble_eq_true rfl⟩ ⟨Nat.le_of_ble_eq_true rfl, Nat.le_of_ble_eq_true rfl⟩ rfl rfl (Nat.le_of_ble_eq_true rfl) dX10_sizeOf_3 (fun H locs hw hS => ?_)
  clear hc
  refine lv_aload_n hx hb dX10_sizeOf_6 rfl (lv_at hl 0 rfl) ?_
  refine lv_aload_n hx hb dX10_sizeOf_7 rfl (lv_at hl 1 rfl) ?_
  refine lv_iload_n hx hb dX10_sizeOf_8 rfl (lv_at hl 2 rfl) ?_
  refine lv_aload_n hx hb dX10_sizeOf_9 rfl (lv_at hl 3 rfl) ?_
  obtain ⟨r_3, s_2, hc, hf⟩ := ok_bd hf
  refine z_cSU hC hl.1 hw hS (As := [.ref (E.2.2.1 + a1), .int x2, .ref (E.2.2.1 + 11)]) (rest := []) (m_X2_sizeOf_15 l E t1 hc) (ci := 7) (ks := []) rfl rfl gc111 gc8 ⟨Nat.le_of_ble_eq_true rfl, Nat.le_of_ble_eq_true rfl⟩ ⟨Nat.le_of_ble_eq_true rfl, Nat.le_of_ble_eq_true rfl⟩ rfl rfl (Nat.le_of_ble_eq_true rfl) dX10_sizeOf_10 (fun H locs hw hS => ?_)
  clear hc
  refine lv_istore (lv' := [(4, .int r_3), (0, .ref (E.2.2.1 + 15)), (1, .ref (E.2.2.1 + a1)), (2, .int x2), (3, .ref (E.2.2.1 + 11))]) hx hb dX10_sizeOf_13 hl (by decide) rfl (fun ls hl => ?_)
  refine lv_iload hx hb dX10_sizeOf_15 (lv_at hl 0 rfl) ?_
  refine lv_aload_n hx hb dX10_sizeOf_17 rfl (lv_at hl 1 rfl) ?_
  refine lv_aload_n hx hb dX10_sizeOf_18 rfl (lv_at hl 2 rfl) ?_
  refine lv_iload_n hx hb dX10_sizeOf_19 rfl (lv_at hl 3 rfl) ?_
  refine lv_aload_n hx hb dX10_sizeOf_20 rfl (lv_at hl 4 rfl) ?_
  obtain ⟨r_5, s_4, hc, hf⟩ := ok_bd hf
  refine z_cU hC hl.1 hw hS (As := [.ref (E.2.2.1 + a1), .int x2, .ref (E.2.2.1 + 11)]) (rest := [.int r_3]) (m_X8_markOf_15 l E t1 hc) (ci := 7) (ks := []) rfl rfl (C := "FuseBox$Slow") (va_cwO 3 hts gc112 rfl rfl rfl wd217 gc113 ⟨Nat.le_of_ble_eq_true rfl, Nat.le_of_ble_eq_true rfl⟩) ⟨Nat.le_of_ble_eq_true rfl, Nat.le_of_ble_eq_true rfl⟩ rfl rfl (Nat.le_of_ble_eq_true rfl) dX10_sizeOf_21 (fun H locs hw hS => ?_)
  clear hc
  refine lv_iadd hx hb dX10_sizeOf_24 ?_
  exact z_iretE hC hlocks hw hS hf hr rfl dX10_sizeOf_25
set_option maxHeartbeats 4000000 in
set_option maxRecDepth 100000 in
theorem m_X8_sizeOf_15 (l : Launch) (E : Ev) {a1 : Nat} {x2 : Int32} (t1 : isH a1) {s0 sz : St} {rz : Int32} (hf : f_X8_sizeOf_15 a1 x2 s0 = some (rz, sz)) : MM l E sh2 yX8_sizeOf cX8_sizeOf 4 (some .int) (rmd 6) [.ref (E.2.2.1 + 15), .ref (E.2.2.1 + a1), .int x2, .ref (E.2.2.1 + 11)] s0 (some (.int rz)) sz := by
  unfold f_X8_sizeOf_15 at hf
  refine z_enter (by decide +kernel) (Nat.le_of_ble_eq_true rfl) ?_
  intro p e s m args below meth c ls hC hr hlocks hw hS hl
  have hC : Cx p s m args c cX8_sizeOf 4 "FuseBox$Slow" E := hC
  obtain ⟨hx, hb, hml, hown, hts, hTB⟩ := id hC
  have hl : lv_has ls 4 [(0, .ref (E.2.2.1 + 15)), (1, .ref (E.2.2.1 + a1)), (2, .int x2), (3, .ref (E.2.2.1 + 11))] := hl
  refine lv_aload_n hx hb dX8_sizeOf_0 rfl (lv_at hl 3 rfl) ?_
  refine lv_bipush (v := 12) hx hb dX8_sizeOf_1 (by decide) ?_
  obtain ⟨s_1, hc, hf⟩ := ok_bind hf
  refine z_cV hC hl.1 hw hS (As := [.int (12 : Int32)]) (rest := []) (m_X9_leave l E  hc) rfl rfl gc109 gc5 ⟨Nat.le_of_ble_eq_true rfl, Nat.le_of_ble_eq_true rfl⟩ ⟨Nat.le_of_ble_eq_true rfl, Nat.le_of_ble_eq_true rfl⟩ rfl rfl (Nat.le_of_ble_eq_true rfl) dX8_sizeOf_3 (fun H locs hw hS => ?_)
  clear hc
  refine lv_aload_n hx hb dX8_sizeOf_6 rfl (lv_at hl 0 rfl) ?_
  refine lv_aload_n hx hb dX8_sizeOf_7 rfl (lv_at hl 1 rfl) ?_
  refine lv_iload_n hx hb dX8_sizeOf_8 rfl (lv_at hl 2 rfl) ?_
  refine lv_aload_n hx hb dX8_sizeOf_9 rfl (lv_at hl 3 rfl) ?_
  obtain ⟨r_3, s_2, hc, hf⟩ := ok_bd hf
  refine z_cSU hC hl.1 hw hS (As := [.ref (E.2.2.1 + a1), .int x2, .ref (E.2.2.1 + 11)]) (rest := []) (m_X10_sizeOf_15 l E t1 hc) (ci := 7) (ks := []) rfl rfl gc114 gc115 ⟨Nat.le_of_ble_eq_true rfl, Nat.le_of_ble_eq_true rfl⟩ ⟨Nat.le_of_ble_eq_true rfl, Nat.le_of_ble_eq_true rfl⟩ rfl rfl (Nat.le_of_ble_eq_true rfl) dX8_sizeOf_10 (fun H locs hw hS => ?_)
  clear hc
  refine lv_ineg hx hb dX8_sizeOf_13 ?_
  exact z_iretE hC hlocks hw hS hf hr rfl dX8_sizeOf_14
set_option maxHeartbeats 4000000 in
set_option maxRecDepth 100000 in
theorem m_X9_empty (l : Launch) (E : Ev)   {s0 sz : St} (hf : f_X9_empty s0 = some sz) : MM l E sh2 yX9_empty cX9_empty 1 none (rmd 1) [.ref (E.2.2.1 + 11)] s0 none sz := by
  unfold f_X9_empty at hf
  refine z_enter (by decide +kernel) (Nat.le_of_ble_eq_true rfl) ?_
  intro p e s m args below meth c ls hC hr hlocks hw hS hl
  have hC : Cx p s m args c cX9_empty 1 "FuseBox$Trace" E := hC
  obtain ⟨hx, hb, hml, hown, hts, hTB⟩ := id hC
  have hl : lv_has ls 1 [(0, .ref (E.2.2.1 + 11))] := hl
  refine lv_aload_n hx hb dX9_empty_0 rfl (lv_at hl 0 rfl) ?_
  refine lv_iconst (v := 0) hx hb dX9_empty_1 (by decide) ?_
  obtain ⟨s_1, en, hf⟩ := ok_lt hf
  refine pTrace_size hC hw hS wd10 en dX9_empty_2 (fun H locs hw hS => ?_)
  clear en
  exact z_vretE hC hlocks hw hS hf hr dX9_empty_5
set_option maxHeartbeats 4000000 in
set_option maxRecDepth 100000 in
theorem m_X10_heatBy_15 (l : Launch) (E : Ev) {x1 : Int32}  {s0 sz : St} {rz : Int32} (hf : f_X10_heatBy_15 x1 s0 = some (rz, sz)) : MM l E sh2 yX10_heatBy cX10_heatBy 2 (some .int) (rmd 1) [.ref (E.2.2.1 + 15), .int x1] s0 (some (.int rz)) sz := by
  unfold f_X10_heatBy_15 at hf
  refine z_enter (by decide +kernel) (Nat.le_of_ble_eq_true rfl) ?_
  intro p e s m args below meth c ls hC hr hlocks hw hS hl
  have hC : Cx p s m args c cX10_heatBy 2 "FuseBox$Wire" E := hC
  obtain ⟨hx, hb, hml, hown, hts, hTB⟩ := id hC
  have hl : lv_has ls 2 [(0, .ref (E.2.2.1 + 15)), (1, .int x1)] := hl
  refine lv_iload_n hx hb dX10_heatBy_0 rfl (lv_at hl 1 rfl) ?_
  exact z_iretE hC hlocks hw hS hf hr rfl dX10_heatBy_1
set_option maxHeartbeats 4000000 in
set_option maxRecDepth 100000 in
theorem m_X10_markOf_14 (l : Launch) (E : Ev) {a1 : Nat} {x2 : Int32} (t1 : isH a1) {s0 sz : St} {rz : Int32} (hf : f_X10_markOf_14 a1 x2 s0 = some (rz, sz)) : MM l E sh2 yX10_markOf cX10_markOf 4 (some .int) (rmd 3) [.ref (E.2.2.1 + 14), .ref (E.2.2.1 + a1), .int x2, .ref (E.2.2.1 + 11)] s0 (some (.int rz)) sz := by
  unfold f_X10_markOf_14 at hf
  refine z_enter (by decide +kernel) (Nat.le_of_ble_eq_true rfl) ?_
  intro p e s m args below meth c ls hC hr hlocks hw hS hl
  have hC : Cx p s m args c cX10_markOf 4 "FuseBox$Wire" E := hC
  obtain ⟨hx, hb, hml, hown, hts, hTB⟩ := id hC
  have hl : lv_has ls 4 [(0, .ref (E.2.2.1 + 14)), (1, .ref (E.2.2.1 + a1)), (2, .int x2), (3, .ref (E.2.2.1 + 11))] := hl
  refine lv_aload_n hx hb dX10_markOf_0 rfl (lv_at hl 3 rfl) ?_
  refine lv_bipush (v := 21) hx hb dX10_markOf_1 (by decide) ?_
  obtain ⟨s_1, hc, hf⟩ := ok_bind hf
  refine z_cV hC hl.1 hw hS (As := [.int (21 : Int32)]) (rest := []) (m_X9_leave l E  hc) rfl rfl gc78 gc5 ⟨Nat.le_of_ble_eq_true rfl, Nat.le_of_ble_eq_true rfl⟩ ⟨Nat.le_of_ble_eq_true rfl, Nat.le_of_ble_eq_true rfl⟩ rfl rfl (Nat.le_of_ble_eq_true rfl) dX10_markOf_3 (fun H locs hw hS => ?_)
  clear hc
  refine lv_aload_n hx hb dX10_markOf_6 rfl (lv_at hl 0 rfl) ?_
  refine lv_aload_n hx hb dX10_markOf_7 rfl (lv_at hl 1 rfl) ?_
  refine lv_iload_n hx hb dX10_markOf_8 rfl (lv_at hl 2 rfl) ?_
  refine lv_aload_n hx hb dX10_markOf_9 rfl (lv_at hl 3 rfl) ?_
  obtain ⟨r_3, s_2, hc, hf⟩ := ok_bd hf
  refine z_cSU hC hl.1 hw hS (As := [.ref (E.2.2.1 + a1), .int x2, .ref (E.2.2.1 + 11)]) (rest := []) (m_X2_markOf_14 l E t1 hc) (ci := 9) (ks := []) rfl rfl gc79 gc10 ⟨Nat.le_of_ble_eq_true rfl, Nat.le_of_ble_eq_true rfl⟩ ⟨Nat.le_of_ble_eq_true rfl, Nat.le_of_ble_eq_true rfl⟩ rfl rfl (Nat.le_of_ble_eq_true rfl) dX10_markOf_10 (fun H locs hw hS => ?_)
  clear hc
  refine lv_aload_n hx hb dX10_markOf_13 rfl (lv_at hl 1 rfl) ?_
  refine gHouse_heat hC hw t1 wd212 dX10_markOf_14 ?_
  refine lv_iload_n hx hb dX10_markOf_17 rfl (lv_at hl 2 rfl) ?_
  obtain ⟨hin, hf⟩ := ok_chk hf
  refine z_iald hC hw (sH t1).2.2.2.1 hin dX10_markOf_18 ?_
  refine lv_iadd hx hb dX10_markOf_19 ?_
  exact z_iretE hC hlocks hw hS hf hr rfl dX10_markOf_20
set_option maxHeartbeats 4000000 in
set_option maxRecDepth 100000 in
theorem m_X10_sizeOf_14 (l : Launch) (E : Ev) {a1 : Nat} {x2 : Int32} (t1 : isH a1) {s0 sz : St} {rz : Int32} (hf : f_X10_sizeOf_14 a1 x2 s0 = some (rz, sz)) : MM l E sh2 yX10_sizeOf cX10_sizeOf 5 (some .int) (rmd 4) [.ref (E.2.2.1 + 14), .ref (E.2.2.1 + a1), .int x2, .ref (E.2.2.1 + 11)] s0 (some (.int rz)) sz := by
  unfold f_X10_sizeOf_14 at hf
  refine z_enter (by decide +kernel) (Nat.le_of_ble_eq_true rfl) ?_
  intro p e s m args below meth c ls hC hr hlocks hw hS hl
  have hC : Cx p s m args c cX10_sizeOf 5 "FuseBox$Wire" E := hC
  obtain ⟨hx, hb, hml, hown, hts, hTB⟩ := id hC
  have hl : lv_has ls 5 [(0, .ref (E.2.2.1 + 14)), (1, .ref (E.2.2.1 + a1)), (2, .int x2), (3, .ref (E.2.2.1 + 11))] := hl
  refine lv_aload_n hx hb dX10_sizeOf_0 rfl (lv_at hl 3 rfl) ?_
  refine lv_bipush (v := 11) hx hb dX10_sizeOf_1 (by decide) ?_
  obtain ⟨s_1, hc, hf⟩ := ok_bind hf
  refine z_cV hC hl.1 hw hS (As := [.int (11 : Int32)]) (rest := []) (m_X9_leave l E  hc) rfl rfl gc78 gc5 ⟨Nat.le_of_ble_eq_true rfl, Nat.le_of_ble_eq_true rfl⟩ ⟨Nat.le_of_ble_eq_true rfl, Nat.le_of_ble_eq_true rfl⟩ rfl rfl (Nat.le_of_ble_eq_true rfl) dX10_sizeOf_3 (fun H locs hw hS => ?_)
  clear hc
  refine lv_aload_n hx hb dX10_sizeOf_6 rfl (lv_at hl 0 rfl) ?_
  refine lv_aload_n hx hb dX10_sizeOf_7 rfl (lv_at hl 1 rfl) ?_
  refine lv_iload_n hx hb dX10_sizeOf_8 rfl (lv_at hl 2 rfl) ?_
  refine lv_aload_n hx hb dX10_sizeOf_9 rfl (lv_at hl 3 rfl) ?_
  obtain ⟨r_3, s_2, hc, hf⟩ := ok_bd hf
  refine z_cSU hC hl.1 hw hS (As := [.ref (E.2.2.1 + a1), .int x2, .ref (E.2.2.1 + 11)]) (rest := []) (m_X2_sizeOf_14 l E t1 hc) (ci := 9) (ks := []) rfl rfl gc111 gc8 ⟨Nat.le_of_ble_eq_true rfl, Nat.le_of_ble_eq_true rfl⟩ ⟨Nat.le_of_ble_eq_true rfl, Nat.le_of_ble_eq_true rfl⟩ rfl rfl (Nat.le_of_ble_eq_true rfl) dX10_sizeOf_10 (fun H locs hw hS => ?_)
  clear hc
  refine lv_istore (lv' := [(4, .int r_3), (0, .ref (E.2.2.1 + 14)), (1, .ref (E.2.2.1 + a1)), (2, .int x2), (3, .ref (E.2.2.1 + 11))]) hx hb dX10_sizeOf_13 hl (by decide) rfl (fun ls hl => ?_)
  refine lv_iload hx hb dX10_sizeOf_15 (lv_at hl 0 rfl) ?_
  refine lv_aload_n hx hb dX10_sizeOf_17 rfl (lv_at hl 1 rfl) ?_
  refine lv_aload_n hx hb dX10_sizeOf_18 rfl (lv_at hl 2 rfl) ?_
  refine lv_iload_n hx hb dX10_sizeOf_19 rfl (lv_at hl 3 rfl) ?_
  refine lv_aload_n hx hb dX10_sizeOf_20 rfl (lv_at hl 4 rfl) ?_
  obtain ⟨r_5, s_4, hc, hf⟩ := ok_bd hf
  refine z_cV hC hl.1 hw hS (As := [.ref (E.2.2.1 + a1), .int x2, .ref (E.2.2.1 + 11)]) (rest := [.int r_3]) (m_X10_markOf_14 l E t1 hc) (ci := 9) (ks := []) rfl rfl gc116 gc117 ⟨Nat.le_of_ble_eq_true rfl, Nat.le_of_ble_eq_true rfl⟩ ⟨Nat.le_of_ble_eq_true rfl, Nat.le_of_ble_eq_true rfl⟩ rfl rfl (Nat.le_of_ble_eq_true rfl) dX10_sizeOf_21 (fun H locs hw hS => ?_)
  clear hc
  refine lv_iadd hx hb dX10_sizeOf_24 ?_
  exact z_iretE hC hlocks hw hS hf hr rfl dX10_sizeOf_25
set_option maxHeartbeats 4000000 in
set_option maxRecDepth 100000 in
theorem m_X10_sizeOf_16 (l : Launch) (E : Ev) {a1 : Nat} {x2 : Int32} (t1 : isH a1) {s0 sz : St} {rz : Int32} (hf : f_X10_sizeOf_16 a1 x2 s0 = some (rz, sz)) : MM l E sh2 yX10_sizeOf cX10_sizeOf 5 (some .int) (rmd 5) [.ref (E.2.2.1 + 16), .ref (E.2.2.1 + a1), .int x2, .ref (E.2.2.1 + 11)] s0 (some (.int rz)) sz := by
  unfold f_X10_sizeOf_16 at hf
  refine z_enter (by decide +kernel) (Nat.le_of_ble_eq_true rfl) ?_
  intro p e s m args below meth c ls hC hr hlocks hw hS hl
  have hC : Cx p s m args c cX10_sizeOf 5 "FuseBox$Wire" E := hC
  obtain ⟨hx, hb, hml, hown, hts, hTB⟩ := id hC
  have hl : lv_has ls 5 [(0, .ref (E.2.2.1 + 16)), (1, .ref (E.2.2.1 + a1)), (2, .int x2), (3, .ref (E.2.2.1 + 11))] := hl
  refine lv_aload_n hx hb dX10_sizeOf_0 rfl (lv_at hl 3 rfl) ?_
  refine lv_bipush (v := 11) hx hb dX10_sizeOf_1 (by decide) ?_
  obtain ⟨s_1, hc, hf⟩ := ok_bind hf
  refine z_cV hC hl.1 hw hS (As := [.int (11 : Int32)]) (rest := []) (m_X9_leave l E  hc) rfl rfl gc78 gc5 ⟨Nat.le_of_ble_eq_true rfl, Nat.le_of_ble_eq_true rfl⟩ ⟨Nat.le_of_ble_eq_true rfl, Nat.le_of_ble_eq_true rfl⟩ rfl rfl (Nat.le_of_ble_eq_true rfl) dX10_sizeOf_3 (fun H locs hw hS => ?_)
  clear hc
  refine lv_aload_n hx hb dX10_sizeOf_6 rfl (lv_at hl 0 rfl) ?_
  refine lv_aload_n hx hb dX10_sizeOf_7 rfl (lv_at hl 1 rfl) ?_
  refine lv_iload_n hx hb dX10_sizeOf_8 rfl (lv_at hl 2 rfl) ?_
  refine lv_aload_n hx hb dX10_sizeOf_9 rfl (lv_at hl 3 rfl) ?_
  obtain ⟨r_3, s_2, hc, hf⟩ := ok_bd hf
  refine z_cSU hC hl.1 hw hS (As := [.ref (E.2.2.1 + a1), .int x2, .ref (E.2.2.1 + 11)]) (rest := []) (m_X2_sizeOf_16 l E t1 hc) (ci := 4) (ks := []) rfl rfl gc111 gc8 ⟨Nat.le_of_ble_eq_true rfl, Nat.le_of_ble_eq_true rfl⟩ ⟨Nat.le_of_ble_eq_true rfl, Nat.le_of_ble_eq_true rfl⟩ rfl rfl (Nat.le_of_ble_eq_true rfl) dX10_sizeOf_10 (fun H locs hw hS => ?_)
  clear hc
  refine lv_istore (lv' := [(4, .int r_3), (0, .ref (E.2.2.1 + 16)), (1, .ref (E.2.2.1 + a1)), (2, .int x2), (3, .ref (E.2.2.1 + 11))]) hx hb dX10_sizeOf_13 hl (by decide) rfl (fun ls hl => ?_)
  refine lv_iload hx hb dX10_sizeOf_15 (lv_at hl 0 rfl) ?_
  refine lv_aload_n hx hb dX10_sizeOf_17 rfl (lv_at hl 1 rfl) ?_
  refine lv_aload_n hx hb dX10_sizeOf_18 rfl (lv_at hl 2 rfl) ?_
  refine lv_iload_n hx hb dX10_sizeOf_19 rfl (lv_at hl 3 rfl) ?_
  refine lv_aload_n hx hb dX10_sizeOf_20 rfl (lv_at hl 4 rfl) ?_
  obtain ⟨r_5, s_4, hc, hf⟩ := ok_bd hf
  refine z_cU hC hl.1 hw hS (As := [.ref (E.2.2.1 + a1), .int x2, .ref (E.2.2.1 + 11)]) (rest := [.int r_3]) (m_X5_markOf_16 l E t1 hc) (ci := 4) (ks := []) rfl rfl (C := "FuseBox$Quick") (va_cwO 3 hts gc118 rfl rfl rfl wd217 gc113 ⟨Nat.le_of_ble_eq_true rfl, Nat.le_of_ble_eq_true rfl⟩) ⟨Nat.le_of_ble_eq_true rfl, Nat.le_of_ble_eq_true rfl⟩ rfl rfl (Nat.le_of_ble_eq_true rfl) dX10_sizeOf_21 (fun H locs hw hS => ?_)
  clear hc
  refine lv_iadd hx hb dX10_sizeOf_24 ?_
  exact z_iretE hC hlocks hw hS hf hr rfl dX10_sizeOf_25
end
