section
-- ===== PART A: goes FIRST, ahead of the names: the tables' words, and 'selects' of the private methods out of them =====
/-- a private method of a class that the tables say can be made, by its rows of tables_1 -/
def lw_okq (q : MethodName × Nat) : Prop := (q.1.cls ≠ "java/lang/invoke/MethodHandle" ∧ q.1.cls ≠ "java/lang/invoke/VarHandle") ∧ Cond.instantiable q.1.cls q.2 ∈ tables_1 ∧ Cond.privateMethod q.1 ∈ tables_1 ∧ Cond.instanceMethod q.1 ∈ tables_1
theorem lw_p0 : lw_okq (⟨"FuseBox", "found", "(I)I"⟩, 12) := ⟨⟨by decide +kernel, by decide +kernel⟩, List.mem_of_getElem? (i := 18) (by decide +kernel), List.mem_of_getElem? (i := 283) (by decide +kernel), List.mem_of_getElem? (i := 284) (by decide +kernel)⟩
theorem lw_p1 : lw_okq (⟨"FuseBox", "fine", "(I)I"⟩, 12) := ⟨⟨by decide +kernel, by decide +kernel⟩, List.mem_of_getElem? (i := 18) (by decide +kernel), List.mem_of_getElem? (i := 292) (by decide +kernel), List.mem_of_getElem? (i := 293) (by decide +kernel)⟩
theorem lw_p2 : lw_okq (⟨"FuseBox$Reader", "readToken", "()V"⟩, 7) := ⟨⟨by decide +kernel, by decide +kernel⟩, List.mem_of_getElem? (i := 28) (by decide +kernel), List.mem_of_getElem? (i := 348) (by decide +kernel), List.mem_of_getElem? (i := 349) (by decide +kernel)⟩
theorem lw_p3 : lw_okq (⟨"FuseBox$Reader", "isFigure", "(I)Z"⟩, 7) := ⟨⟨by decide +kernel, by decide +kernel⟩, List.mem_of_getElem? (i := 28) (by decide +kernel), List.mem_of_getElem? (i := 352) (by decide +kernel), List.mem_of_getElem? (i := 353) (by decide +kernel)⟩
theorem lw_p4 : lw_okq (⟨"FuseBox$Reader", "readNumber", "()V"⟩, 7) := ⟨⟨by decide +kernel, by decide +kernel⟩, List.mem_of_getElem? (i := 28) (by decide +kernel), List.mem_of_getElem? (i := 356) (by decide +kernel), List.mem_of_getElem? (i := 357) (by decide +kernel)⟩
theorem lw_p5 : lw_okq (⟨"FuseBox$Reader", "readLaw", "(LFuseBox$House;)V"⟩, 7) := ⟨⟨by decide +kernel, by decide +kernel⟩, List.mem_of_getElem? (i := 28) (by decide +kernel), List.mem_of_getElem? (i := 360) (by decide +kernel), List.mem_of_getElem? (i := 361) (by decide +kernel)⟩
theorem lw_p6 : lw_okq (⟨"FuseBox$Reader", "take", "(I)V"⟩, 7) := ⟨⟨by decide +kernel, by decide +kernel⟩, List.mem_of_getElem? (i := 28) (by decide +kernel), List.mem_of_getElem? (i := 364) (by decide +kernel), List.mem_of_getElem? (i := 365) (by decide +kernel)⟩
theorem lw_p7 : lw_okq (⟨"FuseBox$Reader", "fail", "(I)V"⟩, 7) := ⟨⟨by decide +kernel, by decide +kernel⟩, List.mem_of_getElem? (i := 28) (by decide +kernel), List.mem_of_getElem? (i := 368) (by decide +kernel), List.mem_of_getElem? (i := 369) (by decide +kernel)⟩
theorem lw_p8 : lw_okq (⟨"FuseBox$Reader", "takeNumber", "(II)I"⟩, 7) := ⟨⟨by decide +kernel, by decide +kernel⟩, List.mem_of_getElem? (i := 28) (by decide +kernel), List.mem_of_getElem? (i := 372) (by decide +kernel), List.mem_of_getElem? (i := 373) (by decide +kernel)⟩
theorem lw_p9 : lw_okq (⟨"FuseBox$Reader", "readLine", "(LFuseBox$House;)V"⟩, 7) := ⟨⟨by decide +kernel, by decide +kernel⟩, List.mem_of_getElem? (i := 28) (by decide +kernel), List.mem_of_getElem? (i := 376) (by decide +kernel), List.mem_of_getElem? (i := 377) (by decide +kernel)⟩
theorem lw_p10 : lw_okq (⟨"FuseBox$Reader", "readThing", "(LFuseBox$House;)V"⟩, 7) := ⟨⟨by decide +kernel, by decide +kernel⟩, List.mem_of_getElem? (i := 28) (by decide +kernel), List.mem_of_getElem? (i := 387) (by decide +kernel), List.mem_of_getElem? (i := 388) (by decide +kernel)⟩
theorem lw_p11 : lw_okq (⟨"FuseBox", "forgetActs", "()V"⟩, 12) := ⟨⟨by decide +kernel, by decide +kernel⟩, List.mem_of_getElem? (i := 18) (by decide +kernel), List.mem_of_getElem? (i := 401) (by decide +kernel), List.mem_of_getElem? (i := 402) (by decide +kernel)⟩
theorem lw_p12 : lw_okq (⟨"FuseBox", "noHouse", "()Z"⟩, 12) := ⟨⟨by decide +kernel, by decide +kernel⟩, List.mem_of_getElem? (i := 18) (by decide +kernel), List.mem_of_getElem? (i := 413) (by decide +kernel), List.mem_of_getElem? (i := 414) (by decide +kernel)⟩
theorem lw_p13 : lw_okq (⟨"FuseBox", "keepAct", "()V"⟩, 12) := ⟨⟨by decide +kernel, by decide +kernel⟩, List.mem_of_getElem? (i := 18) (by decide +kernel), List.mem_of_getElem? (i := 418) (by decide +kernel), List.mem_of_getElem? (i := 419) (by decide +kernel)⟩
theorem lw_p14 : lw_okq (⟨"FuseBox$House", "passLine", "(II)V"⟩, 15) := ⟨⟨by decide +kernel, by decide +kernel⟩, List.mem_of_getElem? (i := 145) (by decide +kernel), List.mem_of_getElem? (i := 442) (by decide +kernel), List.mem_of_getElem? (i := 443) (by decide +kernel)⟩
theorem lw_p15 : lw_okq (⟨"FuseBox", "noThing", "(I)Z"⟩, 12) := ⟨⟨by decide +kernel, by decide +kernel⟩, List.mem_of_getElem? (i := 18) (by decide +kernel), List.mem_of_getElem? (i := 515) (by decide +kernel), List.mem_of_getElem? (i := 516) (by decide +kernel)⟩
def lw_privs_1 : List (MethodName × Nat) := [(⟨"FuseBox", "found", "(I)I"⟩, 12), (⟨"FuseBox", "fine", "(I)I"⟩, 12), (⟨"FuseBox$Reader", "readToken", "()V"⟩, 7), (⟨"FuseBox$Reader", "isFigure", "(I)Z"⟩, 7), (⟨"FuseBox$Reader", "readNumber", "()V"⟩, 7), (⟨"FuseBox$Reader", "readLaw", "(LFuseBox$House;)V"⟩, 7), (⟨"FuseBox$Reader", "take", "(I)V"⟩, 7), (⟨"FuseBox$Reader", "fail", "(I)V"⟩, 7), (⟨"FuseBox$Reader", "takeNumber", "(II)I"⟩, 7), (⟨"FuseBox$Reader", "readLine", "(LFuseBox$House;)V"⟩, 7), (⟨"FuseBox$Reader", "readThing", "(LFuseBox$House;)V"⟩, 7), (⟨"FuseBox", "forgetActs", "()V"⟩, 12), (⟨"FuseBox", "noHouse", "()Z"⟩, 12), (⟨"FuseBox", "keepAct", "()V"⟩, 12), (⟨"FuseBox$House", "passLine", "(II)V"⟩, 15), (⟨"FuseBox", "noThing", "(I)Z"⟩, 12)]
theorem lw_r1 : ∀ q ∈ lw_privs_1, lw_okq q := List.forall_mem_cons.mpr ⟨lw_p0, List.forall_mem_cons.mpr ⟨lw_p1, List.forall_mem_cons.mpr ⟨lw_p2, List.forall_mem_cons.mpr ⟨lw_p3, List.forall_mem_cons.mpr ⟨lw_p4, List.forall_mem_cons.mpr ⟨lw_p5, List.forall_mem_cons.mpr ⟨lw_p6, List.forall_mem_cons.mpr ⟨lw_p7, List.forall_mem_cons.mpr ⟨lw_p8, List.forall_mem_cons.mpr ⟨lw_p9, List.forall_mem_cons.mpr ⟨lw_p10, List.forall_mem_cons.mpr ⟨lw_p11, List.forall_mem_cons.mpr ⟨lw_p12, List.forall_mem_cons.mpr ⟨lw_p13, List.forall_mem_cons.mpr ⟨lw_p14, List.forall_mem_cons.mpr ⟨lw_p15, fun _ h => absurd h List.not_mem_nil⟩⟩⟩⟩⟩⟩⟩⟩⟩⟩⟩⟩⟩⟩⟩⟩
theorem lw_p16 : lw_okq (⟨"FuseBox", "noLine", "(I)Z"⟩, 12) := ⟨⟨by decide +kernel, by decide +kernel⟩, List.mem_of_getElem? (i := 18) (by decide +kernel), List.mem_of_getElem? (i := 532) (by decide +kernel), List.mem_of_getElem? (i := 533) (by decide +kernel)⟩
theorem lw_p17 : lw_okq (⟨"FuseBox", "foretell", "(I)V"⟩, 12) := ⟨⟨by decide +kernel, by decide +kernel⟩, List.mem_of_getElem? (i := 18) (by decide +kernel), List.mem_of_getElem? (i := 583) (by decide +kernel), List.mem_of_getElem? (i := 584) (by decide +kernel)⟩
theorem lw_p18 : lw_okq (⟨"FuseBox", "runsWithout", "(III)Z"⟩, 12) := ⟨⟨by decide +kernel, by decide +kernel⟩, List.mem_of_getElem? (i := 18) (by decide +kernel), List.mem_of_getElem? (i := 610) (by decide +kernel), List.mem_of_getElem? (i := 611) (by decide +kernel)⟩
theorem lw_p19 : lw_okq (⟨"FuseBox$Plugging", "foretellLine", "(I)V"⟩, 7) := ⟨⟨by decide +kernel, by decide +kernel⟩, List.mem_of_getElem? (i := 61) (by decide +kernel), List.mem_of_getElem? (i := 622) (by decide +kernel), List.mem_of_getElem? (i := 623) (by decide +kernel)⟩
theorem lw_p20 : lw_okq (⟨"FuseBox$Plugging", "plugFrom", "(I)V"⟩, 7) := ⟨⟨by decide +kernel, by decide +kernel⟩, List.mem_of_getElem? (i := 61) (by decide +kernel), List.mem_of_getElem? (i := 634) (by decide +kernel), List.mem_of_getElem? (i := 635) (by decide +kernel)⟩
theorem lw_p21 : lw_okq (⟨"FuseBox$Plugging", "weigh", "()V"⟩, 7) := ⟨⟨by decide +kernel, by decide +kernel⟩, List.mem_of_getElem? (i := 61) (by decide +kernel), List.mem_of_getElem? (i := 638) (by decide +kernel), List.mem_of_getElem? (i := 639) (by decide +kernel)⟩
theorem lw_p22 : lw_okq (⟨"FuseBox$Plugging", "usedThen", "()I"⟩, 7) := ⟨⟨by decide +kernel, by decide +kernel⟩, List.mem_of_getElem? (i := 61) (by decide +kernel), List.mem_of_getElem? (i := 642) (by decide +kernel), List.mem_of_getElem? (i := 643) (by decide +kernel)⟩
theorem lw_p23 : lw_okq (⟨"FuseBox$Plugging", "liveMinutes", "(I)I"⟩, 7) := ⟨⟨by decide +kernel, by decide +kernel⟩, List.mem_of_getElem? (i := 61) (by decide +kernel), List.mem_of_getElem? (i := 646) (by decide +kernel), List.mem_of_getElem? (i := 647) (by decide +kernel)⟩
theorem lw_p24 : lw_okq (⟨"FuseBox$Plugging", "usedUntilMainIsOut", "()I"⟩, 7) := ⟨⟨by decide +kernel, by decide +kernel⟩, List.mem_of_getElem? (i := 61) (by decide +kernel), List.mem_of_getElem? (i := 651) (by decide +kernel), List.mem_of_getElem? (i := 652) (by decide +kernel)⟩
theorem lw_p25 : lw_okq (⟨"FuseBox", "sortsThatFit", "(ILFuseBox$Row;II)I"⟩, 12) := ⟨⟨by decide +kernel, by decide +kernel⟩, List.mem_of_getElem? (i := 18) (by decide +kernel), List.mem_of_getElem? (i := 679) (by decide +kernel), List.mem_of_getElem? (i := 680) (by decide +kernel)⟩
theorem lw_p26 : lw_okq (⟨"FuseBox", "ratesThatFit", "(ILFuseBox$Row;II)I"⟩, 12) := ⟨⟨by decide +kernel, by decide +kernel⟩, List.mem_of_getElem? (i := 18) (by decide +kernel), List.mem_of_getElem? (i := 691) (by decide +kernel), List.mem_of_getElem? (i := 692) (by decide +kernel)⟩
theorem lw_p27 : lw_okq (⟨"FuseBox", "heatsThatFit", "(ILFuseBox$Row;II)I"⟩, 12) := ⟨⟨by decide +kernel, by decide +kernel⟩, List.mem_of_getElem? (i := 18) (by decide +kernel), List.mem_of_getElem? (i := 695) (by decide +kernel), List.mem_of_getElem? (i := 696) (by decide +kernel)⟩
theorem lw_p28 : lw_okq (⟨"FuseBox", "mainsThatFit", "(ILFuseBox$Row;IIZ)I"⟩, 12) := ⟨⟨by decide +kernel, by decide +kernel⟩, List.mem_of_getElem? (i := 18) (by decide +kernel), List.mem_of_getElem? (i := 699) (by decide +kernel), List.mem_of_getElem? (i := 700) (by decide +kernel)⟩
theorem lw_p29 : lw_okq (⟨"FuseBox", "weightOf", "(II)I"⟩, 12) := ⟨⟨by decide +kernel, by decide +kernel⟩, List.mem_of_getElem? (i := 18) (by decide +kernel), List.mem_of_getElem? (i := 707) (by decide +kernel), List.mem_of_getElem? (i := 708) (by decide +kernel)⟩
theorem lw_p30 : lw_okq (⟨"FuseBox", "isLiveWithout", "(III)Z"⟩, 12) := ⟨⟨by decide +kernel, by decide +kernel⟩, List.mem_of_getElem? (i := 18) (by decide +kernel), List.mem_of_getElem? (i := 711) (by decide +kernel), List.mem_of_getElem? (i := 712) (by decide +kernel)⟩
theorem lw_p31 : lw_okq (⟨"FuseBox$House", "mendAll", "()V"⟩, 15) := ⟨⟨by decide +kernel, by decide +kernel⟩, List.mem_of_getElem? (i := 145) (by decide +kernel), List.mem_of_getElem? (i := 732) (by decide +kernel), List.mem_of_getElem? (i := 733) (by decide +kernel)⟩
def lw_privs_2 : List (MethodName × Nat) := [(⟨"FuseBox", "noLine", "(I)Z"⟩, 12), (⟨"FuseBox", "foretell", "(I)V"⟩, 12), (⟨"FuseBox", "runsWithout", "(III)Z"⟩, 12), (⟨"FuseBox$Plugging", "foretellLine", "(I)V"⟩, 7), (⟨"FuseBox$Plugging", "plugFrom", "(I)V"⟩, 7), (⟨"FuseBox$Plugging", "weigh", "()V"⟩, 7), (⟨"FuseBox$Plugging", "usedThen", "()I"⟩, 7), (⟨"FuseBox$Plugging", "liveMinutes", "(I)I"⟩, 7), (⟨"FuseBox$Plugging", "usedUntilMainIsOut", "()I"⟩, 7), (⟨"FuseBox", "sortsThatFit", "(ILFuseBox$Row;II)I"⟩, 12), (⟨"FuseBox", "ratesThatFit", "(ILFuseBox$Row;II)I"⟩, 12), (⟨"FuseBox", "heatsThatFit", "(ILFuseBox$Row;II)I"⟩, 12), (⟨"FuseBox", "mainsThatFit", "(ILFuseBox$Row;IIZ)I"⟩, 12), (⟨"FuseBox", "weightOf", "(II)I"⟩, 12), (⟨"FuseBox", "isLiveWithout", "(III)Z"⟩, 12), (⟨"FuseBox$House", "mendAll", "()V"⟩, 15)]
theorem lw_r2 : ∀ q ∈ lw_privs_2, lw_okq q := List.forall_mem_cons.mpr ⟨lw_p16, List.forall_mem_cons.mpr ⟨lw_p17, List.forall_mem_cons.mpr ⟨lw_p18, List.forall_mem_cons.mpr ⟨lw_p19, List.forall_mem_cons.mpr ⟨lw_p20, List.forall_mem_cons.mpr ⟨lw_p21, List.forall_mem_cons.mpr ⟨lw_p22, List.forall_mem_cons.mpr ⟨lw_p23, List.forall_mem_cons.mpr ⟨lw_p24, List.forall_mem_cons.mpr ⟨lw_p25, List.forall_mem_cons.mpr ⟨lw_p26, List.forall_mem_cons.mpr ⟨lw_p27, List.forall_mem_cons.mpr ⟨lw_p28, List.forall_mem_cons.mpr ⟨lw_p29, List.forall_mem_cons.mpr ⟨lw_p30, List.forall_mem_cons.mpr ⟨lw_p31, fun _ h => absurd h List.not_mem_nil⟩⟩⟩⟩⟩⟩⟩⟩⟩⟩⟩⟩⟩⟩⟩⟩
theorem lw_p32 : lw_okq (⟨"FuseBox", "rowsThere", "()I"⟩, 12) := ⟨⟨by decide +kernel, by decide +kernel⟩, List.mem_of_getElem? (i := 18) (by decide +kernel), List.mem_of_getElem? (i := 827) (by decide +kernel), List.mem_of_getElem? (i := 828) (by decide +kernel)⟩
theorem lw_p33 : lw_okq (⟨"FuseBoxModel", "finds", "(I)I"⟩, 23) := ⟨⟨by decide +kernel, by decide +kernel⟩, List.mem_of_getElem? (i := 835) (by decide +kernel), List.mem_of_getElem? (i := 922) (by decide +kernel), List.mem_of_getElem? (i := 923) (by decide +kernel)⟩
theorem lw_p34 : lw_okq (⟨"FuseBoxModel", "fine", "(I)I"⟩, 23) := ⟨⟨by decide +kernel, by decide +kernel⟩, List.mem_of_getElem? (i := 835) (by decide +kernel), List.mem_of_getElem? (i := 927) (by decide +kernel), List.mem_of_getElem? (i := 928) (by decide +kernel)⟩
theorem lw_p35 : lw_okq (⟨"FuseBoxModel", "reads", "()V"⟩, 23) := ⟨⟨by decide +kernel, by decide +kernel⟩, List.mem_of_getElem? (i := 835) (by decide +kernel), List.mem_of_getElem? (i := 953) (by decide +kernel), List.mem_of_getElem? (i := 954) (by decide +kernel)⟩
theorem lw_p36 : lw_okq (⟨"FuseBoxModel", "token", "()I"⟩, 23) := ⟨⟨by decide +kernel, by decide +kernel⟩, List.mem_of_getElem? (i := 835) (by decide +kernel), List.mem_of_getElem? (i := 957) (by decide +kernel), List.mem_of_getElem? (i := 958) (by decide +kernel)⟩
theorem lw_p37 : lw_okq (⟨"FuseBoxModel", "byteAt", "(I)I"⟩, 23) := ⟨⟨by decide +kernel, by decide +kernel⟩, List.mem_of_getElem? (i := 835) (by decide +kernel), List.mem_of_getElem? (i := 961) (by decide +kernel), List.mem_of_getElem? (i := 962) (by decide +kernel)⟩
theorem lw_p38 : lw_okq (⟨"FuseBoxModel", "wants", "(II)I"⟩, 23) := ⟨⟨by decide +kernel, by decide +kernel⟩, List.mem_of_getElem? (i := 835) (by decide +kernel), List.mem_of_getElem? (i := 969) (by decide +kernel), List.mem_of_getElem? (i := 970) (by decide +kernel)⟩
theorem lw_p39 : lw_okq (⟨"FuseBoxModel", "sign", "(I)V"⟩, 23) := ⟨⟨by decide +kernel, by decide +kernel⟩, List.mem_of_getElem? (i := 835) (by decide +kernel), List.mem_of_getElem? (i := 973) (by decide +kernel), List.mem_of_getElem? (i := 974) (by decide +kernel)⟩
theorem lw_p40 : lw_okq (⟨"FuseBoxModel", "lineItem", "(I)V"⟩, 23) := ⟨⟨by decide +kernel, by decide +kernel⟩, List.mem_of_getElem? (i := 835) (by decide +kernel), List.mem_of_getElem? (i := 980) (by decide +kernel), List.mem_of_getElem? (i := 981) (by decide +kernel)⟩
theorem lw_p41 : lw_okq (⟨"FuseBoxModel", "thingItem", "()V"⟩, 23) := ⟨⟨by decide +kernel, by decide +kernel⟩, List.mem_of_getElem? (i := 835) (by decide +kernel), List.mem_of_getElem? (i := 984) (by decide +kernel), List.mem_of_getElem? (i := 985) (by decide +kernel)⟩
theorem lw_p42 : lw_okq (⟨"FuseBoxModel", "isHouse", "()Z"⟩, 23) := ⟨⟨by decide +kernel, by decide +kernel⟩, List.mem_of_getElem? (i := 835) (by decide +kernel), List.mem_of_getElem? (i := 997) (by decide +kernel), List.mem_of_getElem? (i := 998) (by decide +kernel)⟩
theorem lw_p43 : lw_okq (⟨"FuseBoxModel", "known", "()V"⟩, 23) := ⟨⟨by decide +kernel, by decide +kernel⟩, List.mem_of_getElem? (i := 835) (by decide +kernel), List.mem_of_getElem? (i := 1003) (by decide +kernel), List.mem_of_getElem? (i := 1004) (by decide +kernel)⟩
theorem lw_p44 : lw_okq (⟨"FuseBoxModel", "copies", "(II)V"⟩, 23) := ⟨⟨by decide +kernel, by decide +kernel⟩, List.mem_of_getElem? (i := 835) (by decide +kernel), List.mem_of_getElem? (i := 1007) (by decide +kernel), List.mem_of_getElem? (i := 1008) (by decide +kernel)⟩
theorem lw_p45 : lw_okq (⟨"FuseBoxModel", "passes", "(I)V"⟩, 23) := ⟨⟨by decide +kernel, by decide +kernel⟩, List.mem_of_getElem? (i := 835) (by decide +kernel), List.mem_of_getElem? (i := 1011) (by decide +kernel), List.mem_of_getElem? (i := 1012) (by decide +kernel)⟩
theorem lw_p46 : lw_okq (⟨"FuseBoxModel", "liveOnes", "(I)I"⟩, 23) := ⟨⟨by decide +kernel, by decide +kernel⟩, List.mem_of_getElem? (i := 835) (by decide +kernel), List.mem_of_getElem? (i := 1015) (by decide +kernel), List.mem_of_getElem? (i := 1016) (by decide +kernel)⟩
theorem lw_p47 : lw_okq (⟨"FuseBoxModel", "isLive", "(II)Z"⟩, 23) := ⟨⟨by decide +kernel, by decide +kernel⟩, List.mem_of_getElem? (i := 835) (by decide +kernel), List.mem_of_getElem? (i := 1019) (by decide +kernel), List.mem_of_getElem? (i := 1020) (by decide +kernel)⟩
def lw_privs_3 : List (MethodName × Nat) := [(⟨"FuseBox", "rowsThere", "()I"⟩, 12), (⟨"FuseBoxModel", "finds", "(I)I"⟩, 23), (⟨"FuseBoxModel", "fine", "(I)I"⟩, 23), (⟨"FuseBoxModel", "reads", "()V"⟩, 23), (⟨"FuseBoxModel", "token", "()I"⟩, 23), (⟨"FuseBoxModel", "byteAt", "(I)I"⟩, 23), (⟨"FuseBoxModel", "wants", "(II)I"⟩, 23), (⟨"FuseBoxModel", "sign", "(I)V"⟩, 23), (⟨"FuseBoxModel", "lineItem", "(I)V"⟩, 23), (⟨"FuseBoxModel", "thingItem", "()V"⟩, 23), (⟨"FuseBoxModel", "isHouse", "()Z"⟩, 23), (⟨"FuseBoxModel", "known", "()V"⟩, 23), (⟨"FuseBoxModel", "copies", "(II)V"⟩, 23), (⟨"FuseBoxModel", "passes", "(I)V"⟩, 23), (⟨"FuseBoxModel", "liveOnes", "(I)I"⟩, 23), (⟨"FuseBoxModel", "isLive", "(II)Z"⟩, 23)]
theorem lw_r3 : ∀ q ∈ lw_privs_3, lw_okq q := List.forall_mem_cons.mpr ⟨lw_p32, List.forall_mem_cons.mpr ⟨lw_p33, List.forall_mem_cons.mpr ⟨lw_p34, List.forall_mem_cons.mpr ⟨lw_p35, List.forall_mem_cons.mpr ⟨lw_p36, List.forall_mem_cons.mpr ⟨lw_p37, List.forall_mem_cons.mpr ⟨lw_p38, List.forall_mem_cons.mpr ⟨lw_p39, List.forall_mem_cons.mpr ⟨lw_p40, List.forall_mem_cons.mpr ⟨lw_p41, List.forall_mem_cons.mpr ⟨lw_p42, List.forall_mem_cons.mpr ⟨lw_p43, List.forall_mem_cons.mpr ⟨lw_p44, List.forall_mem_cons.mpr ⟨lw_p45, List.forall_mem_cons.mpr ⟨lw_p46, List.forall_mem_cons.mpr ⟨lw_p47, fun _ h => absurd h List.not_mem_nil⟩⟩⟩⟩⟩⟩⟩⟩⟩⟩⟩⟩⟩⟩⟩⟩
theorem lw_p48 : lw_okq (⟨"FuseBoxModel", "flowOf", "(II)I"⟩, 23) := ⟨⟨by decide +kernel, by decide +kernel⟩, List.mem_of_getElem? (i := 835) (by decide +kernel), List.mem_of_getElem? (i := 1023) (by decide +kernel), List.mem_of_getElem? (i := 1024) (by decide +kernel)⟩
theorem lw_p49 : lw_okq (⟨"FuseBoxModel", "runs", "(II)Z"⟩, 23) := ⟨⟨by decide +kernel, by decide +kernel⟩, List.mem_of_getElem? (i := 835) (by decide +kernel), List.mem_of_getElem? (i := 1027) (by decide +kernel), List.mem_of_getElem? (i := 1028) (by decide +kernel)⟩
theorem lw_p50 : lw_okq (⟨"FuseBoxModel", "heats", "(III)V"⟩, 23) := ⟨⟨by decide +kernel, by decide +kernel⟩, List.mem_of_getElem? (i := 835) (by decide +kernel), List.mem_of_getElem? (i := 1034) (by decide +kernel), List.mem_of_getElem? (i := 1035) (by decide +kernel)⟩
theorem lw_p51 : lw_okq (⟨"FuseBoxModel", "cools", "(II)V"⟩, 23) := ⟨⟨by decide +kernel, by decide +kernel⟩, List.mem_of_getElem? (i := 835) (by decide +kernel), List.mem_of_getElem? (i := 1038) (by decide +kernel), List.mem_of_getElem? (i := 1039) (by decide +kernel)⟩
theorem lw_p52 : lw_okq (⟨"FuseBoxModel", "isThing", "(I)Z"⟩, 23) := ⟨⟨by decide +kernel, by decide +kernel⟩, List.mem_of_getElem? (i := 835) (by decide +kernel), List.mem_of_getElem? (i := 1050) (by decide +kernel), List.mem_of_getElem? (i := 1051) (by decide +kernel)⟩
theorem lw_p53 : lw_okq (⟨"FuseBoxModel", "running", "(I)I"⟩, 23) := ⟨⟨by decide +kernel, by decide +kernel⟩, List.mem_of_getElem? (i := 835) (by decide +kernel), List.mem_of_getElem? (i := 1054) (by decide +kernel), List.mem_of_getElem? (i := 1055) (by decide +kernel)⟩
theorem lw_p54 : lw_okq (⟨"FuseBoxModel", "isLine", "(I)Z"⟩, 23) := ⟨⟨by decide +kernel, by decide +kernel⟩, List.mem_of_getElem? (i := 835) (by decide +kernel), List.mem_of_getElem? (i := 1062) (by decide +kernel), List.mem_of_getElem? (i := 1063) (by decide +kernel)⟩
theorem lw_p55 : lw_okq (⟨"FuseBoxModel", "mends", "(II)V"⟩, 23) := ⟨⟨by decide +kernel, by decide +kernel⟩, List.mem_of_getElem? (i := 835) (by decide +kernel), List.mem_of_getElem? (i := 1070) (by decide +kernel), List.mem_of_getElem? (i := 1071) (by decide +kernel)⟩
theorem lw_p56 : lw_okq (⟨"FuseBoxModel", "deadOnes", "()I"⟩, 23) := ⟨⟨by decide +kernel, by decide +kernel⟩, List.mem_of_getElem? (i := 835) (by decide +kernel), List.mem_of_getElem? (i := 1074) (by decide +kernel), List.mem_of_getElem? (i := 1075) (by decide +kernel)⟩
theorem lw_p57 : lw_okq (⟨"FuseBoxModel", "goesOn", "(I)V"⟩, 23) := ⟨⟨by decide +kernel, by decide +kernel⟩, List.mem_of_getElem? (i := 835) (by decide +kernel), List.mem_of_getElem? (i := 1106) (by decide +kernel), List.mem_of_getElem? (i := 1107) (by decide +kernel)⟩
theorem lw_p58 : lw_okq (⟨"FuseBoxModel", "onOnes", "()I"⟩, 23) := ⟨⟨by decide +kernel, by decide +kernel⟩, List.mem_of_getElem? (i := 835) (by decide +kernel), List.mem_of_getElem? (i := 1128) (by decide +kernel), List.mem_of_getElem? (i := 1129) (by decide +kernel)⟩
theorem lw_p59 : lw_okq (⟨"FuseBoxModel", "offs", "(I)V"⟩, 23) := ⟨⟨by decide +kernel, by decide +kernel⟩, List.mem_of_getElem? (i := 835) (by decide +kernel), List.mem_of_getElem? (i := 1135) (by decide +kernel), List.mem_of_getElem? (i := 1136) (by decide +kernel)⟩
theorem lw_p60 : lw_okq (⟨"FuseBoxModel", "isLiveFor", "(II)Z"⟩, 23) := ⟨⟨by decide +kernel, by decide +kernel⟩, List.mem_of_getElem? (i := 835) (by decide +kernel), List.mem_of_getElem? (i := 1139) (by decide +kernel), List.mem_of_getElem? (i := 1140) (by decide +kernel)⟩
theorem lw_p61 : lw_okq (⟨"FuseBoxModel", "plugged", "(II)I"⟩, 23) := ⟨⟨by decide +kernel, by decide +kernel⟩, List.mem_of_getElem? (i := 835) (by decide +kernel), List.mem_of_getElem? (i := 1149) (by decide +kernel), List.mem_of_getElem? (i := 1150) (by decide +kernel)⟩
theorem lw_p62 : lw_okq (⟨"FuseBoxModel", "usedBehind", "(I)I"⟩, 23) := ⟨⟨by decide +kernel, by decide +kernel⟩, List.mem_of_getElem? (i := 835) (by decide +kernel), List.mem_of_getElem? (i := 1153) (by decide +kernel), List.mem_of_getElem? (i := 1154) (by decide +kernel)⟩
theorem lw_p63 : lw_okq (⟨"FuseBoxModel", "sorts", "(IIII)I"⟩, 23) := ⟨⟨by decide +kernel, by decide +kernel⟩, List.mem_of_getElem? (i := 835) (by decide +kernel), List.mem_of_getElem? (i := 1175) (by decide +kernel), List.mem_of_getElem? (i := 1176) (by decide +kernel)⟩
def lw_privs_4 : List (MethodName × Nat) := [(⟨"FuseBoxModel", "flowOf", "(II)I"⟩, 23), (⟨"FuseBoxModel", "runs", "(II)Z"⟩, 23), (⟨"FuseBoxModel", "heats", "(III)V"⟩, 23), (⟨"FuseBoxModel", "cools", "(II)V"⟩, 23), (⟨"FuseBoxModel", "isThing", "(I)Z"⟩, 23), (⟨"FuseBoxModel", "running", "(I)I"⟩, 23), (⟨"FuseBoxModel", "isLine", "(I)Z"⟩, 23), (⟨"FuseBoxModel", "mends", "(II)V"⟩, 23), (⟨"FuseBoxModel", "deadOnes", "()I"⟩, 23), (⟨"FuseBoxModel", "goesOn", "(I)V"⟩, 23), (⟨"FuseBoxModel", "onOnes", "()I"⟩, 23), (⟨"FuseBoxModel", "offs", "(I)V"⟩, 23), (⟨"FuseBoxModel", "isLiveFor", "(II)Z"⟩, 23), (⟨"FuseBoxModel", "plugged", "(II)I"⟩, 23), (⟨"FuseBoxModel", "usedBehind", "(I)I"⟩, 23), (⟨"FuseBoxModel", "sorts", "(IIII)I"⟩, 23)]
theorem lw_r4 : ∀ q ∈ lw_privs_4, lw_okq q := List.forall_mem_cons.mpr ⟨lw_p48, List.forall_mem_cons.mpr ⟨lw_p49, List.forall_mem_cons.mpr ⟨lw_p50, List.forall_mem_cons.mpr ⟨lw_p51, List.forall_mem_cons.mpr ⟨lw_p52, List.forall_mem_cons.mpr ⟨lw_p53, List.forall_mem_cons.mpr ⟨lw_p54, List.forall_mem_cons.mpr ⟨lw_p55, List.forall_mem_cons.mpr ⟨lw_p56, List.forall_mem_cons.mpr ⟨lw_p57, List.forall_mem_cons.mpr ⟨lw_p58, List.forall_mem_cons.mpr ⟨lw_p59, List.forall_mem_cons.mpr ⟨lw_p60, List.forall_mem_cons.mpr ⟨lw_p61, List.forall_mem_cons.mpr ⟨lw_p62, List.forall_mem_cons.mpr ⟨lw_p63, fun _ h => absurd h List.not_mem_nil⟩⟩⟩⟩⟩⟩⟩⟩⟩⟩⟩⟩⟩⟩⟩⟩
theorem lw_p64 : lw_okq (⟨"FuseBoxModel", "isSo", "(IIII)Z"⟩, 23) := ⟨⟨by decide +kernel, by decide +kernel⟩, List.mem_of_getElem? (i := 835) (by decide +kernel), List.mem_of_getElem? (i := 1179) (by decide +kernel), List.mem_of_getElem? (i := 1180) (by decide +kernel)⟩
theorem lw_p65 : lw_okq (⟨"FuseBoxModel", "mainsThat", "(IIIIZ)I"⟩, 23) := ⟨⟨by decide +kernel, by decide +kernel⟩, List.mem_of_getElem? (i := 835) (by decide +kernel), List.mem_of_getElem? (i := 1183) (by decide +kernel), List.mem_of_getElem? (i := 1184) (by decide +kernel)⟩
theorem lw_p66 : lw_okq (⟨"FuseBoxModel", "wireSize", "(II)I"⟩, 23) := ⟨⟨by decide +kernel, by decide +kernel⟩, List.mem_of_getElem? (i := 835) (by decide +kernel), List.mem_of_getElem? (i := 1219) (by decide +kernel), List.mem_of_getElem? (i := 1220) (by decide +kernel)⟩
theorem lw_p67 : lw_okq (⟨"FuseBoxModel", "leaves", "(I)V"⟩, 23) := ⟨⟨by decide +kernel, by decide +kernel⟩, List.mem_of_getElem? (i := 835) (by decide +kernel), List.mem_of_getElem? (i := 1223) (by decide +kernel), List.mem_of_getElem? (i := 1224) (by decide +kernel)⟩
theorem lw_p68 : lw_okq (⟨"FuseBoxModel", "lent", "(IZ)I"⟩, 23) := ⟨⟨by decide +kernel, by decide +kernel⟩, List.mem_of_getElem? (i := 835) (by decide +kernel), List.mem_of_getElem? (i := 1227) (by decide +kernel), List.mem_of_getElem? (i := 1228) (by decide +kernel)⟩
theorem lw_p69 : lw_okq (⟨"FuseBoxModel", "wireMark", "(II)I"⟩, 23) := ⟨⟨by decide +kernel, by decide +kernel⟩, List.mem_of_getElem? (i := 835) (by decide +kernel), List.mem_of_getElem? (i := 1231) (by decide +kernel), List.mem_of_getElem? (i := 1232) (by decide +kernel)⟩
theorem lw_p70 : lw_okq (⟨"FuseBoxModel", "breakerSize", "(II)I"⟩, 23) := ⟨⟨by decide +kernel, by decide +kernel⟩, List.mem_of_getElem? (i := 835) (by decide +kernel), List.mem_of_getElem? (i := 1235) (by decide +kernel), List.mem_of_getElem? (i := 1236) (by decide +kernel)⟩
theorem lw_p71 : lw_okq (⟨"FuseBoxModel", "breakerMark", "(II)I"⟩, 23) := ⟨⟨by decide +kernel, by decide +kernel⟩, List.mem_of_getElem? (i := 835) (by decide +kernel), List.mem_of_getElem? (i := 1239) (by decide +kernel), List.mem_of_getElem? (i := 1240) (by decide +kernel)⟩
def lw_privs_5 : List (MethodName × Nat) := [(⟨"FuseBoxModel", "isSo", "(IIII)Z"⟩, 23), (⟨"FuseBoxModel", "mainsThat", "(IIIIZ)I"⟩, 23), (⟨"FuseBoxModel", "wireSize", "(II)I"⟩, 23), (⟨"FuseBoxModel", "leaves", "(I)V"⟩, 23), (⟨"FuseBoxModel", "lent", "(IZ)I"⟩, 23), (⟨"FuseBoxModel", "wireMark", "(II)I"⟩, 23), (⟨"FuseBoxModel", "breakerSize", "(II)I"⟩, 23), (⟨"FuseBoxModel", "breakerMark", "(II)I"⟩, 23)]
theorem lw_r5 : ∀ q ∈ lw_privs_5, lw_okq q := List.forall_mem_cons.mpr ⟨lw_p64, List.forall_mem_cons.mpr ⟨lw_p65, List.forall_mem_cons.mpr ⟨lw_p66, List.forall_mem_cons.mpr ⟨lw_p67, List.forall_mem_cons.mpr ⟨lw_p68, List.forall_mem_cons.mpr ⟨lw_p69, List.forall_mem_cons.mpr ⟨lw_p70, List.forall_mem_cons.mpr ⟨lw_p71, fun _ h => absurd h List.not_mem_nil⟩⟩⟩⟩⟩⟩⟩⟩
def lw_privs : List (MethodName × Nat) := lw_privs_1 ++ (lw_privs_2 ++ (lw_privs_3 ++ (lw_privs_4 ++ (lw_privs_5))))
def lw_tbl : List Cond := k2_sels lw_privs ++ tables_1
theorem lw_privs_ok : ∀ q ∈ lw_privs, lw_okq q := by
  show ∀ q ∈ lw_privs_1 ++ (lw_privs_2 ++ (lw_privs_3 ++ (lw_privs_4 ++ (lw_privs_5)))), lw_okq q
  exact List.forall_mem_append.mpr ⟨lw_r1, List.forall_mem_append.mpr ⟨lw_r2, List.forall_mem_append.mpr ⟨lw_r3, List.forall_mem_append.mpr ⟨lw_r4, lw_r5⟩⟩⟩⟩
end
section
/-! ===== BEGIN words of one list among another's, by their places ===== -/
theorem goodIn_r {big : List Cond} (ws : List Cond) (ps : List Nat) (hp : ws = ps.filterMap (fun i => big[i]?)) (h : ws.all goodWord = true) : GoodIn big ws := by
  intro w hw
  have h1 := List.all_eq_true.mp h w hw
  rw [hp] at hw
  obtain ⟨i, -, hi⟩ := List.mem_filterMap.mp hw
  have hm : w ∈ big := by first | exact List.mem_of_getElem? hi | exact List.getElem?_mem hi
  exact ⟨hm, good_of_word h1⟩
theorem goodIn_app {big a b : List Cond} (ha : GoodIn big a) (hb : GoodIn big b) : GoodIn big (a ++ b) := fun w h => (List.mem_append.mp h).elim (ha w) (hb w)
theorem goodIn_ca {big a b : List Cond} {c : Cond} (ha : GoodIn big (c :: a)) (hb : GoodIn big b) : GoodIn big (c :: (a ++ b)) := fun w h => (List.mem_cons.mp h).elim (fun e => ha w (List.mem_cons.mpr (Or.inl e))) (fun h => (List.mem_append.mp h).elim (fun h => ha w (List.mem_cons.mpr (Or.inr h))) (hb w))
theorem goodIn_sub {big ws : List Cond} (hm : ∀ w ∈ ws, w ∈ big) (h : ws.all goodWord = true) : GoodIn big ws := fun w hw => ⟨hm w hw, good_of_word (List.all_eq_true.mp h w hw)⟩
/-! ===== END ===== -/

/-! ===== BEGIN printed: names, fields, word lists, decode rows ===== -/
def RX0 : String := "FuseBox$Breaker"
def TX0 : u_T := fun k => match k with
  | _ => ("", "", "", false)
def tyX0 : Nat → FieldType := fun k => match k with
  | _ => .int
abbrev wsX00 : List Cond := u_ws RX0 TX0 0
theorem nmX0 : ∀ a, a < 0 → ∀ b, b < 0 → a ≠ b → (TX0 a).2.1 ≠ (TX0 b).2.1 := by decide +kernel
theorem tyX0_ok : ∀ k, k < 0 → parseFieldDescriptor (TX0 k).2.2.1 = some (tyX0 k) := by decide +kernel
abbrev cX0_init : ByteArray := prog_2_method_1_code
def yX0_init : MethodName := ⟨RX0, "<init>", "()V"⟩
abbrev cX0_deadIfOver : ByteArray := prog_2_method_2_code
def yX0_deadIfOver : MethodName := ⟨RX0, "deadIfOver", "()I"⟩
abbrev cX0_heatBehind : ByteArray := prog_2_method_3_code
def yX0_heatBehind : MethodName := ⟨RX0, "heatBehind", "(II)I"⟩
abbrev cX0_deadBehind : ByteArray := prog_2_method_4_code
def yX0_deadBehind : MethodName := ⟨RX0, "deadBehind", "(III)I"⟩
abbrev cX0_sizeOf : ByteArray := prog_2_method_5_code
def yX0_sizeOf : MethodName := ⟨RX0, "sizeOf", "(LFuseBox$House;ILFuseBox$Trace;)I"⟩
abbrev cX0_markOf : ByteArray := prog_2_method_6_code
def yX0_markOf : MethodName := ⟨RX0, "markOf", "(LFuseBox$House;ILFuseBox$Trace;)I"⟩
def RX1 : String := "FuseBox$Coil"
def TX1 : u_T := fun k => match k with
  | _ => ("", "", "", false)
def tyX1 : Nat → FieldType := fun k => match k with
  | _ => .int
abbrev wsX10 : List Cond := u_ws RX1 TX1 0
theorem nmX1 : ∀ a, a < 0 → ∀ b, b < 0 → a ≠ b → (TX1 a).2.1 ≠ (TX1 b).2.1 := by decide +kernel
theorem tyX1_ok : ∀ k, k < 0 → parseFieldDescriptor (TX1 k).2.2.1 = some (tyX1 k) := by decide +kernel
abbrev cX1_init : ByteArray := prog_3_method_1_code
def yX1_init : MethodName := ⟨RX1, "<init>", "()V"⟩
abbrev cX1_deadIfOver : ByteArray := prog_3_method_2_code
def yX1_deadIfOver : MethodName := ⟨RX1, "deadIfOver", "()I"⟩
abbrev cX1_sizeOf : ByteArray := prog_3_method_3_code
def yX1_sizeOf : MethodName := ⟨RX1, "sizeOf", "(LFuseBox$House;ILFuseBox$Trace;)I"⟩
def RX2 : String := "FuseBox$Fuse"
def TX2 : u_T := fun k => match k with
  | _ => ("", "", "", false)
def tyX2 : Nat → FieldType := fun k => match k with
  | _ => .int
abbrev wsX20 : List Cond := u_ws RX2 TX2 0
theorem nmX2 : ∀ a, a < 0 → ∀ b, b < 0 → a ≠ b → (TX2 a).2.1 ≠ (TX2 b).2.1 := by decide +kernel
theorem tyX2_ok : ∀ k, k < 0 → parseFieldDescriptor (TX2 k).2.2.1 = some (tyX2 k) := by decide +kernel
abbrev cX2_init : ByteArray := prog_4_method_1_code
def yX2_init : MethodName := ⟨RX2, "<init>", "()V"⟩
abbrev cX2_sizeOf : ByteArray := prog_4_method_4_code
def yX2_sizeOf : MethodName := ⟨RX2, "sizeOf", "(LFuseBox$House;ILFuseBox$Trace;)I"⟩
abbrev cX2_markOf : ByteArray := prog_4_method_5_code
def yX2_markOf : MethodName := ⟨RX2, "markOf", "(LFuseBox$House;ILFuseBox$Trace;)I"⟩
def RX3 : String := "FuseBox$House"
def TX3 : u_T := fun k => match k with
  | 0 => ("FuseBox$House", "fuses", "[LFuseBox$Fuse;", true)
  | 1 => ("FuseBox$House", "lines", "I", false)
  | 2 => ("FuseBox$House", "things", "I", false)
  | 3 => ("FuseBox$House", "main", "I", false)
  | 4 => ("FuseBox$House", "minute", "I", false)
  | 5 => ("FuseBox$House", "used", "I", false)
  | 6 => ("FuseBox$House", "mainIn", "Z", false)
  | 7 => ("FuseBox$House", "kind", "[I", true)
  | 8 => ("FuseBox$House", "rate", "[I", true)
  | 9 => ("FuseBox$House", "heat", "[I", true)
  | 10 => ("FuseBox$House", "dead", "[I", true)
  | 11 => ("FuseBox$House", "flow", "[I", true)
  | 12 => ("FuseBox$House", "plugged", "[I", true)
  | 13 => ("FuseBox$House", "load", "[I", true)
  | _ => ("FuseBox$House", "on", "I", false)
def tyX3 : Nat → FieldType := fun k => match k with
  | 0 => .array (.object "FuseBox$Fuse")
  | 1 => .int
  | 2 => .int
  | 3 => .int
  | 4 => .int
  | 5 => .int
  | 6 => .boolean
  | 7 => .array .int
  | 8 => .array .int
  | 9 => .array .int
  | 10 => .array .int
  | 11 => .array .int
  | 12 => .array .int
  | 13 => .array .int
  | _ => .int
abbrev wsX30 : List Cond := u_ws RX3 TX3 15
theorem nmX3 : ∀ a, a < 15 → ∀ b, b < 15 → a ≠ b → (TX3 a).2.1 ≠ (TX3 b).2.1 := by decide +kernel
theorem tyX3_ok : ∀ k, k < 15 → parseFieldDescriptor (TX3 k).2.2.1 = some (tyX3 k) := by decide +kernel
abbrev cX3_init : ByteArray := prog_5_method_1_code
def yX3_init : MethodName := ⟨RX3, "<init>", "([LFuseBox$Fuse;)V"⟩
abbrev cX3_clear : ByteArray := prog_5_method_2_code
def yX3_clear : MethodName := ⟨RX3, "clear", "()V"⟩
abbrev cX3_addLine : ByteArray := prog_5_method_3_code
def yX3_addLine : MethodName := ⟨RX3, "addLine", "(II)V"⟩
abbrev cX3_addThing : ByteArray := prog_5_method_4_code
def yX3_addThing : MethodName := ⟨RX3, "addThing", "(III)V"⟩
abbrev cX3_become : ByteArray := prog_5_method_5_code
def yX3_become : MethodName := ⟨RX3, "become", "(LFuseBox$House;)V"⟩
abbrev cX3_fuseOf : ByteArray := prog_5_method_6_code
def yX3_fuseOf : MethodName := ⟨RX3, "fuseOf", "(I)LFuseBox$Fuse;"⟩
abbrev cX3_isDead : ByteArray := prog_5_method_7_code
def yX3_isDead : MethodName := ⟨RX3, "isDead", "(I)Z"⟩
abbrev cX3_isLive : ByteArray := prog_5_method_8_code
def yX3_isLive : MethodName := ⟨RX3, "isLive", "(I)Z"⟩
abbrev cX3_isOn : ByteArray := prog_5_method_9_code
def yX3_isOn : MethodName := ⟨RX3, "isOn", "(I)Z"⟩
abbrev cX3_runs : ByteArray := prog_5_method_10_code
def yX3_runs : MethodName := ⟨RX3, "runs", "(I)Z"⟩
abbrev cX3_toggle : ByteArray := prog_5_method_11_code
def yX3_toggle : MethodName := ⟨RX3, "toggle", "(I)V"⟩
abbrev cX3_mendLine : ByteArray := prog_5_method_12_code
def yX3_mendLine : MethodName := ⟨RX3, "mendLine", "(I)V"⟩
abbrev cX3_deadLines : ByteArray := prog_5_method_13_code
def yX3_deadLines : MethodName := ⟨RX3, "deadLines", "()I"⟩
abbrev cX3_liveLines : ByteArray := prog_5_method_14_code
def yX3_liveLines : MethodName := ⟨RX3, "liveLines", "()I"⟩
abbrev cX3_runningThings : ByteArray := prog_5_method_15_code
def yX3_runningThings : MethodName := ⟨RX3, "runningThings", "()I"⟩
abbrev cX3_pluggedInto : ByteArray := prog_5_method_16_code
def yX3_pluggedInto : MethodName := ⟨RX3, "pluggedInto", "(I)I"⟩
abbrev cX3_loadThatIsOn : ByteArray := prog_5_method_17_code
def yX3_loadThatIsOn : MethodName := ⟨RX3, "loadThatIsOn", "()I"⟩
abbrev cX3_flowOf : ByteArray := prog_5_method_18_code
def yX3_flowOf : MethodName := ⟨RX3, "flowOf", "(I)I"⟩
abbrev cX3_reckonFlows : ByteArray := prog_5_method_19_code
def yX3_reckonFlows : MethodName := ⟨RX3, "reckonFlows", "()I"⟩
abbrev cX3_passMinute : ByteArray := prog_5_method_20_code
def yX3_passMinute : MethodName := ⟨RX3, "passMinute", "()V"⟩
abbrev cX3_passLine : ByteArray := prog_5_method_21_code
def yX3_passLine : MethodName := ⟨RX3, "passLine", "(II)V"⟩
abbrev cX3_staysLive : ByteArray := prog_5_method_22_code
def yX3_staysLive : MethodName := ⟨RX3, "staysLive", "(II)Z"⟩
abbrev cX3_liveMinutes : ByteArray := prog_5_method_23_code
def yX3_liveMinutes : MethodName := ⟨RX3, "liveMinutes", "(III)I"⟩
abbrev cX3_heatsAs : ByteArray := prog_5_method_24_code
def yX3_heatsAs : MethodName := ⟨RX3, "heatsAs", "(I[III)Z"⟩
abbrev cX3_takeKind : ByteArray := prog_5_method_25_code
def yX3_takeKind : MethodName := ⟨RX3, "takeKind", "(II)V"⟩
abbrev cX3_draw : ByteArray := prog_5_method_26_code
def yX3_draw : MethodName := ⟨RX3, "draw", "(J)V"⟩
abbrev cX3_mendAll : ByteArray := prog_5_method_27_code
def yX3_mendAll : MethodName := ⟨RX3, "mendAll", "()V"⟩
def RX4 : String := "FuseBox$Plugging"
def TX4 : u_T := fun k => match k with
  | 0 => ("FuseBox$Plugging", "live", "[I", true)
  | 1 => ("FuseBox$Plugging", "loads", "[I", true)
  | 2 => ("FuseBox$Plugging", "way", "[I", true)
  | 3 => ("FuseBox$Plugging", "best", "[I", true)
  | 4 => ("FuseBox$Plugging", "most", "I", false)
  | 5 => ("FuseBox$Plugging", "house", "LFuseBox$House;", false)
  | _ => ("FuseBox$Plugging", "minutes", "I", false)
def tyX4 : Nat → FieldType := fun k => match k with
  | 0 => .array .int
  | 1 => .array .int
  | 2 => .array .int
  | 3 => .array .int
  | 4 => .int
  | 5 => .object "FuseBox$House"
  | _ => .int
abbrev wsX40 : List Cond := u_ws RX4 TX4 7
theorem nmX4 : ∀ a, a < 7 → ∀ b, b < 7 → a ≠ b → (TX4 a).2.1 ≠ (TX4 b).2.1 := by decide +kernel
theorem tyX4_ok : ∀ k, k < 7 → parseFieldDescriptor (TX4 k).2.2.1 = some (tyX4 k) := by decide +kernel
abbrev cX4_init : ByteArray := prog_6_method_1_code
def yX4_init : MethodName := ⟨RX4, "<init>", "()V"⟩
abbrev cX4_search : ByteArray := prog_6_method_2_code
def yX4_search : MethodName := ⟨RX4, "search", "(LFuseBox$House;I)V"⟩
abbrev cX4_foretellLine : ByteArray := prog_6_method_3_code
def yX4_foretellLine : MethodName := ⟨RX4, "foretellLine", "(I)V"⟩
abbrev cX4_plugFrom : ByteArray := prog_6_method_4_code
def yX4_plugFrom : MethodName := ⟨RX4, "plugFrom", "(I)V"⟩
abbrev cX4_weigh : ByteArray := prog_6_method_5_code
def yX4_weigh : MethodName := ⟨RX4, "weigh", "()V"⟩
abbrev cX4_usedThen : ByteArray := prog_6_method_6_code
def yX4_usedThen : MethodName := ⟨RX4, "usedThen", "()I"⟩
abbrev cX4_usedUntilMainIsOut : ByteArray := prog_6_method_7_code
def yX4_usedUntilMainIsOut : MethodName := ⟨RX4, "usedUntilMainIsOut", "()I"⟩
abbrev cX4_liveMinutes : ByteArray := prog_6_method_8_code
def yX4_liveMinutes : MethodName := ⟨RX4, "liveMinutes", "(I)I"⟩
def RX5 : String := "FuseBox$Quick"
def TX5 : u_T := fun k => match k with
  | _ => ("", "", "", false)
def tyX5 : Nat → FieldType := fun k => match k with
  | _ => .int
abbrev wsX50 : List Cond := u_ws RX5 TX5 0
theorem nmX5 : ∀ a, a < 0 → ∀ b, b < 0 → a ≠ b → (TX5 a).2.1 ≠ (TX5 b).2.1 := by decide +kernel
theorem tyX5_ok : ∀ k, k < 0 → parseFieldDescriptor (TX5 k).2.2.1 = some (tyX5 k) := by decide +kernel
abbrev cX5_init : ByteArray := prog_7_method_1_code
def yX5_init : MethodName := ⟨RX5, "<init>", "()V"⟩
abbrev cX5_deadBehind : ByteArray := prog_7_method_2_code
def yX5_deadBehind : MethodName := ⟨RX5, "deadBehind", "(III)I"⟩
abbrev cX5_markOf : ByteArray := prog_7_method_3_code
def yX5_markOf : MethodName := ⟨RX5, "markOf", "(LFuseBox$House;ILFuseBox$Trace;)I"⟩
def RX6 : String := "FuseBox$Reader"
def TX6 : u_T := fun k => match k with
  | 0 => ("FuseBox$Reader", "letters", "[I", true)
  | 1 => ("FuseBox$Reader", "size", "I", false)
  | 2 => ("FuseBox$Reader", "token", "I", false)
  | 3 => ("FuseBox$Reader", "value", "I", false)
  | 4 => ("FuseBox$Reader", "behind", "I", false)
  | 5 => ("FuseBox$Reader", "start", "I", false)
  | _ => ("FuseBox$Reader", "fault", "I", false)
def tyX6 : Nat → FieldType := fun k => match k with
  | 0 => .array .int
  | 1 => .int
  | 2 => .int
  | 3 => .int
  | 4 => .int
  | 5 => .int
  | _ => .int
abbrev wsX60 : List Cond := u_ws RX6 TX6 7
theorem nmX6 : ∀ a, a < 7 → ∀ b, b < 7 → a ≠ b → (TX6 a).2.1 ≠ (TX6 b).2.1 := by decide +kernel
theorem tyX6_ok : ∀ k, k < 7 → parseFieldDescriptor (TX6 k).2.2.1 = some (tyX6 k) := by decide +kernel
abbrev cX6_init : ByteArray := prog_8_method_1_code
def yX6_init : MethodName := ⟨RX6, "<init>", "()V"⟩
abbrev cX6_append : ByteArray := prog_8_method_2_code
def yX6_append : MethodName := ⟨RX6, "append", "(I)I"⟩
abbrev cX6_readInto : ByteArray := prog_8_method_3_code
def yX6_readInto : MethodName := ⟨RX6, "readInto", "(LFuseBox$House;)I"⟩
abbrev cX6_readLaw : ByteArray := prog_8_method_4_code
def yX6_readLaw : MethodName := ⟨RX6, "readLaw", "(LFuseBox$House;)V"⟩
abbrev cX6_readLine : ByteArray := prog_8_method_5_code
def yX6_readLine : MethodName := ⟨RX6, "readLine", "(LFuseBox$House;)V"⟩
abbrev cX6_readThing : ByteArray := prog_8_method_6_code
def yX6_readThing : MethodName := ⟨RX6, "readThing", "(LFuseBox$House;)V"⟩
abbrev cX6_sortOf : ByteArray := prog_8_method_7_code
def yX6_sortOf : MethodName := ⟨RX6, "sortOf", "(I)I"⟩
abbrev cX6_take : ByteArray := prog_8_method_8_code
def yX6_take : MethodName := ⟨RX6, "take", "(I)V"⟩
abbrev cX6_takeNumber : ByteArray := prog_8_method_9_code
def yX6_takeNumber : MethodName := ⟨RX6, "takeNumber", "(II)I"⟩
abbrev cX6_fail : ByteArray := prog_8_method_10_code
def yX6_fail : MethodName := ⟨RX6, "fail", "(I)V"⟩
abbrev cX6_readToken : ByteArray := prog_8_method_11_code
def yX6_readToken : MethodName := ⟨RX6, "readToken", "()V"⟩
abbrev cX6_readNumber : ByteArray := prog_8_method_12_code
def yX6_readNumber : MethodName := ⟨RX6, "readNumber", "()V"⟩
abbrev cX6_isFigure : ByteArray := prog_8_method_13_code
def yX6_isFigure : MethodName := ⟨RX6, "isFigure", "(I)Z"⟩
def RX7 : String := "FuseBox$Row"
def TX7 : u_T := fun k => match k with
  | 0 => ("FuseBox$Row", "items", "[I", true)
  | 1 => ("FuseBox$Row", "lane", "I", false)
  | _ => ("FuseBox$Row", "size", "I", false)
def tyX7 : Nat → FieldType := fun k => match k with
  | 0 => .array .int
  | 1 => .int
  | _ => .int
abbrev wsX70 : List Cond := u_ws RX7 TX7 3
theorem nmX7 : ∀ a, a < 3 → ∀ b, b < 3 → a ≠ b → (TX7 a).2.1 ≠ (TX7 b).2.1 := by decide +kernel
theorem tyX7_ok : ∀ k, k < 3 → parseFieldDescriptor (TX7 k).2.2.1 = some (tyX7 k) := by decide +kernel
abbrev cX7_init : ByteArray := prog_9_method_1_code
def yX7_init : MethodName := ⟨RX7, "<init>", "()V"⟩
abbrev cX7_begin : ByteArray := prog_9_method_2_code
def yX7_begin : MethodName := ⟨RX7, "begin", "(II)V"⟩
abbrev cX7_end : ByteArray := prog_9_method_3_code
def yX7_end : MethodName := ⟨RX7, "end", "()V"⟩
abbrev cX7_isMissing : ByteArray := prog_9_method_4_code
def yX7_isMissing : MethodName := ⟨RX7, "isMissing", "()Z"⟩
abbrev cX7_has : ByteArray := prog_9_method_5_code
def yX7_has : MethodName := ⟨RX7, "has", "(II)Z"⟩
abbrev cX7_cut : ByteArray := prog_9_method_6_code
def yX7_cut : MethodName := ⟨RX7, "cut", "(I)I"⟩
def RX8 : String := "FuseBox$Slow"
def TX8 : u_T := fun k => match k with
  | _ => ("", "", "", false)
def tyX8 : Nat → FieldType := fun k => match k with
  | _ => .int
abbrev wsX80 : List Cond := u_ws RX8 TX8 0
theorem nmX8 : ∀ a, a < 0 → ∀ b, b < 0 → a ≠ b → (TX8 a).2.1 ≠ (TX8 b).2.1 := by decide +kernel
theorem tyX8_ok : ∀ k, k < 0 → parseFieldDescriptor (TX8 k).2.2.1 = some (tyX8 k) := by decide +kernel
abbrev cX8_init : ByteArray := prog_10_method_1_code
def yX8_init : MethodName := ⟨RX8, "<init>", "()V"⟩
abbrev cX8_heatBy : ByteArray := prog_10_method_2_code
def yX8_heatBy : MethodName := ⟨RX8, "heatBy", "(I)I"⟩
abbrev cX8_sizeOf : ByteArray := prog_10_method_3_code
def yX8_sizeOf : MethodName := ⟨RX8, "sizeOf", "(LFuseBox$House;ILFuseBox$Trace;)I"⟩
abbrev cX8_markOf : ByteArray := prog_10_method_4_code
def yX8_markOf : MethodName := ⟨RX8, "markOf", "(LFuseBox$House;ILFuseBox$Trace;)I"⟩
def RX9 : String := "FuseBox$Trace"
def TX9 : u_T := fun k => match k with
  | 0 => ("FuseBox$Trace", "bodies", "[I", true)
  | _ => ("FuseBox$Trace", "size", "I", false)
def tyX9 : Nat → FieldType := fun k => match k with
  | 0 => .array .int
  | _ => .int
abbrev wsX90 : List Cond := u_ws RX9 TX9 2
theorem nmX9 : ∀ a, a < 2 → ∀ b, b < 2 → a ≠ b → (TX9 a).2.1 ≠ (TX9 b).2.1 := by decide +kernel
theorem tyX9_ok : ∀ k, k < 2 → parseFieldDescriptor (TX9 k).2.2.1 = some (tyX9 k) := by decide +kernel
abbrev cX9_init : ByteArray := prog_11_method_1_code
def yX9_init : MethodName := ⟨RX9, "<init>", "()V"⟩
abbrev cX9_empty : ByteArray := prog_11_method_2_code
def yX9_empty : MethodName := ⟨RX9, "empty", "()V"⟩
abbrev cX9_leave : ByteArray := prog_11_method_3_code
def yX9_leave : MethodName := ⟨RX9, "leave", "(I)V"⟩
def RX10 : String := "FuseBox$Wire"
def TX10 : u_T := fun k => match k with
  | _ => ("", "", "", false)
def tyX10 : Nat → FieldType := fun k => match k with
  | _ => .int
abbrev wsX100 : List Cond := u_ws RX10 TX10 0
theorem nmX10 : ∀ a, a < 0 → ∀ b, b < 0 → a ≠ b → (TX10 a).2.1 ≠ (TX10 b).2.1 := by decide +kernel
theorem tyX10_ok : ∀ k, k < 0 → parseFieldDescriptor (TX10 k).2.2.1 = some (tyX10 k) := by decide +kernel
abbrev cX10_init : ByteArray := prog_12_method_1_code
def yX10_init : MethodName := ⟨RX10, "<init>", "()V"⟩
abbrev cX10_heatBy : ByteArray := prog_12_method_2_code
def yX10_heatBy : MethodName := ⟨RX10, "heatBy", "(I)I"⟩
abbrev cX10_heatBehind : ByteArray := prog_12_method_3_code
def yX10_heatBehind : MethodName := ⟨RX10, "heatBehind", "(II)I"⟩
abbrev cX10_deadBehind : ByteArray := prog_12_method_4_code
def yX10_deadBehind : MethodName := ⟨RX10, "deadBehind", "(III)I"⟩
abbrev cX10_sizeOf : ByteArray := prog_12_method_5_code
def yX10_sizeOf : MethodName := ⟨RX10, "sizeOf", "(LFuseBox$House;ILFuseBox$Trace;)I"⟩
abbrev cX10_markOf : ByteArray := prog_12_method_6_code
def yX10_markOf : MethodName := ⟨RX10, "markOf", "(LFuseBox$House;ILFuseBox$Trace;)I"⟩
def RX11 : String := "FuseBox"
def TX11 : u_T := fun k => match k with
  | 0 => ("FuseBox", "rows", "[LFuseBox$Row;", true)
  | 1 => ("FuseBox", "reader", "LFuseBox$Reader;", true)
  | 2 => ("FuseBox", "now", "LFuseBox$House;", true)
  | 3 => ("FuseBox", "trial", "LFuseBox$House;", true)
  | 4 => ("FuseBox", "images", "[LFuseBox$House;", true)
  | 5 => ("FuseBox", "acts", "[LFuseBox$House;", true)
  | 6 => ("FuseBox", "oldestAct", "I", false)
  | 7 => ("FuseBox", "actsKept", "I", false)
  | 8 => ("FuseBox", "plugging", "LFuseBox$Plugging;", true)
  | 9 => ("FuseBox", "trace", "LFuseBox$Trace;", true)
  | 10 => ("FuseBox", "latestFault", "I", false)
  | _ => ("FuseBox", "latestFinding", "I", false)
def tyX11 : Nat → FieldType := fun k => match k with
  | 0 => .array (.object "FuseBox$Row")
  | 1 => .object "FuseBox$Reader"
  | 2 => .object "FuseBox$House"
  | 3 => .object "FuseBox$House"
  | 4 => .array (.object "FuseBox$House")
  | 5 => .array (.object "FuseBox$House")
  | 6 => .int
  | 7 => .int
  | 8 => .object "FuseBox$Plugging"
  | 9 => .object "FuseBox$Trace"
  | 10 => .int
  | _ => .int
abbrev wsX110 : List Cond := u_ws RX11 TX11 12
theorem nmX11 : ∀ a, a < 12 → ∀ b, b < 12 → a ≠ b → (TX11 a).2.1 ≠ (TX11 b).2.1 := by decide +kernel
theorem tyX11_ok : ∀ k, k < 12 → parseFieldDescriptor (TX11 k).2.2.1 = some (tyX11 k) := by decide +kernel
abbrev cX11_init : ByteArray := prog_1_method_1_code
def yX11_init : MethodName := ⟨RX11, "<init>", "()V"⟩
abbrev cX11_row : ByteArray := prog_1_method_2_code
def yX11_row : MethodName := ⟨RX11, "row", "(III)I"⟩
abbrev cX11_set : ByteArray := prog_1_method_3_code
def yX11_set : MethodName := ⟨RX11, "set", "(III)I"⟩
abbrev cX11_copy : ByteArray := prog_1_method_4_code
def yX11_copy : MethodName := ⟨RX11, "copy", "(IIIII)I"⟩
abbrev cX11_drop : ByteArray := prog_1_method_5_code
def yX11_drop : MethodName := ⟨RX11, "drop", "(I)I"⟩
abbrev cX11_noRow : ByteArray := prog_1_method_6_code
def yX11_noRow : MethodName := ⟨RX11, "noRow", "(I)Z"⟩
abbrev cX11_found : ByteArray := prog_1_method_7_code
def yX11_found : MethodName := ⟨RX11, "found", "(I)I"⟩
abbrev cX11_fine : ByteArray := prog_1_method_8_code
def yX11_fine : MethodName := ⟨RX11, "fine", "(I)I"⟩
abbrev cX11_feed : ByteArray := prog_1_method_9_code
def yX11_feed : MethodName := ⟨RX11, "feed", "(I)I"⟩
abbrev cX11_house : ByteArray := prog_1_method_10_code
def yX11_house : MethodName := ⟨RX11, "house", "()I"⟩
abbrev cX11_fault : ByteArray := prog_1_method_11_code
def yX11_fault : MethodName := ⟨RX11, "fault", "()I"⟩
abbrev cX11_minutes : ByteArray := prog_1_method_12_code
def yX11_minutes : MethodName := ⟨RX11, "minutes", "(I)I"⟩
abbrev cX11_turn : ByteArray := prog_1_method_13_code
def yX11_turn : MethodName := ⟨RX11, "turn", "(II)I"⟩
abbrev cX11_plug : ByteArray := prog_1_method_14_code
def yX11_plug : MethodName := ⟨RX11, "plug", "(II)I"⟩
abbrev cX11_mend : ByteArray := prog_1_method_15_code
def yX11_mend : MethodName := ⟨RX11, "mend", "(I)I"⟩
abbrev cX11_mains : ByteArray := prog_1_method_16_code
def yX11_mains : MethodName := ⟨RX11, "mains", "()I"⟩
abbrev cX11_rate : ByteArray := prog_1_method_17_code
def yX11_rate : MethodName := ⟨RX11, "rate", "(II)I"⟩
abbrev cX11_undo : ByteArray := prog_1_method_18_code
def yX11_undo : MethodName := ⟨RX11, "undo", "()I"⟩
abbrev cX11_line : ByteArray := prog_1_method_19_code
def yX11_line : MethodName := ⟨RX11, "line", "(II)I"⟩
abbrev cX11_thing : ByteArray := prog_1_method_20_code
def yX11_thing : MethodName := ⟨RX11, "thing", "(II)I"⟩
abbrev cX11_noHouse : ByteArray := prog_1_method_21_code
def yX11_noHouse : MethodName := ⟨RX11, "noHouse", "()Z"⟩
abbrev cX11_noLine : ByteArray := prog_1_method_22_code
def yX11_noLine : MethodName := ⟨RX11, "noLine", "(I)Z"⟩
abbrev cX11_noThing : ByteArray := prog_1_method_23_code
def yX11_noThing : MethodName := ⟨RX11, "noThing", "(I)Z"⟩
abbrev cX11_forgetActs : ByteArray := prog_1_method_24_code
def yX11_forgetActs : MethodName := ⟨RX11, "forgetActs", "()V"⟩
abbrev cX11_keepAct : ByteArray := prog_1_method_25_code
def yX11_keepAct : MethodName := ⟨RX11, "keepAct", "()V"⟩
abbrev cX11_heat : ByteArray := prog_1_method_26_code
def yX11_heat : MethodName := ⟨RX11, "heat", "(II)I"⟩
abbrev cX11_later : ByteArray := prog_1_method_27_code
def yX11_later : MethodName := ⟨RX11, "later", "(II)I"⟩
abbrev cX11_lost : ByteArray := prog_1_method_28_code
def yX11_lost : MethodName := ⟨RX11, "lost", "(I)I"⟩
abbrev cX11_dark : ByteArray := prog_1_method_29_code
def yX11_dark : MethodName := ⟨RX11, "dark", "()I"⟩
abbrev cX11_shed : ByteArray := prog_1_method_30_code
def yX11_shed : MethodName := ⟨RX11, "shed", "(III)I"⟩
abbrev cX11_plugs : ByteArray := prog_1_method_31_code
def yX11_plugs : MethodName := ⟨RX11, "plugs", "(II)I"⟩
abbrev cX11_holds : ByteArray := prog_1_method_32_code
def yX11_holds : MethodName := ⟨RX11, "holds", "(II)I"⟩
abbrev cX11_faulty : ByteArray := prog_1_method_33_code
def yX11_faulty : MethodName := ⟨RX11, "faulty", "(II)I"⟩
abbrev cX11_bill : ByteArray := prog_1_method_34_code
def yX11_bill : MethodName := ⟨RX11, "bill", "(II)I"⟩
abbrev cX11_fits : ByteArray := prog_1_method_35_code
def yX11_fits : MethodName := ⟨RX11, "fits", "(IIIII)I"⟩
abbrev cX11_chance : ByteArray := prog_1_method_36_code
def yX11_chance : MethodName := ⟨RX11, "chance", "(IIII)I"⟩
abbrev cX11_drawn : ByteArray := prog_1_method_37_code
def yX11_drawn : MethodName := ⟨RX11, "drawn", "(III)I"⟩
abbrev cX11_image : ByteArray := prog_1_method_38_code
def yX11_image : MethodName := ⟨RX11, "image", "(I)I"⟩
abbrev cX11_restore : ByteArray := prog_1_method_39_code
def yX11_restore : MethodName := ⟨RX11, "restore", "(I)I"⟩
abbrev cX11_noImage : ByteArray := prog_1_method_40_code
def yX11_noImage : MethodName := ⟨RX11, "noImage", "(I)Z"⟩
abbrev cX11_foretell : ByteArray := prog_1_method_41_code
def yX11_foretell : MethodName := ⟨RX11, "foretell", "(I)V"⟩
abbrev cX11_runsWithout : ByteArray := prog_1_method_42_code
def yX11_runsWithout : MethodName := ⟨RX11, "runsWithout", "(III)Z"⟩
abbrev cX11_isLiveWithout : ByteArray := prog_1_method_43_code
def yX11_isLiveWithout : MethodName := ⟨RX11, "isLiveWithout", "(III)Z"⟩
abbrev cX11_weightOf : ByteArray := prog_1_method_44_code
def yX11_weightOf : MethodName := ⟨RX11, "weightOf", "(II)I"⟩
abbrev cX11_commonDivisor : ByteArray := prog_1_method_45_code
def yX11_commonDivisor : MethodName := ⟨RX11, "commonDivisor", "(II)I"⟩
abbrev cX11_sortsThatFit : ByteArray := prog_1_method_46_code
def yX11_sortsThatFit : MethodName := ⟨RX11, "sortsThatFit", "(ILFuseBox$Row;II)I"⟩
abbrev cX11_ratesThatFit : ByteArray := prog_1_method_47_code
def yX11_ratesThatFit : MethodName := ⟨RX11, "ratesThatFit", "(ILFuseBox$Row;II)I"⟩
abbrev cX11_heatsThatFit : ByteArray := prog_1_method_48_code
def yX11_heatsThatFit : MethodName := ⟨RX11, "heatsThatFit", "(ILFuseBox$Row;II)I"⟩
abbrev cX11_mainsThatFit : ByteArray := prog_1_method_49_code
def yX11_mainsThatFit : MethodName := ⟨RX11, "mainsThatFit", "(ILFuseBox$Row;IIZ)I"⟩
abbrev cX11_kind : ByteArray := prog_1_method_50_code
def yX11_kind : MethodName := ⟨RX11, "kind", "(I)I"⟩
abbrev cX11_as : ByteArray := prog_1_method_51_code
def yX11_as : MethodName := ⟨RX11, "as", "(II)I"⟩
abbrev cX11_ask : ByteArray := prog_1_method_52_code
def yX11_ask : MethodName := ⟨RX11, "ask", "(II)I"⟩
abbrev cX11_trace : ByteArray := prog_1_method_53_code
def yX11_trace : MethodName := ⟨RX11, "trace", "(I)I"⟩
abbrev cX11_count : ByteArray := prog_1_method_54_code
def yX11_count : MethodName := ⟨RX11, "count", "(I)I"⟩
abbrev cX11_status : ByteArray := prog_1_method_55_code
def yX11_status : MethodName := ⟨RX11, "status", "()I"⟩
abbrev cX11_isA : ByteArray := prog_1_method_56_code
def yX11_isA : MethodName := ⟨RX11, "isA", "(LFuseBox$Fuse;I)Z"⟩
abbrev cX11_rowsThere : ByteArray := prog_1_method_57_code
def yX11_rowsThere : MethodName := ⟨RX11, "rowsThere", "()I"⟩
def RX12 : String := "FuseBoxModel"
def TX12 : u_T := fun k => match k with
  | 0 => ("FuseBoxModel", "slot", "[I", true)
  | 1 => ("FuseBoxModel", "told", "[I", true)
  | 2 => ("FuseBoxModel", "kept", "[I", true)
  | 3 => ("FuseBoxModel", "acts", "I", false)
  | 4 => ("FuseBoxModel", "lane", "[I", true)
  | 5 => ("FuseBoxModel", "size", "[I", true)
  | 6 => ("FuseBoxModel", "items", "[I", true)
  | 7 => ("FuseBoxModel", "moved", "[I", true)
  | 8 => ("FuseBoxModel", "found", "I", false)
  | 9 => ("FuseBoxModel", "length", "I", false)
  | 10 => ("FuseBoxModel", "tape", "[B", true)
  | 11 => ("FuseBoxModel", "next", "I", false)
  | 12 => ("FuseBoxModel", "place", "I", false)
  | 13 => ("FuseBoxModel", "number", "I", false)
  | 14 => ("FuseBoxModel", "wrong", "I", false)
  | 15 => ("FuseBoxModel", "latest", "I", false)
  | 16 => ("FuseBoxModel", "read", "[I", true)
  | 17 => ("FuseBoxModel", "readRate", "[I", true)
  | 18 => ("FuseBoxModel", "readPlug", "[I", true)
  | 19 => ("FuseBoxModel", "readOn", "[I", true)
  | 20 => ("FuseBoxModel", "traces", "I", false)
  | 21 => ("FuseBoxModel", "traced", "[I", true)
  | _ => ("FuseBoxModel", "flows", "[I", true)
def tyX12 : Nat → FieldType := fun k => match k with
  | 0 => .array .int
  | 1 => .array .int
  | 2 => .array .int
  | 3 => .int
  | 4 => .array .int
  | 5 => .array .int
  | 6 => .array .int
  | 7 => .array .int
  | 8 => .int
  | 9 => .int
  | 10 => .array .byte
  | 11 => .int
  | 12 => .int
  | 13 => .int
  | 14 => .int
  | 15 => .int
  | 16 => .array .int
  | 17 => .array .int
  | 18 => .array .int
  | 19 => .array .int
  | 20 => .int
  | 21 => .array .int
  | _ => .array .int
abbrev wsX120 : List Cond := u_ws RX12 TX12 23
theorem nmX12 : ∀ a, a < 23 → ∀ b, b < 23 → a ≠ b → (TX12 a).2.1 ≠ (TX12 b).2.1 := by decide +kernel
theorem tyX12_ok : ∀ k, k < 23 → parseFieldDescriptor (TX12 k).2.2.1 = some (tyX12 k) := by decide +kernel
abbrev cX12_init : ByteArray := prog_14_method_1_code
def yX12_init : MethodName := ⟨RX12, "<init>", "()V"⟩
abbrev cX12_in : ByteArray := prog_14_method_2_code
def yX12_in : MethodName := ⟨RX12, "in", "(JJJ)Z"⟩
abbrev cX12_has : ByteArray := prog_14_method_3_code
def yX12_has : MethodName := ⟨RX12, "has", "(II)Z"⟩
abbrev cX12_bits : ByteArray := prog_14_method_4_code
def yX12_bits : MethodName := ⟨RX12, "bits", "(I)I"⟩
abbrev cX12_larger : ByteArray := prog_14_method_5_code
def yX12_larger : MethodName := ⟨RX12, "larger", "(II)I"⟩
abbrev cX12_finds : ByteArray := prog_14_method_6_code
def yX12_finds : MethodName := ⟨RX12, "finds", "(I)I"⟩
abbrev cX12_fine : ByteArray := prog_14_method_7_code
def yX12_fine : MethodName := ⟨RX12, "fine", "(I)I"⟩
abbrev cX12_row : ByteArray := prog_14_method_8_code
def yX12_row : MethodName := ⟨RX12, "row", "(III)I"⟩
abbrev cX12_set : ByteArray := prog_14_method_9_code
def yX12_set : MethodName := ⟨RX12, "set", "(III)I"⟩
abbrev cX12_copy : ByteArray := prog_14_method_10_code
def yX12_copy : MethodName := ⟨RX12, "copy", "(IIIII)I"⟩
abbrev cX12_drop : ByteArray := prog_14_method_11_code
def yX12_drop : MethodName := ⟨RX12, "drop", "(I)I"⟩
abbrev cX12_feed : ByteArray := prog_14_method_12_code
def yX12_feed : MethodName := ⟨RX12, "feed", "(I)I"⟩
abbrev cX12_byteAt : ByteArray := prog_14_method_13_code
def yX12_byteAt : MethodName := ⟨RX12, "byteAt", "(I)I"⟩
abbrev cX12_token : ByteArray := prog_14_method_14_code
def yX12_token : MethodName := ⟨RX12, "token", "()I"⟩
abbrev cX12_wants : ByteArray := prog_14_method_15_code
def yX12_wants : MethodName := ⟨RX12, "wants", "(II)I"⟩
abbrev cX12_sign : ByteArray := prog_14_method_16_code
def yX12_sign : MethodName := ⟨RX12, "sign", "(I)V"⟩
abbrev cX12_sortOf : ByteArray := prog_14_method_17_code
def yX12_sortOf : MethodName := ⟨RX12, "sortOf", "(I)I"⟩
abbrev cX12_lineItem : ByteArray := prog_14_method_18_code
def yX12_lineItem : MethodName := ⟨RX12, "lineItem", "(I)V"⟩
abbrev cX12_thingItem : ByteArray := prog_14_method_19_code
def yX12_thingItem : MethodName := ⟨RX12, "thingItem", "()V"⟩
abbrev cX12_reads : ByteArray := prog_14_method_20_code
def yX12_reads : MethodName := ⟨RX12, "reads", "()V"⟩
abbrev cX12_house : ByteArray := prog_14_method_21_code
def yX12_house : MethodName := ⟨RX12, "house", "()I"⟩
abbrev cX12_fault : ByteArray := prog_14_method_22_code
def yX12_fault : MethodName := ⟨RX12, "fault", "()I"⟩
abbrev cX12_isLine : ByteArray := prog_14_method_23_code
def yX12_isLine : MethodName := ⟨RX12, "isLine", "(I)Z"⟩
abbrev cX12_isThing : ByteArray := prog_14_method_24_code
def yX12_isThing : MethodName := ⟨RX12, "isThing", "(I)Z"⟩
abbrev cX12_isHouse : ByteArray := prog_14_method_25_code
def yX12_isHouse : MethodName := ⟨RX12, "isHouse", "()Z"⟩
abbrev cX12_isLive : ByteArray := prog_14_method_26_code
def yX12_isLive : MethodName := ⟨RX12, "isLive", "(II)Z"⟩
abbrev cX12_runs : ByteArray := prog_14_method_27_code
def yX12_runs : MethodName := ⟨RX12, "runs", "(II)Z"⟩
abbrev cX12_flowOf : ByteArray := prog_14_method_28_code
def yX12_flowOf : MethodName := ⟨RX12, "flowOf", "(II)I"⟩
abbrev cX12_liveOnes : ByteArray := prog_14_method_29_code
def yX12_liveOnes : MethodName := ⟨RX12, "liveOnes", "(I)I"⟩
abbrev cX12_running : ByteArray := prog_14_method_30_code
def yX12_running : MethodName := ⟨RX12, "running", "(I)I"⟩
abbrev cX12_deadOnes : ByteArray := prog_14_method_31_code
def yX12_deadOnes : MethodName := ⟨RX12, "deadOnes", "()I"⟩
abbrev cX12_heats : ByteArray := prog_14_method_32_code
def yX12_heats : MethodName := ⟨RX12, "heats", "(III)V"⟩
abbrev cX12_cools : ByteArray := prog_14_method_33_code
def yX12_cools : MethodName := ⟨RX12, "cools", "(II)V"⟩
abbrev cX12_passes : ByteArray := prog_14_method_34_code
def yX12_passes : MethodName := ⟨RX12, "passes", "(I)V"⟩
abbrev cX12_copies : ByteArray := prog_14_method_35_code
def yX12_copies : MethodName := ⟨RX12, "copies", "(II)V"⟩
abbrev cX12_known : ByteArray := prog_14_method_36_code
def yX12_known : MethodName := ⟨RX12, "known", "()V"⟩
abbrev cX12_minutes : ByteArray := prog_14_method_37_code
def yX12_minutes : MethodName := ⟨RX12, "minutes", "(I)I"⟩
abbrev cX12_turn : ByteArray := prog_14_method_38_code
def yX12_turn : MethodName := ⟨RX12, "turn", "(II)I"⟩
abbrev cX12_plug : ByteArray := prog_14_method_39_code
def yX12_plug : MethodName := ⟨RX12, "plug", "(II)I"⟩
abbrev cX12_mends : ByteArray := prog_14_method_40_code
def yX12_mends : MethodName := ⟨RX12, "mends", "(II)V"⟩
abbrev cX12_mend : ByteArray := prog_14_method_41_code
def yX12_mend : MethodName := ⟨RX12, "mend", "(I)I"⟩
abbrev cX12_mains : ByteArray := prog_14_method_42_code
def yX12_mains : MethodName := ⟨RX12, "mains", "()I"⟩
abbrev cX12_rate : ByteArray := prog_14_method_43_code
def yX12_rate : MethodName := ⟨RX12, "rate", "(II)I"⟩
abbrev cX12_undo : ByteArray := prog_14_method_44_code
def yX12_undo : MethodName := ⟨RX12, "undo", "()I"⟩
abbrev cX12_line : ByteArray := prog_14_method_45_code
def yX12_line : MethodName := ⟨RX12, "line", "(II)I"⟩
abbrev cX12_thing : ByteArray := prog_14_method_46_code
def yX12_thing : MethodName := ⟨RX12, "thing", "(II)I"⟩
abbrev cX12_goesOn : ByteArray := prog_14_method_47_code
def yX12_goesOn : MethodName := ⟨RX12, "goesOn", "(I)V"⟩
abbrev cX12_heat : ByteArray := prog_14_method_48_code
def yX12_heat : MethodName := ⟨RX12, "heat", "(II)I"⟩
abbrev cX12_later : ByteArray := prog_14_method_49_code
def yX12_later : MethodName := ⟨RX12, "later", "(II)I"⟩
abbrev cX12_lost : ByteArray := prog_14_method_50_code
def yX12_lost : MethodName := ⟨RX12, "lost", "(I)I"⟩
abbrev cX12_dark : ByteArray := prog_14_method_51_code
def yX12_dark : MethodName := ⟨RX12, "dark", "()I"⟩
abbrev cX12_onOnes : ByteArray := prog_14_method_52_code
def yX12_onOnes : MethodName := ⟨RX12, "onOnes", "()I"⟩
abbrev cX12_offs : ByteArray := prog_14_method_53_code
def yX12_offs : MethodName := ⟨RX12, "offs", "(I)V"⟩
abbrev cX12_isLiveFor : ByteArray := prog_14_method_54_code
def yX12_isLiveFor : MethodName := ⟨RX12, "isLiveFor", "(II)Z"⟩
abbrev cX12_shed : ByteArray := prog_14_method_55_code
def yX12_shed : MethodName := ⟨RX12, "shed", "(III)I"⟩
abbrev cX12_usedBehind : ByteArray := prog_14_method_56_code
def yX12_usedBehind : MethodName := ⟨RX12, "usedBehind", "(I)I"⟩
abbrev cX12_plugged : ByteArray := prog_14_method_57_code
def yX12_plugged : MethodName := ⟨RX12, "plugged", "(II)I"⟩
abbrev cX12_plugs : ByteArray := prog_14_method_58_code
def yX12_plugs : MethodName := ⟨RX12, "plugs", "(II)I"⟩
abbrev cX12_holds : ByteArray := prog_14_method_59_code
def yX12_holds : MethodName := ⟨RX12, "holds", "(II)I"⟩
abbrev cX12_faulty : ByteArray := prog_14_method_60_code
def yX12_faulty : MethodName := ⟨RX12, "faulty", "(II)I"⟩
abbrev cX12_bill : ByteArray := prog_14_method_61_code
def yX12_bill : MethodName := ⟨RX12, "bill", "(II)I"⟩
abbrev cX12_isSo : ByteArray := prog_14_method_62_code
def yX12_isSo : MethodName := ⟨RX12, "isSo", "(IIII)Z"⟩
abbrev cX12_sorts : ByteArray := prog_14_method_63_code
def yX12_sorts : MethodName := ⟨RX12, "sorts", "(IIII)I"⟩
abbrev cX12_mainsThat : ByteArray := prog_14_method_64_code
def yX12_mainsThat : MethodName := ⟨RX12, "mainsThat", "(IIIIZ)I"⟩
abbrev cX12_fits : ByteArray := prog_14_method_65_code
def yX12_fits : MethodName := ⟨RX12, "fits", "(IIIII)I"⟩
abbrev cX12_chance : ByteArray := prog_14_method_66_code
def yX12_chance : MethodName := ⟨RX12, "chance", "(IIII)I"⟩
abbrev cX12_drawn : ByteArray := prog_14_method_67_code
def yX12_drawn : MethodName := ⟨RX12, "drawn", "(III)I"⟩
abbrev cX12_image : ByteArray := prog_14_method_68_code
def yX12_image : MethodName := ⟨RX12, "image", "(I)I"⟩
abbrev cX12_restore : ByteArray := prog_14_method_69_code
def yX12_restore : MethodName := ⟨RX12, "restore", "(I)I"⟩
abbrev cX12_kind : ByteArray := prog_14_method_70_code
def yX12_kind : MethodName := ⟨RX12, "kind", "(I)I"⟩
abbrev cX12_as : ByteArray := prog_14_method_71_code
def yX12_as : MethodName := ⟨RX12, "as", "(II)I"⟩
abbrev cX12_leaves : ByteArray := prog_14_method_72_code
def yX12_leaves : MethodName := ⟨RX12, "leaves", "(I)V"⟩
abbrev cX12_lent : ByteArray := prog_14_method_73_code
def yX12_lent : MethodName := ⟨RX12, "lent", "(IZ)I"⟩
abbrev cX12_wireMark : ByteArray := prog_14_method_74_code
def yX12_wireMark : MethodName := ⟨RX12, "wireMark", "(II)I"⟩
abbrev cX12_wireSize : ByteArray := prog_14_method_75_code
def yX12_wireSize : MethodName := ⟨RX12, "wireSize", "(II)I"⟩
abbrev cX12_breakerSize : ByteArray := prog_14_method_76_code
def yX12_breakerSize : MethodName := ⟨RX12, "breakerSize", "(II)I"⟩
abbrev cX12_breakerMark : ByteArray := prog_14_method_77_code
def yX12_breakerMark : MethodName := ⟨RX12, "breakerMark", "(II)I"⟩
abbrev cX12_ask : ByteArray := prog_14_method_78_code
def yX12_ask : MethodName := ⟨RX12, "ask", "(II)I"⟩
abbrev cX12_trace : ByteArray := prog_14_method_79_code
def yX12_trace : MethodName := ⟨RX12, "trace", "(I)I"⟩
abbrev cX12_count : ByteArray := prog_14_method_80_code
def yX12_count : MethodName := ⟨RX12, "count", "(I)I"⟩
abbrev cX12_status : ByteArray := prog_14_method_81_code
def yX12_status : MethodName := ⟨RX12, "status", "()I"⟩
def RJ6 : String := "java/lang/Integer"
def TJ6 : u_T := fun k => match k with
  | _ => ("", "", "", false)
def tyJ6 : Nat → FieldType := fun k => match k with
  | _ => .int
abbrev wsJ60 : List Cond := u_ws RJ6 TJ6 0
theorem nmJ6 : ∀ a, a < 0 → ∀ b, b < 0 → a ≠ b → (TJ6 a).2.1 ≠ (TJ6 b).2.1 := by decide +kernel
theorem tyJ6_ok : ∀ k, k < 0 → parseFieldDescriptor (TJ6 k).2.2.1 = some (tyJ6 k) := by decide +kernel
abbrev cJ6_bitCount_0f7a4 : ByteArray := prog_15_method_49_code
def yJ6_bitCount_0f7a4 : MethodName := ⟨RJ6, "bitCount", "(I)I"⟩
def RJ9 : String := "java/lang/Math"
def TJ9 : u_T := fun k => match k with
  | _ => ("", "", "", false)
def tyJ9 : Nat → FieldType := fun k => match k with
  | _ => .int
abbrev wsJ90 : List Cond := u_ws RJ9 TJ9 0
theorem nmJ9 : ∀ a, a < 0 → ∀ b, b < 0 → a ≠ b → (TJ9 a).2.1 ≠ (TJ9 b).2.1 := by decide +kernel
theorem tyJ9_ok : ∀ k, k < 0 → parseFieldDescriptor (TJ9 k).2.2.1 = some (tyJ9 k) := by decide +kernel
abbrev cJ9_max_7cf53 : ByteArray := prog_16_method_65_code
def yJ9_max_7cf53 : MethodName := ⟨RJ9, "max", "(II)I"⟩
abbrev cJ9_min_7cf53 : ByteArray := prog_16_method_69_code
def yJ9_min_7cf53 : MethodName := ⟨RJ9, "min", "(II)I"⟩
def RJ10 : String := "java/lang/System"
def TJ10 : u_T := fun k => match k with
  | _ => ("", "", "", false)
def tyJ10 : Nat → FieldType := fun k => match k with
  | _ => .int
abbrev wsJ100 : List Cond := u_ws RJ10 TJ10 0
theorem nmJ10 : ∀ a, a < 0 → ∀ b, b < 0 → a ≠ b → (TJ10 a).2.1 ≠ (TJ10 b).2.1 := by decide +kernel
theorem tyJ10_ok : ∀ k, k < 0 → parseFieldDescriptor (TJ10 k).2.2.1 = some (tyJ10 k) := by decide +kernel
def RL : String := "FuseBoxLaw"
abbrev cL_law : ByteArray := code
def yL_law : MethodName := ⟨RL, "law", "([I)Z"⟩
abbrev vwCl : List vw_C := [(RX0, TX0, 0), (RX1, TX1, 0), (RX3, TX3, 15), (RX4, TX4, 7), (RX5, TX5, 0), (RX6, TX6, 7), (RX7, TX7, 3), (RX8, TX8, 0), (RX9, TX9, 2), (RX10, TX10, 0), (RX11, TX11, 12), (RX12, TX12, 23)]
end
section
/-! my own layer: the world as ints by (relative address, place), one fixed shape; rows over it -/
section ZRows
/-- the tables' words that stay, all of them -/
def WL : List Cond := lw_tbl.filter goodWord
theorem mem_WL {w : Cond} (h : w ∈ lw_tbl) (hg : goodWord w = true) : w ∈ WL := List.mem_filter.mpr ⟨h, hg⟩
theorem WL_in : ∀ w ∈ WL, w ∈ lw_tbl := fun _ h => (List.mem_filter.mp h).1
theorem t0_in {w : Cond} (h : w ∈ k2_sels lw_privs) : w ∈ lw_tbl := List.mem_append_left _ h
theorem t1_in {w : Cond} (h : w ∈ tables_1_1) : w ∈ lw_tbl := List.mem_append_right _ (List.mem_append_left _ h)
theorem t2_in {w : Cond} (h : w ∈ tables_1_2) : w ∈ lw_tbl := List.mem_append_right _ (List.mem_append_right _ (List.mem_append_left _ h))
theorem t3_in {w : Cond} (h : w ∈ tables_1_3) : w ∈ lw_tbl := List.mem_append_right _ (List.mem_append_right _ (List.mem_append_right _ (List.mem_append_left _ h)))
theorem t4_in {w : Cond} (h : w ∈ tables_1_4) : w ∈ lw_tbl := List.mem_append_right _ (List.mem_append_right _ (List.mem_append_right _ (List.mem_append_right _ (List.mem_append_left _ h))))
theorem t5_in {w : Cond} (h : w ∈ tables_1_5) : w ∈ lw_tbl := List.mem_append_right _ (List.mem_append_right _ (List.mem_append_right _ (List.mem_append_right _ (List.mem_append_right _ (List.mem_append_left _ h)))))
theorem t6_in {w : Cond} (h : w ∈ tables_1_6) : w ∈ lw_tbl := List.mem_append_right _ (List.mem_append_right _ (List.mem_append_right _ (List.mem_append_right _ (List.mem_append_right _ (List.mem_append_right _ h)))))
abbrev St : Type := Nat → Nat → Int32
def wr (σ : St) (a k : Nat) (v : Int32) : St := va_up σ a (upd (σ a) k v)
/-- a cell's shape: an array (kind of its class, length, whether places may be null, the references if it holds some), or an object (class, its fields: an int, or a reference, that may be null or not) -/
abbrev Shp : Type := (Nat × Nat × Bool × List Nat) ⊕ (Nat × List (Option (Bool × Nat)))
/-- the tables' numbers, the array classes, the first address, which cells may change -/
abbrev Ev : Type := va_G × (Nat → ClassId) × Nat × (Nat → Prop)
def fv (b0 : Nat) (x : Int32) (o : Option (Bool × Nat)) : Value := match o with
  | none => .int x
  | some (false, r) => .ref (b0 + r)
  | some (true, r) => if x = 0 then .null else .ref (b0 + r)
def cellE (b0 : Nat) (dA : Nat → ClassId) (f : Nat → Int32) (x : Shp) : va_E := match x with
  | .inl (k, n, _, []) => .inl (dA k, n, .inl f)
  | .inl (k, n, b, r :: rs) => .inl (dA k, n, .inr (.inr (.inr (.inr (fun i => if b = true ∧ f i = 0 then none else some (b0 + (r :: rs).getD i 0))))))
  | .inr (ci, ks) => .inr (ci, ks.mapIdx (fun k o => fv b0 (f k) o))
def Cov (E : Ev) (sh : Nat → Option Shp) (σ : St) (ws : va_W) : Prop := ∀ (a : Nat) (x : Shp), sh a = some x → ∃ k : Nat, ws[k]? = some (E.2.2.1 + a, cellE E.2.2.1 E.2.1 (σ a) x)
def World (E : Ev) (sh : Nat → Option Shp) (σ : St) (H : Heap) : Prop := ∃ ws : va_W, va_P E.1 vwCl ws H ∧ va_D E.2.2.2 ws ∧ Cov E sh σ ws
def tysOf (dA : Nat → ClassId) : List (ClassId × FieldType) := [(dA 0, .int), (dA 1, .byte), (dA 2, .object "FuseBox$Row"), (dA 3, .object "FuseBox$House"), (dA 4, .object "FuseBox$Fuse")]
theorem cov_set {E : Ev} {sh : Nat → Option Shp} {σ : St} {ws : va_W} {a q : Nat} {x : Shp} (f' : Nat → Int32) (hc : Cov E sh σ ws) (hs : sh a = some x) (hq : ws[q]? = some (E.2.2.1 + a, cellE E.2.2.1 E.2.1 (σ a) x)) : Cov E sh (va_up σ a f') (ws.set q (E.2.2.1 + a, cellE E.2.2.1 E.2.1 f' x)) := by
  intro a' x' hs'
  have hlt : q < ws.length := (List.getElem?_eq_some_iff.mp hq).1
  by_cases h : a' = a
  · subst h
    rw [hs] at hs'
    cases hs'
    refine ⟨q, ?_⟩
    rw [List.getElem?_set_self hlt]
    simp [va_up]
  · obtain ⟨k, hk⟩ := hc a' x' hs'
    refine ⟨k, ?_⟩
    have hne : q ≠ k := by
      intro e
      subst e
      rw [hq] at hk
      have h1 := congrArg Prod.fst (Option.some.inj hk)
      have h2 : E.2.2.1 + a = E.2.2.1 + a' := h1
      omega
    rw [List.getElem?_set_ne hne, hk]
    simp [va_up, h]
theorem mapIdx_get {b0 : Nat} {f : Nat → Int32} {ks : List (Option (Bool × Nat))} {k : Nat} {o : Option (Bool × Nat)} (h : ks[k]? = some o) : (ks.mapIdx (fun k o => fv b0 (f k) o))[k]? = some (fv b0 (f k) o) := by
  rw [List.getElem?_mapIdx, h]; rfl
theorem mapIdx_set {b0 : Nat} {f : Nat → Int32} {ks : List (Option (Bool × Nat))} {k : Nat} {o : Option (Bool × Nat)} {x : Int32} (h : ks[k]? = some o) : (ks.mapIdx (fun k o => fv b0 (f k) o)).set k (fv b0 x o) = ks.mapIdx (fun j o => fv b0 (upd f k x j) o) := by
  apply List.ext_getElem?
  intro j
  by_cases hj : k = j
  · subst hj
    have hlt : k < ks.length := (List.getElem?_eq_some_iff.mp h).1
    rw [List.getElem?_set_self (by simpa using hlt), List.getElem?_mapIdx, h]
    simp [upd]
  · rw [List.getElem?_set_ne hj, List.getElem?_mapIdx, List.getElem?_mapIdx]
    have hj2 : ¬ j = k := fun e => hj e.symm
    have : upd f k x j = f j := by simp [upd, hj2]
    rw [this]
/-- what the tables say beside the words -/
def XT (U : State) : Prop := va_Nw (.declares ⟨"FuseBox$Fuse", "heatBehind", "(II)I"⟩) U ∧ va_Nw (.declares ⟨"FuseBox$Fuse", "deadBehind", "(III)I"⟩) U ∧
  va_Nw (.castable "FuseBox$Slow" "FuseBox$Wire") U ∧ va_Nw (.castable "FuseBox$Quick" "FuseBox$Wire") U ∧ va_Nw (.castable "FuseBox$Coil" "FuseBox$Breaker") U ∧
  va_Nc "FuseBox$Breaker" "FuseBox$Wire" U ∧ va_Nc "FuseBox$Coil" "FuseBox$Wire" U ∧
  va_Nc "FuseBox$Wire" "FuseBox$Slow" U ∧ va_Nc "FuseBox$Quick" "FuseBox$Slow" U ∧ va_Nc "FuseBox$Breaker" "FuseBox$Slow" U ∧ va_Nc "FuseBox$Coil" "FuseBox$Slow" U ∧
  va_Nc "FuseBox$Wire" "FuseBox$Quick" U ∧ va_Nc "FuseBox$Slow" "FuseBox$Quick" U ∧ va_Nc "FuseBox$Breaker" "FuseBox$Quick" U ∧ va_Nc "FuseBox$Coil" "FuseBox$Quick" U ∧
  va_Nc "FuseBox$Wire" "FuseBox$Breaker" U ∧ va_Nc "FuseBox$Slow" "FuseBox$Breaker" U ∧ va_Nc "FuseBox$Quick" "FuseBox$Breaker" U ∧
  va_Nc "FuseBox$Wire" "FuseBox$Coil" U ∧ va_Nc "FuseBox$Slow" "FuseBox$Coil" U ∧ va_Nc "FuseBox$Quick" "FuseBox$Coil" U ∧ va_Nc "FuseBox$Breaker" "FuseBox$Coil" U
theorem XT.warm {s U : State} (hW : s.WarmedH U.vm) (h : XT s) : XT U := by
  obtain ⟨h1, h2, h3, h4, h5, h6, h7, h8, h9, h10, h11, h12, h13, h14, h15, h16, h17, h18, h19, h20, h21, h22⟩ := h
  exact ⟨h1.warmD hW, h2.warmD hW, h3.warmC hW, h4.warmC hW, h5.warmC hW, h6.moved hW.alike, h7.moved hW.alike, h8.moved hW.alike, h9.moved hW.alike, h10.moved hW.alike, h11.moved hW.alike, h12.moved hW.alike, h13.moved hW.alike, h14.moved hW.alike, h15.moved hW.alike, h16.moved hW.alike, h17.moved hW.alike, h18.moved hW.alike, h19.moved hW.alike, h20.moved hW.alike, h21.moved hW.alike, h22.moved hW.alike⟩
theorem XT.same {u U : State} (h0 : u.vm = U.vm) (h : XT u) : XT U := by
  obtain ⟨h1, h2, h3, h4, h5, h6, h7, h8, h9, h10, h11, h12, h13, h14, h15, h16, h17, h18, h19, h20, h21, h22⟩ := h
  have ha : u.vm.Alike U.vm := by rw [← h0]; exact Vm.Alike.refl u.vm
  exact ⟨h1.same rfl h0, h2.same rfl h0, h3.same rfl h0, h4.same rfl h0, h5.same rfl h0, h6.moved ha, h7.moved ha, h8.moved ha, h9.moved ha, h10.moved ha, h11.moved ha, h12.moved ha, h13.moved ha, h14.moved ha, h15.moved ha, h16.moved ha, h17.moved ha, h18.moved ha, h19.moved ha, h20.moved ha, h21.moved ha, h22.moved ha⟩
def TB (E : Ev) (U : State) : Prop := va_K E.1 vwCl (tysOf E.2.1) U ∧ XT U
theorem TB.warm {E : Ev} {s U : State} (hW : s.WarmedH U.vm) (h : TB E s) : TB E U := ⟨va_K.moved hW.alike h.1, h.2.warm hW⟩
theorem TB.same {E : Ev} {u U : State} (h0 : u.vm = U.vm) (h : TB E u) : TB E U := ⟨va_K.moved (by rw [← h0]; exact Vm.Alike.refl u.vm) h.1, h.2.same h0⟩
/-- a method's start and end over the world -/
def PW (E : Ev) (sh : Nat → Option Shp) (av : List Value) (σ : St) : Array Value → State → Prop := va_Pc av (fun U => World E sh σ U.heap ∧ TB E U)
def QW (E : Ev) (sh : Nat → Option Shp) (ov : Option Value) (σ' : St) : Array Value → State → Outcome → State → Prop := fun _ st oc t => oc = .returned ov ∧ World E sh σ' t.heap ∧ va_F E.2.2.2 st t
def MM (l : Launch) (E : Ev) (sh : Nat → Option Shp) (y : MethodName) (cc : ByteArray) (nL : Nat) (ret : Option FieldType) (rm : Room) (av : List Value) (σ : St) (ov : Option Value) (σ' : St) : Prop :=
  Met l y (.code y cc nL ret :: WL) rm (PW E sh av σ) (QW E sh ov σ') 0 0 E.2.2.2
theorem PW.blind {E : Ev} {sh : Nat → Option Shp} {av : List Value} {σ : St} : FrameBlind (PW E sh av σ) := by
  intro a U g mk h
  obtain ⟨h1, h2, h3⟩ := h
  exact ⟨h1, h2, h3.same rfl⟩
def rmd (d : Nat) : Room := { frames := d, cells := 0, slots := 0, locals := 40 * d }
theorem wsgood : ∀ w ∈ WL, ((w.onTables && w.keeps) = true ∨ ∃ ty, w = .arrayClass ty) := fun w h => good_of_word (List.mem_filter.mp h).2
theorem gin {ws : List Cond} (h : ∀ w ∈ ws, w ∈ WL) : GoodIn WL ws := fun w hw => ⟨h w hw, wsgood w (h w hw)⟩
theorem gin_code {y : MethodName} {b : ByteArray} {n : Nat} {r : Option FieldType} (h : Cond.code y b n r ∈ WL) : ∀ w ∈ (Cond.code y b n r :: WL), w ∈ WL := by
  intro w hw
  rcases List.mem_cons.mp hw with e | e
  · rw [e]; exact h
  · exact e
theorem gin_V {own C : String} {index : Nat} {y : MethodName} {b : ByteArray} {n : Nat} {r : Option FieldType} (h1 : Cond.methodLink own index y ∈ WL) (h2 : Cond.instanceMethod y ∈ WL) (h3 : Cond.selects C y y ∈ WL) (h4 : Cond.initialized C ∈ WL) (h5 : Cond.code y b n r ∈ WL) : GoodIn WL (wsV own index C y (Cond.code y b n r :: WL)) := by
  refine gin (fun w hw => ?_)
  unfold wsV at hw
  rcases List.mem_append.mp hw with hw | hw
  · simp only [List.mem_cons, List.not_mem_nil, or_false] at hw
    rcases hw with e | e | e | e <;> rw [e] <;> assumption
  · exact gin_code h5 w hw
theorem gin_S {own : String} {index : Nat} {y : MethodName} {b : ByteArray} {n : Nat} {r : Option FieldType} (h1 : Cond.methodLink own index y ∈ WL) (h2 : Cond.static y ∈ WL) (h4 : Cond.initialized y.cls ∈ WL) (h5 : Cond.code y b n r ∈ WL) : GoodIn WL (va_wsS own index y (Cond.code y b n r :: WL)) := by
  refine gin (fun w hw => ?_)
  unfold va_wsS at hw
  rcases List.mem_append.mp hw with hw | hw
  · simp only [List.mem_cons, List.not_mem_nil, or_false] at hw
    rcases hw with e | e | e <;> rw [e] <;> assumption
  · exact gin_code h5 w hw
theorem gin_U {own C owner : String} {index : Nat} {x y : MethodName} {b : ByteArray} {n : Nat} {r : Option FieldType} (h1 : Cond.methodLink own index x ∈ WL) (h2 : Cond.sameMethod x.cls owner x.name x.desc ∈ WL) (h3 : Cond.selects C x y ∈ WL) (h4 : Cond.instanceMethod y ∈ WL) (h6 : Cond.initialized y.cls ∈ WL) (h5 : Cond.code y b n r ∈ WL) : GoodIn WL (va_wsU own index C owner x y (Cond.code y b n r :: WL)) := by
  refine gin (fun w hw => ?_)
  unfold va_wsU at hw
  rcases List.mem_append.mp hw with hw | hw
  · simp only [List.mem_cons, List.not_mem_nil, or_false] at hw
    rcases hw with e | e | e | e | e <;> rw [e] <;> assumption
  · exact gin_code h5 w hw
theorem gin_O {own C owner : String} {index : Nat} {x y : MethodName} {b : ByteArray} {n : Nat} {r : Option FieldType} (h1 : Cond.methodLink own index x ∈ WL) (h2 : Cond.sameMethod x.cls owner x.name x.desc ∈ WL) (h7 : Cond.instanceMethod ⟨owner, x.name, x.desc⟩ ∈ WL) (h3 : Cond.selects C x y ∈ WL) (h4 : Cond.instanceMethod y ∈ WL) (h6 : Cond.initialized y.cls ∈ WL) (h5 : Cond.code y b n r ∈ WL) : GoodIn WL (va_wsO own index C owner x y (Cond.code y b n r :: WL)) := by
  refine gin (fun w hw => ?_)
  unfold va_wsO at hw
  rcases List.mem_append.mp hw with hw | hw
  · simp only [List.mem_cons, List.not_mem_nil, or_false] at hw
    rcases hw with e | e | e | e | e | e <;> rw [e] <;> assumption
  · exact gin_code h5 w hw
theorem gin_SU {own : String} {index : Nat} {y : MethodName} {b : ByteArray} {n : Nat} {r : Option FieldType} (h1 : Cond.methodLink own index y ∈ WL) (h2 : Cond.sameMethod y.cls y.cls y.name y.desc ∈ WL) (h3 : Cond.superclass own y.cls ∈ WL) (h4 : Cond.instanceMethod y ∈ WL) (h6 : Cond.initialized y.cls ∈ WL) (h5 : Cond.code y b n r ∈ WL) : GoodIn WL (va_wsSU own index y (Cond.code y b n r :: WL)) := by
  refine gin (fun w hw => ?_)
  unfold va_wsSU at hw
  rcases List.mem_append.mp hw with hw | hw
  · simp only [List.mem_cons, List.not_mem_nil, or_false] at hw
    rcases hw with e | e | e | e | e <;> rw [e] <;> assumption
  · exact gin_code h5 w hw
/-- what stands at every point of a method's walk -/
def Cx (p : Program) (s : State) (m : MethodId) (args : Array Value) (c : Code) (cc : ByteArray) (nL : Nat) (own : String) (E : Ev) : Prop := p.tables.exec = Jvm.exec ∧ c.code = cc ∧ c.maxLocals = nL ∧ s.vm.findClass own = some m.cls ∧ (∀ w ∈ WL, w.before args s = true) ∧ TB E s
end ZRows
section ZWalk
variable {p : Program} {l : Launch} {e : Env} {R : Room} {s : State} {m : MethodId} {args : Array Value} {below : List Frame} {meth : Method} {c : Code} {H : Heap} {locs : List Loc} {cells slots : Nat} {Q : State → Prop} {E : Ev} {sh : Nat → Option Shp} {σ : St} {pc : Nat} {ls : Array Slot} {rest : List Value} {cc : ByteArray} {nL : Nat} {own : String}
theorem z_get (hC : Cx p s m args c cc nL own E) (hw : World E sh σ H) {a ci : Nat} {ks : List (Option (Bool × Nat))} (hs : sh a = some (.inr (ci, ks))) {C : String} {T : u_T} {N : Nat} (hc : vwCl[ci]? = some (C, T, N)) (hin : ∀ w ∈ u_ws C T N, w ∈ WL) (k : Nat) (hk : k < N) {o : Option (Bool × Nat)} (ho : ks[k]? = some o) {v : Value} (hv : fv E.2.2.1 (σ a k) o = v) {index : Nat} (hl : Cond.fieldLink own index (T k).1 (T k).2.1 (T k).2.2.1 ∈ WL) (hdg : decode cc pc = .ok (.getfield index, 3))
    (kk : W p l e R s m args below meth c H locs cells slots Q (F0 m (pc + 3) ls (v :: rest))) : W p l e R s m args below meth c H locs cells slots Q (F0 m pc ls (.ref (E.2.2.1 + a) :: rest)) := by
  obtain ⟨hx, hb, hml, hown, hts, hT⟩ := hC
  obtain ⟨ws, hP, hD, hcv⟩ := hw
  obtain ⟨q, hq⟩ := hcv a _ hs
  subst hv
  exact va_get (ref := (T k).1) hx hb hts hin hown hT.1 hP q hq hc k hk (hts _ hl) (fun _ h => h) (mapIdx_get ho) hdg kk
theorem z_put (hC : Cx p s m args c cc nL own E) (hw : World E sh σ H) (hS : va_S E.2.2.2 s.heap H locs) {a ci : Nat} {ks : List (Option (Bool × Nat))} (hs : sh a = some (.inr (ci, ks))) {C : String} {T : u_T} {N : Nat} (hc : vwCl[ci]? = some (C, T, N)) (hin : ∀ w ∈ u_ws C T N, w ∈ WL) (ty0 : Nat → FieldType) (hty : ∀ k, k < N → parseFieldDescriptor (T k).2.2.1 = some (ty0 k)) (hnm : ∀ a, a < N → ∀ b, b < N → a ≠ b → (T a).2.1 ≠ (T b).2.1) (k : Nat) (hk : k < N) {o : Option (Bool × Nat)} (ho : ks[k]? = some o) (hfin : (T k).2.2.2 = false) {x : Int32} {v : Value} (hv : fv E.2.2.1 x o = v) (hn : narrow (ty0 k) v = v) (hfit : fits (ty0 k) v = true) {index : Nat} (hl : Cond.fieldLink own index (T k).1 (T k).2.1 (T k).2.2.1 ∈ WL) {σ' : St} (hσ : σ' = wr σ a k x) (hdg : decode cc pc = .ok (.putfield index, 3))
    (kk : ∀ (H1 : Heap) (locs1 : List Loc), World E sh σ' H1 → va_S E.2.2.2 s.heap H1 locs1 → W p l e R s m args below meth c H1 locs1 cells slots Q (F0 m (pc + 3) ls rest)) : W p l e R s m args below meth c H locs cells slots Q (F0 m pc ls (v :: .ref (E.2.2.1 + a) :: rest)) := by
  obtain ⟨hx, hb, hml, hown, hts, hT⟩ := hC
  obtain ⟨ws, hP, hD, hcv⟩ := hw
  obtain ⟨q, hq⟩ := hcv a _ hs
  subst hv
  subst hσ
  have hlen : k < (ks.mapIdx (fun k o => fv E.2.2.1 (σ a k) o)).length := by
    have h := (List.getElem?_eq_some_iff.mp ho).1
    simpa using h
  refine va_put (ref := (T k).1) hx hb hts hin ty0 hty hnm hown hT.1 hP hD hS q hq hc k hk (hts _ hl) (fun _ h => h) hfin (hty k hk) hn hfit hlen hdg (fun H1 locs1 hP1 hD1 hS1 => ?_)
  rw [mapIdx_set ho] at hP1 hD1
  exact kk H1 locs1 ⟨_, hP1, hD1, cov_set (upd (σ a) k x) hcv hs hq⟩ hS1
theorem z_iald (hC : Cx p s m args c cc nL own E) (hw : World E sh σ H) {a n : Nat} {bb : Bool} (hs : sh a = some (.inl (0, n, bb, []))) {i : Int32} (hin : vp_in i n) (hdg : decode cc pc = .ok (.iaload, 1))
    (kk : W p l e R s m args below meth c H locs cells slots Q (F0 m (pc + 1) ls (.int (σ a i.toNatClampNeg) :: rest))) : W p l e R s m args below meth c H locs cells slots Q (F0 m pc ls (.int i :: .ref (E.2.2.1 + a) :: rest)) := by
  obtain ⟨hx, hb, hml, hown, hts, hT⟩ := hC
  obtain ⟨ws, hP, hD, hcv⟩ := hw
  obtain ⟨q, hq⟩ := hcv a _ hs
  exact va_iald hx hb hT.1 hP q 0 hq rfl hin hdg kk
theorem z_bald (hC : Cx p s m args c cc nL own E) (hw : World E sh σ H) {a n : Nat} {bb : Bool} (hs : sh a = some (.inl (1, n, bb, []))) {i : Int32} (hin : vp_in i n) (hdg : decode cc pc = .ok (.baload, 1))
    (kk : W p l e R s m args below meth c H locs cells slots Q (F0 m (pc + 1) ls (.int (σ a i.toNatClampNeg) :: rest))) : W p l e R s m args below meth c H locs cells slots Q (F0 m pc ls (.int i :: .ref (E.2.2.1 + a) :: rest)) := by
  obtain ⟨hx, hb, hml, hown, hts, hT⟩ := hC
  obtain ⟨ws, hP, hD, hcv⟩ := hw
  obtain ⟨q, hq⟩ := hcv a _ hs
  exact va_bald hx hb hT.1 hP q 1 hq rfl hin hdg kk
theorem z_iast (hC : Cx p s m args c cc nL own E) (hw : World E sh σ H) (hS : va_S E.2.2.2 s.heap H locs) {a n : Nat} {bb : Bool} (hs : sh a = some (.inl (0, n, bb, []))) {i x : Int32} (hin : vp_in i n) {σ' : St} (hσ : σ' = wr σ a i.toNatClampNeg x) (hdg : decode cc pc = .ok (.iastore, 1))
    (kk : ∀ (H1 : Heap) (locs1 : List Loc), World E sh σ' H1 → va_S E.2.2.2 s.heap H1 locs1 → W p l e R s m args below meth c H1 locs1 cells slots Q (F0 m (pc + 1) ls rest)) : W p l e R s m args below meth c H locs cells slots Q (F0 m pc ls (.int x :: .int i :: .ref (E.2.2.1 + a) :: rest)) := by
  obtain ⟨hx, hb, hml, hown, hts, hT⟩ := hC
  obtain ⟨ws, hP, hD, hcv⟩ := hw
  obtain ⟨q, hq⟩ := hcv a _ hs
  subst hσ
  exact va_iast hx hb hT.1 hP hD hS q 0 hq rfl hin hdg (fun H1 locs1 hP1 hD1 hS1 => kk H1 locs1 ⟨_, hP1, hD1, cov_set (upd (σ a) i.toNatClampNeg x) hcv hs hq⟩ hS1)
theorem z_bast (hC : Cx p s m args c cc nL own E) (hw : World E sh σ H) (hS : va_S E.2.2.2 s.heap H locs) {a n : Nat} {bb : Bool} (hs : sh a = some (.inl (1, n, bb, []))) {i x : Int32} (hin : vp_in i n) {σ' : St} (hσ : σ' = wr σ a i.toNatClampNeg (vp_nar .byte x)) (hdg : decode cc pc = .ok (.bastore, 1))
    (kk : ∀ (H1 : Heap) (locs1 : List Loc), World E sh σ' H1 → va_S E.2.2.2 s.heap H1 locs1 → W p l e R s m args below meth c H1 locs1 cells slots Q (F0 m (pc + 1) ls rest)) : W p l e R s m args below meth c H locs cells slots Q (F0 m pc ls (.int x :: .int i :: .ref (E.2.2.1 + a) :: rest)) := by
  obtain ⟨hx, hb, hml, hown, hts, hT⟩ := hC
  obtain ⟨ws, hP, hD, hcv⟩ := hw
  obtain ⟨q, hq⟩ := hcv a _ hs
  subst hσ
  exact va_bast hx hb hT.1 hP hD hS q 1 hq rfl hin hdg (fun H1 locs1 hP1 hD1 hS1 => kk H1 locs1 ⟨_, hP1, hD1, cov_set (upd (σ a) i.toNatClampNeg (vp_nar .byte x)) hcv hs hq⟩ hS1)
theorem z_aald (hC : Cx p s m args c cc nL own E) (hw : World E sh σ H) {a k n r0 : Nat} {rs : List Nat} (hs : sh a = some (.inl (k, n, false, r0 :: rs))) {Cn : String} (ht : (tysOf E.2.1)[k]? = some (E.2.1 k, .object Cn)) {i : Int32} (hin : vp_in i n) {r : Nat} (hr : (r0 :: rs).getD i.toNatClampNeg 0 = r) (hdg : decode cc pc = .ok (.aaload, 1))
    (kk : W p l e R s m args below meth c H locs cells slots Q (F0 m (pc + 1) ls (.ref (E.2.2.1 + r) :: rest))) : W p l e R s m args below meth c H locs cells slots Q (F0 m pc ls (.int i :: .ref (E.2.2.1 + a) :: rest)) := by
  obtain ⟨hx, hb, hml, hown, hts, hT⟩ := hC
  obtain ⟨ws, hP, hD, hcv⟩ := hw
  obtain ⟨q, hq⟩ := hcv a _ hs
  subst hr
  exact va_aldq hx hb hT.1 hP q k hq ht hin hdg kk
theorem z_alen (hC : Cx p s m args c cc nL own E) (hw : World E sh σ H) {a k n : Nat} {bb : Bool} (hs : sh a = some (.inl (k, n, bb, []))) {ty : FieldType} (ht : (tysOf E.2.1)[k]? = some (E.2.1 k, ty)) {v : Int32} (hv : Int32.ofNat n = v) (hdg : decode cc pc = .ok (.arraylength, 1))
    (kk : W p l e R s m args below meth c H locs cells slots Q (F0 m (pc + 1) ls (.int v :: rest))) : W p l e R s m args below meth c H locs cells slots Q (F0 m pc ls (.ref (E.2.2.1 + a) :: rest)) := by
  obtain ⟨hx, hb, hml, hown, hts, hT⟩ := hC
  obtain ⟨ws, hP, hD, hcv⟩ := hw
  obtain ⟨q, hq⟩ := hcv a _ hs
  exact va_alen hx hb hT.1 hP q k hq ht hv hdg kk
theorem z_copy (hC : Cx p s m args c cc nL own E) (hls : ls.size = nL) (hw : World E sh σ H) (hS : va_S E.2.2.2 s.heap H locs) {a a0 n0 n1 : Nat} {b0 b1 : Bool} (hs0 : sh a0 = some (.inl (0, n0, b0, []))) (hs1 : sh a = some (.inl (0, n1, b1, []))) {index : Nat} (hlink : Cond.methodLink own index arraycopyName ∈ WL) (hnat : Cond.native arraycopyName ∈ WL) (hstat : Cond.static arraycopyName ∈ WL) (hini : Cond.initialized "java/lang/System" ∈ WL)
    {sp dp n : Int32} (h1 : ¬ sp < 0) (h2 : ¬ dp < 0) (h3 : ¬ n < 0) (h4 : sp.toNatClampNeg + n.toNatClampNeg ≤ n0) (h5 : dp.toNatClampNeg + n.toNatClampNeg ≤ n1) (hframes : 1 ≤ R.frames) (hlocals : (rest.map fun v => v.category).sum + (nativeFrameWords "java/lang/System" "arraycopy" 5 + 11) ≤ R.locals) {σ' : St} (hσ : σ' = va_up σ a (va_cpy (σ a0) (σ a) sp.toNatClampNeg dp.toNatClampNeg n.toNatClampNeg)) (hdg : decode cc pc = .ok (.invokestatic index, 3))
    (kk : ∀ (H1 : Heap) (locs1 : List Loc), World E sh σ' H1 → va_S E.2.2.2 s.heap H1 locs1 → W p l e R s m args below meth c H1 locs1 cells slots Q (F0 m (pc + 3) ls rest)) : W p l e R s m args below meth c H locs cells slots Q (F0 m pc ls (.int n :: .int dp :: .ref (E.2.2.1 + a) :: .int sp :: .ref (E.2.2.1 + a0) :: rest)) := by
  obtain ⟨hx, hb, hml, hown, hts, hT⟩ := hC
  obtain ⟨ws, hP, hD, hcv⟩ := hw
  obtain ⟨q, hq⟩ := hcv a _ hs1
  obtain ⟨q', hq'⟩ := hcv a0 _ hs0
  subst hσ
  exact va_copyi hx hb (hml.trans hls.symm) hown (hts _ hlink) (hts _ hnat) (hts _ hstat) (hts _ hini) hT.1 hP hD hS q' q 0 0 (ty := .int) hq' hq rfl rfl rfl h1 h2 h3 h4 h5 (fun _ _ => rfl) hframes hlocals hdg (fun H1 locs1 hP1 hD1 hS1 => kk H1 locs1 ⟨_, hP1, hD1, cov_set _ hcv hs1 hq⟩ hS1)
theorem z_max (hC : Cx p s m args c cc nL own E) (hls : ls.size = nL) {index : Nat} (hlink : Cond.methodLink own index Lib.Math.max.name ∈ WL) (hstat : Cond.static Lib.Math.max.name ∈ WL) (hini : Cond.initialized "java/lang/Math" ∈ WL) (hcode : Cond.code Lib.Math.max.name Lib.Math.max.code 2 (some .int) ∈ WL) (hframes : 1 ≤ R.frames) (hlocals : (rest.map fun v => v.category).sum + 13 ≤ R.locals) (hc : cells ≤ R.cells) (hs : slots ≤ R.slots) {x y : Int32} (hdg : decode cc pc = .ok (.invokestatic index, 3))
    (kk : W p l e R s m args below meth c H locs cells slots Q (F0 m (pc + 3) ls (.int (if x < y then y else x) :: rest))) : W p l e R s m args below meth c H locs cells slots Q (F0 m pc ls (.int y :: .int x :: rest)) := by
  obtain ⟨hx, hb, hml, hown, hts, hT⟩ := hC
  exact va_mmax hx hb (hml.trans hls.symm) hown (hts _ hlink) (hts _ hstat) (hts _ hini) (hts _ hcode) hframes hlocals hc hs hdg kk
theorem z_min (hC : Cx p s m args c cc nL own E) (hls : ls.size = nL) {index : Nat} (hlink : Cond.methodLink own index Lib.Math.min.name ∈ WL) (hstat : Cond.static Lib.Math.min.name ∈ WL) (hini : Cond.initialized "java/lang/Math" ∈ WL) (hcode : Cond.code Lib.Math.min.name Lib.Math.min.code 2 (some .int) ∈ WL) (hframes : 1 ≤ R.frames) (hlocals : (rest.map fun v => v.category).sum + 13 ≤ R.locals) (hc : cells ≤ R.cells) (hs : slots ≤ R.slots) {x y : Int32} (hdg : decode cc pc = .ok (.invokestatic index, 3))
    (kk : W p l e R s m args below meth c H locs cells slots Q (F0 m (pc + 3) ls (.int (if y < x then y else x) :: rest))) : W p l e R s m args below meth c H locs cells slots Q (F0 m pc ls (.int y :: .int x :: rest)) := by
  obtain ⟨hx, hb, hml, hown, hts, hT⟩ := hC
  exact va_mmin hx hb (hml.trans hls.symm) hown (hts _ hlink) (hts _ hstat) (hts _ hini) (hts _ hcode) hframes hlocals hc hs hdg kk
/-- behind a call -/
theorem z_run {ov : Option Value} {σ' : St} {st0 : List Value} {a : Array Value} (hr : va_Run p l e R s m args below meth c H locs cells slots 0 0 (F0 m pc ls st0) rest (QW E sh ov σ' a) E.2.2.2) (hS : va_S E.2.2.2 s.heap H locs)
    (kk : ∀ (H1 : Heap) (locs1 : List Loc), World E sh σ' H1 → va_S E.2.2.2 s.heap H1 locs1 → W p l e R s m args below meth c H1 locs1 cells slots Q (F0 m (pc + 3) ls (ov.toList ++ rest))) : W p l e R s m args below meth c H locs cells slots Q (F0 m pc ls st0) := by
  intro T hT X
  obtain ⟨v, st₀, t, T', L, h0, X', hL, e1, e2, ⟨hv, hw, hz, hk⟩, st⟩ := hr T hT X
  cases hv
  rw [h0] at hz hk
  obtain ⟨t2, a1, b1⟩ := kk T'.heap (locs ++ L) (by rw [e1]; exact hw)
    ⟨Nat.le_trans hS.1 (by rw [e1]; exact hz), fun q h1 h2 => by rw [e1, hk q (Nat.lt_of_lt_of_le h1 hS.1) h2]; exact hS.2.1 q h1 h2, fun q hq => by
      rcases List.mem_append.mp hq with h | h
      · exact hS.2.2 q h
      · exact hL q h⟩ T' rfl X'
  exact ⟨t2, st t2 a1, b1⟩
theorem z_pre (hC : Cx p s m args c cc nL own E) (hw : World E sh σ H) {av : List Value} : ∀ U : State, U.heap = H → s.WarmedH U.vm → PW E sh av σ av.toArray U := by
  intro U hU hW
  exact ⟨rfl, by rw [hU]; exact hw, hC.2.2.2.2.2.warm hW⟩
theorem z_recv (hC : Cx p s m args c cc nL own E) (hw : World E sh σ H) {a ci : Nat} {ks : List (Option (Bool × Nat))} (hs : sh a = some (.inr (ci, ks))) {q : vw_C} (hc : vwCl[ci]? = some q) : ∃ cell : Cell, H[E.2.2.1 + a]? = some cell ∧ cell.vm.isStatics = false ∧ s.vm.findClass q.1 = some cell.cls := by
  obtain ⟨ws, hP, hD, hcv⟩ := hw
  obtain ⟨k, hk⟩ := hcv a _ hs
  exact va_recv hC.2.2.2.2.2.1 hP hc hk
theorem z_cV (hC : Cx p s m args c cc nL own E) (hls : ls.size = nL) (hw : World E sh σ H) (hS : va_S E.2.2.2 s.heap H locs) {y : MethodName} {bytes : ByteArray} {maxL : Nat} {ret : Option FieldType} {d a : Nat} {As : List Value} {ov : Option Value} {σ' : St} (hM : MM l E sh y bytes maxL ret (rmd d) (.ref (E.2.2.1 + a) :: As) σ ov σ') {ci : Nat} {ks : List (Option (Bool × Nat))} (hs : sh a = some (.inr (ci, ks))) {C : String} {T : u_T} {N : Nat} (hc : vwCl[ci]? = some (C, T, N)) {index n : Nat} (hg : GoodIn WL (wsV own index C y (Cond.code y bytes maxL ret :: WL))) (hd : y.cls = C ∧ y.cls ≠ "java/lang/invoke/MethodHandle" ∧ y.cls ≠ "java/lang/invoke/VarHandle" ∧ (parseMethodDescriptor y.desc).map (fun d => d.parameters.length) = some n) (hR : d + 1 ≤ R.frames ∧ 8 + (maxL + 11) + 40 * d ≤ R.locals) (hf : cells + 0 ≤ R.cells ∧ slots + 0 ≤ R.slots)
    (hn : As.length = n) {st0 : List Value} (hst : st0 = As.reverse ++ .ref (E.2.2.1 + a) :: rest) (hW : (rest.map fun v => v.category).sum ≤ 8) (hdg : decode cc pc = .ok (.invokevirtual index, 3))
    (kk : ∀ (H1 : Heap) (locs1 : List Loc), World E sh σ' H1 → va_S E.2.2.2 s.heap H1 locs1 → W p l e R s m args below meth c H1 locs1 cells slots Q (F0 m (pc + 3) ls (ov.toList ++ rest))) : W p l e R s m args below meth c H locs cells slots Q (F0 m pc ls st0) := by
  obtain ⟨hx, hb, hml, hown, hts, hT⟩ := id hC
  exact z_run (va_runV (As := As) (rest := rest) ⟨hx, hb, hml, hown, hts⟩ hM (cwV n hts hg rfl rfl rfl hd hR) ⟨PW.blind, z_recv hC hw hs hc, z_pre hC hw⟩ rfl hn hls hst (lv_room hW) hdg hf) hS kk
theorem z_cS (hC : Cx p s m args c cc nL own E) (hls : ls.size = nL) (hw : World E sh σ H) (hS : va_S E.2.2.2 s.heap H locs) {y : MethodName} {bytes : ByteArray} {maxL : Nat} {ret : Option FieldType} {d : Nat} {As : List Value} {ov : Option Value} {σ' : St} (hM : MM l E sh y bytes maxL ret (rmd d) As σ ov σ') {index n : Nat} (hg : GoodIn WL (va_wsS own index y (Cond.code y bytes maxL ret :: WL))) (hd : y.cls ≠ "java/lang/invoke/MethodHandle" ∧ y.cls ≠ "java/lang/invoke/VarHandle" ∧ (parseMethodDescriptor y.desc).map (fun d => d.parameters.length) = some n) (hR : d + 1 ≤ R.frames ∧ 8 + (maxL + 11) + 40 * d ≤ R.locals) (hf : cells + 0 ≤ R.cells ∧ slots + 0 ≤ R.slots)
    (hn : As.length = n) {st0 : List Value} (hst : st0 = As.reverse ++ rest) (hW : (rest.map fun v => v.category).sum ≤ 8) (hdg : decode cc pc = .ok (.invokestatic index, 3))
    (kk : ∀ (H1 : Heap) (locs1 : List Loc), World E sh σ' H1 → va_S E.2.2.2 s.heap H1 locs1 → W p l e R s m args below meth c H1 locs1 cells slots Q (F0 m (pc + 3) ls (ov.toList ++ rest))) : W p l e R s m args below meth c H locs cells slots Q (F0 m pc ls st0) := by
  obtain ⟨hx, hb, hml, hown, hts, hT⟩ := id hC
  exact z_run (va_runS (As := As) (rest := rest) ⟨hx, hb, hml, hown, hts⟩ hM (va_cwS n hts hg rfl rfl rfl hd hR) ⟨PW.blind, z_pre hC hw⟩ rfl hn hls hst (lv_room hW) hdg hf) hS kk
theorem z_cU (hC : Cx p s m args c cc nL own E) (hls : ls.size = nL) (hw : World E sh σ H) (hS : va_S E.2.2.2 s.heap H locs) {x y : MethodName} {bytes : ByteArray} {maxL : Nat} {ret : Option FieldType} {d a : Nat} {As : List Value} {ov : Option Value} {σ' : St} (hM : MM l E sh y bytes maxL ret (rmd d) (.ref (E.2.2.1 + a) :: As) σ ov σ') {ci : Nat} {ks : List (Option (Bool × Nat))} (hs : sh a = some (.inr (ci, ks))) {C owner : String} {T : u_T} {N : Nat} (hc : vwCl[ci]? = some (C, T, N)) {index n : Nat} (cw : va_CU R s args own C owner index x y bytes maxL ret (Cond.code y bytes maxL ret :: WL) (rmd d) 0 0 n) (hf : cells + 0 ≤ R.cells ∧ slots + 0 ≤ R.slots)
    (hn : As.length = n) {st0 : List Value} (hst : st0 = As.reverse ++ .ref (E.2.2.1 + a) :: rest) (hW : (rest.map fun v => v.category).sum ≤ 8) (hdg : decode cc pc = .ok (.invokevirtual index, 3))
    (kk : ∀ (H1 : Heap) (locs1 : List Loc), World E sh σ' H1 → va_S E.2.2.2 s.heap H1 locs1 → W p l e R s m args below meth c H1 locs1 cells slots Q (F0 m (pc + 3) ls (ov.toList ++ rest))) : W p l e R s m args below meth c H locs cells slots Q (F0 m pc ls st0) := by
  obtain ⟨hx, hb, hml, hown, hts, hT⟩ := id hC
  exact z_run (va_runU (As := As) (rest := rest) ⟨hx, hb, hml, hown, hts⟩ hM cw ⟨PW.blind, z_recv hC hw hs hc, z_pre hC hw⟩ rfl hn hls hst (lv_room hW) hdg hf) hS kk
theorem z_cSU (hC : Cx p s m args c cc nL own E) (hls : ls.size = nL) (hw : World E sh σ H) (hS : va_S E.2.2.2 s.heap H locs) {y : MethodName} {bytes : ByteArray} {maxL : Nat} {ret : Option FieldType} {d a : Nat} {As : List Value} {ov : Option Value} {σ' : St} (hM : MM l E sh y bytes maxL ret (rmd d) (.ref (E.2.2.1 + a) :: As) σ ov σ') {ci : Nat} {ks : List (Option (Bool × Nat))} (hs : sh a = some (.inr (ci, ks))) {C : String} {T : u_T} {N : Nat} (hc : vwCl[ci]? = some (C, T, N)) {index n : Nat} (hg : GoodIn WL (va_wsSU own index y (Cond.code y bytes maxL ret :: WL))) (hd : y.name ≠ "<init>" ∧ (parseMethodDescriptor y.desc).map (fun d => d.parameters.length) = some n) (hR : d + 1 ≤ R.frames ∧ 8 + (maxL + 11) + 40 * d ≤ R.locals) (hf : cells + 0 ≤ R.cells ∧ slots + 0 ≤ R.slots)
    (hn : As.length = n) {st0 : List Value} (hst : st0 = As.reverse ++ .ref (E.2.2.1 + a) :: rest) (hW : (rest.map fun v => v.category).sum ≤ 8) (hdg : decode cc pc = .ok (.invokespecial index, 3))
    (kk : ∀ (H1 : Heap) (locs1 : List Loc), World E sh σ' H1 → va_S E.2.2.2 s.heap H1 locs1 → W p l e R s m args below meth c H1 locs1 cells slots Q (F0 m (pc + 3) ls (ov.toList ++ rest))) : W p l e R s m args below meth c H locs cells slots Q (F0 m pc ls st0) := by
  obtain ⟨hx, hb, hml, hown, hts, hT⟩ := id hC
  exact z_run (va_runSU (As := As) (rest := rest) (hT.1.1 ci _ hc).2 ⟨hx, hb, hml, hown, hts⟩ hM (va_cwSU n hts hg rfl rfl rfl hd hR) ⟨PW.blind, z_recv hC hw hs hc, z_pre hC hw⟩ rfl hn hls hst (lv_room hW) hdg hf) hS kk
/-- the ends -/
theorem z_iret (hC : Cx p s m args c cc nL own E) (hlocks : meth.locks = false) (hw : World E sh σ H) (hS : va_S E.2.2.2 s.heap H locs) {v : Int32} {ty : FieldType} (hr : meth.sig.returnType = some ty) (hn : narrow ty (.int v) = .int v) (hdg : decode cc pc = .ok (.ireturn, 1)) : W p l e R s m args below meth c H locs 0 0 (MQ below (QW E sh (some (.int v)) σ) args s 0 0 E.2.2.2) (F0 m pc ls [.int v]) :=
  W.zret hC.1 hC.2.1 hr hn (fun t ht hW => ⟨rfl, by rw [ht]; exact hw, hS.F ht⟩) hS.2.2 hdg hlocks
theorem z_vret (hC : Cx p s m args c cc nL own E) (hlocks : meth.locks = false) (hw : World E sh σ H) (hS : va_S E.2.2.2 s.heap H locs) (hr : meth.sig.returnType = none) (hdg : decode cc pc = .ok (.return_, 1)) : W p l e R s m args below meth c H locs 0 0 (MQ below (QW E sh none σ) args s 0 0 E.2.2.2) (F0 m pc ls []) :=
  W.vret hC.1 hC.2.1 hr (fun t ht hW => ⟨rfl, by rw [ht]; exact hw, hS.F ht⟩) hS.2.2 hdg hlocks
theorem z_aret (hC : Cx p s m args c cc nL own E) (hlocks : meth.locks = false) (hw : World E sh σ H) (hS : va_S E.2.2.2 s.heap H locs) {a : Nat} {nm : String} (hr : meth.sig.returnType = some (.object nm)) (hdg : decode cc pc = .ok (.areturn, 1)) : W p l e R s m args below meth c H locs 0 0 (MQ below (QW E sh (some (.ref (E.2.2.1 + a))) σ) args s 0 0 E.2.2.2) (F0 m pc ls [.ref (E.2.2.1 + a)]) :=
  W.aret hC.1 hC.2.1 hr (Or.inl ⟨nm, rfl⟩) (Or.inr ⟨_, rfl⟩) (fun t ht hW => ⟨rfl, by rw [ht]; exact hw, hS.F ht⟩) hS.2.2 hdg hlocks
end ZWalk
/-- a method's contract out of its walk -/
theorem z_enter {l : Launch} {E : Ev} {sh : Nat → Option Shp} {y : MethodName} {cc : ByteArray} {nL : Nat} {ret : Option FieldType} {rm : Room} {av : List Value} {σ σ' : St} {ov : Option Value} (hy : plainName y.cls = true) (hlen : (lg_sl av).length ≤ nL)
    (body : ∀ (p : Program) (e : Env) (s : State) (m : MethodId) (args : Array Value) (below : List Frame) (meth : Method) (c : Code) (ls : Array Slot), Cx p s m args c cc nL y.cls E → meth.sig.returnType = ret → meth.locks = false → World E sh σ s.heap → va_S E.2.2.2 s.heap s.heap [] → lv_has ls nL (lv_args 0 av) → W p l e rm s m args below meth c s.heap [] 0 0 (MQ below (QW E sh ov σ') args s 0 0 E.2.2.2) (F0 m 0 ls [])) : MM l E sh y cc nL ret rm av σ ov σ' := by
  refine Met.ofW (cc := cc) (maxL := nL) (ret := ret) hy rfl ?_
  intro p e s m args below meth c s₁ B hml hv
  obtain ⟨rfl, hw, hT⟩ := hv
  have hts := atoms_spec (ws := .code y cc nL ret :: WL) B.pre
  rw [lg_entry_eq]
  have hl := lv_entry av (n := nL) hlen
  generalize (lg_sl av ++ List.replicate (nL - (lg_sl av).length) Slot.unset).toArray = ls at hl ⊢
  exact body p e s m _ below meth c ls ⟨B.exec, B.bytes, hml, findClass_of_methodNamed B.named, fun w h => hts w (List.mem_cons_of_mem _ h), hT⟩ B.returns B.notSynchronized hw va_S.rf hl
/-! the pure programs: a value named, a loop with fuel; how a value that came out is taken apart -/
def lt {α β : Type} (e : α) (f : α → β) : β := f e
def loopF {σ ρ : Type} (body : σ → Option (σ ⊕ ρ)) : Nat → σ → Option ρ
  | 0, _ => none
  | n + 1, s => match body s with
    | none => none
    | some (.inl s') => loopF body n s'
    | some (.inr r) => some r
abbrev isB (x : Int32) : Prop := x = 0 ∨ x = 1
abbrev inb (i : Int32) (n : Nat) : Prop := ¬ (i < 0 ∨ n ≤ i.toNatClampNeg)
theorem ok_if {α : Type} {c : Prop} [Decidable c] {A B : Option α} {z : α} (h : (if c then A else B) = some z) : (c → A = some z) ∧ (¬ c → B = some z) := by
  refine ⟨fun q => ?_, fun q => ?_⟩
  · rw [if_pos q] at h; exact h
  · rw [if_neg q] at h; exact h
theorem ok_chk {α : Type} {c : Prop} [Decidable c] {A : Option α} {z : α} (h : (if c then A else none) = some z) : c ∧ A = some z := by
  by_cases q : c
  · rw [if_pos q] at h; exact ⟨q, h⟩
  · rw [if_neg q] at h; cases h
theorem ok_bind {α β : Type} {x : Option α} {k : α → Option β} {z : β} (h : x.bind k = some z) : ∃ v, x = some v ∧ k v = some z := by
  cases x with
  | none => cases h
  | some v => exact ⟨v, rfl, h⟩
theorem ok_lt {α β : Type} {e : α} {f : α → Option β} {z : β} (h : lt e f = some z) : ∃ x, x = e ∧ f x = some z := ⟨e, rfl, h⟩
theorem ok_loop {σ ρ : Type} {body : σ → Option (σ ⊕ ρ)} {n : Nat} {s : σ} {r : ρ} (h : loopF body (n + 1) s = some r) : ∃ x, body s = some x ∧ (∀ s', x = .inl s' → loopF body n s' = some r) ∧ (∀ r', x = .inr r' → r' = r) := by
  unfold loopF at h
  cases hb : body s with
  | none => rw [hb] at h; cases h
  | some x =>
    rw [hb] at h
    refine ⟨x, rfl, ?_, ?_⟩
    · intro s' e; subst e; exact h
    · intro r' e; subst e; exact Option.some.inj h
theorem nz {α : Type} {a : α} {P : Prop} (h : (none : Option α) = some a) : P := by cases h
theorem narB {x : Int32} (h : isB x) : narrow .boolean (.int x) = .int x := by
  rcases h with rfl | rfl <;> decide
theorem fitB {x : Int32} (h : isB x) : fits .boolean (.int x) = true := by
  rcases h with rfl | rfl <;> decide
section ZMore
variable {p : Program} {l : Launch} {e : Env} {R : Room} {s : State} {m : MethodId} {args : Array Value} {below : List Frame} {meth : Method} {c : Code} {H : Heap} {locs : List Loc} {cells slots : Nat} {Q : State → Prop} {E : Ev} {sh : Nat → Option Shp} {σ : St} {pc : Nat} {ls : Array Slot} {rest : List Value} {cc : ByteArray} {nL : Nat} {own : String}
theorem z_nm {x y : Int32} (h : y = x) (k : W p l e R s m args below meth c H locs cells slots Q (F0 m pc ls (.int y :: rest))) : W p l e R s m args below meth c H locs cells slots Q (F0 m pc ls (.int x :: rest)) := h ▸ k
theorem z_nml {x y : Int64} (h : y = x) (k : W p l e R s m args below meth c H locs cells slots Q (F0 m pc ls (.long y :: rest))) : W p l e R s m args below meth c H locs cells slots Q (F0 m pc ls (.long x :: rest)) := h ▸ k
/-- the ends, with what the pure program came to -/
theorem z_iretE (hC : Cx p s m args c cc nL own E) (hlocks : meth.locks = false) (hw : World E sh σ H) (hS : va_S E.2.2.2 s.heap H locs) {v r : Int32} {σ' : St} (hf : some (v, σ) = some (r, σ')) {ty : FieldType} (hr : meth.sig.returnType = some ty) (hn : narrow ty (.int v) = .int v) (hdg : decode cc pc = .ok (.ireturn, 1)) : W p l e R s m args below meth c H locs 0 0 (MQ below (QW E sh (some (.int r)) σ') args s 0 0 E.2.2.2) (F0 m pc ls [.int v]) := by
  cases hf
  exact z_iret hC hlocks hw hS hr hn hdg
theorem z_vretE (hC : Cx p s m args c cc nL own E) (hlocks : meth.locks = false) (hw : World E sh σ H) (hS : va_S E.2.2.2 s.heap H locs) {σ' : St} (hf : some σ = some σ') (hr : meth.sig.returnType = none) (hdg : decode cc pc = .ok (.return_, 1)) : W p l e R s m args below meth c H locs 0 0 (MQ below (QW E sh none σ') args s 0 0 E.2.2.2) (F0 m pc ls []) := by
  cases hf
  exact z_vret hC hlocks hw hS hr hdg
theorem z_aretE (hC : Cx p s m args c cc nL own E) (hlocks : meth.locks = false) (hw : World E sh σ H) (hS : va_S E.2.2.2 s.heap H locs) {a r : Nat} {σ' : St} (hf : some (a, σ) = some (r, σ')) {nm : String} (hr : meth.sig.returnType = some (.object nm)) (hdg : decode cc pc = .ok (.areturn, 1)) : W p l e R s m args below meth c H locs 0 0 (MQ below (QW E sh (some (.ref (E.2.2.1 + r))) σ') args s 0 0 E.2.2.2) (F0 m pc ls [.ref (E.2.2.1 + a)]) := by
  cases hf
  exact z_aret hC hlocks hw hS hr hdg
end ZMore
def bd {α β γ : Type} (x : Option (α × β)) (k : α → β → Option γ) : Option γ := match x with
  | none => none
  | some (a, b) => k a b
theorem ok_bd {α β γ : Type} {x : Option (α × β)} {k : α → β → Option γ} {z : γ} (h : bd x k = some z) : ∃ a b, x = some (a, b) ∧ k a b = some z := by
  cases x with
  | none => cases h
  | some v => exact ⟨v.1, v.2, rfl, h⟩
def sel {α β γ : Type} (f : α → γ) (g : β → γ) (x : α ⊕ β) : γ := match x with
  | .inl a => f a
  | .inr b => g b
end
section
/-! the fixed shape of the world behind the constructors -/
def ksH (a : Nat) : List (Option (Bool × Nat)) := [some (false, 13), none, none, none, none, none, none, some (false, a + 1), some (false, a + 2), some (false, a + 3), some (false, a + 4), some (false, a + 5), some (false, a + 6), some (false, a + 7), none]
def ksR (a : Nat) : List (Option (Bool × Nat)) := [some (false, a + 1), none, none]
def ksX : List (Option (Bool × Nat)) := [some (false, 1), some (false, 2), some (false, 19), some (false, 27), some (false, 4), some (false, 5), none, none, some (false, 6), some (false, 11), none, none]
def ksP : List (Option (Bool × Nat)) := [some (false, 7), some (false, 8), some (false, 9), some (false, 10), none, some (true, 27), none]
def ksRd : List (Option (Bool × Nat)) := [some (false, 3), none, none, none, none, none, none]
def ksT : List (Option (Bool × Nat)) := [some (false, 12), none]
def ksM : List (Option (Bool × Nat)) := [some (false, 260), some (false, 261), some (false, 262), none, some (false, 263), some (false, 264), some (false, 265), some (false, 266), none, none, some (false, 267), none, none, none, none, none, some (false, 268), some (false, 269), some (false, 270), some (false, 271), none, some (false, 272), some (false, 273)]
def houseL : List Nat := [19, 27, 51, 59, 67, 75, 83, 91, 99, 107, 115, 123, 131, 139, 147, 155, 163, 171, 179, 187, 195, 203, 211, 219, 227, 235, 243, 251]
def rowL : List Nat := [35, 37, 39, 41, 43, 45, 47, 49]
abbrev ia (n : Nat) : Shp := .inl (0, n, false, [])
def sh2a : List Shp := [.inr (10, ksX), .inl (2, 8, false, rowL), .inr (5, ksRd), ia 90, .inl (3, 2, false, [51, 59]), .inl (3, 24, false, houseL.drop 4), .inr (3, ksP), ia 484, ia 4, ia 6, ia 6, .inr (8, ksT), ia 16, .inl (4, 5, false, [14, 15, 16, 17, 18]), .inr (9, []), .inr (7, []), .inr (4, []), .inr (0, []), .inr (1, [])]
def sh2m : List Shp := [.inr (11, ksM), ia 756, ia 39, ia 2, ia 8, ia 8, ia 320, ia 40, .inl (1, 90, false, []), ia 13, ia 4, ia 6, ia 6, ia 16, ia 4]
def sh2 (a : Nat) : Option Shp :=
  if a < 19 then sh2a[a]?
  else if a < 259 then
    if 35 ≤ a ∧ a < 51 then some (if (a - 35) % 2 = 0 then .inr (6, ksR a) else ia 40)
    else some (if (a - 19) % 8 = 0 then .inr (2, ksH a) else if (a - 19) % 8 < 6 then ia 4 else ia 6)
  else sh2m[a - 259]?
def isH (a : Nat) : Prop := a ∈ houseL
def isR (a : Nat) : Prop := a ∈ rowL
def isIt (a : Nat) : Prop := sh2 a = some (ia 40)
theorem sH {a : Nat} (h : isH a) : sh2 a = some (.inr (2, ksH a)) ∧ sh2 (a + 1) = some (ia 4) ∧ sh2 (a + 2) = some (ia 4) ∧ sh2 (a + 3) = some (ia 4) ∧ sh2 (a + 4) = some (ia 4) ∧ sh2 (a + 5) = some (ia 4) ∧ sh2 (a + 6) = some (ia 6) ∧ sh2 (a + 7) = some (ia 6) := by
  simp only [isH, houseL, List.mem_cons, List.not_mem_nil, or_false] at h
  rcases h with h | h | h | h | h | h | h | h | h | h | h | h | h | h | h | h | h | h | h | h | h | h | h | h | h | h | h | h <;> subst h <;> exact ⟨rfl, rfl, rfl, rfl, rfl, rfl, rfl, rfl⟩
theorem sR {a : Nat} (h : isR a) : sh2 a = some (.inr (6, ksR a)) ∧ isIt (a + 1) := by
  simp only [isR, rowL, List.mem_cons, List.not_mem_nil, or_false] at h
  rcases h with h | h | h | h | h | h | h | h <;> subst h <;> exact ⟨rfl, rfl⟩
theorem isH_19 : isH 19 := (by decide +kernel : 19 ∈ houseL)
theorem isH_27 : isH 27 := (by decide +kernel : 27 ∈ houseL)
def rowA (i : Int32) : Nat := 35 + 2 * i.toNatClampNeg
def imgA (i : Int32) : Nat := 51 + 8 * i.toNatClampNeg
def actA (i : Int32) : Nat := 67 + 8 * i.toNatClampNeg
def fuseA (i : Int32) : Nat := 14 + i.toNatClampNeg
theorem inb_lt {i : Int32} {n : Nat} (h : inb i n) : i.toNatClampNeg < n := Nat.lt_of_not_le (fun q => h (Or.inr q))
theorem rowA_ok {i : Int32} (h : inb i 8) : rowL.getD i.toNatClampNeg 0 = rowA i ∧ isR (rowA i) := (by decide +kernel : ∀ j, j < 8 → rowL.getD j 0 = 35 + 2 * j ∧ 35 + 2 * j ∈ rowL) _ (inb_lt h)
theorem imgA_ok {i : Int32} (h : inb i 2) : ([51, 59] : List Nat).getD i.toNatClampNeg 0 = imgA i ∧ isH (imgA i) := (by decide +kernel : ∀ j, j < 2 → ([51, 59] : List Nat).getD j 0 = 51 + 8 * j ∧ 51 + 8 * j ∈ houseL) _ (inb_lt h)
theorem actA_ok {i : Int32} (h : inb i 24) : (houseL.drop 4).getD i.toNatClampNeg 0 = actA i ∧ isH (actA i) := (by decide +kernel : ∀ j, j < 24 → (houseL.drop 4).getD j 0 = 67 + 8 * j ∧ 67 + 8 * j ∈ houseL) _ (inb_lt h)
theorem fuseA_ok {i : Int32} (h : inb i 5) : ([14, 15, 16, 17, 18] : List Nat).getD i.toNatClampNeg 0 = fuseA i := (by decide +kernel : ∀ j, j < 5 → ([14, 15, 16, 17, 18] : List Nat).getD j 0 = 14 + j) _ (inb_lt h)
theorem inw_House : ∀ w ∈ wsX30, w ∈ WL := by decide +kernel
theorem inw_Plugging : ∀ w ∈ wsX40, w ∈ WL := by decide +kernel
theorem inw_Reader : ∀ w ∈ wsX60, w ∈ WL := by decide +kernel
theorem inw_Row : ∀ w ∈ wsX70, w ∈ WL := by decide +kernel
theorem inw_Trace : ∀ w ∈ wsX90, w ∈ WL := by decide +kernel
theorem inw_FuseBox : ∀ w ∈ wsX110, w ∈ WL := by decide +kernel
theorem inw_Model : ∀ w ∈ wsX120, w ∈ WL := by decide +kernel
section ZFields
variable {p : Program} {l : Launch} {e : Env} {R : Room} {s : State} {m : MethodId} {args : Array Value} {below : List Frame} {meth : Method} {c : Code} {H : Heap} {locs : List Loc} {cells slots : Nat} {Q : State → Prop} {E : Ev} {σ : St} {pc : Nat} {ls : Array Slot} {rest : List Value} {cc : ByteArray} {nL : Nat} {own : String}
theorem gHouse_fuses (hC : Cx p s m args c cc nL own E) (hw : World E sh2 σ H) {a : Nat} (ha : isH a) {index : Nat} (hl : Cond.fieldLink own index (TX3 0).1 (TX3 0).2.1 (TX3 0).2.2.1 ∈ WL) (hdg : decode cc pc = .ok (.getfield index, 3)) (kk : W p l e R s m args below meth c H locs cells slots Q (F0 m (pc + 3) ls (.ref (E.2.2.1 + 13) :: rest))) : W p l e R s m args below meth c H locs cells slots Q (F0 m pc ls (.ref (E.2.2.1 + a) :: rest)) :=
  z_get hC hw (sH ha).1 (C := RX3) (T := TX3) (N := 15) rfl inw_House 0 (by decide) rfl (v := .ref (E.2.2.1 + 13)) rfl hl hdg kk
theorem gHouse_lines (hC : Cx p s m args c cc nL own E) (hw : World E sh2 σ H) {a : Nat} (ha : isH a) {index : Nat} (hl : Cond.fieldLink own index (TX3 1).1 (TX3 1).2.1 (TX3 1).2.2.1 ∈ WL) (hdg : decode cc pc = .ok (.getfield index, 3)) (kk : W p l e R s m args below meth c H locs cells slots Q (F0 m (pc + 3) ls (.int (σ a 1) :: rest))) : W p l e R s m args below meth c H locs cells slots Q (F0 m pc ls (.ref (E.2.2.1 + a) :: rest)) :=
  z_get hC hw (sH ha).1 (C := RX3) (T := TX3) (N := 15) rfl inw_House 1 (by decide) rfl (v := .int (σ a 1)) rfl hl hdg kk
theorem pHouse_lines (hC : Cx p s m args c cc nL own E) (hw : World E sh2 σ H) (hS : va_S E.2.2.2 s.heap H locs) {a : Nat} (ha : isH a) {x : Int32} {index : Nat} (hl : Cond.fieldLink own index (TX3 1).1 (TX3 1).2.1 (TX3 1).2.2.1 ∈ WL) {σ' : St} (hσ : σ' = wr σ a 1 x) (hdg : decode cc pc = .ok (.putfield index, 3)) (kk : ∀ (H1 : Heap) (locs1 : List Loc), World E sh2 σ' H1 → va_S E.2.2.2 s.heap H1 locs1 → W p l e R s m args below meth c H1 locs1 cells slots Q (F0 m (pc + 3) ls (rest))) : W p l e R s m args below meth c H locs cells slots Q (F0 m pc ls (.int x :: .ref (E.2.2.1 + a) :: rest)) :=
  z_put hC hw hS (sH ha).1 (C := RX3) (T := TX3) (N := 15) rfl inw_House tyX3 tyX3_ok nmX3 1 (by decide) rfl rfl (x := x) (v := .int x) rfl rfl rfl hl hσ hdg kk
theorem gHouse_things (hC : Cx p s m args c cc nL own E) (hw : World E sh2 σ H) {a : Nat} (ha : isH a) {index : Nat} (hl : Cond.fieldLink own index (TX3 2).1 (TX3 2).2.1 (TX3 2).2.2.1 ∈ WL) (hdg : decode cc pc = .ok (.getfield index, 3)) (kk : W p l e R s m args below meth c H locs cells slots Q (F0 m (pc + 3) ls (.int (σ a 2) :: rest))) : W p l e R s m args below meth c H locs cells slots Q (F0 m pc ls (.ref (E.2.2.1 + a) :: rest)) :=
  z_get hC hw (sH ha).1 (C := RX3) (T := TX3) (N := 15) rfl inw_House 2 (by decide) rfl (v := .int (σ a 2)) rfl hl hdg kk
theorem pHouse_things (hC : Cx p s m args c cc nL own E) (hw : World E sh2 σ H) (hS : va_S E.2.2.2 s.heap H locs) {a : Nat} (ha : isH a) {x : Int32} {index : Nat} (hl : Cond.fieldLink own index (TX3 2).1 (TX3 2).2.1 (TX3 2).2.2.1 ∈ WL) {σ' : St} (hσ : σ' = wr σ a 2 x) (hdg : decode cc pc = .ok (.putfield index, 3)) (kk : ∀ (H1 : Heap) (locs1 : List Loc), World E sh2 σ' H1 → va_S E.2.2.2 s.heap H1 locs1 → W p l e R s m args below meth c H1 locs1 cells slots Q (F0 m (pc + 3) ls (rest))) : W p l e R s m args below meth c H locs cells slots Q (F0 m pc ls (.int x :: .ref (E.2.2.1 + a) :: rest)) :=
  z_put hC hw hS (sH ha).1 (C := RX3) (T := TX3) (N := 15) rfl inw_House tyX3 tyX3_ok nmX3 2 (by decide) rfl rfl (x := x) (v := .int x) rfl rfl rfl hl hσ hdg kk
theorem gHouse_main (hC : Cx p s m args c cc nL own E) (hw : World E sh2 σ H) {a : Nat} (ha : isH a) {index : Nat} (hl : Cond.fieldLink own index (TX3 3).1 (TX3 3).2.1 (TX3 3).2.2.1 ∈ WL) (hdg : decode cc pc = .ok (.getfield index, 3)) (kk : W p l e R s m args below meth c H locs cells slots Q (F0 m (pc + 3) ls (.int (σ a 3) :: rest))) : W p l e R s m args below meth c H locs cells slots Q (F0 m pc ls (.ref (E.2.2.1 + a) :: rest)) :=
  z_get hC hw (sH ha).1 (C := RX3) (T := TX3) (N := 15) rfl inw_House 3 (by decide) rfl (v := .int (σ a 3)) rfl hl hdg kk
theorem pHouse_main (hC : Cx p s m args c cc nL own E) (hw : World E sh2 σ H) (hS : va_S E.2.2.2 s.heap H locs) {a : Nat} (ha : isH a) {x : Int32} {index : Nat} (hl : Cond.fieldLink own index (TX3 3).1 (TX3 3).2.1 (TX3 3).2.2.1 ∈ WL) {σ' : St} (hσ : σ' = wr σ a 3 x) (hdg : decode cc pc = .ok (.putfield index, 3)) (kk : ∀ (H1 : Heap) (locs1 : List Loc), World E sh2 σ' H1 → va_S E.2.2.2 s.heap H1 locs1 → W p l e R s m args below meth c H1 locs1 cells slots Q (F0 m (pc + 3) ls (rest))) : W p l e R s m args below meth c H locs cells slots Q (F0 m pc ls (.int x :: .ref (E.2.2.1 + a) :: rest)) :=
  z_put hC hw hS (sH ha).1 (C := RX3) (T := TX3) (N := 15) rfl inw_House tyX3 tyX3_ok nmX3 3 (by decide) rfl rfl (x := x) (v := .int x) rfl rfl rfl hl hσ hdg kk
theorem gHouse_minute (hC : Cx p s m args c cc nL own E) (hw : World E sh2 σ H) {a : Nat} (ha : isH a) {index : Nat} (hl : Cond.fieldLink own index (TX3 4).1 (TX3 4).2.1 (TX3 4).2.2.1 ∈ WL) (hdg : decode cc pc = .ok (.getfield index, 3)) (kk : W p l e R s m args below meth c H locs cells slots Q (F0 m (pc + 3) ls (.int (σ a 4) :: rest))) : W p l e R s m args below meth c H locs cells slots Q (F0 m pc ls (.ref (E.2.2.1 + a) :: rest)) :=
  z_get hC hw (sH ha).1 (C := RX3) (T := TX3) (N := 15) rfl inw_House 4 (by decide) rfl (v := .int (σ a 4)) rfl hl hdg kk
theorem pHouse_minute (hC : Cx p s m args c cc nL own E) (hw : World E sh2 σ H) (hS : va_S E.2.2.2 s.heap H locs) {a : Nat} (ha : isH a) {x : Int32} {index : Nat} (hl : Cond.fieldLink own index (TX3 4).1 (TX3 4).2.1 (TX3 4).2.2.1 ∈ WL) {σ' : St} (hσ : σ' = wr σ a 4 x) (hdg : decode cc pc = .ok (.putfield index, 3)) (kk : ∀ (H1 : Heap) (locs1 : List Loc), World E sh2 σ' H1 → va_S E.2.2.2 s.heap H1 locs1 → W p l e R s m args below meth c H1 locs1 cells slots Q (F0 m (pc + 3) ls (rest))) : W p l e R s m args below meth c H locs cells slots Q (F0 m pc ls (.int x :: .ref (E.2.2.1 + a) :: rest)) :=
  z_put hC hw hS (sH ha).1 (C := RX3) (T := TX3) (N := 15) rfl inw_House tyX3 tyX3_ok nmX3 4 (by decide) rfl rfl (x := x) (v := .int x) rfl rfl rfl hl hσ hdg kk
theorem gHouse_used (hC : Cx p s m args c cc nL own E) (hw : World E sh2 σ H) {a : Nat} (ha : isH a) {index : Nat} (hl : Cond.fieldLink own index (TX3 5).1 (TX3 5).2.1 (TX3 5).2.2.1 ∈ WL) (hdg : decode cc pc = .ok (.getfield index, 3)) (kk : W p l e R s m args below meth c H locs cells slots Q (F0 m (pc + 3) ls (.int (σ a 5) :: rest))) : W p l e R s m args below meth c H locs cells slots Q (F0 m pc ls (.ref (E.2.2.1 + a) :: rest)) :=
  z_get hC hw (sH ha).1 (C := RX3) (T := TX3) (N := 15) rfl inw_House 5 (by decide) rfl (v := .int (σ a 5)) rfl hl hdg kk
theorem pHouse_used (hC : Cx p s m args c cc nL own E) (hw : World E sh2 σ H) (hS : va_S E.2.2.2 s.heap H locs) {a : Nat} (ha : isH a) {x : Int32} {index : Nat} (hl : Cond.fieldLink own index (TX3 5).1 (TX3 5).2.1 (TX3 5).2.2.1 ∈ WL) {σ' : St} (hσ : σ' = wr σ a 5 x) (hdg : decode cc pc = .ok (.putfield index, 3)) (kk : ∀ (H1 : Heap) (locs1 : List Loc), World E sh2 σ' H1 → va_S E.2.2.2 s.heap H1 locs1 → W p l e R s m args below meth c H1 locs1 cells slots Q (F0 m (pc + 3) ls (rest))) : W p l e R s m args below meth c H locs cells slots Q (F0 m pc ls (.int x :: .ref (E.2.2.1 + a) :: rest)) :=
  z_put hC hw hS (sH ha).1 (C := RX3) (T := TX3) (N := 15) rfl inw_House tyX3 tyX3_ok nmX3 5 (by decide) rfl rfl (x := x) (v := .int x) rfl rfl rfl hl hσ hdg kk
theorem gHouse_mainIn (hC : Cx p s m args c cc nL own E) (hw : World E sh2 σ H) {a : Nat} (ha : isH a) {index : Nat} (hl : Cond.fieldLink own index (TX3 6).1 (TX3 6).2.1 (TX3 6).2.2.1 ∈ WL) (hdg : decode cc pc = .ok (.getfield index, 3)) (kk : W p l e R s m args below meth c H locs cells slots Q (F0 m (pc + 3) ls (.int (σ a 6) :: rest))) : W p l e R s m args below meth c H locs cells slots Q (F0 m pc ls (.ref (E.2.2.1 + a) :: rest)) :=
  z_get hC hw (sH ha).1 (C := RX3) (T := TX3) (N := 15) rfl inw_House 6 (by decide) rfl (v := .int (σ a 6)) rfl hl hdg kk
theorem pHouse_mainIn (hC : Cx p s m args c cc nL own E) (hw : World E sh2 σ H) (hS : va_S E.2.2.2 s.heap H locs) {a : Nat} (ha : isH a) {x : Int32} (hx : isB x) {index : Nat} (hl : Cond.fieldLink own index (TX3 6).1 (TX3 6).2.1 (TX3 6).2.2.1 ∈ WL) {σ' : St} (hσ : σ' = wr σ a 6 x) (hdg : decode cc pc = .ok (.putfield index, 3)) (kk : ∀ (H1 : Heap) (locs1 : List Loc), World E sh2 σ' H1 → va_S E.2.2.2 s.heap H1 locs1 → W p l e R s m args below meth c H1 locs1 cells slots Q (F0 m (pc + 3) ls (rest))) : W p l e R s m args below meth c H locs cells slots Q (F0 m pc ls (.int x :: .ref (E.2.2.1 + a) :: rest)) :=
  z_put hC hw hS (sH ha).1 (C := RX3) (T := TX3) (N := 15) rfl inw_House tyX3 tyX3_ok nmX3 6 (by decide) rfl rfl (x := x) (v := .int x) rfl (narB hx) (fitB hx) hl hσ hdg kk
theorem gHouse_kind (hC : Cx p s m args c cc nL own E) (hw : World E sh2 σ H) {a : Nat} (ha : isH a) {index : Nat} (hl : Cond.fieldLink own index (TX3 7).1 (TX3 7).2.1 (TX3 7).2.2.1 ∈ WL) (hdg : decode cc pc = .ok (.getfield index, 3)) (kk : W p l e R s m args below meth c H locs cells slots Q (F0 m (pc + 3) ls (.ref (E.2.2.1 + (a + 1)) :: rest))) : W p l e R s m args below meth c H locs cells slots Q (F0 m pc ls (.ref (E.2.2.1 + a) :: rest)) :=
  z_get hC hw (sH ha).1 (C := RX3) (T := TX3) (N := 15) rfl inw_House 7 (by decide) rfl (v := .ref (E.2.2.1 + (a + 1))) rfl hl hdg kk
theorem gHouse_rate (hC : Cx p s m args c cc nL own E) (hw : World E sh2 σ H) {a : Nat} (ha : isH a) {index : Nat} (hl : Cond.fieldLink own index (TX3 8).1 (TX3 8).2.1 (TX3 8).2.2.1 ∈ WL) (hdg : decode cc pc = .ok (.getfield index, 3)) (kk : W p l e R s m args below meth c H locs cells slots Q (F0 m (pc + 3) ls (.ref (E.2.2.1 + (a + 2)) :: rest))) : W p l e R s m args below meth c H locs cells slots Q (F0 m pc ls (.ref (E.2.2.1 + a) :: rest)) :=
  z_get hC hw (sH ha).1 (C := RX3) (T := TX3) (N := 15) rfl inw_House 8 (by decide) rfl (v := .ref (E.2.2.1 + (a + 2))) rfl hl hdg kk
theorem gHouse_heat (hC : Cx p s m args c cc nL own E) (hw : World E sh2 σ H) {a : Nat} (ha : isH a) {index : Nat} (hl : Cond.fieldLink own index (TX3 9).1 (TX3 9).2.1 (TX3 9).2.2.1 ∈ WL) (hdg : decode cc pc = .ok (.getfield index, 3)) (kk : W p l e R s m args below meth c H locs cells slots Q (F0 m (pc + 3) ls (.ref (E.2.2.1 + (a + 3)) :: rest))) : W p l e R s m args below meth c H locs cells slots Q (F0 m pc ls (.ref (E.2.2.1 + a) :: rest)) :=
  z_get hC hw (sH ha).1 (C := RX3) (T := TX3) (N := 15) rfl inw_House 9 (by decide) rfl (v := .ref (E.2.2.1 + (a + 3))) rfl hl hdg kk
theorem gHouse_dead (hC : Cx p s m args c cc nL own E) (hw : World E sh2 σ H) {a : Nat} (ha : isH a) {index : Nat} (hl : Cond.fieldLink own index (TX3 10).1 (TX3 10).2.1 (TX3 10).2.2.1 ∈ WL) (hdg : decode cc pc = .ok (.getfield index, 3)) (kk : W p l e R s m args below meth c H locs cells slots Q (F0 m (pc + 3) ls (.ref (E.2.2.1 + (a + 4)) :: rest))) : W p l e R s m args below meth c H locs cells slots Q (F0 m pc ls (.ref (E.2.2.1 + a) :: rest)) :=
  z_get hC hw (sH ha).1 (C := RX3) (T := TX3) (N := 15) rfl inw_House 10 (by decide) rfl (v := .ref (E.2.2.1 + (a + 4))) rfl hl hdg kk
theorem gHouse_flow (hC : Cx p s m args c cc nL own E) (hw : World E sh2 σ H) {a : Nat} (ha : isH a) {index : Nat} (hl : Cond.fieldLink own index (TX3 11).1 (TX3 11).2.1 (TX3 11).2.2.1 ∈ WL) (hdg : decode cc pc = .ok (.getfield index, 3)) (kk : W p l e R s m args below meth c H locs cells slots Q (F0 m (pc + 3) ls (.ref (E.2.2.1 + (a + 5)) :: rest))) : W p l e R s m args below meth c H locs cells slots Q (F0 m pc ls (.ref (E.2.2.1 + a) :: rest)) :=
  z_get hC hw (sH ha).1 (C := RX3) (T := TX3) (N := 15) rfl inw_House 11 (by decide) rfl (v := .ref (E.2.2.1 + (a + 5))) rfl hl hdg kk
theorem gHouse_plugged (hC : Cx p s m args c cc nL own E) (hw : World E sh2 σ H) {a : Nat} (ha : isH a) {index : Nat} (hl : Cond.fieldLink own index (TX3 12).1 (TX3 12).2.1 (TX3 12).2.2.1 ∈ WL) (hdg : decode cc pc = .ok (.getfield index, 3)) (kk : W p l e R s m args below meth c H locs cells slots Q (F0 m (pc + 3) ls (.ref (E.2.2.1 + (a + 6)) :: rest))) : W p l e R s m args below meth c H locs cells slots Q (F0 m pc ls (.ref (E.2.2.1 + a) :: rest)) :=
  z_get hC hw (sH ha).1 (C := RX3) (T := TX3) (N := 15) rfl inw_House 12 (by decide) rfl (v := .ref (E.2.2.1 + (a + 6))) rfl hl hdg kk
theorem gHouse_load (hC : Cx p s m args c cc nL own E) (hw : World E sh2 σ H) {a : Nat} (ha : isH a) {index : Nat} (hl : Cond.fieldLink own index (TX3 13).1 (TX3 13).2.1 (TX3 13).2.2.1 ∈ WL) (hdg : decode cc pc = .ok (.getfield index, 3)) (kk : W p l e R s m args below meth c H locs cells slots Q (F0 m (pc + 3) ls (.ref (E.2.2.1 + (a + 7)) :: rest))) : W p l e R s m args below meth c H locs cells slots Q (F0 m pc ls (.ref (E.2.2.1 + a) :: rest)) :=
  z_get hC hw (sH ha).1 (C := RX3) (T := TX3) (N := 15) rfl inw_House 13 (by decide) rfl (v := .ref (E.2.2.1 + (a + 7))) rfl hl hdg kk
theorem gHouse_on (hC : Cx p s m args c cc nL own E) (hw : World E sh2 σ H) {a : Nat} (ha : isH a) {index : Nat} (hl : Cond.fieldLink own index (TX3 14).1 (TX3 14).2.1 (TX3 14).2.2.1 ∈ WL) (hdg : decode cc pc = .ok (.getfield index, 3)) (kk : W p l e R s m args below meth c H locs cells slots Q (F0 m (pc + 3) ls (.int (σ a 14) :: rest))) : W p l e R s m args below meth c H locs cells slots Q (F0 m pc ls (.ref (E.2.2.1 + a) :: rest)) :=
  z_get hC hw (sH ha).1 (C := RX3) (T := TX3) (N := 15) rfl inw_House 14 (by decide) rfl (v := .int (σ a 14)) rfl hl hdg kk
theorem pHouse_on (hC : Cx p s m args c cc nL own E) (hw : World E sh2 σ H) (hS : va_S E.2.2.2 s.heap H locs) {a : Nat} (ha : isH a) {x : Int32} {index : Nat} (hl : Cond.fieldLink own index (TX3 14).1 (TX3 14).2.1 (TX3 14).2.2.1 ∈ WL) {σ' : St} (hσ : σ' = wr σ a 14 x) (hdg : decode cc pc = .ok (.putfield index, 3)) (kk : ∀ (H1 : Heap) (locs1 : List Loc), World E sh2 σ' H1 → va_S E.2.2.2 s.heap H1 locs1 → W p l e R s m args below meth c H1 locs1 cells slots Q (F0 m (pc + 3) ls (rest))) : W p l e R s m args below meth c H locs cells slots Q (F0 m pc ls (.int x :: .ref (E.2.2.1 + a) :: rest)) :=
  z_put hC hw hS (sH ha).1 (C := RX3) (T := TX3) (N := 15) rfl inw_House tyX3 tyX3_ok nmX3 14 (by decide) rfl rfl (x := x) (v := .int x) rfl rfl rfl hl hσ hdg kk
theorem gPlugging_live (hC : Cx p s m args c cc nL own E) (hw : World E sh2 σ H) {index : Nat} (hl : Cond.fieldLink own index (TX4 0).1 (TX4 0).2.1 (TX4 0).2.2.1 ∈ WL) (hdg : decode cc pc = .ok (.getfield index, 3)) (kk : W p l e R s m args below meth c H locs cells slots Q (F0 m (pc + 3) ls (.ref (E.2.2.1 + 7) :: rest))) : W p l e R s m args below meth c H locs cells slots Q (F0 m pc ls (.ref (E.2.2.1 + 6) :: rest)) :=
  z_get hC hw rfl (C := RX4) (T := TX4) (N := 7) rfl inw_Plugging 0 (by decide) rfl (v := .ref (E.2.2.1 + 7)) rfl hl hdg kk
theorem gPlugging_loads (hC : Cx p s m args c cc nL own E) (hw : World E sh2 σ H) {index : Nat} (hl : Cond.fieldLink own index (TX4 1).1 (TX4 1).2.1 (TX4 1).2.2.1 ∈ WL) (hdg : decode cc pc = .ok (.getfield index, 3)) (kk : W p l e R s m args below meth c H locs cells slots Q (F0 m (pc + 3) ls (.ref (E.2.2.1 + 8) :: rest))) : W p l e R s m args below meth c H locs cells slots Q (F0 m pc ls (.ref (E.2.2.1 + 6) :: rest)) :=
  z_get hC hw rfl (C := RX4) (T := TX4) (N := 7) rfl inw_Plugging 1 (by decide) rfl (v := .ref (E.2.2.1 + 8)) rfl hl hdg kk
theorem gPlugging_way (hC : Cx p s m args c cc nL own E) (hw : World E sh2 σ H) {index : Nat} (hl : Cond.fieldLink own index (TX4 2).1 (TX4 2).2.1 (TX4 2).2.2.1 ∈ WL) (hdg : decode cc pc = .ok (.getfield index, 3)) (kk : W p l e R s m args below meth c H locs cells slots Q (F0 m (pc + 3) ls (.ref (E.2.2.1 + 9) :: rest))) : W p l e R s m args below meth c H locs cells slots Q (F0 m pc ls (.ref (E.2.2.1 + 6) :: rest)) :=
  z_get hC hw rfl (C := RX4) (T := TX4) (N := 7) rfl inw_Plugging 2 (by decide) rfl (v := .ref (E.2.2.1 + 9)) rfl hl hdg kk
theorem gPlugging_best (hC : Cx p s m args c cc nL own E) (hw : World E sh2 σ H) {index : Nat} (hl : Cond.fieldLink own index (TX4 3).1 (TX4 3).2.1 (TX4 3).2.2.1 ∈ WL) (hdg : decode cc pc = .ok (.getfield index, 3)) (kk : W p l e R s m args below meth c H locs cells slots Q (F0 m (pc + 3) ls (.ref (E.2.2.1 + 10) :: rest))) : W p l e R s m args below meth c H locs cells slots Q (F0 m pc ls (.ref (E.2.2.1 + 6) :: rest)) :=
  z_get hC hw rfl (C := RX4) (T := TX4) (N := 7) rfl inw_Plugging 3 (by decide) rfl (v := .ref (E.2.2.1 + 10)) rfl hl hdg kk
theorem gPlugging_most (hC : Cx p s m args c cc nL own E) (hw : World E sh2 σ H) {index : Nat} (hl : Cond.fieldLink own index (TX4 4).1 (TX4 4).2.1 (TX4 4).2.2.1 ∈ WL) (hdg : decode cc pc = .ok (.getfield index, 3)) (kk : W p l e R s m args below meth c H locs cells slots Q (F0 m (pc + 3) ls (.int (σ 6 4) :: rest))) : W p l e R s m args below meth c H locs cells slots Q (F0 m pc ls (.ref (E.2.2.1 + 6) :: rest)) :=
  z_get hC hw rfl (C := RX4) (T := TX4) (N := 7) rfl inw_Plugging 4 (by decide) rfl (v := .int (σ 6 4)) rfl hl hdg kk
theorem pPlugging_most (hC : Cx p s m args c cc nL own E) (hw : World E sh2 σ H) (hS : va_S E.2.2.2 s.heap H locs) {x : Int32} {index : Nat} (hl : Cond.fieldLink own index (TX4 4).1 (TX4 4).2.1 (TX4 4).2.2.1 ∈ WL) {σ' : St} (hσ : σ' = wr σ 6 4 x) (hdg : decode cc pc = .ok (.putfield index, 3)) (kk : ∀ (H1 : Heap) (locs1 : List Loc), World E sh2 σ' H1 → va_S E.2.2.2 s.heap H1 locs1 → W p l e R s m args below meth c H1 locs1 cells slots Q (F0 m (pc + 3) ls (rest))) : W p l e R s m args below meth c H locs cells slots Q (F0 m pc ls (.int x :: .ref (E.2.2.1 + 6) :: rest)) :=
  z_put hC hw hS rfl (C := RX4) (T := TX4) (N := 7) rfl inw_Plugging tyX4 tyX4_ok nmX4 4 (by decide) rfl rfl (x := x) (v := .int x) rfl rfl rfl hl hσ hdg kk
theorem gPlugging_house (hC : Cx p s m args c cc nL own E) (hw : World E sh2 σ H) (hz : ¬ σ 6 5 = 0) {index : Nat} (hl : Cond.fieldLink own index (TX4 5).1 (TX4 5).2.1 (TX4 5).2.2.1 ∈ WL) (hdg : decode cc pc = .ok (.getfield index, 3)) (kk : W p l e R s m args below meth c H locs cells slots Q (F0 m (pc + 3) ls (.ref (E.2.2.1 + 27) :: rest))) : W p l e R s m args below meth c H locs cells slots Q (F0 m pc ls (.ref (E.2.2.1 + 6) :: rest)) :=
  z_get hC hw rfl (C := RX4) (T := TX4) (N := 7) rfl inw_Plugging 5 (by decide) rfl (v := .ref (E.2.2.1 + 27)) (if_neg hz) hl hdg kk
theorem pPlugging_house (hC : Cx p s m args c cc nL own E) (hw : World E sh2 σ H) (hS : va_S E.2.2.2 s.heap H locs) {index : Nat} (hl : Cond.fieldLink own index (TX4 5).1 (TX4 5).2.1 (TX4 5).2.2.1 ∈ WL) {σ' : St} (hσ : σ' = wr σ 6 5 1) (hdg : decode cc pc = .ok (.putfield index, 3)) (kk : ∀ (H1 : Heap) (locs1 : List Loc), World E sh2 σ' H1 → va_S E.2.2.2 s.heap H1 locs1 → W p l e R s m args below meth c H1 locs1 cells slots Q (F0 m (pc + 3) ls (rest))) : W p l e R s m args below meth c H locs cells slots Q (F0 m pc ls (.ref (E.2.2.1 + 27) :: .ref (E.2.2.1 + 6) :: rest)) :=
  z_put hC hw hS rfl (C := RX4) (T := TX4) (N := 7) rfl inw_Plugging tyX4 tyX4_ok nmX4 5 (by decide) rfl rfl (o := some (true, 27)) (x := 1) (v := .ref (E.2.2.1 + 27)) (show (if (1 : Int32) = 0 then Value.null else Value.ref (E.2.2.1 + 27)) = Value.ref (E.2.2.1 + 27) from if_neg (by decide)) rfl rfl hl hσ hdg kk
theorem gPlugging_minutes (hC : Cx p s m args c cc nL own E) (hw : World E sh2 σ H) {index : Nat} (hl : Cond.fieldLink own index (TX4 6).1 (TX4 6).2.1 (TX4 6).2.2.1 ∈ WL) (hdg : decode cc pc = .ok (.getfield index, 3)) (kk : W p l e R s m args below meth c H locs cells slots Q (F0 m (pc + 3) ls (.int (σ 6 6) :: rest))) : W p l e R s m args below meth c H locs cells slots Q (F0 m pc ls (.ref (E.2.2.1 + 6) :: rest)) :=
  z_get hC hw rfl (C := RX4) (T := TX4) (N := 7) rfl inw_Plugging 6 (by decide) rfl (v := .int (σ 6 6)) rfl hl hdg kk
theorem pPlugging_minutes (hC : Cx p s m args c cc nL own E) (hw : World E sh2 σ H) (hS : va_S E.2.2.2 s.heap H locs) {x : Int32} {index : Nat} (hl : Cond.fieldLink own index (TX4 6).1 (TX4 6).2.1 (TX4 6).2.2.1 ∈ WL) {σ' : St} (hσ : σ' = wr σ 6 6 x) (hdg : decode cc pc = .ok (.putfield index, 3)) (kk : ∀ (H1 : Heap) (locs1 : List Loc), World E sh2 σ' H1 → va_S E.2.2.2 s.heap H1 locs1 → W p l e R s m args below meth c H1 locs1 cells slots Q (F0 m (pc + 3) ls (rest))) : W p l e R s m args below meth c H locs cells slots Q (F0 m pc ls (.int x :: .ref (E.2.2.1 + 6) :: rest)) :=
  z_put hC hw hS rfl (C := RX4) (T := TX4) (N := 7) rfl inw_Plugging tyX4 tyX4_ok nmX4 6 (by decide) rfl rfl (x := x) (v := .int x) rfl rfl rfl hl hσ hdg kk
theorem gReader_letters (hC : Cx p s m args c cc nL own E) (hw : World E sh2 σ H) {index : Nat} (hl : Cond.fieldLink own index (TX6 0).1 (TX6 0).2.1 (TX6 0).2.2.1 ∈ WL) (hdg : decode cc pc = .ok (.getfield index, 3)) (kk : W p l e R s m args below meth c H locs cells slots Q (F0 m (pc + 3) ls (.ref (E.2.2.1 + 3) :: rest))) : W p l e R s m args below meth c H locs cells slots Q (F0 m pc ls (.ref (E.2.2.1 + 2) :: rest)) :=
  z_get hC hw rfl (C := RX6) (T := TX6) (N := 7) rfl inw_Reader 0 (by decide) rfl (v := .ref (E.2.2.1 + 3)) rfl hl hdg kk
theorem gReader_size (hC : Cx p s m args c cc nL own E) (hw : World E sh2 σ H) {index : Nat} (hl : Cond.fieldLink own index (TX6 1).1 (TX6 1).2.1 (TX6 1).2.2.1 ∈ WL) (hdg : decode cc pc = .ok (.getfield index, 3)) (kk : W p l e R s m args below meth c H locs cells slots Q (F0 m (pc + 3) ls (.int (σ 2 1) :: rest))) : W p l e R s m args below meth c H locs cells slots Q (F0 m pc ls (.ref (E.2.2.1 + 2) :: rest)) :=
  z_get hC hw rfl (C := RX6) (T := TX6) (N := 7) rfl inw_Reader 1 (by decide) rfl (v := .int (σ 2 1)) rfl hl hdg kk
theorem pReader_size (hC : Cx p s m args c cc nL own E) (hw : World E sh2 σ H) (hS : va_S E.2.2.2 s.heap H locs) {x : Int32} {index : Nat} (hl : Cond.fieldLink own index (TX6 1).1 (TX6 1).2.1 (TX6 1).2.2.1 ∈ WL) {σ' : St} (hσ : σ' = wr σ 2 1 x) (hdg : decode cc pc = .ok (.putfield index, 3)) (kk : ∀ (H1 : Heap) (locs1 : List Loc), World E sh2 σ' H1 → va_S E.2.2.2 s.heap H1 locs1 → W p l e R s m args below meth c H1 locs1 cells slots Q (F0 m (pc + 3) ls (rest))) : W p l e R s m args below meth c H locs cells slots Q (F0 m pc ls (.int x :: .ref (E.2.2.1 + 2) :: rest)) :=
  z_put hC hw hS rfl (C := RX6) (T := TX6) (N := 7) rfl inw_Reader tyX6 tyX6_ok nmX6 1 (by decide) rfl rfl (x := x) (v := .int x) rfl rfl rfl hl hσ hdg kk
theorem gReader_token (hC : Cx p s m args c cc nL own E) (hw : World E sh2 σ H) {index : Nat} (hl : Cond.fieldLink own index (TX6 2).1 (TX6 2).2.1 (TX6 2).2.2.1 ∈ WL) (hdg : decode cc pc = .ok (.getfield index, 3)) (kk : W p l e R s m args below meth c H locs cells slots Q (F0 m (pc + 3) ls (.int (σ 2 2) :: rest))) : W p l e R s m args below meth c H locs cells slots Q (F0 m pc ls (.ref (E.2.2.1 + 2) :: rest)) :=
  z_get hC hw rfl (C := RX6) (T := TX6) (N := 7) rfl inw_Reader 2 (by decide) rfl (v := .int (σ 2 2)) rfl hl hdg kk
theorem pReader_token (hC : Cx p s m args c cc nL own E) (hw : World E sh2 σ H) (hS : va_S E.2.2.2 s.heap H locs) {x : Int32} {index : Nat} (hl : Cond.fieldLink own index (TX6 2).1 (TX6 2).2.1 (TX6 2).2.2.1 ∈ WL) {σ' : St} (hσ : σ' = wr σ 2 2 x) (hdg : decode cc pc = .ok (.putfield index, 3)) (kk : ∀ (H1 : Heap) (locs1 : List Loc), World E sh2 σ' H1 → va_S E.2.2.2 s.heap H1 locs1 → W p l e R s m args below meth c H1 locs1 cells slots Q (F0 m (pc + 3) ls (rest))) : W p l e R s m args below meth c H locs cells slots Q (F0 m pc ls (.int x :: .ref (E.2.2.1 + 2) :: rest)) :=
  z_put hC hw hS rfl (C := RX6) (T := TX6) (N := 7) rfl inw_Reader tyX6 tyX6_ok nmX6 2 (by decide) rfl rfl (x := x) (v := .int x) rfl rfl rfl hl hσ hdg kk
theorem gReader_value (hC : Cx p s m args c cc nL own E) (hw : World E sh2 σ H) {index : Nat} (hl : Cond.fieldLink own index (TX6 3).1 (TX6 3).2.1 (TX6 3).2.2.1 ∈ WL) (hdg : decode cc pc = .ok (.getfield index, 3)) (kk : W p l e R s m args below meth c H locs cells slots Q (F0 m (pc + 3) ls (.int (σ 2 3) :: rest))) : W p l e R s m args below meth c H locs cells slots Q (F0 m pc ls (.ref (E.2.2.1 + 2) :: rest)) :=
  z_get hC hw rfl (C := RX6) (T := TX6) (N := 7) rfl inw_Reader 3 (by decide) rfl (v := .int (σ 2 3)) rfl hl hdg kk
theorem pReader_value (hC : Cx p s m args c cc nL own E) (hw : World E sh2 σ H) (hS : va_S E.2.2.2 s.heap H locs) {x : Int32} {index : Nat} (hl : Cond.fieldLink own index (TX6 3).1 (TX6 3).2.1 (TX6 3).2.2.1 ∈ WL) {σ' : St} (hσ : σ' = wr σ 2 3 x) (hdg : decode cc pc = .ok (.putfield index, 3)) (kk : ∀ (H1 : Heap) (locs1 : List Loc), World E sh2 σ' H1 → va_S E.2.2.2 s.heap H1 locs1 → W p l e R s m args below meth c H1 locs1 cells slots Q (F0 m (pc + 3) ls (rest))) : W p l e R s m args below meth c H locs cells slots Q (F0 m pc ls (.int x :: .ref (E.2.2.1 + 2) :: rest)) :=
  z_put hC hw hS rfl (C := RX6) (T := TX6) (N := 7) rfl inw_Reader tyX6 tyX6_ok nmX6 3 (by decide) rfl rfl (x := x) (v := .int x) rfl rfl rfl hl hσ hdg kk
theorem gReader_behind (hC : Cx p s m args c cc nL own E) (hw : World E sh2 σ H) {index : Nat} (hl : Cond.fieldLink own index (TX6 4).1 (TX6 4).2.1 (TX6 4).2.2.1 ∈ WL) (hdg : decode cc pc = .ok (.getfield index, 3)) (kk : W p l e R s m args below meth c H locs cells slots Q (F0 m (pc + 3) ls (.int (σ 2 4) :: rest))) : W p l e R s m args below meth c H locs cells slots Q (F0 m pc ls (.ref (E.2.2.1 + 2) :: rest)) :=
  z_get hC hw rfl (C := RX6) (T := TX6) (N := 7) rfl inw_Reader 4 (by decide) rfl (v := .int (σ 2 4)) rfl hl hdg kk
theorem pReader_behind (hC : Cx p s m args c cc nL own E) (hw : World E sh2 σ H) (hS : va_S E.2.2.2 s.heap H locs) {x : Int32} {index : Nat} (hl : Cond.fieldLink own index (TX6 4).1 (TX6 4).2.1 (TX6 4).2.2.1 ∈ WL) {σ' : St} (hσ : σ' = wr σ 2 4 x) (hdg : decode cc pc = .ok (.putfield index, 3)) (kk : ∀ (H1 : Heap) (locs1 : List Loc), World E sh2 σ' H1 → va_S E.2.2.2 s.heap H1 locs1 → W p l e R s m args below meth c H1 locs1 cells slots Q (F0 m (pc + 3) ls (rest))) : W p l e R s m args below meth c H locs cells slots Q (F0 m pc ls (.int x :: .ref (E.2.2.1 + 2) :: rest)) :=
  z_put hC hw hS rfl (C := RX6) (T := TX6) (N := 7) rfl inw_Reader tyX6 tyX6_ok nmX6 4 (by decide) rfl rfl (x := x) (v := .int x) rfl rfl rfl hl hσ hdg kk
theorem gReader_start (hC : Cx p s m args c cc nL own E) (hw : World E sh2 σ H) {index : Nat} (hl : Cond.fieldLink own index (TX6 5).1 (TX6 5).2.1 (TX6 5).2.2.1 ∈ WL) (hdg : decode cc pc = .ok (.getfield index, 3)) (kk : W p l e R s m args below meth c H locs cells slots Q (F0 m (pc + 3) ls (.int (σ 2 5) :: rest))) : W p l e R s m args below meth c H locs cells slots Q (F0 m pc ls (.ref (E.2.2.1 + 2) :: rest)) :=
  z_get hC hw rfl (C := RX6) (T := TX6) (N := 7) rfl inw_Reader 5 (by decide) rfl (v := .int (σ 2 5)) rfl hl hdg kk
theorem pReader_start (hC : Cx p s m args c cc nL own E) (hw : World E sh2 σ H) (hS : va_S E.2.2.2 s.heap H locs) {x : Int32} {index : Nat} (hl : Cond.fieldLink own index (TX6 5).1 (TX6 5).2.1 (TX6 5).2.2.1 ∈ WL) {σ' : St} (hσ : σ' = wr σ 2 5 x) (hdg : decode cc pc = .ok (.putfield index, 3)) (kk : ∀ (H1 : Heap) (locs1 : List Loc), World E sh2 σ' H1 → va_S E.2.2.2 s.heap H1 locs1 → W p l e R s m args below meth c H1 locs1 cells slots Q (F0 m (pc + 3) ls (rest))) : W p l e R s m args below meth c H locs cells slots Q (F0 m pc ls (.int x :: .ref (E.2.2.1 + 2) :: rest)) :=
  z_put hC hw hS rfl (C := RX6) (T := TX6) (N := 7) rfl inw_Reader tyX6 tyX6_ok nmX6 5 (by decide) rfl rfl (x := x) (v := .int x) rfl rfl rfl hl hσ hdg kk
theorem gReader_fault (hC : Cx p s m args c cc nL own E) (hw : World E sh2 σ H) {index : Nat} (hl : Cond.fieldLink own index (TX6 6).1 (TX6 6).2.1 (TX6 6).2.2.1 ∈ WL) (hdg : decode cc pc = .ok (.getfield index, 3)) (kk : W p l e R s m args below meth c H locs cells slots Q (F0 m (pc + 3) ls (.int (σ 2 6) :: rest))) : W p l e R s m args below meth c H locs cells slots Q (F0 m pc ls (.ref (E.2.2.1 + 2) :: rest)) :=
  z_get hC hw rfl (C := RX6) (T := TX6) (N := 7) rfl inw_Reader 6 (by decide) rfl (v := .int (σ 2 6)) rfl hl hdg kk
theorem pReader_fault (hC : Cx p s m args c cc nL own E) (hw : World E sh2 σ H) (hS : va_S E.2.2.2 s.heap H locs) {x : Int32} {index : Nat} (hl : Cond.fieldLink own index (TX6 6).1 (TX6 6).2.1 (TX6 6).2.2.1 ∈ WL) {σ' : St} (hσ : σ' = wr σ 2 6 x) (hdg : decode cc pc = .ok (.putfield index, 3)) (kk : ∀ (H1 : Heap) (locs1 : List Loc), World E sh2 σ' H1 → va_S E.2.2.2 s.heap H1 locs1 → W p l e R s m args below meth c H1 locs1 cells slots Q (F0 m (pc + 3) ls (rest))) : W p l e R s m args below meth c H locs cells slots Q (F0 m pc ls (.int x :: .ref (E.2.2.1 + 2) :: rest)) :=
  z_put hC hw hS rfl (C := RX6) (T := TX6) (N := 7) rfl inw_Reader tyX6 tyX6_ok nmX6 6 (by decide) rfl rfl (x := x) (v := .int x) rfl rfl rfl hl hσ hdg kk
theorem gRow_items (hC : Cx p s m args c cc nL own E) (hw : World E sh2 σ H) {a : Nat} (ha : isR a) {index : Nat} (hl : Cond.fieldLink own index (TX7 0).1 (TX7 0).2.1 (TX7 0).2.2.1 ∈ WL) (hdg : decode cc pc = .ok (.getfield index, 3)) (kk : W p l e R s m args below meth c H locs cells slots Q (F0 m (pc + 3) ls (.ref (E.2.2.1 + (a + 1)) :: rest))) : W p l e R s m args below meth c H locs cells slots Q (F0 m pc ls (.ref (E.2.2.1 + a) :: rest)) :=
  z_get hC hw (sR ha).1 (C := RX7) (T := TX7) (N := 3) rfl inw_Row 0 (by decide) rfl (v := .ref (E.2.2.1 + (a + 1))) rfl hl hdg kk
theorem gRow_lane (hC : Cx p s m args c cc nL own E) (hw : World E sh2 σ H) {a : Nat} (ha : isR a) {index : Nat} (hl : Cond.fieldLink own index (TX7 1).1 (TX7 1).2.1 (TX7 1).2.2.1 ∈ WL) (hdg : decode cc pc = .ok (.getfield index, 3)) (kk : W p l e R s m args below meth c H locs cells slots Q (F0 m (pc + 3) ls (.int (σ a 1) :: rest))) : W p l e R s m args below meth c H locs cells slots Q (F0 m pc ls (.ref (E.2.2.1 + a) :: rest)) :=
  z_get hC hw (sR ha).1 (C := RX7) (T := TX7) (N := 3) rfl inw_Row 1 (by decide) rfl (v := .int (σ a 1)) rfl hl hdg kk
theorem pRow_lane (hC : Cx p s m args c cc nL own E) (hw : World E sh2 σ H) (hS : va_S E.2.2.2 s.heap H locs) {a : Nat} (ha : isR a) {x : Int32} {index : Nat} (hl : Cond.fieldLink own index (TX7 1).1 (TX7 1).2.1 (TX7 1).2.2.1 ∈ WL) {σ' : St} (hσ : σ' = wr σ a 1 x) (hdg : decode cc pc = .ok (.putfield index, 3)) (kk : ∀ (H1 : Heap) (locs1 : List Loc), World E sh2 σ' H1 → va_S E.2.2.2 s.heap H1 locs1 → W p l e R s m args below meth c H1 locs1 cells slots Q (F0 m (pc + 3) ls (rest))) : W p l e R s m args below meth c H locs cells slots Q (F0 m pc ls (.int x :: .ref (E.2.2.1 + a) :: rest)) :=
  z_put hC hw hS (sR ha).1 (C := RX7) (T := TX7) (N := 3) rfl inw_Row tyX7 tyX7_ok nmX7 1 (by decide) rfl rfl (x := x) (v := .int x) rfl rfl rfl hl hσ hdg kk
theorem gRow_size (hC : Cx p s m args c cc nL own E) (hw : World E sh2 σ H) {a : Nat} (ha : isR a) {index : Nat} (hl : Cond.fieldLink own index (TX7 2).1 (TX7 2).2.1 (TX7 2).2.2.1 ∈ WL) (hdg : decode cc pc = .ok (.getfield index, 3)) (kk : W p l e R s m args below meth c H locs cells slots Q (F0 m (pc + 3) ls (.int (σ a 2) :: rest))) : W p l e R s m args below meth c H locs cells slots Q (F0 m pc ls (.ref (E.2.2.1 + a) :: rest)) :=
  z_get hC hw (sR ha).1 (C := RX7) (T := TX7) (N := 3) rfl inw_Row 2 (by decide) rfl (v := .int (σ a 2)) rfl hl hdg kk
theorem pRow_size (hC : Cx p s m args c cc nL own E) (hw : World E sh2 σ H) (hS : va_S E.2.2.2 s.heap H locs) {a : Nat} (ha : isR a) {x : Int32} {index : Nat} (hl : Cond.fieldLink own index (TX7 2).1 (TX7 2).2.1 (TX7 2).2.2.1 ∈ WL) {σ' : St} (hσ : σ' = wr σ a 2 x) (hdg : decode cc pc = .ok (.putfield index, 3)) (kk : ∀ (H1 : Heap) (locs1 : List Loc), World E sh2 σ' H1 → va_S E.2.2.2 s.heap H1 locs1 → W p l e R s m args below meth c H1 locs1 cells slots Q (F0 m (pc + 3) ls (rest))) : W p l e R s m args below meth c H locs cells slots Q (F0 m pc ls (.int x :: .ref (E.2.2.1 + a) :: rest)) :=
  z_put hC hw hS (sR ha).1 (C := RX7) (T := TX7) (N := 3) rfl inw_Row tyX7 tyX7_ok nmX7 2 (by decide) rfl rfl (x := x) (v := .int x) rfl rfl rfl hl hσ hdg kk
theorem gTrace_bodies (hC : Cx p s m args c cc nL own E) (hw : World E sh2 σ H) {index : Nat} (hl : Cond.fieldLink own index (TX9 0).1 (TX9 0).2.1 (TX9 0).2.2.1 ∈ WL) (hdg : decode cc pc = .ok (.getfield index, 3)) (kk : W p l e R s m args below meth c H locs cells slots Q (F0 m (pc + 3) ls (.ref (E.2.2.1 + 12) :: rest))) : W p l e R s m args below meth c H locs cells slots Q (F0 m pc ls (.ref (E.2.2.1 + 11) :: rest)) :=
  z_get hC hw rfl (C := RX9) (T := TX9) (N := 2) rfl inw_Trace 0 (by decide) rfl (v := .ref (E.2.2.1 + 12)) rfl hl hdg kk
theorem gTrace_size (hC : Cx p s m args c cc nL own E) (hw : World E sh2 σ H) {index : Nat} (hl : Cond.fieldLink own index (TX9 1).1 (TX9 1).2.1 (TX9 1).2.2.1 ∈ WL) (hdg : decode cc pc = .ok (.getfield index, 3)) (kk : W p l e R s m args below meth c H locs cells slots Q (F0 m (pc + 3) ls (.int (σ 11 1) :: rest))) : W p l e R s m args below meth c H locs cells slots Q (F0 m pc ls (.ref (E.2.2.1 + 11) :: rest)) :=
  z_get hC hw rfl (C := RX9) (T := TX9) (N := 2) rfl inw_Trace 1 (by decide) rfl (v := .int (σ 11 1)) rfl hl hdg kk
theorem pTrace_size (hC : Cx p s m args c cc nL own E) (hw : World E sh2 σ H) (hS : va_S E.2.2.2 s.heap H locs) {x : Int32} {index : Nat} (hl : Cond.fieldLink own index (TX9 1).1 (TX9 1).2.1 (TX9 1).2.2.1 ∈ WL) {σ' : St} (hσ : σ' = wr σ 11 1 x) (hdg : decode cc pc = .ok (.putfield index, 3)) (kk : ∀ (H1 : Heap) (locs1 : List Loc), World E sh2 σ' H1 → va_S E.2.2.2 s.heap H1 locs1 → W p l e R s m args below meth c H1 locs1 cells slots Q (F0 m (pc + 3) ls (rest))) : W p l e R s m args below meth c H locs cells slots Q (F0 m pc ls (.int x :: .ref (E.2.2.1 + 11) :: rest)) :=
  z_put hC hw hS rfl (C := RX9) (T := TX9) (N := 2) rfl inw_Trace tyX9 tyX9_ok nmX9 1 (by decide) rfl rfl (x := x) (v := .int x) rfl rfl rfl hl hσ hdg kk
theorem gFuseBox_rows (hC : Cx p s m args c cc nL own E) (hw : World E sh2 σ H) {index : Nat} (hl : Cond.fieldLink own index (TX11 0).1 (TX11 0).2.1 (TX11 0).2.2.1 ∈ WL) (hdg : decode cc pc = .ok (.getfield index, 3)) (kk : W p l e R s m args below meth c H locs cells slots Q (F0 m (pc + 3) ls (.ref (E.2.2.1 + 1) :: rest))) : W p l e R s m args below meth c H locs cells slots Q (F0 m pc ls (.ref (E.2.2.1 + 0) :: rest)) :=
  z_get hC hw rfl (C := RX11) (T := TX11) (N := 12) rfl inw_FuseBox 0 (by decide) rfl (v := .ref (E.2.2.1 + 1)) rfl hl hdg kk
theorem gFuseBox_reader (hC : Cx p s m args c cc nL own E) (hw : World E sh2 σ H) {index : Nat} (hl : Cond.fieldLink own index (TX11 1).1 (TX11 1).2.1 (TX11 1).2.2.1 ∈ WL) (hdg : decode cc pc = .ok (.getfield index, 3)) (kk : W p l e R s m args below meth c H locs cells slots Q (F0 m (pc + 3) ls (.ref (E.2.2.1 + 2) :: rest))) : W p l e R s m args below meth c H locs cells slots Q (F0 m pc ls (.ref (E.2.2.1 + 0) :: rest)) :=
  z_get hC hw rfl (C := RX11) (T := TX11) (N := 12) rfl inw_FuseBox 1 (by decide) rfl (v := .ref (E.2.2.1 + 2)) rfl hl hdg kk
theorem gFuseBox_now (hC : Cx p s m args c cc nL own E) (hw : World E sh2 σ H) {index : Nat} (hl : Cond.fieldLink own index (TX11 2).1 (TX11 2).2.1 (TX11 2).2.2.1 ∈ WL) (hdg : decode cc pc = .ok (.getfield index, 3)) (kk : W p l e R s m args below meth c H locs cells slots Q (F0 m (pc + 3) ls (.ref (E.2.2.1 + 19) :: rest))) : W p l e R s m args below meth c H locs cells slots Q (F0 m pc ls (.ref (E.2.2.1 + 0) :: rest)) :=
  z_get hC hw rfl (C := RX11) (T := TX11) (N := 12) rfl inw_FuseBox 2 (by decide) rfl (v := .ref (E.2.2.1 + 19)) rfl hl hdg kk
theorem gFuseBox_trial (hC : Cx p s m args c cc nL own E) (hw : World E sh2 σ H) {index : Nat} (hl : Cond.fieldLink own index (TX11 3).1 (TX11 3).2.1 (TX11 3).2.2.1 ∈ WL) (hdg : decode cc pc = .ok (.getfield index, 3)) (kk : W p l e R s m args below meth c H locs cells slots Q (F0 m (pc + 3) ls (.ref (E.2.2.1 + 27) :: rest))) : W p l e R s m args below meth c H locs cells slots Q (F0 m pc ls (.ref (E.2.2.1 + 0) :: rest)) :=
  z_get hC hw rfl (C := RX11) (T := TX11) (N := 12) rfl inw_FuseBox 3 (by decide) rfl (v := .ref (E.2.2.1 + 27)) rfl hl hdg kk
theorem gFuseBox_images (hC : Cx p s m args c cc nL own E) (hw : World E sh2 σ H) {index : Nat} (hl : Cond.fieldLink own index (TX11 4).1 (TX11 4).2.1 (TX11 4).2.2.1 ∈ WL) (hdg : decode cc pc = .ok (.getfield index, 3)) (kk : W p l e R s m args below meth c H locs cells slots Q (F0 m (pc + 3) ls (.ref (E.2.2.1 + 4) :: rest))) : W p l e R s m args below meth c H locs cells slots Q (F0 m pc ls (.ref (E.2.2.1 + 0) :: rest)) :=
  z_get hC hw rfl (C := RX11) (T := TX11) (N := 12) rfl inw_FuseBox 4 (by decide) rfl (v := .ref (E.2.2.1 + 4)) rfl hl hdg kk
theorem gFuseBox_acts (hC : Cx p s m args c cc nL own E) (hw : World E sh2 σ H) {index : Nat} (hl : Cond.fieldLink own index (TX11 5).1 (TX11 5).2.1 (TX11 5).2.2.1 ∈ WL) (hdg : decode cc pc = .ok (.getfield index, 3)) (kk : W p l e R s m args below meth c H locs cells slots Q (F0 m (pc + 3) ls (.ref (E.2.2.1 + 5) :: rest))) : W p l e R s m args below meth c H locs cells slots Q (F0 m pc ls (.ref (E.2.2.1 + 0) :: rest)) :=
  z_get hC hw rfl (C := RX11) (T := TX11) (N := 12) rfl inw_FuseBox 5 (by decide) rfl (v := .ref (E.2.2.1 + 5)) rfl hl hdg kk
theorem gFuseBox_oldestAct (hC : Cx p s m args c cc nL own E) (hw : World E sh2 σ H) {index : Nat} (hl : Cond.fieldLink own index (TX11 6).1 (TX11 6).2.1 (TX11 6).2.2.1 ∈ WL) (hdg : decode cc pc = .ok (.getfield index, 3)) (kk : W p l e R s m args below meth c H locs cells slots Q (F0 m (pc + 3) ls (.int (σ 0 6) :: rest))) : W p l e R s m args below meth c H locs cells slots Q (F0 m pc ls (.ref (E.2.2.1 + 0) :: rest)) :=
  z_get hC hw rfl (C := RX11) (T := TX11) (N := 12) rfl inw_FuseBox 6 (by decide) rfl (v := .int (σ 0 6)) rfl hl hdg kk
theorem pFuseBox_oldestAct (hC : Cx p s m args c cc nL own E) (hw : World E sh2 σ H) (hS : va_S E.2.2.2 s.heap H locs) {x : Int32} {index : Nat} (hl : Cond.fieldLink own index (TX11 6).1 (TX11 6).2.1 (TX11 6).2.2.1 ∈ WL) {σ' : St} (hσ : σ' = wr σ 0 6 x) (hdg : decode cc pc = .ok (.putfield index, 3)) (kk : ∀ (H1 : Heap) (locs1 : List Loc), World E sh2 σ' H1 → va_S E.2.2.2 s.heap H1 locs1 → W p l e R s m args below meth c H1 locs1 cells slots Q (F0 m (pc + 3) ls (rest))) : W p l e R s m args below meth c H locs cells slots Q (F0 m pc ls (.int x :: .ref (E.2.2.1 + 0) :: rest)) :=
  z_put hC hw hS rfl (C := RX11) (T := TX11) (N := 12) rfl inw_FuseBox tyX11 tyX11_ok nmX11 6 (by decide) rfl rfl (x := x) (v := .int x) rfl rfl rfl hl hσ hdg kk
theorem gFuseBox_actsKept (hC : Cx p s m args c cc nL own E) (hw : World E sh2 σ H) {index : Nat} (hl : Cond.fieldLink own index (TX11 7).1 (TX11 7).2.1 (TX11 7).2.2.1 ∈ WL) (hdg : decode cc pc = .ok (.getfield index, 3)) (kk : W p l e R s m args below meth c H locs cells slots Q (F0 m (pc + 3) ls (.int (σ 0 7) :: rest))) : W p l e R s m args below meth c H locs cells slots Q (F0 m pc ls (.ref (E.2.2.1 + 0) :: rest)) :=
  z_get hC hw rfl (C := RX11) (T := TX11) (N := 12) rfl inw_FuseBox 7 (by decide) rfl (v := .int (σ 0 7)) rfl hl hdg kk
theorem pFuseBox_actsKept (hC : Cx p s m args c cc nL own E) (hw : World E sh2 σ H) (hS : va_S E.2.2.2 s.heap H locs) {x : Int32} {index : Nat} (hl : Cond.fieldLink own index (TX11 7).1 (TX11 7).2.1 (TX11 7).2.2.1 ∈ WL) {σ' : St} (hσ : σ' = wr σ 0 7 x) (hdg : decode cc pc = .ok (.putfield index, 3)) (kk : ∀ (H1 : Heap) (locs1 : List Loc), World E sh2 σ' H1 → va_S E.2.2.2 s.heap H1 locs1 → W p l e R s m args below meth c H1 locs1 cells slots Q (F0 m (pc + 3) ls (rest))) : W p l e R s m args below meth c H locs cells slots Q (F0 m pc ls (.int x :: .ref (E.2.2.1 + 0) :: rest)) :=
  z_put hC hw hS rfl (C := RX11) (T := TX11) (N := 12) rfl inw_FuseBox tyX11 tyX11_ok nmX11 7 (by decide) rfl rfl (x := x) (v := .int x) rfl rfl rfl hl hσ hdg kk
theorem gFuseBox_plugging (hC : Cx p s m args c cc nL own E) (hw : World E sh2 σ H) {index : Nat} (hl : Cond.fieldLink own index (TX11 8).1 (TX11 8).2.1 (TX11 8).2.2.1 ∈ WL) (hdg : decode cc pc = .ok (.getfield index, 3)) (kk : W p l e R s m args below meth c H locs cells slots Q (F0 m (pc + 3) ls (.ref (E.2.2.1 + 6) :: rest))) : W p l e R s m args below meth c H locs cells slots Q (F0 m pc ls (.ref (E.2.2.1 + 0) :: rest)) :=
  z_get hC hw rfl (C := RX11) (T := TX11) (N := 12) rfl inw_FuseBox 8 (by decide) rfl (v := .ref (E.2.2.1 + 6)) rfl hl hdg kk
theorem gFuseBox_trace (hC : Cx p s m args c cc nL own E) (hw : World E sh2 σ H) {index : Nat} (hl : Cond.fieldLink own index (TX11 9).1 (TX11 9).2.1 (TX11 9).2.2.1 ∈ WL) (hdg : decode cc pc = .ok (.getfield index, 3)) (kk : W p l e R s m args below meth c H locs cells slots Q (F0 m (pc + 3) ls (.ref (E.2.2.1 + 11) :: rest))) : W p l e R s m args below meth c H locs cells slots Q (F0 m pc ls (.ref (E.2.2.1 + 0) :: rest)) :=
  z_get hC hw rfl (C := RX11) (T := TX11) (N := 12) rfl inw_FuseBox 9 (by decide) rfl (v := .ref (E.2.2.1 + 11)) rfl hl hdg kk
theorem gFuseBox_latestFault (hC : Cx p s m args c cc nL own E) (hw : World E sh2 σ H) {index : Nat} (hl : Cond.fieldLink own index (TX11 10).1 (TX11 10).2.1 (TX11 10).2.2.1 ∈ WL) (hdg : decode cc pc = .ok (.getfield index, 3)) (kk : W p l e R s m args below meth c H locs cells slots Q (F0 m (pc + 3) ls (.int (σ 0 10) :: rest))) : W p l e R s m args below meth c H locs cells slots Q (F0 m pc ls (.ref (E.2.2.1 + 0) :: rest)) :=
  z_get hC hw rfl (C := RX11) (T := TX11) (N := 12) rfl inw_FuseBox 10 (by decide) rfl (v := .int (σ 0 10)) rfl hl hdg kk
theorem pFuseBox_latestFault (hC : Cx p s m args c cc nL own E) (hw : World E sh2 σ H) (hS : va_S E.2.2.2 s.heap H locs) {x : Int32} {index : Nat} (hl : Cond.fieldLink own index (TX11 10).1 (TX11 10).2.1 (TX11 10).2.2.1 ∈ WL) {σ' : St} (hσ : σ' = wr σ 0 10 x) (hdg : decode cc pc = .ok (.putfield index, 3)) (kk : ∀ (H1 : Heap) (locs1 : List Loc), World E sh2 σ' H1 → va_S E.2.2.2 s.heap H1 locs1 → W p l e R s m args below meth c H1 locs1 cells slots Q (F0 m (pc + 3) ls (rest))) : W p l e R s m args below meth c H locs cells slots Q (F0 m pc ls (.int x :: .ref (E.2.2.1 + 0) :: rest)) :=
  z_put hC hw hS rfl (C := RX11) (T := TX11) (N := 12) rfl inw_FuseBox tyX11 tyX11_ok nmX11 10 (by decide) rfl rfl (x := x) (v := .int x) rfl rfl rfl hl hσ hdg kk
theorem gFuseBox_latestFinding (hC : Cx p s m args c cc nL own E) (hw : World E sh2 σ H) {index : Nat} (hl : Cond.fieldLink own index (TX11 11).1 (TX11 11).2.1 (TX11 11).2.2.1 ∈ WL) (hdg : decode cc pc = .ok (.getfield index, 3)) (kk : W p l e R s m args below meth c H locs cells slots Q (F0 m (pc + 3) ls (.int (σ 0 11) :: rest))) : W p l e R s m args below meth c H locs cells slots Q (F0 m pc ls (.ref (E.2.2.1 + 0) :: rest)) :=
  z_get hC hw rfl (C := RX11) (T := TX11) (N := 12) rfl inw_FuseBox 11 (by decide) rfl (v := .int (σ 0 11)) rfl hl hdg kk
theorem pFuseBox_latestFinding (hC : Cx p s m args c cc nL own E) (hw : World E sh2 σ H) (hS : va_S E.2.2.2 s.heap H locs) {x : Int32} {index : Nat} (hl : Cond.fieldLink own index (TX11 11).1 (TX11 11).2.1 (TX11 11).2.2.1 ∈ WL) {σ' : St} (hσ : σ' = wr σ 0 11 x) (hdg : decode cc pc = .ok (.putfield index, 3)) (kk : ∀ (H1 : Heap) (locs1 : List Loc), World E sh2 σ' H1 → va_S E.2.2.2 s.heap H1 locs1 → W p l e R s m args below meth c H1 locs1 cells slots Q (F0 m (pc + 3) ls (rest))) : W p l e R s m args below meth c H locs cells slots Q (F0 m pc ls (.int x :: .ref (E.2.2.1 + 0) :: rest)) :=
  z_put hC hw hS rfl (C := RX11) (T := TX11) (N := 12) rfl inw_FuseBox tyX11 tyX11_ok nmX11 11 (by decide) rfl rfl (x := x) (v := .int x) rfl rfl rfl hl hσ hdg kk
theorem gModel_slot (hC : Cx p s m args c cc nL own E) (hw : World E sh2 σ H) {index : Nat} (hl : Cond.fieldLink own index (TX12 0).1 (TX12 0).2.1 (TX12 0).2.2.1 ∈ WL) (hdg : decode cc pc = .ok (.getfield index, 3)) (kk : W p l e R s m args below meth c H locs cells slots Q (F0 m (pc + 3) ls (.ref (E.2.2.1 + 260) :: rest))) : W p l e R s m args below meth c H locs cells slots Q (F0 m pc ls (.ref (E.2.2.1 + 259) :: rest)) :=
  z_get hC hw rfl (C := RX12) (T := TX12) (N := 23) rfl inw_Model 0 (by decide) rfl (v := .ref (E.2.2.1 + 260)) rfl hl hdg kk
theorem gModel_told (hC : Cx p s m args c cc nL own E) (hw : World E sh2 σ H) {index : Nat} (hl : Cond.fieldLink own index (TX12 1).1 (TX12 1).2.1 (TX12 1).2.2.1 ∈ WL) (hdg : decode cc pc = .ok (.getfield index, 3)) (kk : W p l e R s m args below meth c H locs cells slots Q (F0 m (pc + 3) ls (.ref (E.2.2.1 + 261) :: rest))) : W p l e R s m args below meth c H locs cells slots Q (F0 m pc ls (.ref (E.2.2.1 + 259) :: rest)) :=
  z_get hC hw rfl (C := RX12) (T := TX12) (N := 23) rfl inw_Model 1 (by decide) rfl (v := .ref (E.2.2.1 + 261)) rfl hl hdg kk
theorem gModel_kept (hC : Cx p s m args c cc nL own E) (hw : World E sh2 σ H) {index : Nat} (hl : Cond.fieldLink own index (TX12 2).1 (TX12 2).2.1 (TX12 2).2.2.1 ∈ WL) (hdg : decode cc pc = .ok (.getfield index, 3)) (kk : W p l e R s m args below meth c H locs cells slots Q (F0 m (pc + 3) ls (.ref (E.2.2.1 + 262) :: rest))) : W p l e R s m args below meth c H locs cells slots Q (F0 m pc ls (.ref (E.2.2.1 + 259) :: rest)) :=
  z_get hC hw rfl (C := RX12) (T := TX12) (N := 23) rfl inw_Model 2 (by decide) rfl (v := .ref (E.2.2.1 + 262)) rfl hl hdg kk
theorem gModel_acts (hC : Cx p s m args c cc nL own E) (hw : World E sh2 σ H) {index : Nat} (hl : Cond.fieldLink own index (TX12 3).1 (TX12 3).2.1 (TX12 3).2.2.1 ∈ WL) (hdg : decode cc pc = .ok (.getfield index, 3)) (kk : W p l e R s m args below meth c H locs cells slots Q (F0 m (pc + 3) ls (.int (σ 259 3) :: rest))) : W p l e R s m args below meth c H locs cells slots Q (F0 m pc ls (.ref (E.2.2.1 + 259) :: rest)) :=
  z_get hC hw rfl (C := RX12) (T := TX12) (N := 23) rfl inw_Model 3 (by decide) rfl (v := .int (σ 259 3)) rfl hl hdg kk
theorem pModel_acts (hC : Cx p s m args c cc nL own E) (hw : World E sh2 σ H) (hS : va_S E.2.2.2 s.heap H locs) {x : Int32} {index : Nat} (hl : Cond.fieldLink own index (TX12 3).1 (TX12 3).2.1 (TX12 3).2.2.1 ∈ WL) {σ' : St} (hσ : σ' = wr σ 259 3 x) (hdg : decode cc pc = .ok (.putfield index, 3)) (kk : ∀ (H1 : Heap) (locs1 : List Loc), World E sh2 σ' H1 → va_S E.2.2.2 s.heap H1 locs1 → W p l e R s m args below meth c H1 locs1 cells slots Q (F0 m (pc + 3) ls (rest))) : W p l e R s m args below meth c H locs cells slots Q (F0 m pc ls (.int x :: .ref (E.2.2.1 + 259) :: rest)) :=
  z_put hC hw hS rfl (C := RX12) (T := TX12) (N := 23) rfl inw_Model tyX12 tyX12_ok nmX12 3 (by decide) rfl rfl (x := x) (v := .int x) rfl rfl rfl hl hσ hdg kk
theorem gModel_lane (hC : Cx p s m args c cc nL own E) (hw : World E sh2 σ H) {index : Nat} (hl : Cond.fieldLink own index (TX12 4).1 (TX12 4).2.1 (TX12 4).2.2.1 ∈ WL) (hdg : decode cc pc = .ok (.getfield index, 3)) (kk : W p l e R s m args below meth c H locs cells slots Q (F0 m (pc + 3) ls (.ref (E.2.2.1 + 263) :: rest))) : W p l e R s m args below meth c H locs cells slots Q (F0 m pc ls (.ref (E.2.2.1 + 259) :: rest)) :=
  z_get hC hw rfl (C := RX12) (T := TX12) (N := 23) rfl inw_Model 4 (by decide) rfl (v := .ref (E.2.2.1 + 263)) rfl hl hdg kk
theorem gModel_size (hC : Cx p s m args c cc nL own E) (hw : World E sh2 σ H) {index : Nat} (hl : Cond.fieldLink own index (TX12 5).1 (TX12 5).2.1 (TX12 5).2.2.1 ∈ WL) (hdg : decode cc pc = .ok (.getfield index, 3)) (kk : W p l e R s m args below meth c H locs cells slots Q (F0 m (pc + 3) ls (.ref (E.2.2.1 + 264) :: rest))) : W p l e R s m args below meth c H locs cells slots Q (F0 m pc ls (.ref (E.2.2.1 + 259) :: rest)) :=
  z_get hC hw rfl (C := RX12) (T := TX12) (N := 23) rfl inw_Model 5 (by decide) rfl (v := .ref (E.2.2.1 + 264)) rfl hl hdg kk
theorem gModel_items (hC : Cx p s m args c cc nL own E) (hw : World E sh2 σ H) {index : Nat} (hl : Cond.fieldLink own index (TX12 6).1 (TX12 6).2.1 (TX12 6).2.2.1 ∈ WL) (hdg : decode cc pc = .ok (.getfield index, 3)) (kk : W p l e R s m args below meth c H locs cells slots Q (F0 m (pc + 3) ls (.ref (E.2.2.1 + 265) :: rest))) : W p l e R s m args below meth c H locs cells slots Q (F0 m pc ls (.ref (E.2.2.1 + 259) :: rest)) :=
  z_get hC hw rfl (C := RX12) (T := TX12) (N := 23) rfl inw_Model 6 (by decide) rfl (v := .ref (E.2.2.1 + 265)) rfl hl hdg kk
theorem gModel_moved (hC : Cx p s m args c cc nL own E) (hw : World E sh2 σ H) {index : Nat} (hl : Cond.fieldLink own index (TX12 7).1 (TX12 7).2.1 (TX12 7).2.2.1 ∈ WL) (hdg : decode cc pc = .ok (.getfield index, 3)) (kk : W p l e R s m args below meth c H locs cells slots Q (F0 m (pc + 3) ls (.ref (E.2.2.1 + 266) :: rest))) : W p l e R s m args below meth c H locs cells slots Q (F0 m pc ls (.ref (E.2.2.1 + 259) :: rest)) :=
  z_get hC hw rfl (C := RX12) (T := TX12) (N := 23) rfl inw_Model 7 (by decide) rfl (v := .ref (E.2.2.1 + 266)) rfl hl hdg kk
theorem gModel_found (hC : Cx p s m args c cc nL own E) (hw : World E sh2 σ H) {index : Nat} (hl : Cond.fieldLink own index (TX12 8).1 (TX12 8).2.1 (TX12 8).2.2.1 ∈ WL) (hdg : decode cc pc = .ok (.getfield index, 3)) (kk : W p l e R s m args below meth c H locs cells slots Q (F0 m (pc + 3) ls (.int (σ 259 8) :: rest))) : W p l e R s m args below meth c H locs cells slots Q (F0 m pc ls (.ref (E.2.2.1 + 259) :: rest)) :=
  z_get hC hw rfl (C := RX12) (T := TX12) (N := 23) rfl inw_Model 8 (by decide) rfl (v := .int (σ 259 8)) rfl hl hdg kk
theorem pModel_found (hC : Cx p s m args c cc nL own E) (hw : World E sh2 σ H) (hS : va_S E.2.2.2 s.heap H locs) {x : Int32} {index : Nat} (hl : Cond.fieldLink own index (TX12 8).1 (TX12 8).2.1 (TX12 8).2.2.1 ∈ WL) {σ' : St} (hσ : σ' = wr σ 259 8 x) (hdg : decode cc pc = .ok (.putfield index, 3)) (kk : ∀ (H1 : Heap) (locs1 : List Loc), World E sh2 σ' H1 → va_S E.2.2.2 s.heap H1 locs1 → W p l e R s m args below meth c H1 locs1 cells slots Q (F0 m (pc + 3) ls (rest))) : W p l e R s m args below meth c H locs cells slots Q (F0 m pc ls (.int x :: .ref (E.2.2.1 + 259) :: rest)) :=
  z_put hC hw hS rfl (C := RX12) (T := TX12) (N := 23) rfl inw_Model tyX12 tyX12_ok nmX12 8 (by decide) rfl rfl (x := x) (v := .int x) rfl rfl rfl hl hσ hdg kk
theorem gModel_length (hC : Cx p s m args c cc nL own E) (hw : World E sh2 σ H) {index : Nat} (hl : Cond.fieldLink own index (TX12 9).1 (TX12 9).2.1 (TX12 9).2.2.1 ∈ WL) (hdg : decode cc pc = .ok (.getfield index, 3)) (kk : W p l e R s m args below meth c H locs cells slots Q (F0 m (pc + 3) ls (.int (σ 259 9) :: rest))) : W p l e R s m args below meth c H locs cells slots Q (F0 m pc ls (.ref (E.2.2.1 + 259) :: rest)) :=
  z_get hC hw rfl (C := RX12) (T := TX12) (N := 23) rfl inw_Model 9 (by decide) rfl (v := .int (σ 259 9)) rfl hl hdg kk
theorem pModel_length (hC : Cx p s m args c cc nL own E) (hw : World E sh2 σ H) (hS : va_S E.2.2.2 s.heap H locs) {x : Int32} {index : Nat} (hl : Cond.fieldLink own index (TX12 9).1 (TX12 9).2.1 (TX12 9).2.2.1 ∈ WL) {σ' : St} (hσ : σ' = wr σ 259 9 x) (hdg : decode cc pc = .ok (.putfield index, 3)) (kk : ∀ (H1 : Heap) (locs1 : List Loc), World E sh2 σ' H1 → va_S E.2.2.2 s.heap H1 locs1 → W p l e R s m args below meth c H1 locs1 cells slots Q (F0 m (pc + 3) ls (rest))) : W p l e R s m args below meth c H locs cells slots Q (F0 m pc ls (.int x :: .ref (E.2.2.1 + 259) :: rest)) :=
  z_put hC hw hS rfl (C := RX12) (T := TX12) (N := 23) rfl inw_Model tyX12 tyX12_ok nmX12 9 (by decide) rfl rfl (x := x) (v := .int x) rfl rfl rfl hl hσ hdg kk
theorem gModel_tape (hC : Cx p s m args c cc nL own E) (hw : World E sh2 σ H) {index : Nat} (hl : Cond.fieldLink own index (TX12 10).1 (TX12 10).2.1 (TX12 10).2.2.1 ∈ WL) (hdg : decode cc pc = .ok (.getfield index, 3)) (kk : W p l e R s m args below meth c H locs cells slots Q (F0 m (pc + 3) ls (.ref (E.2.2.1 + 267) :: rest))) : W p l e R s m args below meth c H locs cells slots Q (F0 m pc ls (.ref (E.2.2.1 + 259) :: rest)) :=
  z_get hC hw rfl (C := RX12) (T := TX12) (N := 23) rfl inw_Model 10 (by decide) rfl (v := .ref (E.2.2.1 + 267)) rfl hl hdg kk
theorem gModel_next (hC : Cx p s m args c cc nL own E) (hw : World E sh2 σ H) {index : Nat} (hl : Cond.fieldLink own index (TX12 11).1 (TX12 11).2.1 (TX12 11).2.2.1 ∈ WL) (hdg : decode cc pc = .ok (.getfield index, 3)) (kk : W p l e R s m args below meth c H locs cells slots Q (F0 m (pc + 3) ls (.int (σ 259 11) :: rest))) : W p l e R s m args below meth c H locs cells slots Q (F0 m pc ls (.ref (E.2.2.1 + 259) :: rest)) :=
  z_get hC hw rfl (C := RX12) (T := TX12) (N := 23) rfl inw_Model 11 (by decide) rfl (v := .int (σ 259 11)) rfl hl hdg kk
theorem pModel_next (hC : Cx p s m args c cc nL own E) (hw : World E sh2 σ H) (hS : va_S E.2.2.2 s.heap H locs) {x : Int32} {index : Nat} (hl : Cond.fieldLink own index (TX12 11).1 (TX12 11).2.1 (TX12 11).2.2.1 ∈ WL) {σ' : St} (hσ : σ' = wr σ 259 11 x) (hdg : decode cc pc = .ok (.putfield index, 3)) (kk : ∀ (H1 : Heap) (locs1 : List Loc), World E sh2 σ' H1 → va_S E.2.2.2 s.heap H1 locs1 → W p l e R s m args below meth c H1 locs1 cells slots Q (F0 m (pc + 3) ls (rest))) : W p l e R s m args below meth c H locs cells slots Q (F0 m pc ls (.int x :: .ref (E.2.2.1 + 259) :: rest)) :=
  z_put hC hw hS rfl (C := RX12) (T := TX12) (N := 23) rfl inw_Model tyX12 tyX12_ok nmX12 11 (by decide) rfl rfl (x := x) (v := .int x) rfl rfl rfl hl hσ hdg kk
theorem gModel_place (hC : Cx p s m args c cc nL own E) (hw : World E sh2 σ H) {index : Nat} (hl : Cond.fieldLink own index (TX12 12).1 (TX12 12).2.1 (TX12 12).2.2.1 ∈ WL) (hdg : decode cc pc = .ok (.getfield index, 3)) (kk : W p l e R s m args below meth c H locs cells slots Q (F0 m (pc + 3) ls (.int (σ 259 12) :: rest))) : W p l e R s m args below meth c H locs cells slots Q (F0 m pc ls (.ref (E.2.2.1 + 259) :: rest)) :=
  z_get hC hw rfl (C := RX12) (T := TX12) (N := 23) rfl inw_Model 12 (by decide) rfl (v := .int (σ 259 12)) rfl hl hdg kk
theorem pModel_place (hC : Cx p s m args c cc nL own E) (hw : World E sh2 σ H) (hS : va_S E.2.2.2 s.heap H locs) {x : Int32} {index : Nat} (hl : Cond.fieldLink own index (TX12 12).1 (TX12 12).2.1 (TX12 12).2.2.1 ∈ WL) {σ' : St} (hσ : σ' = wr σ 259 12 x) (hdg : decode cc pc = .ok (.putfield index, 3)) (kk : ∀ (H1 : Heap) (locs1 : List Loc), World E sh2 σ' H1 → va_S E.2.2.2 s.heap H1 locs1 → W p l e R s m args below meth c H1 locs1 cells slots Q (F0 m (pc + 3) ls (rest))) : W p l e R s m args below meth c H locs cells slots Q (F0 m pc ls (.int x :: .ref (E.2.2.1 + 259) :: rest)) :=
  z_put hC hw hS rfl (C := RX12) (T := TX12) (N := 23) rfl inw_Model tyX12 tyX12_ok nmX12 12 (by decide) rfl rfl (x := x) (v := .int x) rfl rfl rfl hl hσ hdg kk
theorem gModel_number (hC : Cx p s m args c cc nL own E) (hw : World E sh2 σ H) {index : Nat} (hl : Cond.fieldLink own index (TX12 13).1 (TX12 13).2.1 (TX12 13).2.2.1 ∈ WL) (hdg : decode cc pc = .ok (.getfield index, 3)) (kk : W p l e R s m args below meth c H locs cells slots Q (F0 m (pc + 3) ls (.int (σ 259 13) :: rest))) : W p l e R s m args below meth c H locs cells slots Q (F0 m pc ls (.ref (E.2.2.1 + 259) :: rest)) :=
  z_get hC hw rfl (C := RX12) (T := TX12) (N := 23) rfl inw_Model 13 (by decide) rfl (v := .int (σ 259 13)) rfl hl hdg kk
theorem pModel_number (hC : Cx p s m args c cc nL own E) (hw : World E sh2 σ H) (hS : va_S E.2.2.2 s.heap H locs) {x : Int32} {index : Nat} (hl : Cond.fieldLink own index (TX12 13).1 (TX12 13).2.1 (TX12 13).2.2.1 ∈ WL) {σ' : St} (hσ : σ' = wr σ 259 13 x) (hdg : decode cc pc = .ok (.putfield index, 3)) (kk : ∀ (H1 : Heap) (locs1 : List Loc), World E sh2 σ' H1 → va_S E.2.2.2 s.heap H1 locs1 → W p l e R s m args below meth c H1 locs1 cells slots Q (F0 m (pc + 3) ls (rest))) : W p l e R s m args below meth c H locs cells slots Q (F0 m pc ls (.int x :: .ref (E.2.2.1 + 259) :: rest)) :=
  z_put hC hw hS rfl (C := RX12) (T := TX12) (N := 23) rfl inw_Model tyX12 tyX12_ok nmX12 13 (by decide) rfl rfl (x := x) (v := .int x) rfl rfl rfl hl hσ hdg kk
theorem gModel_wrong (hC : Cx p s m args c cc nL own E) (hw : World E sh2 σ H) {index : Nat} (hl : Cond.fieldLink own index (TX12 14).1 (TX12 14).2.1 (TX12 14).2.2.1 ∈ WL) (hdg : decode cc pc = .ok (.getfield index, 3)) (kk : W p l e R s m args below meth c H locs cells slots Q (F0 m (pc + 3) ls (.int (σ 259 14) :: rest))) : W p l e R s m args below meth c H locs cells slots Q (F0 m pc ls (.ref (E.2.2.1 + 259) :: rest)) :=
  z_get hC hw rfl (C := RX12) (T := TX12) (N := 23) rfl inw_Model 14 (by decide) rfl (v := .int (σ 259 14)) rfl hl hdg kk
theorem pModel_wrong (hC : Cx p s m args c cc nL own E) (hw : World E sh2 σ H) (hS : va_S E.2.2.2 s.heap H locs) {x : Int32} {index : Nat} (hl : Cond.fieldLink own index (TX12 14).1 (TX12 14).2.1 (TX12 14).2.2.1 ∈ WL) {σ' : St} (hσ : σ' = wr σ 259 14 x) (hdg : decode cc pc = .ok (.putfield index, 3)) (kk : ∀ (H1 : Heap) (locs1 : List Loc), World E sh2 σ' H1 → va_S E.2.2.2 s.heap H1 locs1 → W p l e R s m args below meth c H1 locs1 cells slots Q (F0 m (pc + 3) ls (rest))) : W p l e R s m args below meth c H locs cells slots Q (F0 m pc ls (.int x :: .ref (E.2.2.1 + 259) :: rest)) :=
  z_put hC hw hS rfl (C := RX12) (T := TX12) (N := 23) rfl inw_Model tyX12 tyX12_ok nmX12 14 (by decide) rfl rfl (x := x) (v := .int x) rfl rfl rfl hl hσ hdg kk
theorem gModel_latest (hC : Cx p s m args c cc nL own E) (hw : World E sh2 σ H) {index : Nat} (hl : Cond.fieldLink own index (TX12 15).1 (TX12 15).2.1 (TX12 15).2.2.1 ∈ WL) (hdg : decode cc pc = .ok (.getfield index, 3)) (kk : W p l e R s m args below meth c H locs cells slots Q (F0 m (pc + 3) ls (.int (σ 259 15) :: rest))) : W p l e R s m args below meth c H locs cells slots Q (F0 m pc ls (.ref (E.2.2.1 + 259) :: rest)) :=
  z_get hC hw rfl (C := RX12) (T := TX12) (N := 23) rfl inw_Model 15 (by decide) rfl (v := .int (σ 259 15)) rfl hl hdg kk
theorem pModel_latest (hC : Cx p s m args c cc nL own E) (hw : World E sh2 σ H) (hS : va_S E.2.2.2 s.heap H locs) {x : Int32} {index : Nat} (hl : Cond.fieldLink own index (TX12 15).1 (TX12 15).2.1 (TX12 15).2.2.1 ∈ WL) {σ' : St} (hσ : σ' = wr σ 259 15 x) (hdg : decode cc pc = .ok (.putfield index, 3)) (kk : ∀ (H1 : Heap) (locs1 : List Loc), World E sh2 σ' H1 → va_S E.2.2.2 s.heap H1 locs1 → W p l e R s m args below meth c H1 locs1 cells slots Q (F0 m (pc + 3) ls (rest))) : W p l e R s m args below meth c H locs cells slots Q (F0 m pc ls (.int x :: .ref (E.2.2.1 + 259) :: rest)) :=
  z_put hC hw hS rfl (C := RX12) (T := TX12) (N := 23) rfl inw_Model tyX12 tyX12_ok nmX12 15 (by decide) rfl rfl (x := x) (v := .int x) rfl rfl rfl hl hσ hdg kk
theorem gModel_read (hC : Cx p s m args c cc nL own E) (hw : World E sh2 σ H) {index : Nat} (hl : Cond.fieldLink own index (TX12 16).1 (TX12 16).2.1 (TX12 16).2.2.1 ∈ WL) (hdg : decode cc pc = .ok (.getfield index, 3)) (kk : W p l e R s m args below meth c H locs cells slots Q (F0 m (pc + 3) ls (.ref (E.2.2.1 + 268) :: rest))) : W p l e R s m args below meth c H locs cells slots Q (F0 m pc ls (.ref (E.2.2.1 + 259) :: rest)) :=
  z_get hC hw rfl (C := RX12) (T := TX12) (N := 23) rfl inw_Model 16 (by decide) rfl (v := .ref (E.2.2.1 + 268)) rfl hl hdg kk
theorem gModel_readRate (hC : Cx p s m args c cc nL own E) (hw : World E sh2 σ H) {index : Nat} (hl : Cond.fieldLink own index (TX12 17).1 (TX12 17).2.1 (TX12 17).2.2.1 ∈ WL) (hdg : decode cc pc = .ok (.getfield index, 3)) (kk : W p l e R s m args below meth c H locs cells slots Q (F0 m (pc + 3) ls (.ref (E.2.2.1 + 269) :: rest))) : W p l e R s m args below meth c H locs cells slots Q (F0 m pc ls (.ref (E.2.2.1 + 259) :: rest)) :=
  z_get hC hw rfl (C := RX12) (T := TX12) (N := 23) rfl inw_Model 17 (by decide) rfl (v := .ref (E.2.2.1 + 269)) rfl hl hdg kk
theorem gModel_readPlug (hC : Cx p s m args c cc nL own E) (hw : World E sh2 σ H) {index : Nat} (hl : Cond.fieldLink own index (TX12 18).1 (TX12 18).2.1 (TX12 18).2.2.1 ∈ WL) (hdg : decode cc pc = .ok (.getfield index, 3)) (kk : W p l e R s m args below meth c H locs cells slots Q (F0 m (pc + 3) ls (.ref (E.2.2.1 + 270) :: rest))) : W p l e R s m args below meth c H locs cells slots Q (F0 m pc ls (.ref (E.2.2.1 + 259) :: rest)) :=
  z_get hC hw rfl (C := RX12) (T := TX12) (N := 23) rfl inw_Model 18 (by decide) rfl (v := .ref (E.2.2.1 + 270)) rfl hl hdg kk
theorem gModel_readOn (hC : Cx p s m args c cc nL own E) (hw : World E sh2 σ H) {index : Nat} (hl : Cond.fieldLink own index (TX12 19).1 (TX12 19).2.1 (TX12 19).2.2.1 ∈ WL) (hdg : decode cc pc = .ok (.getfield index, 3)) (kk : W p l e R s m args below meth c H locs cells slots Q (F0 m (pc + 3) ls (.ref (E.2.2.1 + 271) :: rest))) : W p l e R s m args below meth c H locs cells slots Q (F0 m pc ls (.ref (E.2.2.1 + 259) :: rest)) :=
  z_get hC hw rfl (C := RX12) (T := TX12) (N := 23) rfl inw_Model 19 (by decide) rfl (v := .ref (E.2.2.1 + 271)) rfl hl hdg kk
theorem gModel_traces (hC : Cx p s m args c cc nL own E) (hw : World E sh2 σ H) {index : Nat} (hl : Cond.fieldLink own index (TX12 20).1 (TX12 20).2.1 (TX12 20).2.2.1 ∈ WL) (hdg : decode cc pc = .ok (.getfield index, 3)) (kk : W p l e R s m args below meth c H locs cells slots Q (F0 m (pc + 3) ls (.int (σ 259 20) :: rest))) : W p l e R s m args below meth c H locs cells slots Q (F0 m pc ls (.ref (E.2.2.1 + 259) :: rest)) :=
  z_get hC hw rfl (C := RX12) (T := TX12) (N := 23) rfl inw_Model 20 (by decide) rfl (v := .int (σ 259 20)) rfl hl hdg kk
theorem pModel_traces (hC : Cx p s m args c cc nL own E) (hw : World E sh2 σ H) (hS : va_S E.2.2.2 s.heap H locs) {x : Int32} {index : Nat} (hl : Cond.fieldLink own index (TX12 20).1 (TX12 20).2.1 (TX12 20).2.2.1 ∈ WL) {σ' : St} (hσ : σ' = wr σ 259 20 x) (hdg : decode cc pc = .ok (.putfield index, 3)) (kk : ∀ (H1 : Heap) (locs1 : List Loc), World E sh2 σ' H1 → va_S E.2.2.2 s.heap H1 locs1 → W p l e R s m args below meth c H1 locs1 cells slots Q (F0 m (pc + 3) ls (rest))) : W p l e R s m args below meth c H locs cells slots Q (F0 m pc ls (.int x :: .ref (E.2.2.1 + 259) :: rest)) :=
  z_put hC hw hS rfl (C := RX12) (T := TX12) (N := 23) rfl inw_Model tyX12 tyX12_ok nmX12 20 (by decide) rfl rfl (x := x) (v := .int x) rfl rfl rfl hl hσ hdg kk
theorem gModel_traced (hC : Cx p s m args c cc nL own E) (hw : World E sh2 σ H) {index : Nat} (hl : Cond.fieldLink own index (TX12 21).1 (TX12 21).2.1 (TX12 21).2.2.1 ∈ WL) (hdg : decode cc pc = .ok (.getfield index, 3)) (kk : W p l e R s m args below meth c H locs cells slots Q (F0 m (pc + 3) ls (.ref (E.2.2.1 + 272) :: rest))) : W p l e R s m args below meth c H locs cells slots Q (F0 m pc ls (.ref (E.2.2.1 + 259) :: rest)) :=
  z_get hC hw rfl (C := RX12) (T := TX12) (N := 23) rfl inw_Model 21 (by decide) rfl (v := .ref (E.2.2.1 + 272)) rfl hl hdg kk
theorem gModel_flows (hC : Cx p s m args c cc nL own E) (hw : World E sh2 σ H) {index : Nat} (hl : Cond.fieldLink own index (TX12 22).1 (TX12 22).2.1 (TX12 22).2.2.1 ∈ WL) (hdg : decode cc pc = .ok (.getfield index, 3)) (kk : W p l e R s m args below meth c H locs cells slots Q (F0 m (pc + 3) ls (.ref (E.2.2.1 + 273) :: rest))) : W p l e R s m args below meth c H locs cells slots Q (F0 m pc ls (.ref (E.2.2.1 + 259) :: rest)) :=
  z_get hC hw rfl (C := RX12) (T := TX12) (N := 23) rfl inw_Model 22 (by decide) rfl (v := .ref (E.2.2.1 + 273)) rfl hl hdg kk
end ZFields
end
