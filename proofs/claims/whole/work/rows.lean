section
-- ===== PART A: goes FIRST, ahead of the names: the tables' words, and 'selects' of the private methods out of them =====
/-- a private method of a class that the tables say can be made, by its rows of tables_1 -/
def lw_okq (q : MethodName × Nat) : Prop := (q.1.cls ≠ "java/lang/invoke/MethodHandle" ∧ q.1.cls ≠ "java/lang/invoke/VarHandle") ∧ Cond.instantiable q.1.cls q.2 ∈ tables_1 ∧ Cond.privateMethod q.1 ∈ tables_1 ∧ Cond.instanceMethod q.1 ∈ tables_1
theorem lw_p0 : lw_okq (⟨"WhenToSpeak$Work", "weigh", "(IIZ)V"⟩, 8) := ⟨⟨by decide +kernel, by decide +kernel⟩, List.mem_of_getElem? (i := 28) (by decide +kernel), List.mem_of_getElem? (i := 449) (by decide +kernel), List.mem_of_getElem? (i := 450) (by decide +kernel)⟩
theorem lw_p1 : lw_okq (⟨"WhenToSpeak$Work", "signFactor", "(IIZ)J"⟩, 8) := ⟨⟨by decide +kernel, by decide +kernel⟩, List.mem_of_getElem? (i := 28) (by decide +kernel), List.mem_of_getElem? (i := 456) (by decide +kernel), List.mem_of_getElem? (i := 457) (by decide +kernel)⟩
theorem lw_p2 : lw_okq (⟨"WhenToSpeak$Work", "allWeights", "()J"⟩, 8) := ⟨⟨by decide +kernel, by decide +kernel⟩, List.mem_of_getElem? (i := 28) (by decide +kernel), List.mem_of_getElem? (i := 460) (by decide +kernel), List.mem_of_getElem? (i := 461) (by decide +kernel)⟩
theorem lw_p3 : lw_okq (⟨"WhenToSpeak$Work", "moveOn", "([I[I)V"⟩, 8) := ⟨⟨by decide +kernel, by decide +kernel⟩, List.mem_of_getElem? (i := 28) (by decide +kernel), List.mem_of_getElem? (i := 476) (by decide +kernel), List.mem_of_getElem? (i := 477) (by decide +kernel)⟩
theorem lw_p4 : lw_okq (⟨"WhenToSpeak$Book", "isTold", "(I)Z"⟩, 4) := ⟨⟨by decide +kernel, by decide +kernel⟩, List.mem_of_getElem? (i := 88) (by decide +kernel), List.mem_of_getElem? (i := 521) (by decide +kernel), List.mem_of_getElem? (i := 522) (by decide +kernel)⟩
theorem lw_p5 : lw_okq (⟨"WhenToSpeak$LawText", "skipBlanks", "()V"⟩, 5) := ⟨⟨by decide +kernel, by decide +kernel⟩, List.mem_of_getElem? (i := 198) (by decide +kernel), List.mem_of_getElem? (i := 588) (by decide +kernel), List.mem_of_getElem? (i := 589) (by decide +kernel)⟩
theorem lw_p6 : lw_okq (⟨"WhenToSpeak$LawText", "readClause", "(LWhenToSpeak$Laws;)V"⟩, 5) := ⟨⟨by decide +kernel, by decide +kernel⟩, List.mem_of_getElem? (i := 198) (by decide +kernel), List.mem_of_getElem? (i := 592) (by decide +kernel), List.mem_of_getElem? (i := 593) (by decide +kernel)⟩
theorem lw_p7 : lw_okq (⟨"WhenToSpeak$LawText", "takeWord", "(Ljava/lang/String;)Z"⟩, 5) := ⟨⟨by decide +kernel, by decide +kernel⟩, List.mem_of_getElem? (i := 198) (by decide +kernel), List.mem_of_getElem? (i := 597) (by decide +kernel), List.mem_of_getElem? (i := 598) (by decide +kernel)⟩
theorem lw_p8 : lw_okq (⟨"WhenToSpeak$LawText", "refuseNinth", "(LWhenToSpeak$Laws;I)V"⟩, 5) := ⟨⟨by decide +kernel, by decide +kernel⟩, List.mem_of_getElem? (i := 198) (by decide +kernel), List.mem_of_getElem? (i := 649) (by decide +kernel), List.mem_of_getElem? (i := 650) (by decide +kernel)⟩
theorem lw_p9 : lw_okq (⟨"WhenToSpeak$LawText", "note", "(II)V"⟩, 5) := ⟨⟨by decide +kernel, by decide +kernel⟩, List.mem_of_getElem? (i := 198) (by decide +kernel), List.mem_of_getElem? (i := 653) (by decide +kernel), List.mem_of_getElem? (i := 654) (by decide +kernel)⟩
theorem lw_p10 : lw_okq (⟨"WhenToSpeak$LawText", "readNever", "(LWhenToSpeak$Laws;)V"⟩, 5) := ⟨⟨by decide +kernel, by decide +kernel⟩, List.mem_of_getElem? (i := 198) (by decide +kernel), List.mem_of_getElem? (i := 657) (by decide +kernel), List.mem_of_getElem? (i := 658) (by decide +kernel)⟩
theorem lw_p11 : lw_okq (⟨"WhenToSpeak$LawText", "takeNumber", "(II)I"⟩, 5) := ⟨⟨by decide +kernel, by decide +kernel⟩, List.mem_of_getElem? (i := 198) (by decide +kernel), List.mem_of_getElem? (i := 662) (by decide +kernel), List.mem_of_getElem? (i := 663) (by decide +kernel)⟩
theorem lw_p12 : lw_okq (⟨"WhenToSpeak$LawText", "finish", "(LWhenToSpeak$Laws;IIII)V"⟩, 5) := ⟨⟨by decide +kernel, by decide +kernel⟩, List.mem_of_getElem? (i := 198) (by decide +kernel), List.mem_of_getElem? (i := 668) (by decide +kernel), List.mem_of_getElem? (i := 669) (by decide +kernel)⟩
theorem lw_p13 : lw_okq (⟨"WhenToSpeak$LawText", "needWord", "(Ljava/lang/String;)V"⟩, 5) := ⟨⟨by decide +kernel, by decide +kernel⟩, List.mem_of_getElem? (i := 198) (by decide +kernel), List.mem_of_getElem? (i := 677) (by decide +kernel), List.mem_of_getElem? (i := 678) (by decide +kernel)⟩
theorem lw_p14 : lw_okq (⟨"WhenToSpeak", "barNow", "(III)I"⟩, 11) := ⟨⟨by decide +kernel, by decide +kernel⟩, List.mem_of_getElem? (i := 20) (by decide +kernel), List.mem_of_getElem? (i := 699) (by decide +kernel), List.mem_of_getElem? (i := 700) (by decide +kernel)⟩
theorem lw_p15 : lw_okq (⟨"WhenToSpeak$Laws", "isLikely", "(I[I)Z"⟩, 5) := ⟨⟨by decide +kernel, by decide +kernel⟩, List.mem_of_getElem? (i := 344) (by decide +kernel), List.mem_of_getElem? (i := 719) (by decide +kernel), List.mem_of_getElem? (i := 720) (by decide +kernel)⟩
def lw_privs_1 : List (MethodName × Nat) := [(⟨"WhenToSpeak$Work", "weigh", "(IIZ)V"⟩, 8), (⟨"WhenToSpeak$Work", "signFactor", "(IIZ)J"⟩, 8), (⟨"WhenToSpeak$Work", "allWeights", "()J"⟩, 8), (⟨"WhenToSpeak$Work", "moveOn", "([I[I)V"⟩, 8), (⟨"WhenToSpeak$Book", "isTold", "(I)Z"⟩, 4), (⟨"WhenToSpeak$LawText", "skipBlanks", "()V"⟩, 5), (⟨"WhenToSpeak$LawText", "readClause", "(LWhenToSpeak$Laws;)V"⟩, 5), (⟨"WhenToSpeak$LawText", "takeWord", "(Ljava/lang/String;)Z"⟩, 5), (⟨"WhenToSpeak$LawText", "refuseNinth", "(LWhenToSpeak$Laws;I)V"⟩, 5), (⟨"WhenToSpeak$LawText", "note", "(II)V"⟩, 5), (⟨"WhenToSpeak$LawText", "readNever", "(LWhenToSpeak$Laws;)V"⟩, 5), (⟨"WhenToSpeak$LawText", "takeNumber", "(II)I"⟩, 5), (⟨"WhenToSpeak$LawText", "finish", "(LWhenToSpeak$Laws;IIII)V"⟩, 5), (⟨"WhenToSpeak$LawText", "needWord", "(Ljava/lang/String;)V"⟩, 5), (⟨"WhenToSpeak", "barNow", "(III)I"⟩, 11), (⟨"WhenToSpeak$Laws", "isLikely", "(I[I)Z"⟩, 5)]
theorem lw_r1 : ∀ q ∈ lw_privs_1, lw_okq q := List.forall_mem_cons.mpr ⟨lw_p0, List.forall_mem_cons.mpr ⟨lw_p1, List.forall_mem_cons.mpr ⟨lw_p2, List.forall_mem_cons.mpr ⟨lw_p3, List.forall_mem_cons.mpr ⟨lw_p4, List.forall_mem_cons.mpr ⟨lw_p5, List.forall_mem_cons.mpr ⟨lw_p6, List.forall_mem_cons.mpr ⟨lw_p7, List.forall_mem_cons.mpr ⟨lw_p8, List.forall_mem_cons.mpr ⟨lw_p9, List.forall_mem_cons.mpr ⟨lw_p10, List.forall_mem_cons.mpr ⟨lw_p11, List.forall_mem_cons.mpr ⟨lw_p12, List.forall_mem_cons.mpr ⟨lw_p13, List.forall_mem_cons.mpr ⟨lw_p14, List.forall_mem_cons.mpr ⟨lw_p15, fun _ h => absurd h List.not_mem_nil⟩⟩⟩⟩⟩⟩⟩⟩⟩⟩⟩⟩⟩⟩⟩⟩
theorem lw_p16 : lw_okq (⟨"WhenToSpeak$Planner", "pick", "(II)V"⟩, 19) := ⟨⟨by decide +kernel, by decide +kernel⟩, List.mem_of_getElem? (i := 241) (by decide +kernel), List.mem_of_getElem? (i := 761) (by decide +kernel), List.mem_of_getElem? (i := 762) (by decide +kernel)⟩
theorem lw_p17 : lw_okq (⟨"WhenToSpeak$Planner", "price", "(IILWhenToSpeak$Laws;)V"⟩, 19) := ⟨⟨by decide +kernel, by decide +kernel⟩, List.mem_of_getElem? (i := 241) (by decide +kernel), List.mem_of_getElem? (i := 768) (by decide +kernel), List.mem_of_getElem? (i := 769) (by decide +kernel)⟩
theorem lw_p18 : lw_okq (⟨"WhenToSpeak$Planner", "priceSet", "(II)V"⟩, 19) := ⟨⟨by decide +kernel, by decide +kernel⟩, List.mem_of_getElem? (i := 241) (by decide +kernel), List.mem_of_getElem? (i := 784) (by decide +kernel), List.mem_of_getElem? (i := 785) (by decide +kernel)⟩
theorem lw_p19 : lw_okq (⟨"WhenToSpeak$Planner", "mostBarsAt", "(IIIILWhenToSpeak$Laws;)Z"⟩, 19) := ⟨⟨by decide +kernel, by decide +kernel⟩, List.mem_of_getElem? (i := 241) (by decide +kernel), List.mem_of_getElem? (i := 790) (by decide +kernel), List.mem_of_getElem? (i := 791) (by decide +kernel)⟩
theorem lw_p20 : lw_okq (⟨"WhenToSpeak$Planner", "decide", "(IIIZ)I"⟩, 19) := ⟨⟨by decide +kernel, by decide +kernel⟩, List.mem_of_getElem? (i := 241) (by decide +kernel), List.mem_of_getElem? (i := 795) (by decide +kernel), List.mem_of_getElem? (i := 796) (by decide +kernel)⟩
theorem lw_p21 : lw_okq (⟨"WhenToSpeak$Planner", "nodeBehind", "(IZ)I"⟩, 19) := ⟨⟨by decide +kernel, by decide +kernel⟩, List.mem_of_getElem? (i := 241) (by decide +kernel), List.mem_of_getElem? (i := 799) (by decide +kernel), List.mem_of_getElem? (i := 800) (by decide +kernel)⟩
theorem lw_p22 : lw_okq (⟨"WhenToSpeak$Planner", "total", "(II)I"⟩, 19) := ⟨⟨by decide +kernel, by decide +kernel⟩, List.mem_of_getElem? (i := 241) (by decide +kernel), List.mem_of_getElem? (i := 803) (by decide +kernel), List.mem_of_getElem? (i := 804) (by decide +kernel)⟩
theorem lw_p23 : lw_okq (⟨"WhenToSpeak$Planner", "tell", "(IILWhenToSpeak$Laws;)V"⟩, 19) := ⟨⟨by decide +kernel, by decide +kernel⟩, List.mem_of_getElem? (i := 241) (by decide +kernel), List.mem_of_getElem? (i := 809) (by decide +kernel), List.mem_of_getElem? (i := 810) (by decide +kernel)⟩
theorem lw_p24 : lw_okq (⟨"WhenToSpeak$Trial", "sayIn", "(IIZ)V"⟩, 8) := ⟨⟨by decide +kernel, by decide +kernel⟩, List.mem_of_getElem? (i := 310) (by decide +kernel), List.mem_of_getElem? (i := 877) (by decide +kernel), List.mem_of_getElem? (i := 878) (by decide +kernel)⟩
theorem lw_p25 : lw_okq (⟨"WhenToSpeak$Trial", "isLeft", "(II)Z"⟩, 8) := ⟨⟨by decide +kernel, by decide +kernel⟩, List.mem_of_getElem? (i := 310) (by decide +kernel), List.mem_of_getElem? (i := 882) (by decide +kernel), List.mem_of_getElem? (i := 883) (by decide +kernel)⟩
theorem lw_p26 : lw_okq (⟨"WhenToSpeakModel", "findRows", "(II)V"⟩, 51) := ⟨⟨by decide +kernel, by decide +kernel⟩, List.mem_of_getElem? (i := 888) (by decide +kernel), List.mem_of_getElem? (i := 1091) (by decide +kernel), List.mem_of_getElem? (i := 1092) (by decide +kernel)⟩
theorem lw_p27 : lw_okq (⟨"WhenToSpeakModel", "showsAt", "(III)I"⟩, 51) := ⟨⟨by decide +kernel, by decide +kernel⟩, List.mem_of_getElem? (i := 888) (by decide +kernel), List.mem_of_getElem? (i := 1095) (by decide +kernel), List.mem_of_getElem? (i := 1096) (by decide +kernel)⟩
theorem lw_p28 : lw_okq (⟨"WhenToSpeakModel", "findOdds", "(III)V"⟩, 51) := ⟨⟨by decide +kernel, by decide +kernel⟩, List.mem_of_getElem? (i := 888) (by decide +kernel), List.mem_of_getElem? (i := 1104) (by decide +kernel), List.mem_of_getElem? (i := 1105) (by decide +kernel)⟩
theorem lw_p29 : lw_okq (⟨"WhenToSpeakModel", "seamOdds", "(III)I"⟩, 51) := ⟨⟨by decide +kernel, by decide +kernel⟩, List.mem_of_getElem? (i := 888) (by decide +kernel), List.mem_of_getElem? (i := 1113) (by decide +kernel), List.mem_of_getElem? (i := 1114) (by decide +kernel)⟩
theorem lw_p30 : lw_okq (⟨"WhenToSpeakModel", "isThing", "(I)Z"⟩, 51) := ⟨⟨by decide +kernel, by decide +kernel⟩, List.mem_of_getElem? (i := 888) (by decide +kernel), List.mem_of_getElem? (i := 1134) (by decide +kernel), List.mem_of_getElem? (i := 1135) (by decide +kernel)⟩
theorem lw_p31 : lw_okq (⟨"WhenToSpeakModel", "sayingsOf", "(I)I"⟩, 51) := ⟨⟨by decide +kernel, by decide +kernel⟩, List.mem_of_getElem? (i := 888) (by decide +kernel), List.mem_of_getElem? (i := 1138) (by decide +kernel), List.mem_of_getElem? (i := 1139) (by decide +kernel)⟩
def lw_privs_2 : List (MethodName × Nat) := [(⟨"WhenToSpeak$Planner", "pick", "(II)V"⟩, 19), (⟨"WhenToSpeak$Planner", "price", "(IILWhenToSpeak$Laws;)V"⟩, 19), (⟨"WhenToSpeak$Planner", "priceSet", "(II)V"⟩, 19), (⟨"WhenToSpeak$Planner", "mostBarsAt", "(IIIILWhenToSpeak$Laws;)Z"⟩, 19), (⟨"WhenToSpeak$Planner", "decide", "(IIIZ)I"⟩, 19), (⟨"WhenToSpeak$Planner", "nodeBehind", "(IZ)I"⟩, 19), (⟨"WhenToSpeak$Planner", "total", "(II)I"⟩, 19), (⟨"WhenToSpeak$Planner", "tell", "(IILWhenToSpeak$Laws;)V"⟩, 19), (⟨"WhenToSpeak$Trial", "sayIn", "(IIZ)V"⟩, 8), (⟨"WhenToSpeak$Trial", "isLeft", "(II)Z"⟩, 8), (⟨"WhenToSpeakModel", "findRows", "(II)V"⟩, 51), (⟨"WhenToSpeakModel", "showsAt", "(III)I"⟩, 51), (⟨"WhenToSpeakModel", "findOdds", "(III)V"⟩, 51), (⟨"WhenToSpeakModel", "seamOdds", "(III)I"⟩, 51), (⟨"WhenToSpeakModel", "isThing", "(I)Z"⟩, 51), (⟨"WhenToSpeakModel", "sayingsOf", "(I)I"⟩, 51)]
theorem lw_r2 : ∀ q ∈ lw_privs_2, lw_okq q := List.forall_mem_cons.mpr ⟨lw_p16, List.forall_mem_cons.mpr ⟨lw_p17, List.forall_mem_cons.mpr ⟨lw_p18, List.forall_mem_cons.mpr ⟨lw_p19, List.forall_mem_cons.mpr ⟨lw_p20, List.forall_mem_cons.mpr ⟨lw_p21, List.forall_mem_cons.mpr ⟨lw_p22, List.forall_mem_cons.mpr ⟨lw_p23, List.forall_mem_cons.mpr ⟨lw_p24, List.forall_mem_cons.mpr ⟨lw_p25, List.forall_mem_cons.mpr ⟨lw_p26, List.forall_mem_cons.mpr ⟨lw_p27, List.forall_mem_cons.mpr ⟨lw_p28, List.forall_mem_cons.mpr ⟨lw_p29, List.forall_mem_cons.mpr ⟨lw_p30, List.forall_mem_cons.mpr ⟨lw_p31, fun _ h => absurd h List.not_mem_nil⟩⟩⟩⟩⟩⟩⟩⟩⟩⟩⟩⟩⟩⟩⟩⟩
theorem lw_p32 : lw_okq (⟨"WhenToSpeakModel", "stateOf", "(I)I"⟩, 51) := ⟨⟨by decide +kernel, by decide +kernel⟩, List.mem_of_getElem? (i := 888) (by decide +kernel), List.mem_of_getElem? (i := 1146) (by decide +kernel), List.mem_of_getElem? (i := 1147) (by decide +kernel)⟩
theorem lw_p33 : lw_okq (⟨"WhenToSpeakModel", "isTold", "(I)Z"⟩, 51) := ⟨⟨by decide +kernel, by decide +kernel⟩, List.mem_of_getElem? (i := 888) (by decide +kernel), List.mem_of_getElem? (i := 1150) (by decide +kernel), List.mem_of_getElem? (i := 1151) (by decide +kernel)⟩
theorem lw_p34 : lw_okq (⟨"WhenToSpeakModel", "valueOf", "(III)I"⟩, 51) := ⟨⟨by decide +kernel, by decide +kernel⟩, List.mem_of_getElem? (i := 888) (by decide +kernel), List.mem_of_getElem? (i := 1158) (by decide +kernel), List.mem_of_getElem? (i := 1159) (by decide +kernel)⟩
theorem lw_p35 : lw_okq (⟨"WhenToSpeakModel", "lossOf", "(IIII)I"⟩, 51) := ⟨⟨by decide +kernel, by decide +kernel⟩, List.mem_of_getElem? (i := 888) (by decide +kernel), List.mem_of_getElem? (i := 1178) (by decide +kernel), List.mem_of_getElem? (i := 1179) (by decide +kernel)⟩
theorem lw_p36 : lw_okq (⟨"WhenToSpeakModel", "thingsThat", "(I)I"⟩, 51) := ⟨⟨by decide +kernel, by decide +kernel⟩, List.mem_of_getElem? (i := 888) (by decide +kernel), List.mem_of_getElem? (i := 1187) (by decide +kernel), List.mem_of_getElem? (i := 1188) (by decide +kernel)⟩
theorem lw_p37 : lw_okq (⟨"WhenToSpeakModel", "here", "()I"⟩, 51) := ⟨⟨by decide +kernel, by decide +kernel⟩, List.mem_of_getElem? (i := 888) (by decide +kernel), List.mem_of_getElem? (i := 1200) (by decide +kernel), List.mem_of_getElem? (i := 1201) (by decide +kernel)⟩
theorem lw_p38 : lw_okq (⟨"WhenToSpeakModel", "readClause", "(I)I"⟩, 51) := ⟨⟨by decide +kernel, by decide +kernel⟩, List.mem_of_getElem? (i := 888) (by decide +kernel), List.mem_of_getElem? (i := 1204) (by decide +kernel), List.mem_of_getElem? (i := 1205) (by decide +kernel)⟩
theorem lw_p39 : lw_okq (⟨"WhenToSpeakModel", "readWord", "()V"⟩, 51) := ⟨⟨by decide +kernel, by decide +kernel⟩, List.mem_of_getElem? (i := 888) (by decide +kernel), List.mem_of_getElem? (i := 1208) (by decide +kernel), List.mem_of_getElem? (i := 1209) (by decide +kernel)⟩
theorem lw_p40 : lw_okq (⟨"WhenToSpeakModel", "fails", "(II)I"⟩, 51) := ⟨⟨by decide +kernel, by decide +kernel⟩, List.mem_of_getElem? (i := 888) (by decide +kernel), List.mem_of_getElem? (i := 1221) (by decide +kernel), List.mem_of_getElem? (i := 1222) (by decide +kernel)⟩
theorem lw_p41 : lw_okq (⟨"WhenToSpeakModel", "readNever", "(I)I"⟩, 51) := ⟨⟨by decide +kernel, by decide +kernel⟩, List.mem_of_getElem? (i := 888) (by decide +kernel), List.mem_of_getElem? (i := 1225) (by decide +kernel), List.mem_of_getElem? (i := 1226) (by decide +kernel)⟩
theorem lw_p42 : lw_okq (⟨"WhenToSpeakModel", "readWay", "(I)I"⟩, 51) := ⟨⟨by decide +kernel, by decide +kernel⟩, List.mem_of_getElem? (i := 888) (by decide +kernel), List.mem_of_getElem? (i := 1229) (by decide +kernel), List.mem_of_getElem? (i := 1230) (by decide +kernel)⟩
theorem lw_p43 : lw_okq (⟨"WhenToSpeakModel", "readNumber", "(II)I"⟩, 51) := ⟨⟨by decide +kernel, by decide +kernel⟩, List.mem_of_getElem? (i := 888) (by decide +kernel), List.mem_of_getElem? (i := 1233) (by decide +kernel), List.mem_of_getElem? (i := 1234) (by decide +kernel)⟩
theorem lw_p44 : lw_okq (⟨"WhenToSpeakModel", "needs", "(J)I"⟩, 51) := ⟨⟨by decide +kernel, by decide +kernel⟩, List.mem_of_getElem? (i := 888) (by decide +kernel), List.mem_of_getElem? (i := 1239) (by decide +kernel), List.mem_of_getElem? (i := 1240) (by decide +kernel)⟩
theorem lw_p45 : lw_okq (⟨"WhenToSpeakModel", "readMost", "(I)I"⟩, 51) := ⟨⟨by decide +kernel, by decide +kernel⟩, List.mem_of_getElem? (i := 888) (by decide +kernel), List.mem_of_getElem? (i := 1243) (by decide +kernel), List.mem_of_getElem? (i := 1244) (by decide +kernel)⟩
theorem lw_p46 : lw_okq (⟨"WhenToSpeakModel", "readAlways", "(I)I"⟩, 51) := ⟨⟨by decide +kernel, by decide +kernel⟩, List.mem_of_getElem? (i := 888) (by decide +kernel), List.mem_of_getElem? (i := 1247) (by decide +kernel), List.mem_of_getElem? (i := 1248) (by decide +kernel)⟩
theorem lw_p47 : lw_okq (⟨"WhenToSpeakModel", "areThings", "(I)Z"⟩, 51) := ⟨⟨by decide +kernel, by decide +kernel⟩, List.mem_of_getElem? (i := 888) (by decide +kernel), List.mem_of_getElem? (i := 1259) (by decide +kernel), List.mem_of_getElem? (i := 1260) (by decide +kernel)⟩
def lw_privs_3 : List (MethodName × Nat) := [(⟨"WhenToSpeakModel", "stateOf", "(I)I"⟩, 51), (⟨"WhenToSpeakModel", "isTold", "(I)Z"⟩, 51), (⟨"WhenToSpeakModel", "valueOf", "(III)I"⟩, 51), (⟨"WhenToSpeakModel", "lossOf", "(IIII)I"⟩, 51), (⟨"WhenToSpeakModel", "thingsThat", "(I)I"⟩, 51), (⟨"WhenToSpeakModel", "here", "()I"⟩, 51), (⟨"WhenToSpeakModel", "readClause", "(I)I"⟩, 51), (⟨"WhenToSpeakModel", "readWord", "()V"⟩, 51), (⟨"WhenToSpeakModel", "fails", "(II)I"⟩, 51), (⟨"WhenToSpeakModel", "readNever", "(I)I"⟩, 51), (⟨"WhenToSpeakModel", "readWay", "(I)I"⟩, 51), (⟨"WhenToSpeakModel", "readNumber", "(II)I"⟩, 51), (⟨"WhenToSpeakModel", "needs", "(J)I"⟩, 51), (⟨"WhenToSpeakModel", "readMost", "(I)I"⟩, 51), (⟨"WhenToSpeakModel", "readAlways", "(I)I"⟩, 51), (⟨"WhenToSpeakModel", "areThings", "(I)Z"⟩, 51)]
theorem lw_r3 : ∀ q ∈ lw_privs_3, lw_okq q := List.forall_mem_cons.mpr ⟨lw_p32, List.forall_mem_cons.mpr ⟨lw_p33, List.forall_mem_cons.mpr ⟨lw_p34, List.forall_mem_cons.mpr ⟨lw_p35, List.forall_mem_cons.mpr ⟨lw_p36, List.forall_mem_cons.mpr ⟨lw_p37, List.forall_mem_cons.mpr ⟨lw_p38, List.forall_mem_cons.mpr ⟨lw_p39, List.forall_mem_cons.mpr ⟨lw_p40, List.forall_mem_cons.mpr ⟨lw_p41, List.forall_mem_cons.mpr ⟨lw_p42, List.forall_mem_cons.mpr ⟨lw_p43, List.forall_mem_cons.mpr ⟨lw_p44, List.forall_mem_cons.mpr ⟨lw_p45, List.forall_mem_cons.mpr ⟨lw_p46, List.forall_mem_cons.mpr ⟨lw_p47, fun _ h => absurd h List.not_mem_nil⟩⟩⟩⟩⟩⟩⟩⟩⟩⟩⟩⟩⟩⟩⟩⟩
theorem lw_p48 : lw_okq (⟨"WhenToSpeakModel", "barring", "(IIIII)I"⟩, 51) := ⟨⟨by decide +kernel, by decide +kernel⟩, List.mem_of_getElem? (i := 888) (by decide +kernel), List.mem_of_getElem? (i := 1263) (by decide +kernel), List.mem_of_getElem? (i := 1264) (by decide +kernel)⟩
theorem lw_p49 : lw_okq (⟨"WhenToSpeakModel", "areAlways", "(II)Z"⟩, 51) := ⟨⟨by decide +kernel, by decide +kernel⟩, List.mem_of_getElem? (i := 888) (by decide +kernel), List.mem_of_getElem? (i := 1267) (by decide +kernel), List.mem_of_getElem? (i := 1268) (by decide +kernel)⟩
theorem lw_p50 : lw_okq (⟨"WhenToSpeakModel", "isAlways", "(II)Z"⟩, 51) := ⟨⟨by decide +kernel, by decide +kernel⟩, List.mem_of_getElem? (i := 888) (by decide +kernel), List.mem_of_getElem? (i := 1271) (by decide +kernel), List.mem_of_getElem? (i := 1272) (by decide +kernel)⟩
theorem lw_p51 : lw_okq (⟨"WhenToSpeakModel", "isWayBarred", "(III)Z"⟩, 51) := ⟨⟨by decide +kernel, by decide +kernel⟩, List.mem_of_getElem? (i := 888) (by decide +kernel), List.mem_of_getElem? (i := 1275) (by decide +kernel), List.mem_of_getElem? (i := 1276) (by decide +kernel)⟩
theorem lw_p52 : lw_okq (⟨"WhenToSpeakModel", "isKindBarred", "(III)Z"⟩, 51) := ⟨⟨by decide +kernel, by decide +kernel⟩, List.mem_of_getElem? (i := 888) (by decide +kernel), List.mem_of_getElem? (i := 1279) (by decide +kernel), List.mem_of_getElem? (i := 1280) (by decide +kernel)⟩
theorem lw_p53 : lw_okq (⟨"WhenToSpeakModel", "areMost", "(III)Z"⟩, 51) := ⟨⟨by decide +kernel, by decide +kernel⟩, List.mem_of_getElem? (i := 888) (by decide +kernel), List.mem_of_getElem? (i := 1283) (by decide +kernel), List.mem_of_getElem? (i := 1284) (by decide +kernel)⟩
theorem lw_p54 : lw_okq (⟨"WhenToSpeakModel", "findPlans", "(II)V"⟩, 51) := ⟨⟨by decide +kernel, by decide +kernel⟩, List.mem_of_getElem? (i := 888) (by decide +kernel), List.mem_of_getElem? (i := 1292) (by decide +kernel), List.mem_of_getElem? (i := 1293) (by decide +kernel)⟩
theorem lw_p55 : lw_okq (⟨"WhenToSpeakModel", "findGain", "(III)V"⟩, 51) := ⟨⟨by decide +kernel, by decide +kernel⟩, List.mem_of_getElem? (i := 888) (by decide +kernel), List.mem_of_getElem? (i := 1296) (by decide +kernel), List.mem_of_getElem? (i := 1297) (by decide +kernel)⟩
theorem lw_p56 : lw_okq (⟨"WhenToSpeakModel", "setOf", "(I)I"⟩, 51) := ⟨⟨by decide +kernel, by decide +kernel⟩, List.mem_of_getElem? (i := 888) (by decide +kernel), List.mem_of_getElem? (i := 1300) (by decide +kernel), List.mem_of_getElem? (i := 1301) (by decide +kernel)⟩
theorem lw_p57 : lw_okq (⟨"WhenToSpeakModel", "isOneMatter", "(I)Z"⟩, 51) := ⟨⟨by decide +kernel, by decide +kernel⟩, List.mem_of_getElem? (i := 888) (by decide +kernel), List.mem_of_getElem? (i := 1305) (by decide +kernel), List.mem_of_getElem? (i := 1306) (by decide +kernel)⟩
theorem lw_p58 : lw_okq (⟨"WhenToSpeakModel", "isMust", "(I)Z"⟩, 51) := ⟨⟨by decide +kernel, by decide +kernel⟩, List.mem_of_getElem? (i := 888) (by decide +kernel), List.mem_of_getElem? (i := 1309) (by decide +kernel), List.mem_of_getElem? (i := 1310) (by decide +kernel)⟩
theorem lw_p59 : lw_okq (⟨"WhenToSpeakModel", "by", "(IIIII)I"⟩, 51) := ⟨⟨by decide +kernel, by decide +kernel⟩, List.mem_of_getElem? (i := 888) (by decide +kernel), List.mem_of_getElem? (i := 1316) (by decide +kernel), List.mem_of_getElem? (i := 1317) (by decide +kernel)⟩
theorem lw_p60 : lw_okq (⟨"WhenToSpeakModel", "deadOf", "(I)I"⟩, 51) := ⟨⟨by decide +kernel, by decide +kernel⟩, List.mem_of_getElem? (i := 888) (by decide +kernel), List.mem_of_getElem? (i := 1324) (by decide +kernel), List.mem_of_getElem? (i := 1325) (by decide +kernel)⟩
theorem lw_p61 : lw_okq (⟨"WhenToSpeakModel", "areFor", "(II)Z"⟩, 51) := ⟨⟨by decide +kernel, by decide +kernel⟩, List.mem_of_getElem? (i := 888) (by decide +kernel), List.mem_of_getElem? (i := 1328) (by decide +kernel), List.mem_of_getElem? (i := 1329) (by decide +kernel)⟩
theorem lw_p62 : lw_okq (⟨"WhenToSpeakModel", "isSaying", "(I)Z"⟩, 51) := ⟨⟨by decide +kernel, by decide +kernel⟩, List.mem_of_getElem? (i := 888) (by decide +kernel), List.mem_of_getElem? (i := 1336) (by decide +kernel), List.mem_of_getElem? (i := 1337) (by decide +kernel)⟩
theorem lw_p63 : lw_okq (⟨"WhenToSpeakModel", "cameOf", "(IZ)I"⟩, 51) := ⟨⟨by decide +kernel, by decide +kernel⟩, List.mem_of_getElem? (i := 888) (by decide +kernel), List.mem_of_getElem? (i := 1348) (by decide +kernel), List.mem_of_getElem? (i := 1349) (by decide +kernel)⟩
def lw_privs_4 : List (MethodName × Nat) := [(⟨"WhenToSpeakModel", "barring", "(IIIII)I"⟩, 51), (⟨"WhenToSpeakModel", "areAlways", "(II)Z"⟩, 51), (⟨"WhenToSpeakModel", "isAlways", "(II)Z"⟩, 51), (⟨"WhenToSpeakModel", "isWayBarred", "(III)Z"⟩, 51), (⟨"WhenToSpeakModel", "isKindBarred", "(III)Z"⟩, 51), (⟨"WhenToSpeakModel", "areMost", "(III)Z"⟩, 51), (⟨"WhenToSpeakModel", "findPlans", "(II)V"⟩, 51), (⟨"WhenToSpeakModel", "findGain", "(III)V"⟩, 51), (⟨"WhenToSpeakModel", "setOf", "(I)I"⟩, 51), (⟨"WhenToSpeakModel", "isOneMatter", "(I)Z"⟩, 51), (⟨"WhenToSpeakModel", "isMust", "(I)Z"⟩, 51), (⟨"WhenToSpeakModel", "by", "(IIIII)I"⟩, 51), (⟨"WhenToSpeakModel", "deadOf", "(I)I"⟩, 51), (⟨"WhenToSpeakModel", "areFor", "(II)Z"⟩, 51), (⟨"WhenToSpeakModel", "isSaying", "(I)Z"⟩, 51), (⟨"WhenToSpeakModel", "cameOf", "(IZ)I"⟩, 51)]
theorem lw_r4 : ∀ q ∈ lw_privs_4, lw_okq q := List.forall_mem_cons.mpr ⟨lw_p48, List.forall_mem_cons.mpr ⟨lw_p49, List.forall_mem_cons.mpr ⟨lw_p50, List.forall_mem_cons.mpr ⟨lw_p51, List.forall_mem_cons.mpr ⟨lw_p52, List.forall_mem_cons.mpr ⟨lw_p53, List.forall_mem_cons.mpr ⟨lw_p54, List.forall_mem_cons.mpr ⟨lw_p55, List.forall_mem_cons.mpr ⟨lw_p56, List.forall_mem_cons.mpr ⟨lw_p57, List.forall_mem_cons.mpr ⟨lw_p58, List.forall_mem_cons.mpr ⟨lw_p59, List.forall_mem_cons.mpr ⟨lw_p60, List.forall_mem_cons.mpr ⟨lw_p61, List.forall_mem_cons.mpr ⟨lw_p62, List.forall_mem_cons.mpr ⟨lw_p63, fun _ h => absurd h List.not_mem_nil⟩⟩⟩⟩⟩⟩⟩⟩⟩⟩⟩⟩⟩⟩⟩⟩
def lw_privs : List (MethodName × Nat) := lw_privs_1 ++ (lw_privs_2 ++ (lw_privs_3 ++ (lw_privs_4)))
def lw_tbl : List Cond := k2_sels lw_privs ++ tables_1
theorem lw_privs_ok : ∀ q ∈ lw_privs, lw_okq q := by
  show ∀ q ∈ lw_privs_1 ++ (lw_privs_2 ++ (lw_privs_3 ++ (lw_privs_4))), lw_okq q
  exact List.forall_mem_append.mpr ⟨lw_r1, List.forall_mem_append.mpr ⟨lw_r2, List.forall_mem_append.mpr ⟨lw_r3, lw_r4⟩⟩⟩
def RX0 : String := "WhenToSpeak$Book"
def TX0 : u_T := fun k => match k with
  | 0 => ("WhenToSpeak$Book", "things", "[LWhenToSpeak$Thing;", true)
  | 1 => ("WhenToSpeak$Book", "sayings", "[LWhenToSpeak$Saying;", true)
  | 2 => ("WhenToSpeak$Book", "thingCount", "I", false)
  | _ => ("WhenToSpeak$Book", "sayingCount", "I", false)
def tyX0 : Nat → FieldType := fun k => match k with
  | 0 => .array (.object "WhenToSpeak$Thing")
  | 1 => .array (.object "WhenToSpeak$Saying")
  | 2 => .int
  | _ => .int
abbrev wsX00 : List Cond := u_ws RX0 TX0 4
theorem nmX0 : ∀ a, a < 4 → ∀ b, b < 4 → a ≠ b → (TX0 a).2.1 ≠ (TX0 b).2.1 := by decide +kernel
theorem tyX0_ok : ∀ k, k < 4 → parseFieldDescriptor (TX0 k).2.2.1 = some (tyX0 k) := by decide +kernel
abbrev cX0_init : ByteArray := prog_2_method_1_code
def yX0_init : MethodName := ⟨RX0, "<init>", "()V"⟩
abbrev cX0_hasThing : ByteArray := prog_2_method_2_code
def yX0_hasThing : MethodName := ⟨RX0, "hasThing", "(I)Z"⟩
abbrev cX0_hasThings : ByteArray := prog_2_method_3_code
def yX0_hasThings : MethodName := ⟨RX0, "hasThings", "(I)Z"⟩
abbrev cX0_hasSaying : ByteArray := prog_2_method_4_code
def yX0_hasSaying : MethodName := ⟨RX0, "hasSaying", "(I)Z"⟩
abbrev cX0_standing : ByteArray := prog_2_method_5_code
def yX0_standing : MethodName := ⟨RX0, "standing", "(II)I"⟩
abbrev cX0_thingsThatAre : ByteArray := prog_2_method_6_code
def yX0_thingsThatAre : MethodName := ⟨RX0, "thingsThatAre", "(II)I"⟩
abbrev cX0_isTold : ByteArray := prog_2_method_7_code
def yX0_isTold : MethodName := ⟨RX0, "isTold", "(I)Z"⟩
abbrev cX0_sayingsWith : ByteArray := prog_2_method_8_code
def yX0_sayingsWith : MethodName := ⟨RX0, "sayingsWith", "(I)I"⟩
abbrev cX0_personsWith : ByteArray := prog_2_method_9_code
def yX0_personsWith : MethodName := ⟨RX0, "personsWith", "(I)I"⟩
abbrev cX0_deadThings : ByteArray := prog_2_method_10_code
def yX0_deadThings : MethodName := ⟨RX0, "deadThings", "()I"⟩
abbrev cX0_canBeSaid : ByteArray := prog_2_method_11_code
def yX0_canBeSaid : MethodName := ⟨RX0, "canBeSaid", "(II)Z"⟩
abbrev cX0_countSaid : ByteArray := prog_2_method_12_code
def yX0_countSaid : MethodName := ⟨RX0, "countSaid", "(I[I)V"⟩
abbrev cX0_outcomesBy : ByteArray := prog_2_method_13_code
def yX0_outcomesBy : MethodName := ⟨RX0, "outcomesBy", "(I)I"⟩
abbrev cX0_lookedAtBy : ByteArray := prog_2_method_14_code
def yX0_lookedAtBy : MethodName := ⟨RX0, "lookedAtBy", "(I)I"⟩
def RX1 : String := "WhenToSpeak$Gate"
def TX1 : u_T := fun k => match k with
  | 0 => ("WhenToSpeak$Gate", "alwaysThings", "I", false)
  | 1 => ("WhenToSpeak$Gate", "kindThings", "I", false)
  | _ => ("WhenToSpeak$Gate", "ways", "I", false)
def tyX1 : Nat → FieldType := fun k => match k with
  | 0 => .int
  | 1 => .int
  | _ => .int
abbrev wsX10 : List Cond := u_ws RX1 TX1 3
theorem nmX1 : ∀ a, a < 3 → ∀ b, b < 3 → a ≠ b → (TX1 a).2.1 ≠ (TX1 b).2.1 := by decide +kernel
theorem tyX1_ok : ∀ k, k < 3 → parseFieldDescriptor (TX1 k).2.2.1 = some (tyX1 k) := by decide +kernel
abbrev cX1_init : ByteArray := prog_3_method_1_code
def yX1_init : MethodName := ⟨RX1, "<init>", "()V"⟩
abbrev cX1_open : ByteArray := prog_3_method_2_code
def yX1_open : MethodName := ⟨RX1, "open", "(LWhenToSpeak$Laws;LWhenToSpeak$Book;I[I)V"⟩
abbrev cX1_bar : ByteArray := prog_3_method_3_code
def yX1_bar : MethodName := ⟨RX1, "bar", "(IIZ)I"⟩
abbrev cX1_isAlways : ByteArray := prog_3_method_4_code
def yX1_isAlways : MethodName := ⟨RX1, "isAlways", "(I)Z"⟩
def RX2 : String := "WhenToSpeak$LawText"
def TX2 : u_T := fun k => match k with
  | 0 => ("WhenToSpeak$LawText", "length", "I", false)
  | 1 => ("WhenToSpeak$LawText", "faultKind", "I", false)
  | 2 => ("WhenToSpeak$LawText", "faultAt", "I", false)
  | 3 => ("WhenToSpeak$LawText", "bytes", "[I", true)
  | _ => ("WhenToSpeak$LawText", "at", "I", false)
def tyX2 : Nat → FieldType := fun k => match k with
  | 0 => .int
  | 1 => .int
  | 2 => .int
  | 3 => .array .int
  | _ => .int
abbrev wsX20 : List Cond := u_ws RX2 TX2 5
theorem nmX2 : ∀ a, a < 5 → ∀ b, b < 5 → a ≠ b → (TX2 a).2.1 ≠ (TX2 b).2.1 := by decide +kernel
theorem tyX2_ok : ∀ k, k < 5 → parseFieldDescriptor (TX2 k).2.2.1 = some (tyX2 k) := by decide +kernel
abbrev cX2_init : ByteArray := prog_4_method_1_code
def yX2_init : MethodName := ⟨RX2, "<init>", "()V"⟩
abbrev cX2_append : ByteArray := prog_4_method_2_code
def yX2_append : MethodName := ⟨RX2, "append", "(I)V"⟩
abbrev cX2_parse : ByteArray := prog_4_method_3_code
def yX2_parse : MethodName := ⟨RX2, "parse", "(LWhenToSpeak$Laws;)V"⟩
abbrev cX2_readClause : ByteArray := prog_4_method_4_code
def yX2_readClause : MethodName := ⟨RX2, "readClause", "(LWhenToSpeak$Laws;)V"⟩
abbrev cX2_readNever : ByteArray := prog_4_method_5_code
def yX2_readNever : MethodName := ⟨RX2, "readNever", "(LWhenToSpeak$Laws;)V"⟩
abbrev cX2_refuseNinth : ByteArray := prog_4_method_6_code
def yX2_refuseNinth : MethodName := ⟨RX2, "refuseNinth", "(LWhenToSpeak$Laws;I)V"⟩
abbrev cX2_finish : ByteArray := prog_4_method_7_code
def yX2_finish : MethodName := ⟨RX2, "finish", "(LWhenToSpeak$Laws;IIII)V"⟩
abbrev cX2_note : ByteArray := prog_4_method_8_code
def yX2_note : MethodName := ⟨RX2, "note", "(II)V"⟩
abbrev cX2_skipBlanks : ByteArray := prog_4_method_9_code
def yX2_skipBlanks : MethodName := ⟨RX2, "skipBlanks", "()V"⟩
abbrev cX2_needWord : ByteArray := prog_4_method_10_code
def yX2_needWord : MethodName := ⟨RX2, "needWord", "(Ljava/lang/String;)V"⟩
abbrev cX2_takeWord : ByteArray := prog_4_method_11_code
def yX2_takeWord : MethodName := ⟨RX2, "takeWord", "(Ljava/lang/String;)Z"⟩
abbrev cX2_takeNumber : ByteArray := prog_4_method_12_code
def yX2_takeNumber : MethodName := ⟨RX2, "takeNumber", "(II)I"⟩
def RX3 : String := "WhenToSpeak$Laws"
def TX3 : u_T := fun k => match k with
  | 0 => ("WhenToSpeak$Laws", "count", "I", false)
  | 1 => ("WhenToSpeak$Laws", "sorts", "[I", true)
  | 2 => ("WhenToSpeak$Laws", "firsts", "[I", true)
  | 3 => ("WhenToSpeak$Laws", "seconds", "[I", true)
  | _ => ("WhenToSpeak$Laws", "thirds", "[I", true)
def tyX3 : Nat → FieldType := fun k => match k with
  | 0 => .int
  | 1 => .array .int
  | 2 => .array .int
  | 3 => .array .int
  | _ => .array .int
abbrev wsX30 : List Cond := u_ws RX3 TX3 5
theorem nmX3 : ∀ a, a < 5 → ∀ b, b < 5 → a ≠ b → (TX3 a).2.1 ≠ (TX3 b).2.1 := by decide +kernel
theorem tyX3_ok : ∀ k, k < 5 → parseFieldDescriptor (TX3 k).2.2.1 = some (tyX3 k) := by decide +kernel
abbrev cX3_init : ByteArray := prog_5_method_1_code
def yX3_init : MethodName := ⟨RX3, "<init>", "()V"⟩
abbrev cX3_add : ByteArray := prog_5_method_2_code
def yX3_add : MethodName := ⟨RX3, "add", "(IIII)V"⟩
abbrev cX3_barredWays : ByteArray := prog_5_method_3_code
def yX3_barredWays : MethodName := ⟨RX3, "barredWays", "([I)I"⟩
abbrev cX3_isLikely : ByteArray := prog_5_method_4_code
def yX3_isLikely : MethodName := ⟨RX3, "isLikely", "(I[I)Z"⟩
abbrev cX3_barredKinds : ByteArray := prog_5_method_5_code
def yX3_barredKinds : MethodName := ⟨RX3, "barredKinds", "(I)I"⟩
abbrev cX3_alwaysFrom : ByteArray := prog_5_method_6_code
def yX3_alwaysFrom : MethodName := ⟨RX3, "alwaysFrom", "()I"⟩
abbrev cX3_countsSayings : ByteArray := prog_5_method_7_code
def yX3_countsSayings : MethodName := ⟨RX3, "countsSayings", "()Z"⟩
abbrev cX3_mostBars : ByteArray := prog_5_method_8_code
def yX3_mostBars : MethodName := ⟨RX3, "mostBars", "([II)Z"⟩
abbrev cX3_saidWithin : ByteArray := prog_5_method_9_code
def yX3_saidWithin : MethodName := ⟨RX3, "saidWithin", "([III)I"⟩
def RX4 : String := "WhenToSpeak$Planner"
def TX4 : u_T := fun k => match k with
  | 0 => ("WhenToSpeak$Planner", "most", "I", false)
  | 1 => ("WhenToSpeak$Planner", "stepSets", "[I", true)
  | 2 => ("WhenToSpeak$Planner", "stepWays", "[I", true)
  | 3 => ("WhenToSpeak$Planner", "work", "LWhenToSpeak$Work;", true)
  | 4 => ("WhenToSpeak$Planner", "ways", "LWhenToSpeak$Ways;", true)
  | 5 => ("WhenToSpeak$Planner", "book", "LWhenToSpeak$Book;", true)
  | 6 => ("WhenToSpeak$Planner", "gate", "LWhenToSpeak$Gate;", true)
  | 7 => ("WhenToSpeak$Planner", "picks", "[I", true)
  | 8 => ("WhenToSpeak$Planner", "realSets", "[I", true)
  | 9 => ("WhenToSpeak$Planner", "matters", "[I", true)
  | 10 => ("WhenToSpeak$Planner", "values", "[I", true)
  | 11 => ("WhenToSpeak$Planner", "losses", "[I", true)
  | 12 => ("WhenToSpeak$Planner", "gains", "[I", true)
  | 13 => ("WhenToSpeak$Planner", "gainWays", "[I", true)
  | 14 => ("WhenToSpeak$Planner", "totals", "[I", true)
  | 15 => ("WhenToSpeak$Planner", "saidIn", "[I", true)
  | 16 => ("WhenToSpeak$Planner", "pickCount", "I", false)
  | 17 => ("WhenToSpeak$Planner", "steps", "I", false)
  | _ => ("WhenToSpeak$Planner", "counting", "Z", false)
def tyX4 : Nat → FieldType := fun k => match k with
  | 0 => .int
  | 1 => .array .int
  | 2 => .array .int
  | 3 => .object "WhenToSpeak$Work"
  | 4 => .object "WhenToSpeak$Ways"
  | 5 => .object "WhenToSpeak$Book"
  | 6 => .object "WhenToSpeak$Gate"
  | 7 => .array .int
  | 8 => .array .int
  | 9 => .array .int
  | 10 => .array .int
  | 11 => .array .int
  | 12 => .array .int
  | 13 => .array .int
  | 14 => .array .int
  | 15 => .array .int
  | 16 => .int
  | 17 => .int
  | _ => .boolean
abbrev wsX40 : List Cond := u_ws RX4 TX4 19
theorem nmX4 : ∀ a, a < 19 → ∀ b, b < 19 → a ≠ b → (TX4 a).2.1 ≠ (TX4 b).2.1 := by decide +kernel
theorem tyX4_ok : ∀ k, k < 19 → parseFieldDescriptor (TX4 k).2.2.1 = some (tyX4 k) := by decide +kernel
abbrev cX4_init : ByteArray := prog_6_method_1_code
def yX4_init : MethodName := ⟨RX4, "<init>", "(LWhenToSpeak$Work;LWhenToSpeak$Ways;LWhenToSpeak$Book;)V"⟩
abbrev cX4_make : ByteArray := prog_6_method_2_code
def yX4_make : MethodName := ⟨RX4, "make", "(IIILWhenToSpeak$Laws;)V"⟩
abbrev cX4_pick : ByteArray := prog_6_method_3_code
def yX4_pick : MethodName := ⟨RX4, "pick", "(II)V"⟩
abbrev cX4_price : ByteArray := prog_6_method_4_code
def yX4_price : MethodName := ⟨RX4, "price", "(IILWhenToSpeak$Laws;)V"⟩
abbrev cX4_priceSet : ByteArray := prog_6_method_5_code
def yX4_priceSet : MethodName := ⟨RX4, "priceSet", "(II)V"⟩
abbrev cX4_mostBarsAt : ByteArray := prog_6_method_6_code
def yX4_mostBarsAt : MethodName := ⟨RX4, "mostBarsAt", "(IIIILWhenToSpeak$Laws;)Z"⟩
abbrev cX4_decide : ByteArray := prog_6_method_7_code
def yX4_decide : MethodName := ⟨RX4, "decide", "(IIIZ)I"⟩
abbrev cX4_nodeBehind : ByteArray := prog_6_method_8_code
def yX4_nodeBehind : MethodName := ⟨RX4, "nodeBehind", "(IZ)I"⟩
abbrev cX4_total : ByteArray := prog_6_method_9_code
def yX4_total : MethodName := ⟨RX4, "total", "(II)I"⟩
abbrev cX4_tell : ByteArray := prog_6_method_10_code
def yX4_tell : MethodName := ⟨RX4, "tell", "(IILWhenToSpeak$Laws;)V"⟩
def RX5 : String := "WhenToSpeak$Saying"
def TX5 : u_T := fun k => match k with
  | 0 => ("WhenToSpeak$Saying", "person", "I", false)
  | 1 => ("WhenToSpeak$Saying", "set", "I", false)
  | 2 => ("WhenToSpeak$Saying", "way", "I", false)
  | 3 => ("WhenToSpeak$Saying", "tick", "I", false)
  | _ => ("WhenToSpeak$Saying", "outcome", "I", false)
def tyX5 : Nat → FieldType := fun k => match k with
  | 0 => .int
  | 1 => .int
  | 2 => .int
  | 3 => .int
  | _ => .int
abbrev wsX50 : List Cond := u_ws RX5 TX5 5
theorem nmX5 : ∀ a, a < 5 → ∀ b, b < 5 → a ≠ b → (TX5 a).2.1 ≠ (TX5 b).2.1 := by decide +kernel
theorem tyX5_ok : ∀ k, k < 5 → parseFieldDescriptor (TX5 k).2.2.1 = some (tyX5 k) := by decide +kernel
abbrev cX5_init : ByteArray := prog_7_method_1_code
def yX5_init : MethodName := ⟨RX5, "<init>", "()V"⟩
def RX6 : String := "WhenToSpeak$Thing"
def TX6 : u_T := fun k => match k with
  | 0 => ("WhenToSpeak$Thing", "persons", "I", false)
  | 1 => ("WhenToSpeak$Thing", "kind", "I", false)
  | 2 => ("WhenToSpeak$Thing", "matter", "I", false)
  | 3 => ("WhenToSpeak$Thing", "from", "I", false)
  | 4 => ("WhenToSpeak$Thing", "worth", "I", false)
  | 5 => ("WhenToSpeak$Thing", "less", "I", false)
  | 6 => ("WhenToSpeak$Thing", "clock", "I", false)
  | 7 => ("WhenToSpeak$Thing", "tick", "I", false)
  | _ => ("WhenToSpeak$Thing", "takenBack", "Z", false)
def tyX6 : Nat → FieldType := fun k => match k with
  | 0 => .int
  | 1 => .int
  | 2 => .int
  | 3 => .int
  | 4 => .int
  | 5 => .int
  | 6 => .int
  | 7 => .int
  | _ => .boolean
abbrev wsX60 : List Cond := u_ws RX6 TX6 9
theorem nmX6 : ∀ a, a < 9 → ∀ b, b < 9 → a ≠ b → (TX6 a).2.1 ≠ (TX6 b).2.1 := by decide +kernel
theorem tyX6_ok : ∀ k, k < 9 → parseFieldDescriptor (TX6 k).2.2.1 = some (tyX6 k) := by decide +kernel
abbrev cX6_init : ByteArray := prog_8_method_1_code
def yX6_init : MethodName := ⟨RX6, "<init>", "()V"⟩
abbrev cX6_valueIn : ByteArray := prog_8_method_2_code
def yX6_valueIn : MethodName := ⟨RX6, "valueIn", "(II)I"⟩
abbrev cX6_planValueIn : ByteArray := prog_8_method_3_code
def yX6_planValueIn : MethodName := ⟨RX6, "planValueIn", "(II)I"⟩
abbrev cX6_isMust : ByteArray := prog_8_method_4_code
def yX6_isMust : MethodName := ⟨RX6, "isMust", "()Z"⟩
def RX7 : String := "WhenToSpeak$Trial"
def TX7 : u_T := fun k => match k with
  | 0 => ("WhenToSpeak$Trial", "late", "I", false)
  | 1 => ("WhenToSpeak$Trial", "waited", "I", false)
  | 2 => ("WhenToSpeak$Trial", "paid", "I", false)
  | 3 => ("WhenToSpeak$Trial", "said", "I", false)
  | 4 => ("WhenToSpeak$Trial", "work", "LWhenToSpeak$Work;", true)
  | 5 => ("WhenToSpeak$Trial", "ways", "LWhenToSpeak$Ways;", true)
  | 6 => ("WhenToSpeak$Trial", "book", "LWhenToSpeak$Book;", true)
  | _ => ("WhenToSpeak$Trial", "done", "I", false)
def tyX7 : Nat → FieldType := fun k => match k with
  | 0 => .int
  | 1 => .int
  | 2 => .int
  | 3 => .int
  | 4 => .object "WhenToSpeak$Work"
  | 5 => .object "WhenToSpeak$Ways"
  | 6 => .object "WhenToSpeak$Book"
  | _ => .int
abbrev wsX70 : List Cond := u_ws RX7 TX7 8
theorem nmX7 : ∀ a, a < 8 → ∀ b, b < 8 → a ≠ b → (TX7 a).2.1 ≠ (TX7 b).2.1 := by decide +kernel
theorem tyX7_ok : ∀ k, k < 8 → parseFieldDescriptor (TX7 k).2.2.1 = some (tyX7 k) := by decide +kernel
abbrev cX7_init : ByteArray := prog_9_method_1_code
def yX7_init : MethodName := ⟨RX7, "<init>", "(LWhenToSpeak$Work;LWhenToSpeak$Ways;LWhenToSpeak$Book;)V"⟩
abbrev cX7_run : ByteArray := prog_9_method_2_code
def yX7_run : MethodName := ⟨RX7, "run", "(IIII)V"⟩
abbrev cX7_sayIn : ByteArray := prog_9_method_3_code
def yX7_sayIn : MethodName := ⟨RX7, "sayIn", "(IIZ)V"⟩
abbrev cX7_isLeft : ByteArray := prog_9_method_4_code
def yX7_isLeft : MethodName := ⟨RX7, "isLeft", "(II)Z"⟩
def RX8 : String := "WhenToSpeak$Ways"
def TX8 : u_T := fun k => match k with
  | 0 => ("WhenToSpeak$Ways", "costs", "[[I", true)
  | _ => ("WhenToSpeak$Ways", "seenOdds", "[I", true)
def tyX8 : Nat → FieldType := fun k => match k with
  | 0 => .array (.array .int)
  | _ => .array .int
abbrev wsX80 : List Cond := u_ws RX8 TX8 2
theorem nmX8 : ∀ a, a < 2 → ∀ b, b < 2 → a ≠ b → (TX8 a).2.1 ≠ (TX8 b).2.1 := by decide +kernel
theorem tyX8_ok : ∀ k, k < 2 → parseFieldDescriptor (TX8 k).2.2.1 = some (tyX8 k) := by decide +kernel
abbrev cX8_init : ByteArray := prog_10_method_1_code
def yX8_init : MethodName := ⟨RX8, "<init>", "()V"⟩
abbrev cX8_lossBy : ByteArray := prog_10_method_2_code
def yX8_lossBy : MethodName := ⟨RX8, "lossBy", "(I[I)I"⟩
def RX9 : String := "WhenToSpeak$Work"
def TX9 : u_T := fun k => match k with
  | 0 => ("WhenToSpeak$Work", "next", "[[I", true)
  | 1 => ("WhenToSpeak$Work", "shown", "[[I", true)
  | 2 => ("WhenToSpeak$Work", "first", "[I", true)
  | 3 => ("WhenToSpeak$Work", "signs", "[[I", true)
  | 4 => ("WhenToSpeak$Work", "ahead", "[[I", true)
  | 5 => ("WhenToSpeak$Work", "seamStates", "I", false)
  | 6 => ("WhenToSpeak$Work", "weights", "[J", false)
  | _ => ("WhenToSpeak$Work", "laterWeights", "[J", false)
def tyX9 : Nat → FieldType := fun k => match k with
  | 0 => .array (.array .int)
  | 1 => .array (.array .int)
  | 2 => .array .int
  | 3 => .array (.array .int)
  | 4 => .array (.array .int)
  | 5 => .int
  | 6 => .array .long
  | _ => .array .long
abbrev wsX90 : List Cond := u_ws RX9 TX9 8
theorem nmX9 : ∀ a, a < 8 → ∀ b, b < 8 → a ≠ b → (TX9 a).2.1 ≠ (TX9 b).2.1 := by decide +kernel
theorem tyX9_ok : ∀ k, k < 8 → parseFieldDescriptor (TX9 k).2.2.1 = some (tyX9 k) := by decide +kernel
abbrev cX9_init : ByteArray := prog_11_method_1_code
def yX9_init : MethodName := ⟨RX9, "<init>", "()V"⟩
abbrev cX9_fittingRows : ByteArray := prog_11_method_2_code
def yX9_fittingRows : MethodName := ⟨RX9, "fittingRows", "(II)I"⟩
abbrev cX9_lookAhead : ByteArray := prog_11_method_3_code
def yX9_lookAhead : MethodName := ⟨RX9, "lookAhead", "(III)V"⟩
abbrev cX9_seamOdds : ByteArray := prog_11_method_4_code
def yX9_seamOdds : MethodName := ⟨RX9, "seamOdds", "(I)I"⟩
abbrev cX9_moveOn : ByteArray := prog_11_method_5_code
def yX9_moveOn : MethodName := ⟨RX9, "moveOn", "([I[I)V"⟩
abbrev cX9_weigh : ByteArray := prog_11_method_6_code
def yX9_weigh : MethodName := ⟨RX9, "weigh", "(IIZ)V"⟩
abbrev cX9_signFactor : ByteArray := prog_11_method_7_code
def yX9_signFactor : MethodName := ⟨RX9, "signFactor", "(IIZ)J"⟩
abbrev cX9_factor : ByteArray := prog_11_method_8_code
def yX9_factor : MethodName := ⟨RX9, "factor", "(IZ)J"⟩
abbrev cX9_allWeights : ByteArray := prog_11_method_9_code
def yX9_allWeights : MethodName := ⟨RX9, "allWeights", "()J"⟩
def RX10 : String := "WhenToSpeak"
def TX10 : u_T := fun k => match k with
  | 0 => ("WhenToSpeak", "work", "LWhenToSpeak$Work;", true)
  | 1 => ("WhenToSpeak", "ways", "LWhenToSpeak$Ways;", true)
  | 2 => ("WhenToSpeak", "book", "LWhenToSpeak$Book;", true)
  | 3 => ("WhenToSpeak", "lawText", "LWhenToSpeak$LawText;", true)
  | 4 => ("WhenToSpeak", "lawsOf", "[LWhenToSpeak$Laws;", true)
  | 5 => ("WhenToSpeak", "gate", "LWhenToSpeak$Gate;", true)
  | 6 => ("WhenToSpeak", "planner", "LWhenToSpeak$Planner;", true)
  | 7 => ("WhenToSpeak", "trial", "LWhenToSpeak$Trial;", true)
  | 8 => ("WhenToSpeak", "saidIn", "[I", true)
  | 9 => ("WhenToSpeak", "spareLaws", "LWhenToSpeak$Laws;", false)
  | _ => ("WhenToSpeak", "now", "I", false)
def tyX10 : Nat → FieldType := fun k => match k with
  | 0 => .object "WhenToSpeak$Work"
  | 1 => .object "WhenToSpeak$Ways"
  | 2 => .object "WhenToSpeak$Book"
  | 3 => .object "WhenToSpeak$LawText"
  | 4 => .array (.object "WhenToSpeak$Laws")
  | 5 => .object "WhenToSpeak$Gate"
  | 6 => .object "WhenToSpeak$Planner"
  | 7 => .object "WhenToSpeak$Trial"
  | 8 => .array .int
  | 9 => .object "WhenToSpeak$Laws"
  | _ => .int
abbrev wsX100 : List Cond := u_ws RX10 TX10 11
theorem nmX10 : ∀ a, a < 11 → ∀ b, b < 11 → a ≠ b → (TX10 a).2.1 ≠ (TX10 b).2.1 := by decide +kernel
theorem tyX10_ok : ∀ k, k < 11 → parseFieldDescriptor (TX10 k).2.2.1 = some (tyX10 k) := by decide +kernel
abbrev cX10_init : ByteArray := prog_1_method_1_code
def yX10_init : MethodName := ⟨RX10, "<init>", "()V"⟩
abbrev cX10_move : ByteArray := prog_1_method_2_code
def yX10_move : MethodName := ⟨RX10, "move", "(III)I"⟩
abbrev cX10_shows : ByteArray := prog_1_method_3_code
def yX10_shows : MethodName := ⟨RX10, "shows", "(III)I"⟩
abbrev cX10_begins : ByteArray := prog_1_method_4_code
def yX10_begins : MethodName := ⟨RX10, "begins", "(II)I"⟩
abbrev cX10_seams : ByteArray := prog_1_method_5_code
def yX10_seams : MethodName := ⟨RX10, "seams", "(I)I"⟩
abbrev cX10_sign : ByteArray := prog_1_method_6_code
def yX10_sign : MethodName := ⟨RX10, "sign", "(II)I"⟩
abbrev cX10_go : ByteArray := prog_1_method_7_code
def yX10_go : MethodName := ⟨RX10, "go", "(I)I"⟩
abbrev cX10_fits : ByteArray := prog_1_method_8_code
def yX10_fits : MethodName := ⟨RX10, "fits", "(II)I"⟩
abbrev cX10_odds : ByteArray := prog_1_method_9_code
def yX10_odds : MethodName := ⟨RX10, "odds", "(III)I"⟩
abbrev cX10_seam : ByteArray := prog_1_method_10_code
def yX10_seam : MethodName := ⟨RX10, "seam", "(II)I"⟩
abbrev cX10_until : ByteArray := prog_1_method_11_code
def yX10_until : MethodName := ⟨RX10, "until", "(II)I"⟩
abbrev cX10_thing : ByteArray := prog_1_method_12_code
def yX10_thing : MethodName := ⟨RX10, "thing", "(IIIIIII)I"⟩
abbrev cX10_dead : ByteArray := prog_1_method_13_code
def yX10_dead : MethodName := ⟨RX10, "dead", "(I)I"⟩
abbrev cX10_told : ByteArray := prog_1_method_14_code
def yX10_told : MethodName := ⟨RX10, "told", "(II)I"⟩
abbrev cX10_value : ByteArray := prog_1_method_15_code
def yX10_value : MethodName := ⟨RX10, "value", "(III)I"⟩
abbrev cX10_cost : ByteArray := prog_1_method_16_code
def yX10_cost : MethodName := ⟨RX10, "cost", "(III)I"⟩
abbrev cX10_seen : ByteArray := prog_1_method_17_code
def yX10_seen : MethodName := ⟨RX10, "seen", "(II)I"⟩
abbrev cX10_loss : ByteArray := prog_1_method_18_code
def yX10_loss : MethodName := ⟨RX10, "loss", "(III)I"⟩
abbrev cX10_count : ByteArray := prog_1_method_19_code
def yX10_count : MethodName := ⟨RX10, "count", "(I)I"⟩
abbrev cX10_feed : ByteArray := prog_1_method_20_code
def yX10_feed : MethodName := ⟨RX10, "feed", "(IJ)I"⟩
abbrev cX10_read : ByteArray := prog_1_method_21_code
def yX10_read : MethodName := ⟨RX10, "read", "(I)I"⟩
abbrev cX10_fault : ByteArray := prog_1_method_22_code
def yX10_fault : MethodName := ⟨RX10, "fault", "()I"⟩
abbrev cX10_barred : ByteArray := prog_1_method_23_code
def yX10_barred : MethodName := ⟨RX10, "barred", "(III)I"⟩
abbrev cX10_barNow : ByteArray := prog_1_method_24_code
def yX10_barNow : MethodName := ⟨RX10, "barNow", "(III)I"⟩
abbrev cX10_plan : ByteArray := prog_1_method_25_code
def yX10_plan : MethodName := ⟨RX10, "plan", "(IIII)I"⟩
abbrev cX10_say : ByteArray := prog_1_method_26_code
def yX10_say : MethodName := ⟨RX10, "say", "(III)I"⟩
abbrev cX10_came : ByteArray := prog_1_method_27_code
def yX10_came : MethodName := ⟨RX10, "came", "(II)I"⟩
abbrev cX10_saying : ByteArray := prog_1_method_28_code
def yX10_saying : MethodName := ⟨RX10, "saying", "(II)I"⟩
abbrev cX10_learnt : ByteArray := prog_1_method_29_code
def yX10_learnt : MethodName := ⟨RX10, "learnt", "(III)I"⟩
abbrev cX10_chance : ByteArray := prog_1_method_30_code
def yX10_chance : MethodName := ⟨RX10, "chance", "(IIIIZ)I"⟩
abbrev cX10_choose : ByteArray := prog_1_method_31_code
def yX10_choose : MethodName := ⟨RX10, "choose", "(II)J"⟩
abbrev cX10_commonPart : ByteArray := prog_1_method_32_code
def yX10_commonPart : MethodName := ⟨RX10, "commonPart", "(JJ)J"⟩
abbrev cX10_who : ByteArray := prog_1_method_33_code
def yX10_who : MethodName := ⟨RX10, "who", "(II)I"⟩
abbrev cX10_tried : ByteArray := prog_1_method_34_code
def yX10_tried : MethodName := ⟨RX10, "tried", "(IIII)I"⟩
abbrev cX10_within : ByteArray := prog_1_method_35_code
def yX10_within : MethodName := ⟨RX10, "within", "(III)Z"⟩
abbrev cX10_isPerson : ByteArray := prog_1_method_36_code
def yX10_isPerson : MethodName := ⟨RX10, "isPerson", "(I)Z"⟩
abbrev cX10_isState : ByteArray := prog_1_method_37_code
def yX10_isState : MethodName := ⟨RX10, "isState", "(I)Z"⟩
abbrev cX10_isWay : ByteArray := prog_1_method_38_code
def yX10_isWay : MethodName := ⟨RX10, "isWay", "(I)Z"⟩
abbrev cX10_isOften : ByteArray := prog_1_method_39_code
def yX10_isOften : MethodName := ⟨RX10, "isOften", "(I)Z"⟩
abbrev cX10_isAhead : ByteArray := prog_1_method_40_code
def yX10_isAhead : MethodName := ⟨RX10, "isAhead", "(I)Z"⟩
abbrev cX10_contains : ByteArray := prog_1_method_41_code
def yX10_contains : MethodName := ⟨RX10, "contains", "(II)Z"⟩
abbrev cX10_exchange : ByteArray := prog_1_method_42_code
def yX10_exchange : MethodName := ⟨RX10, "exchange", "([III)I"⟩
def RX11 : String := "WhenToSpeakModel"
def TX11 : u_T := fun k => match k with
  | 0 => ("WhenToSpeakModel", "moves", "[I", true)
  | 1 => ("WhenToSpeakModel", "shown", "[I", true)
  | 2 => ("WhenToSpeakModel", "begin", "[I", true)
  | 3 => ("WhenToSpeakModel", "seamSet", "I", false)
  | 4 => ("WhenToSpeakModel", "signs", "[I", true)
  | 5 => ("WhenToSpeakModel", "now", "I", false)
  | 6 => ("WhenToSpeakModel", "weights", "[J", true)
  | 7 => ("WhenToSpeakModel", "nextWeights", "[J", true)
  | 8 => ("WhenToSpeakModel", "rows", "[I", true)
  | 9 => ("WhenToSpeakModel", "nextRows", "[I", true)
  | 10 => ("WhenToSpeakModel", "odds", "[I", true)
  | 11 => ("WhenToSpeakModel", "nextOdds", "[I", true)
  | 12 => ("WhenToSpeakModel", "things", "I", false)
  | 13 => ("WhenToSpeakModel", "persons", "[I", true)
  | 14 => ("WhenToSpeakModel", "kinds", "[I", true)
  | 15 => ("WhenToSpeakModel", "matters", "[I", true)
  | 16 => ("WhenToSpeakModel", "froms", "[I", true)
  | 17 => ("WhenToSpeakModel", "worths", "[I", true)
  | 18 => ("WhenToSpeakModel", "falls", "[I", true)
  | 19 => ("WhenToSpeakModel", "clocks", "[I", true)
  | 20 => ("WhenToSpeakModel", "since", "[I", true)
  | 21 => ("WhenToSpeakModel", "isDead", "[Z", true)
  | 22 => ("WhenToSpeakModel", "costs", "[I", true)
  | 23 => ("WhenToSpeakModel", "seens", "[I", true)
  | 24 => ("WhenToSpeakModel", "lawMany", "[I", true)
  | 25 => ("WhenToSpeakModel", "lawKind", "[I", true)
  | 26 => ("WhenToSpeakModel", "lawA", "[I", true)
  | 27 => ("WhenToSpeakModel", "lawB", "[I", true)
  | 28 => ("WhenToSpeakModel", "lawC", "[I", true)
  | 29 => ("WhenToSpeakModel", "freshKind", "[I", true)
  | 30 => ("WhenToSpeakModel", "freshA", "[I", true)
  | 31 => ("WhenToSpeakModel", "freshB", "[I", true)
  | 32 => ("WhenToSpeakModel", "freshC", "[I", true)
  | 33 => ("WhenToSpeakModel", "text", "[I", true)
  | 34 => ("WhenToSpeakModel", "texted", "I", false)
  | 35 => ("WhenToSpeakModel", "faultPlace", "I", false)
  | 36 => ("WhenToSpeakModel", "at0", "I", false)
  | 37 => ("WhenToSpeakModel", "word", "J", false)
  | 38 => ("WhenToSpeakModel", "wordEnd", "I", false)
  | 39 => ("WhenToSpeakModel", "number", "I", false)
  | 40 => ("WhenToSpeakModel", "looked", "[I", true)
  | 41 => ("WhenToSpeakModel", "lookedMany", "I", false)
  | 42 => ("WhenToSpeakModel", "bests", "[I", true)
  | 43 => ("WhenToSpeakModel", "gains", "[I", true)
  | 44 => ("WhenToSpeakModel", "ways", "[I", true)
  | 45 => ("WhenToSpeakModel", "sayings", "I", false)
  | 46 => ("WhenToSpeakModel", "sayPerson", "[I", true)
  | 47 => ("WhenToSpeakModel", "said", "[I", true)
  | 48 => ("WhenToSpeakModel", "sayWay", "[I", true)
  | 49 => ("WhenToSpeakModel", "sayTick", "[I", true)
  | _ => ("WhenToSpeakModel", "results", "[I", true)
def tyX11 : Nat → FieldType := fun k => match k with
  | 0 => .array .int
  | 1 => .array .int
  | 2 => .array .int
  | 3 => .int
  | 4 => .array .int
  | 5 => .int
  | 6 => .array .long
  | 7 => .array .long
  | 8 => .array .int
  | 9 => .array .int
  | 10 => .array .int
  | 11 => .array .int
  | 12 => .int
  | 13 => .array .int
  | 14 => .array .int
  | 15 => .array .int
  | 16 => .array .int
  | 17 => .array .int
  | 18 => .array .int
  | 19 => .array .int
  | 20 => .array .int
  | 21 => .array .boolean
  | 22 => .array .int
  | 23 => .array .int
  | 24 => .array .int
  | 25 => .array .int
  | 26 => .array .int
  | 27 => .array .int
  | 28 => .array .int
  | 29 => .array .int
  | 30 => .array .int
  | 31 => .array .int
  | 32 => .array .int
  | 33 => .array .int
  | 34 => .int
  | 35 => .int
  | 36 => .int
  | 37 => .long
  | 38 => .int
  | 39 => .int
  | 40 => .array .int
  | 41 => .int
  | 42 => .array .int
  | 43 => .array .int
  | 44 => .array .int
  | 45 => .int
  | 46 => .array .int
  | 47 => .array .int
  | 48 => .array .int
  | 49 => .array .int
  | _ => .array .int
abbrev wsX110 : List Cond := u_ws RX11 TX11 51
theorem nmX11 : ∀ a, a < 51 → ∀ b, b < 51 → a ≠ b → (TX11 a).2.1 ≠ (TX11 b).2.1 := by decide +kernel
theorem tyX11_ok : ∀ k, k < 51 → parseFieldDescriptor (TX11 k).2.2.1 = some (tyX11 k) := by decide +kernel
abbrev cX11_init : ByteArray := prog_13_method_1_code
def yX11_init : MethodName := ⟨RX11, "<init>", "()V"⟩
abbrev cX11_in : ByteArray := prog_13_method_3_code
def yX11_in : MethodName := ⟨RX11, "in", "(JJJ)Z"⟩
abbrev cX11_isState : ByteArray := prog_13_method_4_code
def yX11_isState : MethodName := ⟨RX11, "isState", "(I)Z"⟩
abbrev cX11_isPerson : ByteArray := prog_13_method_5_code
def yX11_isPerson : MethodName := ⟨RX11, "isPerson", "(I)Z"⟩
abbrev cX11_move : ByteArray := prog_13_method_6_code
def yX11_move : MethodName := ⟨RX11, "move", "(III)I"⟩
abbrev cX11_shows : ByteArray := prog_13_method_7_code
def yX11_shows : MethodName := ⟨RX11, "shows", "(III)I"⟩
abbrev cX11_begins : ByteArray := prog_13_method_8_code
def yX11_begins : MethodName := ⟨RX11, "begins", "(II)I"⟩
abbrev cX11_seams : ByteArray := prog_13_method_9_code
def yX11_seams : MethodName := ⟨RX11, "seams", "(I)I"⟩
abbrev cX11_sign : ByteArray := prog_13_method_10_code
def yX11_sign : MethodName := ⟨RX11, "sign", "(II)I"⟩
abbrev cX11_go : ByteArray := prog_13_method_11_code
def yX11_go : MethodName := ⟨RX11, "go", "(I)I"⟩
abbrev cX11_showsAt : ByteArray := prog_13_method_12_code
def yX11_showsAt : MethodName := ⟨RX11, "showsAt", "(III)I"⟩
abbrev cX11_findRows : ByteArray := prog_13_method_13_code
def yX11_findRows : MethodName := ⟨RX11, "findRows", "(II)V"⟩
abbrev cX11_findOdds : ByteArray := prog_13_method_14_code
def yX11_findOdds : MethodName := ⟨RX11, "findOdds", "(III)V"⟩
abbrev cX11_seamOdds : ByteArray := prog_13_method_15_code
def yX11_seamOdds : MethodName := ⟨RX11, "seamOdds", "(III)I"⟩
abbrev cX11_fits : ByteArray := prog_13_method_16_code
def yX11_fits : MethodName := ⟨RX11, "fits", "(II)I"⟩
abbrev cX11_odds : ByteArray := prog_13_method_17_code
def yX11_odds : MethodName := ⟨RX11, "odds", "(III)I"⟩
abbrev cX11_seam : ByteArray := prog_13_method_18_code
def yX11_seam : MethodName := ⟨RX11, "seam", "(II)I"⟩
abbrev cX11_until : ByteArray := prog_13_method_19_code
def yX11_until : MethodName := ⟨RX11, "until", "(II)I"⟩
abbrev cX11_isThing : ByteArray := prog_13_method_20_code
def yX11_isThing : MethodName := ⟨RX11, "isThing", "(I)Z"⟩
abbrev cX11_isMust : ByteArray := prog_13_method_21_code
def yX11_isMust : MethodName := ⟨RX11, "isMust", "(I)Z"⟩
abbrev cX11_thing : ByteArray := prog_13_method_22_code
def yX11_thing : MethodName := ⟨RX11, "thing", "(IIIIIII)I"⟩
abbrev cX11_sayingsOf : ByteArray := prog_13_method_23_code
def yX11_sayingsOf : MethodName := ⟨RX11, "sayingsOf", "(I)I"⟩
abbrev cX11_dead : ByteArray := prog_13_method_24_code
def yX11_dead : MethodName := ⟨RX11, "dead", "(I)I"⟩
abbrev cX11_isTold : ByteArray := prog_13_method_25_code
def yX11_isTold : MethodName := ⟨RX11, "isTold", "(I)Z"⟩
abbrev cX11_stateOf : ByteArray := prog_13_method_26_code
def yX11_stateOf : MethodName := ⟨RX11, "stateOf", "(I)I"⟩
abbrev cX11_told : ByteArray := prog_13_method_27_code
def yX11_told : MethodName := ⟨RX11, "told", "(II)I"⟩
abbrev cX11_valueOf : ByteArray := prog_13_method_28_code
def yX11_valueOf : MethodName := ⟨RX11, "valueOf", "(III)I"⟩
abbrev cX11_value : ByteArray := prog_13_method_29_code
def yX11_value : MethodName := ⟨RX11, "value", "(III)I"⟩
abbrev cX11_isWay : ByteArray := prog_13_method_30_code
def yX11_isWay : MethodName := ⟨RX11, "isWay", "(I)Z"⟩
abbrev cX11_cost : ByteArray := prog_13_method_31_code
def yX11_cost : MethodName := ⟨RX11, "cost", "(III)I"⟩
abbrev cX11_seen : ByteArray := prog_13_method_32_code
def yX11_seen : MethodName := ⟨RX11, "seen", "(II)I"⟩
abbrev cX11_lossOf : ByteArray := prog_13_method_33_code
def yX11_lossOf : MethodName := ⟨RX11, "lossOf", "(IIII)I"⟩
abbrev cX11_loss : ByteArray := prog_13_method_34_code
def yX11_loss : MethodName := ⟨RX11, "loss", "(III)I"⟩
abbrev cX11_thingsThat : ByteArray := prog_13_method_35_code
def yX11_thingsThat : MethodName := ⟨RX11, "thingsThat", "(I)I"⟩
abbrev cX11_count : ByteArray := prog_13_method_36_code
def yX11_count : MethodName := ⟨RX11, "count", "(I)I"⟩
abbrev cX11_feed : ByteArray := prog_13_method_37_code
def yX11_feed : MethodName := ⟨RX11, "feed", "(IJ)I"⟩
abbrev cX11_here : ByteArray := prog_13_method_38_code
def yX11_here : MethodName := ⟨RX11, "here", "()I"⟩
abbrev cX11_fails : ByteArray := prog_13_method_39_code
def yX11_fails : MethodName := ⟨RX11, "fails", "(II)I"⟩
abbrev cX11_readWord : ByteArray := prog_13_method_40_code
def yX11_readWord : MethodName := ⟨RX11, "readWord", "()V"⟩
abbrev cX11_code : ByteArray := prog_13_method_41_code
def yX11_code : MethodName := ⟨RX11, "code", "(IIIIII)J"⟩
abbrev cX11_needs : ByteArray := prog_13_method_42_code
def yX11_needs : MethodName := ⟨RX11, "needs", "(J)I"⟩
abbrev cX11_readNumber : ByteArray := prog_13_method_43_code
def yX11_readNumber : MethodName := ⟨RX11, "readNumber", "(II)I"⟩
abbrev cX11_readWay : ByteArray := prog_13_method_44_code
def yX11_readWay : MethodName := ⟨RX11, "readWay", "(I)I"⟩
abbrev cX11_readNever : ByteArray := prog_13_method_45_code
def yX11_readNever : MethodName := ⟨RX11, "readNever", "(I)I"⟩
abbrev cX11_readMost : ByteArray := prog_13_method_46_code
def yX11_readMost : MethodName := ⟨RX11, "readMost", "(I)I"⟩
abbrev cX11_readAlways : ByteArray := prog_13_method_47_code
def yX11_readAlways : MethodName := ⟨RX11, "readAlways", "(I)I"⟩
abbrev cX11_readClause : ByteArray := prog_13_method_48_code
def yX11_readClause : MethodName := ⟨RX11, "readClause", "(I)I"⟩
abbrev cX11_read : ByteArray := prog_13_method_49_code
def yX11_read : MethodName := ⟨RX11, "read", "(I)I"⟩
abbrev cX11_fault : ByteArray := prog_13_method_50_code
def yX11_fault : MethodName := ⟨RX11, "fault", "()I"⟩
abbrev cX11_isAlways : ByteArray := prog_13_method_51_code
def yX11_isAlways : MethodName := ⟨RX11, "isAlways", "(II)Z"⟩
abbrev cX11_areAlways : ByteArray := prog_13_method_52_code
def yX11_areAlways : MethodName := ⟨RX11, "areAlways", "(II)Z"⟩
abbrev cX11_isWayBarred : ByteArray := prog_13_method_53_code
def yX11_isWayBarred : MethodName := ⟨RX11, "isWayBarred", "(III)Z"⟩
abbrev cX11_isKindBarred : ByteArray := prog_13_method_54_code
def yX11_isKindBarred : MethodName := ⟨RX11, "isKindBarred", "(III)Z"⟩
abbrev cX11_areMost : ByteArray := prog_13_method_55_code
def yX11_areMost : MethodName := ⟨RX11, "areMost", "(III)Z"⟩
abbrev cX11_barring : ByteArray := prog_13_method_56_code
def yX11_barring : MethodName := ⟨RX11, "barring", "(IIIII)I"⟩
abbrev cX11_areThings : ByteArray := prog_13_method_57_code
def yX11_areThings : MethodName := ⟨RX11, "areThings", "(I)Z"⟩
abbrev cX11_barred : ByteArray := prog_13_method_58_code
def yX11_barred : MethodName := ⟨RX11, "barred", "(III)I"⟩
abbrev cX11_setOf : ByteArray := prog_13_method_59_code
def yX11_setOf : MethodName := ⟨RX11, "setOf", "(I)I"⟩
abbrev cX11_isOneMatter : ByteArray := prog_13_method_60_code
def yX11_isOneMatter : MethodName := ⟨RX11, "isOneMatter", "(I)Z"⟩
abbrev cX11_findGain : ByteArray := prog_13_method_61_code
def yX11_findGain : MethodName := ⟨RX11, "findGain", "(III)V"⟩
abbrev cX11_place : ByteArray := prog_13_method_62_code
def yX11_place : MethodName := ⟨RX11, "place", "(III)I"⟩
abbrev cX11_by : ByteArray := prog_13_method_63_code
def yX11_by : MethodName := ⟨RX11, "by", "(IIIII)I"⟩
abbrev cX11_findPlans : ByteArray := prog_13_method_64_code
def yX11_findPlans : MethodName := ⟨RX11, "findPlans", "(II)V"⟩
abbrev cX11_plan : ByteArray := prog_13_method_65_code
def yX11_plan : MethodName := ⟨RX11, "plan", "(IIII)I"⟩
abbrev cX11_deadOf : ByteArray := prog_13_method_66_code
def yX11_deadOf : MethodName := ⟨RX11, "deadOf", "(I)I"⟩
abbrev cX11_areFor : ByteArray := prog_13_method_67_code
def yX11_areFor : MethodName := ⟨RX11, "areFor", "(II)Z"⟩
abbrev cX11_say : ByteArray := prog_13_method_68_code
def yX11_say : MethodName := ⟨RX11, "say", "(III)I"⟩
abbrev cX11_isSaying : ByteArray := prog_13_method_69_code
def yX11_isSaying : MethodName := ⟨RX11, "isSaying", "(I)Z"⟩
abbrev cX11_came : ByteArray := prog_13_method_70_code
def yX11_came : MethodName := ⟨RX11, "came", "(II)I"⟩
abbrev cX11_saying : ByteArray := prog_13_method_71_code
def yX11_saying : MethodName := ⟨RX11, "saying", "(II)I"⟩
abbrev cX11_cameOf : ByteArray := prog_13_method_72_code
def yX11_cameOf : MethodName := ⟨RX11, "cameOf", "(IZ)I"⟩
abbrev cX11_choose : ByteArray := prog_13_method_73_code
def yX11_choose : MethodName := ⟨RX11, "choose", "(II)J"⟩
abbrev cX11_gcd : ByteArray := prog_13_method_74_code
def yX11_gcd : MethodName := ⟨RX11, "gcd", "(JJ)J"⟩
abbrev cX11_learnt : ByteArray := prog_13_method_75_code
def yX11_learnt : MethodName := ⟨RX11, "learnt", "(III)I"⟩
abbrev cX11_who : ByteArray := prog_13_method_76_code
def yX11_who : MethodName := ⟨RX11, "who", "(II)I"⟩
abbrev cX11_tried : ByteArray := prog_13_method_77_code
def yX11_tried : MethodName := ⟨RX11, "tried", "(IIII)I"⟩
def RJ6 : String := "java/lang/Integer"
def TJ6 : u_T := fun k => match k with
  | _ => ("", "", "", false)
def tyJ6 : Nat → FieldType := fun k => match k with
  | _ => .int
abbrev wsJ60 : List Cond := u_ws RJ6 TJ6 0
theorem nmJ6 : ∀ a, a < 0 → ∀ b, b < 0 → a ≠ b → (TJ6 a).2.1 ≠ (TJ6 b).2.1 := by decide +kernel
theorem tyJ6_ok : ∀ k, k < 0 → parseFieldDescriptor (TJ6 k).2.2.1 = some (tyJ6 k) := by decide +kernel
abbrev cJ6_bitCount_0f7a4 : ByteArray := prog_14_method_49_code
def yJ6_bitCount_0f7a4 : MethodName := ⟨RJ6, "bitCount", "(I)I"⟩
def RJ9 : String := "java/lang/Math"
def TJ9 : u_T := fun k => match k with
  | _ => ("", "", "", false)
def tyJ9 : Nat → FieldType := fun k => match k with
  | _ => .int
abbrev wsJ90 : List Cond := u_ws RJ9 TJ9 0
theorem nmJ9 : ∀ a, a < 0 → ∀ b, b < 0 → a ≠ b → (TJ9 a).2.1 ≠ (TJ9 b).2.1 := by decide +kernel
theorem tyJ9_ok : ∀ k, k < 0 → parseFieldDescriptor (TJ9 k).2.2.1 = some (tyJ9 k) := by decide +kernel
abbrev cJ9_max_7cf53 : ByteArray := prog_15_method_65_code
def yJ9_max_7cf53 : MethodName := ⟨RJ9, "max", "(II)I"⟩
abbrev cJ9_min_7cf53 : ByteArray := prog_15_method_69_code
def yJ9_min_7cf53 : MethodName := ⟨RJ9, "min", "(II)I"⟩
def RJ0 : String := "java/lang/String"
def TJ0 : u_T := fun k => match k with
  | _ => ("", "", "", false)
def tyJ0 : Nat → FieldType := fun k => match k with
  | _ => .int
abbrev wsJ00 : List Cond := u_ws RJ0 TJ0 0
theorem nmJ0 : ∀ a, a < 0 → ∀ b, b < 0 → a ≠ b → (TJ0 a).2.1 ≠ (TJ0 b).2.1 := by decide +kernel
theorem tyJ0_ok : ∀ k, k < 0 → parseFieldDescriptor (TJ0 k).2.2.1 = some (tyJ0 k) := by decide +kernel
abbrev cJ0_length_8abf5 : ByteArray := prog_16_method_54_code
def yJ0_length_8abf5 : MethodName := ⟨RJ0, "length", "()I"⟩
abbrev cJ0_charAt_5068e : ByteArray := prog_16_method_56_code
def yJ0_charAt_5068e : MethodName := ⟨RJ0, "charAt", "(I)C"⟩
abbrev cJ0_coder_7d493 : ByteArray := prog_16_method_152_code
def yJ0_coder_7d493 : MethodName := ⟨RJ0, "coder", "()B"⟩
abbrev cJ0_isLatin1_aae02 : ByteArray := prog_16_method_154_code
def yJ0_isLatin1_aae02 : MethodName := ⟨RJ0, "isLatin1", "()Z"⟩
abbrev cJ0_checkIndex_df160 : ByteArray := prog_16_method_155_code
def yJ0_checkIndex_df160 : MethodName := ⟨RJ0, "checkIndex", "(II)V"⟩
def RJ1 : String := "java/lang/StringLatin1"
def TJ1 : u_T := fun k => match k with
  | _ => ("", "", "", false)
def tyJ1 : Nat → FieldType := fun k => match k with
  | _ => .int
abbrev wsJ10 : List Cond := u_ws RJ1 TJ1 0
theorem nmJ1 : ∀ a, a < 0 → ∀ b, b < 0 → a ≠ b → (TJ1 a).2.1 ≠ (TJ1 b).2.1 := by decide +kernel
theorem tyJ1_ok : ∀ k, k < 0 → parseFieldDescriptor (TJ1 k).2.2.1 = some (tyJ1 k) := by decide +kernel
abbrev cJ1_charAt_3b067 : ByteArray := prog_17_method_2_code
def yJ1_charAt_3b067 : MethodName := ⟨RJ1, "charAt", "([BI)C"⟩
def RJ2 : String := "java/lang/StringUTF16"
def TJ2 : u_T := fun k => match k with
  | _ => ("", "", "", false)
def tyJ2 : Nat → FieldType := fun k => match k with
  | _ => .int
abbrev wsJ20 : List Cond := u_ws RJ2 TJ2 0
theorem nmJ2 : ∀ a, a < 0 → ∀ b, b < 0 → a ≠ b → (TJ2 a).2.1 ≠ (TJ2 b).2.1 := by decide +kernel
theorem tyJ2_ok : ∀ k, k < 0 → parseFieldDescriptor (TJ2 k).2.2.1 = some (tyJ2 k) := by decide +kernel
abbrev cJ2_getChar_3b067 : ByteArray := prog_18_method_5_code
def yJ2_getChar_3b067 : MethodName := ⟨RJ2, "getChar", "([BI)C"⟩
abbrev cJ2_length_9d52b : ByteArray := prog_18_method_6_code
def yJ2_length_9d52b : MethodName := ⟨RJ2, "length", "([B)I"⟩
abbrev cJ2_charAt_3b067 : ByteArray := prog_18_method_83_code
def yJ2_charAt_3b067 : MethodName := ⟨RJ2, "charAt", "([BI)C"⟩
abbrev cJ2_checkIndex_2214a : ByteArray := prog_18_method_91_code
def yJ2_checkIndex_2214a : MethodName := ⟨RJ2, "checkIndex", "(I[B)V"⟩
def RJ3 : String := "jdk/internal/util/Preconditions"
def TJ3 : u_T := fun k => match k with
  | _ => ("", "", "", false)
def tyJ3 : Nat → FieldType := fun k => match k with
  | _ => .int
abbrev wsJ30 : List Cond := u_ws RJ3 TJ3 0
theorem nmJ3 : ∀ a, a < 0 → ∀ b, b < 0 → a ≠ b → (TJ3 a).2.1 ≠ (TJ3 b).2.1 := by decide +kernel
theorem tyJ3_ok : ∀ k, k < 0 → parseFieldDescriptor (TJ3 k).2.2.1 = some (tyJ3 k) := by decide +kernel
abbrev cJ3_checkIndex_8e157 : ByteArray := prog_19_method_11_code
def yJ3_checkIndex_8e157 : MethodName := ⟨RJ3, "checkIndex", "(IILjava/util/function/BiFunction;)I"⟩
def RL : String := "WhenToSpeakLaw"
abbrev cL_law : ByteArray := code
def yL_law : MethodName := ⟨RL, "law", "([I)Z"⟩
abbrev vwCl : List vw_C := [(RX0, TX0, 4), (RX1, TX1, 3), (RX2, TX2, 5), (RX3, TX3, 5), (RX4, TX4, 19), (RX5, TX5, 5), (RX6, TX6, 9), (RX7, TX7, 8), (RX8, TX8, 2), (RX9, TX9, 8), (RX10, TX10, 11), (RX11, TX11, 51)]
end
section
/-! ===== the memory of a run: how many cells there are; their shapes; ints, longs, references by address and place ===== -/
abbrev Mem : Type := Nat × (Nat → Nat × Nat) × (Nat → Nat → Int32) × (Nat → Nat → Int64) × (Nat → Nat → Option Nat)
def mN (μ : Mem) : Nat := μ.1
def mS (μ : Mem) : Nat → Nat × Nat := μ.2.1
def mI (μ : Mem) : Nat → Nat → Int32 := μ.2.2.1
def mJ (μ : Mem) : Nat → Nat → Int64 := μ.2.2.2.1
def mR (μ : Mem) : Nat → Nat → Option Nat := μ.2.2.2.2
def up2 {α : Type} (f : Nat → Nat → α) (a k : Nat) (v : α) : Nat → Nat → α := fun b j => if b = a ∧ j = k then v else f b j
def wI (μ : Mem) (a k : Nat) (v : Int32) : Mem := (μ.1, μ.2.1, up2 μ.2.2.1 a k v, μ.2.2.2.1, μ.2.2.2.2)
def wJ (μ : Mem) (a k : Nat) (v : Int64) : Mem := (μ.1, μ.2.1, μ.2.2.1, up2 μ.2.2.2.1 a k v, μ.2.2.2.2)
def wR (μ : Mem) (a k : Nat) (v : Nat) : Mem := (μ.1, μ.2.1, μ.2.2.1, μ.2.2.2.1, up2 μ.2.2.2.2 a k (some v))
/-- a new cell of a shape, all its places at their defaults -/
def mNew (μ : Mem) (sh : Nat × Nat) : Mem := (μ.1 + 1, va_up μ.2.1 μ.1 sh, va_up μ.2.2.1 μ.1 (fun _ => 0), va_up μ.2.2.2.1 μ.1 (fun _ => 0), va_up μ.2.2.2.2 μ.1 (fun _ => none))
/-- what the fields of a class are: 0 int or boolean, 1 long, 2 a reference -/
def fTab : Nat → List Nat := fun c => match c with
  | 0 => [2, 2, 0, 0]
  | 1 => [0, 0, 0]
  | 2 => [0, 0, 0, 2, 0]
  | 3 => [0, 2, 2, 2, 2]
  | 4 => [0, 2, 2, 2, 2, 2, 2, 2, 2, 2, 2, 2, 2, 2, 2, 2, 0, 0, 0]
  | 5 => [0, 0, 0, 0, 0]
  | 6 => [0, 0, 0, 0, 0, 0, 0, 0, 0]
  | 7 => [0, 0, 0, 0, 2, 2, 2, 0]
  | 8 => [2, 2]
  | 9 => [2, 2, 2, 2, 2, 0, 2, 2]
  | 10 => [2, 2, 2, 2, 2, 2, 2, 2, 2, 2, 0]
  | _ => [2, 2, 2, 0, 2, 0, 2, 2, 2, 2, 2, 2, 0, 2, 2, 2, 2, 2, 2, 2, 2, 2, 2, 2, 2, 2, 2, 2, 2, 2, 2, 2, 2, 2, 0, 0, 0, 1, 0, 0, 2, 0, 2, 2, 2, 0, 2, 2, 2, 2, 2]
def fN (c : Nat) : Nat := (fTab c).length
def fTy (c k : Nat) : Nat := (fTab c).getD k 0
/-- what all share: class numbers and slots, array classes by kind, the first new address, the text constants and their bytes -/
abbrev GL : Type := va_G × (Nat → ClassId) × Nat × (Nat → Nat) × (Nat → Nat)
def gD (G : GL) : va_G := G.1
def gC (G : GL) : Nat → ClassId := G.2.1
def gZ (G : GL) : Nat := G.2.2.1
def gK (G : GL) : Nat → Nat := G.2.2.2.1
def gV (G : GL) : Nat → Nat := G.2.2.2.2
def gA (G : GL) : Nat → Prop := fun q => gZ G ≤ q
def fv (G : GL) (μ : Mem) (a c k : Nat) : Value := match fTy c k with
  | 0 => .int (mI μ a k)
  | 1 => .long (mJ μ a k)
  | _ => va_rf ((mR μ a k).map (gZ G + ·))
def cel (G : GL) (μ : Mem) (a : Nat) : va_E := match mS μ a with
  | (0, c) => .inr (c, (List.range (fN c)).map (fv G μ a c))
  | (1, n) => .inl (gC G 1, n, .inl (mI μ a))
  | (2, n) => .inl (gC G 2, n, .inr (.inl (mJ μ a)))
  | (3, n) => .inl (gC G 3, n, .inl (mI μ a))
  | (k, n) => .inl (gC G k, n, .inr (.inr (.inr (.inr (fun j => (mR μ a j).map (gZ G + ·))))))
def wsOf (G : GL) (μ : Mem) : va_W := (List.range (mN μ)).map (fun a => (gZ G + a, cel G μ a))
/-- the heap holds the memory -/
def Wd (G : GL) (μ : Mem) (H : Heap) : Prop := va_P (gD G) vwCl (wsOf G μ) H
def tysOf (G : GL) : List (ClassId × FieldType) := [(gC G 1, .int), (gC G 2, .long), (gC G 3, .boolean), (gC G 4, .object RX3), (gC G 5, .object RX5), (gC G 6, .object RX6), (gC G 7, .array .int)]
theorem ws_at {G : GL} {μ : Mem} {a : Nat} (h : a < mN μ) : (wsOf G μ)[a]? = some (gZ G + a, cel G μ a) := by
  simp [wsOf, List.getElem?_map, List.getElem?_range h]
theorem ws_D (G : GL) (μ : Mem) : va_D (gA G) (wsOf G μ) := by
  have h : ∀ (k : Nat) (q : Nat × va_E), (wsOf G μ)[k]? = some q → q.1 = gZ G + k := by
    intro k q hk
    have hl : k < mN μ := by
      have := (List.getElem?_eq_some_iff.mp hk).1
      simpa [wsOf] using this
    rw [ws_at hl] at hk
    cases hk
    rfl
  refine ⟨fun i j p q hi hj e => ?_, fun k q hk => ?_⟩
  · rw [h i p hi, h j q hj] at e
    omega
  · show gZ G ≤ q.1
    rw [h k q hk]
    omega
theorem ws_set {G : GL} {μ μ' : Mem} {a : Nat} (hn : mN μ' = mN μ) (h : ∀ b, b ≠ a → cel G μ' b = cel G μ b) : (wsOf G μ).set a (gZ G + a, cel G μ' a) = wsOf G μ' := by
  apply List.ext_getElem?
  intro i
  rw [List.getElem?_set]
  by_cases e : a = i
  · subst e
    by_cases hl : a < mN μ
    · rw [if_pos rfl, if_pos (by simpa [wsOf] using hl), ws_at (by rw [hn]; exact hl)]
    · rw [if_pos rfl, if_neg (by simpa [wsOf] using hl)]
      rw [List.getElem?_eq_none (by simpa [wsOf, hn] using hl)]
  · rw [if_neg e]
    by_cases hl : i < mN μ
    · rw [ws_at hl, ws_at (by rw [hn]; exact hl), h i (fun q => e q.symm)]
    · rw [List.getElem?_eq_none (by simpa [wsOf] using hl), List.getElem?_eq_none (by simpa [wsOf, hn] using hl)]
theorem ws_push {G : GL} {μ : Mem} {sh : Nat × Nat} : wsOf G (mNew μ sh) = wsOf G μ ++ [(gZ G + mN μ, cel G (mNew μ sh) (mN μ))] := by
  have hc : ∀ b, b < mN μ → cel G (mNew μ sh) b = cel G μ b := by
    intro b hb
    have hne : b ≠ μ.1 := Nat.ne_of_lt hb
    have e1 : mS (mNew μ sh) b = mS μ b := if_neg hne
    have e2 : mI (mNew μ sh) b = mI μ b := if_neg hne
    have e3 : mJ (mNew μ sh) b = mJ μ b := if_neg hne
    have e4 : mR (mNew μ sh) b = mR μ b := if_neg hne
    have e5 : fv G (mNew μ sh) b = fv G μ b := by
      funext c k
      simp only [fv, e2, e3, e4]
    simp only [cel, e1, e2, e3, e4, e5]
  have hN : mN (mNew μ sh) = mN μ + 1 := rfl
  simp only [wsOf, hN, List.range_succ, List.map_append, List.map_cons, List.map_nil]
  congr 1
  apply List.map_congr_left
  intro b hb
  rw [hc b (List.mem_range.mp hb)]
end
section
/-! ===== operations on the memory, as partial functions ===== -/
def gI (c k a : Nat) (μ : Mem) : Option Int32 := if a < mN μ ∧ mS μ a = (0, c) then some (mI μ a k) else none
def gJ (c k a : Nat) (μ : Mem) : Option Int64 := if a < mN μ ∧ mS μ a = (0, c) then some (mJ μ a k) else none
def gR (c k a : Nat) (μ : Mem) : Option Nat := if a < mN μ ∧ mS μ a = (0, c) then mR μ a k else none
def pI (c k a : Nat) (x : Int32) (μ : Mem) : Option Mem := if a < mN μ ∧ mS μ a = (0, c) then some (wI μ a k x) else none
def pZ (c k a : Nat) (x : Int32) (μ : Mem) : Option Mem := if (a < mN μ ∧ mS μ a = (0, c)) ∧ (x = 0 ∨ x = 1) then some (wI μ a k x) else none
def pJ (c k a : Nat) (x : Int64) (μ : Mem) : Option Mem := if a < mN μ ∧ mS μ a = (0, c) then some (wJ μ a k x) else none
def pR (c k a : Nat) (x : Nat) (μ : Mem) : Option Mem := if a < mN μ ∧ mS μ a = (0, c) then some (wR μ a k x) else none
def aOk (kd a : Nat) (i : Int32) (μ : Mem) : Prop := a < mN μ ∧ (mS μ a).1 = kd ∧ ¬ (i < 0 ∨ (mS μ a).2 ≤ i.toNatClampNeg)
def aI (a : Nat) (i : Int32) (μ : Mem) : Option Int32 := if a < mN μ ∧ (mS μ a).1 = 1 ∧ ¬ (i < 0 ∨ (mS μ a).2 ≤ i.toNatClampNeg) then some (mI μ a i.toNatClampNeg) else none
def aJ (a : Nat) (i : Int32) (μ : Mem) : Option Int64 := if a < mN μ ∧ (mS μ a).1 = 2 ∧ ¬ (i < 0 ∨ (mS μ a).2 ≤ i.toNatClampNeg) then some (mJ μ a i.toNatClampNeg) else none
def aZ (a : Nat) (i : Int32) (μ : Mem) : Option Int32 := if a < mN μ ∧ (mS μ a).1 = 3 ∧ ¬ (i < 0 ∨ (mS μ a).2 ≤ i.toNatClampNeg) then some (mI μ a i.toNatClampNeg) else none
def aR (kd a : Nat) (i : Int32) (μ : Mem) : Option Nat := if a < mN μ ∧ (mS μ a).1 = kd ∧ ¬ (i < 0 ∨ (mS μ a).2 ≤ i.toNatClampNeg) then mR μ a i.toNatClampNeg else none
def sI (a : Nat) (i : Int32) (x : Int32) (μ : Mem) : Option Mem := if a < mN μ ∧ (mS μ a).1 = 1 ∧ ¬ (i < 0 ∨ (mS μ a).2 ≤ i.toNatClampNeg) then some (wI μ a i.toNatClampNeg x) else none
def sJ (a : Nat) (i : Int32) (x : Int64) (μ : Mem) : Option Mem := if a < mN μ ∧ (mS μ a).1 = 2 ∧ ¬ (i < 0 ∨ (mS μ a).2 ≤ i.toNatClampNeg) then some (wJ μ a i.toNatClampNeg x) else none
def sZ (a : Nat) (i : Int32) (x : Int32) (μ : Mem) : Option Mem := if (a < mN μ ∧ (mS μ a).1 = 3 ∧ ¬ (i < 0 ∨ (mS μ a).2 ≤ i.toNatClampNeg)) ∧ (x = 0 ∨ x = 1) then some (wI μ a i.toNatClampNeg x) else none
def sR (kd c a : Nat) (i : Int32) (b : Nat) (μ : Mem) : Option Mem := if (a < mN μ ∧ (mS μ a).1 = kd ∧ ¬ (i < 0 ∨ (mS μ a).2 ≤ i.toNatClampNeg)) ∧ (b < mN μ ∧ mS μ b = (0, c)) then some (wR μ a i.toNatClampNeg b) else none
def aL (a : Nat) (μ : Mem) : Option Int32 := if a < mN μ ∧ (mS μ a).1 ≠ 0 ∧ (mS μ a).1 ≤ 7 then some (Int32.ofNat (mS μ a).2) else none
def dvI (x y : Int32) : Option Int32 := if y = 0 then none else some (x / y)
def dvJ (x y : Int64) : Option Int64 := if y = 0 then none else some (x / y)
def rmJ (x y : Int64) : Option Int64 := if y = 0 then none else some (x - x / y * y)
/-! ===== the words that all methods share ===== -/
def gw : List Cond := lw_tbl.filter goodWord
def isNest : Cond → Bool
  | .methodLinkNest _ _ _ _ => true
  | _ => false
def nestW : List Cond := lw_tbl.filter isNest
theorem gw_good : ∀ w ∈ gw, w ∈ lw_tbl ∧ ((w.onTables && w.keeps) = true ∨ ∃ ty, w = .arrayClass ty) := fun w h => ⟨(List.mem_filter.mp h).1, good_of_word (List.mem_filter.mp h).2⟩
def mws (y : MethodName) (cc : ByteArray) (nL : Nat) (ret : Option FieldType) : List Cond := Cond.code y cc nL ret :: gw
theorem mws_good {y y' : MethodName} {cc cc' : ByteArray} {nL nL' : Nat} {ret ret' : Option FieldType} (h : Cond.code y' cc' nL' ret' ∈ gw) : GoodIn (mws y cc nL ret) (mws y' cc' nL' ret') := by
  intro w hw
  rcases List.mem_cons.mp hw with rfl | hw
  · exact ⟨List.mem_cons_of_mem _ h, (gw_good _ h).2⟩
  · exact ⟨List.mem_cons_of_mem _ hw, (gw_good _ hw).2⟩
/-- where the nine text constants of the class stand in its pool, and their texts -/
def sIx : List Nat := [40, 45, 53, 50, 56, 77, 79, 81, 83]
/-! ===== what holds of the tables all the time ===== -/
def KK (G : GL) (U : State) : Prop := va_K (gD G) vwCl (tysOf G) U ∧ (∀ w ∈ nestW, va_Nw w U)
abbrev CX : Type := Program × Launch × Env × Room × State × MethodId × Array Value × List Frame × Method × Code × (State → Prop)
abbrev xP (X : CX) : Program := X.1
abbrev xL (X : CX) : Launch := X.2.1
abbrev xE (X : CX) : Env := X.2.2.1
abbrev xR (X : CX) : Room := X.2.2.2.1
abbrev xS (X : CX) : State := X.2.2.2.2.1
abbrev xM (X : CX) : MethodId := X.2.2.2.2.2.1
abbrev xA (X : CX) : Array Value := X.2.2.2.2.2.2.1
abbrev xB (X : CX) : List Frame := X.2.2.2.2.2.2.2.1
abbrev xT (X : CX) : Method := X.2.2.2.2.2.2.2.2.1
abbrev xC (X : CX) : Code := X.2.2.2.2.2.2.2.2.2.1
abbrev xQ (X : CX) : State → Prop := X.2.2.2.2.2.2.2.2.2.2
/-- the machine inside a method: its code, its words, its room -/
def Ctx (G : GL) (X : CX) (cc : ByteArray) (nL : Nat) (own : String) (rm : Room) : Prop :=
  (xP X).tables.exec = Jvm.exec ∧ (xC X).code = cc ∧ (xC X).maxLocals = nL ∧ (xS X).vm.findClass own = some (xM X).cls ∧ (∀ w ∈ gw, w.before (xA X) (xS X) = true) ∧ KK G (xS X) ∧ xR X = rm ∧ gZ G ≤ (xS X).heap.size
/-- from this frame, with this memory, the machine comes to Q -/
def AW (G : GL) (nL : Nat) (X : CX) (cells slots pc : Nat) (L : List (Nat × Value)) (st : List Value) (μ : Mem) : Prop :=
  ∀ (H : Heap) (locs : List Loc) (ls : Array Slot), lv_has ls nL L → Wd G μ H → va_S (gA G) (xS X).heap H locs → W (xP X) (xL X) (xE X) (xR X) (xS X) (xM X) (xA X) (xB X) (xT X) (xC X) H locs cells slots (xQ X) (F0 (xM X) pc ls st)
section AWR
variable {G : GL} {X : CX} {cc : ByteArray} {nL : Nat} {own : String} {rm : Room} {cells slots pc : Nat} {L L' : List (Nat × Value)} {st : List Value} {μ μ' : Mem}
theorem aw_sub (ks : List Nat) (h : lv_pick L ks = L') (k : AW G nL X cells slots pc L' st μ) : AW G nL X cells slots pc L st μ := fun H locs ls a b e => k H locs ls (lv_sub a ks h) b e
theorem aw_topi {x y : Int32} (h : x = y) (k : AW G nL X cells slots pc L (.int y :: st) μ) : AW G nL X cells slots pc L (.int x :: st) μ := h ▸ k
theorem aw_topj {x y : Int64} (h : x = y) (k : AW G nL X cells slots pc L (.long y :: st) μ) : AW G nL X cells slots pc L (.long x :: st) μ := h ▸ k
theorem aw_iconst (C : Ctx G X cc nL own rm) {n : Int} (v : Int32) (d : decode cc pc = .ok (.iconst n, 1)) (hv : Int32.ofInt n = v) (k : AW G nL X cells slots (pc + 1) L (.int v :: st) μ) : AW G nL X cells slots pc L st μ := fun H locs ls a b e => lv_iconst C.1 C.2.1 d hv (k H locs ls a b e)
theorem aw_bipush (C : Ctx G X cc nL own rm) {n : Int} (v : Int32) (d : decode cc pc = .ok (.bipush n, 2)) (hv : (Int8.ofInt n).toInt32 = v) (k : AW G nL X cells slots (pc + 2) L (.int v :: st) μ) : AW G nL X cells slots pc L st μ := fun H locs ls a b e => lv_bipush C.1 C.2.1 d hv (k H locs ls a b e)
theorem aw_sipush (C : Ctx G X cc nL own rm) {n : Int} (v : Int32) (d : decode cc pc = .ok (.sipush n, 3)) (hv : (Int16.ofInt n).toInt32 = v) (k : AW G nL X cells slots (pc + 3) L (.int v :: st) μ) : AW G nL X cells slots pc L st μ := fun H locs ls a b e => lv_sipush C.1 C.2.1 d hv (k H locs ls a b e)
theorem aw_lconst (C : Ctx G X cc nL own rm) {n : Fin 2} (v : Int64) (d : decode cc pc = .ok (.lconst n, 1)) (hv : Int64.ofNat (n : Nat) = v) (k : AW G nL X cells slots (pc + 1) L (.long v :: st) μ) : AW G nL X cells slots pc L st μ := fun H locs ls a b e => lv_lconst C.1 C.2.1 d hv (k H locs ls a b e)
theorem aw_ldc (C : Ctx G X cc nL own rm) {i : Nat} {v : Int32} (hw : Cond.constant own i v ∈ gw) (d : decode cc pc = .ok (.ldc i, 2)) (k : AW G nL X cells slots (pc + 2) L (.int v :: st) μ) : AW G nL X cells slots pc L st μ := fun H locs ls a b e => lv_ldc C.1 C.2.1 C.2.2.2.1 (C.2.2.2.2.1 _ hw) d (k H locs ls a b e)
theorem aw_ldcw (C : Ctx G X cc nL own rm) {i : Nat} {v : Int32} (hw : Cond.constant own i v ∈ gw) (d : decode cc pc = .ok (.ldc_w i, 3)) (k : AW G nL X cells slots (pc + 3) L (.int v :: st) μ) : AW G nL X cells slots pc L st μ := fun H locs ls a b e => lv_ldcw C.1 C.2.1 C.2.2.2.1 (C.2.2.2.2.1 _ hw) d (k H locs ls a b e)
theorem aw_ldc2 (C : Ctx G X cc nL own rm) {i : Nat} {v : Int64} (hw : Cond.constantLong own i v ∈ gw) (d : decode cc pc = .ok (.ldc2_w i, 3)) (k : AW G nL X cells slots (pc + 3) L (.long v :: st) μ) : AW G nL X cells slots pc L st μ := fun H locs ls a b e => lv_ldc2 C.1 C.2.1 C.2.2.2.1 (C.2.2.2.2.1 _ hw) d (k H locs ls a b e)
theorem aw_iload_n (C : Ctx G X cc nL own rm) {n : Fin 4} {i : Nat} {x : Int32} (j : Nat) (d : decode cc pc = .ok (.iload_n n, 1)) (hi : (n : Nat) = i) (hj : L[j]? = some (i, .int x)) (k : AW G nL X cells slots (pc + 1) L (.int x :: st) μ) : AW G nL X cells slots pc L st μ := fun H locs ls a b e => lv_iload_n C.1 C.2.1 d hi (lv_at a j hj) (k H locs ls a b e)
theorem aw_iload (C : Ctx G X cc nL own rm) {i : Nat} {x : Int32} (j : Nat) (d : decode cc pc = .ok (.iload i, 2)) (hj : L[j]? = some (i, .int x)) (k : AW G nL X cells slots (pc + 2) L (.int x :: st) μ) : AW G nL X cells slots pc L st μ := fun H locs ls a b e => lv_iload C.1 C.2.1 d (lv_at a j hj) (k H locs ls a b e)
theorem aw_lload_n (C : Ctx G X cc nL own rm) {n : Fin 4} {i : Nat} {x : Int64} (j : Nat) (d : decode cc pc = .ok (.lload_n n, 1)) (hi : (n : Nat) = i) (hj : L[j]? = some (i, .long x)) (k : AW G nL X cells slots (pc + 1) L (.long x :: st) μ) : AW G nL X cells slots pc L st μ := fun H locs ls a b e => lv_lload_n C.1 C.2.1 d hi (lv_at a j hj) (k H locs ls a b e)
theorem aw_lload (C : Ctx G X cc nL own rm) {i : Nat} {x : Int64} (j : Nat) (d : decode cc pc = .ok (.lload i, 2)) (hj : L[j]? = some (i, .long x)) (k : AW G nL X cells slots (pc + 2) L (.long x :: st) μ) : AW G nL X cells slots pc L st μ := fun H locs ls a b e => lv_lload C.1 C.2.1 d (lv_at a j hj) (k H locs ls a b e)
theorem aw_aload_n (C : Ctx G X cc nL own rm) {n : Fin 4} {i : Nat} {x : Nat} (j : Nat) (d : decode cc pc = .ok (.aload_n n, 1)) (hi : (n : Nat) = i) (hj : L[j]? = some (i, .ref x)) (k : AW G nL X cells slots (pc + 1) L (.ref x :: st) μ) : AW G nL X cells slots pc L st μ := fun H locs ls a b e => lv_aload_n C.1 C.2.1 d hi (lv_at a j hj) (k H locs ls a b e)
theorem aw_aload (C : Ctx G X cc nL own rm) {i : Nat} {x : Nat} (j : Nat) (d : decode cc pc = .ok (.aload i, 2)) (hj : L[j]? = some (i, .ref x)) (k : AW G nL X cells slots (pc + 2) L (.ref x :: st) μ) : AW G nL X cells slots pc L st μ := fun H locs ls a b e => lv_aload C.1 C.2.1 d (lv_at a j hj) (k H locs ls a b e)
theorem aw_istore_n (C : Ctx G X cc nL own rm) {n : Fin 4} {i : Nat} {x : Int32} (L' : List (Nat × Value)) (d : decode cc pc = .ok (.istore_n n, 1)) (hi : (n : Nat) = i) (hn : i < nL) (hl : (i, Value.int x) :: L.filter (fun q => !(q.1 == i) && !(q.1 + 1 == i && q.2.category == 2)) = L') (k : AW G nL X cells slots (pc + 1) L' st μ) : AW G nL X cells slots pc L (.int x :: st) μ := fun H locs ls a b e => lv_istore_n C.1 C.2.1 d hi a hn hl (fun ls' a' => k H locs ls' a' b e)
theorem aw_istore (C : Ctx G X cc nL own rm) {i : Nat} {x : Int32} (L' : List (Nat × Value)) (d : decode cc pc = .ok (.istore i, 2)) (hn : i < nL) (hl : (i, Value.int x) :: L.filter (fun q => !(q.1 == i) && !(q.1 + 1 == i && q.2.category == 2)) = L') (k : AW G nL X cells slots (pc + 2) L' st μ) : AW G nL X cells slots pc L (.int x :: st) μ := fun H locs ls a b e => lv_istore C.1 C.2.1 d a hn hl (fun ls' a' => k H locs ls' a' b e)
theorem aw_lstore_n (C : Ctx G X cc nL own rm) {n : Fin 4} {i : Nat} {x : Int64} (L' : List (Nat × Value)) (d : decode cc pc = .ok (.lstore_n n, 1)) (hi : (n : Nat) = i) (hn : i + 1 < nL) (hl : (i, Value.long x) :: L.filter (fun q => !(q.1 == i) && (!(q.1 == i + 1) && !(q.1 + 1 == i && q.2.category == 2))) = L') (k : AW G nL X cells slots (pc + 1) L' st μ) : AW G nL X cells slots pc L (.long x :: st) μ := fun H locs ls a b e => lv_lstore_n C.1 C.2.1 d hi a hn hl (fun ls' a' => k H locs ls' a' b e)
theorem aw_lstore (C : Ctx G X cc nL own rm) {i : Nat} {x : Int64} (L' : List (Nat × Value)) (d : decode cc pc = .ok (.lstore i, 2)) (hn : i + 1 < nL) (hl : (i, Value.long x) :: L.filter (fun q => !(q.1 == i) && (!(q.1 == i + 1) && !(q.1 + 1 == i && q.2.category == 2))) = L') (k : AW G nL X cells slots (pc + 2) L' st μ) : AW G nL X cells slots pc L (.long x :: st) μ := fun H locs ls a b e => lv_lstore C.1 C.2.1 d a hn hl (fun ls' a' => k H locs ls' a' b e)
theorem aw_astore_n (C : Ctx G X cc nL own rm) {n : Fin 4} {i : Nat} {x : Nat} (L' : List (Nat × Value)) (d : decode cc pc = .ok (.astore_n n, 1)) (hi : (n : Nat) = i) (hn : i < nL) (hl : (i, Value.ref x) :: L.filter (fun q => !(q.1 == i) && !(q.1 + 1 == i && q.2.category == 2)) = L') (k : AW G nL X cells slots (pc + 1) L' st μ) : AW G nL X cells slots pc L (.ref x :: st) μ := fun H locs ls a b e => lv_astore_n C.1 C.2.1 d hi a hn hl (fun ls' a' => k H locs ls' a' b e)
theorem aw_astore (C : Ctx G X cc nL own rm) {i : Nat} {x : Nat} (L' : List (Nat × Value)) (d : decode cc pc = .ok (.astore i, 2)) (hn : i < nL) (hl : (i, Value.ref x) :: L.filter (fun q => !(q.1 == i) && !(q.1 + 1 == i && q.2.category == 2)) = L') (k : AW G nL X cells slots (pc + 2) L' st μ) : AW G nL X cells slots pc L (.ref x :: st) μ := fun H locs ls a b e => lv_astore C.1 C.2.1 d a hn hl (fun ls' a' => k H locs ls' a' b e)
theorem aw_iinc (C : Ctx G X cc nL own rm) {i : Nat} {n : Int} {x : Int32} (v : Int32) (j : Nat) (L' : List (Nat × Value)) (d : decode cc pc = .ok (.iinc i n, 3)) (hj : L[j]? = some (i, .int x)) (hv : x + Int32.ofInt n = v) (hn : i < nL) (hl : (i, Value.int v) :: L.filter (fun q => !(q.1 == i) && !(q.1 + 1 == i && q.2.category == 2)) = L') (k : AW G nL X cells slots (pc + 3) L' st μ) : AW G nL X cells slots pc L st μ := fun H locs ls a b e => lv_iinc C.1 C.2.1 d a hj hv hn hl (fun ls' a' => k H locs ls' a' b e)
theorem aw_iadd (C : Ctx G X cc nL own rm) {x y : Int32} (d : decode cc pc = .ok (.iadd, 1)) (k : AW G nL X cells slots (pc + 1) L (.int (x + y) :: st) μ) : AW G nL X cells slots pc L (.int y :: .int x :: st) μ := fun H locs ls a b e => lv_iadd C.1 C.2.1 d (k H locs ls a b e)
theorem aw_isub (C : Ctx G X cc nL own rm) {x y : Int32} (d : decode cc pc = .ok (.isub, 1)) (k : AW G nL X cells slots (pc + 1) L (.int (x - y) :: st) μ) : AW G nL X cells slots pc L (.int y :: .int x :: st) μ := fun H locs ls a b e => lv_isub C.1 C.2.1 d (k H locs ls a b e)
theorem aw_imul (C : Ctx G X cc nL own rm) {x y : Int32} (d : decode cc pc = .ok (.imul, 1)) (k : AW G nL X cells slots (pc + 1) L (.int (x * y) :: st) μ) : AW G nL X cells slots pc L (.int y :: .int x :: st) μ := fun H locs ls a b e => lv_imul C.1 C.2.1 d (k H locs ls a b e)
theorem aw_iand (C : Ctx G X cc nL own rm) {x y : Int32} (d : decode cc pc = .ok (.iand, 1)) (k : AW G nL X cells slots (pc + 1) L (.int (x &&& y) :: st) μ) : AW G nL X cells slots pc L (.int y :: .int x :: st) μ := fun H locs ls a b e => lv_iand C.1 C.2.1 d (k H locs ls a b e)
theorem aw_ior (C : Ctx G X cc nL own rm) {x y : Int32} (d : decode cc pc = .ok (.ior, 1)) (k : AW G nL X cells slots (pc + 1) L (.int (x ||| y) :: st) μ) : AW G nL X cells slots pc L (.int y :: .int x :: st) μ := fun H locs ls a b e => lv_ior C.1 C.2.1 d (k H locs ls a b e)
theorem aw_ixor (C : Ctx G X cc nL own rm) {x y : Int32} (d : decode cc pc = .ok (.ixor, 1)) (k : AW G nL X cells slots (pc + 1) L (.int (x ^^^ y) :: st) μ) : AW G nL X cells slots pc L (.int y :: .int x :: st) μ := fun H locs ls a b e => lv_ixor C.1 C.2.1 d (k H locs ls a b e)
theorem aw_ishl (C : Ctx G X cc nL own rm) {x y : Int32} (d : decode cc pc = .ok (.ishl, 1)) (k : AW G nL X cells slots (pc + 1) L (.int (x <<< (y &&& 31)) :: st) μ) : AW G nL X cells slots pc L (.int y :: .int x :: st) μ := fun H locs ls a b e => lv_ishl C.1 C.2.1 d (k H locs ls a b e)
theorem aw_ishr (C : Ctx G X cc nL own rm) {x y : Int32} (d : decode cc pc = .ok (.ishr, 1)) (k : AW G nL X cells slots (pc + 1) L (.int (x >>> (y &&& 31)) :: st) μ) : AW G nL X cells slots pc L (.int y :: .int x :: st) μ := fun H locs ls a b e => lv_ishr C.1 C.2.1 d (k H locs ls a b e)
theorem aw_iushr (C : Ctx G X cc nL own rm) {x y : Int32} (d : decode cc pc = .ok (.iushr, 1)) (k : AW G nL X cells slots (pc + 1) L (.int ((x.toUInt32 >>> (y.toUInt32 &&& Int32.toUInt32 31)).toInt32) :: st) μ) : AW G nL X cells slots pc L (.int y :: .int x :: st) μ := fun H locs ls a b e => lv_iushr C.1 C.2.1 d (by first | exact rfl | exact (k H locs ls a b e)) (k H locs ls a b e)
theorem aw_ladd (C : Ctx G X cc nL own rm) {x y : Int64} (d : decode cc pc = .ok (.ladd, 1)) (k : AW G nL X cells slots (pc + 1) L (.long (x + y) :: st) μ) : AW G nL X cells slots pc L (.long y :: .long x :: st) μ := fun H locs ls a b e => lv_ladd C.1 C.2.1 d (k H locs ls a b e)
theorem aw_lsub (C : Ctx G X cc nL own rm) {x y : Int64} (d : decode cc pc = .ok (.lsub, 1)) (k : AW G nL X cells slots (pc + 1) L (.long (x - y) :: st) μ) : AW G nL X cells slots pc L (.long y :: .long x :: st) μ := fun H locs ls a b e => lv_lsub C.1 C.2.1 d (k H locs ls a b e)
theorem aw_lmul (C : Ctx G X cc nL own rm) {x y : Int64} (d : decode cc pc = .ok (.lmul, 1)) (k : AW G nL X cells slots (pc + 1) L (.long (x * y) :: st) μ) : AW G nL X cells slots pc L (.long y :: .long x :: st) μ := fun H locs ls a b e => lv_lmul C.1 C.2.1 d (k H locs ls a b e)
theorem aw_land (C : Ctx G X cc nL own rm) {x y : Int64} (d : decode cc pc = .ok (.land, 1)) (k : AW G nL X cells slots (pc + 1) L (.long (x &&& y) :: st) μ) : AW G nL X cells slots pc L (.long y :: .long x :: st) μ := fun H locs ls a b e => lv_land C.1 C.2.1 d (k H locs ls a b e)
theorem aw_lor (C : Ctx G X cc nL own rm) {x y : Int64} (d : decode cc pc = .ok (.lor, 1)) (k : AW G nL X cells slots (pc + 1) L (.long (x ||| y) :: st) μ) : AW G nL X cells slots pc L (.long y :: .long x :: st) μ := fun H locs ls a b e => lv_lor C.1 C.2.1 d (k H locs ls a b e)
theorem aw_lshl (C : Ctx G X cc nL own rm) {x : Int64} {y : Int32} (d : decode cc pc = .ok (.lshl, 1)) (k : AW G nL X cells slots (pc + 1) L (.long (x <<< (y.toInt64 &&& 63)) :: st) μ) : AW G nL X cells slots pc L (.int y :: .long x :: st) μ := fun H locs ls a b e => lv_lshl C.1 C.2.1 d rfl (k H locs ls a b e)
theorem aw_lshr (C : Ctx G X cc nL own rm) {x : Int64} {y : Int32} (d : decode cc pc = .ok (.lshr, 1)) (k : AW G nL X cells slots (pc + 1) L (.long (x >>> (y.toInt64 &&& 63)) :: st) μ) : AW G nL X cells slots pc L (.int y :: .long x :: st) μ := fun H locs ls a b e => lv_lshr C.1 C.2.1 d rfl (k H locs ls a b e)
theorem aw_lushr (C : Ctx G X cc nL own rm) {x : Int64} {y : Int32} (d : decode cc pc = .ok (.lushr, 1)) (k : AW G nL X cells slots (pc + 1) L (.long ((x.toUInt64 >>> (y.toInt64.toUInt64 &&& Int64.toUInt64 63)).toInt64) :: st) μ) : AW G nL X cells slots pc L (.int y :: .long x :: st) μ := fun H locs ls a b e => lv_lushr C.1 C.2.1 d rfl (k H locs ls a b e)
theorem aw_i2l (C : Ctx G X cc nL own rm) {x : Int32} (d : decode cc pc = .ok (.i2l, 1)) (k : AW G nL X cells slots (pc + 1) L (.long (x.toInt64) :: st) μ) : AW G nL X cells slots pc L (.int x :: st) μ := fun H locs ls a b e => lv_i2l C.1 C.2.1 d rfl (k H locs ls a b e)
theorem aw_l2i (C : Ctx G X cc nL own rm) {x : Int64} (d : decode cc pc = .ok (.l2i, 1)) (k : AW G nL X cells slots (pc + 1) L (.int (x.toInt32) :: st) μ) : AW G nL X cells slots pc L (.long x :: st) μ := fun H locs ls a b e => lv_l2i C.1 C.2.1 d rfl (k H locs ls a b e)
theorem aw_idiv (C : Ctx G X cc nL own rm) {x y v : Int32} (h : dvI x y = some v) (d : decode cc pc = .ok (.idiv, 1)) (k : AW G nL X cells slots (pc + 1) L (.int v :: st) μ) : AW G nL X cells slots pc L (.int y :: .int x :: st) μ := by
  unfold dvI at h
  split at h
  · cases h
  · rename_i hy
    cases h
    exact fun H locs ls a b e => lv_idiv C.1 C.2.1 d hy (k H locs ls a b e)
theorem aw_ldiv (C : Ctx G X cc nL own rm) {x y v : Int64} (h : dvJ x y = some v) (d : decode cc pc = .ok (.ldiv, 1)) (k : AW G nL X cells slots (pc + 1) L (.long v :: st) μ) : AW G nL X cells slots pc L (.long y :: .long x :: st) μ := by
  unfold dvJ at h
  split at h
  · cases h
  · rename_i hy
    cases h
    exact fun H locs ls a b e => lv_ldiv C.1 C.2.1 d hy (k H locs ls a b e)
theorem aw_lrem (C : Ctx G X cc nL own rm) {x y v : Int64} (h : rmJ x y = some v) (d : decode cc pc = .ok (.lrem, 1)) (k : AW G nL X cells slots (pc + 1) L (.long v :: st) μ) : AW G nL X cells slots pc L (.long y :: .long x :: st) μ := by
  unfold rmJ at h
  split at h
  · cases h
  · rename_i hy
    cases h
    exact fun H locs ls a b e => lv_lrem C.1 C.2.1 d hy (k H locs ls a b e)
theorem aw_dup (C : Ctx G X cc nL own rm) {v : Value} (d : decode cc pc = .ok (.dup, 1)) (hv : v.category = 1) (k : AW G nL X cells slots (pc + 1) L (v :: v :: st) μ) : AW G nL X cells slots pc L (v :: st) μ := fun H locs ls a b e => lv_dup C.1 C.2.1 d hv (k H locs ls a b e)
theorem aw_dup2 (C : Ctx G X cc nL own rm) {v w : Value} (d : decode cc pc = .ok (.dup2, 1)) (hv : v.category = 1) (hw : w.category = 1) (k : AW G nL X cells slots (pc + 1) L (v :: w :: v :: w :: st) μ) : AW G nL X cells slots pc L (v :: w :: st) μ := fun H locs ls a b e => lv_dup2_11 C.1 C.2.1 d hv hw (k H locs ls a b e)
theorem aw_pop (C : Ctx G X cc nL own rm) {v : Value} (d : decode cc pc = .ok (.pop, 1)) (hv : v.category = 1) (k : AW G nL X cells slots (pc + 1) L (st) μ) : AW G nL X cells slots pc L (v :: st) μ := fun H locs ls a b e => lv_pop C.1 C.2.1 d hv (k H locs ls a b e)
theorem aw_goto (C : Ctx G X cc nL own rm) {off : Int} (tgt : Nat) (d : decode cc pc = .ok (.goto off, 3)) (ht : (pc : Int) + off = (tgt : Int)) (k : AW G nL X cells slots tgt L (st) μ) : AW G nL X cells slots pc L (st) μ := fun H locs ls a b e => lv_goto C.1 C.2.1 d ht (k H locs ls a b e)
theorem aw_icmp_eq (C : Ctx G X cc nL own rm) {x y : Int32} {off : Int} (tgt : Nat) (d : decode cc pc = .ok (.if_icmp .eq off, 3)) (ht : (pc : Int) + off = (tgt : Int)) (kt : x = y → AW G nL X cells slots tgt L (st) μ) (kf : ¬ x = y → AW G nL X cells slots (pc + 3) L (st) μ) : AW G nL X cells slots pc L (.int y :: .int x :: st) μ := fun H locs ls a b e => lv_icmp_eq C.1 C.2.1 d ht (fun c => kt c H locs ls a b e) (fun c => kf c H locs ls a b e)
theorem aw_if_eq (C : Ctx G X cc nL own rm) {x : Int32} {off : Int} (tgt : Nat) (d : decode cc pc = .ok (.ifCond .eq off, 3)) (ht : (pc : Int) + off = (tgt : Int)) (kt : x = 0 → AW G nL X cells slots tgt L (st) μ) (kf : ¬ x = 0 → AW G nL X cells slots (pc + 3) L (st) μ) : AW G nL X cells slots pc L (.int x :: st) μ := fun H locs ls a b e => lv_if_eq C.1 C.2.1 d ht (fun c => kt c H locs ls a b e) (fun c => kf c H locs ls a b e)
theorem aw_icmp_ne (C : Ctx G X cc nL own rm) {x y : Int32} {off : Int} (tgt : Nat) (d : decode cc pc = .ok (.if_icmp .ne off, 3)) (ht : (pc : Int) + off = (tgt : Int)) (kt : ¬ x = y → AW G nL X cells slots tgt L (st) μ) (kf : x = y → AW G nL X cells slots (pc + 3) L (st) μ) : AW G nL X cells slots pc L (.int y :: .int x :: st) μ := fun H locs ls a b e => lv_icmp_ne C.1 C.2.1 d ht (fun c => kt c H locs ls a b e) (fun c => kf (by first | exact c | exact Classical.not_not.mp c) H locs ls a b e)
theorem aw_if_ne (C : Ctx G X cc nL own rm) {x : Int32} {off : Int} (tgt : Nat) (d : decode cc pc = .ok (.ifCond .ne off, 3)) (ht : (pc : Int) + off = (tgt : Int)) (kt : ¬ x = 0 → AW G nL X cells slots tgt L (st) μ) (kf : x = 0 → AW G nL X cells slots (pc + 3) L (st) μ) : AW G nL X cells slots pc L (.int x :: st) μ := fun H locs ls a b e => lv_if_ne C.1 C.2.1 d ht (fun c => kt c H locs ls a b e) (fun c => kf (by first | exact c | exact Classical.not_not.mp c) H locs ls a b e)
theorem aw_icmp_lt (C : Ctx G X cc nL own rm) {x y : Int32} {off : Int} (tgt : Nat) (d : decode cc pc = .ok (.if_icmp .lt off, 3)) (ht : (pc : Int) + off = (tgt : Int)) (kt : x < y → AW G nL X cells slots tgt L (st) μ) (kf : ¬ x < y → AW G nL X cells slots (pc + 3) L (st) μ) : AW G nL X cells slots pc L (.int y :: .int x :: st) μ := fun H locs ls a b e => lv_icmp_lt C.1 C.2.1 d ht (fun c => kt c H locs ls a b e) (fun c => kf c H locs ls a b e)
theorem aw_if_lt (C : Ctx G X cc nL own rm) {x : Int32} {off : Int} (tgt : Nat) (d : decode cc pc = .ok (.ifCond .lt off, 3)) (ht : (pc : Int) + off = (tgt : Int)) (kt : x < 0 → AW G nL X cells slots tgt L (st) μ) (kf : ¬ x < 0 → AW G nL X cells slots (pc + 3) L (st) μ) : AW G nL X cells slots pc L (.int x :: st) μ := fun H locs ls a b e => lv_if_lt C.1 C.2.1 d ht (fun c => kt c H locs ls a b e) (fun c => kf c H locs ls a b e)
theorem aw_icmp_ge (C : Ctx G X cc nL own rm) {x y : Int32} {off : Int} (tgt : Nat) (d : decode cc pc = .ok (.if_icmp .ge off, 3)) (ht : (pc : Int) + off = (tgt : Int)) (kt : y ≤ x → AW G nL X cells slots tgt L (st) μ) (kf : ¬ y ≤ x → AW G nL X cells slots (pc + 3) L (st) μ) : AW G nL X cells slots pc L (.int y :: .int x :: st) μ := fun H locs ls a b e => lv_icmp_ge C.1 C.2.1 d ht (fun c => kt c H locs ls a b e) (fun c => kf c H locs ls a b e)
theorem aw_if_ge (C : Ctx G X cc nL own rm) {x : Int32} {off : Int} (tgt : Nat) (d : decode cc pc = .ok (.ifCond .ge off, 3)) (ht : (pc : Int) + off = (tgt : Int)) (kt : 0 ≤ x → AW G nL X cells slots tgt L (st) μ) (kf : ¬ 0 ≤ x → AW G nL X cells slots (pc + 3) L (st) μ) : AW G nL X cells slots pc L (.int x :: st) μ := fun H locs ls a b e => lv_if_ge C.1 C.2.1 d ht (fun c => kt c H locs ls a b e) (fun c => kf c H locs ls a b e)
theorem aw_icmp_gt (C : Ctx G X cc nL own rm) {x y : Int32} {off : Int} (tgt : Nat) (d : decode cc pc = .ok (.if_icmp .gt off, 3)) (ht : (pc : Int) + off = (tgt : Int)) (kt : y < x → AW G nL X cells slots tgt L (st) μ) (kf : ¬ y < x → AW G nL X cells slots (pc + 3) L (st) μ) : AW G nL X cells slots pc L (.int y :: .int x :: st) μ := fun H locs ls a b e => lv_icmp_gt C.1 C.2.1 d ht (fun c => kt c H locs ls a b e) (fun c => kf c H locs ls a b e)
theorem aw_if_gt (C : Ctx G X cc nL own rm) {x : Int32} {off : Int} (tgt : Nat) (d : decode cc pc = .ok (.ifCond .gt off, 3)) (ht : (pc : Int) + off = (tgt : Int)) (kt : 0 < x → AW G nL X cells slots tgt L (st) μ) (kf : ¬ 0 < x → AW G nL X cells slots (pc + 3) L (st) μ) : AW G nL X cells slots pc L (.int x :: st) μ := fun H locs ls a b e => lv_if_gt C.1 C.2.1 d ht (fun c => kt c H locs ls a b e) (fun c => kf c H locs ls a b e)
theorem aw_icmp_le (C : Ctx G X cc nL own rm) {x y : Int32} {off : Int} (tgt : Nat) (d : decode cc pc = .ok (.if_icmp .le off, 3)) (ht : (pc : Int) + off = (tgt : Int)) (kt : x ≤ y → AW G nL X cells slots tgt L (st) μ) (kf : ¬ x ≤ y → AW G nL X cells slots (pc + 3) L (st) μ) : AW G nL X cells slots pc L (.int y :: .int x :: st) μ := fun H locs ls a b e => lv_icmp_le C.1 C.2.1 d ht (fun c => kt c H locs ls a b e) (fun c => kf c H locs ls a b e)
theorem aw_if_le (C : Ctx G X cc nL own rm) {x : Int32} {off : Int} (tgt : Nat) (d : decode cc pc = .ok (.ifCond .le off, 3)) (ht : (pc : Int) + off = (tgt : Int)) (kt : x ≤ 0 → AW G nL X cells slots tgt L (st) μ) (kf : ¬ x ≤ 0 → AW G nL X cells slots (pc + 3) L (st) μ) : AW G nL X cells slots pc L (.int x :: st) μ := fun H locs ls a b e => lv_if_le C.1 C.2.1 d ht (fun c => kt c H locs ls a b e) (fun c => kf c H locs ls a b e)
end AWR
end
section
/-! ===== fields and rows: the rules ===== -/
def FL (own : String) (idx ci k : Nat) (ty : FieldType) (fin : Bool) : Prop := ∃ (C : String) (T : u_T) (N : Nat) (t0 : Nat → FieldType), vwCl[ci]? = some (C, T, N) ∧ (∀ w ∈ u_ws C T N, w ∈ gw) ∧ (∀ j, j < N → parseFieldDescriptor (T j).2.2.1 = some (t0 j)) ∧ (∀ a, a < N → ∀ b, b < N → a ≠ b → (T a).2.1 ≠ (T b).2.1) ∧ N = fN ci ∧ k < N ∧ Cond.fieldLink own idx (T k).1 (T k).2.1 (T k).2.2.1 ∈ gw ∧ parseFieldDescriptor (T k).2.2.1 = some ty ∧ (T k).2.2.2 = fin ∧ (T k).1 = C
theorem cel_o {G : GL} {μ : Mem} {a c : Nat} (h : mS μ a = (0, c)) : cel G μ a = .inr (c, (List.range (fN c)).map (fv G μ a c)) := by
  unfold cel
  rw [h]
  rfl
theorem cel_1 {G : GL} {μ : Mem} {a : Nat} (h : (mS μ a).1 = 1) : cel G μ a = .inl (gC G 1, (mS μ a).2, .inl (mI μ a)) := by
  unfold cel
  rw [show mS μ a = (1, (mS μ a).2) from Prod.ext h rfl]
  rfl
theorem cel_2 {G : GL} {μ : Mem} {a : Nat} (h : (mS μ a).1 = 2) : cel G μ a = .inl (gC G 2, (mS μ a).2, .inr (.inl (mJ μ a))) := by
  unfold cel
  rw [show mS μ a = (2, (mS μ a).2) from Prod.ext h rfl]
  rfl
theorem cel_3 {G : GL} {μ : Mem} {a : Nat} (h : (mS μ a).1 = 3) : cel G μ a = .inl (gC G 3, (mS μ a).2, .inl (mI μ a)) := by
  unfold cel
  rw [show mS μ a = (3, (mS μ a).2) from Prod.ext h rfl]
  rfl
theorem cel_r {G : GL} {μ : Mem} {a kd : Nat} (h : (mS μ a).1 = kd) (hk : kd = 4 ∨ kd = 5 ∨ kd = 6 ∨ kd = 7) : cel G μ a = .inl (gC G kd, (mS μ a).2, .inr (.inr (.inr (.inr (fun j => (mR μ a j).map (gZ G + ·)))))) := by
  unfold cel
  rw [show mS μ a = (kd, (mS μ a).2) from Prod.ext h rfl]
  rcases hk with rfl | rfl | rfl | rfl <;> rfl
theorem fs_at {G : GL} {μ : Mem} {a c k : Nat} (h : k < fN c) : ((List.range (fN c)).map (fv G μ a c))[k]? = some (fv G μ a c k) := by
  rw [List.getElem?_map, List.getElem?_range h]
  rfl
theorem fs_set {G : GL} {μ μ' : Mem} {a c k : Nat} {v : Value} (hv : fv G μ' a c k = v) (h : ∀ j, j ≠ k → fv G μ' a c j = fv G μ a c j) : ((List.range (fN c)).map (fv G μ a c)).set k v = (List.range (fN c)).map (fv G μ' a c) := by
  apply List.ext_getElem?
  intro i
  rw [List.getElem?_set]
  by_cases e : k = i
  · subst e
    by_cases hl : k < fN c
    · rw [if_pos rfl, if_pos (by simpa using hl), fs_at hl, hv]
    · rw [if_pos rfl, if_neg (by simpa using hl), List.getElem?_eq_none (by simpa using hl)]
  · rw [if_neg e]
    by_cases hl : i < fN c
    · rw [fs_at hl, fs_at hl, h i (fun q => e q.symm)]
    · rw [List.getElem?_eq_none (by simpa using hl), List.getElem?_eq_none (by simpa using hl)]
theorem up2_s {α : Type} (f : Nat → Nat → α) (a k : Nat) (v : α) : up2 f a k v a k = v := if_pos ⟨rfl, rfl⟩
theorem up2_n {α : Type} (f : Nat → Nat → α) {a k b j : Nat} (v : α) (h : ¬ (b = a ∧ j = k)) : up2 f a k v b j = f b j := if_neg h
theorem up2_a {α : Type} (f : Nat → Nat → α) {a k b : Nat} (v : α) (h : b ≠ a) : up2 f a k v b = f b := funext fun _ => if_neg fun q => h q.1
theorem cel_ne {G : GL} {μ μ' : Mem} {b : Nat} (e1 : mS μ' b = mS μ b) (e2 : mI μ' b = mI μ b) (e3 : mJ μ' b = mJ μ b) (e4 : mR μ' b = mR μ b) : cel G μ' b = cel G μ b := by
  have e5 : fv G μ' b = fv G μ b := by
    funext c k
    simp only [fv, e2, e3, e4]
  simp only [cel, e1, e2, e3, e4, e5]
theorem wI_ne {G : GL} {μ : Mem} {a k b : Nat} {x : Int32} (h : b ≠ a) : cel G (wI μ a k x) b = cel G μ b := cel_ne rfl (up2_a _ _ h) rfl rfl
theorem wJ_ne {G : GL} {μ : Mem} {a k b : Nat} {x : Int64} (h : b ≠ a) : cel G (wJ μ a k x) b = cel G μ b := cel_ne rfl rfl (up2_a _ _ h) rfl
theorem wR_ne {G : GL} {μ : Mem} {a k b : Nat} {x : Nat} (h : b ≠ a) : cel G (wR μ a k x) b = cel G μ b := cel_ne rfl rfl rfl (up2_a _ _ h)
theorem wI_set {G : GL} {μ : Mem} {a c k : Nat} {x : Int32} (hs : mS μ a = (0, c)) (ht : fTy c k = 0) : (wsOf G μ).set a (gZ G + a, .inr (c, ((List.range (fN c)).map (fv G μ a c)).set k (.int x))) = wsOf G (wI μ a k x) := by
  have h1 : cel G (wI μ a k x) a = .inr (c, (List.range (fN c)).map (fv G (wI μ a k x) a c)) := cel_o hs
  rw [fs_set (μ' := wI μ a k x), ← h1]
  · exact ws_set rfl (fun b hb => wI_ne hb)
  · unfold fv
    rw [ht]
    exact congrArg Value.int (up2_s _ _ _ _)
  · intro j hj
    have e : mI (wI μ a k x) a j = mI μ a j := up2_n _ _ (fun q => hj q.2)
    simp only [fv, e]
    rfl
theorem wJ_set {G : GL} {μ : Mem} {a c k : Nat} {x : Int64} (hs : mS μ a = (0, c)) (ht : fTy c k = 1) : (wsOf G μ).set a (gZ G + a, .inr (c, ((List.range (fN c)).map (fv G μ a c)).set k (.long x))) = wsOf G (wJ μ a k x) := by
  have h1 : cel G (wJ μ a k x) a = .inr (c, (List.range (fN c)).map (fv G (wJ μ a k x) a c)) := cel_o hs
  rw [fs_set (μ' := wJ μ a k x), ← h1]
  · exact ws_set rfl (fun b hb => wJ_ne hb)
  · unfold fv
    rw [ht]
    exact congrArg Value.long (up2_s _ _ _ _)
  · intro j hj
    have e : mJ (wJ μ a k x) a j = mJ μ a j := up2_n _ _ (fun q => hj q.2)
    simp only [fv, e]
    rfl
theorem wR_set {G : GL} {μ : Mem} {a c k : Nat} {x : Nat} (hs : mS μ a = (0, c)) (ht : fTy c k = 2) : (wsOf G μ).set a (gZ G + a, .inr (c, ((List.range (fN c)).map (fv G μ a c)).set k (.ref (gZ G + x)))) = wsOf G (wR μ a k x) := by
  have h1 : cel G (wR μ a k x) a = .inr (c, (List.range (fN c)).map (fv G (wR μ a k x) a c)) := cel_o hs
  rw [fs_set (μ' := wR μ a k x), ← h1]
  · exact ws_set rfl (fun b hb => wR_ne hb)
  · have e : mR (wR μ a k x) a k = some x := up2_s _ _ _ _
    unfold fv
    rw [ht]
    show va_rf ((mR (wR μ a k x) a k).map (gZ G + ·)) = _
    rw [e]
    rfl
  · intro j hj
    have e : mR (wR μ a k x) a j = mR μ a j := up2_n _ _ (fun q => hj q.2)
    simp only [fv, e]
    rfl
section AWH
variable {G : GL} {X : CX} {cc : ByteArray} {nL : Nat} {own : String} {rm : Room} {cells slots pc : Nat} {L L' : List (Nat × Value)} {st : List Value} {μ μ' : Mem}
theorem aw_lcmp (C : Ctx G X cc nL own rm) {x y : Int64} (d : decode cc pc = .ok (.lcmp, 1)) (k : AW G nL X cells slots (pc + 1) L (.int (lg_cmp x y) :: st) μ) : AW G nL X cells slots pc L (.long y :: .long x :: st) μ := fun H locs ls a b e => W.lcmp C.1 C.2.1 d (k H locs ls a b e)
theorem aw_gI (C : Ctx G X cc nL own rm) {ci k a idx : Nat} {x : Int32} {ty : FieldType} {fin : Bool} (F : FL own idx ci k ty fin) (hty : fTy ci k = 0) (h : gI ci k a μ = some x) (d : decode cc pc = .ok (.getfield idx, 3)) (kk : AW G nL X cells slots (pc + 3) L (.int x :: st) μ) : AW G nL X cells slots pc L (.ref (gZ G + a) :: st) μ := by
  unfold gI at h
  split at h
  · rename_i ha
    cases h
    obtain ⟨Cn, T, N, t0, h1, h2, h3, h4, h5, h6, h7, h8, h9, h10⟩ := F
    subst h5
    intro H locs ls a1 b e
    refine va_get C.1 C.2.1 C.2.2.2.2.1 h2 C.2.2.2.1 C.2.2.2.2.2.1.1 b a (he := by rw [ws_at ha.1, cel_o ha.2]) h1 k h6 (C.2.2.2.2.1 _ h7) (fun _ q => q) (v := .int (mI μ a k)) (by rw [fs_at h6]; unfold fv; rw [hty]; rfl) d (kk H locs ls a1 b e)
  · cases h
theorem aw_gJ (C : Ctx G X cc nL own rm) {ci k a idx : Nat} {x : Int64} {ty : FieldType} {fin : Bool} (F : FL own idx ci k ty fin) (hty : fTy ci k = 1) (h : gJ ci k a μ = some x) (d : decode cc pc = .ok (.getfield idx, 3)) (kk : AW G nL X cells slots (pc + 3) L (.long x :: st) μ) : AW G nL X cells slots pc L (.ref (gZ G + a) :: st) μ := by
  unfold gJ at h
  split at h
  · rename_i ha
    cases h
    obtain ⟨Cn, T, N, t0, h1, h2, h3, h4, h5, h6, h7, h8, h9, h10⟩ := F
    subst h5
    intro H locs ls a1 b e
    refine va_get C.1 C.2.1 C.2.2.2.2.1 h2 C.2.2.2.1 C.2.2.2.2.2.1.1 b a (he := by rw [ws_at ha.1, cel_o ha.2]) h1 k h6 (C.2.2.2.2.1 _ h7) (fun _ q => q) (v := .long (mJ μ a k)) (by rw [fs_at h6]; unfold fv; rw [hty]; rfl) d (kk H locs ls a1 b e)
  · cases h
theorem aw_gR (C : Ctx G X cc nL own rm) {ci k a idx x : Nat} {ty : FieldType} {fin : Bool} (F : FL own idx ci k ty fin) (hty : fTy ci k = 2) (h : gR ci k a μ = some x) (d : decode cc pc = .ok (.getfield idx, 3)) (kk : AW G nL X cells slots (pc + 3) L (.ref (gZ G + x) :: st) μ) : AW G nL X cells slots pc L (.ref (gZ G + a) :: st) μ := by
  unfold gR at h
  split at h
  · rename_i ha
    obtain ⟨Cn, T, N, t0, h1, h2, h3, h4, h5, h6, h7, h8, h9, h10⟩ := F
    subst h5
    intro H locs ls a1 b e
    refine va_get C.1 C.2.1 C.2.2.2.2.1 h2 C.2.2.2.1 C.2.2.2.2.2.1.1 b a (he := by rw [ws_at ha.1, cel_o ha.2]) h1 k h6 (C.2.2.2.2.1 _ h7) (fun _ q => q) (v := .ref (gZ G + x)) (by rw [fs_at h6]; unfold fv; rw [hty, h]; rfl) d (kk H locs ls a1 b e)
  · cases h
theorem aw_pI (C : Ctx G X cc nL own rm) {ci k a idx : Nat} {x : Int32} (F : FL own idx ci k .int false) (hty : fTy ci k = 0) (h : pI ci k a x μ = some μ') (d : decode cc pc = .ok (.putfield idx, 3)) (kk : AW G nL X cells slots (pc + 3) L st μ') : AW G nL X cells slots pc L (.int x :: .ref (gZ G + a) :: st) μ := by
  unfold pI at h
  split at h
  · rename_i ha
    cases h
    obtain ⟨Cn, T, N, t0, h1, h2, h3, h4, h5, h6, h7, h8, h9, h10⟩ := F
    subst h5
    intro H locs ls a1 b e
    refine va_put C.1 C.2.1 C.2.2.2.2.1 h2 t0 h3 h4 C.2.2.2.1 C.2.2.2.2.2.1.1 b (ws_D G μ) e a (he := by rw [ws_at ha.1, cel_o ha.2]) h1 k h6 (C.2.2.2.2.1 _ h7) (fun _ q => q) h9 h8 rfl rfl (by simpa using h6) d (fun H1 locs1 hP hD hS => kk H1 locs1 ls a1 ?_ hS)
    rw [wI_set ha.2 hty] at hP
    exact hP
  · cases h
theorem aw_pZ (C : Ctx G X cc nL own rm) {ci k a idx : Nat} {x : Int32} (F : FL own idx ci k .boolean false) (hty : fTy ci k = 0) (h : pZ ci k a x μ = some μ') (d : decode cc pc = .ok (.putfield idx, 3)) (kk : AW G nL X cells slots (pc + 3) L st μ') : AW G nL X cells slots pc L (.int x :: .ref (gZ G + a) :: st) μ := by
  unfold pZ at h
  split at h
  · rename_i ha
    cases h
    obtain ⟨ha, hx⟩ := ha
    obtain ⟨Cn, T, N, t0, h1, h2, h3, h4, h5, h6, h7, h8, h9, h10⟩ := F
    subst h5
    intro H locs ls a1 b e
    refine va_put C.1 C.2.1 C.2.2.2.2.1 h2 t0 h3 h4 C.2.2.2.1 C.2.2.2.2.2.1.1 b (ws_D G μ) e a (he := by rw [ws_at ha.1, cel_o ha.2]) h1 k h6 (C.2.2.2.2.1 _ h7) (fun _ q => q) h9 h8 (by rcases hx with rfl | rfl <;> rfl) (by rcases hx with rfl | rfl <;> rfl) (by simpa using h6) d (fun H1 locs1 hP hD hS => kk H1 locs1 ls a1 ?_ hS)
    rw [wI_set ha.2 hty] at hP
    exact hP
  · cases h
theorem aw_pJ (C : Ctx G X cc nL own rm) {ci k a idx : Nat} {x : Int64} (F : FL own idx ci k .long false) (hty : fTy ci k = 1) (h : pJ ci k a x μ = some μ') (d : decode cc pc = .ok (.putfield idx, 3)) (kk : AW G nL X cells slots (pc + 3) L st μ') : AW G nL X cells slots pc L (.long x :: .ref (gZ G + a) :: st) μ := by
  unfold pJ at h
  split at h
  · rename_i ha
    cases h
    obtain ⟨Cn, T, N, t0, h1, h2, h3, h4, h5, h6, h7, h8, h9, h10⟩ := F
    subst h5
    intro H locs ls a1 b e
    refine va_put C.1 C.2.1 C.2.2.2.2.1 h2 t0 h3 h4 C.2.2.2.1 C.2.2.2.2.2.1.1 b (ws_D G μ) e a (he := by rw [ws_at ha.1, cel_o ha.2]) h1 k h6 (C.2.2.2.2.1 _ h7) (fun _ q => q) h9 h8 rfl rfl (by simpa using h6) d (fun H1 locs1 hP hD hS => kk H1 locs1 ls a1 ?_ hS)
    rw [wJ_set ha.2 hty] at hP
    exact hP
  · cases h
theorem aw_pR (C : Ctx G X cc nL own rm) {ci k a idx x : Nat} {ty : FieldType} (F : FL own idx ci k ty false) (hr : fits ty (.ref (gZ G + x)) = true) (hn : narrow ty (.ref (gZ G + x)) = .ref (gZ G + x)) (hty : fTy ci k = 2) (h : pR ci k a x μ = some μ') (d : decode cc pc = .ok (.putfield idx, 3)) (kk : AW G nL X cells slots (pc + 3) L st μ') : AW G nL X cells slots pc L (.ref (gZ G + x) :: .ref (gZ G + a) :: st) μ := by
  unfold pR at h
  split at h
  · rename_i ha
    cases h
    obtain ⟨Cn, T, N, t0, h1, h2, h3, h4, h5, h6, h7, h8, h9, h10⟩ := F
    subst h5
    intro H locs ls a1 b e
    refine va_put C.1 C.2.1 C.2.2.2.2.1 h2 t0 h3 h4 C.2.2.2.1 C.2.2.2.2.2.1.1 b (ws_D G μ) e a (he := by rw [ws_at ha.1, cel_o ha.2]) h1 k h6 (C.2.2.2.2.1 _ h7) (fun _ q => q) h9 h8 hn hr (by simpa using h6) d (fun H1 locs1 hP hD hS => kk H1 locs1 ls a1 ?_ hS)
    rw [wR_set ha.2 hty] at hP
    exact hP
  · cases h
theorem aw_pRF (C : Ctx G X cc nL own rm) {ci k a idx x : Nat} {ty : FieldType} (F : FL own idx ci k ty true) (hi : (xT X).name = "<init>") (ho : vwCl[ci]? = some (own, (vwCl.getD ci ("", fun _ => ("", "", "", false), 0)).2)) (hr : fits ty (.ref (gZ G + x)) = true) (hn : narrow ty (.ref (gZ G + x)) = .ref (gZ G + x)) (hty : fTy ci k = 2) (h : pR ci k a x μ = some μ') (d : decode cc pc = .ok (.putfield idx, 3)) (kk : AW G nL X cells slots (pc + 3) L st μ') : AW G nL X cells slots pc L (.ref (gZ G + x) :: .ref (gZ G + a) :: st) μ := by
  unfold pR at h
  split at h
  · rename_i ha
    cases h
    obtain ⟨Cn, T, N, t0, h1, h2, h3, h4, h5, h6, h7, h8, h9, h10⟩ := F
    subst h5
    rw [h1] at ho
    have ho1 : Cn = own := congrArg Prod.fst (Option.some.inj ho)
    intro H locs ls a1 b e
    refine va_putF C.1 C.2.1 C.2.2.2.2.1 h2 t0 h3 h4 C.2.2.2.1 C.2.2.2.2.2.1.1 b (ws_D G μ) e a (he := by rw [ws_at ha.1, cel_o ha.2]) h1 k h6 (C.2.2.2.2.1 _ h7) (fun _ q => q) h9 hi (h10.trans ho1) h8 hn hr (by simpa using h6) d (fun H1 locs1 hP hD hS => kk H1 locs1 ls a1 ?_ hS)
    rw [wR_set ha.2 hty] at hP
    exact hP
  · cases h
theorem aw_aI (C : Ctx G X cc nL own rm) {a : Nat} {i x : Int32} (h : aI a i μ = some x) (d : decode cc pc = .ok (.iaload, 1)) (kk : AW G nL X cells slots (pc + 1) L (.int x :: st) μ) : AW G nL X cells slots pc L (.int i :: .ref (gZ G + a) :: st) μ := by
  unfold aI at h
  split at h
  · rename_i ha
    cases h
    intro H locs ls a1 b e
    exact va_iald C.1 C.2.1 C.2.2.2.2.2.1.1 b a 0 (by rw [ws_at ha.1, cel_1 ha.2.1]) rfl ha.2.2 d (kk H locs ls a1 b e)
  · cases h
theorem aw_aJ (C : Ctx G X cc nL own rm) {a : Nat} {i : Int32} {x : Int64} (h : aJ a i μ = some x) (d : decode cc pc = .ok (.laload, 1)) (kk : AW G nL X cells slots (pc + 1) L (.long x :: st) μ) : AW G nL X cells slots pc L (.int i :: .ref (gZ G + a) :: st) μ := by
  unfold aJ at h
  split at h
  · rename_i ha
    cases h
    intro H locs ls a1 b e
    exact va_lald C.1 C.2.1 C.2.2.2.2.2.1.1 b a 1 (by rw [ws_at ha.1, cel_2 ha.2.1]) rfl ha.2.2 d (kk H locs ls a1 b e)
  · cases h
theorem aw_aZ (C : Ctx G X cc nL own rm) {a : Nat} {i x : Int32} (h : aZ a i μ = some x) (d : decode cc pc = .ok (.baload, 1)) (kk : AW G nL X cells slots (pc + 1) L (.int x :: st) μ) : AW G nL X cells slots pc L (.int i :: .ref (gZ G + a) :: st) μ := by
  unfold aZ at h
  split at h
  · rename_i ha
    cases h
    intro H locs ls a1 b e
    exact va_zald C.1 C.2.1 C.2.2.2.2.2.1.1 b a 2 (by rw [ws_at ha.1, cel_3 ha.2.1]) rfl ha.2.2 d (kk H locs ls a1 b e)
  · cases h
theorem aw_aR (C : Ctx G X cc nL own rm) {kd a x : Nat} {i : Int32} {ty : FieldType} (hk : kd = 4 ∨ kd = 5 ∨ kd = 6 ∨ kd = 7) (ht : (tysOf G)[kd - 1]? = some (gC G kd, ty)) (hr : ty.isReference = true) (h : aR kd a i μ = some x) (d : decode cc pc = .ok (.aaload, 1)) (kk : AW G nL X cells slots (pc + 1) L (.ref (gZ G + x) :: st) μ) : AW G nL X cells slots pc L (.int i :: .ref (gZ G + a) :: st) μ := by
  unfold aR at h
  split at h
  · rename_i ha
    intro H locs ls a1 b e
    have hlt : i.toNatClampNeg < (mS μ a).2 := Nat.not_le.mp fun q => ha.2.2 (Or.inr q)
    have hat : va_at (gD G) vwCl (gZ G + a, cel G μ a) H := b a _ (ws_at ha.1)
    rw [cel_r ha.2.1 hk] at hat
    exact W.aald (v := .ref (gZ G + x)) (ty := ty) C.1 C.2.1 hat ((C.2.2.2.2.2.1.1.2 _ _ ht).1 (mS μ a).2 (fun j => va_rf ((mR μ a j).map (gZ G + ·)))) hr (fun q => by cases q) (by show ¬ (i < 0 ∨ (arrV _ _ _).slots.size ≤ _); rw [arrV_size]; exact ha.2.2) (by show (arrV _ _ _).slots[_]? = _; rw [arrV_read _ _ hlt]; show some (va_rf ((mR μ a i.toNatClampNeg).map _)) = _; rw [h]; rfl) rfl rfl d (kk H locs ls a1 b e)
  · cases h
theorem aw_aL (C : Ctx G X cc nL own rm) {a : Nat} {x : Int32} (h : aL a μ = some x) (d : decode cc pc = .ok (.arraylength, 1)) (kk : AW G nL X cells slots (pc + 1) L (.int x :: st) μ) : AW G nL X cells slots pc L (.ref (gZ G + a) :: st) μ := by
  unfold aL at h
  split at h
  · rename_i ha
    cases h
    intro H locs ls a1 b e
    have key : ∃ (cA : ClassId) (y : vp_A) (t0 : Nat) (ty : FieldType), cel G μ a = .inl (cA, y) ∧ y.1 = (mS μ a).2 ∧ (tysOf G)[t0]? = some (cA, ty) := by
      obtain ⟨-, h0, h7⟩ := ha
      rcases (show (mS μ a).1 = 1 ∨ (mS μ a).1 = 2 ∨ (mS μ a).1 = 3 ∨ (mS μ a).1 = 4 ∨ (mS μ a).1 = 5 ∨ (mS μ a).1 = 6 ∨ (mS μ a).1 = 7 by omega) with q | q | q | q | q | q | q
      · exact ⟨_, _, 0, _, cel_1 q, rfl, rfl⟩
      · exact ⟨_, _, 1, _, cel_2 q, rfl, rfl⟩
      · exact ⟨_, _, 2, _, cel_3 q, rfl, rfl⟩
      · exact ⟨_, _, 3, _, cel_r q (by omega), rfl, rfl⟩
      · exact ⟨_, _, 4, _, cel_r q (by omega), rfl, rfl⟩
      · exact ⟨_, _, 5, _, cel_r q (by omega), rfl, rfl⟩
      · exact ⟨_, _, 6, _, cel_r q (by omega), rfl, rfl⟩
    obtain ⟨cA, y, t0, ty, k1, k2, k3⟩ := key
    exact va_alen C.1 C.2.1 C.2.2.2.2.2.1.1 b a t0 (by rw [ws_at ha.1, k1]) k3 (by rw [k2]) d (kk H locs ls a1 b e)
  · cases h
theorem aw_sI (C : Ctx G X cc nL own rm) {a : Nat} {i x : Int32} (h : sI a i x μ = some μ') (d : decode cc pc = .ok (.iastore, 1)) (kk : AW G nL X cells slots (pc + 1) L st μ') : AW G nL X cells slots pc L (.int x :: .int i :: .ref (gZ G + a) :: st) μ := by
  unfold sI at h
  split at h
  · rename_i ha
    cases h
    intro H locs ls a1 b e
    refine va_iast C.1 C.2.1 C.2.2.2.2.2.1.1 b (ws_D G μ) e a 0 (by rw [ws_at ha.1, cel_1 ha.2.1]) rfl ha.2.2 d (fun H1 locs1 hP hD hS => kk H1 locs1 ls a1 ?_ hS)
    have h1 : cel G (wI μ a i.toNatClampNeg x) a = .inl (gC G 1, (mS μ a).2, .inl (upd (mI μ a) i.toNatClampNeg x)) := by
      rw [cel_1 (μ := wI μ a i.toNatClampNeg x) ha.2.1]
      have e2 : mI (wI μ a i.toNatClampNeg x) a = upd (mI μ a) i.toNatClampNeg x := funext fun j => by
        by_cases q : j = i.toNatClampNeg
        · subst q; exact (up2_s _ _ _ _).trans (if_pos rfl).symm
        · exact (up2_n _ _ (fun z => q z.2)).trans (if_neg q).symm
      rw [e2]
      rfl
    have e9 := ws_set (G := G) (μ := μ) (μ' := wI μ a i.toNatClampNeg x) (a := a) rfl (fun b hb => wI_ne hb)
    rw [h1] at e9
    show va_P _ _ _ _
    rw [← e9]
    exact hP
  · cases h
theorem aw_sZ (C : Ctx G X cc nL own rm) {a : Nat} {i x : Int32} (h : sZ a i x μ = some μ') (d : decode cc pc = .ok (.bastore, 1)) (kk : AW G nL X cells slots (pc + 1) L st μ') : AW G nL X cells slots pc L (.int x :: .int i :: .ref (gZ G + a) :: st) μ := by
  unfold sZ at h
  split at h
  · rename_i ha
    cases h
    obtain ⟨ha, hx⟩ := ha
    intro H locs ls a1 b e
    refine va_zast C.1 C.2.1 C.2.2.2.2.2.1.1 b (ws_D G μ) e a 2 (by rw [ws_at ha.1, cel_3 ha.2.1]) rfl ha.2.2 d (fun H1 locs1 hP hD hS => kk H1 locs1 ls a1 ?_ hS)
    have hx2 : vp_nar .boolean x = x := by rcases hx with rfl | rfl <;> rfl
    rw [hx2] at hP
    have h1 : cel G (wI μ a i.toNatClampNeg x) a = .inl (gC G 3, (mS μ a).2, .inl (upd (mI μ a) i.toNatClampNeg x)) := by
      rw [cel_3 (μ := wI μ a i.toNatClampNeg x) ha.2.1]
      have e2 : mI (wI μ a i.toNatClampNeg x) a = upd (mI μ a) i.toNatClampNeg x := funext fun j => by
        by_cases q : j = i.toNatClampNeg
        · subst q; exact (up2_s _ _ _ _).trans (if_pos rfl).symm
        · exact (up2_n _ _ (fun z => q z.2)).trans (if_neg q).symm
      rw [e2]
      rfl
    have e9 := ws_set (G := G) (μ := μ) (μ' := wI μ a i.toNatClampNeg x) (a := a) rfl (fun b hb => wI_ne hb)
    rw [h1] at e9
    show va_P _ _ _ _
    rw [← e9]
    exact hP
  · cases h
theorem aw_sJ (C : Ctx G X cc nL own rm) {a : Nat} {i : Int32} {x : Int64} (h : sJ a i x μ = some μ') (d : decode cc pc = .ok (.lastore, 1)) (kk : AW G nL X cells slots (pc + 1) L st μ') : AW G nL X cells slots pc L (.long x :: .int i :: .ref (gZ G + a) :: st) μ := by
  unfold sJ at h
  split at h
  · rename_i ha
    cases h
    intro H locs ls a1 b e
    refine va_last C.1 C.2.1 C.2.2.2.2.2.1.1 b (ws_D G μ) e a 1 (by rw [ws_at ha.1, cel_2 ha.2.1]) rfl ha.2.2 d (fun H1 locs1 hP hD hS => kk H1 locs1 ls a1 ?_ hS)
    have h1 : cel G (wJ μ a i.toNatClampNeg x) a = .inl (gC G 2, (mS μ a).2, .inr (.inl (vp_updL (mJ μ a) i.toNatClampNeg x))) := by
      rw [cel_2 (μ := wJ μ a i.toNatClampNeg x) ha.2.1]
      have e2 : mJ (wJ μ a i.toNatClampNeg x) a = vp_updL (mJ μ a) i.toNatClampNeg x := funext fun j => by
        by_cases q : j = i.toNatClampNeg
        · subst q; exact (up2_s _ _ _ _).trans (if_pos rfl).symm
        · exact (up2_n _ _ (fun z => q z.2)).trans (if_neg q).symm
      rw [e2]
      rfl
    have e9 := ws_set (G := G) (μ := μ) (μ' := wJ μ a i.toNatClampNeg x) (a := a) rfl (fun b hb => wJ_ne hb)
    rw [h1] at e9
    show va_P _ _ _ _
    rw [← e9]
    exact hP
  · cases h
theorem aw_sR (C : Ctx G X cc nL own rm) {kd ci a x : Nat} {i : Int32} {r : vw_C} (hk : kd = 4 ∨ kd = 5 ∨ kd = 6 ∨ kd = 7) (hc : vwCl[ci]? = some r) (ht : (tysOf G)[kd - 1]? = some (gC G kd, .object r.1)) (h : sR kd ci a i x μ = some μ') (d : decode cc pc = .ok (.aastore, 1)) (kk : AW G nL X cells slots (pc + 1) L st μ') : AW G nL X cells slots pc L (.ref (gZ G + x) :: .int i :: .ref (gZ G + a) :: st) μ := by
  unfold sR at h
  split at h
  · rename_i ha
    cases h
    obtain ⟨ha, hx⟩ := ha
    intro H locs ls a1 b e
    refine va_astq C.1 C.2.1 C.2.2.2.2.2.1.1 b (ws_D G μ) e a (kd - 1) x ci (by rw [ws_at ha.1, cel_r ha.2.1 hk]) ht (by rw [ws_at hx.1, cel_o hx.2]) hc ha.2.2 d (fun H1 locs1 hP hD hS => kk H1 locs1 ls a1 ?_ hS)
    have h1 : cel G (wR μ a i.toNatClampNeg x) a = .inl (gC G kd, (mS μ a).2, .inr (.inr (.inr (.inr (va_up (fun j => (mR μ a j).map (gZ G + ·)) i.toNatClampNeg (some (gZ G + x))))))) := by
      rw [cel_r (μ := wR μ a i.toNatClampNeg x) ha.2.1 hk]
      have e2 : (fun j => (mR (wR μ a i.toNatClampNeg x) a j).map (gZ G + ·)) = va_up (fun j => (mR μ a j).map (gZ G + ·)) i.toNatClampNeg (some (gZ G + x)) := funext fun j => by
        by_cases q : j = i.toNatClampNeg
        · subst q
          have e3 : mR (wR μ a i.toNatClampNeg x) a i.toNatClampNeg = some x := up2_s _ _ _ _
          rw [e3]
          exact (if_pos rfl).symm
        · have e3 : mR (wR μ a i.toNatClampNeg x) a j = mR μ a j := up2_n _ _ (fun z => q z.2)
          rw [e3]
          exact (if_neg q).symm
      rw [e2]
      rfl
    have e9 := ws_set (G := G) (μ := μ) (μ' := wR μ a i.toNatClampNeg x) (a := a) rfl (fun b hb => wR_ne hb)
    rw [h1] at e9
    show va_P _ _ _ _
    rw [← e9]
    exact hP
  · cases h
end AWH
end
section
/-! ===== contracts, calls, returns ===== -/
def PreW (G : GL) (b : Bool) (μ : Mem) (U : State) : Prop := Wd G μ U.heap ∧ KK G U ∧ gZ G ≤ U.heap.size ∧ (b = true → U.heap.size = gZ G + mN μ)
abbrev MtI (G : GL) (l : Launch) (y : MethodName) (cc : ByteArray) (nL : Nat) (ret : Option FieldType) (rm : Room) (b : Bool) (av : List Value) (μ : Mem) (r : Int32) (μ' : Mem) : Prop :=
  Met l y (mws y cc nL ret) rm (va_Pc av (PreW G b μ)) (va_Qi (fun r' (_ : Unit) => r' = r) (fun _ t => Wd G μ' t.heap) (gA G)) rm.cells rm.slots (gA G)
abbrev MtJ (G : GL) (l : Launch) (y : MethodName) (cc : ByteArray) (nL : Nat) (ret : Option FieldType) (rm : Room) (b : Bool) (av : List Value) (μ : Mem) (r : Int64) (μ' : Mem) : Prop :=
  Met l y (mws y cc nL ret) rm (va_Pc av (PreW G b μ)) (va_Ql (fun r' (_ : Unit) => r' = r) (fun _ t => Wd G μ' t.heap) (gA G)) rm.cells rm.slots (gA G)
abbrev MtV (G : GL) (l : Launch) (y : MethodName) (cc : ByteArray) (nL : Nat) (ret : Option FieldType) (rm : Room) (b : Bool) (av : List Value) (μ : Mem) (μ' : Mem) : Prop :=
  Met l y (mws y cc nL ret) rm (va_Pc av (PreW G b μ)) (va_Qv (fun (_ : Unit) => True) (fun _ t => Wd G μ' t.heap) (gA G)) rm.cells rm.slots (gA G)
/-- what holds of a callee wherever it is called from -/
def CS (y : MethodName) (cc : ByteArray) (nL : Nat) (ret : Option FieldType) (n : Nat) : Prop := Cond.code y cc nL ret ∈ gw ∧ Cond.initialized y.cls ∈ gw ∧ (y.cls ≠ "java/lang/invoke/MethodHandle" ∧ y.cls ≠ "java/lang/invoke/VarHandle" ∧ (parseMethodDescriptor y.desc).map (fun d => d.parameters.length) = some n)
/-- an object of a class stands there -/
def vO (c a : Nat) (μ : Mem) : Option Unit := if a < mN μ ∧ mS μ a = (0, c) then some () else none
theorem KK.blind {G : GL} {U : State} {g : JFrame} {mk : MethodId} {a : Array Value} (h : KK G U) : KK G (U.calling g mk a) :=
  ⟨va_K.moved (u := U) (U := U.calling g mk a) (Vm.Alike.refl U.vm) h.1, fun w hw => va_Nw.same (u := U) (by
    have := (List.mem_filter.mp hw).2
    cases w <;> first | rfl | cases this) rfl (h.2 w hw)⟩
theorem KK.warm {G : GL} {s U : State} (hW : s.WarmedH U.vm) (h : KK G s) : KK G U :=
  ⟨va_K.moved hW.alike h.1, fun w hw => by
    have hm := (List.mem_filter.mp hw).2
    have h1 := h.2 w hw
    cases w <;> first | exact va_Nw.warmM hW h1 | cases hm⟩
theorem blindW {G : GL} {b : Bool} {μ : Mem} {av : List Value} : FrameBlind (va_Pc av (PreW G b μ)) := fun a U g mk q => by
  obtain ⟨q1, q2, q3, q4, q5⟩ := q
  exact ⟨q1, q2, q3.blind, q4, q5⟩
theorem gw_in {y : MethodName} {cc : ByteArray} {nL : Nat} {ret : Option FieldType} (h : Cond.code y cc nL ret ∈ gw) : GoodIn gw (mws y cc nL ret) := by
  intro w hw
  rcases List.mem_cons.mp hw with rfl | hw
  · exact ⟨h, (gw_good _ h).2⟩
  · exact ⟨hw, (gw_good _ hw).2⟩
theorem W.size {p : Program} {l : Launch} {e : Env} {R : Room} {s : State} {m : MethodId} {args : Array Value} {below : List Frame} {meth : Method} {c : Code} {H : Heap} {locs : List Loc} {cells slots : Nat} {Q : State → Prop} {g : JFrame} (h : H.size ≤ s.heap.size + cells → W p l e R s m args below meth c H locs cells slots Q g) : W p l e R s m args below meth c H locs cells slots Q g := fun T hT X => h (hT ▸ X.heapSize) T hT X
theorem Wd.low {G : GL} {μ : Mem} {H : Heap} (h : Wd G μ H) (hz : gZ G ≤ H.size) : gZ G + mN μ ≤ H.size := by
  cases hn : mN μ with
  | zero => exact hz
  | succ n =>
    have := (h n _ (ws_at (by rw [hn]; exact Nat.lt_succ_self n))).lt
    simp only at this
    omega
section AWC
variable {G : GL} {X : CX} {cc : ByteArray} {nL : Nat} {own : String} {rm : Room} {cells slots pc : Nat} {L L' : List (Nat × Value)} {st : List Value} {μ μ' : Mem}
variable {y : MethodName} {cc' : ByteArray} {nL' n idx : Nat} {ret' : Option FieldType} {rm' : Room} {b : Bool} {As : List Value}
/-- what a callee's start needs, out of the caller's world -/
theorem preW (C : Ctx G X cc nL own rm) {H : Heap} {locs : List Loc} (hw : Wd G μ H) (hs : va_S (gA G) (xS X).heap H locs) (hb : b = true → H.size = gZ G + mN μ) (U : State) (hU : U.heap = H) (hW : (xS X).WarmedH U.vm) : PreW G b μ U :=
  ⟨by rw [hU]; exact hw, C.2.2.2.2.2.1.warm hW, by rw [hU]; exact Nat.le_trans C.2.2.2.2.2.2.2 hs.1, by rw [hU]; exact hb⟩
theorem szW (C : Ctx G X cc nL own rm) {H : Heap} {locs : List Loc} (hw : Wd G μ H) (hs : va_S (gA G) (xS X).heap H locs) (hz : b = true → (xS X).heap.size + cells = gZ G + mN μ) (h : H.size ≤ (xS X).heap.size + cells) : b = true → H.size = gZ G + mN μ := fun hb => by
  have h1 := hz hb
  have h2 := hw.low (Nat.le_trans C.2.2.2.2.2.2.2 hs.1)
  omega
theorem cbS (C : Ctx G X cc nL own rm) (S : CS y cc' nL' ret' n) (hl : Cond.methodLink own idx y ∈ gw) (hR : rm'.frames + 1 ≤ rm.frames ∧ 8 + (nL' + 11) + rm'.locals ≤ rm.locals) : CallB (xR X) (xS X) (xA X) own idx y cc' nL' ret' (mws y cc' nL' ret') rm' rm'.cells rm'.slots n :=
  callB_of n C.2.2.2.2.1 (gw_in S.1) rfl rfl rfl (C.2.2.2.2.1 _ S.2.1) (C.2.2.2.2.1 _ hl) S.2.2 (by rw [C.2.2.2.2.2.2.1]; exact hR)
theorem cbN (C : Ctx G X cc nL own rm) (S : CS y cc' nL' ret' n) {host : String} (hl : Cond.methodLinkNest own idx y host ∈ nestW) (hR : rm'.frames + 1 ≤ rm.frames ∧ 8 + (nL' + 11) + rm'.locals ≤ rm.locals) : va_CN (xR X) (xS X) (xA X) own idx y host cc' nL' ret' (mws y cc' nL' ret') rm' rm'.cells rm'.slots n :=
  va_cnB n C.2.2.2.2.1 (gw_in S.1) rfl rfl rfl (C.2.2.2.2.2.1.2 _ hl) (C.2.2.2.2.1 _ S.2.1) S.2.2 (by rw [C.2.2.2.2.2.2.1]; exact hR)
theorem cfix (C : Ctx G X cc nL own rm) : CallFix (xP X) (xM X) (xC X) cc nL (xS X) (xA X) gw own := ⟨C.1, C.2.1, C.2.2.1, C.2.2.2.1, C.2.2.2.2.1⟩
theorem cfR (C : Ctx G X cc nL own rm) (h : cells + rm'.cells ≤ rm.cells ∧ slots + rm'.slots ≤ rm.slots) : cells + rm'.cells ≤ (xR X).cells ∧ slots + rm'.slots ≤ (xR X).slots := by rw [C.2.2.2.2.2.2.1]; exact h
theorem recvW (C : Ctx G X cc nL own rm) {H : Heap} (hw : Wd G μ H) {c a : Nat} {r : vw_C} (hv : vO c a μ = some ()) (hc : vwCl[c]? = some r) : ∃ cellB : Cell, H[gZ G + a]? = some cellB ∧ cellB.vm.isStatics = false ∧ (xS X).vm.findClass r.1 = some cellB.cls := by
  unfold vO at hv
  split at hv
  · rename_i ha
    exact va_recv C.2.2.2.2.2.1.1 hw (ci := c) (q0 := a) hc (by rw [ws_at ha.1, cel_o ha.2])
  · cases hv
theorem aw_callS_I (C : Ctx G X cc nL own rm) {r : Int32} (As : List Value) (st0 : List Value) (hM : MtI G (xL X) y cc' nL' ret' rm' b (As) μ r μ') (S : CS y cc' nL' ret' n) (hl : Cond.methodLink own idx y ∈ gw) (hs : Cond.static y ∈ gw) (hR : rm'.frames + 1 ≤ rm.frames ∧ 8 + (nL' + 11) + rm'.locals ≤ rm.locals) (hf : cells + rm'.cells ≤ rm.cells ∧ slots + rm'.slots ≤ rm.slots) (hn : As.length = n) (hst : st0 = As.reverse ++ st) (hW : (st.map fun v => v.category).sum ≤ 8) (hz0 : b = true → (xS X).heap.size + cells = gZ G + mN μ) (d : decode cc pc = .ok (.invokestatic idx, 3)) (k : AW G nL X (cells + rm'.cells) (slots + rm'.slots) (pc + 3) L (.int r :: st) μ') : AW G nL X cells slots pc L st0 μ := by
  intro H locs ls a1 b1 e
  refine W.size fun hsz => ?_
  refine va_calli (S := Unit) (va_runS (As := As) (rest := st) (cfix C) hM ⟨cbS C S hl hR, C.2.2.2.2.1 _ hs⟩ ⟨blindW, fun U hU hW => ⟨rfl, preW C b1 e (szW C b1 e hz0 hsz) U hU hW⟩⟩ rfl hn a1.1 hst (lv_room hW) d (cfR C hf)) e (fun q _ h => h) (fun q h => h) (fun r0 u t H1 locs1 ht hvm hp hB hz hk hS => ?_)
  cases hp
  exact k H1 locs1 ls a1 (by rw [ht] at hB; exact hB) hS
theorem aw_callS_J (C : Ctx G X cc nL own rm) {r : Int64} (As : List Value) (st0 : List Value) (hM : MtJ G (xL X) y cc' nL' ret' rm' b (As) μ r μ') (S : CS y cc' nL' ret' n) (hl : Cond.methodLink own idx y ∈ gw) (hs : Cond.static y ∈ gw) (hR : rm'.frames + 1 ≤ rm.frames ∧ 8 + (nL' + 11) + rm'.locals ≤ rm.locals) (hf : cells + rm'.cells ≤ rm.cells ∧ slots + rm'.slots ≤ rm.slots) (hn : As.length = n) (hst : st0 = As.reverse ++ st) (hW : (st.map fun v => v.category).sum ≤ 8) (hz0 : b = true → (xS X).heap.size + cells = gZ G + mN μ) (d : decode cc pc = .ok (.invokestatic idx, 3)) (k : AW G nL X (cells + rm'.cells) (slots + rm'.slots) (pc + 3) L (.long r :: st) μ') : AW G nL X cells slots pc L st0 μ := by
  intro H locs ls a1 b1 e
  refine W.size fun hsz => ?_
  refine va_calll (S := Unit) (va_runS (As := As) (rest := st) (cfix C) hM ⟨cbS C S hl hR, C.2.2.2.2.1 _ hs⟩ ⟨blindW, fun U hU hW => ⟨rfl, preW C b1 e (szW C b1 e hz0 hsz) U hU hW⟩⟩ rfl hn a1.1 hst (lv_room hW) d (cfR C hf)) e (fun q _ h => h) (fun q h => h) (fun r0 u t H1 locs1 ht hvm hp hB hz hk hS => ?_)
  cases hp
  exact k H1 locs1 ls a1 (by rw [ht] at hB; exact hB) hS
theorem aw_callS_V (C : Ctx G X cc nL own rm) (As : List Value) (st0 : List Value) (hM : MtV G (xL X) y cc' nL' ret' rm' b (As) μ μ') (S : CS y cc' nL' ret' n) (hl : Cond.methodLink own idx y ∈ gw) (hs : Cond.static y ∈ gw) (hR : rm'.frames + 1 ≤ rm.frames ∧ 8 + (nL' + 11) + rm'.locals ≤ rm.locals) (hf : cells + rm'.cells ≤ rm.cells ∧ slots + rm'.slots ≤ rm.slots) (hn : As.length = n) (hst : st0 = As.reverse ++ st) (hW : (st.map fun v => v.category).sum ≤ 8) (hz0 : b = true → (xS X).heap.size + cells = gZ G + mN μ) (d : decode cc pc = .ok (.invokestatic idx, 3)) (k : AW G nL X (cells + rm'.cells) (slots + rm'.slots) (pc + 3) L (st) μ') : AW G nL X cells slots pc L st0 μ := by
  intro H locs ls a1 b1 e
  refine W.size fun hsz => ?_
  refine va_callv (S := Unit) (va_runS (As := As) (rest := st) (cfix C) hM ⟨cbS C S hl hR, C.2.2.2.2.1 _ hs⟩ ⟨blindW, fun U hU hW => ⟨rfl, preW C b1 e (szW C b1 e hz0 hsz) U hU hW⟩⟩ rfl hn a1.1 hst (lv_room hW) d (cfR C hf)) e (fun q _ h => h) (fun q h => h) (fun u t H1 locs1 ht hvm hp hB hz hk hS => ?_)
  skip
  exact k H1 locs1 ls a1 (by rw [ht] at hB; exact hB) hS
theorem aw_callSN_I (C : Ctx G X cc nL own rm) {r : Int32} {host : String} (As : List Value) (st0 : List Value) (hM : MtI G (xL X) y cc' nL' ret' rm' b (As) μ r μ') (S : CS y cc' nL' ret' n) (hl : Cond.methodLinkNest own idx y host ∈ nestW) (hs : Cond.static y ∈ gw) (hR : rm'.frames + 1 ≤ rm.frames ∧ 8 + (nL' + 11) + rm'.locals ≤ rm.locals) (hf : cells + rm'.cells ≤ rm.cells ∧ slots + rm'.slots ≤ rm.slots) (hn : As.length = n) (hst : st0 = As.reverse ++ st) (hW : (st.map fun v => v.category).sum ≤ 8) (hz0 : b = true → (xS X).heap.size + cells = gZ G + mN μ) (d : decode cc pc = .ok (.invokestatic idx, 3)) (k : AW G nL X (cells + rm'.cells) (slots + rm'.slots) (pc + 3) L (.int r :: st) μ') : AW G nL X cells slots pc L st0 μ := by
  intro H locs ls a1 b1 e
  refine W.size fun hsz => ?_
  refine va_calli (S := Unit) (va_runSN (As := As) (rest := st) (cfix C) hM ⟨cbN C S hl hR, C.2.2.2.2.1 _ hs, trivial⟩ ⟨blindW, fun U hU hW => ⟨rfl, preW C b1 e (szW C b1 e hz0 hsz) U hU hW⟩⟩ rfl hn a1.1 hst (lv_room hW) d (cfR C hf)) e (fun q _ h => h) (fun q h => h) (fun r0 u t H1 locs1 ht hvm hp hB hz hk hS => ?_)
  cases hp
  exact k H1 locs1 ls a1 (by rw [ht] at hB; exact hB) hS
theorem aw_callSN_J (C : Ctx G X cc nL own rm) {r : Int64} {host : String} (As : List Value) (st0 : List Value) (hM : MtJ G (xL X) y cc' nL' ret' rm' b (As) μ r μ') (S : CS y cc' nL' ret' n) (hl : Cond.methodLinkNest own idx y host ∈ nestW) (hs : Cond.static y ∈ gw) (hR : rm'.frames + 1 ≤ rm.frames ∧ 8 + (nL' + 11) + rm'.locals ≤ rm.locals) (hf : cells + rm'.cells ≤ rm.cells ∧ slots + rm'.slots ≤ rm.slots) (hn : As.length = n) (hst : st0 = As.reverse ++ st) (hW : (st.map fun v => v.category).sum ≤ 8) (hz0 : b = true → (xS X).heap.size + cells = gZ G + mN μ) (d : decode cc pc = .ok (.invokestatic idx, 3)) (k : AW G nL X (cells + rm'.cells) (slots + rm'.slots) (pc + 3) L (.long r :: st) μ') : AW G nL X cells slots pc L st0 μ := by
  intro H locs ls a1 b1 e
  refine W.size fun hsz => ?_
  refine va_calll (S := Unit) (va_runSN (As := As) (rest := st) (cfix C) hM ⟨cbN C S hl hR, C.2.2.2.2.1 _ hs, trivial⟩ ⟨blindW, fun U hU hW => ⟨rfl, preW C b1 e (szW C b1 e hz0 hsz) U hU hW⟩⟩ rfl hn a1.1 hst (lv_room hW) d (cfR C hf)) e (fun q _ h => h) (fun q h => h) (fun r0 u t H1 locs1 ht hvm hp hB hz hk hS => ?_)
  cases hp
  exact k H1 locs1 ls a1 (by rw [ht] at hB; exact hB) hS
theorem aw_callSN_V (C : Ctx G X cc nL own rm) {host : String} (As : List Value) (st0 : List Value) (hM : MtV G (xL X) y cc' nL' ret' rm' b (As) μ μ') (S : CS y cc' nL' ret' n) (hl : Cond.methodLinkNest own idx y host ∈ nestW) (hs : Cond.static y ∈ gw) (hR : rm'.frames + 1 ≤ rm.frames ∧ 8 + (nL' + 11) + rm'.locals ≤ rm.locals) (hf : cells + rm'.cells ≤ rm.cells ∧ slots + rm'.slots ≤ rm.slots) (hn : As.length = n) (hst : st0 = As.reverse ++ st) (hW : (st.map fun v => v.category).sum ≤ 8) (hz0 : b = true → (xS X).heap.size + cells = gZ G + mN μ) (d : decode cc pc = .ok (.invokestatic idx, 3)) (k : AW G nL X (cells + rm'.cells) (slots + rm'.slots) (pc + 3) L (st) μ') : AW G nL X cells slots pc L st0 μ := by
  intro H locs ls a1 b1 e
  refine W.size fun hsz => ?_
  refine va_callv (S := Unit) (va_runSN (As := As) (rest := st) (cfix C) hM ⟨cbN C S hl hR, C.2.2.2.2.1 _ hs, trivial⟩ ⟨blindW, fun U hU hW => ⟨rfl, preW C b1 e (szW C b1 e hz0 hsz) U hU hW⟩⟩ rfl hn a1.1 hst (lv_room hW) d (cfR C hf)) e (fun q _ h => h) (fun q h => h) (fun u t H1 locs1 ht hvm hp hB hz hk hS => ?_)
  skip
  exact k H1 locs1 ls a1 (by rw [ht] at hB; exact hB) hS
theorem aw_callV_I (C : Ctx G X cc nL own rm) {a : Nat} {r : Int32} (As : List Value) (st0 : List Value) (hM : MtI G (xL X) y cc' nL' ret' rm' b (.ref (gZ G + a) :: As) μ r μ') (S : CS y cc' nL' ret' n) (hl : Cond.methodLink own idx y ∈ gw) (hi : Cond.instanceMethod y ∈ gw) (hse : Cond.selects y.cls y y ∈ gw) {ci : Nat} {cr : vw_C} (hcl : vwCl[ci]? = some cr) (hcy : cr.1 = y.cls) (hv : vO ci a μ = some ()) (hR : rm'.frames + 1 ≤ rm.frames ∧ 8 + (nL' + 11) + rm'.locals ≤ rm.locals) (hf : cells + rm'.cells ≤ rm.cells ∧ slots + rm'.slots ≤ rm.slots) (hn : As.length = n) (hst : st0 = As.reverse ++ .ref (gZ G + a) :: st) (hW : (st.map fun v => v.category).sum ≤ 8) (hz0 : b = true → (xS X).heap.size + cells = gZ G + mN μ) (d : decode cc pc = .ok (.invokevirtual idx, 3)) (k : AW G nL X (cells + rm'.cells) (slots + rm'.slots) (pc + 3) L (.int r :: st) μ') : AW G nL X cells slots pc L st0 μ := by
  intro H locs ls a1 b1 e
  refine W.size fun hsz => ?_
  refine va_calli (S := Unit) (va_runV (As := As) (rest := st) (cfix C) hM ⟨cbS C S hl hR, C.2.2.2.2.1 _ hi, C.2.2.2.2.1 _ hse⟩ ⟨blindW, hcy ▸ recvW C b1 hv hcl, fun U hU hW => ⟨rfl, preW C b1 e (szW C b1 e hz0 hsz) U hU hW⟩⟩ rfl hn a1.1 hst (lv_room hW) d (cfR C hf)) e (fun q _ h => h) (fun q h => h) (fun r0 u t H1 locs1 ht hvm hp hB hz hk hS => ?_)
  cases hp
  exact k H1 locs1 ls a1 (by rw [ht] at hB; exact hB) hS
theorem aw_callV_J (C : Ctx G X cc nL own rm) {a : Nat} {r : Int64} (As : List Value) (st0 : List Value) (hM : MtJ G (xL X) y cc' nL' ret' rm' b (.ref (gZ G + a) :: As) μ r μ') (S : CS y cc' nL' ret' n) (hl : Cond.methodLink own idx y ∈ gw) (hi : Cond.instanceMethod y ∈ gw) (hse : Cond.selects y.cls y y ∈ gw) {ci : Nat} {cr : vw_C} (hcl : vwCl[ci]? = some cr) (hcy : cr.1 = y.cls) (hv : vO ci a μ = some ()) (hR : rm'.frames + 1 ≤ rm.frames ∧ 8 + (nL' + 11) + rm'.locals ≤ rm.locals) (hf : cells + rm'.cells ≤ rm.cells ∧ slots + rm'.slots ≤ rm.slots) (hn : As.length = n) (hst : st0 = As.reverse ++ .ref (gZ G + a) :: st) (hW : (st.map fun v => v.category).sum ≤ 8) (hz0 : b = true → (xS X).heap.size + cells = gZ G + mN μ) (d : decode cc pc = .ok (.invokevirtual idx, 3)) (k : AW G nL X (cells + rm'.cells) (slots + rm'.slots) (pc + 3) L (.long r :: st) μ') : AW G nL X cells slots pc L st0 μ := by
  intro H locs ls a1 b1 e
  refine W.size fun hsz => ?_
  refine va_calll (S := Unit) (va_runV (As := As) (rest := st) (cfix C) hM ⟨cbS C S hl hR, C.2.2.2.2.1 _ hi, C.2.2.2.2.1 _ hse⟩ ⟨blindW, hcy ▸ recvW C b1 hv hcl, fun U hU hW => ⟨rfl, preW C b1 e (szW C b1 e hz0 hsz) U hU hW⟩⟩ rfl hn a1.1 hst (lv_room hW) d (cfR C hf)) e (fun q _ h => h) (fun q h => h) (fun r0 u t H1 locs1 ht hvm hp hB hz hk hS => ?_)
  cases hp
  exact k H1 locs1 ls a1 (by rw [ht] at hB; exact hB) hS
theorem aw_callV_V (C : Ctx G X cc nL own rm) {a : Nat} (As : List Value) (st0 : List Value) (hM : MtV G (xL X) y cc' nL' ret' rm' b (.ref (gZ G + a) :: As) μ μ') (S : CS y cc' nL' ret' n) (hl : Cond.methodLink own idx y ∈ gw) (hi : Cond.instanceMethod y ∈ gw) (hse : Cond.selects y.cls y y ∈ gw) {ci : Nat} {cr : vw_C} (hcl : vwCl[ci]? = some cr) (hcy : cr.1 = y.cls) (hv : vO ci a μ = some ()) (hR : rm'.frames + 1 ≤ rm.frames ∧ 8 + (nL' + 11) + rm'.locals ≤ rm.locals) (hf : cells + rm'.cells ≤ rm.cells ∧ slots + rm'.slots ≤ rm.slots) (hn : As.length = n) (hst : st0 = As.reverse ++ .ref (gZ G + a) :: st) (hW : (st.map fun v => v.category).sum ≤ 8) (hz0 : b = true → (xS X).heap.size + cells = gZ G + mN μ) (d : decode cc pc = .ok (.invokevirtual idx, 3)) (k : AW G nL X (cells + rm'.cells) (slots + rm'.slots) (pc + 3) L (st) μ') : AW G nL X cells slots pc L st0 μ := by
  intro H locs ls a1 b1 e
  refine W.size fun hsz => ?_
  refine va_callv (S := Unit) (va_runV (As := As) (rest := st) (cfix C) hM ⟨cbS C S hl hR, C.2.2.2.2.1 _ hi, C.2.2.2.2.1 _ hse⟩ ⟨blindW, hcy ▸ recvW C b1 hv hcl, fun U hU hW => ⟨rfl, preW C b1 e (szW C b1 e hz0 hsz) U hU hW⟩⟩ rfl hn a1.1 hst (lv_room hW) d (cfR C hf)) e (fun q _ h => h) (fun q h => h) (fun u t H1 locs1 ht hvm hp hB hz hk hS => ?_)
  skip
  exact k H1 locs1 ls a1 (by rw [ht] at hB; exact hB) hS
theorem aw_callVN_I (C : Ctx G X cc nL own rm) {a : Nat} {r : Int32} {host : String} (As : List Value) (st0 : List Value) (hM : MtI G (xL X) y cc' nL' ret' rm' b (.ref (gZ G + a) :: As) μ r μ') (S : CS y cc' nL' ret' n) (hl : Cond.methodLinkNest own idx y host ∈ nestW) (hi : Cond.instanceMethod y ∈ gw) (hse : Cond.selects y.cls y y ∈ gw) {ci : Nat} {cr : vw_C} (hcl : vwCl[ci]? = some cr) (hcy : cr.1 = y.cls) (hv : vO ci a μ = some ()) (hR : rm'.frames + 1 ≤ rm.frames ∧ 8 + (nL' + 11) + rm'.locals ≤ rm.locals) (hf : cells + rm'.cells ≤ rm.cells ∧ slots + rm'.slots ≤ rm.slots) (hn : As.length = n) (hst : st0 = As.reverse ++ .ref (gZ G + a) :: st) (hW : (st.map fun v => v.category).sum ≤ 8) (hz0 : b = true → (xS X).heap.size + cells = gZ G + mN μ) (d : decode cc pc = .ok (.invokevirtual idx, 3)) (k : AW G nL X (cells + rm'.cells) (slots + rm'.slots) (pc + 3) L (.int r :: st) μ') : AW G nL X cells slots pc L st0 μ := by
  intro H locs ls a1 b1 e
  refine W.size fun hsz => ?_
  refine va_calli (S := Unit) (va_runVN (As := As) (rest := st) (cfix C) hM ⟨cbN C S hl hR, C.2.2.2.2.1 _ hi, C.2.2.2.2.1 _ hse⟩ ⟨blindW, hcy ▸ recvW C b1 hv hcl, fun U hU hW => ⟨rfl, preW C b1 e (szW C b1 e hz0 hsz) U hU hW⟩⟩ rfl hn a1.1 hst (lv_room hW) d (cfR C hf)) e (fun q _ h => h) (fun q h => h) (fun r0 u t H1 locs1 ht hvm hp hB hz hk hS => ?_)
  cases hp
  exact k H1 locs1 ls a1 (by rw [ht] at hB; exact hB) hS
theorem aw_callVN_J (C : Ctx G X cc nL own rm) {a : Nat} {r : Int64} {host : String} (As : List Value) (st0 : List Value) (hM : MtJ G (xL X) y cc' nL' ret' rm' b (.ref (gZ G + a) :: As) μ r μ') (S : CS y cc' nL' ret' n) (hl : Cond.methodLinkNest own idx y host ∈ nestW) (hi : Cond.instanceMethod y ∈ gw) (hse : Cond.selects y.cls y y ∈ gw) {ci : Nat} {cr : vw_C} (hcl : vwCl[ci]? = some cr) (hcy : cr.1 = y.cls) (hv : vO ci a μ = some ()) (hR : rm'.frames + 1 ≤ rm.frames ∧ 8 + (nL' + 11) + rm'.locals ≤ rm.locals) (hf : cells + rm'.cells ≤ rm.cells ∧ slots + rm'.slots ≤ rm.slots) (hn : As.length = n) (hst : st0 = As.reverse ++ .ref (gZ G + a) :: st) (hW : (st.map fun v => v.category).sum ≤ 8) (hz0 : b = true → (xS X).heap.size + cells = gZ G + mN μ) (d : decode cc pc = .ok (.invokevirtual idx, 3)) (k : AW G nL X (cells + rm'.cells) (slots + rm'.slots) (pc + 3) L (.long r :: st) μ') : AW G nL X cells slots pc L st0 μ := by
  intro H locs ls a1 b1 e
  refine W.size fun hsz => ?_
  refine va_calll (S := Unit) (va_runVN (As := As) (rest := st) (cfix C) hM ⟨cbN C S hl hR, C.2.2.2.2.1 _ hi, C.2.2.2.2.1 _ hse⟩ ⟨blindW, hcy ▸ recvW C b1 hv hcl, fun U hU hW => ⟨rfl, preW C b1 e (szW C b1 e hz0 hsz) U hU hW⟩⟩ rfl hn a1.1 hst (lv_room hW) d (cfR C hf)) e (fun q _ h => h) (fun q h => h) (fun r0 u t H1 locs1 ht hvm hp hB hz hk hS => ?_)
  cases hp
  exact k H1 locs1 ls a1 (by rw [ht] at hB; exact hB) hS
theorem aw_callVN_V (C : Ctx G X cc nL own rm) {a : Nat} {host : String} (As : List Value) (st0 : List Value) (hM : MtV G (xL X) y cc' nL' ret' rm' b (.ref (gZ G + a) :: As) μ μ') (S : CS y cc' nL' ret' n) (hl : Cond.methodLinkNest own idx y host ∈ nestW) (hi : Cond.instanceMethod y ∈ gw) (hse : Cond.selects y.cls y y ∈ gw) {ci : Nat} {cr : vw_C} (hcl : vwCl[ci]? = some cr) (hcy : cr.1 = y.cls) (hv : vO ci a μ = some ()) (hR : rm'.frames + 1 ≤ rm.frames ∧ 8 + (nL' + 11) + rm'.locals ≤ rm.locals) (hf : cells + rm'.cells ≤ rm.cells ∧ slots + rm'.slots ≤ rm.slots) (hn : As.length = n) (hst : st0 = As.reverse ++ .ref (gZ G + a) :: st) (hW : (st.map fun v => v.category).sum ≤ 8) (hz0 : b = true → (xS X).heap.size + cells = gZ G + mN μ) (d : decode cc pc = .ok (.invokevirtual idx, 3)) (k : AW G nL X (cells + rm'.cells) (slots + rm'.slots) (pc + 3) L (st) μ') : AW G nL X cells slots pc L st0 μ := by
  intro H locs ls a1 b1 e
  refine W.size fun hsz => ?_
  refine va_callv (S := Unit) (va_runVN (As := As) (rest := st) (cfix C) hM ⟨cbN C S hl hR, C.2.2.2.2.1 _ hi, C.2.2.2.2.1 _ hse⟩ ⟨blindW, hcy ▸ recvW C b1 hv hcl, fun U hU hW => ⟨rfl, preW C b1 e (szW C b1 e hz0 hsz) U hU hW⟩⟩ rfl hn a1.1 hst (lv_room hW) d (cfR C hf)) e (fun q _ h => h) (fun q h => h) (fun u t H1 locs1 ht hvm hp hB hz hk hS => ?_)
  skip
  exact k H1 locs1 ls a1 (by rw [ht] at hB; exact hB) hS
theorem aw_callI_V (C : Ctx G X cc nL own rm) {a : Nat} (As : List Value) (st0 : List Value) (hM : MtV G (xL X) y cc' nL' none rm' b (.ref (gZ G + a) :: As) μ μ') (S : CS y cc' nL' none n) (hl : Cond.methodLink own idx y ∈ gw) (hi : Cond.instanceMethod y ∈ gw) (hnm : y.name = "<init>") (hR : rm'.frames + 1 ≤ rm.frames ∧ 8 + (nL' + 11) + rm'.locals ≤ rm.locals) (hf : cells + rm'.cells ≤ rm.cells ∧ slots + rm'.slots ≤ rm.slots) (hn : As.length = n) (hst : st0 = As.reverse ++ .ref (gZ G + a) :: st) (hW : (st.map fun v => v.category).sum ≤ 8) (hz0 : b = true → (xS X).heap.size + cells = gZ G + mN μ) (d : decode cc pc = .ok (.invokespecial idx, 3)) (k : AW G nL X (cells + rm'.cells) (slots + rm'.slots) (pc + 3) L (st) μ') : AW G nL X cells slots pc L st0 μ := by
  intro H locs ls a1 b1 e
  refine W.size fun hsz => ?_
  refine va_callv (S := Unit) (va_runI (As := As) (rest := st) (cfix C) hM ⟨cbS C S hl hR, hnm, C.2.2.2.2.1 _ hi⟩ ⟨blindW, fun U hU hW => ⟨rfl, preW C b1 e (szW C b1 e hz0 hsz) U hU hW⟩⟩ rfl hn a1.1 hst (lv_room hW) d (cfR C hf)) e (fun q _ h => h) (fun q h => h) (fun u t H1 locs1 ht hvm hp hB hz hk hS => ?_)
  skip
  exact k H1 locs1 ls a1 (by rw [ht] at hB; exact hB) hS
theorem aw_callIN_V (C : Ctx G X cc nL own rm) {a : Nat} {host : String} (As : List Value) (st0 : List Value) (hM : MtV G (xL X) y cc' nL' none rm' b (.ref (gZ G + a) :: As) μ μ') (S : CS y cc' nL' none n) (hl : Cond.methodLinkNest own idx y host ∈ nestW) (hi : Cond.instanceMethod y ∈ gw) (hnm : y.name = "<init>") (hR : rm'.frames + 1 ≤ rm.frames ∧ 8 + (nL' + 11) + rm'.locals ≤ rm.locals) (hf : cells + rm'.cells ≤ rm.cells ∧ slots + rm'.slots ≤ rm.slots) (hn : As.length = n) (hst : st0 = As.reverse ++ .ref (gZ G + a) :: st) (hW : (st.map fun v => v.category).sum ≤ 8) (hz0 : b = true → (xS X).heap.size + cells = gZ G + mN μ) (d : decode cc pc = .ok (.invokespecial idx, 3)) (k : AW G nL X (cells + rm'.cells) (slots + rm'.slots) (pc + 3) L (st) μ') : AW G nL X cells slots pc L st0 μ := by
  intro H locs ls a1 b1 e
  refine W.size fun hsz => ?_
  refine va_callv (S := Unit) (va_runIN (As := As) (rest := st) (cfix C) hM ⟨cbN C S hl hR, hnm, C.2.2.2.2.1 _ hi⟩ ⟨blindW, fun U hU hW => ⟨rfl, preW C b1 e (szW C b1 e hz0 hsz) U hU hW⟩⟩ rfl hn a1.1 hst (lv_room hW) d (cfR C hf)) e (fun q _ h => h) (fun q h => h) (fun u t H1 locs1 ht hvm hp hB hz hk hS => ?_)
  skip
  exact k H1 locs1 ls a1 (by rw [ht] at hB; exact hB) hS
/-- the method's end: an int, a long, nothing -/
def RtI (G : GL) (nL : Nat) (X : CX) (cc : ByteArray) (cells slots : Nat) (r : Int32) (μ : Mem) : Prop := ∀ (pc : Nat) (L : List (Nat × Value)), decode cc pc = .ok (.ireturn, 1) → AW G nL X cells slots pc L [.int r] μ
def RtJ (G : GL) (nL : Nat) (X : CX) (cc : ByteArray) (cells slots : Nat) (r : Int64) (μ : Mem) : Prop := ∀ (pc : Nat) (L : List (Nat × Value)), decode cc pc = .ok (.lreturn, 1) → AW G nL X cells slots pc L [.long r] μ
def RtV (G : GL) (nL : Nat) (X : CX) (cc : ByteArray) (cells slots : Nat) (μ : Mem) : Prop := ∀ (pc : Nat) (L : List (Nat × Value)), decode cc pc = .ok (.return_, 1) → AW G nL X cells slots pc L [] μ
end AWC
theorem met_I {G : GL} {l : Launch} {y : MethodName} {cc : ByteArray} {nL : Nat} {ret : Option FieldType} {rm : Room} {b : Bool} {av : List Value} {μ μ' : Mem} {r : Int32} {ty : FieldType} (hy : plainName y.cls = true) (hret : ret = some ty) (hnr : narrow ty (.int r) = .int r) (hn : (lg_sl av).length ≤ nL)
    (wk : ∀ X : CX, xL X = l → Ctx G X cc nL y.cls rm → (xT X).name = y.name → (b = true → (xS X).heap.size = gZ G + mN μ) → RtI G nL X cc rm.cells rm.slots r μ' → AW G nL X 0 0 0 (lv_args 0 av) [] μ) : MtI G l y cc nL ret rm b av μ r μ' := by
  refine Met.ofW (cc := cc) (maxL := nL) (ret := ret) hy rfl ?_
  intro p e s m args below meth c s₁ B hml hv
  obtain ⟨rfl, hw, hK, hZ, hb⟩ := hv
  have hts := atoms_spec (ws := mws y cc nL ret) B.pre
  have hl := lv_entry av (n := nL) hn
  rw [lg_entry_eq]
  refine wk (p, l, e, rm, s, m, av.toArray, below, meth, c, MQ below (va_Qi (fun r' (_ : Unit) => r' = r) (fun _ t => Wd G μ' t.heap) (gA G)) av.toArray s rm.cells rm.slots (gA G)) rfl ⟨B.exec, B.bytes, hml, findClass_of_methodNamed B.named, fun w hw => hts w (List.mem_cons_of_mem _ hw), hK, rfl, hZ⟩ (name_of_methodNamed B.named B.method).1 hb ?_ s.heap [] _ hl hw va_S.rf
  intro pc L d H locs ls a1 b1 e1
  refine W.zret (ty := ty) B.exec B.bytes (B.returns.trans hret) hnr (fun t ht hW => ⟨⟨r, (), rfl, rfl, by show Wd G μ' t.heap; rw [ht]; exact b1⟩, ?_⟩) e1.2.2 d B.notSynchronized
  exact e1.F ht
theorem met_J {G : GL} {l : Launch} {y : MethodName} {cc : ByteArray} {nL : Nat} {ret : Option FieldType} {rm : Room} {b : Bool} {av : List Value} {μ μ' : Mem} {r : Int64} (hy : plainName y.cls = true) (hret : ret = some .long) (hn : (lg_sl av).length ≤ nL)
    (wk : ∀ X : CX, xL X = l → Ctx G X cc nL y.cls rm → (xT X).name = y.name → (b = true → (xS X).heap.size = gZ G + mN μ) → RtJ G nL X cc rm.cells rm.slots r μ' → AW G nL X 0 0 0 (lv_args 0 av) [] μ) : MtJ G l y cc nL ret rm b av μ r μ' := by
  refine Met.ofW (cc := cc) (maxL := nL) (ret := ret) hy rfl ?_
  intro p e s m args below meth c s₁ B hml hv
  obtain ⟨rfl, hw, hK, hZ, hb⟩ := hv
  have hts := atoms_spec (ws := mws y cc nL ret) B.pre
  have hl := lv_entry av (n := nL) hn
  rw [lg_entry_eq]
  refine wk (p, l, e, rm, s, m, av.toArray, below, meth, c, MQ below (va_Ql (fun r' (_ : Unit) => r' = r) (fun _ t => Wd G μ' t.heap) (gA G)) av.toArray s rm.cells rm.slots (gA G)) rfl ⟨B.exec, B.bytes, hml, findClass_of_methodNamed B.named, fun w hw => hts w (List.mem_cons_of_mem _ hw), hK, rfl, hZ⟩ (name_of_methodNamed B.named B.method).1 hb ?_ s.heap [] _ hl hw va_S.rf
  intro pc L d H locs ls a1 b1 e1
  refine W.lret B.exec B.bytes (B.returns.trans hret) (fun t ht hW => ⟨⟨r, (), rfl, rfl, by show Wd G μ' t.heap; rw [ht]; exact b1⟩, ?_⟩) e1.2.2 d B.notSynchronized
  exact e1.F ht
theorem met_V {G : GL} {l : Launch} {y : MethodName} {cc : ByteArray} {nL : Nat} {ret : Option FieldType} {rm : Room} {b : Bool} {av : List Value} {μ μ' : Mem} (hy : plainName y.cls = true) (hret : ret = none) (hn : (lg_sl av).length ≤ nL)
    (wk : ∀ X : CX, xL X = l → Ctx G X cc nL y.cls rm → (xT X).name = y.name → (b = true → (xS X).heap.size = gZ G + mN μ) → RtV G nL X cc rm.cells rm.slots μ' → AW G nL X 0 0 0 (lv_args 0 av) [] μ) : MtV G l y cc nL ret rm b av μ μ' := by
  refine Met.ofW (cc := cc) (maxL := nL) (ret := ret) hy rfl ?_
  intro p e s m args below meth c s₁ B hml hv
  obtain ⟨rfl, hw, hK, hZ, hb⟩ := hv
  have hts := atoms_spec (ws := mws y cc nL ret) B.pre
  have hl := lv_entry av (n := nL) hn
  rw [lg_entry_eq]
  refine wk (p, l, e, rm, s, m, av.toArray, below, meth, c, MQ below (va_Qv (fun (_ : Unit) => True) (fun _ t => Wd G μ' t.heap) (gA G)) av.toArray s rm.cells rm.slots (gA G)) rfl ⟨B.exec, B.bytes, hml, findClass_of_methodNamed B.named, fun w hw => hts w (List.mem_cons_of_mem _ hw), hK, rfl, hZ⟩ (name_of_methodNamed B.named B.method).1 hb ?_ s.heap [] _ hl hw va_S.rf
  intro pc L d H locs ls a1 b1 e1
  refine W.vret B.exec B.bytes (B.returns.trans hret) (fun t ht hW => ⟨⟨(), rfl, trivial, by show Wd G μ' t.heap; rw [ht]; exact b1⟩, ?_⟩) e1.2.2 d B.notSynchronized
  exact e1.F ht
end
section
/-! ===== small helps of the walks ===== -/
def FU : Nat := 100000
theorem bindE {α β : Type} {o : Option α} {f : α → Option β} {b : β} (h : o.bind f = some b) : ∃ a, o = some a ∧ f a = some b := Option.bind_eq_some_iff.mp h
theorem bindS {α β : Type} {a : α} {f : α → Option β} {b : β} (h : (some a).bind f = some b) : ∃ x, a = x ∧ f x = some b := ⟨a, rfl, h⟩
/-- a boolean is 0 or 1 -/
def zz (v : Int32) : Option Int32 := if v = 0 ∨ v = 1 then some v else none
theorem zzE {v w : Int32} (h : zz v = some w) : v = w ∧ (w = 0 ∨ w = 1) := by
  unfold zz at h
  split at h
  · cases h
    exact ⟨rfl, by assumption⟩
  · cases h
def RtZ (G : GL) (nL : Nat) (X : CX) (cc : ByteArray) (cells slots : Nat) (r : Int32) (μ : Mem) : Prop := ∀ (pc : Nat) (L : List (Nat × Value)), decode cc pc = .ok (.ireturn, 1) → (r = 0 ∨ r = 1) → AW G nL X cells slots pc L [.int r] μ
theorem met_Z {G : GL} {l : Launch} {y : MethodName} {cc : ByteArray} {nL : Nat} {ret : Option FieldType} {rm : Room} {b : Bool} {av : List Value} {μ μ' : Mem} {r : Int32} (hy : plainName y.cls = true) (hret : ret = some .boolean) (hn : (lg_sl av).length ≤ nL)
    (wk : ∀ X : CX, xL X = l → Ctx G X cc nL y.cls rm → (xT X).name = y.name → (b = true → (xS X).heap.size = gZ G + mN μ) → RtZ G nL X cc rm.cells rm.slots r μ' → AW G nL X 0 0 0 (lv_args 0 av) [] μ) : MtI G l y cc nL ret rm b av μ r μ' := by
  refine Met.ofW (cc := cc) (maxL := nL) (ret := ret) hy rfl ?_
  intro p e s m args below meth c s₁ B hml hv
  obtain ⟨rfl, hw, hK, hZ, hb⟩ := hv
  have hts := atoms_spec (ws := mws y cc nL ret) B.pre
  have hl := lv_entry av (n := nL) hn
  rw [lg_entry_eq]
  refine wk (p, l, e, rm, s, m, av.toArray, below, meth, c, MQ below (va_Qi (fun r' (_ : Unit) => r' = r) (fun _ t => Wd G μ' t.heap) (gA G)) av.toArray s rm.cells rm.slots (gA G)) rfl ⟨B.exec, B.bytes, hml, findClass_of_methodNamed B.named, fun w hw => hts w (List.mem_cons_of_mem _ hw), hK, rfl, hZ⟩ (name_of_methodNamed B.named B.method).1 hb ?_ s.heap [] _ hl hw va_S.rf
  intro pc L d hr H locs ls a1 b1 e1
  refine W.zret (ty := .boolean) B.exec B.bytes (B.returns.trans hret) (by rcases hr with rfl | rfl <;> rfl) (fun t ht hW => ⟨⟨r, (), rfl, rfl, by show Wd G μ' t.heap; rw [ht]; exact b1⟩, ?_⟩) e1.2.2 d B.notSynchronized
  exact e1.F ht
theorem tsw_out {x : Int32} (n : Nat) (hn : n < 2 ^ 31) (h : ∀ k : Nat, k < n → ¬ x = Int32.ofNat k) : x.toInt < 0 ∨ (n : Int) - 1 < x.toInt := by
  by_cases h0 : x.toInt < 0
  · exact Or.inl h0
  · by_cases h1 : (n : Int) - 1 < x.toInt
    · exact Or.inr h1
    · exfalso
      have hx : ¬ x < 0 := fun q => h0 (by have := Int32.lt_iff_toInt_lt.mp q; simpa using this)
      obtain ⟨j, hj, e⟩ := nI_of hx
      have ht : x.toInt = (j : Int) := by rw [e]; exact nI_toInt hj
      exact h j (by omega) e
section AWM
variable {G : GL} {X : CX} {cc : ByteArray} {nL : Nat} {own : String} {rm : Room} {cells slots pc : Nat} {L L' : List (Nat × Value)} {st : List Value} {μ μ' : Mem}
variable {y : MethodName} {cc' : ByteArray} {nL' n idx : Nat} {ret' : Option FieldType} {rm' : Room} {b : Bool} {As : List Value}
theorem aw_tin (C : Ctx G X cc nL own rm) {x : Int32} {dflt lo hi off : Int} {offs : Array Int} {len : Nat} (k : Nat) (tgt : Nat) (hx : x = Int32.ofNat k) (d : decode cc pc = .ok (.tableswitch dflt lo hi offs, len)) (h1 : ¬ (Int32.ofNat k).toInt < lo) (h2 : ¬ hi < (Int32.ofNat k).toInt) (ho : offs[((Int32.ofNat k).toInt - lo).toNat]? = some off) (ht : (pc : Int) + off = (tgt : Int)) (kk : AW G nL X cells slots tgt L st μ) : AW G nL X cells slots pc L (.int x :: st) μ := by
  subst hx
  exact fun H locs ls a b e => lv_tableIn C.1 C.2.1 d h1 h2 ho ht (kk H locs ls a b e)
theorem aw_tout (C : Ctx G X cc nL own rm) {x : Int32} {dflt lo hi : Int} {offs : Array Int} {len : Nat} (tgt : Nat) (d : decode cc pc = .ok (.tableswitch dflt lo hi offs, len)) (h : x.toInt < lo ∨ hi < x.toInt) (ht : (pc : Int) + dflt = (tgt : Int)) (kk : AW G nL X cells slots tgt L st μ) : AW G nL X cells slots pc L (.int x :: st) μ := fun H locs ls a b e => lv_tableOut C.1 C.2.1 d h ht (kk H locs ls a b e)
theorem mm_max : Cond.static Lib.Math.max.name ∈ gw ∧ Cond.initialized "java/lang/Math" ∈ gw ∧ Cond.code Lib.Math.max.name Lib.Math.max.code 2 (some .int) ∈ gw := by decide +kernel
theorem aw_mmax (C : Ctx G X cc nL own rm) {x y : Int32} (hl : Cond.methodLink own idx Lib.Math.max.name ∈ gw) (hf : 1 ≤ rm.frames) (ho : 21 ≤ rm.locals) (hc : cells ≤ rm.cells ∧ slots ≤ rm.slots) (hW : (st.map fun v => v.category).sum ≤ 8) (d : decode cc pc = .ok (.invokestatic idx, 3)) (k : AW G nL X cells slots (pc + 3) L (.int (if x < y then y else x) :: st) μ) : AW G nL X cells slots pc L (.int y :: .int x :: st) μ := fun H locs ls a b e => va_mmax C.1 C.2.1 (C.2.2.1.trans a.1.symm) C.2.2.2.1 (C.2.2.2.2.1 _ hl) (C.2.2.2.2.1 _ mm_max.1) (C.2.2.2.2.1 _ mm_max.2.1) (C.2.2.2.2.1 _ mm_max.2.2) (by rw [C.2.2.2.2.2.2.1]; exact hf) (by rw [C.2.2.2.2.2.2.1]; omega) (by rw [C.2.2.2.2.2.2.1]; exact hc.1) (by rw [C.2.2.2.2.2.2.1]; exact hc.2) d (k H locs ls a b e)
theorem mm_min : Cond.static Lib.Math.min.name ∈ gw ∧ Cond.initialized "java/lang/Math" ∈ gw ∧ Cond.code Lib.Math.min.name Lib.Math.min.code 2 (some .int) ∈ gw := by decide +kernel
theorem aw_mmin (C : Ctx G X cc nL own rm) {x y : Int32} (hl : Cond.methodLink own idx Lib.Math.min.name ∈ gw) (hf : 1 ≤ rm.frames) (ho : 21 ≤ rm.locals) (hc : cells ≤ rm.cells ∧ slots ≤ rm.slots) (hW : (st.map fun v => v.category).sum ≤ 8) (d : decode cc pc = .ok (.invokestatic idx, 3)) (k : AW G nL X cells slots (pc + 3) L (.int (if y < x then y else x) :: st) μ) : AW G nL X cells slots pc L (.int y :: .int x :: st) μ := fun H locs ls a b e => va_mmin C.1 C.2.1 (C.2.2.1.trans a.1.symm) C.2.2.2.1 (C.2.2.2.2.1 _ hl) (C.2.2.2.2.1 _ mm_min.1) (C.2.2.2.2.1 _ mm_min.2.1) (C.2.2.2.2.1 _ mm_min.2.2) (by rw [C.2.2.2.2.2.2.1]; exact hf) (by rw [C.2.2.2.2.2.2.1]; omega) (by rw [C.2.2.2.2.2.2.1]; exact hc.1) (by rw [C.2.2.2.2.2.2.1]; exact hc.2) d (k H locs ls a b e)
theorem aw_cS_I (C : Ctx G X cc nL own rm) {r : Int32} (As : List Value) (st0 : List Value) (hM : MtI G (xL X) y cc' nL' ret' rm' false (As) μ r μ') (S : CS y cc' nL' ret' n) (hl : Cond.methodLink own idx y ∈ gw) (hs : Cond.static y ∈ gw) (hR : rm'.frames + 1 ≤ rm.frames ∧ 8 + (nL' + 11) + rm'.locals ≤ rm.locals) (h0 : rm'.cells = 0 ∧ rm'.slots = 0) (hf : cells ≤ rm.cells ∧ slots ≤ rm.slots) (hn : As.length = n) (hst : st0 = As.reverse ++ st) (hW : (st.map fun v => v.category).sum ≤ 8) (d : decode cc pc = .ok (.invokestatic idx, 3)) (k : AW G nL X cells slots (pc + 3) L (.int r :: st) μ') : AW G nL X cells slots pc L st0 μ :=
  aw_callS_I C As st0 hM S hl hs hR (by rw [h0.1, h0.2]; exact hf) hn hst hW (fun q => by cases q) d (by rw [h0.1, h0.2]; exact k)
theorem aw_cS_J (C : Ctx G X cc nL own rm) {r : Int64} (As : List Value) (st0 : List Value) (hM : MtJ G (xL X) y cc' nL' ret' rm' false (As) μ r μ') (S : CS y cc' nL' ret' n) (hl : Cond.methodLink own idx y ∈ gw) (hs : Cond.static y ∈ gw) (hR : rm'.frames + 1 ≤ rm.frames ∧ 8 + (nL' + 11) + rm'.locals ≤ rm.locals) (h0 : rm'.cells = 0 ∧ rm'.slots = 0) (hf : cells ≤ rm.cells ∧ slots ≤ rm.slots) (hn : As.length = n) (hst : st0 = As.reverse ++ st) (hW : (st.map fun v => v.category).sum ≤ 8) (d : decode cc pc = .ok (.invokestatic idx, 3)) (k : AW G nL X cells slots (pc + 3) L (.long r :: st) μ') : AW G nL X cells slots pc L st0 μ :=
  aw_callS_J C As st0 hM S hl hs hR (by rw [h0.1, h0.2]; exact hf) hn hst hW (fun q => by cases q) d (by rw [h0.1, h0.2]; exact k)
theorem aw_cS_V (C : Ctx G X cc nL own rm)  (As : List Value) (st0 : List Value) (hM : MtV G (xL X) y cc' nL' ret' rm' false (As) μ μ') (S : CS y cc' nL' ret' n) (hl : Cond.methodLink own idx y ∈ gw) (hs : Cond.static y ∈ gw) (hR : rm'.frames + 1 ≤ rm.frames ∧ 8 + (nL' + 11) + rm'.locals ≤ rm.locals) (h0 : rm'.cells = 0 ∧ rm'.slots = 0) (hf : cells ≤ rm.cells ∧ slots ≤ rm.slots) (hn : As.length = n) (hst : st0 = As.reverse ++ st) (hW : (st.map fun v => v.category).sum ≤ 8) (d : decode cc pc = .ok (.invokestatic idx, 3)) (k : AW G nL X cells slots (pc + 3) L (st) μ') : AW G nL X cells slots pc L st0 μ :=
  aw_callS_V C As st0 hM S hl hs hR (by rw [h0.1, h0.2]; exact hf) hn hst hW (fun q => by cases q) d (by rw [h0.1, h0.2]; exact k)
theorem aw_cSN_I (C : Ctx G X cc nL own rm) {r : Int32} {host : String} (As : List Value) (st0 : List Value) (hM : MtI G (xL X) y cc' nL' ret' rm' false (As) μ r μ') (S : CS y cc' nL' ret' n) (hl : Cond.methodLinkNest own idx y host ∈ nestW) (hs : Cond.static y ∈ gw) (hR : rm'.frames + 1 ≤ rm.frames ∧ 8 + (nL' + 11) + rm'.locals ≤ rm.locals) (h0 : rm'.cells = 0 ∧ rm'.slots = 0) (hf : cells ≤ rm.cells ∧ slots ≤ rm.slots) (hn : As.length = n) (hst : st0 = As.reverse ++ st) (hW : (st.map fun v => v.category).sum ≤ 8) (d : decode cc pc = .ok (.invokestatic idx, 3)) (k : AW G nL X cells slots (pc + 3) L (.int r :: st) μ') : AW G nL X cells slots pc L st0 μ :=
  aw_callSN_I C As st0 hM S hl hs hR (by rw [h0.1, h0.2]; exact hf) hn hst hW (fun q => by cases q) d (by rw [h0.1, h0.2]; exact k)
theorem aw_cSN_J (C : Ctx G X cc nL own rm) {r : Int64} {host : String} (As : List Value) (st0 : List Value) (hM : MtJ G (xL X) y cc' nL' ret' rm' false (As) μ r μ') (S : CS y cc' nL' ret' n) (hl : Cond.methodLinkNest own idx y host ∈ nestW) (hs : Cond.static y ∈ gw) (hR : rm'.frames + 1 ≤ rm.frames ∧ 8 + (nL' + 11) + rm'.locals ≤ rm.locals) (h0 : rm'.cells = 0 ∧ rm'.slots = 0) (hf : cells ≤ rm.cells ∧ slots ≤ rm.slots) (hn : As.length = n) (hst : st0 = As.reverse ++ st) (hW : (st.map fun v => v.category).sum ≤ 8) (d : decode cc pc = .ok (.invokestatic idx, 3)) (k : AW G nL X cells slots (pc + 3) L (.long r :: st) μ') : AW G nL X cells slots pc L st0 μ :=
  aw_callSN_J C As st0 hM S hl hs hR (by rw [h0.1, h0.2]; exact hf) hn hst hW (fun q => by cases q) d (by rw [h0.1, h0.2]; exact k)
theorem aw_cSN_V (C : Ctx G X cc nL own rm)  {host : String} (As : List Value) (st0 : List Value) (hM : MtV G (xL X) y cc' nL' ret' rm' false (As) μ μ') (S : CS y cc' nL' ret' n) (hl : Cond.methodLinkNest own idx y host ∈ nestW) (hs : Cond.static y ∈ gw) (hR : rm'.frames + 1 ≤ rm.frames ∧ 8 + (nL' + 11) + rm'.locals ≤ rm.locals) (h0 : rm'.cells = 0 ∧ rm'.slots = 0) (hf : cells ≤ rm.cells ∧ slots ≤ rm.slots) (hn : As.length = n) (hst : st0 = As.reverse ++ st) (hW : (st.map fun v => v.category).sum ≤ 8) (d : decode cc pc = .ok (.invokestatic idx, 3)) (k : AW G nL X cells slots (pc + 3) L (st) μ') : AW G nL X cells slots pc L st0 μ :=
  aw_callSN_V C As st0 hM S hl hs hR (by rw [h0.1, h0.2]; exact hf) hn hst hW (fun q => by cases q) d (by rw [h0.1, h0.2]; exact k)
theorem aw_cV_I (C : Ctx G X cc nL own rm) {a : Nat} {r : Int32} (As : List Value) (st0 : List Value) (hM : MtI G (xL X) y cc' nL' ret' rm' false (.ref (gZ G + a) :: As) μ r μ') (S : CS y cc' nL' ret' n) (hl : Cond.methodLink own idx y ∈ gw) (hi : Cond.instanceMethod y ∈ gw) (hse : Cond.selects y.cls y y ∈ gw) {ci : Nat} {cr : vw_C} (hcl : vwCl[ci]? = some cr) (hcy : cr.1 = y.cls) (hv : vO ci a μ = some ()) (hR : rm'.frames + 1 ≤ rm.frames ∧ 8 + (nL' + 11) + rm'.locals ≤ rm.locals) (h0 : rm'.cells = 0 ∧ rm'.slots = 0) (hf : cells ≤ rm.cells ∧ slots ≤ rm.slots) (hn : As.length = n) (hst : st0 = As.reverse ++ .ref (gZ G + a) :: st) (hW : (st.map fun v => v.category).sum ≤ 8) (d : decode cc pc = .ok (.invokevirtual idx, 3)) (k : AW G nL X cells slots (pc + 3) L (.int r :: st) μ') : AW G nL X cells slots pc L st0 μ :=
  aw_callV_I C As st0 hM S hl hi hse hcl hcy hv hR (by rw [h0.1, h0.2]; exact hf) hn hst hW (fun q => by cases q) d (by rw [h0.1, h0.2]; exact k)
theorem aw_cV_J (C : Ctx G X cc nL own rm) {a : Nat} {r : Int64} (As : List Value) (st0 : List Value) (hM : MtJ G (xL X) y cc' nL' ret' rm' false (.ref (gZ G + a) :: As) μ r μ') (S : CS y cc' nL' ret' n) (hl : Cond.methodLink own idx y ∈ gw) (hi : Cond.instanceMethod y ∈ gw) (hse : Cond.selects y.cls y y ∈ gw) {ci : Nat} {cr : vw_C} (hcl : vwCl[ci]? = some cr) (hcy : cr.1 = y.cls) (hv : vO ci a μ = some ()) (hR : rm'.frames + 1 ≤ rm.frames ∧ 8 + (nL' + 11) + rm'.locals ≤ rm.locals) (h0 : rm'.cells = 0 ∧ rm'.slots = 0) (hf : cells ≤ rm.cells ∧ slots ≤ rm.slots) (hn : As.length = n) (hst : st0 = As.reverse ++ .ref (gZ G + a) :: st) (hW : (st.map fun v => v.category).sum ≤ 8) (d : decode cc pc = .ok (.invokevirtual idx, 3)) (k : AW G nL X cells slots (pc + 3) L (.long r :: st) μ') : AW G nL X cells slots pc L st0 μ :=
  aw_callV_J C As st0 hM S hl hi hse hcl hcy hv hR (by rw [h0.1, h0.2]; exact hf) hn hst hW (fun q => by cases q) d (by rw [h0.1, h0.2]; exact k)
theorem aw_cV_V (C : Ctx G X cc nL own rm) {a : Nat}  (As : List Value) (st0 : List Value) (hM : MtV G (xL X) y cc' nL' ret' rm' false (.ref (gZ G + a) :: As) μ μ') (S : CS y cc' nL' ret' n) (hl : Cond.methodLink own idx y ∈ gw) (hi : Cond.instanceMethod y ∈ gw) (hse : Cond.selects y.cls y y ∈ gw) {ci : Nat} {cr : vw_C} (hcl : vwCl[ci]? = some cr) (hcy : cr.1 = y.cls) (hv : vO ci a μ = some ()) (hR : rm'.frames + 1 ≤ rm.frames ∧ 8 + (nL' + 11) + rm'.locals ≤ rm.locals) (h0 : rm'.cells = 0 ∧ rm'.slots = 0) (hf : cells ≤ rm.cells ∧ slots ≤ rm.slots) (hn : As.length = n) (hst : st0 = As.reverse ++ .ref (gZ G + a) :: st) (hW : (st.map fun v => v.category).sum ≤ 8) (d : decode cc pc = .ok (.invokevirtual idx, 3)) (k : AW G nL X cells slots (pc + 3) L (st) μ') : AW G nL X cells slots pc L st0 μ :=
  aw_callV_V C As st0 hM S hl hi hse hcl hcy hv hR (by rw [h0.1, h0.2]; exact hf) hn hst hW (fun q => by cases q) d (by rw [h0.1, h0.2]; exact k)
theorem aw_cVN_I (C : Ctx G X cc nL own rm) {a : Nat} {r : Int32} {host : String} (As : List Value) (st0 : List Value) (hM : MtI G (xL X) y cc' nL' ret' rm' false (.ref (gZ G + a) :: As) μ r μ') (S : CS y cc' nL' ret' n) (hl : Cond.methodLinkNest own idx y host ∈ nestW) (hi : Cond.instanceMethod y ∈ gw) (hse : Cond.selects y.cls y y ∈ gw) {ci : Nat} {cr : vw_C} (hcl : vwCl[ci]? = some cr) (hcy : cr.1 = y.cls) (hv : vO ci a μ = some ()) (hR : rm'.frames + 1 ≤ rm.frames ∧ 8 + (nL' + 11) + rm'.locals ≤ rm.locals) (h0 : rm'.cells = 0 ∧ rm'.slots = 0) (hf : cells ≤ rm.cells ∧ slots ≤ rm.slots) (hn : As.length = n) (hst : st0 = As.reverse ++ .ref (gZ G + a) :: st) (hW : (st.map fun v => v.category).sum ≤ 8) (d : decode cc pc = .ok (.invokevirtual idx, 3)) (k : AW G nL X cells slots (pc + 3) L (.int r :: st) μ') : AW G nL X cells slots pc L st0 μ :=
  aw_callVN_I C As st0 hM S hl hi hse hcl hcy hv hR (by rw [h0.1, h0.2]; exact hf) hn hst hW (fun q => by cases q) d (by rw [h0.1, h0.2]; exact k)
theorem aw_cVN_J (C : Ctx G X cc nL own rm) {a : Nat} {r : Int64} {host : String} (As : List Value) (st0 : List Value) (hM : MtJ G (xL X) y cc' nL' ret' rm' false (.ref (gZ G + a) :: As) μ r μ') (S : CS y cc' nL' ret' n) (hl : Cond.methodLinkNest own idx y host ∈ nestW) (hi : Cond.instanceMethod y ∈ gw) (hse : Cond.selects y.cls y y ∈ gw) {ci : Nat} {cr : vw_C} (hcl : vwCl[ci]? = some cr) (hcy : cr.1 = y.cls) (hv : vO ci a μ = some ()) (hR : rm'.frames + 1 ≤ rm.frames ∧ 8 + (nL' + 11) + rm'.locals ≤ rm.locals) (h0 : rm'.cells = 0 ∧ rm'.slots = 0) (hf : cells ≤ rm.cells ∧ slots ≤ rm.slots) (hn : As.length = n) (hst : st0 = As.reverse ++ .ref (gZ G + a) :: st) (hW : (st.map fun v => v.category).sum ≤ 8) (d : decode cc pc = .ok (.invokevirtual idx, 3)) (k : AW G nL X cells slots (pc + 3) L (.long r :: st) μ') : AW G nL X cells slots pc L st0 μ :=
  aw_callVN_J C As st0 hM S hl hi hse hcl hcy hv hR (by rw [h0.1, h0.2]; exact hf) hn hst hW (fun q => by cases q) d (by rw [h0.1, h0.2]; exact k)
theorem aw_cVN_V (C : Ctx G X cc nL own rm) {a : Nat}  {host : String} (As : List Value) (st0 : List Value) (hM : MtV G (xL X) y cc' nL' ret' rm' false (.ref (gZ G + a) :: As) μ μ') (S : CS y cc' nL' ret' n) (hl : Cond.methodLinkNest own idx y host ∈ nestW) (hi : Cond.instanceMethod y ∈ gw) (hse : Cond.selects y.cls y y ∈ gw) {ci : Nat} {cr : vw_C} (hcl : vwCl[ci]? = some cr) (hcy : cr.1 = y.cls) (hv : vO ci a μ = some ()) (hR : rm'.frames + 1 ≤ rm.frames ∧ 8 + (nL' + 11) + rm'.locals ≤ rm.locals) (h0 : rm'.cells = 0 ∧ rm'.slots = 0) (hf : cells ≤ rm.cells ∧ slots ≤ rm.slots) (hn : As.length = n) (hst : st0 = As.reverse ++ .ref (gZ G + a) :: st) (hW : (st.map fun v => v.category).sum ≤ 8) (d : decode cc pc = .ok (.invokevirtual idx, 3)) (k : AW G nL X cells slots (pc + 3) L (st) μ') : AW G nL X cells slots pc L st0 μ :=
  aw_callVN_V C As st0 hM S hl hi hse hcl hcy hv hR (by rw [h0.1, h0.2]; exact hf) hn hst hW (fun q => by cases q) d (by rw [h0.1, h0.2]; exact k)
end AWM
theorem mg {w : Cond} (i : Nat) (h : tables_1[i]? = some w) (g : goodWord w = true) : w ∈ gw := List.mem_filter.mpr ⟨List.mem_append_right _ (List.mem_of_getElem? h), g⟩
theorem mgs {y : MethodName} {k : Nat} (i : Nat) (h : lw_privs[i]? = some (y, k)) : Cond.selects y.cls y y ∈ gw := List.mem_filter.mpr ⟨List.mem_append_left _ (List.mem_map.mpr ⟨(y, k), List.mem_of_getElem? h, rfl⟩), rfl⟩
theorem mn {w : Cond} (i : Nat) (h : tables_1[i]? = some w) (g : isNest w = true) : w ∈ nestW := List.mem_filter.mpr ⟨List.mem_append_right _ (List.mem_of_getElem? h), g⟩
end
section
/-! ===== words of the tables that the walks use ===== -/
theorem ingX0 : ∀ w ∈ wsX00, w ∈ gw := by decide +kernel
theorem ingX1 : ∀ w ∈ wsX10, w ∈ gw := by decide +kernel
theorem ingX2 : ∀ w ∈ wsX20, w ∈ gw := by decide +kernel
theorem ingX3 : ∀ w ∈ wsX30, w ∈ gw := by decide +kernel
theorem ingX4 : ∀ w ∈ wsX40, w ∈ gw := by decide +kernel
theorem ingX5 : ∀ w ∈ wsX50, w ∈ gw := by decide +kernel
theorem ingX6 : ∀ w ∈ wsX60, w ∈ gw := by decide +kernel
theorem ingX7 : ∀ w ∈ wsX70, w ∈ gw := by decide +kernel
theorem ingX8 : ∀ w ∈ wsX80, w ∈ gw := by decide +kernel
theorem ingX9 : ∀ w ∈ wsX90, w ∈ gw := by decide +kernel
theorem ingX10 : ∀ w ∈ wsX100, w ∈ gw := by decide +kernel
theorem ingX11 : ∀ w ∈ wsX110, w ∈ gw := by decide +kernel
theorem fl_X10_12 : FL RX10 12 10 0 (.object "WhenToSpeak$Work") true := ⟨RX10, TX10, 11, tyX10, rfl, ingX10, tyX10_ok, nmX10, rfl, by decide, mg 367 (by decide +kernel) rfl, by decide +kernel, rfl, rfl⟩
theorem fl_X10_19 : FL RX10 19 10 1 (.object "WhenToSpeak$Ways") true := ⟨RX10, TX10, 11, tyX10, rfl, ingX10, tyX10_ok, nmX10, rfl, by decide, mg 368 (by decide +kernel) rfl, by decide +kernel, rfl, rfl⟩
theorem fl_X10_26 : FL RX10 26 10 2 (.object "WhenToSpeak$Book") true := ⟨RX10, TX10, 11, tyX10, rfl, ingX10, tyX10_ok, nmX10, rfl, by decide, mg 369 (by decide +kernel) rfl, by decide +kernel, rfl, rfl⟩
theorem fl_X10_33 : FL RX10 33 10 3 (.object "WhenToSpeak$LawText") true := ⟨RX10, TX10, 11, tyX10, rfl, ingX10, tyX10_ok, nmX10, rfl, by decide, mg 370 (by decide +kernel) rfl, by decide +kernel, rfl, rfl⟩
theorem fl_X10_39 : FL RX10 39 10 4 (.array (.object "WhenToSpeak$Laws")) true := ⟨RX10, TX10, 11, tyX10, rfl, ingX10, tyX10_ok, nmX10, rfl, by decide, mg 371 (by decide +kernel) rfl, by decide +kernel, rfl, rfl⟩
theorem fl_X10_46 : FL RX10 46 10 5 (.object "WhenToSpeak$Gate") true := ⟨RX10, TX10, 11, tyX10, rfl, ingX10, tyX10_ok, nmX10, rfl, by decide, mg 372 (by decide +kernel) rfl, by decide +kernel, rfl, rfl⟩
theorem fl_X10_55 : FL RX10 55 10 6 (.object "WhenToSpeak$Planner") true := ⟨RX10, TX10, 11, tyX10, rfl, ingX10, tyX10_ok, nmX10, rfl, by decide, mg 373 (by decide +kernel) rfl, by decide +kernel, rfl, rfl⟩
theorem fl_X10_62 : FL RX10 62 10 7 (.object "WhenToSpeak$Trial") true := ⟨RX10, TX10, 11, tyX10, rfl, ingX10, tyX10_ok, nmX10, rfl, by decide, mg 374 (by decide +kernel) rfl, by decide +kernel, rfl, rfl⟩
theorem fl_X10_66 : FL RX10 66 10 8 (.array .int) true := ⟨RX10, TX10, 11, tyX10, rfl, ingX10, tyX10_ok, nmX10, rfl, by decide, mg 375 (by decide +kernel) rfl, by decide +kernel, rfl, rfl⟩
theorem fl_X10_71 : FL RX10 71 10 9 (.object "WhenToSpeak$Laws") false := ⟨RX10, TX10, 11, tyX10, rfl, ingX10, tyX10_ok, nmX10, rfl, by decide, mg 376 (by decide +kernel) rfl, by decide +kernel, rfl, rfl⟩
theorem fl_X10_82 : FL RX10 82 9 0 (.array (.array .int)) true := ⟨RX9, TX9, 8, tyX9, rfl, ingX9, tyX9_ok, nmX9, rfl, by decide, mg 36 (by decide +kernel) rfl, by decide +kernel, rfl, rfl⟩
theorem fl_X10_94 : FL RX10 94 9 1 (.array (.array .int)) true := ⟨RX9, TX9, 8, tyX9, rfl, ingX9, tyX9_ok, nmX9, rfl, by decide, mg 38 (by decide +kernel) rfl, by decide +kernel, rfl, rfl⟩
theorem fl_X10_97 : FL RX10 97 9 2 (.array .int) true := ⟨RX9, TX9, 8, tyX9, rfl, ingX9, tyX9_ok, nmX9, rfl, by decide, mg 40 (by decide +kernel) rfl, by decide +kernel, rfl, rfl⟩
theorem fl_X10_100 : FL RX10 100 9 5 (.int) false := ⟨RX9, TX9, 8, tyX9, rfl, ingX9, tyX9_ok, nmX9, rfl, by decide, mg 48 (by decide +kernel) rfl, by decide +kernel, rfl, rfl⟩
theorem fl_X10_107 : FL RX10 107 9 3 (.array (.array .int)) true := ⟨RX9, TX9, 8, tyX9, rfl, ingX9, tyX9_ok, nmX9, rfl, by decide, mg 42 (by decide +kernel) rfl, by decide +kernel, rfl, rfl⟩
theorem fl_X10_110 : FL RX10 110 10 10 (.int) false := ⟨RX10, TX10, 11, tyX10, rfl, ingX10, tyX10_ok, nmX10, rfl, by decide, mg 377 (by decide +kernel) rfl, by decide +kernel, rfl, rfl⟩
theorem fl_X10_124 : FL RX10 124 9 4 (.array (.array .int)) true := ⟨RX9, TX9, 8, tyX9, rfl, ingX9, tyX9_ok, nmX9, rfl, by decide, mg 46 (by decide +kernel) rfl, by decide +kernel, rfl, rfl⟩
theorem fl_X10_132 : FL RX10 132 0 2 (.int) false := ⟨RX0, TX0, 4, tyX0, rfl, ingX0, tyX0_ok, nmX0, rfl, by decide, mg 185 (by decide +kernel) rfl, by decide +kernel, rfl, rfl⟩
theorem fl_X10_135 : FL RX10 135 0 0 (.array (.object "WhenToSpeak$Thing")) true := ⟨RX0, TX0, 4, tyX0, rfl, ingX0, tyX0_ok, nmX0, rfl, by decide, mg 178 (by decide +kernel) rfl, by decide +kernel, rfl, rfl⟩
theorem fl_X10_139 : FL RX10 139 6 0 (.int) false := ⟨RX6, TX6, 9, tyX6, rfl, ingX6, tyX6_ok, nmX6, rfl, by decide, mg 105 (by decide +kernel) rfl, by decide +kernel, rfl, rfl⟩
theorem fl_X10_144 : FL RX10 144 6 1 (.int) false := ⟨RX6, TX6, 9, tyX6, rfl, ingX6, tyX6_ok, nmX6, rfl, by decide, mg 109 (by decide +kernel) rfl, by decide +kernel, rfl, rfl⟩
theorem fl_X10_147 : FL RX10 147 6 2 (.int) false := ⟨RX6, TX6, 9, tyX6, rfl, ingX6, tyX6_ok, nmX6, rfl, by decide, mg 112 (by decide +kernel) rfl, by decide +kernel, rfl, rfl⟩
theorem fl_X10_150 : FL RX10 150 6 3 (.int) false := ⟨RX6, TX6, 9, tyX6, rfl, ingX6, tyX6_ok, nmX6, rfl, by decide, mg 114 (by decide +kernel) rfl, by decide +kernel, rfl, rfl⟩
theorem fl_X10_153 : FL RX10 153 6 4 (.int) false := ⟨RX6, TX6, 9, tyX6, rfl, ingX6, tyX6_ok, nmX6, rfl, by decide, mg 116 (by decide +kernel) rfl, by decide +kernel, rfl, rfl⟩
theorem fl_X10_156 : FL RX10 156 6 5 (.int) false := ⟨RX6, TX6, 9, tyX6, rfl, ingX6, tyX6_ok, nmX6, rfl, by decide, mg 118 (by decide +kernel) rfl, by decide +kernel, rfl, rfl⟩
theorem fl_X10_159 : FL RX10 159 6 6 (.int) false := ⟨RX6, TX6, 9, tyX6, rfl, ingX6, tyX6_ok, nmX6, rfl, by decide, mg 122 (by decide +kernel) rfl, by decide +kernel, rfl, rfl⟩
theorem fl_X10_162 : FL RX10 162 6 7 (.int) false := ⟨RX6, TX6, 9, tyX6, rfl, ingX6, tyX6_ok, nmX6, rfl, by decide, mg 125 (by decide +kernel) rfl, by decide +kernel, rfl, rfl⟩
theorem fl_X10_168 : FL RX10 168 6 8 (.boolean) false := ⟨RX6, TX6, 9, tyX6, rfl, ingX6, tyX6_ok, nmX6, rfl, by decide, mg 128 (by decide +kernel) rfl, by decide +kernel, rfl, rfl⟩
theorem fl_X10_184 : FL RX10 184 8 0 (.array (.array .int)) true := ⟨RX8, TX8, 2, tyX8, rfl, ingX8, tyX8_ok, nmX8, rfl, by decide, mg 78 (by decide +kernel) rfl, by decide +kernel, rfl, rfl⟩
theorem fl_X10_187 : FL RX10 187 8 1 (.array .int) true := ⟨RX8, TX8, 2, tyX8, rfl, ingX8, tyX8_ok, nmX8, rfl, by decide, mg 81 (by decide +kernel) rfl, by decide +kernel, rfl, rfl⟩
theorem fl_X10_197 : FL RX10 197 0 3 (.int) false := ⟨RX0, TX0, 4, tyX0, rfl, ingX0, tyX0_ok, nmX0, rfl, by decide, mg 187 (by decide +kernel) rfl, by decide +kernel, rfl, rfl⟩
theorem fl_X10_200 : FL RX10 200 2 0 (.int) false := ⟨RX2, TX2, 5, tyX2, rfl, ingX2, tyX2_ok, nmX2, rfl, by decide, mg 204 (by decide +kernel) rfl, by decide +kernel, rfl, rfl⟩
theorem fl_X10_211 : FL RX10 211 2 1 (.int) false := ⟨RX2, TX2, 5, tyX2, rfl, ingX2, tyX2_ok, nmX2, rfl, by decide, mg 206 (by decide +kernel) rfl, by decide +kernel, rfl, rfl⟩
theorem fl_X10_214 : FL RX10 214 3 0 (.int) false := ⟨RX3, TX3, 5, tyX3, rfl, ingX3, tyX3_ok, nmX3, rfl, by decide, mg 351 (by decide +kernel) rfl, by decide +kernel, rfl, rfl⟩
theorem fl_X10_217 : FL RX10 217 2 2 (.int) false := ⟨RX2, TX2, 5, tyX2, rfl, ingX2, tyX2_ok, nmX2, rfl, by decide, mg 208 (by decide +kernel) rfl, by decide +kernel, rfl, rfl⟩
theorem fl_X10_247 : FL RX10 247 4 0 (.int) false := ⟨RX4, TX4, 19, tyX4, rfl, ingX4, tyX4_ok, nmX4, rfl, by decide, mg 249 (by decide +kernel) rfl, by decide +kernel, rfl, rfl⟩
theorem fl_X10_250 : FL RX10 250 4 1 (.array .int) true := ⟨RX4, TX4, 19, tyX4, rfl, ingX4, tyX4_ok, nmX4, rfl, by decide, mg 251 (by decide +kernel) rfl, by decide +kernel, rfl, rfl⟩
theorem fl_X10_253 : FL RX10 253 4 2 (.array .int) true := ⟨RX4, TX4, 19, tyX4, rfl, ingX4, tyX4_ok, nmX4, rfl, by decide, mg 253 (by decide +kernel) rfl, by decide +kernel, rfl, rfl⟩
theorem fl_X10_260 : FL RX10 260 0 1 (.array (.object "WhenToSpeak$Saying")) true := ⟨RX0, TX0, 4, tyX0, rfl, ingX0, tyX0_ok, nmX0, rfl, by decide, mg 180 (by decide +kernel) rfl, by decide +kernel, rfl, rfl⟩
theorem fl_X10_264 : FL RX10 264 5 0 (.int) false := ⟨RX5, TX5, 5, tyX5, rfl, ingX5, tyX5_ok, nmX5, rfl, by decide, mg 154 (by decide +kernel) rfl, by decide +kernel, rfl, rfl⟩
theorem fl_X10_269 : FL RX10 269 5 1 (.int) false := ⟨RX5, TX5, 5, tyX5, rfl, ingX5, tyX5_ok, nmX5, rfl, by decide, mg 156 (by decide +kernel) rfl, by decide +kernel, rfl, rfl⟩
theorem fl_X10_272 : FL RX10 272 5 2 (.int) false := ⟨RX5, TX5, 5, tyX5, rfl, ingX5, tyX5_ok, nmX5, rfl, by decide, mg 158 (by decide +kernel) rfl, by decide +kernel, rfl, rfl⟩
theorem fl_X10_275 : FL RX10 275 5 3 (.int) false := ⟨RX5, TX5, 5, tyX5, rfl, ingX5, tyX5_ok, nmX5, rfl, by decide, mg 160 (by decide +kernel) rfl, by decide +kernel, rfl, rfl⟩
theorem fl_X10_279 : FL RX10 279 5 4 (.int) false := ⟨RX5, TX5, 5, tyX5, rfl, ingX5, tyX5_ok, nmX5, rfl, by decide, mg 162 (by decide +kernel) rfl, by decide +kernel, rfl, rfl⟩
theorem fl_X10_314 : FL RX10 314 7 0 (.int) false := ⟨RX7, TX7, 8, tyX7, rfl, ingX7, tyX7_ok, nmX7, rfl, by decide, mg 316 (by decide +kernel) rfl, by decide +kernel, rfl, rfl⟩
theorem fl_X10_317 : FL RX10 317 7 1 (.int) false := ⟨RX7, TX7, 8, tyX7, rfl, ingX7, tyX7_ok, nmX7, rfl, by decide, mg 318 (by decide +kernel) rfl, by decide +kernel, rfl, rfl⟩
theorem fl_X10_320 : FL RX10 320 7 2 (.int) false := ⟨RX7, TX7, 8, tyX7, rfl, ingX7, tyX7_ok, nmX7, rfl, by decide, mg 320 (by decide +kernel) rfl, by decide +kernel, rfl, rfl⟩
theorem fl_X10_323 : FL RX10 323 7 3 (.int) false := ⟨RX7, TX7, 8, tyX7, rfl, ingX7, tyX7_ok, nmX7, rfl, by decide, mg 322 (by decide +kernel) rfl, by decide +kernel, rfl, rfl⟩
theorem fl_X0_11 : FL RX0 11 0 0 (.array (.object "WhenToSpeak$Thing")) true := ⟨RX0, TX0, 4, tyX0, rfl, ingX0, tyX0_ok, nmX0, rfl, by decide, mg 174 (by decide +kernel) rfl, by decide +kernel, rfl, rfl⟩
theorem fl_X0_19 : FL RX0 19 0 1 (.array (.object "WhenToSpeak$Saying")) true := ⟨RX0, TX0, 4, tyX0, rfl, ingX0, tyX0_ok, nmX0, rfl, by decide, mg 179 (by decide +kernel) rfl, by decide +kernel, rfl, rfl⟩
theorem fl_X0_25 : FL RX0 25 0 2 (.int) false := ⟨RX0, TX0, 4, tyX0, rfl, ingX0, tyX0_ok, nmX0, rfl, by decide, mg 181 (by decide +kernel) rfl, by decide +kernel, rfl, rfl⟩
theorem fl_X0_29 : FL RX0 29 0 3 (.int) false := ⟨RX0, TX0, 4, tyX0, rfl, ingX0, tyX0_ok, nmX0, rfl, by decide, mg 186 (by decide +kernel) rfl, by decide +kernel, rfl, rfl⟩
theorem fl_X0_32 : FL RX0 32 6 8 (.boolean) false := ⟨RX6, TX6, 9, tyX6, rfl, ingX6, tyX6_ok, nmX6, rfl, by decide, mg 127 (by decide +kernel) rfl, by decide +kernel, rfl, rfl⟩
theorem fl_X0_40 : FL RX0 40 6 6 (.int) false := ⟨RX6, TX6, 9, tyX6, rfl, ingX6, tyX6_ok, nmX6, rfl, by decide, mg 121 (by decide +kernel) rfl, by decide +kernel, rfl, rfl⟩
theorem fl_X0_47 : FL RX0 47 5 1 (.int) false := ⟨RX5, TX5, 5, tyX5, rfl, ingX5, tyX5_ok, nmX5, rfl, by decide, mg 155 (by decide +kernel) rfl, by decide +kernel, rfl, rfl⟩
theorem fl_X0_54 : FL RX0 54 5 4 (.int) false := ⟨RX5, TX5, 5, tyX5, rfl, ingX5, tyX5_ok, nmX5, rfl, by decide, mg 161 (by decide +kernel) rfl, by decide +kernel, rfl, rfl⟩
theorem fl_X0_57 : FL RX0 57 5 0 (.int) false := ⟨RX5, TX5, 5, tyX5, rfl, ingX5, tyX5_ok, nmX5, rfl, by decide, mg 153 (by decide +kernel) rfl, by decide +kernel, rfl, rfl⟩
theorem fl_X0_60 : FL RX0 60 6 1 (.int) false := ⟨RX6, TX6, 9, tyX6, rfl, ingX6, tyX6_ok, nmX6, rfl, by decide, mg 108 (by decide +kernel) rfl, by decide +kernel, rfl, rfl⟩
theorem fl_X0_69 : FL RX0 69 6 0 (.int) false := ⟨RX6, TX6, 9, tyX6, rfl, ingX6, tyX6_ok, nmX6, rfl, by decide, mg 104 (by decide +kernel) rfl, by decide +kernel, rfl, rfl⟩
theorem fl_X0_72 : FL RX0 72 6 2 (.int) false := ⟨RX6, TX6, 9, tyX6, rfl, ingX6, tyX6_ok, nmX6, rfl, by decide, mg 111 (by decide +kernel) rfl, by decide +kernel, rfl, rfl⟩
theorem fl_X0_75 : FL RX0 75 5 3 (.int) false := ⟨RX5, TX5, 5, tyX5, rfl, ingX5, tyX5_ok, nmX5, rfl, by decide, mg 159 (by decide +kernel) rfl, by decide +kernel, rfl, rfl⟩
theorem fl_X0_78 : FL RX0 78 5 2 (.int) false := ⟨RX5, TX5, 5, tyX5, rfl, ingX5, tyX5_ok, nmX5, rfl, by decide, mg 157 (by decide +kernel) rfl, by decide +kernel, rfl, rfl⟩
theorem fl_X1_21 : FL RX1 21 1 2 (.int) false := ⟨RX1, TX1, 3, tyX1, rfl, ingX1, tyX1_ok, nmX1, rfl, by decide, mg 232 (by decide +kernel) rfl, by decide +kernel, rfl, rfl⟩
theorem fl_X1_27 : FL RX1 27 1 0 (.int) false := ⟨RX1, TX1, 3, tyX1, rfl, ingX1, tyX1_ok, nmX1, rfl, by decide, mg 230 (by decide +kernel) rfl, by decide +kernel, rfl, rfl⟩
theorem fl_X1_30 : FL RX1 30 1 1 (.int) false := ⟨RX1, TX1, 3, tyX1, rfl, ingX1, tyX1_ok, nmX1, rfl, by decide, mg 231 (by decide +kernel) rfl, by decide +kernel, rfl, rfl⟩
theorem fl_X1_33 : FL RX1 33 0 2 (.int) false := ⟨RX0, TX0, 4, tyX0, rfl, ingX0, tyX0_ok, nmX0, rfl, by decide, mg 182 (by decide +kernel) rfl, by decide +kernel, rfl, rfl⟩
theorem fl_X1_38 : FL RX1 38 0 0 (.array (.object "WhenToSpeak$Thing")) true := ⟨RX0, TX0, 4, tyX0, rfl, ingX0, tyX0_ok, nmX0, rfl, by decide, mg 175 (by decide +kernel) rfl, by decide +kernel, rfl, rfl⟩
theorem fl_X1_42 : FL RX1 42 6 3 (.int) false := ⟨RX6, TX6, 9, tyX6, rfl, ingX6, tyX6_ok, nmX6, rfl, by decide, mg 113 (by decide +kernel) rfl, by decide +kernel, rfl, rfl⟩
theorem fl_X1_53 : FL RX1 53 6 1 (.int) false := ⟨RX6, TX6, 9, tyX6, rfl, ingX6, tyX6_ok, nmX6, rfl, by decide, mg 107 (by decide +kernel) rfl, by decide +kernel, rfl, rfl⟩
theorem fl_X2_9 : FL RX2 9 2 2 (.int) false := ⟨RX2, TX2, 5, tyX2, rfl, ingX2, tyX2_ok, nmX2, rfl, by decide, mg 207 (by decide +kernel) rfl, by decide +kernel, rfl, rfl⟩
theorem fl_X2_15 : FL RX2 15 2 3 (.array .int) true := ⟨RX2, TX2, 5, tyX2, rfl, ingX2, tyX2_ok, nmX2, rfl, by decide, mg 209 (by decide +kernel) rfl, by decide +kernel, rfl, rfl⟩
theorem fl_X2_19 : FL RX2 19 2 0 (.int) false := ⟨RX2, TX2, 5, tyX2, rfl, ingX2, tyX2_ok, nmX2, rfl, by decide, mg 203 (by decide +kernel) rfl, by decide +kernel, rfl, rfl⟩
theorem fl_X2_22 : FL RX2 22 2 4 (.int) false := ⟨RX2, TX2, 5, tyX2, rfl, ingX2, tyX2_ok, nmX2, rfl, by decide, mg 210 (by decide +kernel) rfl, by decide +kernel, rfl, rfl⟩
theorem fl_X2_25 : FL RX2 25 2 1 (.int) false := ⟨RX2, TX2, 5, tyX2, rfl, ingX2, tyX2_ok, nmX2, rfl, by decide, mg 205 (by decide +kernel) rfl, by decide +kernel, rfl, rfl⟩
theorem fl_X2_28 : FL RX2 28 3 0 (.int) false := ⟨RX3, TX3, 5, tyX3, rfl, ingX3, tyX3_ok, nmX3, rfl, by decide, mg 350 (by decide +kernel) rfl, by decide +kernel, rfl, rfl⟩
theorem fl_X3_9 : FL RX3 9 3 1 (.array .int) true := ⟨RX3, TX3, 5, tyX3, rfl, ingX3, tyX3_ok, nmX3, rfl, by decide, mg 352 (by decide +kernel) rfl, by decide +kernel, rfl, rfl⟩
theorem fl_X3_15 : FL RX3 15 3 2 (.array .int) true := ⟨RX3, TX3, 5, tyX3, rfl, ingX3, tyX3_ok, nmX3, rfl, by decide, mg 353 (by decide +kernel) rfl, by decide +kernel, rfl, rfl⟩
theorem fl_X3_18 : FL RX3 18 3 3 (.array .int) true := ⟨RX3, TX3, 5, tyX3, rfl, ingX3, tyX3_ok, nmX3, rfl, by decide, mg 354 (by decide +kernel) rfl, by decide +kernel, rfl, rfl⟩
theorem fl_X3_21 : FL RX3 21 3 4 (.array .int) true := ⟨RX3, TX3, 5, tyX3, rfl, ingX3, tyX3_ok, nmX3, rfl, by decide, mg 355 (by decide +kernel) rfl, by decide +kernel, rfl, rfl⟩
theorem fl_X3_24 : FL RX3 24 3 0 (.int) false := ⟨RX3, TX3, 5, tyX3, rfl, ingX3, tyX3_ok, nmX3, rfl, by decide, mg 349 (by decide +kernel) rfl, by decide +kernel, rfl, rfl⟩
theorem fl_X4_9 : FL RX4 9 4 1 (.array .int) true := ⟨RX4, TX4, 19, tyX4, rfl, ingX4, tyX4_ok, nmX4, rfl, by decide, mg 250 (by decide +kernel) rfl, by decide +kernel, rfl, rfl⟩
theorem fl_X4_15 : FL RX4 15 4 2 (.array .int) true := ⟨RX4, TX4, 19, tyX4, rfl, ingX4, tyX4_ok, nmX4, rfl, by decide, mg 252 (by decide +kernel) rfl, by decide +kernel, rfl, rfl⟩
theorem fl_X4_21 : FL RX4 21 4 6 (.object "WhenToSpeak$Gate") true := ⟨RX4, TX4, 19, tyX4, rfl, ingX4, tyX4_ok, nmX4, rfl, by decide, mg 257 (by decide +kernel) rfl, by decide +kernel, rfl, rfl⟩
theorem fl_X4_25 : FL RX4 25 4 7 (.array .int) true := ⟨RX4, TX4, 19, tyX4, rfl, ingX4, tyX4_ok, nmX4, rfl, by decide, mg 258 (by decide +kernel) rfl, by decide +kernel, rfl, rfl⟩
theorem fl_X4_28 : FL RX4 28 4 8 (.array .int) true := ⟨RX4, TX4, 19, tyX4, rfl, ingX4, tyX4_ok, nmX4, rfl, by decide, mg 259 (by decide +kernel) rfl, by decide +kernel, rfl, rfl⟩
theorem fl_X4_31 : FL RX4 31 4 9 (.array .int) true := ⟨RX4, TX4, 19, tyX4, rfl, ingX4, tyX4_ok, nmX4, rfl, by decide, mg 260 (by decide +kernel) rfl, by decide +kernel, rfl, rfl⟩
theorem fl_X4_34 : FL RX4 34 4 10 (.array .int) true := ⟨RX4, TX4, 19, tyX4, rfl, ingX4, tyX4_ok, nmX4, rfl, by decide, mg 261 (by decide +kernel) rfl, by decide +kernel, rfl, rfl⟩
theorem fl_X4_37 : FL RX4 37 4 11 (.array .int) true := ⟨RX4, TX4, 19, tyX4, rfl, ingX4, tyX4_ok, nmX4, rfl, by decide, mg 262 (by decide +kernel) rfl, by decide +kernel, rfl, rfl⟩
theorem fl_X4_40 : FL RX4 40 4 12 (.array .int) true := ⟨RX4, TX4, 19, tyX4, rfl, ingX4, tyX4_ok, nmX4, rfl, by decide, mg 263 (by decide +kernel) rfl, by decide +kernel, rfl, rfl⟩
theorem fl_X4_43 : FL RX4 43 4 13 (.array .int) true := ⟨RX4, TX4, 19, tyX4, rfl, ingX4, tyX4_ok, nmX4, rfl, by decide, mg 264 (by decide +kernel) rfl, by decide +kernel, rfl, rfl⟩
theorem fl_X4_46 : FL RX4 46 4 14 (.array .int) true := ⟨RX4, TX4, 19, tyX4, rfl, ingX4, tyX4_ok, nmX4, rfl, by decide, mg 265 (by decide +kernel) rfl, by decide +kernel, rfl, rfl⟩
theorem fl_X4_49 : FL RX4 49 4 15 (.array .int) true := ⟨RX4, TX4, 19, tyX4, rfl, ingX4, tyX4_ok, nmX4, rfl, by decide, mg 266 (by decide +kernel) rfl, by decide +kernel, rfl, rfl⟩
theorem fl_X4_52 : FL RX4 52 4 3 (.object "WhenToSpeak$Work") true := ⟨RX4, TX4, 19, tyX4, rfl, ingX4, tyX4_ok, nmX4, rfl, by decide, mg 254 (by decide +kernel) rfl, by decide +kernel, rfl, rfl⟩
theorem fl_X4_56 : FL RX4 56 4 4 (.object "WhenToSpeak$Ways") true := ⟨RX4, TX4, 19, tyX4, rfl, ingX4, tyX4_ok, nmX4, rfl, by decide, mg 255 (by decide +kernel) rfl, by decide +kernel, rfl, rfl⟩
theorem fl_X4_60 : FL RX4 60 4 5 (.object "WhenToSpeak$Book") true := ⟨RX4, TX4, 19, tyX4, rfl, ingX4, tyX4_ok, nmX4, rfl, by decide, mg 256 (by decide +kernel) rfl, by decide +kernel, rfl, rfl⟩
theorem fl_X4_70 : FL RX4 70 4 17 (.int) false := ⟨RX4, TX4, 19, tyX4, rfl, ingX4, tyX4_ok, nmX4, rfl, by decide, mg 268 (by decide +kernel) rfl, by decide +kernel, rfl, rfl⟩
theorem fl_X4_80 : FL RX4 80 4 18 (.boolean) false := ⟨RX4, TX4, 19, tyX4, rfl, ingX4, tyX4_ok, nmX4, rfl, by decide, mg 269 (by decide +kernel) rfl, by decide +kernel, rfl, rfl⟩
theorem fl_X4_108 : FL RX4 108 4 16 (.int) false := ⟨RX4, TX4, 19, tyX4, rfl, ingX4, tyX4_ok, nmX4, rfl, by decide, mg 267 (by decide +kernel) rfl, by decide +kernel, rfl, rfl⟩
theorem fl_X4_115 : FL RX4 115 4 0 (.int) false := ⟨RX4, TX4, 19, tyX4, rfl, ingX4, tyX4_ok, nmX4, rfl, by decide, mg 248 (by decide +kernel) rfl, by decide +kernel, rfl, rfl⟩
theorem fl_X4_121 : FL RX4 121 0 2 (.int) false := ⟨RX0, TX0, 4, tyX0, rfl, ingX0, tyX0_ok, nmX0, rfl, by decide, mg 184 (by decide +kernel) rfl, by decide +kernel, rfl, rfl⟩
theorem fl_X4_124 : FL RX4 124 0 0 (.array (.object "WhenToSpeak$Thing")) true := ⟨RX0, TX0, 4, tyX0, rfl, ingX0, tyX0_ok, nmX0, rfl, by decide, mg 177 (by decide +kernel) rfl, by decide +kernel, rfl, rfl⟩
theorem fl_X4_128 : FL RX4 128 6 0 (.int) false := ⟨RX6, TX6, 9, tyX6, rfl, ingX6, tyX6_ok, nmX6, rfl, by decide, mg 102 (by decide +kernel) rfl, by decide +kernel, rfl, rfl⟩
theorem fl_X4_140 : FL RX4 140 6 2 (.int) false := ⟨RX6, TX6, 9, tyX6, rfl, ingX6, tyX6_ok, nmX6, rfl, by decide, mg 110 (by decide +kernel) rfl, by decide +kernel, rfl, rfl⟩
theorem fl_X4_143 : FL RX4 143 9 4 (.array (.array .int)) true := ⟨RX9, TX9, 8, tyX9, rfl, ingX9, tyX9_ok, nmX9, rfl, by decide, mg 45 (by decide +kernel) rfl, by decide +kernel, rfl, rfl⟩
theorem fl_X4_167 : FL RX4 167 8 1 (.array .int) true := ⟨RX8, TX8, 2, tyX8, rfl, ingX8, tyX8_ok, nmX8, rfl, by decide, mg 80 (by decide +kernel) rfl, by decide +kernel, rfl, rfl⟩
theorem fl_X6_9 : FL RX6 9 6 8 (.boolean) false := ⟨RX6, TX6, 9, tyX6, rfl, ingX6, tyX6_ok, nmX6, rfl, by decide, mg 126 (by decide +kernel) rfl, by decide +kernel, rfl, rfl⟩
theorem fl_X6_15 : FL RX6 15 6 6 (.int) false := ⟨RX6, TX6, 9, tyX6, rfl, ingX6, tyX6_ok, nmX6, rfl, by decide, mg 119 (by decide +kernel) rfl, by decide +kernel, rfl, rfl⟩
theorem fl_X6_19 : FL RX6 19 6 4 (.int) false := ⟨RX6, TX6, 9, tyX6, rfl, ingX6, tyX6_ok, nmX6, rfl, by decide, mg 115 (by decide +kernel) rfl, by decide +kernel, rfl, rfl⟩
theorem fl_X6_22 : FL RX6 22 6 5 (.int) false := ⟨RX6, TX6, 9, tyX6, rfl, ingX6, tyX6_ok, nmX6, rfl, by decide, mg 117 (by decide +kernel) rfl, by decide +kernel, rfl, rfl⟩
theorem fl_X6_25 : FL RX6 25 6 7 (.int) false := ⟨RX6, TX6, 9, tyX6, rfl, ingX6, tyX6_ok, nmX6, rfl, by decide, mg 123 (by decide +kernel) rfl, by decide +kernel, rfl, rfl⟩
theorem fl_X6_34 : FL RX6 34 6 1 (.int) false := ⟨RX6, TX6, 9, tyX6, rfl, ingX6, tyX6_ok, nmX6, rfl, by decide, mg 106 (by decide +kernel) rfl, by decide +kernel, rfl, rfl⟩
theorem fl_X7_7 : FL RX7 7 7 4 (.object "WhenToSpeak$Work") true := ⟨RX7, TX7, 8, tyX7, rfl, ingX7, tyX7_ok, nmX7, rfl, by decide, mg 323 (by decide +kernel) rfl, by decide +kernel, rfl, rfl⟩
theorem fl_X7_13 : FL RX7 13 7 5 (.object "WhenToSpeak$Ways") true := ⟨RX7, TX7, 8, tyX7, rfl, ingX7, tyX7_ok, nmX7, rfl, by decide, mg 324 (by decide +kernel) rfl, by decide +kernel, rfl, rfl⟩
theorem fl_X7_17 : FL RX7 17 7 6 (.object "WhenToSpeak$Book") true := ⟨RX7, TX7, 8, tyX7, rfl, ingX7, tyX7_ok, nmX7, rfl, by decide, mg 325 (by decide +kernel) rfl, by decide +kernel, rfl, rfl⟩
theorem fl_X7_21 : FL RX7 21 7 0 (.int) false := ⟨RX7, TX7, 8, tyX7, rfl, ingX7, tyX7_ok, nmX7, rfl, by decide, mg 315 (by decide +kernel) rfl, by decide +kernel, rfl, rfl⟩
theorem fl_X7_25 : FL RX7 25 7 1 (.int) false := ⟨RX7, TX7, 8, tyX7, rfl, ingX7, tyX7_ok, nmX7, rfl, by decide, mg 317 (by decide +kernel) rfl, by decide +kernel, rfl, rfl⟩
theorem fl_X7_28 : FL RX7 28 7 2 (.int) false := ⟨RX7, TX7, 8, tyX7, rfl, ingX7, tyX7_ok, nmX7, rfl, by decide, mg 319 (by decide +kernel) rfl, by decide +kernel, rfl, rfl⟩
theorem fl_X7_31 : FL RX7 31 7 3 (.int) false := ⟨RX7, TX7, 8, tyX7, rfl, ingX7, tyX7_ok, nmX7, rfl, by decide, mg 321 (by decide +kernel) rfl, by decide +kernel, rfl, rfl⟩
theorem fl_X7_34 : FL RX7 34 7 7 (.int) false := ⟨RX7, TX7, 8, tyX7, rfl, ingX7, tyX7_ok, nmX7, rfl, by decide, mg 326 (by decide +kernel) rfl, by decide +kernel, rfl, rfl⟩
theorem fl_X7_51 : FL RX7 51 9 4 (.array (.array .int)) true := ⟨RX9, TX9, 8, tyX9, rfl, ingX9, tyX9_ok, nmX9, rfl, by decide, mg 44 (by decide +kernel) rfl, by decide +kernel, rfl, rfl⟩
theorem fl_X7_61 : FL RX7 61 0 2 (.int) false := ⟨RX0, TX0, 4, tyX0, rfl, ingX0, tyX0_ok, nmX0, rfl, by decide, mg 183 (by decide +kernel) rfl, by decide +kernel, rfl, rfl⟩
theorem fl_X7_70 : FL RX7 70 0 0 (.array (.object "WhenToSpeak$Thing")) true := ⟨RX0, TX0, 4, tyX0, rfl, ingX0, tyX0_ok, nmX0, rfl, by decide, mg 176 (by decide +kernel) rfl, by decide +kernel, rfl, rfl⟩
theorem fl_X7_74 : FL RX7 74 6 6 (.int) false := ⟨RX6, TX6, 9, tyX6, rfl, ingX6, tyX6_ok, nmX6, rfl, by decide, mg 120 (by decide +kernel) rfl, by decide +kernel, rfl, rfl⟩
theorem fl_X7_83 : FL RX7 83 6 7 (.int) false := ⟨RX6, TX6, 9, tyX6, rfl, ingX6, tyX6_ok, nmX6, rfl, by decide, mg 124 (by decide +kernel) rfl, by decide +kernel, rfl, rfl⟩
theorem fl_X7_86 : FL RX7 86 6 0 (.int) false := ⟨RX6, TX6, 9, tyX6, rfl, ingX6, tyX6_ok, nmX6, rfl, by decide, mg 103 (by decide +kernel) rfl, by decide +kernel, rfl, rfl⟩
theorem fl_X8_11 : FL RX8 11 8 0 (.array (.array .int)) true := ⟨RX8, TX8, 2, tyX8, rfl, ingX8, tyX8_ok, nmX8, rfl, by decide, mg 77 (by decide +kernel) rfl, by decide +kernel, rfl, rfl⟩
theorem fl_X9_11 : FL RX9 11 9 0 (.array (.array .int)) true := ⟨RX9, TX9, 8, tyX9, rfl, ingX9, tyX9_ok, nmX9, rfl, by decide, mg 35 (by decide +kernel) rfl, by decide +kernel, rfl, rfl⟩
theorem fl_X9_16 : FL RX9 16 9 1 (.array (.array .int)) true := ⟨RX9, TX9, 8, tyX9, rfl, ingX9, tyX9_ok, nmX9, rfl, by decide, mg 37 (by decide +kernel) rfl, by decide +kernel, rfl, rfl⟩
theorem fl_X9_19 : FL RX9 19 9 2 (.array .int) true := ⟨RX9, TX9, 8, tyX9, rfl, ingX9, tyX9_ok, nmX9, rfl, by decide, mg 39 (by decide +kernel) rfl, by decide +kernel, rfl, rfl⟩
theorem fl_X9_23 : FL RX9 23 9 3 (.array (.array .int)) true := ⟨RX9, TX9, 8, tyX9, rfl, ingX9, tyX9_ok, nmX9, rfl, by decide, mg 41 (by decide +kernel) rfl, by decide +kernel, rfl, rfl⟩
theorem fl_X9_26 : FL RX9 26 9 4 (.array (.array .int)) true := ⟨RX9, TX9, 8, tyX9, rfl, ingX9, tyX9_ok, nmX9, rfl, by decide, mg 43 (by decide +kernel) rfl, by decide +kernel, rfl, rfl⟩
theorem fl_X9_29 : FL RX9 29 9 6 (.array .long) false := ⟨RX9, TX9, 8, tyX9, rfl, ingX9, tyX9_ok, nmX9, rfl, by decide, mg 49 (by decide +kernel) rfl, by decide +kernel, rfl, rfl⟩
theorem fl_X9_33 : FL RX9 33 9 7 (.array .long) false := ⟨RX9, TX9, 8, tyX9, rfl, ingX9, tyX9_ok, nmX9, rfl, by decide, mg 50 (by decide +kernel) rfl, by decide +kernel, rfl, rfl⟩
theorem fl_X9_50 : FL RX9 50 9 5 (.int) false := ⟨RX9, TX9, 8, tyX9, rfl, ingX9, tyX9_ok, nmX9, rfl, by decide, mg 47 (by decide +kernel) rfl, by decide +kernel, rfl, rfl⟩
theorem fl_X11_7 : FL RX11 7 11 0 (.array .int) true := ⟨RX11, TX11, 51, tyX11, rfl, ingX11, tyX11_ok, nmX11, rfl, by decide, mg 893 (by decide +kernel) rfl, by decide +kernel, rfl, rfl⟩
theorem fl_X11_13 : FL RX11 13 11 1 (.array .int) true := ⟨RX11, TX11, 51, tyX11, rfl, ingX11, tyX11_ok, nmX11, rfl, by decide, mg 894 (by decide +kernel) rfl, by decide +kernel, rfl, rfl⟩
theorem fl_X11_16 : FL RX11 16 11 2 (.array .int) true := ⟨RX11, TX11, 51, tyX11, rfl, ingX11, tyX11_ok, nmX11, rfl, by decide, mg 895 (by decide +kernel) rfl, by decide +kernel, rfl, rfl⟩
theorem fl_X11_19 : FL RX11 19 11 4 (.array .int) true := ⟨RX11, TX11, 51, tyX11, rfl, ingX11, tyX11_ok, nmX11, rfl, by decide, mg 897 (by decide +kernel) rfl, by decide +kernel, rfl, rfl⟩
theorem fl_X11_22 : FL RX11 22 11 6 (.array .long) true := ⟨RX11, TX11, 51, tyX11, rfl, ingX11, tyX11_ok, nmX11, rfl, by decide, mg 899 (by decide +kernel) rfl, by decide +kernel, rfl, rfl⟩
theorem fl_X11_26 : FL RX11 26 11 7 (.array .long) true := ⟨RX11, TX11, 51, tyX11, rfl, ingX11, tyX11_ok, nmX11, rfl, by decide, mg 900 (by decide +kernel) rfl, by decide +kernel, rfl, rfl⟩
theorem fl_X11_29 : FL RX11 29 11 8 (.array .int) true := ⟨RX11, TX11, 51, tyX11, rfl, ingX11, tyX11_ok, nmX11, rfl, by decide, mg 901 (by decide +kernel) rfl, by decide +kernel, rfl, rfl⟩
theorem fl_X11_32 : FL RX11 32 11 9 (.array .int) true := ⟨RX11, TX11, 51, tyX11, rfl, ingX11, tyX11_ok, nmX11, rfl, by decide, mg 902 (by decide +kernel) rfl, by decide +kernel, rfl, rfl⟩
theorem fl_X11_35 : FL RX11 35 11 10 (.array .int) true := ⟨RX11, TX11, 51, tyX11, rfl, ingX11, tyX11_ok, nmX11, rfl, by decide, mg 903 (by decide +kernel) rfl, by decide +kernel, rfl, rfl⟩
theorem fl_X11_38 : FL RX11 38 11 11 (.array .int) true := ⟨RX11, TX11, 51, tyX11, rfl, ingX11, tyX11_ok, nmX11, rfl, by decide, mg 904 (by decide +kernel) rfl, by decide +kernel, rfl, rfl⟩
theorem fl_X11_41 : FL RX11 41 11 13 (.array .int) true := ⟨RX11, TX11, 51, tyX11, rfl, ingX11, tyX11_ok, nmX11, rfl, by decide, mg 906 (by decide +kernel) rfl, by decide +kernel, rfl, rfl⟩
theorem fl_X11_44 : FL RX11 44 11 14 (.array .int) true := ⟨RX11, TX11, 51, tyX11, rfl, ingX11, tyX11_ok, nmX11, rfl, by decide, mg 907 (by decide +kernel) rfl, by decide +kernel, rfl, rfl⟩
theorem fl_X11_47 : FL RX11 47 11 15 (.array .int) true := ⟨RX11, TX11, 51, tyX11, rfl, ingX11, tyX11_ok, nmX11, rfl, by decide, mg 908 (by decide +kernel) rfl, by decide +kernel, rfl, rfl⟩
theorem fl_X11_50 : FL RX11 50 11 16 (.array .int) true := ⟨RX11, TX11, 51, tyX11, rfl, ingX11, tyX11_ok, nmX11, rfl, by decide, mg 909 (by decide +kernel) rfl, by decide +kernel, rfl, rfl⟩
theorem fl_X11_53 : FL RX11 53 11 17 (.array .int) true := ⟨RX11, TX11, 51, tyX11, rfl, ingX11, tyX11_ok, nmX11, rfl, by decide, mg 910 (by decide +kernel) rfl, by decide +kernel, rfl, rfl⟩
theorem fl_X11_56 : FL RX11 56 11 18 (.array .int) true := ⟨RX11, TX11, 51, tyX11, rfl, ingX11, tyX11_ok, nmX11, rfl, by decide, mg 911 (by decide +kernel) rfl, by decide +kernel, rfl, rfl⟩
theorem fl_X11_59 : FL RX11 59 11 19 (.array .int) true := ⟨RX11, TX11, 51, tyX11, rfl, ingX11, tyX11_ok, nmX11, rfl, by decide, mg 912 (by decide +kernel) rfl, by decide +kernel, rfl, rfl⟩
theorem fl_X11_62 : FL RX11 62 11 20 (.array .int) true := ⟨RX11, TX11, 51, tyX11, rfl, ingX11, tyX11_ok, nmX11, rfl, by decide, mg 913 (by decide +kernel) rfl, by decide +kernel, rfl, rfl⟩
theorem fl_X11_65 : FL RX11 65 11 21 (.array .boolean) true := ⟨RX11, TX11, 51, tyX11, rfl, ingX11, tyX11_ok, nmX11, rfl, by decide, mg 914 (by decide +kernel) rfl, by decide +kernel, rfl, rfl⟩
theorem fl_X11_69 : FL RX11 69 11 22 (.array .int) true := ⟨RX11, TX11, 51, tyX11, rfl, ingX11, tyX11_ok, nmX11, rfl, by decide, mg 915 (by decide +kernel) rfl, by decide +kernel, rfl, rfl⟩
theorem fl_X11_72 : FL RX11 72 11 23 (.array .int) true := ⟨RX11, TX11, 51, tyX11, rfl, ingX11, tyX11_ok, nmX11, rfl, by decide, mg 916 (by decide +kernel) rfl, by decide +kernel, rfl, rfl⟩
theorem fl_X11_75 : FL RX11 75 11 24 (.array .int) true := ⟨RX11, TX11, 51, tyX11, rfl, ingX11, tyX11_ok, nmX11, rfl, by decide, mg 917 (by decide +kernel) rfl, by decide +kernel, rfl, rfl⟩
theorem fl_X11_78 : FL RX11 78 11 25 (.array .int) true := ⟨RX11, TX11, 51, tyX11, rfl, ingX11, tyX11_ok, nmX11, rfl, by decide, mg 918 (by decide +kernel) rfl, by decide +kernel, rfl, rfl⟩
theorem fl_X11_81 : FL RX11 81 11 26 (.array .int) true := ⟨RX11, TX11, 51, tyX11, rfl, ingX11, tyX11_ok, nmX11, rfl, by decide, mg 919 (by decide +kernel) rfl, by decide +kernel, rfl, rfl⟩
theorem fl_X11_84 : FL RX11 84 11 27 (.array .int) true := ⟨RX11, TX11, 51, tyX11, rfl, ingX11, tyX11_ok, nmX11, rfl, by decide, mg 920 (by decide +kernel) rfl, by decide +kernel, rfl, rfl⟩
theorem fl_X11_87 : FL RX11 87 11 28 (.array .int) true := ⟨RX11, TX11, 51, tyX11, rfl, ingX11, tyX11_ok, nmX11, rfl, by decide, mg 921 (by decide +kernel) rfl, by decide +kernel, rfl, rfl⟩
theorem fl_X11_90 : FL RX11 90 11 29 (.array .int) true := ⟨RX11, TX11, 51, tyX11, rfl, ingX11, tyX11_ok, nmX11, rfl, by decide, mg 922 (by decide +kernel) rfl, by decide +kernel, rfl, rfl⟩
theorem fl_X11_93 : FL RX11 93 11 30 (.array .int) true := ⟨RX11, TX11, 51, tyX11, rfl, ingX11, tyX11_ok, nmX11, rfl, by decide, mg 923 (by decide +kernel) rfl, by decide +kernel, rfl, rfl⟩
theorem fl_X11_96 : FL RX11 96 11 31 (.array .int) true := ⟨RX11, TX11, 51, tyX11, rfl, ingX11, tyX11_ok, nmX11, rfl, by decide, mg 924 (by decide +kernel) rfl, by decide +kernel, rfl, rfl⟩
theorem fl_X11_99 : FL RX11 99 11 32 (.array .int) true := ⟨RX11, TX11, 51, tyX11, rfl, ingX11, tyX11_ok, nmX11, rfl, by decide, mg 925 (by decide +kernel) rfl, by decide +kernel, rfl, rfl⟩
theorem fl_X11_102 : FL RX11 102 11 33 (.array .int) true := ⟨RX11, TX11, 51, tyX11, rfl, ingX11, tyX11_ok, nmX11, rfl, by decide, mg 926 (by decide +kernel) rfl, by decide +kernel, rfl, rfl⟩
theorem fl_X11_105 : FL RX11 105 11 35 (.int) false := ⟨RX11, TX11, 51, tyX11, rfl, ingX11, tyX11_ok, nmX11, rfl, by decide, mg 928 (by decide +kernel) rfl, by decide +kernel, rfl, rfl⟩
theorem fl_X11_109 : FL RX11 109 11 40 (.array .int) true := ⟨RX11, TX11, 51, tyX11, rfl, ingX11, tyX11_ok, nmX11, rfl, by decide, mg 933 (by decide +kernel) rfl, by decide +kernel, rfl, rfl⟩
theorem fl_X11_112 : FL RX11 112 11 42 (.array .int) true := ⟨RX11, TX11, 51, tyX11, rfl, ingX11, tyX11_ok, nmX11, rfl, by decide, mg 935 (by decide +kernel) rfl, by decide +kernel, rfl, rfl⟩
theorem fl_X11_115 : FL RX11 115 11 43 (.array .int) true := ⟨RX11, TX11, 51, tyX11, rfl, ingX11, tyX11_ok, nmX11, rfl, by decide, mg 936 (by decide +kernel) rfl, by decide +kernel, rfl, rfl⟩
theorem fl_X11_118 : FL RX11 118 11 44 (.array .int) true := ⟨RX11, TX11, 51, tyX11, rfl, ingX11, tyX11_ok, nmX11, rfl, by decide, mg 937 (by decide +kernel) rfl, by decide +kernel, rfl, rfl⟩
theorem fl_X11_121 : FL RX11 121 11 46 (.array .int) true := ⟨RX11, TX11, 51, tyX11, rfl, ingX11, tyX11_ok, nmX11, rfl, by decide, mg 939 (by decide +kernel) rfl, by decide +kernel, rfl, rfl⟩
theorem fl_X11_124 : FL RX11 124 11 47 (.array .int) true := ⟨RX11, TX11, 51, tyX11, rfl, ingX11, tyX11_ok, nmX11, rfl, by decide, mg 940 (by decide +kernel) rfl, by decide +kernel, rfl, rfl⟩
theorem fl_X11_127 : FL RX11 127 11 48 (.array .int) true := ⟨RX11, TX11, 51, tyX11, rfl, ingX11, tyX11_ok, nmX11, rfl, by decide, mg 941 (by decide +kernel) rfl, by decide +kernel, rfl, rfl⟩
theorem fl_X11_130 : FL RX11 130 11 49 (.array .int) true := ⟨RX11, TX11, 51, tyX11, rfl, ingX11, tyX11_ok, nmX11, rfl, by decide, mg 942 (by decide +kernel) rfl, by decide +kernel, rfl, rfl⟩
theorem fl_X11_133 : FL RX11 133 11 50 (.array .int) true := ⟨RX11, TX11, 51, tyX11, rfl, ingX11, tyX11_ok, nmX11, rfl, by decide, mg 943 (by decide +kernel) rfl, by decide +kernel, rfl, rfl⟩
theorem fl_X11_150 : FL RX11 150 11 3 (.int) false := ⟨RX11, TX11, 51, tyX11, rfl, ingX11, tyX11_ok, nmX11, rfl, by decide, mg 896 (by decide +kernel) rfl, by decide +kernel, rfl, rfl⟩
theorem fl_X11_158 : FL RX11 158 11 5 (.int) false := ⟨RX11, TX11, 51, tyX11, rfl, ingX11, tyX11_ok, nmX11, rfl, by decide, mg 898 (by decide +kernel) rfl, by decide +kernel, rfl, rfl⟩
theorem fl_X11_182 : FL RX11 182 11 12 (.int) false := ⟨RX11, TX11, 51, tyX11, rfl, ingX11, tyX11_ok, nmX11, rfl, by decide, mg 905 (by decide +kernel) rfl, by decide +kernel, rfl, rfl⟩
theorem fl_X11_195 : FL RX11 195 11 45 (.int) false := ⟨RX11, TX11, 51, tyX11, rfl, ingX11, tyX11_ok, nmX11, rfl, by decide, mg 938 (by decide +kernel) rfl, by decide +kernel, rfl, rfl⟩
theorem fl_X11_227 : FL RX11 227 11 34 (.int) false := ⟨RX11, TX11, 51, tyX11, rfl, ingX11, tyX11_ok, nmX11, rfl, by decide, mg 927 (by decide +kernel) rfl, by decide +kernel, rfl, rfl⟩
theorem fl_X11_232 : FL RX11 232 11 36 (.int) false := ⟨RX11, TX11, 51, tyX11, rfl, ingX11, tyX11_ok, nmX11, rfl, by decide, mg 929 (by decide +kernel) rfl, by decide +kernel, rfl, rfl⟩
theorem fl_X11_239 : FL RX11 239 11 37 (.long) false := ⟨RX11, TX11, 51, tyX11, rfl, ingX11, tyX11_ok, nmX11, rfl, by decide, mg 930 (by decide +kernel) rfl, by decide +kernel, rfl, rfl⟩
theorem fl_X11_243 : FL RX11 243 11 38 (.int) false := ⟨RX11, TX11, 51, tyX11, rfl, ingX11, tyX11_ok, nmX11, rfl, by decide, mg 931 (by decide +kernel) rfl, by decide +kernel, rfl, rfl⟩
theorem fl_X11_269 : FL RX11 269 11 39 (.int) false := ⟨RX11, TX11, 51, tyX11, rfl, ingX11, tyX11_ok, nmX11, rfl, by decide, mg 932 (by decide +kernel) rfl, by decide +kernel, rfl, rfl⟩
theorem fl_X11_322 : FL RX11 322 11 41 (.int) false := ⟨RX11, TX11, 51, tyX11, rfl, ingX11, tyX11_ok, nmX11, rfl, by decide, mg 934 (by decide +kernel) rfl, by decide +kernel, rfl, rfl⟩
theorem ml_X10_75 : Cond.methodLink RX10 75 yX10_isState ∈ gw := mg 405 (by decide +kernel) rfl
theorem ml_X10_79 : Cond.methodLink RX10 79 yX10_isOften ∈ gw := mg 411 (by decide +kernel) rfl
theorem ml_X10_86 : Cond.methodLink RX10 86 yX10_exchange ∈ gw := mg 414 (by decide +kernel) rfl
theorem ml_X10_90 : Cond.methodLink RX10 90 yX10_within ∈ gw := mg 408 (by decide +kernel) rfl
theorem ml_X10_104 : Cond.methodLink RX10 104 yX10_isPerson ∈ gw := mg 433 (by decide +kernel) rfl
theorem ml_X10_113 : Cond.methodLink RX10 113 yX9_fittingRows ∈ gw := mg 444 (by decide +kernel) rfl
theorem ml_X10_117 : Cond.methodLink RX10 117 yX10_isAhead ∈ gw := mg 467 (by decide +kernel) rfl
theorem ml_X10_120 : Cond.methodLink RX10 120 yX9_lookAhead ∈ gw := mg 470 (by decide +kernel) rfl
theorem ml_X10_127 : Cond.methodLink RX10 127 yX9_seamOdds ∈ gw := mg 483 (by decide +kernel) rfl
theorem ml_X10_165 : Cond.methodLink RX10 165 yX0_hasThing ∈ gw := mg 503 (by decide +kernel) rfl
theorem ml_X10_172 : Cond.methodLink RX10 172 yX0_sayingsWith ∈ gw := mg 507 (by decide +kernel) rfl
theorem ml_X10_175 : Cond.methodLink RX10 175 yX0_standing ∈ gw := mg 516 (by decide +kernel) rfl
theorem ml_X10_178 : Cond.methodLink RX10 178 yX6_valueIn ∈ gw := mg 534 (by decide +kernel) rfl
theorem ml_X10_181 : Cond.methodLink RX10 181 yX10_isWay ∈ gw := mg 546 (by decide +kernel) rfl
theorem ml_X10_190 : Cond.methodLink RX10 190 yX8_lossBy ∈ gw := mg 557 (by decide +kernel) rfl
theorem ml_X10_194 : Cond.methodLink RX10 194 yX0_thingsThatAre ∈ gw := mg 566 (by decide +kernel) rfl
theorem ml_X10_203 : Cond.methodLink RX10 203 yX2_append ∈ gw := mg 575 (by decide +kernel) rfl
theorem ml_X10_207 : Cond.methodLink RX10 207 yX2_parse ∈ gw := mg 583 (by decide +kernel) rfl
theorem ml_X10_220 : Cond.methodLink RX10 220 yX0_hasThings ∈ gw := mg 694 (by decide +kernel) rfl
theorem ml_X10_223 : Cond.methodLink RX10 223 yX10_barNow ∈ gw := mg 698 (by decide +kernel) rfl
theorem ml_X10_227 : Cond.methodLink RX10 227 yX1_open ∈ gw := mg 702 (by decide +kernel) rfl
theorem ml_X10_231 : Cond.methodLink RX10 231 yX0_countSaid ∈ gw := mg 725 (by decide +kernel) rfl
theorem ml_X10_235 : Cond.methodLink RX10 235 yX3_mostBars ∈ gw := mg 729 (by decide +kernel) rfl
theorem ml_X10_239 : Cond.methodLink RX10 239 yX1_bar ∈ gw := mg 737 (by decide +kernel) rfl
theorem ml_X10_243 : Cond.methodLink RX10 243 yX4_make ∈ gw := mg 749 (by decide +kernel) rfl
theorem ml_X10_256 : Cond.methodLink RX10 256 yX0_canBeSaid ∈ gw := mg 816 (by decide +kernel) rfl
theorem ml_X10_276 : Cond.methodLink RX10 276 yX0_hasSaying ∈ gw := mg 824 (by decide +kernel) rfl
theorem ml_X10_282 : Cond.methodLink RX10 282 yX0_deadThings ∈ gw := mg 832 (by decide +kernel) rfl
theorem ml_X10_286 : Cond.methodLink RX10 286 yX0_lookedAtBy ∈ gw := mg 840 (by decide +kernel) rfl
theorem ml_X10_289 : Cond.methodLink RX10 289 yX0_outcomesBy ∈ gw := mg 844 (by decide +kernel) rfl
theorem ml_X10_292 : Cond.methodLink RX10 292 yX10_chance ∈ gw := mg 848 (by decide +kernel) rfl
theorem ml_X10_296 : Cond.methodLink RX10 296 yX10_choose ∈ gw := mg 851 (by decide +kernel) rfl
theorem ml_X10_300 : Cond.methodLink RX10 300 yX10_commonPart ∈ gw := mg 854 (by decide +kernel) rfl
theorem ml_X10_304 : Cond.methodLink RX10 304 yX0_personsWith ∈ gw := mg 861 (by decide +kernel) rfl
theorem ml_X10_307 : Cond.methodLink RX10 307 yX10_contains ∈ gw := mg 865 (by decide +kernel) rfl
theorem ml_X10_310 : Cond.methodLink RX10 310 yX7_run ∈ gw := mg 870 (by decide +kernel) rfl
theorem ml_X0_36 : Cond.methodLink RX0 36 yX0_isTold ∈ gw := mg 520 (by decide +kernel) rfl
theorem ml_X0_43 : Cond.methodLink RX0 43 yX0_standing ∈ gw := mg 570 (by decide +kernel) rfl
theorem ml_X0_50 : Cond.methodLinkNest RX0 50 yX10_contains "WhenToSpeak" ∈ nestW := mn 511 (by decide +kernel) rfl
theorem ml_X0_63 : Cond.methodLink RX0 63 yJ6_bitCount_0f7a4 ∈ gw := mg 524 (by decide +kernel) rfl
theorem ml_X1_7 : Cond.methodLink RX1 7 yX3_alwaysFrom ∈ gw := mg 706 (by decide +kernel) rfl
theorem ml_X1_13 : Cond.methodLink RX1 13 yX3_barredKinds ∈ gw := mg 710 (by decide +kernel) rfl
theorem ml_X1_17 : Cond.methodLink RX1 17 yX3_barredWays ∈ gw := mg 714 (by decide +kernel) rfl
theorem ml_X1_47 : Cond.methodLinkNest RX1 47 yX10_contains "WhenToSpeak" ∈ nestW := mn 724 (by decide +kernel) rfl
theorem ml_X1_56 : Cond.methodLink RX1 56 yX1_isAlways ∈ gw := mg 741 (by decide +kernel) rfl
theorem ml_X2_33 : Cond.methodLink RX2 33 yX2_skipBlanks ∈ gw := mg 587 (by decide +kernel) rfl
theorem ml_X2_36 : Cond.methodLink RX2 36 yX2_readClause ∈ gw := mg 591 (by decide +kernel) rfl
theorem ml_X2_42 : Cond.methodLink RX2 42 yX2_takeWord ∈ gw := mg 596 (by decide +kernel) rfl
theorem ml_X2_46 : Cond.methodLink RX2 46 yX2_refuseNinth ∈ gw := mg 648 (by decide +kernel) rfl
theorem ml_X2_50 : Cond.methodLink RX2 50 yX2_readNever ∈ gw := mg 656 (by decide +kernel) rfl
theorem ml_X2_55 : Cond.methodLink RX2 55 yX2_takeNumber ∈ gw := mg 661 (by decide +kernel) rfl
theorem ml_X2_61 : Cond.methodLink RX2 61 yX2_needWord ∈ gw := mg 676 (by decide +kernel) rfl
theorem ml_X2_65 : Cond.methodLink RX2 65 yX2_finish ∈ gw := mg 667 (by decide +kernel) rfl
theorem ml_X2_73 : Cond.methodLink RX2 73 yX2_note ∈ gw := mg 652 (by decide +kernel) rfl
theorem ml_X2_85 : Cond.methodLink RX2 85 yX3_add ∈ gw := mg 671 (by decide +kernel) rfl
theorem ml_X2_89 : Cond.methodLink RX2 89 yJ0_length_8abf5 ∈ gw := mg 600 (by decide +kernel) rfl
theorem ml_X2_94 : Cond.methodLink RX2 94 yJ0_charAt_5068e ∈ gw := mg 610 (by decide +kernel) rfl
theorem ml_X2_98 : Cond.methodLinkNest RX2 98 yX10_within "WhenToSpeak" ∈ nestW := mn 665 (by decide +kernel) rfl
theorem ml_X3_28 : Cond.methodLink RX3 28 yX3_isLikely ∈ gw := mg 718 (by decide +kernel) rfl
theorem ml_X3_36 : Cond.methodLink RX3 36 yX3_saidWithin ∈ gw := mg 733 (by decide +kernel) rfl
theorem ml_X3_40 : Cond.methodLink RX3 40 Lib.Math.max.name ∈ gw := mg 736 (by decide +kernel) rfl
theorem ml_X4_64 : Cond.methodLink RX4 64 Lib.Math.min.name ∈ gw := mg 753 (by decide +kernel) rfl
theorem ml_X4_74 : Cond.methodLink RX4 74 yX3_countsSayings ∈ gw := mg 756 (by decide +kernel) rfl
theorem ml_X4_84 : Cond.methodLink RX4 84 yX4_pick ∈ gw := mg 760 (by decide +kernel) rfl
theorem ml_X4_88 : Cond.methodLink RX4 88 yX9_lookAhead ∈ gw := mg 766 (by decide +kernel) rfl
theorem ml_X4_94 : Cond.methodLink RX4 94 yX4_price ∈ gw := mg 767 (by decide +kernel) rfl
theorem ml_X4_98 : Cond.methodLink RX4 98 yX0_countSaid ∈ gw := mg 788 (by decide +kernel) rfl
theorem ml_X4_104 : Cond.methodLink RX4 104 yX4_mostBarsAt ∈ gw := mg 789 (by decide +kernel) rfl
theorem ml_X4_111 : Cond.methodLink RX4 111 yX4_decide ∈ gw := mg 794 (by decide +kernel) rfl
theorem ml_X4_118 : Cond.methodLink RX4 118 yX4_tell ∈ gw := mg 808 (by decide +kernel) rfl
theorem ml_X4_133 : Cond.methodLinkNest RX4 133 yX10_contains "WhenToSpeak" ∈ nestW := mn 764 (by decide +kernel) rfl
theorem ml_X4_137 : Cond.methodLink RX4 137 yX0_standing ∈ gw := mg 765 (by decide +kernel) rfl
theorem ml_X4_147 : Cond.methodLink RX4 147 yX1_open ∈ gw := mg 771 (by decide +kernel) rfl
theorem ml_X4_151 : Cond.methodLink RX4 151 yX8_lossBy ∈ gw := mg 772 (by decide +kernel) rfl
theorem ml_X4_157 : Cond.methodLink RX4 157 yX9_seamOdds ∈ gw := mg 773 (by decide +kernel) rfl
theorem ml_X4_161 : Cond.methodLink RX4 161 yX6_planValueIn ∈ gw := mg 774 (by decide +kernel) rfl
theorem ml_X4_164 : Cond.methodLink RX4 164 yX4_priceSet ∈ gw := mg 783 (by decide +kernel) rfl
theorem ml_X4_170 : Cond.methodLink RX4 170 yX1_bar ∈ gw := mg 787 (by decide +kernel) rfl
theorem ml_X4_174 : Cond.methodLink RX4 174 yX3_mostBars ∈ gw := mg 793 (by decide +kernel) rfl
theorem ml_X4_178 : Cond.methodLink RX4 178 yX4_nodeBehind ∈ gw := mg 798 (by decide +kernel) rfl
theorem ml_X4_182 : Cond.methodLink RX4 182 yX4_total ∈ gw := mg 802 (by decide +kernel) rfl
theorem ml_X4_185 : Cond.methodLink RX4 185 yJ6_bitCount_0f7a4 ∈ gw := mg 806 (by decide +kernel) rfl
theorem ml_X4_190 : Cond.methodLink RX4 190 yX1_isAlways ∈ gw := mg 807 (by decide +kernel) rfl
theorem ml_X6_28 : Cond.methodLink RX6 28 Lib.Math.max.name ∈ gw := mg 538 (by decide +kernel) rfl
theorem ml_X6_39 : Cond.methodLink RX6 39 yX6_isMust ∈ gw := mg 778 (by decide +kernel) rfl
theorem ml_X6_43 : Cond.methodLink RX6 43 yX6_valueIn ∈ gw := mg 782 (by decide +kernel) rfl
theorem ml_X7_37 : Cond.methodLink RX7 37 yX9_lookAhead ∈ gw := mg 874 (by decide +kernel) rfl
theorem ml_X7_43 : Cond.methodLink RX7 43 yX9_seamOdds ∈ gw := mg 875 (by decide +kernel) rfl
theorem ml_X7_47 : Cond.methodLink RX7 47 yX7_sayIn ∈ gw := mg 876 (by decide +kernel) rfl
theorem ml_X7_55 : Cond.methodLink RX7 55 yX8_lossBy ∈ gw := mg 886 (by decide +kernel) rfl
theorem ml_X7_66 : Cond.methodLink RX7 66 yX7_isLeft ∈ gw := mg 881 (by decide +kernel) rfl
theorem ml_X7_79 : Cond.methodLink RX7 79 yX6_isMust ∈ gw := mg 880 (by decide +kernel) rfl
theorem ml_X7_89 : Cond.methodLinkNest RX7 89 yX10_contains "WhenToSpeak" ∈ nestW := mn 885 (by decide +kernel) rfl
theorem ml_X9_36 : Cond.methodLink RX9 36 yX9_weigh ∈ gw := mg 448 (by decide +kernel) rfl
theorem ml_X9_40 : Cond.methodLink RX9 40 yX9_allWeights ∈ gw := mg 459 (by decide +kernel) rfl
theorem ml_X9_46 : Cond.methodLink RX9 46 yX9_moveOn ∈ gw := mg 475 (by decide +kernel) rfl
theorem ml_X9_54 : Cond.methodLinkNest RX9 54 yX10_contains "WhenToSpeak" ∈ nestW := mn 487 (by decide +kernel) rfl
theorem ml_X9_58 : Cond.methodLink RX9 58 yX9_factor ∈ gw := mg 452 (by decide +kernel) rfl
theorem ml_X9_62 : Cond.methodLink RX9 62 yX9_signFactor ∈ gw := mg 455 (by decide +kernel) rfl
theorem ml_X11_138 : Cond.methodLink RX11 138 yX11_in ∈ gw := mg 1056 (by decide +kernel) rfl
theorem ml_X11_142 : Cond.methodLink RX11 142 yX11_isState ∈ gw := mg 1052 (by decide +kernel) rfl
theorem ml_X11_153 : Cond.methodLink RX11 153 yX11_isPerson ∈ gw := mg 1077 (by decide +kernel) rfl
theorem ml_X11_163 : Cond.methodLink RX11 163 yX11_showsAt ∈ gw := mg 1094 (by decide +kernel) rfl
theorem ml_X11_167 : Cond.methodLink RX11 167 yX11_findRows ∈ gw := mg 1090 (by decide +kernel) rfl
theorem ml_X11_173 : Cond.methodLink RX11 173 yX11_findOdds ∈ gw := mg 1103 (by decide +kernel) rfl
theorem ml_X11_179 : Cond.methodLink RX11 179 yX11_seamOdds ∈ gw := mg 1112 (by decide +kernel) rfl
theorem ml_X11_198 : Cond.methodLink RX11 198 yX11_isThing ∈ gw := mg 1133 (by decide +kernel) rfl
theorem ml_X11_201 : Cond.methodLink RX11 201 yX11_sayingsOf ∈ gw := mg 1137 (by decide +kernel) rfl
theorem ml_X11_205 : Cond.methodLink RX11 205 yX11_isTold ∈ gw := mg 1149 (by decide +kernel) rfl
theorem ml_X11_208 : Cond.methodLink RX11 208 yX11_stateOf ∈ gw := mg 1145 (by decide +kernel) rfl
theorem ml_X11_211 : Cond.methodLink RX11 211 yX11_valueOf ∈ gw := mg 1157 (by decide +kernel) rfl
theorem ml_X11_214 : Cond.methodLink RX11 214 yX11_isWay ∈ gw := mg 1165 (by decide +kernel) rfl
theorem ml_X11_220 : Cond.methodLink RX11 220 yX11_lossOf ∈ gw := mg 1177 (by decide +kernel) rfl
theorem ml_X11_224 : Cond.methodLink RX11 224 yX11_thingsThat ∈ gw := mg 1186 (by decide +kernel) rfl
theorem ml_X11_235 : Cond.methodLink RX11 235 yX11_here ∈ gw := mg 1199 (by decide +kernel) rfl
theorem ml_X11_258 : Cond.methodLink RX11 258 yX11_readWord ∈ gw := mg 1207 (by decide +kernel) rfl
theorem ml_X11_261 : Cond.methodLink RX11 261 yX11_fails ∈ gw := mg 1220 (by decide +kernel) rfl
theorem ml_X11_272 : Cond.methodLink RX11 272 yX11_readNumber ∈ gw := mg 1232 (by decide +kernel) rfl
theorem ml_X11_275 : Cond.methodLink RX11 275 yX11_code ∈ gw := mg 1217 (by decide +kernel) rfl
theorem ml_X11_279 : Cond.methodLink RX11 279 yX11_needs ∈ gw := mg 1238 (by decide +kernel) rfl
theorem ml_X11_283 : Cond.methodLink RX11 283 yX11_readWay ∈ gw := mg 1228 (by decide +kernel) rfl
theorem ml_X11_286 : Cond.methodLink RX11 286 yX11_readNever ∈ gw := mg 1224 (by decide +kernel) rfl
theorem ml_X11_289 : Cond.methodLink RX11 289 yX11_readMost ∈ gw := mg 1242 (by decide +kernel) rfl
theorem ml_X11_292 : Cond.methodLink RX11 292 yX11_readAlways ∈ gw := mg 1246 (by decide +kernel) rfl
theorem ml_X11_295 : Cond.methodLink RX11 295 yX11_readClause ∈ gw := mg 1203 (by decide +kernel) rfl
theorem ml_X11_298 : Cond.methodLink RX11 298 yX11_isAlways ∈ gw := mg 1270 (by decide +kernel) rfl
theorem ml_X11_302 : Cond.methodLink RX11 302 yX11_areAlways ∈ gw := mg 1266 (by decide +kernel) rfl
theorem ml_X11_305 : Cond.methodLink RX11 305 yX11_isWayBarred ∈ gw := mg 1274 (by decide +kernel) rfl
theorem ml_X11_309 : Cond.methodLink RX11 309 yX11_isKindBarred ∈ gw := mg 1278 (by decide +kernel) rfl
theorem ml_X11_312 : Cond.methodLink RX11 312 yX11_areMost ∈ gw := mg 1282 (by decide +kernel) rfl
theorem ml_X11_315 : Cond.methodLink RX11 315 yX11_areThings ∈ gw := mg 1258 (by decide +kernel) rfl
theorem ml_X11_318 : Cond.methodLink RX11 318 yX11_barring ∈ gw := mg 1262 (by decide +kernel) rfl
theorem ml_X11_325 : Cond.methodLink RX11 325 yX11_setOf ∈ gw := mg 1299 (by decide +kernel) rfl
theorem ml_X11_329 : Cond.methodLink RX11 329 yX11_isOneMatter ∈ gw := mg 1304 (by decide +kernel) rfl
theorem ml_X11_332 : Cond.methodLink RX11 332 yX11_isMust ∈ gw := mg 1308 (by decide +kernel) rfl
theorem ml_X11_335 : Cond.methodLink RX11 335 yX11_place ∈ gw := mg 1312 (by decide +kernel) rfl
theorem ml_X11_338 : Cond.methodLink RX11 338 yX11_findGain ∈ gw := mg 1295 (by decide +kernel) rfl
theorem ml_X11_341 : Cond.methodLink RX11 341 yX11_by ∈ gw := mg 1315 (by decide +kernel) rfl
theorem ml_X11_346 : Cond.methodLink RX11 346 yX11_findPlans ∈ gw := mg 1291 (by decide +kernel) rfl
theorem ml_X11_349 : Cond.methodLink RX11 349 yX11_deadOf ∈ gw := mg 1323 (by decide +kernel) rfl
theorem ml_X11_352 : Cond.methodLink RX11 352 yX11_areFor ∈ gw := mg 1327 (by decide +kernel) rfl
theorem ml_X11_355 : Cond.methodLink RX11 355 yX11_isSaying ∈ gw := mg 1335 (by decide +kernel) rfl
theorem ml_X11_358 : Cond.methodLink RX11 358 yX11_cameOf ∈ gw := mg 1347 (by decide +kernel) rfl
theorem ml_X11_362 : Cond.methodLink RX11 362 yX11_choose ∈ gw := mg 1351 (by decide +kernel) rfl
theorem ml_X11_366 : Cond.methodLink RX11 366 yX11_gcd ∈ gw := mg 1354 (by decide +kernel) rfl
theorem cs_J6_bitCount_0f7a4 : CS yJ6_bitCount_0f7a4 cJ6_bitCount_0f7a4 1 (some .int) 1 := ⟨mg 526 (by decide +kernel) rfl, mg 13 (by decide +kernel) rfl, by decide +kernel⟩
theorem cs_X0_canBeSaid : CS yX0_canBeSaid cX0_canBeSaid 6 (some .boolean) 2 := ⟨mg 819 (by decide +kernel) rfl, mg 4 (by decide +kernel) rfl, by decide +kernel⟩
theorem cs_X0_countSaid : CS yX0_countSaid cX0_countSaid 5 none 2 := ⟨mg 728 (by decide +kernel) rfl, mg 4 (by decide +kernel) rfl, by decide +kernel⟩
theorem cs_X0_deadThings : CS yX0_deadThings cX0_deadThings 3 (some .int) 0 := ⟨mg 835 (by decide +kernel) rfl, mg 4 (by decide +kernel) rfl, by decide +kernel⟩
theorem cs_X0_hasSaying : CS yX0_hasSaying cX0_hasSaying 2 (some .boolean) 1 := ⟨mg 827 (by decide +kernel) rfl, mg 4 (by decide +kernel) rfl, by decide +kernel⟩
theorem cs_X0_hasThing : CS yX0_hasThing cX0_hasThing 2 (some .boolean) 1 := ⟨mg 506 (by decide +kernel) rfl, mg 4 (by decide +kernel) rfl, by decide +kernel⟩
theorem cs_X0_hasThings : CS yX0_hasThings cX0_hasThings 2 (some .boolean) 1 := ⟨mg 697 (by decide +kernel) rfl, mg 4 (by decide +kernel) rfl, by decide +kernel⟩
theorem cs_X0_isTold : CS yX0_isTold cX0_isTold 5 (some .boolean) 1 := ⟨mg 523 (by decide +kernel) rfl, mg 4 (by decide +kernel) rfl, by decide +kernel⟩
theorem cs_X0_lookedAtBy : CS yX0_lookedAtBy cX0_lookedAtBy 4 (some .int) 1 := ⟨mg 843 (by decide +kernel) rfl, mg 4 (by decide +kernel) rfl, by decide +kernel⟩
theorem cs_X0_outcomesBy : CS yX0_outcomesBy cX0_outcomesBy 4 (some .int) 1 := ⟨mg 847 (by decide +kernel) rfl, mg 4 (by decide +kernel) rfl, by decide +kernel⟩
theorem cs_X0_personsWith : CS yX0_personsWith cX0_personsWith 4 (some .int) 1 := ⟨mg 864 (by decide +kernel) rfl, mg 4 (by decide +kernel) rfl, by decide +kernel⟩
theorem cs_X0_sayingsWith : CS yX0_sayingsWith cX0_sayingsWith 4 (some .int) 1 := ⟨mg 510 (by decide +kernel) rfl, mg 4 (by decide +kernel) rfl, by decide +kernel⟩
theorem cs_X0_standing : CS yX0_standing cX0_standing 3 (some .int) 2 := ⟨mg 519 (by decide +kernel) rfl, mg 4 (by decide +kernel) rfl, by decide +kernel⟩
theorem cs_X0_thingsThatAre : CS yX0_thingsThatAre cX0_thingsThatAre 5 (some .int) 2 := ⟨mg 569 (by decide +kernel) rfl, mg 4 (by decide +kernel) rfl, by decide +kernel⟩
theorem cs_X10_barNow : CS yX10_barNow cX10_barNow 4 (some .int) 3 := ⟨mg 701 (by decide +kernel) rfl, mg 1 (by decide +kernel) rfl, by decide +kernel⟩
theorem cs_X10_chance : CS yX10_chance cX10_chance 11 (some .int) 5 := ⟨mg 850 (by decide +kernel) rfl, mg 1 (by decide +kernel) rfl, by decide +kernel⟩
theorem cs_X10_choose : CS yX10_choose cX10_choose 5 (some .long) 2 := ⟨mg 853 (by decide +kernel) rfl, mg 1 (by decide +kernel) rfl, by decide +kernel⟩
theorem cs_X10_commonPart : CS yX10_commonPart cX10_commonPart 11 (some .long) 2 := ⟨mg 856 (by decide +kernel) rfl, mg 1 (by decide +kernel) rfl, by decide +kernel⟩
theorem cs_X10_contains : CS yX10_contains cX10_contains 2 (some .boolean) 2 := ⟨mg 489 (by decide +kernel) rfl, mg 1 (by decide +kernel) rfl, by decide +kernel⟩
theorem cs_X10_exchange : CS yX10_exchange cX10_exchange 4 (some .int) 3 := ⟨mg 416 (by decide +kernel) rfl, mg 1 (by decide +kernel) rfl, by decide +kernel⟩
theorem cs_X10_isAhead : CS yX10_isAhead cX10_isAhead 1 (some .boolean) 1 := ⟨mg 469 (by decide +kernel) rfl, mg 1 (by decide +kernel) rfl, by decide +kernel⟩
theorem cs_X10_isOften : CS yX10_isOften cX10_isOften 1 (some .boolean) 1 := ⟨mg 413 (by decide +kernel) rfl, mg 1 (by decide +kernel) rfl, by decide +kernel⟩
theorem cs_X10_isPerson : CS yX10_isPerson cX10_isPerson 1 (some .boolean) 1 := ⟨mg 435 (by decide +kernel) rfl, mg 1 (by decide +kernel) rfl, by decide +kernel⟩
theorem cs_X10_isState : CS yX10_isState cX10_isState 1 (some .boolean) 1 := ⟨mg 407 (by decide +kernel) rfl, mg 1 (by decide +kernel) rfl, by decide +kernel⟩
theorem cs_X10_isWay : CS yX10_isWay cX10_isWay 1 (some .boolean) 1 := ⟨mg 548 (by decide +kernel) rfl, mg 1 (by decide +kernel) rfl, by decide +kernel⟩
theorem cs_X10_within : CS yX10_within cX10_within 3 (some .boolean) 3 := ⟨mg 410 (by decide +kernel) rfl, mg 1 (by decide +kernel) rfl, by decide +kernel⟩
theorem cs_X11_areAlways : CS yX11_areAlways cX11_areAlways 5 (some .boolean) 2 := ⟨mg 1269 (by decide +kernel) rfl, mg 12 (by decide +kernel) rfl, by decide +kernel⟩
theorem cs_X11_areFor : CS yX11_areFor cX11_areFor 5 (some .boolean) 2 := ⟨mg 1330 (by decide +kernel) rfl, mg 12 (by decide +kernel) rfl, by decide +kernel⟩
theorem cs_X11_areMost : CS yX11_areMost cX11_areMost 9 (some .boolean) 3 := ⟨mg 1285 (by decide +kernel) rfl, mg 12 (by decide +kernel) rfl, by decide +kernel⟩
theorem cs_X11_areThings : CS yX11_areThings cX11_areThings 2 (some .boolean) 1 := ⟨mg 1261 (by decide +kernel) rfl, mg 12 (by decide +kernel) rfl, by decide +kernel⟩
theorem cs_X11_barring : CS yX11_barring cX11_barring 7 (some .int) 5 := ⟨mg 1265 (by decide +kernel) rfl, mg 12 (by decide +kernel) rfl, by decide +kernel⟩
theorem cs_X11_by : CS yX11_by cX11_by 8 (some .int) 5 := ⟨mg 1318 (by decide +kernel) rfl, mg 12 (by decide +kernel) rfl, by decide +kernel⟩
theorem cs_X11_cameOf : CS yX11_cameOf cX11_cameOf 5 (some .int) 2 := ⟨mg 1350 (by decide +kernel) rfl, mg 12 (by decide +kernel) rfl, by decide +kernel⟩
theorem cs_X11_choose : CS yX11_choose cX11_choose 5 (some .long) 2 := ⟨mg 1353 (by decide +kernel) rfl, mg 12 (by decide +kernel) rfl, by decide +kernel⟩
theorem cs_X11_code : CS yX11_code cX11_code 8 (some .long) 6 := ⟨mg 1219 (by decide +kernel) rfl, mg 12 (by decide +kernel) rfl, by decide +kernel⟩
theorem cs_X11_deadOf : CS yX11_deadOf cX11_deadOf 4 (some .int) 1 := ⟨mg 1326 (by decide +kernel) rfl, mg 12 (by decide +kernel) rfl, by decide +kernel⟩
theorem cs_X11_fails : CS yX11_fails cX11_fails 3 (some .int) 2 := ⟨mg 1223 (by decide +kernel) rfl, mg 12 (by decide +kernel) rfl, by decide +kernel⟩
theorem cs_X11_findGain : CS yX11_findGain cX11_findGain 10 none 3 := ⟨mg 1298 (by decide +kernel) rfl, mg 12 (by decide +kernel) rfl, by decide +kernel⟩
theorem cs_X11_findOdds : CS yX11_findOdds cX11_findOdds 10 none 3 := ⟨mg 1106 (by decide +kernel) rfl, mg 12 (by decide +kernel) rfl, by decide +kernel⟩
theorem cs_X11_findPlans : CS yX11_findPlans cX11_findPlans 10 none 2 := ⟨mg 1294 (by decide +kernel) rfl, mg 12 (by decide +kernel) rfl, by decide +kernel⟩
theorem cs_X11_findRows : CS yX11_findRows cX11_findRows 8 none 2 := ⟨mg 1093 (by decide +kernel) rfl, mg 12 (by decide +kernel) rfl, by decide +kernel⟩
theorem cs_X11_gcd : CS yX11_gcd cX11_gcd 10 (some .long) 2 := ⟨mg 1356 (by decide +kernel) rfl, mg 12 (by decide +kernel) rfl, by decide +kernel⟩
theorem cs_X11_here : CS yX11_here cX11_here 1 (some .int) 0 := ⟨mg 1202 (by decide +kernel) rfl, mg 12 (by decide +kernel) rfl, by decide +kernel⟩
theorem cs_X11_in : CS yX11_in cX11_in 6 (some .boolean) 3 := ⟨mg 1058 (by decide +kernel) rfl, mg 12 (by decide +kernel) rfl, by decide +kernel⟩
theorem cs_X11_isAlways : CS yX11_isAlways cX11_isAlways 5 (some .boolean) 2 := ⟨mg 1273 (by decide +kernel) rfl, mg 12 (by decide +kernel) rfl, by decide +kernel⟩
theorem cs_X11_isKindBarred : CS yX11_isKindBarred cX11_isKindBarred 8 (some .boolean) 3 := ⟨mg 1281 (by decide +kernel) rfl, mg 12 (by decide +kernel) rfl, by decide +kernel⟩
theorem cs_X11_isMust : CS yX11_isMust cX11_isMust 2 (some .boolean) 1 := ⟨mg 1311 (by decide +kernel) rfl, mg 12 (by decide +kernel) rfl, by decide +kernel⟩
theorem cs_X11_isOneMatter : CS yX11_isOneMatter cX11_isOneMatter 5 (some .boolean) 1 := ⟨mg 1307 (by decide +kernel) rfl, mg 12 (by decide +kernel) rfl, by decide +kernel⟩
theorem cs_X11_isPerson : CS yX11_isPerson cX11_isPerson 1 (some .boolean) 1 := ⟨mg 1079 (by decide +kernel) rfl, mg 12 (by decide +kernel) rfl, by decide +kernel⟩
theorem cs_X11_isSaying : CS yX11_isSaying cX11_isSaying 2 (some .boolean) 1 := ⟨mg 1338 (by decide +kernel) rfl, mg 12 (by decide +kernel) rfl, by decide +kernel⟩
theorem cs_X11_isState : CS yX11_isState cX11_isState 1 (some .boolean) 1 := ⟨mg 1054 (by decide +kernel) rfl, mg 12 (by decide +kernel) rfl, by decide +kernel⟩
theorem cs_X11_isThing : CS yX11_isThing cX11_isThing 2 (some .boolean) 1 := ⟨mg 1136 (by decide +kernel) rfl, mg 12 (by decide +kernel) rfl, by decide +kernel⟩
theorem cs_X11_isTold : CS yX11_isTold cX11_isTold 6 (some .boolean) 1 := ⟨mg 1152 (by decide +kernel) rfl, mg 12 (by decide +kernel) rfl, by decide +kernel⟩
theorem cs_X11_isWay : CS yX11_isWay cX11_isWay 1 (some .boolean) 1 := ⟨mg 1167 (by decide +kernel) rfl, mg 12 (by decide +kernel) rfl, by decide +kernel⟩
theorem cs_X11_isWayBarred : CS yX11_isWayBarred cX11_isWayBarred 7 (some .boolean) 3 := ⟨mg 1277 (by decide +kernel) rfl, mg 12 (by decide +kernel) rfl, by decide +kernel⟩
theorem cs_X11_lossOf : CS yX11_lossOf cX11_lossOf 7 (some .int) 4 := ⟨mg 1180 (by decide +kernel) rfl, mg 12 (by decide +kernel) rfl, by decide +kernel⟩
theorem cs_X11_needs : CS yX11_needs cX11_needs 3 (some .int) 1 := ⟨mg 1241 (by decide +kernel) rfl, mg 12 (by decide +kernel) rfl, by decide +kernel⟩
theorem cs_X11_place : CS yX11_place cX11_place 3 (some .int) 3 := ⟨mg 1314 (by decide +kernel) rfl, mg 12 (by decide +kernel) rfl, by decide +kernel⟩
theorem cs_X11_readAlways : CS yX11_readAlways cX11_readAlways 3 (some .int) 1 := ⟨mg 1249 (by decide +kernel) rfl, mg 12 (by decide +kernel) rfl, by decide +kernel⟩
theorem cs_X11_readClause : CS yX11_readClause cX11_readClause 4 (some .int) 1 := ⟨mg 1206 (by decide +kernel) rfl, mg 12 (by decide +kernel) rfl, by decide +kernel⟩
theorem cs_X11_readMost : CS yX11_readMost cX11_readMost 3 (some .int) 1 := ⟨mg 1245 (by decide +kernel) rfl, mg 12 (by decide +kernel) rfl, by decide +kernel⟩
theorem cs_X11_readNever : CS yX11_readNever cX11_readNever 4 (some .int) 1 := ⟨mg 1227 (by decide +kernel) rfl, mg 12 (by decide +kernel) rfl, by decide +kernel⟩
theorem cs_X11_readNumber : CS yX11_readNumber cX11_readNumber 5 (some .int) 2 := ⟨mg 1235 (by decide +kernel) rfl, mg 12 (by decide +kernel) rfl, by decide +kernel⟩
theorem cs_X11_readWay : CS yX11_readWay cX11_readWay 3 (some .int) 1 := ⟨mg 1231 (by decide +kernel) rfl, mg 12 (by decide +kernel) rfl, by decide +kernel⟩
theorem cs_X11_readWord : CS yX11_readWord cX11_readWord 2 none 0 := ⟨mg 1210 (by decide +kernel) rfl, mg 12 (by decide +kernel) rfl, by decide +kernel⟩
theorem cs_X11_sayingsOf : CS yX11_sayingsOf cX11_sayingsOf 4 (some .int) 1 := ⟨mg 1140 (by decide +kernel) rfl, mg 12 (by decide +kernel) rfl, by decide +kernel⟩
theorem cs_X11_seamOdds : CS yX11_seamOdds cX11_seamOdds 6 (some .int) 3 := ⟨mg 1115 (by decide +kernel) rfl, mg 12 (by decide +kernel) rfl, by decide +kernel⟩
theorem cs_X11_setOf : CS yX11_setOf cX11_setOf 4 (some .int) 1 := ⟨mg 1302 (by decide +kernel) rfl, mg 12 (by decide +kernel) rfl, by decide +kernel⟩
theorem cs_X11_showsAt : CS yX11_showsAt cX11_showsAt 5 (some .int) 3 := ⟨mg 1097 (by decide +kernel) rfl, mg 12 (by decide +kernel) rfl, by decide +kernel⟩
theorem cs_X11_stateOf : CS yX11_stateOf cX11_stateOf 2 (some .int) 1 := ⟨mg 1148 (by decide +kernel) rfl, mg 12 (by decide +kernel) rfl, by decide +kernel⟩
theorem cs_X11_thingsThat : CS yX11_thingsThat cX11_thingsThat 4 (some .int) 1 := ⟨mg 1189 (by decide +kernel) rfl, mg 12 (by decide +kernel) rfl, by decide +kernel⟩
theorem cs_X11_valueOf : CS yX11_valueOf cX11_valueOf 6 (some .int) 3 := ⟨mg 1160 (by decide +kernel) rfl, mg 12 (by decide +kernel) rfl, by decide +kernel⟩
theorem cs_X1_bar : CS yX1_bar cX1_bar 5 (some .int) 3 := ⟨mg 740 (by decide +kernel) rfl, mg 8 (by decide +kernel) rfl, by decide +kernel⟩
theorem cs_X1_isAlways : CS yX1_isAlways cX1_isAlways 2 (some .boolean) 1 := ⟨mg 744 (by decide +kernel) rfl, mg 8 (by decide +kernel) rfl, by decide +kernel⟩
theorem cs_X1_open : CS yX1_open cX1_open 8 none 4 := ⟨mg 705 (by decide +kernel) rfl, mg 8 (by decide +kernel) rfl, by decide +kernel⟩
theorem cs_X2_append : CS yX2_append cX2_append 2 none 1 := ⟨mg 578 (by decide +kernel) rfl, mg 7 (by decide +kernel) rfl, by decide +kernel⟩
theorem cs_X2_finish : CS yX2_finish cX2_finish 6 none 5 := ⟨mg 670 (by decide +kernel) rfl, mg 7 (by decide +kernel) rfl, by decide +kernel⟩
theorem cs_X2_needWord : CS yX2_needWord cX2_needWord 2 none 1 := ⟨mg 679 (by decide +kernel) rfl, mg 7 (by decide +kernel) rfl, by decide +kernel⟩
theorem cs_X2_note : CS yX2_note cX2_note 3 none 2 := ⟨mg 655 (by decide +kernel) rfl, mg 7 (by decide +kernel) rfl, by decide +kernel⟩
theorem cs_X2_parse : CS yX2_parse cX2_parse 3 none 1 := ⟨mg 586 (by decide +kernel) rfl, mg 7 (by decide +kernel) rfl, by decide +kernel⟩
theorem cs_X2_readClause : CS yX2_readClause cX2_readClause 5 none 1 := ⟨mg 594 (by decide +kernel) rfl, mg 7 (by decide +kernel) rfl, by decide +kernel⟩
theorem cs_X2_readNever : CS yX2_readNever cX2_readNever 5 none 1 := ⟨mg 659 (by decide +kernel) rfl, mg 7 (by decide +kernel) rfl, by decide +kernel⟩
theorem cs_X2_refuseNinth : CS yX2_refuseNinth cX2_refuseNinth 3 none 2 := ⟨mg 651 (by decide +kernel) rfl, mg 7 (by decide +kernel) rfl, by decide +kernel⟩
theorem cs_X2_skipBlanks : CS yX2_skipBlanks cX2_skipBlanks 1 none 0 := ⟨mg 590 (by decide +kernel) rfl, mg 7 (by decide +kernel) rfl, by decide +kernel⟩
theorem cs_X2_takeNumber : CS yX2_takeNumber cX2_takeNumber 5 (some .int) 2 := ⟨mg 664 (by decide +kernel) rfl, mg 7 (by decide +kernel) rfl, by decide +kernel⟩
theorem cs_X2_takeWord : CS yX2_takeWord cX2_takeWord 4 (some .boolean) 1 := ⟨mg 599 (by decide +kernel) rfl, mg 7 (by decide +kernel) rfl, by decide +kernel⟩
theorem cs_X3_add : CS yX3_add cX3_add 5 none 4 := ⟨mg 674 (by decide +kernel) rfl, mg 11 (by decide +kernel) rfl, by decide +kernel⟩
theorem cs_X3_alwaysFrom : CS yX3_alwaysFrom cX3_alwaysFrom 3 (some .int) 0 := ⟨mg 709 (by decide +kernel) rfl, mg 11 (by decide +kernel) rfl, by decide +kernel⟩
theorem cs_X3_barredKinds : CS yX3_barredKinds cX3_barredKinds 4 (some .int) 1 := ⟨mg 713 (by decide +kernel) rfl, mg 11 (by decide +kernel) rfl, by decide +kernel⟩
theorem cs_X3_barredWays : CS yX3_barredWays cX3_barredWays 4 (some .int) 1 := ⟨mg 717 (by decide +kernel) rfl, mg 11 (by decide +kernel) rfl, by decide +kernel⟩
theorem cs_X3_countsSayings : CS yX3_countsSayings cX3_countsSayings 2 (some .boolean) 0 := ⟨mg 759 (by decide +kernel) rfl, mg 11 (by decide +kernel) rfl, by decide +kernel⟩
theorem cs_X3_isLikely : CS yX3_isLikely cX3_isLikely 4 (some .boolean) 2 := ⟨mg 721 (by decide +kernel) rfl, mg 11 (by decide +kernel) rfl, by decide +kernel⟩
theorem cs_X3_mostBars : CS yX3_mostBars cX3_mostBars 4 (some .boolean) 2 := ⟨mg 732 (by decide +kernel) rfl, mg 11 (by decide +kernel) rfl, by decide +kernel⟩
theorem cs_X3_saidWithin : CS yX3_saidWithin cX3_saidWithin 5 (some .int) 3 := ⟨mg 735 (by decide +kernel) rfl, mg 11 (by decide +kernel) rfl, by decide +kernel⟩
theorem cs_X4_decide : CS yX4_decide cX4_decide 13 (some .int) 4 := ⟨mg 797 (by decide +kernel) rfl, mg 9 (by decide +kernel) rfl, by decide +kernel⟩
theorem cs_X4_make : CS yX4_make cX4_make 11 none 4 := ⟨mg 752 (by decide +kernel) rfl, mg 9 (by decide +kernel) rfl, by decide +kernel⟩
theorem cs_X4_mostBarsAt : CS yX4_mostBarsAt cX4_mostBarsAt 7 (some .boolean) 5 := ⟨mg 792 (by decide +kernel) rfl, mg 9 (by decide +kernel) rfl, by decide +kernel⟩
theorem cs_X4_nodeBehind : CS yX4_nodeBehind cX4_nodeBehind 3 (some .int) 2 := ⟨mg 801 (by decide +kernel) rfl, mg 9 (by decide +kernel) rfl, by decide +kernel⟩
theorem cs_X4_pick : CS yX4_pick cX4_pick 7 none 2 := ⟨mg 763 (by decide +kernel) rfl, mg 9 (by decide +kernel) rfl, by decide +kernel⟩
theorem cs_X4_price : CS yX4_price cX4_price 7 none 3 := ⟨mg 770 (by decide +kernel) rfl, mg 9 (by decide +kernel) rfl, by decide +kernel⟩
theorem cs_X4_priceSet : CS yX4_priceSet cX4_priceSet 5 none 2 := ⟨mg 786 (by decide +kernel) rfl, mg 9 (by decide +kernel) rfl, by decide +kernel⟩
theorem cs_X4_tell : CS yX4_tell cX4_tell 8 none 3 := ⟨mg 811 (by decide +kernel) rfl, mg 9 (by decide +kernel) rfl, by decide +kernel⟩
theorem cs_X4_total : CS yX4_total cX4_total 3 (some .int) 2 := ⟨mg 805 (by decide +kernel) rfl, mg 9 (by decide +kernel) rfl, by decide +kernel⟩
theorem cs_X6_isMust : CS yX6_isMust cX6_isMust 1 (some .boolean) 0 := ⟨mg 781 (by decide +kernel) rfl, mg 5 (by decide +kernel) rfl, by decide +kernel⟩
theorem cs_X6_planValueIn : CS yX6_planValueIn cX6_planValueIn 4 (some .int) 2 := ⟨mg 777 (by decide +kernel) rfl, mg 5 (by decide +kernel) rfl, by decide +kernel⟩
theorem cs_X6_valueIn : CS yX6_valueIn cX6_valueIn 4 (some .int) 2 := ⟨mg 537 (by decide +kernel) rfl, mg 5 (by decide +kernel) rfl, by decide +kernel⟩
theorem cs_X7_isLeft : CS yX7_isLeft cX7_isLeft 3 (some .boolean) 2 := ⟨mg 884 (by decide +kernel) rfl, mg 10 (by decide +kernel) rfl, by decide +kernel⟩
theorem cs_X7_run : CS yX7_run cX7_run 7 none 4 := ⟨mg 873 (by decide +kernel) rfl, mg 10 (by decide +kernel) rfl, by decide +kernel⟩
theorem cs_X7_sayIn : CS yX7_sayIn cX7_sayIn 7 none 3 := ⟨mg 879 (by decide +kernel) rfl, mg 10 (by decide +kernel) rfl, by decide +kernel⟩
theorem cs_X8_lossBy : CS yX8_lossBy cX8_lossBy 5 (some .int) 2 := ⟨mg 560 (by decide +kernel) rfl, mg 3 (by decide +kernel) rfl, by decide +kernel⟩
theorem cs_X9_allWeights : CS yX9_allWeights cX9_allWeights 1 (some .long) 0 := ⟨mg 462 (by decide +kernel) rfl, mg 2 (by decide +kernel) rfl, by decide +kernel⟩
theorem cs_X9_factor : CS yX9_factor cX9_factor 2 (some .long) 2 := ⟨mg 454 (by decide +kernel) rfl, mg 2 (by decide +kernel) rfl, by decide +kernel⟩
theorem cs_X9_fittingRows : CS yX9_fittingRows cX9_fittingRows 3 (some .int) 2 := ⟨mg 447 (by decide +kernel) rfl, mg 2 (by decide +kernel) rfl, by decide +kernel⟩
theorem cs_X9_lookAhead : CS yX9_lookAhead cX9_lookAhead 7 none 3 := ⟨mg 473 (by decide +kernel) rfl, mg 2 (by decide +kernel) rfl, by decide +kernel⟩
theorem cs_X9_moveOn : CS yX9_moveOn cX9_moveOn 6 none 2 := ⟨mg 478 (by decide +kernel) rfl, mg 2 (by decide +kernel) rfl, by decide +kernel⟩
theorem cs_X9_seamOdds : CS yX9_seamOdds cX9_seamOdds 4 (some .int) 1 := ⟨mg 486 (by decide +kernel) rfl, mg 2 (by decide +kernel) rfl, by decide +kernel⟩
theorem cs_X9_signFactor : CS yX9_signFactor cX9_signFactor 4 (some .long) 3 := ⟨mg 458 (by decide +kernel) rfl, mg 2 (by decide +kernel) rfl, by decide +kernel⟩
theorem cs_X9_weigh : CS yX9_weigh cX9_weigh 10 none 3 := ⟨mg 451 (by decide +kernel) rfl, mg 2 (by decide +kernel) rfl, by decide +kernel⟩
theorem st_J6_bitCount_0f7a4 : Cond.static yJ6_bitCount_0f7a4 ∈ gw := mg 525 (by decide +kernel) rfl
theorem st_X10_chance : Cond.static yX10_chance ∈ gw := mg 849 (by decide +kernel) rfl
theorem st_X10_choose : Cond.static yX10_choose ∈ gw := mg 852 (by decide +kernel) rfl
theorem st_X10_commonPart : Cond.static yX10_commonPart ∈ gw := mg 855 (by decide +kernel) rfl
theorem st_X10_contains : Cond.static yX10_contains ∈ gw := mg 488 (by decide +kernel) rfl
theorem st_X10_exchange : Cond.static yX10_exchange ∈ gw := mg 415 (by decide +kernel) rfl
theorem st_X10_isAhead : Cond.static yX10_isAhead ∈ gw := mg 468 (by decide +kernel) rfl
theorem st_X10_isOften : Cond.static yX10_isOften ∈ gw := mg 412 (by decide +kernel) rfl
theorem st_X10_isPerson : Cond.static yX10_isPerson ∈ gw := mg 434 (by decide +kernel) rfl
theorem st_X10_isState : Cond.static yX10_isState ∈ gw := mg 406 (by decide +kernel) rfl
theorem st_X10_isWay : Cond.static yX10_isWay ∈ gw := mg 547 (by decide +kernel) rfl
theorem st_X10_within : Cond.static yX10_within ∈ gw := mg 409 (by decide +kernel) rfl
theorem st_X11_choose : Cond.static yX11_choose ∈ gw := mg 1352 (by decide +kernel) rfl
theorem st_X11_code : Cond.static yX11_code ∈ gw := mg 1218 (by decide +kernel) rfl
theorem st_X11_gcd : Cond.static yX11_gcd ∈ gw := mg 1355 (by decide +kernel) rfl
theorem st_X11_in : Cond.static yX11_in ∈ gw := mg 1057 (by decide +kernel) rfl
theorem st_X11_isPerson : Cond.static yX11_isPerson ∈ gw := mg 1078 (by decide +kernel) rfl
theorem st_X11_isState : Cond.static yX11_isState ∈ gw := mg 1053 (by decide +kernel) rfl
theorem st_X11_isWay : Cond.static yX11_isWay ∈ gw := mg 1166 (by decide +kernel) rfl
theorem st_X11_place : Cond.static yX11_place ∈ gw := mg 1313 (by decide +kernel) rfl
theorem st_X3_saidWithin : Cond.static yX3_saidWithin ∈ gw := mg 734 (by decide +kernel) rfl
theorem st_X9_factor : Cond.static yX9_factor ∈ gw := mg 453 (by decide +kernel) rfl
theorem im_X0_canBeSaid : Cond.instanceMethod yX0_canBeSaid ∈ gw := mg 817 (by decide +kernel) rfl
theorem im_X0_countSaid : Cond.instanceMethod yX0_countSaid ∈ gw := mg 726 (by decide +kernel) rfl
theorem im_X0_deadThings : Cond.instanceMethod yX0_deadThings ∈ gw := mg 833 (by decide +kernel) rfl
theorem im_X0_hasSaying : Cond.instanceMethod yX0_hasSaying ∈ gw := mg 825 (by decide +kernel) rfl
theorem im_X0_hasThing : Cond.instanceMethod yX0_hasThing ∈ gw := mg 504 (by decide +kernel) rfl
theorem im_X0_hasThings : Cond.instanceMethod yX0_hasThings ∈ gw := mg 695 (by decide +kernel) rfl
theorem im_X0_isTold : Cond.instanceMethod yX0_isTold ∈ gw := mg 522 (by decide +kernel) rfl
theorem im_X0_lookedAtBy : Cond.instanceMethod yX0_lookedAtBy ∈ gw := mg 841 (by decide +kernel) rfl
theorem im_X0_outcomesBy : Cond.instanceMethod yX0_outcomesBy ∈ gw := mg 845 (by decide +kernel) rfl
theorem im_X0_personsWith : Cond.instanceMethod yX0_personsWith ∈ gw := mg 862 (by decide +kernel) rfl
theorem im_X0_sayingsWith : Cond.instanceMethod yX0_sayingsWith ∈ gw := mg 508 (by decide +kernel) rfl
theorem im_X0_standing : Cond.instanceMethod yX0_standing ∈ gw := mg 517 (by decide +kernel) rfl
theorem im_X0_thingsThatAre : Cond.instanceMethod yX0_thingsThatAre ∈ gw := mg 567 (by decide +kernel) rfl
theorem im_X10_barNow : Cond.instanceMethod yX10_barNow ∈ gw := mg 700 (by decide +kernel) rfl
theorem im_X11_areAlways : Cond.instanceMethod yX11_areAlways ∈ gw := mg 1268 (by decide +kernel) rfl
theorem im_X11_areFor : Cond.instanceMethod yX11_areFor ∈ gw := mg 1329 (by decide +kernel) rfl
theorem im_X11_areMost : Cond.instanceMethod yX11_areMost ∈ gw := mg 1284 (by decide +kernel) rfl
theorem im_X11_areThings : Cond.instanceMethod yX11_areThings ∈ gw := mg 1260 (by decide +kernel) rfl
theorem im_X11_barring : Cond.instanceMethod yX11_barring ∈ gw := mg 1264 (by decide +kernel) rfl
theorem im_X11_by : Cond.instanceMethod yX11_by ∈ gw := mg 1317 (by decide +kernel) rfl
theorem im_X11_cameOf : Cond.instanceMethod yX11_cameOf ∈ gw := mg 1349 (by decide +kernel) rfl
theorem im_X11_deadOf : Cond.instanceMethod yX11_deadOf ∈ gw := mg 1325 (by decide +kernel) rfl
theorem im_X11_fails : Cond.instanceMethod yX11_fails ∈ gw := mg 1222 (by decide +kernel) rfl
theorem im_X11_findGain : Cond.instanceMethod yX11_findGain ∈ gw := mg 1297 (by decide +kernel) rfl
theorem im_X11_findOdds : Cond.instanceMethod yX11_findOdds ∈ gw := mg 1105 (by decide +kernel) rfl
theorem im_X11_findPlans : Cond.instanceMethod yX11_findPlans ∈ gw := mg 1293 (by decide +kernel) rfl
theorem im_X11_findRows : Cond.instanceMethod yX11_findRows ∈ gw := mg 1092 (by decide +kernel) rfl
theorem im_X11_here : Cond.instanceMethod yX11_here ∈ gw := mg 1201 (by decide +kernel) rfl
theorem im_X11_isAlways : Cond.instanceMethod yX11_isAlways ∈ gw := mg 1272 (by decide +kernel) rfl
theorem im_X11_isKindBarred : Cond.instanceMethod yX11_isKindBarred ∈ gw := mg 1280 (by decide +kernel) rfl
theorem im_X11_isMust : Cond.instanceMethod yX11_isMust ∈ gw := mg 1310 (by decide +kernel) rfl
theorem im_X11_isOneMatter : Cond.instanceMethod yX11_isOneMatter ∈ gw := mg 1306 (by decide +kernel) rfl
theorem im_X11_isSaying : Cond.instanceMethod yX11_isSaying ∈ gw := mg 1337 (by decide +kernel) rfl
theorem im_X11_isThing : Cond.instanceMethod yX11_isThing ∈ gw := mg 1135 (by decide +kernel) rfl
theorem im_X11_isTold : Cond.instanceMethod yX11_isTold ∈ gw := mg 1151 (by decide +kernel) rfl
theorem im_X11_isWayBarred : Cond.instanceMethod yX11_isWayBarred ∈ gw := mg 1276 (by decide +kernel) rfl
theorem im_X11_lossOf : Cond.instanceMethod yX11_lossOf ∈ gw := mg 1179 (by decide +kernel) rfl
theorem im_X11_needs : Cond.instanceMethod yX11_needs ∈ gw := mg 1240 (by decide +kernel) rfl
theorem im_X11_readAlways : Cond.instanceMethod yX11_readAlways ∈ gw := mg 1248 (by decide +kernel) rfl
theorem im_X11_readClause : Cond.instanceMethod yX11_readClause ∈ gw := mg 1205 (by decide +kernel) rfl
theorem im_X11_readMost : Cond.instanceMethod yX11_readMost ∈ gw := mg 1244 (by decide +kernel) rfl
theorem im_X11_readNever : Cond.instanceMethod yX11_readNever ∈ gw := mg 1226 (by decide +kernel) rfl
theorem im_X11_readNumber : Cond.instanceMethod yX11_readNumber ∈ gw := mg 1234 (by decide +kernel) rfl
theorem im_X11_readWay : Cond.instanceMethod yX11_readWay ∈ gw := mg 1230 (by decide +kernel) rfl
theorem im_X11_readWord : Cond.instanceMethod yX11_readWord ∈ gw := mg 1209 (by decide +kernel) rfl
theorem im_X11_sayingsOf : Cond.instanceMethod yX11_sayingsOf ∈ gw := mg 1139 (by decide +kernel) rfl
theorem im_X11_seamOdds : Cond.instanceMethod yX11_seamOdds ∈ gw := mg 1114 (by decide +kernel) rfl
theorem im_X11_setOf : Cond.instanceMethod yX11_setOf ∈ gw := mg 1301 (by decide +kernel) rfl
theorem im_X11_showsAt : Cond.instanceMethod yX11_showsAt ∈ gw := mg 1096 (by decide +kernel) rfl
theorem im_X11_stateOf : Cond.instanceMethod yX11_stateOf ∈ gw := mg 1147 (by decide +kernel) rfl
theorem im_X11_thingsThat : Cond.instanceMethod yX11_thingsThat ∈ gw := mg 1188 (by decide +kernel) rfl
theorem im_X11_valueOf : Cond.instanceMethod yX11_valueOf ∈ gw := mg 1159 (by decide +kernel) rfl
theorem im_X1_bar : Cond.instanceMethod yX1_bar ∈ gw := mg 738 (by decide +kernel) rfl
theorem im_X1_isAlways : Cond.instanceMethod yX1_isAlways ∈ gw := mg 742 (by decide +kernel) rfl
theorem im_X1_open : Cond.instanceMethod yX1_open ∈ gw := mg 703 (by decide +kernel) rfl
theorem im_X2_append : Cond.instanceMethod yX2_append ∈ gw := mg 576 (by decide +kernel) rfl
theorem im_X2_finish : Cond.instanceMethod yX2_finish ∈ gw := mg 669 (by decide +kernel) rfl
theorem im_X2_needWord : Cond.instanceMethod yX2_needWord ∈ gw := mg 678 (by decide +kernel) rfl
theorem im_X2_note : Cond.instanceMethod yX2_note ∈ gw := mg 654 (by decide +kernel) rfl
theorem im_X2_parse : Cond.instanceMethod yX2_parse ∈ gw := mg 584 (by decide +kernel) rfl
theorem im_X2_readClause : Cond.instanceMethod yX2_readClause ∈ gw := mg 593 (by decide +kernel) rfl
theorem im_X2_readNever : Cond.instanceMethod yX2_readNever ∈ gw := mg 658 (by decide +kernel) rfl
theorem im_X2_refuseNinth : Cond.instanceMethod yX2_refuseNinth ∈ gw := mg 650 (by decide +kernel) rfl
theorem im_X2_skipBlanks : Cond.instanceMethod yX2_skipBlanks ∈ gw := mg 589 (by decide +kernel) rfl
theorem im_X2_takeNumber : Cond.instanceMethod yX2_takeNumber ∈ gw := mg 663 (by decide +kernel) rfl
theorem im_X2_takeWord : Cond.instanceMethod yX2_takeWord ∈ gw := mg 598 (by decide +kernel) rfl
theorem im_X3_add : Cond.instanceMethod yX3_add ∈ gw := mg 672 (by decide +kernel) rfl
theorem im_X3_alwaysFrom : Cond.instanceMethod yX3_alwaysFrom ∈ gw := mg 707 (by decide +kernel) rfl
theorem im_X3_barredKinds : Cond.instanceMethod yX3_barredKinds ∈ gw := mg 711 (by decide +kernel) rfl
theorem im_X3_barredWays : Cond.instanceMethod yX3_barredWays ∈ gw := mg 715 (by decide +kernel) rfl
theorem im_X3_countsSayings : Cond.instanceMethod yX3_countsSayings ∈ gw := mg 757 (by decide +kernel) rfl
theorem im_X3_isLikely : Cond.instanceMethod yX3_isLikely ∈ gw := mg 720 (by decide +kernel) rfl
theorem im_X3_mostBars : Cond.instanceMethod yX3_mostBars ∈ gw := mg 730 (by decide +kernel) rfl
theorem im_X4_decide : Cond.instanceMethod yX4_decide ∈ gw := mg 796 (by decide +kernel) rfl
theorem im_X4_make : Cond.instanceMethod yX4_make ∈ gw := mg 750 (by decide +kernel) rfl
theorem im_X4_mostBarsAt : Cond.instanceMethod yX4_mostBarsAt ∈ gw := mg 791 (by decide +kernel) rfl
theorem im_X4_nodeBehind : Cond.instanceMethod yX4_nodeBehind ∈ gw := mg 800 (by decide +kernel) rfl
theorem im_X4_pick : Cond.instanceMethod yX4_pick ∈ gw := mg 762 (by decide +kernel) rfl
theorem im_X4_price : Cond.instanceMethod yX4_price ∈ gw := mg 769 (by decide +kernel) rfl
theorem im_X4_priceSet : Cond.instanceMethod yX4_priceSet ∈ gw := mg 785 (by decide +kernel) rfl
theorem im_X4_tell : Cond.instanceMethod yX4_tell ∈ gw := mg 810 (by decide +kernel) rfl
theorem im_X4_total : Cond.instanceMethod yX4_total ∈ gw := mg 804 (by decide +kernel) rfl
theorem im_X6_isMust : Cond.instanceMethod yX6_isMust ∈ gw := mg 779 (by decide +kernel) rfl
theorem im_X6_planValueIn : Cond.instanceMethod yX6_planValueIn ∈ gw := mg 775 (by decide +kernel) rfl
theorem im_X6_valueIn : Cond.instanceMethod yX6_valueIn ∈ gw := mg 535 (by decide +kernel) rfl
theorem im_X7_isLeft : Cond.instanceMethod yX7_isLeft ∈ gw := mg 883 (by decide +kernel) rfl
theorem im_X7_run : Cond.instanceMethod yX7_run ∈ gw := mg 871 (by decide +kernel) rfl
theorem im_X7_sayIn : Cond.instanceMethod yX7_sayIn ∈ gw := mg 878 (by decide +kernel) rfl
theorem im_X8_lossBy : Cond.instanceMethod yX8_lossBy ∈ gw := mg 558 (by decide +kernel) rfl
theorem im_X9_allWeights : Cond.instanceMethod yX9_allWeights ∈ gw := mg 461 (by decide +kernel) rfl
theorem im_X9_fittingRows : Cond.instanceMethod yX9_fittingRows ∈ gw := mg 445 (by decide +kernel) rfl
theorem im_X9_lookAhead : Cond.instanceMethod yX9_lookAhead ∈ gw := mg 471 (by decide +kernel) rfl
theorem im_X9_moveOn : Cond.instanceMethod yX9_moveOn ∈ gw := mg 477 (by decide +kernel) rfl
theorem im_X9_seamOdds : Cond.instanceMethod yX9_seamOdds ∈ gw := mg 484 (by decide +kernel) rfl
theorem im_X9_signFactor : Cond.instanceMethod yX9_signFactor ∈ gw := mg 457 (by decide +kernel) rfl
theorem im_X9_weigh : Cond.instanceMethod yX9_weigh ∈ gw := mg 450 (by decide +kernel) rfl
theorem se_X0_canBeSaid : Cond.selects yX0_canBeSaid.cls yX0_canBeSaid yX0_canBeSaid ∈ gw := mg 818 (by decide +kernel) rfl
theorem se_X0_countSaid : Cond.selects yX0_countSaid.cls yX0_countSaid yX0_countSaid ∈ gw := mg 727 (by decide +kernel) rfl
theorem se_X0_deadThings : Cond.selects yX0_deadThings.cls yX0_deadThings yX0_deadThings ∈ gw := mg 834 (by decide +kernel) rfl
theorem se_X0_hasSaying : Cond.selects yX0_hasSaying.cls yX0_hasSaying yX0_hasSaying ∈ gw := mg 826 (by decide +kernel) rfl
theorem se_X0_hasThing : Cond.selects yX0_hasThing.cls yX0_hasThing yX0_hasThing ∈ gw := mg 505 (by decide +kernel) rfl
theorem se_X0_hasThings : Cond.selects yX0_hasThings.cls yX0_hasThings yX0_hasThings ∈ gw := mg 696 (by decide +kernel) rfl
theorem se_X0_isTold : Cond.selects yX0_isTold.cls yX0_isTold yX0_isTold ∈ gw := mgs (k := 4) 4 (by decide +kernel)
theorem se_X0_lookedAtBy : Cond.selects yX0_lookedAtBy.cls yX0_lookedAtBy yX0_lookedAtBy ∈ gw := mg 842 (by decide +kernel) rfl
theorem se_X0_outcomesBy : Cond.selects yX0_outcomesBy.cls yX0_outcomesBy yX0_outcomesBy ∈ gw := mg 846 (by decide +kernel) rfl
theorem se_X0_personsWith : Cond.selects yX0_personsWith.cls yX0_personsWith yX0_personsWith ∈ gw := mg 863 (by decide +kernel) rfl
theorem se_X0_sayingsWith : Cond.selects yX0_sayingsWith.cls yX0_sayingsWith yX0_sayingsWith ∈ gw := mg 509 (by decide +kernel) rfl
theorem se_X0_standing : Cond.selects yX0_standing.cls yX0_standing yX0_standing ∈ gw := mg 518 (by decide +kernel) rfl
theorem se_X0_thingsThatAre : Cond.selects yX0_thingsThatAre.cls yX0_thingsThatAre yX0_thingsThatAre ∈ gw := mg 568 (by decide +kernel) rfl
theorem se_X10_barNow : Cond.selects yX10_barNow.cls yX10_barNow yX10_barNow ∈ gw := mgs (k := 11) 14 (by decide +kernel)
theorem se_X11_areAlways : Cond.selects yX11_areAlways.cls yX11_areAlways yX11_areAlways ∈ gw := mgs (k := 51) 49 (by decide +kernel)
theorem se_X11_areFor : Cond.selects yX11_areFor.cls yX11_areFor yX11_areFor ∈ gw := mgs (k := 51) 61 (by decide +kernel)
theorem se_X11_areMost : Cond.selects yX11_areMost.cls yX11_areMost yX11_areMost ∈ gw := mgs (k := 51) 53 (by decide +kernel)
theorem se_X11_areThings : Cond.selects yX11_areThings.cls yX11_areThings yX11_areThings ∈ gw := mgs (k := 51) 47 (by decide +kernel)
theorem se_X11_barring : Cond.selects yX11_barring.cls yX11_barring yX11_barring ∈ gw := mgs (k := 51) 48 (by decide +kernel)
theorem se_X11_by : Cond.selects yX11_by.cls yX11_by yX11_by ∈ gw := mgs (k := 51) 59 (by decide +kernel)
theorem se_X11_cameOf : Cond.selects yX11_cameOf.cls yX11_cameOf yX11_cameOf ∈ gw := mgs (k := 51) 63 (by decide +kernel)
theorem se_X11_deadOf : Cond.selects yX11_deadOf.cls yX11_deadOf yX11_deadOf ∈ gw := mgs (k := 51) 60 (by decide +kernel)
theorem se_X11_fails : Cond.selects yX11_fails.cls yX11_fails yX11_fails ∈ gw := mgs (k := 51) 40 (by decide +kernel)
theorem se_X11_findGain : Cond.selects yX11_findGain.cls yX11_findGain yX11_findGain ∈ gw := mgs (k := 51) 55 (by decide +kernel)
theorem se_X11_findOdds : Cond.selects yX11_findOdds.cls yX11_findOdds yX11_findOdds ∈ gw := mgs (k := 51) 28 (by decide +kernel)
theorem se_X11_findPlans : Cond.selects yX11_findPlans.cls yX11_findPlans yX11_findPlans ∈ gw := mgs (k := 51) 54 (by decide +kernel)
theorem se_X11_findRows : Cond.selects yX11_findRows.cls yX11_findRows yX11_findRows ∈ gw := mgs (k := 51) 26 (by decide +kernel)
theorem se_X11_here : Cond.selects yX11_here.cls yX11_here yX11_here ∈ gw := mgs (k := 51) 37 (by decide +kernel)
theorem se_X11_isAlways : Cond.selects yX11_isAlways.cls yX11_isAlways yX11_isAlways ∈ gw := mgs (k := 51) 50 (by decide +kernel)
theorem se_X11_isKindBarred : Cond.selects yX11_isKindBarred.cls yX11_isKindBarred yX11_isKindBarred ∈ gw := mgs (k := 51) 52 (by decide +kernel)
theorem se_X11_isMust : Cond.selects yX11_isMust.cls yX11_isMust yX11_isMust ∈ gw := mgs (k := 51) 58 (by decide +kernel)
theorem se_X11_isOneMatter : Cond.selects yX11_isOneMatter.cls yX11_isOneMatter yX11_isOneMatter ∈ gw := mgs (k := 51) 57 (by decide +kernel)
theorem se_X11_isSaying : Cond.selects yX11_isSaying.cls yX11_isSaying yX11_isSaying ∈ gw := mgs (k := 51) 62 (by decide +kernel)
theorem se_X11_isThing : Cond.selects yX11_isThing.cls yX11_isThing yX11_isThing ∈ gw := mgs (k := 51) 30 (by decide +kernel)
theorem se_X11_isTold : Cond.selects yX11_isTold.cls yX11_isTold yX11_isTold ∈ gw := mgs (k := 51) 33 (by decide +kernel)
theorem se_X11_isWayBarred : Cond.selects yX11_isWayBarred.cls yX11_isWayBarred yX11_isWayBarred ∈ gw := mgs (k := 51) 51 (by decide +kernel)
theorem se_X11_lossOf : Cond.selects yX11_lossOf.cls yX11_lossOf yX11_lossOf ∈ gw := mgs (k := 51) 35 (by decide +kernel)
theorem se_X11_needs : Cond.selects yX11_needs.cls yX11_needs yX11_needs ∈ gw := mgs (k := 51) 44 (by decide +kernel)
theorem se_X11_readAlways : Cond.selects yX11_readAlways.cls yX11_readAlways yX11_readAlways ∈ gw := mgs (k := 51) 46 (by decide +kernel)
theorem se_X11_readClause : Cond.selects yX11_readClause.cls yX11_readClause yX11_readClause ∈ gw := mgs (k := 51) 38 (by decide +kernel)
theorem se_X11_readMost : Cond.selects yX11_readMost.cls yX11_readMost yX11_readMost ∈ gw := mgs (k := 51) 45 (by decide +kernel)
theorem se_X11_readNever : Cond.selects yX11_readNever.cls yX11_readNever yX11_readNever ∈ gw := mgs (k := 51) 41 (by decide +kernel)
theorem se_X11_readNumber : Cond.selects yX11_readNumber.cls yX11_readNumber yX11_readNumber ∈ gw := mgs (k := 51) 43 (by decide +kernel)
theorem se_X11_readWay : Cond.selects yX11_readWay.cls yX11_readWay yX11_readWay ∈ gw := mgs (k := 51) 42 (by decide +kernel)
theorem se_X11_readWord : Cond.selects yX11_readWord.cls yX11_readWord yX11_readWord ∈ gw := mgs (k := 51) 39 (by decide +kernel)
theorem se_X11_sayingsOf : Cond.selects yX11_sayingsOf.cls yX11_sayingsOf yX11_sayingsOf ∈ gw := mgs (k := 51) 31 (by decide +kernel)
theorem se_X11_seamOdds : Cond.selects yX11_seamOdds.cls yX11_seamOdds yX11_seamOdds ∈ gw := mgs (k := 51) 29 (by decide +kernel)
theorem se_X11_setOf : Cond.selects yX11_setOf.cls yX11_setOf yX11_setOf ∈ gw := mgs (k := 51) 56 (by decide +kernel)
theorem se_X11_showsAt : Cond.selects yX11_showsAt.cls yX11_showsAt yX11_showsAt ∈ gw := mgs (k := 51) 27 (by decide +kernel)
theorem se_X11_stateOf : Cond.selects yX11_stateOf.cls yX11_stateOf yX11_stateOf ∈ gw := mgs (k := 51) 32 (by decide +kernel)
theorem se_X11_thingsThat : Cond.selects yX11_thingsThat.cls yX11_thingsThat yX11_thingsThat ∈ gw := mgs (k := 51) 36 (by decide +kernel)
theorem se_X11_valueOf : Cond.selects yX11_valueOf.cls yX11_valueOf yX11_valueOf ∈ gw := mgs (k := 51) 34 (by decide +kernel)
theorem se_X1_bar : Cond.selects yX1_bar.cls yX1_bar yX1_bar ∈ gw := mg 739 (by decide +kernel) rfl
theorem se_X1_isAlways : Cond.selects yX1_isAlways.cls yX1_isAlways yX1_isAlways ∈ gw := mg 743 (by decide +kernel) rfl
theorem se_X1_open : Cond.selects yX1_open.cls yX1_open yX1_open ∈ gw := mg 704 (by decide +kernel) rfl
theorem se_X2_append : Cond.selects yX2_append.cls yX2_append yX2_append ∈ gw := mg 577 (by decide +kernel) rfl
theorem se_X2_finish : Cond.selects yX2_finish.cls yX2_finish yX2_finish ∈ gw := mgs (k := 5) 12 (by decide +kernel)
theorem se_X2_needWord : Cond.selects yX2_needWord.cls yX2_needWord yX2_needWord ∈ gw := mgs (k := 5) 13 (by decide +kernel)
theorem se_X2_note : Cond.selects yX2_note.cls yX2_note yX2_note ∈ gw := mgs (k := 5) 9 (by decide +kernel)
theorem se_X2_parse : Cond.selects yX2_parse.cls yX2_parse yX2_parse ∈ gw := mg 585 (by decide +kernel) rfl
theorem se_X2_readClause : Cond.selects yX2_readClause.cls yX2_readClause yX2_readClause ∈ gw := mgs (k := 5) 6 (by decide +kernel)
theorem se_X2_readNever : Cond.selects yX2_readNever.cls yX2_readNever yX2_readNever ∈ gw := mgs (k := 5) 10 (by decide +kernel)
theorem se_X2_refuseNinth : Cond.selects yX2_refuseNinth.cls yX2_refuseNinth yX2_refuseNinth ∈ gw := mgs (k := 5) 8 (by decide +kernel)
theorem se_X2_skipBlanks : Cond.selects yX2_skipBlanks.cls yX2_skipBlanks yX2_skipBlanks ∈ gw := mgs (k := 5) 5 (by decide +kernel)
theorem se_X2_takeNumber : Cond.selects yX2_takeNumber.cls yX2_takeNumber yX2_takeNumber ∈ gw := mgs (k := 5) 11 (by decide +kernel)
theorem se_X2_takeWord : Cond.selects yX2_takeWord.cls yX2_takeWord yX2_takeWord ∈ gw := mgs (k := 5) 7 (by decide +kernel)
theorem se_X3_add : Cond.selects yX3_add.cls yX3_add yX3_add ∈ gw := mg 673 (by decide +kernel) rfl
theorem se_X3_alwaysFrom : Cond.selects yX3_alwaysFrom.cls yX3_alwaysFrom yX3_alwaysFrom ∈ gw := mg 708 (by decide +kernel) rfl
theorem se_X3_barredKinds : Cond.selects yX3_barredKinds.cls yX3_barredKinds yX3_barredKinds ∈ gw := mg 712 (by decide +kernel) rfl
theorem se_X3_barredWays : Cond.selects yX3_barredWays.cls yX3_barredWays yX3_barredWays ∈ gw := mg 716 (by decide +kernel) rfl
theorem se_X3_countsSayings : Cond.selects yX3_countsSayings.cls yX3_countsSayings yX3_countsSayings ∈ gw := mg 758 (by decide +kernel) rfl
theorem se_X3_isLikely : Cond.selects yX3_isLikely.cls yX3_isLikely yX3_isLikely ∈ gw := mgs (k := 5) 15 (by decide +kernel)
theorem se_X3_mostBars : Cond.selects yX3_mostBars.cls yX3_mostBars yX3_mostBars ∈ gw := mg 731 (by decide +kernel) rfl
theorem se_X4_decide : Cond.selects yX4_decide.cls yX4_decide yX4_decide ∈ gw := mgs (k := 19) 20 (by decide +kernel)
theorem se_X4_make : Cond.selects yX4_make.cls yX4_make yX4_make ∈ gw := mg 751 (by decide +kernel) rfl
theorem se_X4_mostBarsAt : Cond.selects yX4_mostBarsAt.cls yX4_mostBarsAt yX4_mostBarsAt ∈ gw := mgs (k := 19) 19 (by decide +kernel)
theorem se_X4_nodeBehind : Cond.selects yX4_nodeBehind.cls yX4_nodeBehind yX4_nodeBehind ∈ gw := mgs (k := 19) 21 (by decide +kernel)
theorem se_X4_pick : Cond.selects yX4_pick.cls yX4_pick yX4_pick ∈ gw := mgs (k := 19) 16 (by decide +kernel)
theorem se_X4_price : Cond.selects yX4_price.cls yX4_price yX4_price ∈ gw := mgs (k := 19) 17 (by decide +kernel)
theorem se_X4_priceSet : Cond.selects yX4_priceSet.cls yX4_priceSet yX4_priceSet ∈ gw := mgs (k := 19) 18 (by decide +kernel)
theorem se_X4_tell : Cond.selects yX4_tell.cls yX4_tell yX4_tell ∈ gw := mgs (k := 19) 23 (by decide +kernel)
theorem se_X4_total : Cond.selects yX4_total.cls yX4_total yX4_total ∈ gw := mgs (k := 19) 22 (by decide +kernel)
theorem se_X6_isMust : Cond.selects yX6_isMust.cls yX6_isMust yX6_isMust ∈ gw := mg 780 (by decide +kernel) rfl
theorem se_X6_planValueIn : Cond.selects yX6_planValueIn.cls yX6_planValueIn yX6_planValueIn ∈ gw := mg 776 (by decide +kernel) rfl
theorem se_X6_valueIn : Cond.selects yX6_valueIn.cls yX6_valueIn yX6_valueIn ∈ gw := mg 536 (by decide +kernel) rfl
theorem se_X7_isLeft : Cond.selects yX7_isLeft.cls yX7_isLeft yX7_isLeft ∈ gw := mgs (k := 8) 25 (by decide +kernel)
theorem se_X7_run : Cond.selects yX7_run.cls yX7_run yX7_run ∈ gw := mg 872 (by decide +kernel) rfl
theorem se_X7_sayIn : Cond.selects yX7_sayIn.cls yX7_sayIn yX7_sayIn ∈ gw := mgs (k := 8) 24 (by decide +kernel)
theorem se_X8_lossBy : Cond.selects yX8_lossBy.cls yX8_lossBy yX8_lossBy ∈ gw := mg 559 (by decide +kernel) rfl
theorem se_X9_allWeights : Cond.selects yX9_allWeights.cls yX9_allWeights yX9_allWeights ∈ gw := mgs (k := 8) 2 (by decide +kernel)
theorem se_X9_fittingRows : Cond.selects yX9_fittingRows.cls yX9_fittingRows yX9_fittingRows ∈ gw := mg 446 (by decide +kernel) rfl
theorem se_X9_lookAhead : Cond.selects yX9_lookAhead.cls yX9_lookAhead yX9_lookAhead ∈ gw := mg 472 (by decide +kernel) rfl
theorem se_X9_moveOn : Cond.selects yX9_moveOn.cls yX9_moveOn yX9_moveOn ∈ gw := mgs (k := 8) 3 (by decide +kernel)
theorem se_X9_seamOdds : Cond.selects yX9_seamOdds.cls yX9_seamOdds yX9_seamOdds ∈ gw := mg 485 (by decide +kernel) rfl
theorem se_X9_signFactor : Cond.selects yX9_signFactor.cls yX9_signFactor yX9_signFactor ∈ gw := mgs (k := 8) 1 (by decide +kernel)
theorem se_X9_weigh : Cond.selects yX9_weigh.cls yX9_weigh yX9_weigh ∈ gw := mgs (k := 8) 0 (by decide +kernel)
theorem kc_X10_131 : Cond.constant RX10 131 (1000000) ∈ gw := mg 494 (by decide +kernel) rfl
theorem kc_X11_219 : Cond.constant RX11 219 (1000000) ∈ gw := mg 1181 (by decide +kernel) rfl
theorem kc_X11_328 : Cond.constant RX11 328 (-1000000000) ∈ gw := mg 1303 (by decide +kernel) rfl
theorem kc_J6_265 : Cond.constant RJ6 265 (1431655765) ∈ gw := mg 527 (by decide +kernel) rfl
theorem kc_J6_266 : Cond.constant RJ6 266 (858993459) ∈ gw := mg 528 (by decide +kernel) rfl
theorem kc_J6_267 : Cond.constant RJ6 267 (252645135) ∈ gw := mg 529 (by decide +kernel) rfl
theorem kl_X3_32 : Cond.constantLong RX3 32 (100) ∈ gw := mg 722 (by decide +kernel) rfl
theorem kl_X3_34 : Cond.constantLong RX3 34 (1000000) ∈ gw := mg 723 (by decide +kernel) rfl
theorem kl_X6_37 : Cond.constantLong RX6 37 (1000000) ∈ gw := mg 541 (by decide +kernel) rfl
theorem kl_X8_20 : Cond.constantLong RX8 20 (1000000) ∈ gw := mg 561 (by decide +kernel) rfl
theorem kl_X9_44 : Cond.constantLong RX9 44 (1000000) ∈ gw := mg 474 (by decide +kernel) rfl
theorem kl_X11_136 : Cond.constantLong RX11 136 (3) ∈ gw := mg 1055 (by decide +kernel) rfl
theorem kl_X11_146 : Cond.constantLong RX11 146 (4) ∈ gw := mg 1059 (by decide +kernel) rfl
theorem kl_X11_148 : Cond.constantLong RX11 148 (15) ∈ gw := mg 1072 (by decide +kernel) rfl
theorem kl_X11_156 : Cond.constantLong RX11 156 (-1) ∈ gw := mg 1080 (by decide +kernel) rfl
theorem kl_X11_161 : Cond.constantLong RX11 161 (20) ∈ gw := mg 1085 (by decide +kernel) rfl
theorem kl_X11_171 : Cond.constantLong RX11 171 (1000000) ∈ gw := mg 1107 (by decide +kernel) rfl
theorem kl_X11_177 : Cond.constantLong RX11 177 (8) ∈ gw := mg 1102 (by decide +kernel) rfl
theorem kl_X11_185 : Cond.constantLong RX11 185 (5) ∈ gw := mg 1124 (by decide +kernel) rfl
theorem kl_X11_187 : Cond.constantLong RX11 187 (9) ∈ gw := mg 1125 (by decide +kernel) rfl
theorem kl_X11_189 : Cond.constantLong RX11 189 (999) ∈ gw := mg 1126 (by decide +kernel) rfl
theorem kl_X11_191 : Cond.constantLong RX11 191 (99) ∈ gw := mg 1127 (by decide +kernel) rfl
theorem kl_X11_193 : Cond.constantLong RX11 193 (60) ∈ gw := mg 1128 (by decide +kernel) rfl
theorem kl_X11_217 : Cond.constantLong RX11 217 (100) ∈ gw := mg 1172 (by decide +kernel) rfl
theorem kl_X11_230 : Cond.constantLong RX11 230 (255) ∈ gw := mg 1194 (by decide +kernel) rfl
theorem kl_X11_246 : Cond.constantLong RX11 246 (97) ∈ gw := mg 1211 (by decide +kernel) rfl
theorem kl_X11_248 : Cond.constantLong RX11 248 (122) ∈ gw := mg 1212 (by decide +kernel) rfl
theorem kl_X11_250 : Cond.constantLong RX11 250 (10000000000) ∈ gw := mg 1213 (by decide +kernel) rfl
theorem kl_X11_252 : Cond.constantLong RX11 252 (20000000000) ∈ gw := mg 1214 (by decide +kernel) rfl
theorem kl_X11_254 : Cond.constantLong RX11 254 (27) ∈ gw := mg 1215 (by decide +kernel) rfl
theorem kl_X11_256 : Cond.constantLong RX11 256 (96) ∈ gw := mg 1216 (by decide +kernel) rfl
theorem kl_X11_265 : Cond.constantLong RX11 265 (48) ∈ gw := mg 1236 (by decide +kernel) rfl
theorem kl_X11_267 : Cond.constantLong RX11 267 (57) ∈ gw := mg 1237 (by decide +kernel) rfl
theorem kl_X11_344 : Cond.constantLong RX11 344 (6) ∈ gw := mg 1290 (by decide +kernel) rfl
def rm_X0_hasThing : Room := { frames := 0, cells := 0, slots := 0, locals := 0 }
def rm_X0_hasThings : Room := { frames := 0, cells := 0, slots := 0, locals := 0 }
def rm_X0_hasSaying : Room := { frames := 0, cells := 0, slots := 0, locals := 0 }
def rm_X10_contains : Room := { frames := 0, cells := 0, slots := 0, locals := 0 }
def rm_J6_bitCount_0f7a4 : Room := { frames := 0, cells := 0, slots := 0, locals := 0 }
def rm_X0_isTold : Room := { frames := 1, cells := 0, slots := 0, locals := 21 }
def rm_X0_standing : Room := { frames := 2, cells := 0, slots := 0, locals := 45 }
def rm_X0_thingsThatAre : Room := { frames := 3, cells := 0, slots := 0, locals := 67 }
def rm_X0_sayingsWith : Room := { frames := 1, cells := 0, slots := 0, locals := 21 }
def rm_X0_personsWith : Room := { frames := 1, cells := 0, slots := 0, locals := 21 }
def rm_X0_deadThings : Room := { frames := 0, cells := 0, slots := 0, locals := 0 }
def rm_X0_canBeSaid : Room := { frames := 1, cells := 0, slots := 0, locals := 21 }
def rm_X0_countSaid : Room := { frames := 0, cells := 0, slots := 0, locals := 0 }
def rm_X0_outcomesBy : Room := { frames := 0, cells := 0, slots := 0, locals := 0 }
def rm_X0_lookedAtBy : Room := { frames := 0, cells := 0, slots := 0, locals := 0 }
def rm_X3_alwaysFrom : Room := { frames := 0, cells := 0, slots := 0, locals := 0 }
def rm_X3_barredKinds : Room := { frames := 0, cells := 0, slots := 0, locals := 0 }
def rm_X3_isLikely : Room := { frames := 0, cells := 0, slots := 0, locals := 0 }
def rm_X3_barredWays : Room := { frames := 1, cells := 0, slots := 0, locals := 23 }
def rm_X1_open : Room := { frames := 2, cells := 0, slots := 0, locals := 46 }
def rm_X1_isAlways : Room := { frames := 0, cells := 0, slots := 0, locals := 0 }
def rm_X1_bar : Room := { frames := 1, cells := 0, slots := 0, locals := 21 }
def rm_X2_append : Room := { frames := 0, cells := 0, slots := 0, locals := 0 }
def rm_X2_skipBlanks : Room := { frames := 0, cells := 0, slots := 0, locals := 0 }
def rm_X2_takeWord : Room := { frames := 5, cells := 0, slots := 0, locals := 160 }
def rm_X2_note : Room := { frames := 0, cells := 0, slots := 0, locals := 0 }
def rm_X2_refuseNinth : Room := { frames := 1, cells := 0, slots := 0, locals := 22 }
def rm_X10_within : Room := { frames := 0, cells := 0, slots := 0, locals := 0 }
def rm_X2_takeNumber : Room := { frames := 1, cells := 0, slots := 0, locals := 22 }
def rm_X3_add : Room := { frames := 0, cells := 0, slots := 0, locals := 0 }
def rm_X2_finish : Room := { frames := 1, cells := 0, slots := 0, locals := 24 }
def rm_X2_needWord : Room := { frames := 6, cells := 0, slots := 0, locals := 183 }
def rm_X2_readNever : Room := { frames := 7, cells := 0, slots := 0, locals := 204 }
def rm_X2_readClause : Room := { frames := 8, cells := 0, slots := 0, locals := 228 }
def rm_X2_parse : Room := { frames := 9, cells := 0, slots := 0, locals := 252 }
def rm_X3_countsSayings : Room := { frames := 0, cells := 0, slots := 0, locals := 0 }
def rm_X3_saidWithin : Room := { frames := 1, cells := 0, slots := 0, locals := 21 }
def rm_X3_mostBars : Room := { frames := 2, cells := 0, slots := 0, locals := 45 }
def rm_X4_pick : Room := { frames := 3, cells := 0, slots := 0, locals := 67 }
def rm_X9_factor : Room := { frames := 0, cells := 0, slots := 0, locals := 0 }
def rm_X9_signFactor : Room := { frames := 1, cells := 0, slots := 0, locals := 21 }
def rm_X9_weigh : Room := { frames := 2, cells := 0, slots := 0, locals := 44 }
def rm_X9_allWeights : Room := { frames := 0, cells := 0, slots := 0, locals := 0 }
def rm_X9_moveOn : Room := { frames := 0, cells := 0, slots := 0, locals := 0 }
def rm_X9_lookAhead : Room := { frames := 3, cells := 0, slots := 0, locals := 73 }
def rm_X8_lossBy : Room := { frames := 0, cells := 0, slots := 0, locals := 0 }
def rm_X9_seamOdds : Room := { frames := 1, cells := 0, slots := 0, locals := 21 }
def rm_X6_isMust : Room := { frames := 0, cells := 0, slots := 0, locals := 0 }
def rm_X6_valueIn : Room := { frames := 1, cells := 0, slots := 0, locals := 21 }
def rm_X6_planValueIn : Room := { frames := 2, cells := 0, slots := 0, locals := 44 }
def rm_X4_priceSet : Room := { frames := 2, cells := 0, slots := 0, locals := 45 }
def rm_X4_price : Room := { frames := 3, cells := 0, slots := 0, locals := 73 }
def rm_X4_mostBarsAt : Room := { frames := 3, cells := 0, slots := 0, locals := 68 }
def rm_X4_nodeBehind : Room := { frames := 0, cells := 0, slots := 0, locals := 0 }
def rm_X4_total : Room := { frames := 0, cells := 0, slots := 0, locals := 0 }
def rm_X4_decide : Room := { frames := 1, cells := 0, slots := 0, locals := 22 }
def rm_X4_tell : Room := { frames := 4, cells := 0, slots := 0, locals := 94 }
def rm_X4_make : Room := { frames := 5, cells := 0, slots := 0, locals := 121 }
def rm_X7_isLeft : Room := { frames := 1, cells := 0, slots := 0, locals := 21 }
def rm_X7_sayIn : Room := { frames := 2, cells := 0, slots := 0, locals := 43 }
def rm_X7_run : Room := { frames := 4, cells := 0, slots := 0, locals := 99 }
def rm_X9_fittingRows : Room := { frames := 3, cells := 0, slots := 0, locals := 73 }
def rm_X10_isState : Room := { frames := 1, cells := 0, slots := 0, locals := 22 }
def rm_X10_isOften : Room := { frames := 1, cells := 0, slots := 0, locals := 22 }
def rm_X10_exchange : Room := { frames := 0, cells := 0, slots := 0, locals := 0 }
def rm_X10_move : Room := { frames := 2, cells := 0, slots := 0, locals := 42 }
def rm_X10_shows : Room := { frames := 2, cells := 0, slots := 0, locals := 42 }
def rm_X10_begins : Room := { frames := 2, cells := 0, slots := 0, locals := 42 }
def rm_X10_seams : Room := { frames := 1, cells := 0, slots := 0, locals := 22 }
def rm_X10_isPerson : Room := { frames := 1, cells := 0, slots := 0, locals := 22 }
def rm_X10_sign : Room := { frames := 2, cells := 0, slots := 0, locals := 42 }
def rm_X10_go : Room := { frames := 1, cells := 0, slots := 0, locals := 22 }
def rm_X10_fits : Room := { frames := 4, cells := 0, slots := 0, locals := 95 }
def rm_X10_isAhead : Room := { frames := 1, cells := 0, slots := 0, locals := 22 }
def rm_X10_odds : Room := { frames := 4, cells := 0, slots := 0, locals := 99 }
def rm_X10_seam : Room := { frames := 4, cells := 0, slots := 0, locals := 99 }
def rm_X10_until : Room := { frames := 4, cells := 0, slots := 0, locals := 99 }
def rm_X10_thing : Room := { frames := 1, cells := 0, slots := 0, locals := 22 }
def rm_X10_dead : Room := { frames := 2, cells := 0, slots := 0, locals := 44 }
def rm_X10_told : Room := { frames := 3, cells := 0, slots := 0, locals := 67 }
def rm_X10_value : Room := { frames := 4, cells := 0, slots := 0, locals := 99 }
def rm_X10_isWay : Room := { frames := 1, cells := 0, slots := 0, locals := 22 }
def rm_X10_cost : Room := { frames := 2, cells := 0, slots := 0, locals := 42 }
def rm_X10_seen : Room := { frames := 2, cells := 0, slots := 0, locals := 42 }
def rm_X10_loss : Room := { frames := 4, cells := 0, slots := 0, locals := 99 }
def rm_X10_count : Room := { frames := 4, cells := 0, slots := 0, locals := 91 }
def rm_X10_feed : Room := { frames := 1, cells := 0, slots := 0, locals := 22 }
def rm_X10_read : Room := { frames := 10, cells := 0, slots := 0, locals := 274 }
def rm_X10_fault : Room := { frames := 0, cells := 0, slots := 0, locals := 0 }
def rm_X10_barNow : Room := { frames := 4, cells := 0, slots := 0, locals := 99 }
def rm_X10_barred : Room := { frames := 5, cells := 0, slots := 0, locals := 122 }
def rm_X10_plan : Room := { frames := 6, cells := 0, slots := 0, locals := 151 }
def rm_X10_say : Room := { frames := 5, cells := 0, slots := 0, locals := 122 }
def rm_X10_came : Room := { frames := 1, cells := 0, slots := 0, locals := 22 }
def rm_X10_saying : Room := { frames := 1, cells := 0, slots := 0, locals := 22 }
def rm_X10_choose : Room := { frames := 0, cells := 0, slots := 0, locals := 0 }
def rm_X10_commonPart : Room := { frames := 0, cells := 0, slots := 0, locals := 0 }
def rm_X10_chance : Room := { frames := 1, cells := 0, slots := 0, locals := 30 }
def rm_X10_learnt : Room := { frames := 2, cells := 0, slots := 0, locals := 60 }
def rm_X10_who : Room := { frames := 4, cells := 0, slots := 0, locals := 99 }
def rm_X10_tried : Room := { frames := 5, cells := 0, slots := 0, locals := 125 }
def rm_X11_in : Room := { frames := 0, cells := 0, slots := 0, locals := 0 }
def rm_X11_isState : Room := { frames := 1, cells := 0, slots := 0, locals := 25 }
def rm_X11_isPerson : Room := { frames := 1, cells := 0, slots := 0, locals := 25 }
def rm_X11_move : Room := { frames := 2, cells := 0, slots := 0, locals := 45 }
def rm_X11_shows : Room := { frames := 2, cells := 0, slots := 0, locals := 45 }
def rm_X11_begins : Room := { frames := 2, cells := 0, slots := 0, locals := 45 }
def rm_X11_seams : Room := { frames := 1, cells := 0, slots := 0, locals := 25 }
def rm_X11_sign : Room := { frames := 2, cells := 0, slots := 0, locals := 45 }
def rm_X11_go : Room := { frames := 1, cells := 0, slots := 0, locals := 25 }
def rm_X11_showsAt : Room := { frames := 0, cells := 0, slots := 0, locals := 0 }
def rm_X11_findRows : Room := { frames := 1, cells := 0, slots := 0, locals := 24 }
def rm_X11_findOdds : Room := { frames := 2, cells := 0, slots := 0, locals := 51 }
def rm_X11_seamOdds : Room := { frames := 3, cells := 0, slots := 0, locals := 80 }
def rm_X11_fits : Room := { frames := 2, cells := 0, slots := 0, locals := 51 }
def rm_X11_odds : Room := { frames := 3, cells := 0, slots := 0, locals := 80 }
def rm_X11_seam : Room := { frames := 4, cells := 0, slots := 0, locals := 105 }
def rm_X11_until : Room := { frames := 4, cells := 0, slots := 0, locals := 105 }
def rm_X11_isThing : Room := { frames := 1, cells := 0, slots := 0, locals := 25 }
def rm_X11_isMust : Room := { frames := 0, cells := 0, slots := 0, locals := 0 }
def rm_X11_thing : Room := { frames := 1, cells := 0, slots := 0, locals := 25 }
def rm_X11_sayingsOf : Room := { frames := 0, cells := 0, slots := 0, locals := 0 }
def rm_X11_dead : Room := { frames := 2, cells := 0, slots := 0, locals := 46 }
def rm_X11_isTold : Room := { frames := 0, cells := 0, slots := 0, locals := 0 }
def rm_X11_stateOf : Room := { frames := 1, cells := 0, slots := 0, locals := 25 }
def rm_X11_told : Room := { frames := 2, cells := 0, slots := 0, locals := 46 }
def rm_X11_valueOf : Room := { frames := 4, cells := 0, slots := 0, locals := 105 }
def rm_X11_value : Room := { frames := 5, cells := 0, slots := 0, locals := 130 }
def rm_X11_isWay : Room := { frames := 1, cells := 0, slots := 0, locals := 25 }
def rm_X11_cost : Room := { frames := 2, cells := 0, slots := 0, locals := 45 }
def rm_X11_seen : Room := { frames := 2, cells := 0, slots := 0, locals := 45 }
def rm_X11_lossOf : Room := { frames := 3, cells := 0, slots := 0, locals := 80 }
def rm_X11_loss : Room := { frames := 4, cells := 0, slots := 0, locals := 106 }
def rm_X11_thingsThat : Room := { frames := 2, cells := 0, slots := 0, locals := 46 }
def rm_X11_count : Room := { frames := 3, cells := 0, slots := 0, locals := 69 }
def rm_X11_feed : Room := { frames := 1, cells := 0, slots := 0, locals := 25 }
def rm_X11_here : Room := { frames := 0, cells := 0, slots := 0, locals := 0 }
def rm_X11_fails : Room := { frames := 0, cells := 0, slots := 0, locals := 0 }
def rm_X11_readWord : Room := { frames := 1, cells := 0, slots := 0, locals := 25 }
def rm_X11_code : Room := { frames := 0, cells := 0, slots := 0, locals := 0 }
def rm_X11_needs : Room := { frames := 2, cells := 0, slots := 0, locals := 46 }
def rm_X11_readNumber : Room := { frames := 1, cells := 0, slots := 0, locals := 25 }
def rm_X11_readWay : Room := { frames := 3, cells := 0, slots := 0, locals := 68 }
def rm_X11_readNever : Room := { frames := 4, cells := 0, slots := 0, locals := 90 }
def rm_X11_readMost : Room := { frames := 3, cells := 0, slots := 0, locals := 68 }
def rm_X11_readAlways : Room := { frames := 3, cells := 0, slots := 0, locals := 68 }
def rm_X11_readClause : Room := { frames := 5, cells := 0, slots := 0, locals := 113 }
def rm_X11_read : Room := { frames := 6, cells := 0, slots := 0, locals := 136 }
def rm_X11_fault : Room := { frames := 0, cells := 0, slots := 0, locals := 0 }
def rm_X11_isAlways : Room := { frames := 0, cells := 0, slots := 0, locals := 0 }
def rm_X11_areAlways : Room := { frames := 1, cells := 0, slots := 0, locals := 24 }
def rm_X11_isWayBarred : Room := { frames := 3, cells := 0, slots := 0, locals := 80 }
def rm_X11_isKindBarred : Room := { frames := 1, cells := 0, slots := 0, locals := 24 }
def rm_X11_areMost : Room := { frames := 1, cells := 0, slots := 0, locals := 25 }
def rm_X11_barring : Room := { frames := 4, cells := 0, slots := 0, locals := 106 }
def rm_X11_areThings : Room := { frames := 1, cells := 0, slots := 0, locals := 25 }
def rm_X11_barred : Room := { frames := 5, cells := 0, slots := 0, locals := 132 }
def rm_X11_setOf : Room := { frames := 0, cells := 0, slots := 0, locals := 0 }
def rm_X11_isOneMatter : Room := { frames := 0, cells := 0, slots := 0, locals := 0 }
def rm_X11_findGain : Room := { frames := 5, cells := 0, slots := 0, locals := 130 }
def rm_X11_place : Room := { frames := 0, cells := 0, slots := 0, locals := 0 }
def rm_X11_by : Room := { frames := 2, cells := 0, slots := 0, locals := 53 }
def rm_X11_findPlans : Room := { frames := 6, cells := 0, slots := 0, locals := 159 }
def rm_X11_plan : Room := { frames := 7, cells := 0, slots := 0, locals := 188 }
def rm_X11_deadOf : Room := { frames := 0, cells := 0, slots := 0, locals := 0 }
def rm_X11_areFor : Room := { frames := 0, cells := 0, slots := 0, locals := 0 }
def rm_X11_say : Room := { frames := 5, cells := 0, slots := 0, locals := 132 }
def rm_X11_isSaying : Room := { frames := 1, cells := 0, slots := 0, locals := 25 }
def rm_X11_came : Room := { frames := 2, cells := 0, slots := 0, locals := 46 }
def rm_X11_saying : Room := { frames := 2, cells := 0, slots := 0, locals := 46 }
def rm_X11_cameOf : Room := { frames := 0, cells := 0, slots := 0, locals := 0 }
def rm_X11_choose : Room := { frames := 0, cells := 0, slots := 0, locals := 0 }
def rm_X11_gcd : Room := { frames := 0, cells := 0, slots := 0, locals := 0 }
def rm_X11_learnt : Room := { frames := 2, cells := 0, slots := 0, locals := 45 }
def rm_X11_who : Room := { frames := 4, cells := 0, slots := 0, locals := 105 }
def rm_X11_tried : Room := { frames := 4, cells := 0, slots := 0, locals := 106 }
end
section
theorem dX10_contains_0 : decode cX10_contains 0 = .ok (.iload_n 0, 1) := by decide +kernel
theorem dX10_contains_1 : decode cX10_contains 1 = .ok (.iload_n 1, 1) := by decide +kernel
theorem dX10_contains_2 : decode cX10_contains 2 = .ok (.ishr, 1) := by decide +kernel
theorem dX10_contains_3 : decode cX10_contains 3 = .ok (.iconst 1, 1) := by decide +kernel
theorem dX10_contains_4 : decode cX10_contains 4 = .ok (.iand, 1) := by decide +kernel
theorem dX10_contains_5 : decode cX10_contains 5 = .ok (.ifCond .eq 7, 3) := by decide +kernel
theorem dX10_contains_8 : decode cX10_contains 8 = .ok (.iconst 1, 1) := by decide +kernel
theorem dX10_contains_9 : decode cX10_contains 9 = .ok (.goto 4, 3) := by decide +kernel
theorem dX10_contains_12 : decode cX10_contains 12 = .ok (.iconst 0, 1) := by decide +kernel
theorem dX10_contains_13 : decode cX10_contains 13 = .ok (.ireturn, 1) := by decide +kernel
theorem dJ6_bitCount_0f7a4_0 : decode cJ6_bitCount_0f7a4 0 = .ok (.iload_n 0, 1) := by decide +kernel
theorem dJ6_bitCount_0f7a4_1 : decode cJ6_bitCount_0f7a4 1 = .ok (.iload_n 0, 1) := by decide +kernel
theorem dJ6_bitCount_0f7a4_2 : decode cJ6_bitCount_0f7a4 2 = .ok (.iconst 1, 1) := by decide +kernel
theorem dJ6_bitCount_0f7a4_3 : decode cJ6_bitCount_0f7a4 3 = .ok (.iushr, 1) := by decide +kernel
theorem dJ6_bitCount_0f7a4_4 : decode cJ6_bitCount_0f7a4 4 = .ok (.ldc_w 265, 3) := by decide +kernel
theorem dJ6_bitCount_0f7a4_7 : decode cJ6_bitCount_0f7a4 7 = .ok (.iand, 1) := by decide +kernel
theorem dJ6_bitCount_0f7a4_8 : decode cJ6_bitCount_0f7a4 8 = .ok (.isub, 1) := by decide +kernel
theorem dJ6_bitCount_0f7a4_9 : decode cJ6_bitCount_0f7a4 9 = .ok (.istore_n 0, 1) := by decide +kernel
theorem dJ6_bitCount_0f7a4_10 : decode cJ6_bitCount_0f7a4 10 = .ok (.iload_n 0, 1) := by decide +kernel
theorem dJ6_bitCount_0f7a4_11 : decode cJ6_bitCount_0f7a4 11 = .ok (.ldc_w 266, 3) := by decide +kernel
theorem dJ6_bitCount_0f7a4_14 : decode cJ6_bitCount_0f7a4 14 = .ok (.iand, 1) := by decide +kernel
theorem dJ6_bitCount_0f7a4_15 : decode cJ6_bitCount_0f7a4 15 = .ok (.iload_n 0, 1) := by decide +kernel
theorem dJ6_bitCount_0f7a4_16 : decode cJ6_bitCount_0f7a4 16 = .ok (.iconst 2, 1) := by decide +kernel
theorem dJ6_bitCount_0f7a4_17 : decode cJ6_bitCount_0f7a4 17 = .ok (.iushr, 1) := by decide +kernel
theorem dJ6_bitCount_0f7a4_18 : decode cJ6_bitCount_0f7a4 18 = .ok (.ldc_w 266, 3) := by decide +kernel
theorem dJ6_bitCount_0f7a4_21 : decode cJ6_bitCount_0f7a4 21 = .ok (.iand, 1) := by decide +kernel
theorem dJ6_bitCount_0f7a4_22 : decode cJ6_bitCount_0f7a4 22 = .ok (.iadd, 1) := by decide +kernel
theorem dJ6_bitCount_0f7a4_23 : decode cJ6_bitCount_0f7a4 23 = .ok (.istore_n 0, 1) := by decide +kernel
theorem dJ6_bitCount_0f7a4_24 : decode cJ6_bitCount_0f7a4 24 = .ok (.iload_n 0, 1) := by decide +kernel
theorem dJ6_bitCount_0f7a4_25 : decode cJ6_bitCount_0f7a4 25 = .ok (.iload_n 0, 1) := by decide +kernel
theorem dJ6_bitCount_0f7a4_26 : decode cJ6_bitCount_0f7a4 26 = .ok (.iconst 4, 1) := by decide +kernel
theorem dJ6_bitCount_0f7a4_27 : decode cJ6_bitCount_0f7a4 27 = .ok (.iushr, 1) := by decide +kernel
theorem dJ6_bitCount_0f7a4_28 : decode cJ6_bitCount_0f7a4 28 = .ok (.iadd, 1) := by decide +kernel
theorem dJ6_bitCount_0f7a4_29 : decode cJ6_bitCount_0f7a4 29 = .ok (.ldc_w 267, 3) := by decide +kernel
theorem dJ6_bitCount_0f7a4_32 : decode cJ6_bitCount_0f7a4 32 = .ok (.iand, 1) := by decide +kernel
theorem dJ6_bitCount_0f7a4_33 : decode cJ6_bitCount_0f7a4 33 = .ok (.istore_n 0, 1) := by decide +kernel
theorem dJ6_bitCount_0f7a4_34 : decode cJ6_bitCount_0f7a4 34 = .ok (.iload_n 0, 1) := by decide +kernel
theorem dJ6_bitCount_0f7a4_35 : decode cJ6_bitCount_0f7a4 35 = .ok (.iload_n 0, 1) := by decide +kernel
theorem dJ6_bitCount_0f7a4_36 : decode cJ6_bitCount_0f7a4 36 = .ok (.bipush 8, 2) := by decide +kernel
theorem dJ6_bitCount_0f7a4_38 : decode cJ6_bitCount_0f7a4 38 = .ok (.iushr, 1) := by decide +kernel
theorem dJ6_bitCount_0f7a4_39 : decode cJ6_bitCount_0f7a4 39 = .ok (.iadd, 1) := by decide +kernel
theorem dJ6_bitCount_0f7a4_40 : decode cJ6_bitCount_0f7a4 40 = .ok (.istore_n 0, 1) := by decide +kernel
theorem dJ6_bitCount_0f7a4_41 : decode cJ6_bitCount_0f7a4 41 = .ok (.iload_n 0, 1) := by decide +kernel
theorem dJ6_bitCount_0f7a4_42 : decode cJ6_bitCount_0f7a4 42 = .ok (.iload_n 0, 1) := by decide +kernel
theorem dJ6_bitCount_0f7a4_43 : decode cJ6_bitCount_0f7a4 43 = .ok (.bipush 16, 2) := by decide +kernel
theorem dJ6_bitCount_0f7a4_45 : decode cJ6_bitCount_0f7a4 45 = .ok (.iushr, 1) := by decide +kernel
theorem dJ6_bitCount_0f7a4_46 : decode cJ6_bitCount_0f7a4 46 = .ok (.iadd, 1) := by decide +kernel
theorem dJ6_bitCount_0f7a4_47 : decode cJ6_bitCount_0f7a4 47 = .ok (.istore_n 0, 1) := by decide +kernel
theorem dJ6_bitCount_0f7a4_48 : decode cJ6_bitCount_0f7a4 48 = .ok (.iload_n 0, 1) := by decide +kernel
theorem dJ6_bitCount_0f7a4_49 : decode cJ6_bitCount_0f7a4 49 = .ok (.bipush 63, 2) := by decide +kernel
theorem dJ6_bitCount_0f7a4_51 : decode cJ6_bitCount_0f7a4 51 = .ok (.iand, 1) := by decide +kernel
theorem dJ6_bitCount_0f7a4_52 : decode cJ6_bitCount_0f7a4 52 = .ok (.ireturn, 1) := by decide +kernel
theorem dX10_within_0 : decode cX10_within 0 = .ok (.iload_n 0, 1) := by decide +kernel
theorem dX10_within_1 : decode cX10_within 1 = .ok (.iload_n 1, 1) := by decide +kernel
theorem dX10_within_2 : decode cX10_within 2 = .ok (.if_icmp .lt 12, 3) := by decide +kernel
theorem dX10_within_5 : decode cX10_within 5 = .ok (.iload_n 0, 1) := by decide +kernel
theorem dX10_within_6 : decode cX10_within 6 = .ok (.iload_n 2, 1) := by decide +kernel
theorem dX10_within_7 : decode cX10_within 7 = .ok (.if_icmp .gt 7, 3) := by decide +kernel
theorem dX10_within_10 : decode cX10_within 10 = .ok (.iconst 1, 1) := by decide +kernel
theorem dX10_within_11 : decode cX10_within 11 = .ok (.goto 4, 3) := by decide +kernel
theorem dX10_within_14 : decode cX10_within 14 = .ok (.iconst 0, 1) := by decide +kernel
theorem dX10_within_15 : decode cX10_within 15 = .ok (.ireturn, 1) := by decide +kernel
theorem dX9_factor_0 : decode cX9_factor 0 = .ok (.iload_n 1, 1) := by decide +kernel
theorem dX9_factor_1 : decode cX9_factor 1 = .ok (.ifCond .eq 11, 3) := by decide +kernel
theorem dX9_factor_4 : decode cX9_factor 4 = .ok (.iload_n 0, 1) := by decide +kernel
theorem dX9_factor_5 : decode cX9_factor 5 = .ok (.ifCond .le 7, 3) := by decide +kernel
theorem dX9_factor_8 : decode cX9_factor 8 = .ok (.lconst 1, 1) := by decide +kernel
theorem dX9_factor_9 : decode cX9_factor 9 = .ok (.goto 5, 3) := by decide +kernel
theorem dX9_factor_12 : decode cX9_factor 12 = .ok (.iload_n 0, 1) := by decide +kernel
theorem dX9_factor_13 : decode cX9_factor 13 = .ok (.i2l, 1) := by decide +kernel
theorem dX9_factor_14 : decode cX9_factor 14 = .ok (.lreturn, 1) := by decide +kernel
theorem dX9_signFactor_0 : decode cX9_signFactor 0 = .ok (.iload_n 2, 1) := by decide +kernel
theorem dX9_signFactor_1 : decode cX9_signFactor 1 = .ok (.ifCond .lt 8, 3) := by decide +kernel
theorem dX9_signFactor_4 : decode cX9_signFactor 4 = .ok (.iload_n 2, 1) := by decide +kernel
theorem dX9_signFactor_5 : decode cX9_signFactor 5 = .ok (.iconst 4, 1) := by decide +kernel
theorem dX9_signFactor_6 : decode cX9_signFactor 6 = .ok (.if_icmp .lt 7, 3) := by decide +kernel
theorem dX9_signFactor_9 : decode cX9_signFactor 9 = .ok (.lconst 1, 1) := by decide +kernel
theorem dX9_signFactor_10 : decode cX9_signFactor 10 = .ok (.goto 15, 3) := by decide +kernel
theorem dX9_signFactor_13 : decode cX9_signFactor 13 = .ok (.aload_n 0, 1) := by decide +kernel
theorem dX9_signFactor_14 : decode cX9_signFactor 14 = .ok (.getfield 16, 3) := by decide +kernel
theorem dX9_signFactor_17 : decode cX9_signFactor 17 = .ok (.iload_n 1, 1) := by decide +kernel
theorem dX9_signFactor_18 : decode cX9_signFactor 18 = .ok (.aaload, 1) := by decide +kernel
theorem dX9_signFactor_19 : decode cX9_signFactor 19 = .ok (.iload_n 2, 1) := by decide +kernel
theorem dX9_signFactor_20 : decode cX9_signFactor 20 = .ok (.iaload, 1) := by decide +kernel
theorem dX9_signFactor_21 : decode cX9_signFactor 21 = .ok (.iload_n 3, 1) := by decide +kernel
theorem dX9_signFactor_22 : decode cX9_signFactor 22 = .ok (.invokestatic 58, 3) := by decide +kernel
theorem dX9_signFactor_25 : decode cX9_signFactor 25 = .ok (.lreturn, 1) := by decide +kernel
theorem dX9_weigh_0 : decode cX9_weigh 0 = .ok (.iload_n 2, 1) := by decide +kernel
theorem dX9_weigh_1 : decode cX9_weigh 1 = .ok (.bipush 6, 2) := by decide +kernel
theorem dX9_weigh_3 : decode cX9_weigh 3 = .ok (.if_icmp .le 10, 3) := by decide +kernel
theorem dX9_weigh_6 : decode cX9_weigh 6 = .ok (.iload_n 2, 1) := by decide +kernel
theorem dX9_weigh_7 : decode cX9_weigh 7 = .ok (.bipush 6, 2) := by decide +kernel
theorem dX9_weigh_9 : decode cX9_weigh 9 = .ok (.isub, 1) := by decide +kernel
theorem dX9_weigh_10 : decode cX9_weigh 10 = .ok (.goto 4, 3) := by decide +kernel
theorem dX9_weigh_13 : decode cX9_weigh 13 = .ok (.iconst 0, 1) := by decide +kernel
theorem dX9_weigh_14 : decode cX9_weigh 14 = .ok (.istore 4, 2) := by decide +kernel
theorem dX9_weigh_16 : decode cX9_weigh 16 = .ok (.iconst 0, 1) := by decide +kernel
theorem dX9_weigh_17 : decode cX9_weigh 17 = .ok (.istore 5, 2) := by decide +kernel
theorem dX9_weigh_19 : decode cX9_weigh 19 = .ok (.iload 5, 2) := by decide +kernel
theorem dX9_weigh_21 : decode cX9_weigh 21 = .ok (.iconst 4, 1) := by decide +kernel
theorem dX9_weigh_22 : decode cX9_weigh 22 = .ok (.if_icmp .ge 44, 3) := by decide +kernel
theorem dX9_weigh_25 : decode cX9_weigh 25 = .ok (.aload_n 0, 1) := by decide +kernel
theorem dX9_weigh_26 : decode cX9_weigh 26 = .ok (.getfield 29, 3) := by decide +kernel
theorem dX9_weigh_29 : decode cX9_weigh 29 = .ok (.iload 5, 2) := by decide +kernel
theorem dX9_weigh_31 : decode cX9_weigh 31 = .ok (.aload_n 0, 1) := by decide +kernel
theorem dX9_weigh_32 : decode cX9_weigh 32 = .ok (.getfield 19, 3) := by decide +kernel
theorem dX9_weigh_35 : decode cX9_weigh 35 = .ok (.iload 5, 2) := by decide +kernel
theorem dX9_weigh_37 : decode cX9_weigh 37 = .ok (.iaload, 1) := by decide +kernel
theorem dX9_weigh_38 : decode cX9_weigh 38 = .ok (.iload_n 3, 1) := by decide +kernel
theorem dX9_weigh_39 : decode cX9_weigh 39 = .ok (.invokestatic 58, 3) := by decide +kernel
theorem dX9_weigh_42 : decode cX9_weigh 42 = .ok (.aload_n 0, 1) := by decide +kernel
theorem dX9_weigh_43 : decode cX9_weigh 43 = .ok (.iload 5, 2) := by decide +kernel
theorem dX9_weigh_45 : decode cX9_weigh 45 = .ok (.aload_n 0, 1) := by decide +kernel
theorem dX9_weigh_46 : decode cX9_weigh 46 = .ok (.getfield 23, 3) := by decide +kernel
theorem dX9_weigh_49 : decode cX9_weigh 49 = .ok (.iload_n 1, 1) := by decide +kernel
theorem dX9_weigh_50 : decode cX9_weigh 50 = .ok (.aaload, 1) := by decide +kernel
theorem dX9_weigh_51 : decode cX9_weigh 51 = .ok (.iload 4, 2) := by decide +kernel
theorem dX9_weigh_53 : decode cX9_weigh 53 = .ok (.iaload, 1) := by decide +kernel
theorem dX9_weigh_54 : decode cX9_weigh 54 = .ok (.iload_n 3, 1) := by decide +kernel
theorem dX9_weigh_55 : decode cX9_weigh 55 = .ok (.invokevirtual 62, 3) := by decide +kernel
theorem dX9_weigh_58 : decode cX9_weigh 58 = .ok (.lmul, 1) := by decide +kernel
theorem dX9_weigh_59 : decode cX9_weigh 59 = .ok (.lastore, 1) := by decide +kernel
theorem dX9_weigh_60 : decode cX9_weigh 60 = .ok (.iinc 5 1, 3) := by decide +kernel
theorem dX9_weigh_63 : decode cX9_weigh 63 = .ok (.goto (-44), 3) := by decide +kernel
theorem dX9_weigh_66 : decode cX9_weigh 66 = .ok (.iload 4, 2) := by decide +kernel
theorem dX9_weigh_68 : decode cX9_weigh 68 = .ok (.iconst 1, 1) := by decide +kernel
theorem dX9_weigh_69 : decode cX9_weigh 69 = .ok (.iadd, 1) := by decide +kernel
theorem dX9_weigh_70 : decode cX9_weigh 70 = .ok (.istore 5, 2) := by decide +kernel
theorem dX9_weigh_72 : decode cX9_weigh 72 = .ok (.iload 5, 2) := by decide +kernel
theorem dX9_weigh_74 : decode cX9_weigh 74 = .ok (.iload_n 2, 1) := by decide +kernel
theorem dX9_weigh_75 : decode cX9_weigh 75 = .ok (.if_icmp .gt 115, 3) := by decide +kernel
theorem dX9_weigh_78 : decode cX9_weigh 78 = .ok (.iconst 0, 1) := by decide +kernel
theorem dX9_weigh_79 : decode cX9_weigh 79 = .ok (.istore 6, 2) := by decide +kernel
theorem dX9_weigh_81 : decode cX9_weigh 81 = .ok (.iload 6, 2) := by decide +kernel
theorem dX9_weigh_83 : decode cX9_weigh 83 = .ok (.iconst 4, 1) := by decide +kernel
theorem dX9_weigh_84 : decode cX9_weigh 84 = .ok (.if_icmp .ge 80, 3) := by decide +kernel
theorem dX9_weigh_87 : decode cX9_weigh 87 = .ok (.lconst 0, 1) := by decide +kernel
theorem dX9_weigh_88 : decode cX9_weigh 88 = .ok (.lstore 7, 2) := by decide +kernel
theorem dX9_weigh_90 : decode cX9_weigh 90 = .ok (.iconst 0, 1) := by decide +kernel
theorem dX9_weigh_91 : decode cX9_weigh 91 = .ok (.istore 9, 2) := by decide +kernel
theorem dX9_weigh_93 : decode cX9_weigh 93 = .ok (.iload 9, 2) := by decide +kernel
theorem dX9_weigh_95 : decode cX9_weigh 95 = .ok (.iconst 4, 1) := by decide +kernel
theorem dX9_weigh_96 : decode cX9_weigh 96 = .ok (.if_icmp .ge 36, 3) := by decide +kernel
theorem dX9_weigh_99 : decode cX9_weigh 99 = .ok (.lload 7, 2) := by decide +kernel
theorem dX9_weigh_101 : decode cX9_weigh 101 = .ok (.aload_n 0, 1) := by decide +kernel
theorem dX9_weigh_102 : decode cX9_weigh 102 = .ok (.getfield 29, 3) := by decide +kernel
theorem dX9_weigh_105 : decode cX9_weigh 105 = .ok (.iload 9, 2) := by decide +kernel
theorem dX9_weigh_107 : decode cX9_weigh 107 = .ok (.laload, 1) := by decide +kernel
theorem dX9_weigh_108 : decode cX9_weigh 108 = .ok (.aload_n 0, 1) := by decide +kernel
theorem dX9_weigh_109 : decode cX9_weigh 109 = .ok (.getfield 11, 3) := by decide +kernel
theorem dX9_weigh_112 : decode cX9_weigh 112 = .ok (.iload 9, 2) := by decide +kernel
theorem dX9_weigh_114 : decode cX9_weigh 114 = .ok (.aaload, 1) := by decide +kernel
theorem dX9_weigh_115 : decode cX9_weigh 115 = .ok (.iload 6, 2) := by decide +kernel
theorem dX9_weigh_117 : decode cX9_weigh 117 = .ok (.iaload, 1) := by decide +kernel
theorem dX9_weigh_118 : decode cX9_weigh 118 = .ok (.iload_n 3, 1) := by decide +kernel
theorem dX9_weigh_119 : decode cX9_weigh 119 = .ok (.invokestatic 58, 3) := by decide +kernel
theorem dX9_weigh_122 : decode cX9_weigh 122 = .ok (.lmul, 1) := by decide +kernel
theorem dX9_weigh_123 : decode cX9_weigh 123 = .ok (.ladd, 1) := by decide +kernel
theorem dX9_weigh_124 : decode cX9_weigh 124 = .ok (.lstore 7, 2) := by decide +kernel
theorem dX9_weigh_126 : decode cX9_weigh 126 = .ok (.iinc 9 1, 3) := by decide +kernel
theorem dX9_weigh_129 : decode cX9_weigh 129 = .ok (.goto (-36), 3) := by decide +kernel
theorem dX9_weigh_132 : decode cX9_weigh 132 = .ok (.aload_n 0, 1) := by decide +kernel
theorem dX9_weigh_133 : decode cX9_weigh 133 = .ok (.getfield 33, 3) := by decide +kernel
theorem dX9_weigh_136 : decode cX9_weigh 136 = .ok (.iload 6, 2) := by decide +kernel
theorem dX9_weigh_138 : decode cX9_weigh 138 = .ok (.lload 7, 2) := by decide +kernel
theorem dX9_weigh_140 : decode cX9_weigh 140 = .ok (.aload_n 0, 1) := by decide +kernel
theorem dX9_weigh_141 : decode cX9_weigh 141 = .ok (.iload 6, 2) := by decide +kernel
theorem dX9_weigh_143 : decode cX9_weigh 143 = .ok (.aload_n 0, 1) := by decide +kernel
theorem dX9_weigh_144 : decode cX9_weigh 144 = .ok (.getfield 23, 3) := by decide +kernel
theorem dX9_weigh_147 : decode cX9_weigh 147 = .ok (.iload_n 1, 1) := by decide +kernel
theorem dX9_weigh_148 : decode cX9_weigh 148 = .ok (.aaload, 1) := by decide +kernel
theorem dX9_weigh_149 : decode cX9_weigh 149 = .ok (.iload 5, 2) := by decide +kernel
theorem dX9_weigh_151 : decode cX9_weigh 151 = .ok (.iaload, 1) := by decide +kernel
theorem dX9_weigh_152 : decode cX9_weigh 152 = .ok (.iload_n 3, 1) := by decide +kernel
theorem dX9_weigh_153 : decode cX9_weigh 153 = .ok (.invokevirtual 62, 3) := by decide +kernel
theorem dX9_weigh_156 : decode cX9_weigh 156 = .ok (.lmul, 1) := by decide +kernel
theorem dX9_weigh_157 : decode cX9_weigh 157 = .ok (.lastore, 1) := by decide +kernel
theorem dX9_weigh_158 : decode cX9_weigh 158 = .ok (.iinc 6 1, 3) := by decide +kernel
theorem dX9_weigh_161 : decode cX9_weigh 161 = .ok (.goto (-80), 3) := by decide +kernel
theorem dX9_weigh_164 : decode cX9_weigh 164 = .ok (.aload_n 0, 1) := by decide +kernel
theorem dX9_weigh_165 : decode cX9_weigh 165 = .ok (.getfield 29, 3) := by decide +kernel
theorem dX9_weigh_168 : decode cX9_weigh 168 = .ok (.astore 6, 2) := by decide +kernel
theorem dX9_weigh_170 : decode cX9_weigh 170 = .ok (.aload_n 0, 1) := by decide +kernel
theorem dX9_weigh_171 : decode cX9_weigh 171 = .ok (.aload_n 0, 1) := by decide +kernel
theorem dX9_weigh_172 : decode cX9_weigh 172 = .ok (.getfield 33, 3) := by decide +kernel
theorem dX9_weigh_175 : decode cX9_weigh 175 = .ok (.putfield 29, 3) := by decide +kernel
theorem dX9_weigh_178 : decode cX9_weigh 178 = .ok (.aload_n 0, 1) := by decide +kernel
theorem dX9_weigh_179 : decode cX9_weigh 179 = .ok (.aload 6, 2) := by decide +kernel
theorem dX9_weigh_181 : decode cX9_weigh 181 = .ok (.putfield 33, 3) := by decide +kernel
theorem dX9_weigh_184 : decode cX9_weigh 184 = .ok (.iinc 5 1, 3) := by decide +kernel
theorem dX9_weigh_187 : decode cX9_weigh 187 = .ok (.goto (-115), 3) := by decide +kernel
theorem dX9_weigh_190 : decode cX9_weigh 190 = .ok (.return_, 1) := by decide +kernel
theorem dX9_allWeights_0 : decode cX9_allWeights 0 = .ok (.aload_n 0, 1) := by decide +kernel
theorem dX9_allWeights_1 : decode cX9_allWeights 1 = .ok (.getfield 29, 3) := by decide +kernel
theorem dX9_allWeights_4 : decode cX9_allWeights 4 = .ok (.iconst 0, 1) := by decide +kernel
theorem dX9_allWeights_5 : decode cX9_allWeights 5 = .ok (.laload, 1) := by decide +kernel
theorem dX9_allWeights_6 : decode cX9_allWeights 6 = .ok (.aload_n 0, 1) := by decide +kernel
theorem dX9_allWeights_7 : decode cX9_allWeights 7 = .ok (.getfield 29, 3) := by decide +kernel
theorem dX9_allWeights_10 : decode cX9_allWeights 10 = .ok (.iconst 1, 1) := by decide +kernel
theorem dX9_allWeights_11 : decode cX9_allWeights 11 = .ok (.laload, 1) := by decide +kernel
theorem dX9_allWeights_12 : decode cX9_allWeights 12 = .ok (.ladd, 1) := by decide +kernel
theorem dX9_allWeights_13 : decode cX9_allWeights 13 = .ok (.aload_n 0, 1) := by decide +kernel
theorem dX9_allWeights_14 : decode cX9_allWeights 14 = .ok (.getfield 29, 3) := by decide +kernel
theorem dX9_allWeights_17 : decode cX9_allWeights 17 = .ok (.iconst 2, 1) := by decide +kernel
theorem dX9_allWeights_18 : decode cX9_allWeights 18 = .ok (.laload, 1) := by decide +kernel
theorem dX9_allWeights_19 : decode cX9_allWeights 19 = .ok (.ladd, 1) := by decide +kernel
theorem dX9_allWeights_20 : decode cX9_allWeights 20 = .ok (.aload_n 0, 1) := by decide +kernel
theorem dX9_allWeights_21 : decode cX9_allWeights 21 = .ok (.getfield 29, 3) := by decide +kernel
theorem dX9_allWeights_24 : decode cX9_allWeights 24 = .ok (.iconst 3, 1) := by decide +kernel
theorem dX9_allWeights_25 : decode cX9_allWeights 25 = .ok (.laload, 1) := by decide +kernel
theorem dX9_allWeights_26 : decode cX9_allWeights 26 = .ok (.ladd, 1) := by decide +kernel
theorem dX9_allWeights_27 : decode cX9_allWeights 27 = .ok (.lreturn, 1) := by decide +kernel
theorem dX9_moveOn_0 : decode cX9_moveOn 0 = .ok (.iconst 0, 1) := by decide +kernel
theorem dX9_moveOn_1 : decode cX9_moveOn 1 = .ok (.istore_n 3, 1) := by decide +kernel
theorem dX9_moveOn_2 : decode cX9_moveOn 2 = .ok (.iload_n 3, 1) := by decide +kernel
theorem dX9_moveOn_3 : decode cX9_moveOn 3 = .ok (.iconst 4, 1) := by decide +kernel
theorem dX9_moveOn_4 : decode cX9_moveOn 4 = .ok (.if_icmp .ge 13, 3) := by decide +kernel
theorem dX9_moveOn_7 : decode cX9_moveOn 7 = .ok (.aload_n 2, 1) := by decide +kernel
theorem dX9_moveOn_8 : decode cX9_moveOn 8 = .ok (.iload_n 3, 1) := by decide +kernel
theorem dX9_moveOn_9 : decode cX9_moveOn 9 = .ok (.iconst 0, 1) := by decide +kernel
theorem dX9_moveOn_10 : decode cX9_moveOn 10 = .ok (.iastore, 1) := by decide +kernel
theorem dX9_moveOn_11 : decode cX9_moveOn 11 = .ok (.iinc 3 1, 3) := by decide +kernel
theorem dX9_moveOn_14 : decode cX9_moveOn 14 = .ok (.goto (-12), 3) := by decide +kernel
theorem dX9_moveOn_17 : decode cX9_moveOn 17 = .ok (.iconst 0, 1) := by decide +kernel
theorem dX9_moveOn_18 : decode cX9_moveOn 18 = .ok (.istore_n 3, 1) := by decide +kernel
theorem dX9_moveOn_19 : decode cX9_moveOn 19 = .ok (.iload_n 3, 1) := by decide +kernel
theorem dX9_moveOn_20 : decode cX9_moveOn 20 = .ok (.iconst 4, 1) := by decide +kernel
theorem dX9_moveOn_21 : decode cX9_moveOn 21 = .ok (.if_icmp .ge 89, 3) := by decide +kernel
theorem dX9_moveOn_24 : decode cX9_moveOn 24 = .ok (.aload_n 0, 1) := by decide +kernel
theorem dX9_moveOn_25 : decode cX9_moveOn 25 = .ok (.getfield 11, 3) := by decide +kernel
theorem dX9_moveOn_28 : decode cX9_moveOn 28 = .ok (.iload_n 3, 1) := by decide +kernel
theorem dX9_moveOn_29 : decode cX9_moveOn 29 = .ok (.aaload, 1) := by decide +kernel
theorem dX9_moveOn_30 : decode cX9_moveOn 30 = .ok (.iconst 0, 1) := by decide +kernel
theorem dX9_moveOn_31 : decode cX9_moveOn 31 = .ok (.iaload, 1) := by decide +kernel
theorem dX9_moveOn_32 : decode cX9_moveOn 32 = .ok (.aload_n 0, 1) := by decide +kernel
theorem dX9_moveOn_33 : decode cX9_moveOn 33 = .ok (.getfield 11, 3) := by decide +kernel
theorem dX9_moveOn_36 : decode cX9_moveOn 36 = .ok (.iload_n 3, 1) := by decide +kernel
theorem dX9_moveOn_37 : decode cX9_moveOn 37 = .ok (.aaload, 1) := by decide +kernel
theorem dX9_moveOn_38 : decode cX9_moveOn 38 = .ok (.iconst 1, 1) := by decide +kernel
theorem dX9_moveOn_39 : decode cX9_moveOn 39 = .ok (.iaload, 1) := by decide +kernel
theorem dX9_moveOn_40 : decode cX9_moveOn 40 = .ok (.iadd, 1) := by decide +kernel
theorem dX9_moveOn_41 : decode cX9_moveOn 41 = .ok (.aload_n 0, 1) := by decide +kernel
theorem dX9_moveOn_42 : decode cX9_moveOn 42 = .ok (.getfield 11, 3) := by decide +kernel
theorem dX9_moveOn_45 : decode cX9_moveOn 45 = .ok (.iload_n 3, 1) := by decide +kernel
theorem dX9_moveOn_46 : decode cX9_moveOn 46 = .ok (.aaload, 1) := by decide +kernel
theorem dX9_moveOn_47 : decode cX9_moveOn 47 = .ok (.iconst 2, 1) := by decide +kernel
theorem dX9_moveOn_48 : decode cX9_moveOn 48 = .ok (.iaload, 1) := by decide +kernel
theorem dX9_moveOn_49 : decode cX9_moveOn 49 = .ok (.iadd, 1) := by decide +kernel
theorem dX9_moveOn_50 : decode cX9_moveOn 50 = .ok (.aload_n 0, 1) := by decide +kernel
theorem dX9_moveOn_51 : decode cX9_moveOn 51 = .ok (.getfield 11, 3) := by decide +kernel
theorem dX9_moveOn_54 : decode cX9_moveOn 54 = .ok (.iload_n 3, 1) := by decide +kernel
theorem dX9_moveOn_55 : decode cX9_moveOn 55 = .ok (.aaload, 1) := by decide +kernel
theorem dX9_moveOn_56 : decode cX9_moveOn 56 = .ok (.iconst 3, 1) := by decide +kernel
theorem dX9_moveOn_57 : decode cX9_moveOn 57 = .ok (.iaload, 1) := by decide +kernel
theorem dX9_moveOn_58 : decode cX9_moveOn 58 = .ok (.iadd, 1) := by decide +kernel
theorem dX9_moveOn_59 : decode cX9_moveOn 59 = .ok (.istore 4, 2) := by decide +kernel
theorem dX9_moveOn_61 : decode cX9_moveOn 61 = .ok (.iload 4, 2) := by decide +kernel
theorem dX9_moveOn_63 : decode cX9_moveOn 63 = .ok (.ifCond .le 41, 3) := by decide +kernel
theorem dX9_moveOn_66 : decode cX9_moveOn 66 = .ok (.iconst 0, 1) := by decide +kernel
theorem dX9_moveOn_67 : decode cX9_moveOn 67 = .ok (.istore 5, 2) := by decide +kernel
theorem dX9_moveOn_69 : decode cX9_moveOn 69 = .ok (.iload 5, 2) := by decide +kernel
theorem dX9_moveOn_71 : decode cX9_moveOn 71 = .ok (.iconst 4, 1) := by decide +kernel
theorem dX9_moveOn_72 : decode cX9_moveOn 72 = .ok (.if_icmp .ge 32, 3) := by decide +kernel
theorem dX9_moveOn_75 : decode cX9_moveOn 75 = .ok (.aload_n 2, 1) := by decide +kernel
theorem dX9_moveOn_76 : decode cX9_moveOn 76 = .ok (.iload 5, 2) := by decide +kernel
theorem dX9_moveOn_78 : decode cX9_moveOn 78 = .ok (.dup2, 1) := by decide +kernel
theorem dX9_moveOn_79 : decode cX9_moveOn 79 = .ok (.iaload, 1) := by decide +kernel
theorem dX9_moveOn_80 : decode cX9_moveOn 80 = .ok (.aload_n 1, 1) := by decide +kernel
theorem dX9_moveOn_81 : decode cX9_moveOn 81 = .ok (.iload_n 3, 1) := by decide +kernel
theorem dX9_moveOn_82 : decode cX9_moveOn 82 = .ok (.iaload, 1) := by decide +kernel
theorem dX9_moveOn_83 : decode cX9_moveOn 83 = .ok (.aload_n 0, 1) := by decide +kernel
theorem dX9_moveOn_84 : decode cX9_moveOn 84 = .ok (.getfield 11, 3) := by decide +kernel
theorem dX9_moveOn_87 : decode cX9_moveOn 87 = .ok (.iload_n 3, 1) := by decide +kernel
theorem dX9_moveOn_88 : decode cX9_moveOn 88 = .ok (.aaload, 1) := by decide +kernel
theorem dX9_moveOn_89 : decode cX9_moveOn 89 = .ok (.iload 5, 2) := by decide +kernel
theorem dX9_moveOn_91 : decode cX9_moveOn 91 = .ok (.iaload, 1) := by decide +kernel
theorem dX9_moveOn_92 : decode cX9_moveOn 92 = .ok (.imul, 1) := by decide +kernel
theorem dX9_moveOn_93 : decode cX9_moveOn 93 = .ok (.iload 4, 2) := by decide +kernel
theorem dX9_moveOn_95 : decode cX9_moveOn 95 = .ok (.idiv, 1) := by decide +kernel
theorem dX9_moveOn_96 : decode cX9_moveOn 96 = .ok (.iadd, 1) := by decide +kernel
theorem dX9_moveOn_97 : decode cX9_moveOn 97 = .ok (.iastore, 1) := by decide +kernel
theorem dX9_moveOn_98 : decode cX9_moveOn 98 = .ok (.iinc 5 1, 3) := by decide +kernel
theorem dX9_moveOn_101 : decode cX9_moveOn 101 = .ok (.goto (-32), 3) := by decide +kernel
theorem dX9_moveOn_104 : decode cX9_moveOn 104 = .ok (.iinc 3 1, 3) := by decide +kernel
theorem dX9_moveOn_107 : decode cX9_moveOn 107 = .ok (.goto (-88), 3) := by decide +kernel
theorem dX9_moveOn_110 : decode cX9_moveOn 110 = .ok (.return_, 1) := by decide +kernel
theorem dX9_lookAhead_0 : decode cX9_lookAhead 0 = .ok (.aload_n 0, 1) := by decide +kernel
theorem dX9_lookAhead_1 : decode cX9_lookAhead 1 = .ok (.iload_n 1, 1) := by decide +kernel
theorem dX9_lookAhead_2 : decode cX9_lookAhead 2 = .ok (.iload_n 2, 1) := by decide +kernel
theorem dX9_lookAhead_3 : decode cX9_lookAhead 3 = .ok (.iconst 0, 1) := by decide +kernel
theorem dX9_lookAhead_4 : decode cX9_lookAhead 4 = .ok (.invokevirtual 36, 3) := by decide +kernel
theorem dX9_lookAhead_7 : decode cX9_lookAhead 7 = .ok (.aload_n 0, 1) := by decide +kernel
theorem dX9_lookAhead_8 : decode cX9_lookAhead 8 = .ok (.invokevirtual 40, 3) := by decide +kernel
theorem dX9_lookAhead_11 : decode cX9_lookAhead 11 = .ok (.lstore 4, 2) := by decide +kernel
theorem dX9_lookAhead_13 : decode cX9_lookAhead 13 = .ok (.iconst 0, 1) := by decide +kernel
theorem dX9_lookAhead_14 : decode cX9_lookAhead 14 = .ok (.istore 6, 2) := by decide +kernel
theorem dX9_lookAhead_16 : decode cX9_lookAhead 16 = .ok (.iload 6, 2) := by decide +kernel
theorem dX9_lookAhead_18 : decode cX9_lookAhead 18 = .ok (.iconst 4, 1) := by decide +kernel
theorem dX9_lookAhead_19 : decode cX9_lookAhead 19 = .ok (.if_icmp .ge 44, 3) := by decide +kernel
theorem dX9_lookAhead_22 : decode cX9_lookAhead 22 = .ok (.aload_n 0, 1) := by decide +kernel
theorem dX9_lookAhead_23 : decode cX9_lookAhead 23 = .ok (.getfield 26, 3) := by decide +kernel
theorem dX9_lookAhead_26 : decode cX9_lookAhead 26 = .ok (.iconst 0, 1) := by decide +kernel
theorem dX9_lookAhead_27 : decode cX9_lookAhead 27 = .ok (.aaload, 1) := by decide +kernel
theorem dX9_lookAhead_28 : decode cX9_lookAhead 28 = .ok (.iload 6, 2) := by decide +kernel
theorem dX9_lookAhead_30 : decode cX9_lookAhead 30 = .ok (.lload 4, 2) := by decide +kernel
theorem dX9_lookAhead_32 : decode cX9_lookAhead 32 = .ok (.lconst 0, 1) := by decide +kernel
theorem dX9_lookAhead_33 : decode cX9_lookAhead 33 = .ok (.lcmp, 1) := by decide +kernel
theorem dX9_lookAhead_34 : decode cX9_lookAhead 34 = .ok (.ifCond .gt 7, 3) := by decide +kernel
theorem dX9_lookAhead_37 : decode cX9_lookAhead 37 = .ok (.iconst 0, 1) := by decide +kernel
theorem dX9_lookAhead_38 : decode cX9_lookAhead 38 = .ok (.goto 18, 3) := by decide +kernel
theorem dX9_lookAhead_41 : decode cX9_lookAhead 41 = .ok (.aload_n 0, 1) := by decide +kernel
theorem dX9_lookAhead_42 : decode cX9_lookAhead 42 = .ok (.getfield 29, 3) := by decide +kernel
theorem dX9_lookAhead_45 : decode cX9_lookAhead 45 = .ok (.iload 6, 2) := by decide +kernel
theorem dX9_lookAhead_47 : decode cX9_lookAhead 47 = .ok (.laload, 1) := by decide +kernel
theorem dX9_lookAhead_48 : decode cX9_lookAhead 48 = .ok (.ldc2_w 44, 3) := by decide +kernel
theorem dX9_lookAhead_51 : decode cX9_lookAhead 51 = .ok (.lmul, 1) := by decide +kernel
theorem dX9_lookAhead_52 : decode cX9_lookAhead 52 = .ok (.lload 4, 2) := by decide +kernel
theorem dX9_lookAhead_54 : decode cX9_lookAhead 54 = .ok (.ldiv, 1) := by decide +kernel
theorem dX9_lookAhead_55 : decode cX9_lookAhead 55 = .ok (.l2i, 1) := by decide +kernel
theorem dX9_lookAhead_56 : decode cX9_lookAhead 56 = .ok (.iastore, 1) := by decide +kernel
theorem dX9_lookAhead_57 : decode cX9_lookAhead 57 = .ok (.iinc 6 1, 3) := by decide +kernel
theorem dX9_lookAhead_60 : decode cX9_lookAhead 60 = .ok (.goto (-44), 3) := by decide +kernel
theorem dX9_lookAhead_63 : decode cX9_lookAhead 63 = .ok (.iconst 1, 1) := by decide +kernel
theorem dX9_lookAhead_64 : decode cX9_lookAhead 64 = .ok (.istore 6, 2) := by decide +kernel
theorem dX9_lookAhead_66 : decode cX9_lookAhead 66 = .ok (.iload 6, 2) := by decide +kernel
theorem dX9_lookAhead_68 : decode cX9_lookAhead 68 = .ok (.iload_n 3, 1) := by decide +kernel
theorem dX9_lookAhead_69 : decode cX9_lookAhead 69 = .ok (.if_icmp .gt 36, 3) := by decide +kernel
theorem dX9_lookAhead_72 : decode cX9_lookAhead 72 = .ok (.iload 6, 2) := by decide +kernel
theorem dX9_lookAhead_74 : decode cX9_lookAhead 74 = .ok (.bipush 8, 2) := by decide +kernel
theorem dX9_lookAhead_76 : decode cX9_lookAhead 76 = .ok (.if_icmp .gt 29, 3) := by decide +kernel
theorem dX9_lookAhead_79 : decode cX9_lookAhead 79 = .ok (.aload_n 0, 1) := by decide +kernel
theorem dX9_lookAhead_80 : decode cX9_lookAhead 80 = .ok (.aload_n 0, 1) := by decide +kernel
theorem dX9_lookAhead_81 : decode cX9_lookAhead 81 = .ok (.getfield 26, 3) := by decide +kernel
theorem dX9_lookAhead_84 : decode cX9_lookAhead 84 = .ok (.iload 6, 2) := by decide +kernel
theorem dX9_lookAhead_86 : decode cX9_lookAhead 86 = .ok (.iconst 1, 1) := by decide +kernel
theorem dX9_lookAhead_87 : decode cX9_lookAhead 87 = .ok (.isub, 1) := by decide +kernel
theorem dX9_lookAhead_88 : decode cX9_lookAhead 88 = .ok (.aaload, 1) := by decide +kernel
theorem dX9_lookAhead_89 : decode cX9_lookAhead 89 = .ok (.aload_n 0, 1) := by decide +kernel
theorem dX9_lookAhead_90 : decode cX9_lookAhead 90 = .ok (.getfield 26, 3) := by decide +kernel
theorem dX9_lookAhead_93 : decode cX9_lookAhead 93 = .ok (.iload 6, 2) := by decide +kernel
theorem dX9_lookAhead_95 : decode cX9_lookAhead 95 = .ok (.aaload, 1) := by decide +kernel
theorem dX9_lookAhead_96 : decode cX9_lookAhead 96 = .ok (.invokevirtual 46, 3) := by decide +kernel
theorem dX9_lookAhead_99 : decode cX9_lookAhead 99 = .ok (.iinc 6 1, 3) := by decide +kernel
theorem dX9_lookAhead_102 : decode cX9_lookAhead 102 = .ok (.goto (-36), 3) := by decide +kernel
theorem dX9_lookAhead_105 : decode cX9_lookAhead 105 = .ok (.return_, 1) := by decide +kernel
theorem dX9_seamOdds_0 : decode cX9_seamOdds 0 = .ok (.iconst 0, 1) := by decide +kernel
theorem dX9_seamOdds_1 : decode cX9_seamOdds 1 = .ok (.istore_n 2, 1) := by decide +kernel
theorem dX9_seamOdds_2 : decode cX9_seamOdds 2 = .ok (.iconst 0, 1) := by decide +kernel
theorem dX9_seamOdds_3 : decode cX9_seamOdds 3 = .ok (.istore_n 3, 1) := by decide +kernel
theorem dX9_seamOdds_4 : decode cX9_seamOdds 4 = .ok (.iload_n 3, 1) := by decide +kernel
theorem dX9_seamOdds_5 : decode cX9_seamOdds 5 = .ok (.iconst 4, 1) := by decide +kernel
theorem dX9_seamOdds_6 : decode cX9_seamOdds 6 = .ok (.if_icmp .ge 31, 3) := by decide +kernel
theorem dX9_seamOdds_9 : decode cX9_seamOdds 9 = .ok (.aload_n 0, 1) := by decide +kernel
theorem dX9_seamOdds_10 : decode cX9_seamOdds 10 = .ok (.getfield 50, 3) := by decide +kernel
theorem dX9_seamOdds_13 : decode cX9_seamOdds 13 = .ok (.iload_n 3, 1) := by decide +kernel
theorem dX9_seamOdds_14 : decode cX9_seamOdds 14 = .ok (.invokestatic 54, 3) := by decide +kernel
theorem dX9_seamOdds_17 : decode cX9_seamOdds 17 = .ok (.ifCond .eq 14, 3) := by decide +kernel
theorem dX9_seamOdds_20 : decode cX9_seamOdds 20 = .ok (.iload_n 2, 1) := by decide +kernel
theorem dX9_seamOdds_21 : decode cX9_seamOdds 21 = .ok (.aload_n 0, 1) := by decide +kernel
theorem dX9_seamOdds_22 : decode cX9_seamOdds 22 = .ok (.getfield 26, 3) := by decide +kernel
theorem dX9_seamOdds_25 : decode cX9_seamOdds 25 = .ok (.iload_n 1, 1) := by decide +kernel
theorem dX9_seamOdds_26 : decode cX9_seamOdds 26 = .ok (.aaload, 1) := by decide +kernel
theorem dX9_seamOdds_27 : decode cX9_seamOdds 27 = .ok (.iload_n 3, 1) := by decide +kernel
theorem dX9_seamOdds_28 : decode cX9_seamOdds 28 = .ok (.iaload, 1) := by decide +kernel
theorem dX9_seamOdds_29 : decode cX9_seamOdds 29 = .ok (.iadd, 1) := by decide +kernel
theorem dX9_seamOdds_30 : decode cX9_seamOdds 30 = .ok (.istore_n 2, 1) := by decide +kernel
theorem dX9_seamOdds_31 : decode cX9_seamOdds 31 = .ok (.iinc 3 1, 3) := by decide +kernel
theorem dX9_seamOdds_34 : decode cX9_seamOdds 34 = .ok (.goto (-30), 3) := by decide +kernel
theorem dX9_seamOdds_37 : decode cX9_seamOdds 37 = .ok (.iload_n 2, 1) := by decide +kernel
theorem dX9_seamOdds_38 : decode cX9_seamOdds 38 = .ok (.ireturn, 1) := by decide +kernel
theorem dX9_fittingRows_0 : decode cX9_fittingRows 0 = .ok (.aload_n 0, 1) := by decide +kernel
theorem dX9_fittingRows_1 : decode cX9_fittingRows 1 = .ok (.iload_n 1, 1) := by decide +kernel
theorem dX9_fittingRows_2 : decode cX9_fittingRows 2 = .ok (.iload_n 2, 1) := by decide +kernel
theorem dX9_fittingRows_3 : decode cX9_fittingRows 3 = .ok (.iconst 1, 1) := by decide +kernel
theorem dX9_fittingRows_4 : decode cX9_fittingRows 4 = .ok (.invokevirtual 36, 3) := by decide +kernel
theorem dX9_fittingRows_7 : decode cX9_fittingRows 7 = .ok (.aload_n 0, 1) := by decide +kernel
theorem dX9_fittingRows_8 : decode cX9_fittingRows 8 = .ok (.invokevirtual 40, 3) := by decide +kernel
theorem dX9_fittingRows_11 : decode cX9_fittingRows 11 = .ok (.l2i, 1) := by decide +kernel
theorem dX9_fittingRows_12 : decode cX9_fittingRows 12 = .ok (.ireturn, 1) := by decide +kernel
theorem dX10_isState_0 : decode cX10_isState 0 = .ok (.iload_n 0, 1) := by decide +kernel
theorem dX10_isState_1 : decode cX10_isState 1 = .ok (.iconst 0, 1) := by decide +kernel
theorem dX10_isState_2 : decode cX10_isState 2 = .ok (.iconst 3, 1) := by decide +kernel
theorem dX10_isState_3 : decode cX10_isState 3 = .ok (.invokestatic 90, 3) := by decide +kernel
theorem dX10_isState_6 : decode cX10_isState 6 = .ok (.ireturn, 1) := by decide +kernel
theorem dX10_isOften_0 : decode cX10_isOften 0 = .ok (.iload_n 0, 1) := by decide +kernel
theorem dX10_isOften_1 : decode cX10_isOften 1 = .ok (.iconst 0, 1) := by decide +kernel
theorem dX10_isOften_2 : decode cX10_isOften 2 = .ok (.iconst 4, 1) := by decide +kernel
theorem dX10_isOften_3 : decode cX10_isOften 3 = .ok (.invokestatic 90, 3) := by decide +kernel
theorem dX10_isOften_6 : decode cX10_isOften 6 = .ok (.ireturn, 1) := by decide +kernel
theorem dX10_isPerson_0 : decode cX10_isPerson 0 = .ok (.iload_n 0, 1) := by decide +kernel
theorem dX10_isPerson_1 : decode cX10_isPerson 1 = .ok (.iconst 0, 1) := by decide +kernel
theorem dX10_isPerson_2 : decode cX10_isPerson 2 = .ok (.iconst 3, 1) := by decide +kernel
theorem dX10_isPerson_3 : decode cX10_isPerson 3 = .ok (.invokestatic 90, 3) := by decide +kernel
theorem dX10_isPerson_6 : decode cX10_isPerson 6 = .ok (.ireturn, 1) := by decide +kernel
theorem dX10_isAhead_0 : decode cX10_isAhead 0 = .ok (.iload_n 0, 1) := by decide +kernel
theorem dX10_isAhead_1 : decode cX10_isAhead 1 = .ok (.iconst 0, 1) := by decide +kernel
theorem dX10_isAhead_2 : decode cX10_isAhead 2 = .ok (.bipush 8, 2) := by decide +kernel
theorem dX10_isAhead_4 : decode cX10_isAhead 4 = .ok (.invokestatic 90, 3) := by decide +kernel
theorem dX10_isAhead_7 : decode cX10_isAhead 7 = .ok (.ireturn, 1) := by decide +kernel
theorem dX10_isWay_0 : decode cX10_isWay 0 = .ok (.iload_n 0, 1) := by decide +kernel
theorem dX10_isWay_1 : decode cX10_isWay 1 = .ok (.iconst 0, 1) := by decide +kernel
theorem dX10_isWay_2 : decode cX10_isWay 2 = .ok (.iconst 3, 1) := by decide +kernel
theorem dX10_isWay_3 : decode cX10_isWay 3 = .ok (.invokestatic 90, 3) := by decide +kernel
theorem dX10_isWay_6 : decode cX10_isWay 6 = .ok (.ireturn, 1) := by decide +kernel
end
section
def X10_contains (x0 : Int32) (x1 : Int32) : Int32 :=
  (if ((x0 >>> (x1 &&& 31)) &&& 1) = 0 then 0 else 1)
set_option maxRecDepth 100000 in
set_option maxHeartbeats 4000000 in
theorem wk_X10_contains {G : GL} {X : CX} {x0 : Int32} {x1 : Int32} {μ : Mem} (C : Ctx G X cX10_contains 2 RX10 rm_X10_contains) (hret : RtZ G 2 X cX10_contains 0 0 (X10_contains x0 x1) μ) : AW G 2 X 0 0 0 [(0, .int x0), (1, .int x1)] [] μ := by
  unfold X10_contains at hret
  refine aw_iload_n C 0 dX10_contains_0 rfl rfl ?_
  refine aw_iload_n C 1 dX10_contains_1 rfl rfl ?_
  refine aw_ishr C dX10_contains_2 ?_
  refine aw_iconst C 1 dX10_contains_3 (by decide) ?_
  refine aw_iand C dX10_contains_4 ?_
  have kj5 : ∀ (q5_0 : Int32), q5_0 = (if ((x0 >>> (x1 &&& 31)) &&& 1) = 0 then 0 else 1) → AW G 2 X 0 0 13 [] [.int q5_0] μ := by
    rintro _ rfl
    exact hret _ _ dX10_contains_13 (by repeat (first | exact Or.inl rfl | exact Or.inr rfl | split))
  refine aw_if_eq C 12 dX10_contains_5 (by decide) (fun c1 => ?_) (fun c1 => ?_)
  · refine aw_iconst C 0 dX10_contains_12 (by decide) ?_
    exact aw_sub [] rfl (kj5 _ (by simp only [if_pos c1]))
  · refine aw_iconst C 1 dX10_contains_8 (by decide) ?_
    refine aw_goto C 13 dX10_contains_9 (by decide) ?_
    exact aw_sub [] rfl (kj5 _ (by simp only [if_neg c1]))
set_option maxRecDepth 100000 in
set_option maxHeartbeats 4000000 in
theorem mt_X10_contains {G : GL} {l : Launch} (x0 : Int32) (x1 : Int32) {μ : Mem} : MtI G l yX10_contains cX10_contains 2 (some .boolean) rm_X10_contains false [.int x0, .int x1] μ (X10_contains x0 x1) μ := met_Z (by decide) rfl (Nat.le_of_ble_eq_true rfl) (fun X _ C _ _ hret => wk_X10_contains C hret)
theorem z_X10_contains (x0 : Int32) (x1 : Int32) : X10_contains x0 x1 = 0 ∨ X10_contains x0 x1 = 1 := by
  unfold X10_contains
  repeat (first | exact Or.inl rfl | exact Or.inr rfl | split)
def J6_bitCount_0f7a4 (x0 : Int32) : Int32 :=
  (((((((x0 - (((x0.toUInt32 >>> ((1 : Int32).toUInt32 &&& Int32.toUInt32 31)).toInt32) &&& 1431655765)) &&& 858993459) + ((((x0 - (((x0.toUInt32 >>> ((1 : Int32).toUInt32 &&& Int32.toUInt32 31)).toInt32) &&& 1431655765)).toUInt32 >>> ((2 : Int32).toUInt32 &&& Int32.toUInt32 31)).toInt32) &&& 858993459)) + (((((x0 - (((x0.toUInt32 >>> ((1 : Int32).toUInt32 &&& Int32.toUInt32 31)).toInt32) &&& 1431655765)) &&& 858993459) + ((((x0 - (((x0.toUInt32 >>> ((1 : Int32).toUInt32 &&& Int32.toUInt32 31)).toInt32) &&& 1431655765)).toUInt32 >>> ((2 : Int32).toUInt32 &&& Int32.toUInt32 31)).toInt32) &&& 858993459)).toUInt32 >>> ((4 : Int32).toUInt32 &&& Int32.toUInt32 31)).toInt32)) &&& 252645135) + (((((((x0 - (((x0.toUInt32 >>> ((1 : Int32).toUInt32 &&& Int32.toUInt32 31)).toInt32) &&& 1431655765)) &&& 858993459) + ((((x0 - (((x0.toUInt32 >>> ((1 : Int32).toUInt32 &&& Int32.toUInt32 31)).toInt32) &&& 1431655765)).toUInt32 >>> ((2 : Int32).toUInt32 &&& Int32.toUInt32 31)).toInt32) &&& 858993459)) + (((((x0 - (((x0.toUInt32 >>> ((1 : Int32).toUInt32 &&& Int32.toUInt32 31)).toInt32) &&& 1431655765)) &&& 858993459) + ((((x0 - (((x0.toUInt32 >>> ((1 : Int32).toUInt32 &&& Int32.toUInt32 31)).toInt32) &&& 1431655765)).toUInt32 >>> ((2 : Int32).toUInt32 &&& Int32.toUInt32 31)).toInt32) &&& 858993459)).toUInt32 >>> ((4 : Int32).toUInt32 &&& Int32.toUInt32 31)).toInt32)) &&& 252645135).toUInt32 >>> ((8 : Int32).toUInt32 &&& Int32.toUInt32 31)).toInt32)) + ((((((((x0 - (((x0.toUInt32 >>> ((1 : Int32).toUInt32 &&& Int32.toUInt32 31)).toInt32) &&& 1431655765)) &&& 858993459) + ((((x0 - (((x0.toUInt32 >>> ((1 : Int32).toUInt32 &&& Int32.toUInt32 31)).toInt32) &&& 1431655765)).toUInt32 >>> ((2 : Int32).toUInt32 &&& Int32.toUInt32 31)).toInt32) &&& 858993459)) + (((((x0 - (((x0.toUInt32 >>> ((1 : Int32).toUInt32 &&& Int32.toUInt32 31)).toInt32) &&& 1431655765)) &&& 858993459) + ((((x0 - (((x0.toUInt32 >>> ((1 : Int32).toUInt32 &&& Int32.toUInt32 31)).toInt32) &&& 1431655765)).toUInt32 >>> ((2 : Int32).toUInt32 &&& Int32.toUInt32 31)).toInt32) &&& 858993459)).toUInt32 >>> ((4 : Int32).toUInt32 &&& Int32.toUInt32 31)).toInt32)) &&& 252645135) + (((((((x0 - (((x0.toUInt32 >>> ((1 : Int32).toUInt32 &&& Int32.toUInt32 31)).toInt32) &&& 1431655765)) &&& 858993459) + ((((x0 - (((x0.toUInt32 >>> ((1 : Int32).toUInt32 &&& Int32.toUInt32 31)).toInt32) &&& 1431655765)).toUInt32 >>> ((2 : Int32).toUInt32 &&& Int32.toUInt32 31)).toInt32) &&& 858993459)) + (((((x0 - (((x0.toUInt32 >>> ((1 : Int32).toUInt32 &&& Int32.toUInt32 31)).toInt32) &&& 1431655765)) &&& 858993459) + ((((x0 - (((x0.toUInt32 >>> ((1 : Int32).toUInt32 &&& Int32.toUInt32 31)).toInt32) &&& 1431655765)).toUInt32 >>> ((2 : Int32).toUInt32 &&& Int32.toUInt32 31)).toInt32) &&& 858993459)).toUInt32 >>> ((4 : Int32).toUInt32 &&& Int32.toUInt32 31)).toInt32)) &&& 252645135).toUInt32 >>> ((8 : Int32).toUInt32 &&& Int32.toUInt32 31)).toInt32)).toUInt32 >>> ((16 : Int32).toUInt32 &&& Int32.toUInt32 31)).toInt32)) &&& 63
set_option maxRecDepth 100000 in
set_option maxHeartbeats 4000000 in
theorem wk_J6_bitCount_0f7a4 {G : GL} {X : CX} {x0 : Int32} {μ : Mem} (C : Ctx G X cJ6_bitCount_0f7a4 1 RJ6 rm_J6_bitCount_0f7a4) (hret : RtI G 1 X cJ6_bitCount_0f7a4 0 0 (J6_bitCount_0f7a4 x0) μ) : AW G 1 X 0 0 0 [(0, .int x0)] [] μ := by
  unfold J6_bitCount_0f7a4 at hret
  refine aw_iload_n C 0 dJ6_bitCount_0f7a4_0 rfl rfl ?_
  refine aw_iload_n C 0 dJ6_bitCount_0f7a4_1 rfl rfl ?_
  refine aw_iconst C 1 dJ6_bitCount_0f7a4_2 (by decide) ?_
  refine aw_iushr C dJ6_bitCount_0f7a4_3 ?_
  refine aw_ldcw C kc_J6_265 dJ6_bitCount_0f7a4_4 ?_
  refine aw_iand C dJ6_bitCount_0f7a4_7 ?_
  refine aw_isub C dJ6_bitCount_0f7a4_8 ?_
  refine aw_istore_n C [(0, .int (x0 - (((x0.toUInt32 >>> ((1 : Int32).toUInt32 &&& Int32.toUInt32 31)).toInt32) &&& 1431655765)))] dJ6_bitCount_0f7a4_9 rfl (by decide) rfl ?_
  refine aw_iload_n C 0 dJ6_bitCount_0f7a4_10 rfl rfl ?_
  refine aw_ldcw C kc_J6_266 dJ6_bitCount_0f7a4_11 ?_
  refine aw_iand C dJ6_bitCount_0f7a4_14 ?_
  refine aw_iload_n C 0 dJ6_bitCount_0f7a4_15 rfl rfl ?_
  refine aw_iconst C 2 dJ6_bitCount_0f7a4_16 (by decide) ?_
  refine aw_iushr C dJ6_bitCount_0f7a4_17 ?_
  refine aw_ldcw C kc_J6_266 dJ6_bitCount_0f7a4_18 ?_
  refine aw_iand C dJ6_bitCount_0f7a4_21 ?_
  refine aw_iadd C dJ6_bitCount_0f7a4_22 ?_
  refine aw_istore_n C [(0, .int (((x0 - (((x0.toUInt32 >>> ((1 : Int32).toUInt32 &&& Int32.toUInt32 31)).toInt32) &&& 1431655765)) &&& 858993459) + ((((x0 - (((x0.toUInt32 >>> ((1 : Int32).toUInt32 &&& Int32.toUInt32 31)).toInt32) &&& 1431655765)).toUInt32 >>> ((2 : Int32).toUInt32 &&& Int32.toUInt32 31)).toInt32) &&& 858993459)))] dJ6_bitCount_0f7a4_23 rfl (by decide) rfl ?_
  refine aw_iload_n C 0 dJ6_bitCount_0f7a4_24 rfl rfl ?_
  refine aw_iload_n C 0 dJ6_bitCount_0f7a4_25 rfl rfl ?_
  refine aw_iconst C 4 dJ6_bitCount_0f7a4_26 (by decide) ?_
  refine aw_iushr C dJ6_bitCount_0f7a4_27 ?_
  refine aw_iadd C dJ6_bitCount_0f7a4_28 ?_
  refine aw_ldcw C kc_J6_267 dJ6_bitCount_0f7a4_29 ?_
  refine aw_iand C dJ6_bitCount_0f7a4_32 ?_
  refine aw_istore_n C [(0, .int (((((x0 - (((x0.toUInt32 >>> ((1 : Int32).toUInt32 &&& Int32.toUInt32 31)).toInt32) &&& 1431655765)) &&& 858993459) + ((((x0 - (((x0.toUInt32 >>> ((1 : Int32).toUInt32 &&& Int32.toUInt32 31)).toInt32) &&& 1431655765)).toUInt32 >>> ((2 : Int32).toUInt32 &&& Int32.toUInt32 31)).toInt32) &&& 858993459)) + (((((x0 - (((x0.toUInt32 >>> ((1 : Int32).toUInt32 &&& Int32.toUInt32 31)).toInt32) &&& 1431655765)) &&& 858993459) + ((((x0 - (((x0.toUInt32 >>> ((1 : Int32).toUInt32 &&& Int32.toUInt32 31)).toInt32) &&& 1431655765)).toUInt32 >>> ((2 : Int32).toUInt32 &&& Int32.toUInt32 31)).toInt32) &&& 858993459)).toUInt32 >>> ((4 : Int32).toUInt32 &&& Int32.toUInt32 31)).toInt32)) &&& 252645135))] dJ6_bitCount_0f7a4_33 rfl (by decide) rfl ?_
  refine aw_iload_n C 0 dJ6_bitCount_0f7a4_34 rfl rfl ?_
  refine aw_iload_n C 0 dJ6_bitCount_0f7a4_35 rfl rfl ?_
  refine aw_bipush C 8 dJ6_bitCount_0f7a4_36 (by decide) ?_
  refine aw_iushr C dJ6_bitCount_0f7a4_38 ?_
  refine aw_iadd C dJ6_bitCount_0f7a4_39 ?_
  refine aw_istore_n C [(0, .int ((((((x0 - (((x0.toUInt32 >>> ((1 : Int32).toUInt32 &&& Int32.toUInt32 31)).toInt32) &&& 1431655765)) &&& 858993459) + ((((x0 - (((x0.toUInt32 >>> ((1 : Int32).toUInt32 &&& Int32.toUInt32 31)).toInt32) &&& 1431655765)).toUInt32 >>> ((2 : Int32).toUInt32 &&& Int32.toUInt32 31)).toInt32) &&& 858993459)) + (((((x0 - (((x0.toUInt32 >>> ((1 : Int32).toUInt32 &&& Int32.toUInt32 31)).toInt32) &&& 1431655765)) &&& 858993459) + ((((x0 - (((x0.toUInt32 >>> ((1 : Int32).toUInt32 &&& Int32.toUInt32 31)).toInt32) &&& 1431655765)).toUInt32 >>> ((2 : Int32).toUInt32 &&& Int32.toUInt32 31)).toInt32) &&& 858993459)).toUInt32 >>> ((4 : Int32).toUInt32 &&& Int32.toUInt32 31)).toInt32)) &&& 252645135) + (((((((x0 - (((x0.toUInt32 >>> ((1 : Int32).toUInt32 &&& Int32.toUInt32 31)).toInt32) &&& 1431655765)) &&& 858993459) + ((((x0 - (((x0.toUInt32 >>> ((1 : Int32).toUInt32 &&& Int32.toUInt32 31)).toInt32) &&& 1431655765)).toUInt32 >>> ((2 : Int32).toUInt32 &&& Int32.toUInt32 31)).toInt32) &&& 858993459)) + (((((x0 - (((x0.toUInt32 >>> ((1 : Int32).toUInt32 &&& Int32.toUInt32 31)).toInt32) &&& 1431655765)) &&& 858993459) + ((((x0 - (((x0.toUInt32 >>> ((1 : Int32).toUInt32 &&& Int32.toUInt32 31)).toInt32) &&& 1431655765)).toUInt32 >>> ((2 : Int32).toUInt32 &&& Int32.toUInt32 31)).toInt32) &&& 858993459)).toUInt32 >>> ((4 : Int32).toUInt32 &&& Int32.toUInt32 31)).toInt32)) &&& 252645135).toUInt32 >>> ((8 : Int32).toUInt32 &&& Int32.toUInt32 31)).toInt32)))] dJ6_bitCount_0f7a4_40 rfl (by decide) rfl ?_
  refine aw_iload_n C 0 dJ6_bitCount_0f7a4_41 rfl rfl ?_
  refine aw_iload_n C 0 dJ6_bitCount_0f7a4_42 rfl rfl ?_
  refine aw_bipush C 16 dJ6_bitCount_0f7a4_43 (by decide) ?_
  refine aw_iushr C dJ6_bitCount_0f7a4_45 ?_
  refine aw_iadd C dJ6_bitCount_0f7a4_46 ?_
  refine aw_istore_n C [(0, .int (((((((x0 - (((x0.toUInt32 >>> ((1 : Int32).toUInt32 &&& Int32.toUInt32 31)).toInt32) &&& 1431655765)) &&& 858993459) + ((((x0 - (((x0.toUInt32 >>> ((1 : Int32).toUInt32 &&& Int32.toUInt32 31)).toInt32) &&& 1431655765)).toUInt32 >>> ((2 : Int32).toUInt32 &&& Int32.toUInt32 31)).toInt32) &&& 858993459)) + (((((x0 - (((x0.toUInt32 >>> ((1 : Int32).toUInt32 &&& Int32.toUInt32 31)).toInt32) &&& 1431655765)) &&& 858993459) + ((((x0 - (((x0.toUInt32 >>> ((1 : Int32).toUInt32 &&& Int32.toUInt32 31)).toInt32) &&& 1431655765)).toUInt32 >>> ((2 : Int32).toUInt32 &&& Int32.toUInt32 31)).toInt32) &&& 858993459)).toUInt32 >>> ((4 : Int32).toUInt32 &&& Int32.toUInt32 31)).toInt32)) &&& 252645135) + (((((((x0 - (((x0.toUInt32 >>> ((1 : Int32).toUInt32 &&& Int32.toUInt32 31)).toInt32) &&& 1431655765)) &&& 858993459) + ((((x0 - (((x0.toUInt32 >>> ((1 : Int32).toUInt32 &&& Int32.toUInt32 31)).toInt32) &&& 1431655765)).toUInt32 >>> ((2 : Int32).toUInt32 &&& Int32.toUInt32 31)).toInt32) &&& 858993459)) + (((((x0 - (((x0.toUInt32 >>> ((1 : Int32).toUInt32 &&& Int32.toUInt32 31)).toInt32) &&& 1431655765)) &&& 858993459) + ((((x0 - (((x0.toUInt32 >>> ((1 : Int32).toUInt32 &&& Int32.toUInt32 31)).toInt32) &&& 1431655765)).toUInt32 >>> ((2 : Int32).toUInt32 &&& Int32.toUInt32 31)).toInt32) &&& 858993459)).toUInt32 >>> ((4 : Int32).toUInt32 &&& Int32.toUInt32 31)).toInt32)) &&& 252645135).toUInt32 >>> ((8 : Int32).toUInt32 &&& Int32.toUInt32 31)).toInt32)) + ((((((((x0 - (((x0.toUInt32 >>> ((1 : Int32).toUInt32 &&& Int32.toUInt32 31)).toInt32) &&& 1431655765)) &&& 858993459) + ((((x0 - (((x0.toUInt32 >>> ((1 : Int32).toUInt32 &&& Int32.toUInt32 31)).toInt32) &&& 1431655765)).toUInt32 >>> ((2 : Int32).toUInt32 &&& Int32.toUInt32 31)).toInt32) &&& 858993459)) + (((((x0 - (((x0.toUInt32 >>> ((1 : Int32).toUInt32 &&& Int32.toUInt32 31)).toInt32) &&& 1431655765)) &&& 858993459) + ((((x0 - (((x0.toUInt32 >>> ((1 : Int32).toUInt32 &&& Int32.toUInt32 31)).toInt32) &&& 1431655765)).toUInt32 >>> ((2 : Int32).toUInt32 &&& Int32.toUInt32 31)).toInt32) &&& 858993459)).toUInt32 >>> ((4 : Int32).toUInt32 &&& Int32.toUInt32 31)).toInt32)) &&& 252645135) + (((((((x0 - (((x0.toUInt32 >>> ((1 : Int32).toUInt32 &&& Int32.toUInt32 31)).toInt32) &&& 1431655765)) &&& 858993459) + ((((x0 - (((x0.toUInt32 >>> ((1 : Int32).toUInt32 &&& Int32.toUInt32 31)).toInt32) &&& 1431655765)).toUInt32 >>> ((2 : Int32).toUInt32 &&& Int32.toUInt32 31)).toInt32) &&& 858993459)) + (((((x0 - (((x0.toUInt32 >>> ((1 : Int32).toUInt32 &&& Int32.toUInt32 31)).toInt32) &&& 1431655765)) &&& 858993459) + ((((x0 - (((x0.toUInt32 >>> ((1 : Int32).toUInt32 &&& Int32.toUInt32 31)).toInt32) &&& 1431655765)).toUInt32 >>> ((2 : Int32).toUInt32 &&& Int32.toUInt32 31)).toInt32) &&& 858993459)).toUInt32 >>> ((4 : Int32).toUInt32 &&& Int32.toUInt32 31)).toInt32)) &&& 252645135).toUInt32 >>> ((8 : Int32).toUInt32 &&& Int32.toUInt32 31)).toInt32)).toUInt32 >>> ((16 : Int32).toUInt32 &&& Int32.toUInt32 31)).toInt32)))] dJ6_bitCount_0f7a4_47 rfl (by decide) rfl ?_
  refine aw_iload_n C 0 dJ6_bitCount_0f7a4_48 rfl rfl ?_
  refine aw_bipush C 63 dJ6_bitCount_0f7a4_49 (by decide) ?_
  refine aw_iand C dJ6_bitCount_0f7a4_51 ?_
  exact hret _ _ dJ6_bitCount_0f7a4_52
set_option maxRecDepth 100000 in
set_option maxHeartbeats 4000000 in
theorem mt_J6_bitCount_0f7a4 {G : GL} {l : Launch} (x0 : Int32) {μ : Mem} : MtI G l yJ6_bitCount_0f7a4 cJ6_bitCount_0f7a4 1 (some .int) rm_J6_bitCount_0f7a4 false [.int x0] μ (J6_bitCount_0f7a4 x0) μ := met_I (by decide) rfl rfl (Nat.le_of_ble_eq_true rfl) (fun X _ C _ _ hret => wk_J6_bitCount_0f7a4 C hret)
def X10_within (x0 : Int32) (x1 : Int32) (x2 : Int32) : Int32 :=
  (if x0 < x1 then 0 else if x2 < x0 then 0 else 1)
set_option maxRecDepth 100000 in
set_option maxHeartbeats 4000000 in
theorem wk_X10_within {G : GL} {X : CX} {x0 : Int32} {x1 : Int32} {x2 : Int32} {μ : Mem} (C : Ctx G X cX10_within 3 RX10 rm_X10_within) (hret : RtZ G 3 X cX10_within 0 0 (X10_within x0 x1 x2) μ) : AW G 3 X 0 0 0 [(0, .int x0), (1, .int x1), (2, .int x2)] [] μ := by
  unfold X10_within at hret
  refine aw_iload_n C 0 dX10_within_0 rfl rfl ?_
  refine aw_iload_n C 1 dX10_within_1 rfl rfl ?_
  have kj2 : ∀ (q2_0 : Int32), q2_0 = (if x0 < x1 then 0 else if x2 < x0 then 0 else 1) → AW G 3 X 0 0 15 [] [.int q2_0] μ := by
    rintro _ rfl
    exact hret _ _ dX10_within_15 (by repeat (first | exact Or.inl rfl | exact Or.inr rfl | split))
  refine aw_icmp_lt C 14 dX10_within_2 (by decide) (fun c1 => ?_) (fun c1 => ?_)
  · refine aw_iconst C 0 dX10_within_14 (by decide) ?_
    exact aw_sub [] rfl (kj2 _ (by simp only [if_pos c1]))
  · refine aw_iload_n C 0 dX10_within_5 rfl rfl ?_
    refine aw_iload_n C 2 dX10_within_6 rfl rfl ?_
    refine aw_icmp_gt C 14 dX10_within_7 (by decide) (fun c2 => ?_) (fun c2 => ?_)
    · refine aw_iconst C 0 dX10_within_14 (by decide) ?_
      exact aw_sub [] rfl (kj2 _ (by simp only [if_neg c1, if_pos c2]))
    · refine aw_iconst C 1 dX10_within_10 (by decide) ?_
      refine aw_goto C 15 dX10_within_11 (by decide) ?_
      exact aw_sub [] rfl (kj2 _ (by simp only [if_neg c1, if_neg c2]))
set_option maxRecDepth 100000 in
set_option maxHeartbeats 4000000 in
theorem mt_X10_within {G : GL} {l : Launch} (x0 : Int32) (x1 : Int32) (x2 : Int32) {μ : Mem} : MtI G l yX10_within cX10_within 3 (some .boolean) rm_X10_within false [.int x0, .int x1, .int x2] μ (X10_within x0 x1 x2) μ := met_Z (by decide) rfl (Nat.le_of_ble_eq_true rfl) (fun X _ C _ _ hret => wk_X10_within C hret)
theorem z_X10_within (x0 : Int32) (x1 : Int32) (x2 : Int32) : X10_within x0 x1 x2 = 0 ∨ X10_within x0 x1 x2 = 1 := by
  unfold X10_within
  repeat (first | exact Or.inl rfl | exact Or.inr rfl | split)
def X9_factor (x0 : Int32) (x1 : Int32) : Int64 :=
  (if x1 = 0 then x0.toInt64 else if x0 ≤ 0 then x0.toInt64 else 1)
set_option maxRecDepth 100000 in
set_option maxHeartbeats 4000000 in
theorem wk_X9_factor {G : GL} {X : CX} {x0 : Int32} {x1 : Int32} {μ : Mem} (C : Ctx G X cX9_factor 2 RX9 rm_X9_factor) (hret : RtJ G 2 X cX9_factor 0 0 (X9_factor x0 x1) μ) : AW G 2 X 0 0 0 [(0, .int x0), (1, .int x1)] [] μ := by
  unfold X9_factor at hret
  refine aw_iload_n C 1 dX9_factor_0 rfl rfl ?_
  have kj1 : ∀ (q1_0 : Int64), q1_0 = (if x1 = 0 then x0.toInt64 else if x0 ≤ 0 then x0.toInt64 else 1) → AW G 2 X 0 0 14 [] [.long q1_0] μ := by
    rintro _ rfl
    exact hret _ _ dX9_factor_14
  refine aw_if_eq C 12 dX9_factor_1 (by decide) (fun c1 => ?_) (fun c1 => ?_)
  · refine aw_iload_n C 0 dX9_factor_12 rfl rfl ?_
    refine aw_i2l C dX9_factor_13 ?_
    exact aw_sub [] rfl (kj1 _ (by simp only [if_pos c1]))
  · refine aw_iload_n C 0 dX9_factor_4 rfl rfl ?_
    refine aw_if_le C 12 dX9_factor_5 (by decide) (fun c2 => ?_) (fun c2 => ?_)
    · refine aw_iload_n C 0 dX9_factor_12 rfl rfl ?_
      refine aw_i2l C dX9_factor_13 ?_
      exact aw_sub [] rfl (kj1 _ (by simp only [if_neg c1, if_pos c2]))
    · refine aw_lconst C 1 dX9_factor_8 (by decide) ?_
      refine aw_goto C 14 dX9_factor_9 (by decide) ?_
      exact aw_sub [] rfl (kj1 _ (by simp only [if_neg c1, if_neg c2]))
set_option maxRecDepth 100000 in
set_option maxHeartbeats 4000000 in
theorem mt_X9_factor {G : GL} {l : Launch} (x0 : Int32) (x1 : Int32) {μ : Mem} : MtJ G l yX9_factor cX9_factor 2 (some .long) rm_X9_factor false [.int x0, .int x1] μ (X9_factor x0 x1) μ := met_J (by decide) rfl (Nat.le_of_ble_eq_true rfl) (fun X _ C _ _ hret => wk_X9_factor C hret)
def X9_signFactor (a0 : Nat) (x1 : Int32) (x2 : Int32) (x3 : Int32) (μ : Mem) : Option Int64 :=
  ((if x2 < 0 then
  some 1
  else
  if x2 < 4 then
  (gR 9 1 a0 μ).bind fun v3 =>
  (aR 7 v3 x1 μ).bind fun v4 =>
  (aI v4 x2 μ).bind fun v5 =>
  some (X9_factor v5 x3)
  else
  some 1) : Option (Int64)).bind fun z6 =>
  some (z6)
set_option maxRecDepth 100000 in
set_option maxHeartbeats 4000000 in
theorem wk_X9_signFactor {G : GL} {X : CX} {a0 : Nat} {x1 : Int32} {x2 : Int32} {x3 : Int32} {μ : Mem} {r : Int64} (C : Ctx G X cX9_signFactor 4 RX9 rm_X9_signFactor) (h : X9_signFactor a0 x1 x2 x3 μ = some r) (hret : RtJ G 4 X cX9_signFactor 0 0 r μ) : AW G 4 X 0 0 0 [(0, .ref (gZ G + a0)), (1, .int x1), (2, .int x2), (3, .int x3)] [] μ := by
  unfold X9_signFactor at h
  refine aw_iload_n C 2 dX9_signFactor_0 rfl rfl ?_
  obtain ⟨z6, hz6, h⟩ := bindE h
  have kj1 : AW G 4 X 0 0 25 [] [.long z6] μ := by
    cases h
    exact hret _ _ dX9_signFactor_25
  replace h := hz6
  refine aw_if_lt C 9 dX9_signFactor_1 (by decide) (fun c1 => ?_) (fun c1 => ?_)
  · rw [if_pos c1] at h
    refine aw_lconst C 1 dX9_signFactor_9 (by decide) ?_
    refine aw_goto C 25 dX9_signFactor_10 (by decide) ?_
    cases h
    exact aw_sub [] rfl kj1
  · rw [if_neg c1] at h
    refine aw_iload_n C 2 dX9_signFactor_4 rfl rfl ?_
    refine aw_iconst C 4 dX9_signFactor_5 (by decide) ?_
    refine aw_icmp_lt C 13 dX9_signFactor_6 (by decide) (fun c2 => ?_) (fun c2 => ?_)
    · rw [if_pos c2] at h
      refine aw_aload_n C 0 dX9_signFactor_13 rfl rfl ?_
      obtain ⟨v3, hv3, h⟩ := bindE h
      refine aw_gR C fl_X9_16 rfl hv3 dX9_signFactor_14 ?_
      refine aw_iload_n C 1 dX9_signFactor_17 rfl rfl ?_
      obtain ⟨v4, hv4, h⟩ := bindE h
      refine aw_aR C (by decide) (ty := .array .int) rfl rfl hv4 dX9_signFactor_18 ?_
      refine aw_iload_n C 2 dX9_signFactor_19 rfl rfl ?_
      obtain ⟨v5, hv5, h⟩ := bindE h
      refine aw_aI C hv5 dX9_signFactor_20 ?_
      refine aw_iload_n C 3 dX9_signFactor_21 rfl rfl ?_
      refine aw_cS_J C [.int v5, .int x3] _ (mt_X9_factor _ _) cs_X9_factor ml_X9_58 st_X9_factor ⟨by decide, by decide⟩ ⟨rfl, rfl⟩ ⟨Nat.zero_le _, Nat.zero_le _⟩ rfl rfl (Nat.le_of_ble_eq_true rfl) dX9_signFactor_22 ?_
      cases h
      exact aw_sub [] rfl kj1
    · rw [if_neg c2] at h
      refine aw_lconst C 1 dX9_signFactor_9 (by decide) ?_
      refine aw_goto C 25 dX9_signFactor_10 (by decide) ?_
      cases h
      exact aw_sub [] rfl kj1
set_option maxRecDepth 100000 in
set_option maxHeartbeats 4000000 in
theorem mt_X9_signFactor {G : GL} {l : Launch} {a0 : Nat} {x1 : Int32} {x2 : Int32} {x3 : Int32} {μ : Mem} {r : Int64} (h : X9_signFactor a0 x1 x2 x3 μ = some r) : MtJ G l yX9_signFactor cX9_signFactor 4 (some .long) rm_X9_signFactor false [.ref (gZ G + a0), .int x1, .int x2, .int x3] μ r μ := met_J (by decide) rfl (Nat.le_of_ble_eq_true rfl) (fun X _ C _ _ hret => wk_X9_signFactor C h hret)
def X9_weigh_L19 (a0 : Nat) (x1 : Int32) (x2 : Int32) (x3 : Int32) (x4 : Int32) : Nat → Int32 → Mem → Option (Int32 × Mem)
  | 0, _, _ => none
  | n + 1, x5, μ =>
      if (4 : Int32) ≤ x5 then
      some ((x5, μ))
      else
      (gR 9 6 a0 μ).bind fun v2 =>
      (gR 9 2 a0 μ).bind fun v3 =>
      (aI v3 x5 μ).bind fun v4 =>
      (gR 9 3 a0 μ).bind fun v5 =>
      (aR 7 v5 x1 μ).bind fun v6 =>
      (aI v6 x4 μ).bind fun v7 =>
      (vO 9 a0 μ).bind fun g8 =>
      (X9_signFactor a0 x5 v7 x3 μ).bind fun v9 =>
      (sJ v2 x5 ((X9_factor v4 x3) * v9) μ).bind fun μ10 =>
      X9_weigh_L19 a0 x1 x2 x3 x4 n (x5 + 1) μ10
set_option maxRecDepth 100000 in
set_option maxHeartbeats 4000000 in
theorem X9_weigh_L19_ok {G : GL} {X : CX} (C : Ctx G X cX9_weigh 10 RX9 rm_X9_weigh) (a0 : Nat) (x1 : Int32) (x2 : Int32) (x3 : Int32) (x4 : Int32) : ∀ (n : Nat) (x5 : Int32) (μ : Mem) (z : Int32 × Mem), X9_weigh_L19 a0 x1 x2 x3 x4 n x5 μ = some z → AW G 10 X 0 0 66 [(0, .ref (gZ G + a0)), (1, .int x1), (2, .int x2), (3, .int x3), (4, .int x4), (5, .int z.1)] [] z.2 → AW G 10 X 0 0 19 [(0, .ref (gZ G + a0)), (1, .int x1), (2, .int x2), (3, .int x3), (4, .int x4), (5, .int x5)] [] μ := by
  intro n
  induction n with
  | zero =>
    intro x5 μ z h kx
    rw [X9_weigh_L19] at h
    cases h
  | succ n ih =>
    intro x5 μ z h kx
    rw [X9_weigh_L19] at h
    refine aw_iload C 5 dX9_weigh_19 rfl ?_
    refine aw_iconst C 4 dX9_weigh_21 (by decide) ?_
    refine aw_icmp_ge C 66 dX9_weigh_22 (by decide) (fun c1 => ?_) (fun c1 => ?_)
    · rw [if_pos c1] at h
      cases h
      exact aw_sub [0, 1, 2, 3, 4, 5] rfl kx
    · rw [if_neg c1] at h
      refine aw_aload_n C 0 dX9_weigh_25 rfl rfl ?_
      obtain ⟨v2, hv2, h⟩ := bindE h
      refine aw_gR C fl_X9_29 rfl hv2 dX9_weigh_26 ?_
      refine aw_iload C 5 dX9_weigh_29 rfl ?_
      refine aw_aload_n C 0 dX9_weigh_31 rfl rfl ?_
      obtain ⟨v3, hv3, h⟩ := bindE h
      refine aw_gR C fl_X9_19 rfl hv3 dX9_weigh_32 ?_
      refine aw_iload C 5 dX9_weigh_35 rfl ?_
      obtain ⟨v4, hv4, h⟩ := bindE h
      refine aw_aI C hv4 dX9_weigh_37 ?_
      refine aw_iload_n C 3 dX9_weigh_38 rfl rfl ?_
      refine aw_cS_J C [.int v4, .int x3] _ (mt_X9_factor _ _) cs_X9_factor ml_X9_58 st_X9_factor ⟨by decide, by decide⟩ ⟨rfl, rfl⟩ ⟨Nat.zero_le _, Nat.zero_le _⟩ rfl rfl (Nat.le_of_ble_eq_true rfl) dX9_weigh_39 ?_
      refine aw_aload_n C 0 dX9_weigh_42 rfl rfl ?_
      refine aw_iload C 5 dX9_weigh_43 rfl ?_
      refine aw_aload_n C 0 dX9_weigh_45 rfl rfl ?_
      obtain ⟨v5, hv5, h⟩ := bindE h
      refine aw_gR C fl_X9_23 rfl hv5 dX9_weigh_46 ?_
      refine aw_iload_n C 1 dX9_weigh_49 rfl rfl ?_
      obtain ⟨v6, hv6, h⟩ := bindE h
      refine aw_aR C (by decide) (ty := .array .int) rfl rfl hv6 dX9_weigh_50 ?_
      refine aw_iload C 4 dX9_weigh_51 rfl ?_
      obtain ⟨v7, hv7, h⟩ := bindE h
      refine aw_aI C hv7 dX9_weigh_53 ?_
      refine aw_iload_n C 3 dX9_weigh_54 rfl rfl ?_
      obtain ⟨g8, hg8, h⟩ := bindE h
      obtain ⟨v9, hv9, h⟩ := bindE h
      refine aw_cV_J C [.int x5, .int v7, .int x3] _ (mt_X9_signFactor hv9) cs_X9_signFactor ml_X9_62 im_X9_signFactor se_X9_signFactor (ci := 9) rfl rfl hg8 ⟨by decide, by decide⟩ ⟨rfl, rfl⟩ ⟨Nat.zero_le _, Nat.zero_le _⟩ rfl rfl (Nat.le_of_ble_eq_true rfl) dX9_weigh_55 ?_
      refine aw_lmul C dX9_weigh_58 ?_
      obtain ⟨μ10, hμ10, h⟩ := bindE h
      refine aw_sJ C hμ10 dX9_weigh_59 ?_
      refine aw_iinc C (x5 + 1) 5 [(5, .int (x5 + 1)), (0, .ref (gZ G + a0)), (1, .int x1), (2, .int x2), (3, .int x3), (4, .int x4)] dX9_weigh_60 rfl rfl (by decide) rfl ?_
      refine aw_goto C 19 dX9_weigh_63 (by decide) ?_
      exact aw_sub [1, 2, 3, 4, 5, 0] rfl (ih _ _ _ h kx)
def X9_weigh_L93 (a0 : Nat) (x1 : Int32) (x2 : Int32) (x3 : Int32) (x5 : Int32) (x6 : Int32) (μ : Mem) : Nat → Int64 → Int32 → Option (Int64 × Int32)
  | 0, _, _ => none
  | n + 1, j7, x9 =>
      if (4 : Int32) ≤ x9 then
      some ((j7, x9))
      else
      (gR 9 6 a0 μ).bind fun v2 =>
      (aJ v2 x9 μ).bind fun v3 =>
      (gR 9 0 a0 μ).bind fun v4 =>
      (aR 7 v4 x9 μ).bind fun v5 =>
      (aI v5 x6 μ).bind fun v6 =>
      (some (j7 + (v3 * (X9_factor v6 x3)) : Int64)).bind fun v7 =>
      X9_weigh_L93 a0 x1 x2 x3 x5 x6 μ n v7 (x9 + 1)
set_option maxRecDepth 100000 in
set_option maxHeartbeats 4000000 in
theorem X9_weigh_L93_ok {G : GL} {X : CX} (C : Ctx G X cX9_weigh 10 RX9 rm_X9_weigh) (a0 : Nat) (x1 : Int32) (x2 : Int32) (x3 : Int32) (x5 : Int32) (x6 : Int32) (μ : Mem) : ∀ (n : Nat) (j7 : Int64) (x9 : Int32) (z : Int64 × Int32), X9_weigh_L93 a0 x1 x2 x3 x5 x6 μ n j7 x9 = some z → AW G 10 X 0 0 132 [(0, .ref (gZ G + a0)), (1, .int x1), (2, .int x2), (3, .int x3), (5, .int x5), (6, .int x6), (7, .long z.1), (9, .int z.2)] [] μ → AW G 10 X 0 0 93 [(0, .ref (gZ G + a0)), (1, .int x1), (2, .int x2), (3, .int x3), (5, .int x5), (6, .int x6), (7, .long j7), (9, .int x9)] [] μ := by
  intro n
  induction n with
  | zero =>
    intro j7 x9 z h kx
    rw [X9_weigh_L93] at h
    cases h
  | succ n ih =>
    intro j7 x9 z h kx
    rw [X9_weigh_L93] at h
    refine aw_iload C 7 dX9_weigh_93 rfl ?_
    refine aw_iconst C 4 dX9_weigh_95 (by decide) ?_
    refine aw_icmp_ge C 132 dX9_weigh_96 (by decide) (fun c1 => ?_) (fun c1 => ?_)
    · rw [if_pos c1] at h
      cases h
      exact aw_sub [0, 1, 2, 3, 4, 5, 6, 7] rfl kx
    · rw [if_neg c1] at h
      refine aw_lload C 6 dX9_weigh_99 rfl ?_
      refine aw_aload_n C 0 dX9_weigh_101 rfl rfl ?_
      obtain ⟨v2, hv2, h⟩ := bindE h
      refine aw_gR C fl_X9_29 rfl hv2 dX9_weigh_102 ?_
      refine aw_iload C 7 dX9_weigh_105 rfl ?_
      obtain ⟨v3, hv3, h⟩ := bindE h
      refine aw_aJ C hv3 dX9_weigh_107 ?_
      refine aw_aload_n C 0 dX9_weigh_108 rfl rfl ?_
      obtain ⟨v4, hv4, h⟩ := bindE h
      refine aw_gR C fl_X9_11 rfl hv4 dX9_weigh_109 ?_
      refine aw_iload C 7 dX9_weigh_112 rfl ?_
      obtain ⟨v5, hv5, h⟩ := bindE h
      refine aw_aR C (by decide) (ty := .array .int) rfl rfl hv5 dX9_weigh_114 ?_
      refine aw_iload C 5 dX9_weigh_115 rfl ?_
      obtain ⟨v6, hv6, h⟩ := bindE h
      refine aw_aI C hv6 dX9_weigh_117 ?_
      refine aw_iload_n C 3 dX9_weigh_118 rfl rfl ?_
      refine aw_cS_J C [.int v6, .int x3] _ (mt_X9_factor _ _) cs_X9_factor ml_X9_58 st_X9_factor ⟨by decide, by decide⟩ ⟨rfl, rfl⟩ ⟨Nat.zero_le _, Nat.zero_le _⟩ rfl rfl (Nat.le_of_ble_eq_true rfl) dX9_weigh_119 ?_
      refine aw_lmul C dX9_weigh_122 ?_
      refine aw_ladd C dX9_weigh_123 ?_
      obtain ⟨v7, ev7, h⟩ := bindS h
      refine aw_topj ev7 ?_
      refine aw_lstore C [(7, .long v7), (0, .ref (gZ G + a0)), (1, .int x1), (2, .int x2), (3, .int x3), (5, .int x5), (6, .int x6), (9, .int x9)] dX9_weigh_124 (by decide) rfl ?_
      refine aw_iinc C (x9 + 1) 7 [(9, .int (x9 + 1)), (7, .long v7), (0, .ref (gZ G + a0)), (1, .int x1), (2, .int x2), (3, .int x3), (5, .int x5), (6, .int x6)] dX9_weigh_126 rfl rfl (by decide) rfl ?_
      refine aw_goto C 93 dX9_weigh_129 (by decide) ?_
      exact aw_sub [2, 3, 4, 5, 6, 7, 1, 0] rfl (ih _ _ _ h kx)
def X9_weigh_L81 (a0 : Nat) (x1 : Int32) (x2 : Int32) (x3 : Int32) (x5 : Int32) : Nat → Int32 → Mem → Option (Int32 × Mem)
  | 0, _, _ => none
  | n + 1, x6, μ =>
      if (4 : Int32) ≤ x6 then
      some ((x6, μ))
      else
      (X9_weigh_L93 a0 x1 x2 x3 x5 x6 μ FU 0 0).bind fun z2 =>
      (gR 9 7 a0 μ).bind fun v3 =>
      (gR 9 3 a0 μ).bind fun v4 =>
      (aR 7 v4 x1 μ).bind fun v5 =>
      (aI v5 x5 μ).bind fun v6 =>
      (vO 9 a0 μ).bind fun g7 =>
      (X9_signFactor a0 x6 v6 x3 μ).bind fun v8 =>
      (sJ v3 x6 (z2.1 * v8) μ).bind fun μ9 =>
      X9_weigh_L81 a0 x1 x2 x3 x5 n (x6 + 1) μ9
set_option maxRecDepth 100000 in
set_option maxHeartbeats 4000000 in
theorem X9_weigh_L81_ok {G : GL} {X : CX} (C : Ctx G X cX9_weigh 10 RX9 rm_X9_weigh) (a0 : Nat) (x1 : Int32) (x2 : Int32) (x3 : Int32) (x5 : Int32) : ∀ (n : Nat) (x6 : Int32) (μ : Mem) (z : Int32 × Mem), X9_weigh_L81 a0 x1 x2 x3 x5 n x6 μ = some z → AW G 10 X 0 0 164 [(0, .ref (gZ G + a0)), (1, .int x1), (2, .int x2), (3, .int x3), (5, .int x5), (6, .int z.1)] [] z.2 → AW G 10 X 0 0 81 [(0, .ref (gZ G + a0)), (1, .int x1), (2, .int x2), (3, .int x3), (5, .int x5), (6, .int x6)] [] μ := by
  intro n
  induction n with
  | zero =>
    intro x6 μ z h kx
    rw [X9_weigh_L81] at h
    cases h
  | succ n ih =>
    intro x6 μ z h kx
    rw [X9_weigh_L81] at h
    refine aw_iload C 5 dX9_weigh_81 rfl ?_
    refine aw_iconst C 4 dX9_weigh_83 (by decide) ?_
    refine aw_icmp_ge C 164 dX9_weigh_84 (by decide) (fun c1 => ?_) (fun c1 => ?_)
    · rw [if_pos c1] at h
      cases h
      exact aw_sub [0, 1, 2, 3, 4, 5] rfl kx
    · rw [if_neg c1] at h
      refine aw_lconst C 0 dX9_weigh_87 (by decide) ?_
      refine aw_lstore C [(7, .long 0), (0, .ref (gZ G + a0)), (1, .int x1), (2, .int x2), (3, .int x3), (5, .int x5), (6, .int x6)] dX9_weigh_88 (by decide) rfl ?_
      refine aw_iconst C 0 dX9_weigh_90 (by decide) ?_
      refine aw_istore C [(9, .int 0), (7, .long 0), (0, .ref (gZ G + a0)), (1, .int x1), (2, .int x2), (3, .int x3), (5, .int x5), (6, .int x6)] dX9_weigh_91 (by decide) rfl ?_
      obtain ⟨z2, hz2, h⟩ := bindE h
      refine aw_sub [2, 3, 4, 5, 6, 7, 1, 0] rfl ?_
      refine X9_weigh_L93_ok C _ _ _ _ _ _ _ _ _ _ _ hz2 ?_
      refine aw_aload_n C 0 dX9_weigh_132 rfl rfl ?_
      obtain ⟨v3, hv3, h⟩ := bindE h
      refine aw_gR C fl_X9_33 rfl hv3 dX9_weigh_133 ?_
      refine aw_iload C 5 dX9_weigh_136 rfl ?_
      refine aw_lload C 6 dX9_weigh_138 rfl ?_
      refine aw_aload_n C 0 dX9_weigh_140 rfl rfl ?_
      refine aw_iload C 5 dX9_weigh_141 rfl ?_
      refine aw_aload_n C 0 dX9_weigh_143 rfl rfl ?_
      obtain ⟨v4, hv4, h⟩ := bindE h
      refine aw_gR C fl_X9_23 rfl hv4 dX9_weigh_144 ?_
      refine aw_iload_n C 1 dX9_weigh_147 rfl rfl ?_
      obtain ⟨v5, hv5, h⟩ := bindE h
      refine aw_aR C (by decide) (ty := .array .int) rfl rfl hv5 dX9_weigh_148 ?_
      refine aw_iload C 4 dX9_weigh_149 rfl ?_
      obtain ⟨v6, hv6, h⟩ := bindE h
      refine aw_aI C hv6 dX9_weigh_151 ?_
      refine aw_iload_n C 3 dX9_weigh_152 rfl rfl ?_
      obtain ⟨g7, hg7, h⟩ := bindE h
      obtain ⟨v8, hv8, h⟩ := bindE h
      refine aw_cV_J C [.int x6, .int v6, .int x3] _ (mt_X9_signFactor hv8) cs_X9_signFactor ml_X9_62 im_X9_signFactor se_X9_signFactor (ci := 9) rfl rfl hg7 ⟨by decide, by decide⟩ ⟨rfl, rfl⟩ ⟨Nat.zero_le _, Nat.zero_le _⟩ rfl rfl (Nat.le_of_ble_eq_true rfl) dX9_weigh_153 ?_
      refine aw_lmul C dX9_weigh_156 ?_
      obtain ⟨μ9, hμ9, h⟩ := bindE h
      refine aw_sJ C hμ9 dX9_weigh_157 ?_
      refine aw_iinc C (x6 + 1) 5 [(6, .int (x6 + 1)), (0, .ref (gZ G + a0)), (1, .int x1), (2, .int x2), (3, .int x3), (5, .int x5), (7, .long z2.1), (9, .int z2.2)] dX9_weigh_158 rfl rfl (by decide) rfl ?_
      refine aw_goto C 81 dX9_weigh_161 (by decide) ?_
      exact aw_sub [1, 2, 3, 4, 5, 0] rfl (ih _ _ _ h kx)
def X9_weigh_L72 (a0 : Nat) (x1 : Int32) (x2 : Int32) (x3 : Int32) : Nat → Int32 → Mem → Option (Int32 × Mem)
  | 0, _, _ => none
  | n + 1, x5, μ =>
      if x2 < x5 then
      some ((x5, μ))
      else
      (X9_weigh_L81 a0 x1 x2 x3 x5 FU 0 μ).bind fun z2 =>
      (gR 9 6 a0 z2.2).bind fun v3 =>
      (gR 9 7 a0 z2.2).bind fun v4 =>
      (pR 9 6 a0 v4 z2.2).bind fun μ5 =>
      (pR 9 7 a0 v3 μ5).bind fun μ6 =>
      X9_weigh_L72 a0 x1 x2 x3 n (x5 + 1) μ6
set_option maxRecDepth 100000 in
set_option maxHeartbeats 4000000 in
theorem X9_weigh_L72_ok {G : GL} {X : CX} (C : Ctx G X cX9_weigh 10 RX9 rm_X9_weigh) (a0 : Nat) (x1 : Int32) (x2 : Int32) (x3 : Int32) : ∀ (n : Nat) (x5 : Int32) (μ : Mem) (z : Int32 × Mem), X9_weigh_L72 a0 x1 x2 x3 n x5 μ = some z → AW G 10 X 0 0 190 [(0, .ref (gZ G + a0)), (1, .int x1), (2, .int x2), (3, .int x3), (5, .int z.1)] [] z.2 → AW G 10 X 0 0 72 [(0, .ref (gZ G + a0)), (1, .int x1), (2, .int x2), (3, .int x3), (5, .int x5)] [] μ := by
  intro n
  induction n with
  | zero =>
    intro x5 μ z h kx
    rw [X9_weigh_L72] at h
    cases h
  | succ n ih =>
    intro x5 μ z h kx
    rw [X9_weigh_L72] at h
    refine aw_iload C 4 dX9_weigh_72 rfl ?_
    refine aw_iload_n C 2 dX9_weigh_74 rfl rfl ?_
    refine aw_icmp_gt C 190 dX9_weigh_75 (by decide) (fun c1 => ?_) (fun c1 => ?_)
    · rw [if_pos c1] at h
      cases h
      exact aw_sub [0, 1, 2, 3, 4] rfl kx
    · rw [if_neg c1] at h
      refine aw_iconst C 0 dX9_weigh_78 (by decide) ?_
      refine aw_istore C [(6, .int 0), (0, .ref (gZ G + a0)), (1, .int x1), (2, .int x2), (3, .int x3), (5, .int x5)] dX9_weigh_79 (by decide) rfl ?_
      obtain ⟨z2, hz2, h⟩ := bindE h
      refine aw_sub [1, 2, 3, 4, 5, 0] rfl ?_
      refine X9_weigh_L81_ok C _ _ _ _ _ _ _ _ _ hz2 ?_
      refine aw_aload_n C 0 dX9_weigh_164 rfl rfl ?_
      obtain ⟨v3, hv3, h⟩ := bindE h
      refine aw_gR C fl_X9_29 rfl hv3 dX9_weigh_165 ?_
      refine aw_astore C [(6, .ref (gZ G + v3)), (0, .ref (gZ G + a0)), (1, .int x1), (2, .int x2), (3, .int x3), (5, .int x5)] dX9_weigh_168 (by decide) rfl ?_
      refine aw_aload_n C 1 dX9_weigh_170 rfl rfl ?_
      refine aw_aload_n C 1 dX9_weigh_171 rfl rfl ?_
      obtain ⟨v4, hv4, h⟩ := bindE h
      refine aw_gR C fl_X9_33 rfl hv4 dX9_weigh_172 ?_
      obtain ⟨μ5, hμ5, h⟩ := bindE h
      refine aw_pR C fl_X9_29 rfl rfl rfl hμ5 dX9_weigh_175 ?_
      refine aw_aload_n C 1 dX9_weigh_178 rfl rfl ?_
      refine aw_aload C 0 dX9_weigh_179 rfl ?_
      obtain ⟨μ6, hμ6, h⟩ := bindE h
      refine aw_pR C fl_X9_33 rfl rfl rfl hμ6 dX9_weigh_181 ?_
      refine aw_iinc C (x5 + 1) 5 [(5, .int (x5 + 1)), (6, .ref (gZ G + v3)), (0, .ref (gZ G + a0)), (1, .int x1), (2, .int x2), (3, .int x3)] dX9_weigh_184 rfl rfl (by decide) rfl ?_
      refine aw_goto C 72 dX9_weigh_187 (by decide) ?_
      exact aw_sub [2, 3, 4, 5, 0] rfl (ih _ _ _ h kx)
def X9_weigh (a0 : Nat) (x1 : Int32) (x2 : Int32) (x3 : Int32) (μ : Mem) : Option Mem :=
  (some (if x2 ≤ 6 then 0 else x2 - 6 : Int32)).bind fun v2 =>
  (X9_weigh_L19 a0 x1 x2 x3 v2 FU 0 μ).bind fun z3 =>
  (some (v2 + 1 : Int32)).bind fun v4 =>
  (X9_weigh_L72 a0 x1 x2 x3 FU v4 z3.2).bind fun z5 =>
  some z5.2
set_option maxRecDepth 100000 in
set_option maxHeartbeats 4000000 in
theorem wk_X9_weigh {G : GL} {X : CX} {a0 : Nat} {x1 : Int32} {x2 : Int32} {x3 : Int32} {μ : Mem} {μ' : Mem} (C : Ctx G X cX9_weigh 10 RX9 rm_X9_weigh) (h : X9_weigh a0 x1 x2 x3 μ = some μ') (hret : RtV G 10 X cX9_weigh 0 0 μ') : AW G 10 X 0 0 0 [(0, .ref (gZ G + a0)), (1, .int x1), (2, .int x2), (3, .int x3)] [] μ := by
  unfold X9_weigh at h
  refine aw_iload_n C 2 dX9_weigh_0 rfl rfl ?_
  refine aw_bipush C 6 dX9_weigh_1 (by decide) ?_
  obtain ⟨v2, ev2, h⟩ := bindS h
  have kj3 : AW G 10 X 0 0 14 [(0, .ref (gZ G + a0)), (1, .int x1), (2, .int x2), (3, .int x3)] [.int v2] μ := by
    refine aw_istore C [(4, .int v2), (0, .ref (gZ G + a0)), (1, .int x1), (2, .int x2), (3, .int x3)] dX9_weigh_14 (by decide) rfl ?_
    refine aw_iconst C 0 dX9_weigh_16 (by decide) ?_
    refine aw_istore C [(5, .int 0), (4, .int v2), (0, .ref (gZ G + a0)), (1, .int x1), (2, .int x2), (3, .int x3)] dX9_weigh_17 (by decide) rfl ?_
    obtain ⟨z3, hz3, h⟩ := bindE h
    refine aw_sub [2, 3, 4, 5, 1, 0] rfl ?_
    refine X9_weigh_L19_ok C _ _ _ _ _ _ _ _ _ hz3 ?_
    refine aw_iload C 4 dX9_weigh_66 rfl ?_
    refine aw_iconst C 1 dX9_weigh_68 (by decide) ?_
    refine aw_iadd C dX9_weigh_69 ?_
    obtain ⟨v4, ev4, h⟩ := bindS h
    refine aw_topi ev4 ?_
    refine aw_istore C [(5, .int v4), (0, .ref (gZ G + a0)), (1, .int x1), (2, .int x2), (3, .int x3), (4, .int v2)] dX9_weigh_70 (by decide) rfl ?_
    obtain ⟨z5, hz5, h⟩ := bindE h
    refine aw_sub [1, 2, 3, 4, 0] rfl ?_
    refine X9_weigh_L72_ok C _ _ _ _ _ _ _ _ hz5 ?_
    cases h
    exact hret _ _ dX9_weigh_190
  clear h
  refine aw_icmp_le C 13 dX9_weigh_3 (by decide) (fun c1 => ?_) (fun c1 => ?_)
  · refine aw_iconst C 0 dX9_weigh_13 (by decide) ?_
    rw [if_pos c1] at ev2
    subst ev2
    exact aw_sub [0, 1, 2, 3] rfl kj3
  · refine aw_iload_n C 2 dX9_weigh_6 rfl rfl ?_
    refine aw_bipush C 6 dX9_weigh_7 (by decide) ?_
    refine aw_isub C dX9_weigh_9 ?_
    refine aw_goto C 14 dX9_weigh_10 (by decide) ?_
    rw [if_neg c1] at ev2
    subst ev2
    exact aw_sub [0, 1, 2, 3] rfl kj3
set_option maxRecDepth 100000 in
set_option maxHeartbeats 4000000 in
theorem mt_X9_weigh {G : GL} {l : Launch} {a0 : Nat} {x1 : Int32} {x2 : Int32} {x3 : Int32} {μ : Mem} {μ' : Mem} (h : X9_weigh a0 x1 x2 x3 μ = some μ') : MtV G l yX9_weigh cX9_weigh 10 none rm_X9_weigh false [.ref (gZ G + a0), .int x1, .int x2, .int x3] μ μ' := met_V (by decide) rfl (Nat.le_of_ble_eq_true rfl) (fun X _ C _ _ hret => wk_X9_weigh C h hret)
def X9_allWeights (a0 : Nat) (μ : Mem) : Option Int64 :=
  (gR 9 6 a0 μ).bind fun v1 =>
  (aJ v1 0 μ).bind fun v2 =>
  (gR 9 6 a0 μ).bind fun v3 =>
  (aJ v3 1 μ).bind fun v4 =>
  (gR 9 6 a0 μ).bind fun v5 =>
  (aJ v5 2 μ).bind fun v6 =>
  (gR 9 6 a0 μ).bind fun v7 =>
  (aJ v7 3 μ).bind fun v8 =>
  some (((v2 + v4) + v6) + v8)
set_option maxRecDepth 100000 in
set_option maxHeartbeats 4000000 in
theorem wk_X9_allWeights {G : GL} {X : CX} {a0 : Nat} {μ : Mem} {r : Int64} (C : Ctx G X cX9_allWeights 1 RX9 rm_X9_allWeights) (h : X9_allWeights a0 μ = some r) (hret : RtJ G 1 X cX9_allWeights 0 0 r μ) : AW G 1 X 0 0 0 [(0, .ref (gZ G + a0))] [] μ := by
  unfold X9_allWeights at h
  refine aw_aload_n C 0 dX9_allWeights_0 rfl rfl ?_
  obtain ⟨v1, hv1, h⟩ := bindE h
  refine aw_gR C fl_X9_29 rfl hv1 dX9_allWeights_1 ?_
  refine aw_iconst C 0 dX9_allWeights_4 (by decide) ?_
  obtain ⟨v2, hv2, h⟩ := bindE h
  refine aw_aJ C hv2 dX9_allWeights_5 ?_
  refine aw_aload_n C 0 dX9_allWeights_6 rfl rfl ?_
  obtain ⟨v3, hv3, h⟩ := bindE h
  refine aw_gR C fl_X9_29 rfl hv3 dX9_allWeights_7 ?_
  refine aw_iconst C 1 dX9_allWeights_10 (by decide) ?_
  obtain ⟨v4, hv4, h⟩ := bindE h
  refine aw_aJ C hv4 dX9_allWeights_11 ?_
  refine aw_ladd C dX9_allWeights_12 ?_
  refine aw_aload_n C 0 dX9_allWeights_13 rfl rfl ?_
  obtain ⟨v5, hv5, h⟩ := bindE h
  refine aw_gR C fl_X9_29 rfl hv5 dX9_allWeights_14 ?_
  refine aw_iconst C 2 dX9_allWeights_17 (by decide) ?_
  obtain ⟨v6, hv6, h⟩ := bindE h
  refine aw_aJ C hv6 dX9_allWeights_18 ?_
  refine aw_ladd C dX9_allWeights_19 ?_
  refine aw_aload_n C 0 dX9_allWeights_20 rfl rfl ?_
  obtain ⟨v7, hv7, h⟩ := bindE h
  refine aw_gR C fl_X9_29 rfl hv7 dX9_allWeights_21 ?_
  refine aw_iconst C 3 dX9_allWeights_24 (by decide) ?_
  obtain ⟨v8, hv8, h⟩ := bindE h
  refine aw_aJ C hv8 dX9_allWeights_25 ?_
  refine aw_ladd C dX9_allWeights_26 ?_
  cases h
  exact hret _ _ dX9_allWeights_27
set_option maxRecDepth 100000 in
set_option maxHeartbeats 4000000 in
theorem mt_X9_allWeights {G : GL} {l : Launch} {a0 : Nat} {μ : Mem} {r : Int64} (h : X9_allWeights a0 μ = some r) : MtJ G l yX9_allWeights cX9_allWeights 1 (some .long) rm_X9_allWeights false [.ref (gZ G + a0)] μ r μ := met_J (by decide) rfl (Nat.le_of_ble_eq_true rfl) (fun X _ C _ _ hret => wk_X9_allWeights C h hret)
def X9_moveOn_L2 (a0 : Nat) (a1 : Nat) (a2 : Nat) : Nat → Int32 → Mem → Option (Int32 × Mem)
  | 0, _, _ => none
  | n + 1, x3, μ =>
      if (4 : Int32) ≤ x3 then
      some ((x3, μ))
      else
      (sI a2 x3 0 μ).bind fun μ2 =>
      X9_moveOn_L2 a0 a1 a2 n (x3 + 1) μ2
set_option maxRecDepth 100000 in
set_option maxHeartbeats 4000000 in
theorem X9_moveOn_L2_ok {G : GL} {X : CX} (C : Ctx G X cX9_moveOn 6 RX9 rm_X9_moveOn) (a0 : Nat) (a1 : Nat) (a2 : Nat) : ∀ (n : Nat) (x3 : Int32) (μ : Mem) (z : Int32 × Mem), X9_moveOn_L2 a0 a1 a2 n x3 μ = some z → AW G 6 X 0 0 17 [(0, .ref (gZ G + a0)), (1, .ref (gZ G + a1)), (2, .ref (gZ G + a2)), (3, .int z.1)] [] z.2 → AW G 6 X 0 0 2 [(0, .ref (gZ G + a0)), (1, .ref (gZ G + a1)), (2, .ref (gZ G + a2)), (3, .int x3)] [] μ := by
  intro n
  induction n with
  | zero =>
    intro x3 μ z h kx
    rw [X9_moveOn_L2] at h
    cases h
  | succ n ih =>
    intro x3 μ z h kx
    rw [X9_moveOn_L2] at h
    refine aw_iload_n C 3 dX9_moveOn_2 rfl rfl ?_
    refine aw_iconst C 4 dX9_moveOn_3 (by decide) ?_
    refine aw_icmp_ge C 17 dX9_moveOn_4 (by decide) (fun c1 => ?_) (fun c1 => ?_)
    · rw [if_pos c1] at h
      cases h
      exact aw_sub [0, 1, 2, 3] rfl kx
    · rw [if_neg c1] at h
      refine aw_aload_n C 2 dX9_moveOn_7 rfl rfl ?_
      refine aw_iload_n C 3 dX9_moveOn_8 rfl rfl ?_
      refine aw_iconst C 0 dX9_moveOn_9 (by decide) ?_
      obtain ⟨μ2, hμ2, h⟩ := bindE h
      refine aw_sI C hμ2 dX9_moveOn_10 ?_
      refine aw_iinc C (x3 + 1) 3 [(3, .int (x3 + 1)), (0, .ref (gZ G + a0)), (1, .ref (gZ G + a1)), (2, .ref (gZ G + a2))] dX9_moveOn_11 rfl rfl (by decide) rfl ?_
      refine aw_goto C 2 dX9_moveOn_14 (by decide) ?_
      exact aw_sub [1, 2, 3, 0] rfl (ih _ _ _ h kx)
def X9_moveOn_L69 (a0 : Nat) (a1 : Nat) (a2 : Nat) (x3 : Int32) (x4 : Int32) : Nat → Int32 → Mem → Option (Int32 × Mem)
  | 0, _, _ => none
  | n + 1, x5, μ =>
      if (4 : Int32) ≤ x5 then
      some ((x5, μ))
      else
      (aI a2 x5 μ).bind fun v2 =>
      (aI a1 x3 μ).bind fun v3 =>
      (gR 9 0 a0 μ).bind fun v4 =>
      (aR 7 v4 x3 μ).bind fun v5 =>
      (aI v5 x5 μ).bind fun v6 =>
      (dvI (v3 * v6) x4).bind fun v7 =>
      (sI a2 x5 (v2 + v7) μ).bind fun μ8 =>
      X9_moveOn_L69 a0 a1 a2 x3 x4 n (x5 + 1) μ8
set_option maxRecDepth 100000 in
set_option maxHeartbeats 4000000 in
theorem X9_moveOn_L69_ok {G : GL} {X : CX} (C : Ctx G X cX9_moveOn 6 RX9 rm_X9_moveOn) (a0 : Nat) (a1 : Nat) (a2 : Nat) (x3 : Int32) (x4 : Int32) : ∀ (n : Nat) (x5 : Int32) (μ : Mem) (z : Int32 × Mem), X9_moveOn_L69 a0 a1 a2 x3 x4 n x5 μ = some z → AW G 6 X 0 0 104 [(0, .ref (gZ G + a0)), (1, .ref (gZ G + a1)), (2, .ref (gZ G + a2)), (3, .int x3), (4, .int x4), (5, .int z.1)] [] z.2 → AW G 6 X 0 0 69 [(0, .ref (gZ G + a0)), (1, .ref (gZ G + a1)), (2, .ref (gZ G + a2)), (3, .int x3), (4, .int x4), (5, .int x5)] [] μ := by
  intro n
  induction n with
  | zero =>
    intro x5 μ z h kx
    rw [X9_moveOn_L69] at h
    cases h
  | succ n ih =>
    intro x5 μ z h kx
    rw [X9_moveOn_L69] at h
    refine aw_iload C 5 dX9_moveOn_69 rfl ?_
    refine aw_iconst C 4 dX9_moveOn_71 (by decide) ?_
    refine aw_icmp_ge C 104 dX9_moveOn_72 (by decide) (fun c1 => ?_) (fun c1 => ?_)
    · rw [if_pos c1] at h
      cases h
      exact aw_sub [0, 1, 2, 3, 4, 5] rfl kx
    · rw [if_neg c1] at h
      refine aw_aload_n C 2 dX9_moveOn_75 rfl rfl ?_
      refine aw_iload C 5 dX9_moveOn_76 rfl ?_
      refine aw_dup2 C dX9_moveOn_78 rfl rfl ?_
      obtain ⟨v2, hv2, h⟩ := bindE h
      refine aw_aI C hv2 dX9_moveOn_79 ?_
      refine aw_aload_n C 1 dX9_moveOn_80 rfl rfl ?_
      refine aw_iload_n C 3 dX9_moveOn_81 rfl rfl ?_
      obtain ⟨v3, hv3, h⟩ := bindE h
      refine aw_aI C hv3 dX9_moveOn_82 ?_
      refine aw_aload_n C 0 dX9_moveOn_83 rfl rfl ?_
      obtain ⟨v4, hv4, h⟩ := bindE h
      refine aw_gR C fl_X9_11 rfl hv4 dX9_moveOn_84 ?_
      refine aw_iload_n C 3 dX9_moveOn_87 rfl rfl ?_
      obtain ⟨v5, hv5, h⟩ := bindE h
      refine aw_aR C (by decide) (ty := .array .int) rfl rfl hv5 dX9_moveOn_88 ?_
      refine aw_iload C 5 dX9_moveOn_89 rfl ?_
      obtain ⟨v6, hv6, h⟩ := bindE h
      refine aw_aI C hv6 dX9_moveOn_91 ?_
      refine aw_imul C dX9_moveOn_92 ?_
      refine aw_iload C 4 dX9_moveOn_93 rfl ?_
      obtain ⟨v7, hv7, h⟩ := bindE h
      refine aw_idiv C hv7 dX9_moveOn_95 ?_
      refine aw_iadd C dX9_moveOn_96 ?_
      obtain ⟨μ8, hμ8, h⟩ := bindE h
      refine aw_sI C hμ8 dX9_moveOn_97 ?_
      refine aw_iinc C (x5 + 1) 5 [(5, .int (x5 + 1)), (0, .ref (gZ G + a0)), (1, .ref (gZ G + a1)), (2, .ref (gZ G + a2)), (3, .int x3), (4, .int x4)] dX9_moveOn_98 rfl rfl (by decide) rfl ?_
      refine aw_goto C 69 dX9_moveOn_101 (by decide) ?_
      exact aw_sub [1, 2, 3, 4, 5, 0] rfl (ih _ _ _ h kx)
def X9_moveOn_L19 (a0 : Nat) (a1 : Nat) (a2 : Nat) : Nat → Int32 → Mem → Option (Int32 × Mem)
  | 0, _, _ => none
  | n + 1, x3, μ =>
      if (4 : Int32) ≤ x3 then
      some ((x3, μ))
      else
      (gR 9 0 a0 μ).bind fun v2 =>
      (aR 7 v2 x3 μ).bind fun v3 =>
      (aI v3 0 μ).bind fun v4 =>
      (gR 9 0 a0 μ).bind fun v5 =>
      (aR 7 v5 x3 μ).bind fun v6 =>
      (aI v6 1 μ).bind fun v7 =>
      (gR 9 0 a0 μ).bind fun v8 =>
      (aR 7 v8 x3 μ).bind fun v9 =>
      (aI v9 2 μ).bind fun v10 =>
      (gR 9 0 a0 μ).bind fun v11 =>
      (aR 7 v11 x3 μ).bind fun v12 =>
      (aI v12 3 μ).bind fun v13 =>
      (some (((v4 + v7) + v10) + v13 : Int32)).bind fun v14 =>
      ((if v14 ≤ 0 then
      some μ
      else
      (X9_moveOn_L69 a0 a1 a2 x3 v14 FU 0 μ).bind fun z16 =>
      some z16.2) : Option (Mem)).bind fun z17 =>
      X9_moveOn_L19 a0 a1 a2 n (x3 + 1) z17
set_option maxRecDepth 100000 in
set_option maxHeartbeats 4000000 in
theorem X9_moveOn_L19_ok {G : GL} {X : CX} (C : Ctx G X cX9_moveOn 6 RX9 rm_X9_moveOn) (a0 : Nat) (a1 : Nat) (a2 : Nat) : ∀ (n : Nat) (x3 : Int32) (μ : Mem) (z : Int32 × Mem), X9_moveOn_L19 a0 a1 a2 n x3 μ = some z → AW G 6 X 0 0 110 [(0, .ref (gZ G + a0)), (1, .ref (gZ G + a1)), (2, .ref (gZ G + a2)), (3, .int z.1)] [] z.2 → AW G 6 X 0 0 19 [(0, .ref (gZ G + a0)), (1, .ref (gZ G + a1)), (2, .ref (gZ G + a2)), (3, .int x3)] [] μ := by
  intro n
  induction n with
  | zero =>
    intro x3 μ z h kx
    rw [X9_moveOn_L19] at h
    cases h
  | succ n ih =>
    intro x3 μ z h kx
    rw [X9_moveOn_L19] at h
    refine aw_iload_n C 3 dX9_moveOn_19 rfl rfl ?_
    refine aw_iconst C 4 dX9_moveOn_20 (by decide) ?_
    refine aw_icmp_ge C 110 dX9_moveOn_21 (by decide) (fun c1 => ?_) (fun c1 => ?_)
    · rw [if_pos c1] at h
      cases h
      exact aw_sub [0, 1, 2, 3] rfl kx
    · rw [if_neg c1] at h
      refine aw_aload_n C 0 dX9_moveOn_24 rfl rfl ?_
      obtain ⟨v2, hv2, h⟩ := bindE h
      refine aw_gR C fl_X9_11 rfl hv2 dX9_moveOn_25 ?_
      refine aw_iload_n C 3 dX9_moveOn_28 rfl rfl ?_
      obtain ⟨v3, hv3, h⟩ := bindE h
      refine aw_aR C (by decide) (ty := .array .int) rfl rfl hv3 dX9_moveOn_29 ?_
      refine aw_iconst C 0 dX9_moveOn_30 (by decide) ?_
      obtain ⟨v4, hv4, h⟩ := bindE h
      refine aw_aI C hv4 dX9_moveOn_31 ?_
      refine aw_aload_n C 0 dX9_moveOn_32 rfl rfl ?_
      obtain ⟨v5, hv5, h⟩ := bindE h
      refine aw_gR C fl_X9_11 rfl hv5 dX9_moveOn_33 ?_
      refine aw_iload_n C 3 dX9_moveOn_36 rfl rfl ?_
      obtain ⟨v6, hv6, h⟩ := bindE h
      refine aw_aR C (by decide) (ty := .array .int) rfl rfl hv6 dX9_moveOn_37 ?_
      refine aw_iconst C 1 dX9_moveOn_38 (by decide) ?_
      obtain ⟨v7, hv7, h⟩ := bindE h
      refine aw_aI C hv7 dX9_moveOn_39 ?_
      refine aw_iadd C dX9_moveOn_40 ?_
      refine aw_aload_n C 0 dX9_moveOn_41 rfl rfl ?_
      obtain ⟨v8, hv8, h⟩ := bindE h
      refine aw_gR C fl_X9_11 rfl hv8 dX9_moveOn_42 ?_
      refine aw_iload_n C 3 dX9_moveOn_45 rfl rfl ?_
      obtain ⟨v9, hv9, h⟩ := bindE h
      refine aw_aR C (by decide) (ty := .array .int) rfl rfl hv9 dX9_moveOn_46 ?_
      refine aw_iconst C 2 dX9_moveOn_47 (by decide) ?_
      obtain ⟨v10, hv10, h⟩ := bindE h
      refine aw_aI C hv10 dX9_moveOn_48 ?_
      refine aw_iadd C dX9_moveOn_49 ?_
      refine aw_aload_n C 0 dX9_moveOn_50 rfl rfl ?_
      obtain ⟨v11, hv11, h⟩ := bindE h
      refine aw_gR C fl_X9_11 rfl hv11 dX9_moveOn_51 ?_
      refine aw_iload_n C 3 dX9_moveOn_54 rfl rfl ?_
      obtain ⟨v12, hv12, h⟩ := bindE h
      refine aw_aR C (by decide) (ty := .array .int) rfl rfl hv12 dX9_moveOn_55 ?_
      refine aw_iconst C 3 dX9_moveOn_56 (by decide) ?_
      obtain ⟨v13, hv13, h⟩ := bindE h
      refine aw_aI C hv13 dX9_moveOn_57 ?_
      refine aw_iadd C dX9_moveOn_58 ?_
      obtain ⟨v14, ev14, h⟩ := bindS h
      refine aw_topi ev14 ?_
      refine aw_istore C [(4, .int v14), (0, .ref (gZ G + a0)), (1, .ref (gZ G + a1)), (2, .ref (gZ G + a2)), (3, .int x3)] dX9_moveOn_59 (by decide) rfl ?_
      refine aw_iload C 0 dX9_moveOn_61 rfl ?_
      obtain ⟨z17, hz17, h⟩ := bindE h
      have kj63 : AW G 6 X 0 0 104 [(0, .ref (gZ G + a0)), (1, .ref (gZ G + a1)), (2, .ref (gZ G + a2)), (3, .int x3)] [] z17 := by
        refine aw_iinc C (x3 + 1) 3 [(3, .int (x3 + 1)), (0, .ref (gZ G + a0)), (1, .ref (gZ G + a1)), (2, .ref (gZ G + a2))] dX9_moveOn_104 rfl rfl (by decide) rfl ?_
        refine aw_goto C 19 dX9_moveOn_107 (by decide) ?_
        exact aw_sub [1, 2, 3, 0] rfl (ih _ _ _ h kx)
      replace h := hz17
      refine aw_if_le C 104 dX9_moveOn_63 (by decide) (fun c15 => ?_) (fun c15 => ?_)
      · rw [if_pos c15] at h
        cases h
        exact aw_sub [1, 2, 3, 4] rfl kj63
      · rw [if_neg c15] at h
        refine aw_iconst C 0 dX9_moveOn_66 (by decide) ?_
        refine aw_istore C [(5, .int 0), (4, .int v14), (0, .ref (gZ G + a0)), (1, .ref (gZ G + a1)), (2, .ref (gZ G + a2)), (3, .int x3)] dX9_moveOn_67 (by decide) rfl ?_
        obtain ⟨z16, hz16, h⟩ := bindE h
        refine aw_sub [2, 3, 4, 5, 1, 0] rfl ?_
        refine X9_moveOn_L69_ok C _ _ _ _ _ _ _ _ _ hz16 ?_
        cases h
        exact aw_sub [0, 1, 2, 3] rfl kj63
def X9_moveOn (a0 : Nat) (a1 : Nat) (a2 : Nat) (μ : Mem) : Option Mem :=
  (X9_moveOn_L2 a0 a1 a2 FU 0 μ).bind fun z1 =>
  (X9_moveOn_L19 a0 a1 a2 FU 0 z1.2).bind fun z2 =>
  some z2.2
set_option maxRecDepth 100000 in
set_option maxHeartbeats 4000000 in
theorem wk_X9_moveOn {G : GL} {X : CX} {a0 : Nat} {a1 : Nat} {a2 : Nat} {μ : Mem} {μ' : Mem} (C : Ctx G X cX9_moveOn 6 RX9 rm_X9_moveOn) (h : X9_moveOn a0 a1 a2 μ = some μ') (hret : RtV G 6 X cX9_moveOn 0 0 μ') : AW G 6 X 0 0 0 [(0, .ref (gZ G + a0)), (1, .ref (gZ G + a1)), (2, .ref (gZ G + a2))] [] μ := by
  unfold X9_moveOn at h
  refine aw_iconst C 0 dX9_moveOn_0 (by decide) ?_
  refine aw_istore_n C [(3, .int 0), (0, .ref (gZ G + a0)), (1, .ref (gZ G + a1)), (2, .ref (gZ G + a2))] dX9_moveOn_1 rfl (by decide) rfl ?_
  obtain ⟨z1, hz1, h⟩ := bindE h
  refine aw_sub [1, 2, 3, 0] rfl ?_
  refine X9_moveOn_L2_ok C _ _ _ _ _ _ _ hz1 ?_
  refine aw_iconst C 0 dX9_moveOn_17 (by decide) ?_
  refine aw_istore_n C [(3, .int 0), (0, .ref (gZ G + a0)), (1, .ref (gZ G + a1)), (2, .ref (gZ G + a2))] dX9_moveOn_18 rfl (by decide) rfl ?_
  obtain ⟨z2, hz2, h⟩ := bindE h
  refine aw_sub [1, 2, 3, 0] rfl ?_
  refine X9_moveOn_L19_ok C _ _ _ _ _ _ _ hz2 ?_
  cases h
  exact hret _ _ dX9_moveOn_110
set_option maxRecDepth 100000 in
set_option maxHeartbeats 4000000 in
theorem mt_X9_moveOn {G : GL} {l : Launch} {a0 : Nat} {a1 : Nat} {a2 : Nat} {μ : Mem} {μ' : Mem} (h : X9_moveOn a0 a1 a2 μ = some μ') : MtV G l yX9_moveOn cX9_moveOn 6 none rm_X9_moveOn false [.ref (gZ G + a0), .ref (gZ G + a1), .ref (gZ G + a2)] μ μ' := met_V (by decide) rfl (Nat.le_of_ble_eq_true rfl) (fun X _ C _ _ hret => wk_X9_moveOn C h hret)
def X9_lookAhead_L16 (a0 : Nat) (x3 : Int32) (j4 : Int64) : Nat → Int32 → Mem → Option (Int32 × Mem)
  | 0, _, _ => none
  | n + 1, x6, μ =>
      if (4 : Int32) ≤ x6 then
      some ((x6, μ))
      else
      (gR 9 4 a0 μ).bind fun v2 =>
      (aR 7 v2 0 μ).bind fun v3 =>
      ((if (0 : Int32) < (lg_cmp j4 0) then
      (gR 9 6 a0 μ).bind fun v5 =>
      (aJ v5 x6 μ).bind fun v6 =>
      (dvJ (v6 * 1000000) j4).bind fun v7 =>
      some v7.toInt32
      else
      some 0) : Option (Int32)).bind fun z8 =>
      (sI v3 x6 z8 μ).bind fun μ9 =>
      X9_lookAhead_L16 a0 x3 j4 n (x6 + 1) μ9
set_option maxRecDepth 100000 in
set_option maxHeartbeats 4000000 in
theorem X9_lookAhead_L16_ok {G : GL} {X : CX} (C : Ctx G X cX9_lookAhead 7 RX9 rm_X9_lookAhead) (a0 : Nat) (x3 : Int32) (j4 : Int64) : ∀ (n : Nat) (x6 : Int32) (μ : Mem) (z : Int32 × Mem), X9_lookAhead_L16 a0 x3 j4 n x6 μ = some z → AW G 7 X 0 0 63 [(0, .ref (gZ G + a0)), (3, .int x3), (4, .long j4), (6, .int z.1)] [] z.2 → AW G 7 X 0 0 16 [(0, .ref (gZ G + a0)), (3, .int x3), (4, .long j4), (6, .int x6)] [] μ := by
  intro n
  induction n with
  | zero =>
    intro x6 μ z h kx
    rw [X9_lookAhead_L16] at h
    cases h
  | succ n ih =>
    intro x6 μ z h kx
    rw [X9_lookAhead_L16] at h
    refine aw_iload C 3 dX9_lookAhead_16 rfl ?_
    refine aw_iconst C 4 dX9_lookAhead_18 (by decide) ?_
    refine aw_icmp_ge C 63 dX9_lookAhead_19 (by decide) (fun c1 => ?_) (fun c1 => ?_)
    · rw [if_pos c1] at h
      cases h
      exact aw_sub [0, 1, 2, 3] rfl kx
    · rw [if_neg c1] at h
      refine aw_aload_n C 0 dX9_lookAhead_22 rfl rfl ?_
      obtain ⟨v2, hv2, h⟩ := bindE h
      refine aw_gR C fl_X9_26 rfl hv2 dX9_lookAhead_23 ?_
      refine aw_iconst C 0 dX9_lookAhead_26 (by decide) ?_
      obtain ⟨v3, hv3, h⟩ := bindE h
      refine aw_aR C (by decide) (ty := .array .int) rfl rfl hv3 dX9_lookAhead_27 ?_
      refine aw_iload C 3 dX9_lookAhead_28 rfl ?_
      refine aw_lload C 2 dX9_lookAhead_30 rfl ?_
      refine aw_lconst C 0 dX9_lookAhead_32 (by decide) ?_
      refine aw_lcmp C dX9_lookAhead_33 ?_
      obtain ⟨z8, hz8, h⟩ := bindE h
      have kj34 : AW G 7 X 0 0 56 [(0, .ref (gZ G + a0)), (3, .int x3), (4, .long j4), (6, .int x6)] [.int z8, .int x6, .ref (gZ G + v3)] μ := by
        obtain ⟨μ9, hμ9, h⟩ := bindE h
        refine aw_sI C hμ9 dX9_lookAhead_56 ?_
        refine aw_iinc C (x6 + 1) 3 [(6, .int (x6 + 1)), (0, .ref (gZ G + a0)), (3, .int x3), (4, .long j4)] dX9_lookAhead_57 rfl rfl (by decide) rfl ?_
        refine aw_goto C 16 dX9_lookAhead_60 (by decide) ?_
        exact aw_sub [1, 2, 3, 0] rfl (ih _ _ _ h kx)
      replace h := hz8
      refine aw_if_gt C 41 dX9_lookAhead_34 (by decide) (fun c4 => ?_) (fun c4 => ?_)
      · rw [if_pos c4] at h
        refine aw_aload_n C 0 dX9_lookAhead_41 rfl rfl ?_
        obtain ⟨v5, hv5, h⟩ := bindE h
        refine aw_gR C fl_X9_29 rfl hv5 dX9_lookAhead_42 ?_
        refine aw_iload C 3 dX9_lookAhead_45 rfl ?_
        obtain ⟨v6, hv6, h⟩ := bindE h
        refine aw_aJ C hv6 dX9_lookAhead_47 ?_
        refine aw_ldc2 C kl_X9_44 dX9_lookAhead_48 ?_
        refine aw_lmul C dX9_lookAhead_51 ?_
        refine aw_lload C 2 dX9_lookAhead_52 rfl ?_
        obtain ⟨v7, hv7, h⟩ := bindE h
        refine aw_ldiv C hv7 dX9_lookAhead_54 ?_
        refine aw_l2i C dX9_lookAhead_55 ?_
        cases h
        exact aw_sub [0, 1, 2, 3] rfl kj34
      · rw [if_neg c4] at h
        refine aw_iconst C 0 dX9_lookAhead_37 (by decide) ?_
        refine aw_goto C 56 dX9_lookAhead_38 (by decide) ?_
        cases h
        exact aw_sub [0, 1, 2, 3] rfl kj34
def X9_lookAhead_L66 (a0 : Nat) (x3 : Int32) : Nat → Int32 → Mem → Option (Int32 × Mem)
  | 0, _, _ => none
  | n + 1, x6, μ =>
      if x3 < x6 then
      some ((x6, μ))
      else
      if (8 : Int32) < x6 then
      some ((x6, μ))
      else
      (gR 9 4 a0 μ).bind fun v3 =>
      (aR 7 v3 (x6 - 1) μ).bind fun v4 =>
      (gR 9 4 a0 μ).bind fun v5 =>
      (aR 7 v5 x6 μ).bind fun v6 =>
      (vO 9 a0 μ).bind fun g7 =>
      (X9_moveOn a0 v4 v6 μ).bind fun μ8 =>
      X9_lookAhead_L66 a0 x3 n (x6 + 1) μ8
set_option maxRecDepth 100000 in
set_option maxHeartbeats 4000000 in
theorem X9_lookAhead_L66_ok {G : GL} {X : CX} (C : Ctx G X cX9_lookAhead 7 RX9 rm_X9_lookAhead) (a0 : Nat) (x3 : Int32) : ∀ (n : Nat) (x6 : Int32) (μ : Mem) (z : Int32 × Mem), X9_lookAhead_L66 a0 x3 n x6 μ = some z → AW G 7 X 0 0 105 [(0, .ref (gZ G + a0)), (3, .int x3), (6, .int z.1)] [] z.2 → AW G 7 X 0 0 66 [(0, .ref (gZ G + a0)), (3, .int x3), (6, .int x6)] [] μ := by
  intro n
  induction n with
  | zero =>
    intro x6 μ z h kx
    rw [X9_lookAhead_L66] at h
    cases h
  | succ n ih =>
    intro x6 μ z h kx
    rw [X9_lookAhead_L66] at h
    refine aw_iload C 2 dX9_lookAhead_66 rfl ?_
    refine aw_iload_n C 1 dX9_lookAhead_68 rfl rfl ?_
    refine aw_icmp_gt C 105 dX9_lookAhead_69 (by decide) (fun c1 => ?_) (fun c1 => ?_)
    · rw [if_pos c1] at h
      cases h
      exact aw_sub [0, 1, 2] rfl kx
    · rw [if_neg c1] at h
      refine aw_iload C 2 dX9_lookAhead_72 rfl ?_
      refine aw_bipush C 8 dX9_lookAhead_74 (by decide) ?_
      refine aw_icmp_gt C 105 dX9_lookAhead_76 (by decide) (fun c2 => ?_) (fun c2 => ?_)
      · rw [if_pos c2] at h
        cases h
        exact aw_sub [0, 1, 2] rfl kx
      · rw [if_neg c2] at h
        refine aw_aload_n C 0 dX9_lookAhead_79 rfl rfl ?_
        refine aw_aload_n C 0 dX9_lookAhead_80 rfl rfl ?_
        obtain ⟨v3, hv3, h⟩ := bindE h
        refine aw_gR C fl_X9_26 rfl hv3 dX9_lookAhead_81 ?_
        refine aw_iload C 2 dX9_lookAhead_84 rfl ?_
        refine aw_iconst C 1 dX9_lookAhead_86 (by decide) ?_
        refine aw_isub C dX9_lookAhead_87 ?_
        obtain ⟨v4, hv4, h⟩ := bindE h
        refine aw_aR C (by decide) (ty := .array .int) rfl rfl hv4 dX9_lookAhead_88 ?_
        refine aw_aload_n C 0 dX9_lookAhead_89 rfl rfl ?_
        obtain ⟨v5, hv5, h⟩ := bindE h
        refine aw_gR C fl_X9_26 rfl hv5 dX9_lookAhead_90 ?_
        refine aw_iload C 2 dX9_lookAhead_93 rfl ?_
        obtain ⟨v6, hv6, h⟩ := bindE h
        refine aw_aR C (by decide) (ty := .array .int) rfl rfl hv6 dX9_lookAhead_95 ?_
        obtain ⟨g7, hg7, h⟩ := bindE h
        obtain ⟨μ8, hμ8, h⟩ := bindE h
        refine aw_cV_V C [.ref (gZ G + v4), .ref (gZ G + v6)] _ (mt_X9_moveOn hμ8) cs_X9_moveOn ml_X9_46 im_X9_moveOn se_X9_moveOn (ci := 9) rfl rfl hg7 ⟨by decide, by decide⟩ ⟨rfl, rfl⟩ ⟨Nat.zero_le _, Nat.zero_le _⟩ rfl rfl (Nat.le_of_ble_eq_true rfl) dX9_lookAhead_96 ?_
        refine aw_iinc C (x6 + 1) 2 [(6, .int (x6 + 1)), (0, .ref (gZ G + a0)), (3, .int x3)] dX9_lookAhead_99 rfl rfl (by decide) rfl ?_
        refine aw_goto C 66 dX9_lookAhead_102 (by decide) ?_
        exact aw_sub [1, 2, 0] rfl (ih _ _ _ h kx)
def X9_lookAhead (a0 : Nat) (x1 : Int32) (x2 : Int32) (x3 : Int32) (μ : Mem) : Option Mem :=
  (vO 9 a0 μ).bind fun g1 =>
  (X9_weigh a0 x1 x2 0 μ).bind fun μ2 =>
  (vO 9 a0 μ2).bind fun g3 =>
  (X9_allWeights a0 μ2).bind fun v4 =>
  (X9_lookAhead_L16 a0 x3 v4 FU 0 μ2).bind fun z5 =>
  (X9_lookAhead_L66 a0 x3 FU 1 z5.2).bind fun z6 =>
  some z6.2
set_option maxRecDepth 100000 in
set_option maxHeartbeats 4000000 in
theorem wk_X9_lookAhead {G : GL} {X : CX} {a0 : Nat} {x1 : Int32} {x2 : Int32} {x3 : Int32} {μ : Mem} {μ' : Mem} (C : Ctx G X cX9_lookAhead 7 RX9 rm_X9_lookAhead) (h : X9_lookAhead a0 x1 x2 x3 μ = some μ') (hret : RtV G 7 X cX9_lookAhead 0 0 μ') : AW G 7 X 0 0 0 [(0, .ref (gZ G + a0)), (1, .int x1), (2, .int x2), (3, .int x3)] [] μ := by
  unfold X9_lookAhead at h
  refine aw_aload_n C 0 dX9_lookAhead_0 rfl rfl ?_
  refine aw_iload_n C 1 dX9_lookAhead_1 rfl rfl ?_
  refine aw_iload_n C 2 dX9_lookAhead_2 rfl rfl ?_
  refine aw_iconst C 0 dX9_lookAhead_3 (by decide) ?_
  obtain ⟨g1, hg1, h⟩ := bindE h
  obtain ⟨μ2, hμ2, h⟩ := bindE h
  refine aw_cV_V C [.int x1, .int x2, .int 0] _ (mt_X9_weigh hμ2) cs_X9_weigh ml_X9_36 im_X9_weigh se_X9_weigh (ci := 9) rfl rfl hg1 ⟨by decide, by decide⟩ ⟨rfl, rfl⟩ ⟨Nat.zero_le _, Nat.zero_le _⟩ rfl rfl (Nat.le_of_ble_eq_true rfl) dX9_lookAhead_4 ?_
  refine aw_aload_n C 0 dX9_lookAhead_7 rfl rfl ?_
  obtain ⟨g3, hg3, h⟩ := bindE h
  obtain ⟨v4, hv4, h⟩ := bindE h
  refine aw_cV_J C [] _ (mt_X9_allWeights hv4) cs_X9_allWeights ml_X9_40 im_X9_allWeights se_X9_allWeights (ci := 9) rfl rfl hg3 ⟨by decide, by decide⟩ ⟨rfl, rfl⟩ ⟨Nat.zero_le _, Nat.zero_le _⟩ rfl rfl (Nat.le_of_ble_eq_true rfl) dX9_lookAhead_8 ?_
  refine aw_lstore C [(4, .long v4), (0, .ref (gZ G + a0)), (1, .int x1), (2, .int x2), (3, .int x3)] dX9_lookAhead_11 (by decide) rfl ?_
  refine aw_iconst C 0 dX9_lookAhead_13 (by decide) ?_
  refine aw_istore C [(6, .int 0), (4, .long v4), (0, .ref (gZ G + a0)), (1, .int x1), (2, .int x2), (3, .int x3)] dX9_lookAhead_14 (by decide) rfl ?_
  obtain ⟨z5, hz5, h⟩ := bindE h
  refine aw_sub [2, 5, 1, 0] rfl ?_
  refine X9_lookAhead_L16_ok C _ _ _ _ _ _ _ hz5 ?_
  refine aw_iconst C 1 dX9_lookAhead_63 (by decide) ?_
  refine aw_istore C [(6, .int 1), (0, .ref (gZ G + a0)), (3, .int x3), (4, .long v4)] dX9_lookAhead_64 (by decide) rfl ?_
  obtain ⟨z6, hz6, h⟩ := bindE h
  refine aw_sub [1, 2, 0] rfl ?_
  refine X9_lookAhead_L66_ok C _ _ _ _ _ _ hz6 ?_
  cases h
  exact hret _ _ dX9_lookAhead_105
set_option maxRecDepth 100000 in
set_option maxHeartbeats 4000000 in
theorem mt_X9_lookAhead {G : GL} {l : Launch} {a0 : Nat} {x1 : Int32} {x2 : Int32} {x3 : Int32} {μ : Mem} {μ' : Mem} (h : X9_lookAhead a0 x1 x2 x3 μ = some μ') : MtV G l yX9_lookAhead cX9_lookAhead 7 none rm_X9_lookAhead false [.ref (gZ G + a0), .int x1, .int x2, .int x3] μ μ' := met_V (by decide) rfl (Nat.le_of_ble_eq_true rfl) (fun X _ C _ _ hret => wk_X9_lookAhead C h hret)
def X9_seamOdds_L4 (a0 : Nat) (x1 : Int32) (μ : Mem) : Nat → Int32 → Int32 → Option (Int32 × Int32)
  | 0, _, _ => none
  | n + 1, x2, x3 =>
      if (4 : Int32) ≤ x3 then
      some ((x2, x3))
      else
      (gI 9 5 a0 μ).bind fun v2 =>
      ((if (X10_contains v2 x3) = 0 then
      some x2
      else
      (gR 9 4 a0 μ).bind fun v4 =>
      (aR 7 v4 x1 μ).bind fun v5 =>
      (aI v5 x3 μ).bind fun v6 =>
      (some (x2 + v6 : Int32)).bind fun v7 =>
      some v7) : Option (Int32)).bind fun z8 =>
      X9_seamOdds_L4 a0 x1 μ n z8 (x3 + 1)
set_option maxRecDepth 100000 in
set_option maxHeartbeats 4000000 in
theorem X9_seamOdds_L4_ok {G : GL} {X : CX} (C : Ctx G X cX9_seamOdds 4 RX9 rm_X9_seamOdds) (a0 : Nat) (x1 : Int32) (μ : Mem) : ∀ (n : Nat) (x2 : Int32) (x3 : Int32) (z : Int32 × Int32), X9_seamOdds_L4 a0 x1 μ n x2 x3 = some z → AW G 4 X 0 0 37 [(0, .ref (gZ G + a0)), (1, .int x1), (2, .int z.1), (3, .int z.2)] [] μ → AW G 4 X 0 0 4 [(0, .ref (gZ G + a0)), (1, .int x1), (2, .int x2), (3, .int x3)] [] μ := by
  intro n
  induction n with
  | zero =>
    intro x2 x3 z h kx
    rw [X9_seamOdds_L4] at h
    cases h
  | succ n ih =>
    intro x2 x3 z h kx
    rw [X9_seamOdds_L4] at h
    refine aw_iload_n C 3 dX9_seamOdds_4 rfl rfl ?_
    refine aw_iconst C 4 dX9_seamOdds_5 (by decide) ?_
    refine aw_icmp_ge C 37 dX9_seamOdds_6 (by decide) (fun c1 => ?_) (fun c1 => ?_)
    · rw [if_pos c1] at h
      cases h
      exact aw_sub [0, 1, 2, 3] rfl kx
    · rw [if_neg c1] at h
      refine aw_aload_n C 0 dX9_seamOdds_9 rfl rfl ?_
      obtain ⟨v2, hv2, h⟩ := bindE h
      refine aw_gI C fl_X9_50 rfl hv2 dX9_seamOdds_10 ?_
      refine aw_iload_n C 3 dX9_seamOdds_13 rfl rfl ?_
      refine aw_cSN_I C [.int v2, .int x3] _ (mt_X10_contains _ _) cs_X10_contains ml_X9_54 st_X10_contains ⟨by decide, by decide⟩ ⟨rfl, rfl⟩ ⟨Nat.zero_le _, Nat.zero_le _⟩ rfl rfl (Nat.le_of_ble_eq_true rfl) dX9_seamOdds_14 ?_
      obtain ⟨z8, hz8, h⟩ := bindE h
      have kj17 : AW G 4 X 0 0 31 [(0, .ref (gZ G + a0)), (1, .int x1), (2, .int z8), (3, .int x3)] [] μ := by
        refine aw_iinc C (x3 + 1) 3 [(3, .int (x3 + 1)), (0, .ref (gZ G + a0)), (1, .int x1), (2, .int z8)] dX9_seamOdds_31 rfl rfl (by decide) rfl ?_
        refine aw_goto C 4 dX9_seamOdds_34 (by decide) ?_
        exact aw_sub [1, 2, 3, 0] rfl (ih _ _ _ h kx)
      replace h := hz8
      refine aw_if_eq C 31 dX9_seamOdds_17 (by decide) (fun c3 => ?_) (fun c3 => ?_)
      · rw [if_pos c3] at h
        cases h
        exact aw_sub [0, 1, 2, 3] rfl kj17
      · rw [if_neg c3] at h
        refine aw_iload_n C 2 dX9_seamOdds_20 rfl rfl ?_
        refine aw_aload_n C 0 dX9_seamOdds_21 rfl rfl ?_
        obtain ⟨v4, hv4, h⟩ := bindE h
        refine aw_gR C fl_X9_26 rfl hv4 dX9_seamOdds_22 ?_
        refine aw_iload_n C 1 dX9_seamOdds_25 rfl rfl ?_
        obtain ⟨v5, hv5, h⟩ := bindE h
        refine aw_aR C (by decide) (ty := .array .int) rfl rfl hv5 dX9_seamOdds_26 ?_
        refine aw_iload_n C 3 dX9_seamOdds_27 rfl rfl ?_
        obtain ⟨v6, hv6, h⟩ := bindE h
        refine aw_aI C hv6 dX9_seamOdds_28 ?_
        refine aw_iadd C dX9_seamOdds_29 ?_
        obtain ⟨v7, ev7, h⟩ := bindS h
        refine aw_topi ev7 ?_
        refine aw_istore_n C [(2, .int v7), (0, .ref (gZ G + a0)), (1, .int x1), (3, .int x3)] dX9_seamOdds_30 rfl (by decide) rfl ?_
        cases h
        exact aw_sub [1, 2, 0, 3] rfl kj17
def X9_seamOdds (a0 : Nat) (x1 : Int32) (μ : Mem) : Option Int32 :=
  (X9_seamOdds_L4 a0 x1 μ FU 0 0).bind fun z1 =>
  some (z1.1)
set_option maxRecDepth 100000 in
set_option maxHeartbeats 4000000 in
theorem wk_X9_seamOdds {G : GL} {X : CX} {a0 : Nat} {x1 : Int32} {μ : Mem} {r : Int32} (C : Ctx G X cX9_seamOdds 4 RX9 rm_X9_seamOdds) (h : X9_seamOdds a0 x1 μ = some r) (hret : RtI G 4 X cX9_seamOdds 0 0 r μ) : AW G 4 X 0 0 0 [(0, .ref (gZ G + a0)), (1, .int x1)] [] μ := by
  unfold X9_seamOdds at h
  refine aw_iconst C 0 dX9_seamOdds_0 (by decide) ?_
  refine aw_istore_n C [(2, .int 0), (0, .ref (gZ G + a0)), (1, .int x1)] dX9_seamOdds_1 rfl (by decide) rfl ?_
  refine aw_iconst C 0 dX9_seamOdds_2 (by decide) ?_
  refine aw_istore_n C [(3, .int 0), (2, .int 0), (0, .ref (gZ G + a0)), (1, .int x1)] dX9_seamOdds_3 rfl (by decide) rfl ?_
  obtain ⟨z1, hz1, h⟩ := bindE h
  refine aw_sub [2, 3, 1, 0] rfl ?_
  refine X9_seamOdds_L4_ok C _ _ _ _ _ _ _ hz1 ?_
  refine aw_iload_n C 2 dX9_seamOdds_37 rfl rfl ?_
  cases h
  exact hret _ _ dX9_seamOdds_38
set_option maxRecDepth 100000 in
set_option maxHeartbeats 4000000 in
theorem mt_X9_seamOdds {G : GL} {l : Launch} {a0 : Nat} {x1 : Int32} {μ : Mem} {r : Int32} (h : X9_seamOdds a0 x1 μ = some r) : MtI G l yX9_seamOdds cX9_seamOdds 4 (some .int) rm_X9_seamOdds false [.ref (gZ G + a0), .int x1] μ r μ := met_I (by decide) rfl rfl (Nat.le_of_ble_eq_true rfl) (fun X _ C _ _ hret => wk_X9_seamOdds C h hret)
def X9_fittingRows (a0 : Nat) (x1 : Int32) (x2 : Int32) (μ : Mem) : Option (Int32 × Mem) :=
  (vO 9 a0 μ).bind fun g1 =>
  (X9_weigh a0 x1 x2 1 μ).bind fun μ2 =>
  (vO 9 a0 μ2).bind fun g3 =>
  (X9_allWeights a0 μ2).bind fun v4 =>
  some (v4.toInt32, μ2)
set_option maxRecDepth 100000 in
set_option maxHeartbeats 4000000 in
theorem wk_X9_fittingRows {G : GL} {X : CX} {a0 : Nat} {x1 : Int32} {x2 : Int32} {μ : Mem} {r : Int32} {μ' : Mem} (C : Ctx G X cX9_fittingRows 3 RX9 rm_X9_fittingRows) (h : X9_fittingRows a0 x1 x2 μ = some (r, μ')) (hret : RtI G 3 X cX9_fittingRows 0 0 r μ') : AW G 3 X 0 0 0 [(0, .ref (gZ G + a0)), (1, .int x1), (2, .int x2)] [] μ := by
  unfold X9_fittingRows at h
  refine aw_aload_n C 0 dX9_fittingRows_0 rfl rfl ?_
  refine aw_iload_n C 1 dX9_fittingRows_1 rfl rfl ?_
  refine aw_iload_n C 2 dX9_fittingRows_2 rfl rfl ?_
  refine aw_iconst C 1 dX9_fittingRows_3 (by decide) ?_
  obtain ⟨g1, hg1, h⟩ := bindE h
  obtain ⟨μ2, hμ2, h⟩ := bindE h
  refine aw_cV_V C [.int x1, .int x2, .int 1] _ (mt_X9_weigh hμ2) cs_X9_weigh ml_X9_36 im_X9_weigh se_X9_weigh (ci := 9) rfl rfl hg1 ⟨by decide, by decide⟩ ⟨rfl, rfl⟩ ⟨Nat.zero_le _, Nat.zero_le _⟩ rfl rfl (Nat.le_of_ble_eq_true rfl) dX9_fittingRows_4 ?_
  refine aw_aload_n C 0 dX9_fittingRows_7 rfl rfl ?_
  obtain ⟨g3, hg3, h⟩ := bindE h
  obtain ⟨v4, hv4, h⟩ := bindE h
  refine aw_cV_J C [] _ (mt_X9_allWeights hv4) cs_X9_allWeights ml_X9_40 im_X9_allWeights se_X9_allWeights (ci := 9) rfl rfl hg3 ⟨by decide, by decide⟩ ⟨rfl, rfl⟩ ⟨Nat.zero_le _, Nat.zero_le _⟩ rfl rfl (Nat.le_of_ble_eq_true rfl) dX9_fittingRows_8 ?_
  refine aw_l2i C dX9_fittingRows_11 ?_
  cases h
  exact hret _ _ dX9_fittingRows_12
set_option maxRecDepth 100000 in
set_option maxHeartbeats 4000000 in
theorem mt_X9_fittingRows {G : GL} {l : Launch} {a0 : Nat} {x1 : Int32} {x2 : Int32} {μ : Mem} {r : Int32} {μ' : Mem} (h : X9_fittingRows a0 x1 x2 μ = some (r, μ')) : MtI G l yX9_fittingRows cX9_fittingRows 3 (some .int) rm_X9_fittingRows false [.ref (gZ G + a0), .int x1, .int x2] μ r μ' := met_I (by decide) rfl rfl (Nat.le_of_ble_eq_true rfl) (fun X _ C _ _ hret => wk_X9_fittingRows C h hret)
def X10_isState (x0 : Int32) : Int32 :=
  X10_within x0 0 3
set_option maxRecDepth 100000 in
set_option maxHeartbeats 4000000 in
theorem wk_X10_isState {G : GL} {X : CX} {x0 : Int32} {μ : Mem} (C : Ctx G X cX10_isState 1 RX10 rm_X10_isState) (hret : RtZ G 1 X cX10_isState 0 0 (X10_isState x0) μ) : AW G 1 X 0 0 0 [(0, .int x0)] [] μ := by
  unfold X10_isState at hret
  refine aw_iload_n C 0 dX10_isState_0 rfl rfl ?_
  refine aw_iconst C 0 dX10_isState_1 (by decide) ?_
  refine aw_iconst C 3 dX10_isState_2 (by decide) ?_
  refine aw_cS_I C [.int x0, .int 0, .int 3] _ (mt_X10_within _ _ _) cs_X10_within ml_X10_90 st_X10_within ⟨by decide, by decide⟩ ⟨rfl, rfl⟩ ⟨Nat.zero_le _, Nat.zero_le _⟩ rfl rfl (Nat.le_of_ble_eq_true rfl) dX10_isState_3 ?_
  exact hret _ _ dX10_isState_6 (z_X10_within _ _ _)
set_option maxRecDepth 100000 in
set_option maxHeartbeats 4000000 in
theorem mt_X10_isState {G : GL} {l : Launch} (x0 : Int32) {μ : Mem} : MtI G l yX10_isState cX10_isState 1 (some .boolean) rm_X10_isState false [.int x0] μ (X10_isState x0) μ := met_Z (by decide) rfl (Nat.le_of_ble_eq_true rfl) (fun X _ C _ _ hret => wk_X10_isState C hret)
theorem z_X10_isState (x0 : Int32) : X10_isState x0 = 0 ∨ X10_isState x0 = 1 := by
  unfold X10_isState
  exact z_X10_within _ _ _
def X10_isOften (x0 : Int32) : Int32 :=
  X10_within x0 0 4
set_option maxRecDepth 100000 in
set_option maxHeartbeats 4000000 in
theorem wk_X10_isOften {G : GL} {X : CX} {x0 : Int32} {μ : Mem} (C : Ctx G X cX10_isOften 1 RX10 rm_X10_isOften) (hret : RtZ G 1 X cX10_isOften 0 0 (X10_isOften x0) μ) : AW G 1 X 0 0 0 [(0, .int x0)] [] μ := by
  unfold X10_isOften at hret
  refine aw_iload_n C 0 dX10_isOften_0 rfl rfl ?_
  refine aw_iconst C 0 dX10_isOften_1 (by decide) ?_
  refine aw_iconst C 4 dX10_isOften_2 (by decide) ?_
  refine aw_cS_I C [.int x0, .int 0, .int 4] _ (mt_X10_within _ _ _) cs_X10_within ml_X10_90 st_X10_within ⟨by decide, by decide⟩ ⟨rfl, rfl⟩ ⟨Nat.zero_le _, Nat.zero_le _⟩ rfl rfl (Nat.le_of_ble_eq_true rfl) dX10_isOften_3 ?_
  exact hret _ _ dX10_isOften_6 (z_X10_within _ _ _)
set_option maxRecDepth 100000 in
set_option maxHeartbeats 4000000 in
theorem mt_X10_isOften {G : GL} {l : Launch} (x0 : Int32) {μ : Mem} : MtI G l yX10_isOften cX10_isOften 1 (some .boolean) rm_X10_isOften false [.int x0] μ (X10_isOften x0) μ := met_Z (by decide) rfl (Nat.le_of_ble_eq_true rfl) (fun X _ C _ _ hret => wk_X10_isOften C hret)
theorem z_X10_isOften (x0 : Int32) : X10_isOften x0 = 0 ∨ X10_isOften x0 = 1 := by
  unfold X10_isOften
  exact z_X10_within _ _ _
def X10_isPerson (x0 : Int32) : Int32 :=
  X10_within x0 0 3
set_option maxRecDepth 100000 in
set_option maxHeartbeats 4000000 in
theorem wk_X10_isPerson {G : GL} {X : CX} {x0 : Int32} {μ : Mem} (C : Ctx G X cX10_isPerson 1 RX10 rm_X10_isPerson) (hret : RtZ G 1 X cX10_isPerson 0 0 (X10_isPerson x0) μ) : AW G 1 X 0 0 0 [(0, .int x0)] [] μ := by
  unfold X10_isPerson at hret
  refine aw_iload_n C 0 dX10_isPerson_0 rfl rfl ?_
  refine aw_iconst C 0 dX10_isPerson_1 (by decide) ?_
  refine aw_iconst C 3 dX10_isPerson_2 (by decide) ?_
  refine aw_cS_I C [.int x0, .int 0, .int 3] _ (mt_X10_within _ _ _) cs_X10_within ml_X10_90 st_X10_within ⟨by decide, by decide⟩ ⟨rfl, rfl⟩ ⟨Nat.zero_le _, Nat.zero_le _⟩ rfl rfl (Nat.le_of_ble_eq_true rfl) dX10_isPerson_3 ?_
  exact hret _ _ dX10_isPerson_6 (z_X10_within _ _ _)
set_option maxRecDepth 100000 in
set_option maxHeartbeats 4000000 in
theorem mt_X10_isPerson {G : GL} {l : Launch} (x0 : Int32) {μ : Mem} : MtI G l yX10_isPerson cX10_isPerson 1 (some .boolean) rm_X10_isPerson false [.int x0] μ (X10_isPerson x0) μ := met_Z (by decide) rfl (Nat.le_of_ble_eq_true rfl) (fun X _ C _ _ hret => wk_X10_isPerson C hret)
theorem z_X10_isPerson (x0 : Int32) : X10_isPerson x0 = 0 ∨ X10_isPerson x0 = 1 := by
  unfold X10_isPerson
  exact z_X10_within _ _ _
def X10_isAhead (x0 : Int32) : Int32 :=
  X10_within x0 0 8
set_option maxRecDepth 100000 in
set_option maxHeartbeats 4000000 in
theorem wk_X10_isAhead {G : GL} {X : CX} {x0 : Int32} {μ : Mem} (C : Ctx G X cX10_isAhead 1 RX10 rm_X10_isAhead) (hret : RtZ G 1 X cX10_isAhead 0 0 (X10_isAhead x0) μ) : AW G 1 X 0 0 0 [(0, .int x0)] [] μ := by
  unfold X10_isAhead at hret
  refine aw_iload_n C 0 dX10_isAhead_0 rfl rfl ?_
  refine aw_iconst C 0 dX10_isAhead_1 (by decide) ?_
  refine aw_bipush C 8 dX10_isAhead_2 (by decide) ?_
  refine aw_cS_I C [.int x0, .int 0, .int 8] _ (mt_X10_within _ _ _) cs_X10_within ml_X10_90 st_X10_within ⟨by decide, by decide⟩ ⟨rfl, rfl⟩ ⟨Nat.zero_le _, Nat.zero_le _⟩ rfl rfl (Nat.le_of_ble_eq_true rfl) dX10_isAhead_4 ?_
  exact hret _ _ dX10_isAhead_7 (z_X10_within _ _ _)
set_option maxRecDepth 100000 in
set_option maxHeartbeats 4000000 in
theorem mt_X10_isAhead {G : GL} {l : Launch} (x0 : Int32) {μ : Mem} : MtI G l yX10_isAhead cX10_isAhead 1 (some .boolean) rm_X10_isAhead false [.int x0] μ (X10_isAhead x0) μ := met_Z (by decide) rfl (Nat.le_of_ble_eq_true rfl) (fun X _ C _ _ hret => wk_X10_isAhead C hret)
theorem z_X10_isAhead (x0 : Int32) : X10_isAhead x0 = 0 ∨ X10_isAhead x0 = 1 := by
  unfold X10_isAhead
  exact z_X10_within _ _ _
def X10_isWay (x0 : Int32) : Int32 :=
  X10_within x0 0 3
set_option maxRecDepth 100000 in
set_option maxHeartbeats 4000000 in
theorem wk_X10_isWay {G : GL} {X : CX} {x0 : Int32} {μ : Mem} (C : Ctx G X cX10_isWay 1 RX10 rm_X10_isWay) (hret : RtZ G 1 X cX10_isWay 0 0 (X10_isWay x0) μ) : AW G 1 X 0 0 0 [(0, .int x0)] [] μ := by
  unfold X10_isWay at hret
  refine aw_iload_n C 0 dX10_isWay_0 rfl rfl ?_
  refine aw_iconst C 0 dX10_isWay_1 (by decide) ?_
  refine aw_iconst C 3 dX10_isWay_2 (by decide) ?_
  refine aw_cS_I C [.int x0, .int 0, .int 3] _ (mt_X10_within _ _ _) cs_X10_within ml_X10_90 st_X10_within ⟨by decide, by decide⟩ ⟨rfl, rfl⟩ ⟨Nat.zero_le _, Nat.zero_le _⟩ rfl rfl (Nat.le_of_ble_eq_true rfl) dX10_isWay_3 ?_
  exact hret _ _ dX10_isWay_6 (z_X10_within _ _ _)
set_option maxRecDepth 100000 in
set_option maxHeartbeats 4000000 in
theorem mt_X10_isWay {G : GL} {l : Launch} (x0 : Int32) {μ : Mem} : MtI G l yX10_isWay cX10_isWay 1 (some .boolean) rm_X10_isWay false [.int x0] μ (X10_isWay x0) μ := met_Z (by decide) rfl (Nat.le_of_ble_eq_true rfl) (fun X _ C _ _ hret => wk_X10_isWay C hret)
theorem z_X10_isWay (x0 : Int32) : X10_isWay x0 = 0 ∨ X10_isWay x0 = 1 := by
  unfold X10_isWay
  exact z_X10_within _ _ _
end
