-- ===== PART A: goes FIRST, ahead of the names: the tables' words, and 'selects' of the private methods out of them =====
/-- a private method of a class that the tables say can be made, by its rows of tables_1 -/
def lw_okq (q : MethodName × Nat) : Prop := (q.1.cls ≠ "java/lang/invoke/MethodHandle" ∧ q.1.cls ≠ "java/lang/invoke/VarHandle") ∧ Cond.instantiable q.1.cls q.2 ∈ tables_1 ∧ Cond.privateMethod q.1 ∈ tables_1 ∧ Cond.instanceMethod q.1 ∈ tables_1
theorem lw_p0 : lw_okq (⟨"WhenToSpeak$Work", "weigh", "(IIZ)V"⟩, 8) := ⟨⟨by decide +kernel, by decide +kernel⟩, List.mem_of_getElem? (i := 28) (by decide +kernel), List.mem_of_getElem? (i := 449) (by decide +kernel), List.mem_of_getElem? (i := 450) (by decide +kernel)⟩
theorem lw_p1 : lw_okq (⟨"WhenToSpeak$Work", "signFactor", "(IIZ)J"⟩, 8) := ⟨⟨by decide +kernel, by decide +kernel⟩, List.mem_of_getElem? (i := 28) (by decide +kernel), List.mem_of_getElem? (i := 456) (by decide +kernel), List.mem_of_getElem? (i := 457) (by decide +kernel)⟩
theorem lw_p2 : lw_okq (⟨"WhenToSpeak$Work", "allWeights", "()J"⟩, 8) := ⟨⟨by decide +kernel, by decide +kernel⟩, List.mem_of_getElem? (i := 28) (by decide +kernel), List.mem_of_getElem? (i := 460) (by decide +kernel), List.mem_of_getElem? (i := 461) (by decide +kernel)⟩
theorem lw_p3 : lw_okq (⟨"WhenToSpeak$Work", "moveOn", "([I[I)V"⟩, 8) := ⟨⟨by decide +kernel, by decide +kernel⟩, List.mem_of_getElem? (i := 28) (by decide +kernel), List.mem_of_getElem? (i := 476) (by decide +kernel), List.mem_of_getElem? (i := 477) (by decide +kernel)⟩
theorem lw_p4 : lw_okq (⟨"WhenToSpeak$Book", "isTold", "(I)Z"⟩, 4) := ⟨⟨by decide +kernel, by decide +kernel⟩, List.mem_of_getElem? (i := 88) (by decide +kernel), List.mem_of_getElem? (i := 521) (by decide +kernel), List.mem_of_getElem? (i := 522) (by decide +kernel)⟩
theorem lw_p5 : lw_okq (⟨"WhenToSpeak$LawText", "skipBlanks", "()V"⟩, 5) := ⟨⟨by decide +kernel, by decide +kernel⟩, List.mem_of_getElem? (i := 198) (by decide +kernel), List.mem_of_getElem? (i := 588) (by decide +kernel), List.mem_of_getElem? (i := 589) (by decide +kernel)⟩
theorem lw_p6 : lw_okq (⟨"WhenToSpeak$LawText", "readClause", "(LWhenToSpeak$Laws;)V"⟩, 5) := ⟨⟨by decide +kernel, by decide +kernel⟩, List.mem_of_getElem? (i := 198) (by decide +kernel), List.mem_of_getElem? (i := 592) (by decide +kernel), List.mem_of_getElem? (i := 593) (by decide +kernel)⟩
theorem lw_p7 : lw_okq (⟨"WhenToSpeak$LawText", "takeWord", "(Ljava/lang/String;)Z"⟩, 5) := ⟨⟨by decide +kernel, by decide +kernel⟩, List.mem_of_getElem? (i := 198) (by decide +kernel), List.mem_of_getElem? (i := 597) (by decide +kernel), List.mem_of_getElem? (i := 598) (by decide +kernel)⟩
theorem lw_p8 : lw_okq (⟨"WhenToSpeak$LawText", "refuseNinth", "(LWhenToSpeak$Laws;I)V"⟩, 5) := ⟨⟨by decide +kernel, by decide +kernel⟩, List.mem_of_getElem? (i := 198) (by decide +kernel), List.mem_of_getElem? (i := 649) (by decide +kernel), List.mem_of_getElem? (i := 650) (by decide +kernel)⟩
theorem lw_p9 : lw_okq (⟨"WhenToSpeak$LawText", "note", "(II)V"⟩, 5) := ⟨⟨by decide +kernel, by decide +kernel⟩, List.mem_of_getElem? (i := 198) (by decide +kernel), List.mem_of_getElem? (i := 653) (by decide +kernel), List.mem_of_getElem? (i := 654) (by decide +kernel)⟩
theorem lw_p10 : lw_okq (⟨"WhenToSpeak$LawText", "readNever", "(LWhenToSpeak$Laws;)V"⟩, 5) := ⟨⟨by decide +kernel, by decide +kernel⟩, List.mem_of_getElem? (i := 198) (by decide +kernel), List.mem_of_getElem? (i := 657) (by decide +kernel), List.mem_of_getElem? (i := 658) (by decide +kernel)⟩
theorem lw_p11 : lw_okq (⟨"WhenToSpeak$LawText", "takeNumber", "(II)I"⟩, 5) := ⟨⟨by decide +kernel, by decide +kernel⟩, List.mem_of_getElem? (i := 198) (by decide +kernel), List.mem_of_getElem? (i := 662) (by decide +kernel), List.mem_of_getElem? (i := 663) (by decide +kernel)⟩
theorem lw_p12 : lw_okq (⟨"WhenToSpeak$LawText", "finish", "(LWhenToSpeak$Laws;IIII)V"⟩, 5) := ⟨⟨by decide +kernel, by decide +kernel⟩, List.mem_of_getElem? (i := 198) (by decide +kernel), List.mem_of_getElem? (i := 668) (by decide +kernel), List.mem_of_getElem? (i := 669) (by decide +kernel)⟩
theorem lw_p13 : lw_okq (⟨"WhenToSpeak$LawText", "needWord", "(Ljava/lang/String;)V"⟩, 5) := ⟨⟨by decide +kernel, by decide +kernel⟩, List.mem_of_getElem? (i := 198) (by decide +kernel), List.mem_of_getElem? (i := 677) (by decide +kernel), List.mem_of_getElem? (i := 678) (by decide +kernel)⟩
theorem lw_p14 : lw_okq (⟨"WhenToSpeak", "barNow", "(III)I"⟩, 11) := ⟨⟨by decide +kernel, by decide +kernel⟩, List.mem_of_getElem? (i := 20) (by decide +kernel), List.mem_of_getElem? (i := 699) (by decide +kernel), List.mem_of_getElem? (i := 700) (by decide +kernel)⟩
theorem lw_p15 : lw_okq (⟨"WhenToSpeak$Laws", "isLikely", "(I[I)Z"⟩, 5) := ⟨⟨by decide +kernel, by decide +kernel⟩, List.mem_of_getElem? (i := 344) (by decide +kernel), List.mem_of_getElem? (i := 719) (by decide +kernel), List.mem_of_getElem? (i := 720) (by decide +kernel)⟩
def lw_privs_1 : List (MethodName × Nat) := [(⟨"WhenToSpeak$Work", "weigh", "(IIZ)V"⟩, 8), (⟨"WhenToSpeak$Work", "signFactor", "(IIZ)J"⟩, 8), (⟨"WhenToSpeak$Work", "allWeights", "()J"⟩, 8), (⟨"WhenToSpeak$Work", "moveOn", "([I[I)V"⟩, 8), (⟨"WhenToSpeak$Book", "isTold", "(I)Z"⟩, 4), (⟨"WhenToSpeak$LawText", "skipBlanks", "()V"⟩, 5), (⟨"WhenToSpeak$LawText", "readClause", "(LWhenToSpeak$Laws;)V"⟩, 5), (⟨"WhenToSpeak$LawText", "takeWord", "(Ljava/lang/String;)Z"⟩, 5), (⟨"WhenToSpeak$LawText", "refuseNinth", "(LWhenToSpeak$Laws;I)V"⟩, 5), (⟨"WhenToSpeak$LawText", "note", "(II)V"⟩, 5), (⟨"WhenToSpeak$LawText", "readNever", "(LWhenToSpeak$Laws;)V"⟩, 5), (⟨"WhenToSpeak$LawText", "takeNumber", "(II)I"⟩, 5), (⟨"WhenToSpeak$LawText", "finish", "(LWhenToSpeak$Laws;IIII)V"⟩, 5), (⟨"WhenToSpeak$LawText", "needWord", "(Ljava/lang/String;)V"⟩, 5), (⟨"WhenToSpeak", "barNow", "(III)I"⟩, 11), (⟨"WhenToSpeak$Laws", "isLikely", "(I[I)Z"⟩, 5)]
theorem lw_r1 : ∀ q ∈ lw_privs_1, lw_okq q := List.forall_mem_cons.mpr ⟨lw_p0, List.forall_mem_cons.mpr ⟨lw_p1, List.forall_mem_cons.mpr ⟨lw_p2, List.forall_mem_cons.mpr ⟨lw_p3, List.forall_mem_cons.mpr ⟨lw_p4, List.forall_mem_cons.mpr ⟨lw_p5, List.forall_mem_cons.mpr ⟨lw_p6, List.forall_mem_cons.mpr ⟨lw_p7, List.forall_mem_cons.mpr ⟨lw_p8, List.forall_mem_cons.mpr ⟨lw_p9, List.forall_mem_cons.mpr ⟨lw_p10, List.forall_mem_cons.mpr ⟨lw_p11, List.forall_mem_cons.mpr ⟨lw_p12, List.forall_mem_cons.mpr ⟨lw_p13, List.forall_mem_cons.mpr ⟨lw_p14, List.forall_mem_cons.mpr ⟨lw_p15, fun _ h => absurd h List.not_mem_nil⟩⟩⟩⟩⟩⟩⟩⟩⟩⟩⟩⟩⟩⟩⟩⟩
theorem lw_p16 : lw_okq (⟨"WhenToSpeak$Planner", "pick", "(II)V"⟩, 19) := ⟨⟨by decide +kernel, by decide +kernel⟩, List.mem_of_getElem? (i := 241) (by decide +kernel), List.mem_of_getElem? (i := 761) (by decide +kernel), List.mem_of_getElem? (i := 762) (by decide +kernel)⟩
theorem lw_p17 : lw_okq (⟨"WhenToSpeak$Planner", "price", "(IILWhenToSpeak$Laws;)V"⟩, 19) := ⟨⟨by decide +kernel, by decide +kernel⟩, List.mem_of_getElem? (i := 241) (by decide +kernel), List.mem_of_getElem? (i := 768) (by decide +kernel), List.mem_of_getElem? (i := 769) (by decide +kernel)⟩
theorem lw_p18 : lw_okq (⟨"WhenToSpeak$Planner", "priceSet", "(II)V"⟩, 19) := ⟨⟨by decide +kernel, by decide +kernel⟩, List.mem_of_getElem? (i := 241) (by decide +kernel), List.mem_of_getElem? (i := 784) (by decide +kernel), List.mem_of_getElem? (i := 785) (by decide +kernel)⟩
theorem lw_p19 : lw_okq (⟨"WhenToSpeak$Planner", "mostBarsAt", "(IIIILWhenToSpeak$Laws;)Z"⟩, 19) := ⟨⟨by decide +kernel, by decide +kernel⟩, List.mem_of_getElem? (i := 241) (by decide +kernel), List.mem_of_getElem? (i := 790) (by decide +kernel), List.mem_of_getElem? (i := 791) (by decide +kernel)⟩
theorem lw_p20 : lw_okq (⟨"WhenToSpeak$Planner", "decide", "(IIIZ)I"⟩, 19) := ⟨⟨by decide +kernel, by decide +kernel⟩, List.mem_of_getElem? (i := 241) (by decide +kernel), List.mem_of_getElem? (i := 795) (by decide +kernel), List.mem_of_getElem? (i := 796) (by decide +kernel)⟩
theorem lw_p21 : lw_okq (⟨"WhenToSpeak$Planner", "nodeBehind", "(IZ)I"⟩, 19) := ⟨⟨by decide +kernel, by decide +kernel⟩, List.mem_of_getElem? (i := 241) (by decide +kernel), List.mem_of_getElem? (i := 799) (by decide +kernel), List.mem_of_getElem? (i := 800) (by decide +kernel)⟩
theorem lw_p22 : lw_okq (⟨"WhenToSpeak$Planner", "total", "(II)I"⟩, 19) := ⟨⟨by decide +kernel, by decide +kernel⟩, List.mem_of_getElem? (i := 241) (by decide +kernel), List.mem_of_getElem? (i := 803) (by decide +kernel), List.mem_of_getElem? (i := 804) (by decide +kernel)⟩
theorem lw_p23 : lw_okq (⟨"WhenToSpeak$Planner", "tell", "(IILWhenToSpeak$Laws;)V"⟩, 19) := ⟨⟨by decide +kernel, by decide +kernel⟩, List.mem_of_getElem? (i := 241) (by decide +kernel), List.mem_of_getElem? (i := 809) (by decide +kernel), List.mem_of_getElem? (i := 810) (by decide +kernel)⟩
theorem lw_p24 : lw_okq (⟨"WhenToSpeak$Trial", "sayIn", "(IIZ)V"⟩, 8) := ⟨⟨by decide +kernel, by decide +kernel⟩, List.mem_of_getElem? (i := 310) (by decide +kernel), List.mem_of_getElem? (i := 877) (by decide +kernel), List.mem_of_getElem? (i := 878) (by decide +kernel)⟩
theorem lw_p25 : lw_okq (⟨"WhenToSpeak$Trial", "isLeft", "(II)Z"⟩, 8) := ⟨⟨by decide +kernel, by decide +kernel⟩, List.mem_of_getElem? (i := 310) (by decide +kernel), List.mem_of_getElem? (i := 882) (by decide +kernel), List.mem_of_getElem? (i := 883) (by decide +kernel)⟩
theorem lw_p26 : lw_okq (⟨"WhenToSpeakModel", "findRows", "(II)V"⟩, 51) := ⟨⟨by decide +kernel, by decide +kernel⟩, List.mem_of_getElem? (i := 888) (by decide +kernel), List.mem_of_getElem? (i := 1091) (by decide +kernel), List.mem_of_getElem? (i := 1092) (by decide +kernel)⟩
theorem lw_p27 : lw_okq (⟨"WhenToSpeakModel", "showsAt", "(III)I"⟩, 51) := ⟨⟨by decide +kernel, by decide +kernel⟩, List.mem_of_getElem? (i := 888) (by decide +kernel), List.mem_of_getElem? (i := 1095) (by decide +kernel), List.mem_of_getElem? (i := 1096) (by decide +kernel)⟩
theorem lw_p28 : lw_okq (⟨"WhenToSpeakModel", "findOdds", "(III)V"⟩, 51) := ⟨⟨by decide +kernel, by decide +kernel⟩, List.mem_of_getElem? (i := 888) (by decide +kernel), List.mem_of_getElem? (i := 1104) (by decide +kernel), List.mem_of_getElem? (i := 1105) (by decide +kernel)⟩
theorem lw_p29 : lw_okq (⟨"WhenToSpeakModel", "seamOdds", "(III)I"⟩, 51) := ⟨⟨by decide +kernel, by decide +kernel⟩, List.mem_of_getElem? (i := 888) (by decide +kernel), List.mem_of_getElem? (i := 1113) (by decide +kernel), List.mem_of_getElem? (i := 1114) (by decide +kernel)⟩
theorem lw_p30 : lw_okq (⟨"WhenToSpeakModel", "isThing", "(I)Z"⟩, 51) := ⟨⟨by decide +kernel, by decide +kernel⟩, List.mem_of_getElem? (i := 888) (by decide +kernel), List.mem_of_getElem? (i := 1134) (by decide +kernel), List.mem_of_getElem? (i := 1135) (by decide +kernel)⟩
theorem lw_p31 : lw_okq (⟨"WhenToSpeakModel", "sayingsOf", "(I)I"⟩, 51) := ⟨⟨by decide +kernel, by decide +kernel⟩, List.mem_of_getElem? (i := 888) (by decide +kernel), List.mem_of_getElem? (i := 1138) (by decide +kernel), List.mem_of_getElem? (i := 1139) (by decide +kernel)⟩
def lw_privs_2 : List (MethodName × Nat) := [(⟨"WhenToSpeak$Planner", "pick", "(II)V"⟩, 19), (⟨"WhenToSpeak$Planner", "price", "(IILWhenToSpeak$Laws;)V"⟩, 19), (⟨"WhenToSpeak$Planner", "priceSet", "(II)V"⟩, 19), (⟨"WhenToSpeak$Planner", "mostBarsAt", "(IIIILWhenToSpeak$Laws;)Z"⟩, 19), (⟨"WhenToSpeak$Planner", "decide", "(IIIZ)I"⟩, 19), (⟨"WhenToSpeak$Planner", "nodeBehind", "(IZ)I"⟩, 19), (⟨"WhenToSpeak$Planner", "total", "(II)I"⟩, 19), (⟨"WhenToSpeak$Planner", "tell", "(IILWhenToSpeak$Laws;)V"⟩, 19), (⟨"WhenToSpeak$Trial", "sayIn", "(IIZ)V"⟩, 8), (⟨"WhenToSpeak$Trial", "isLeft", "(II)Z"⟩, 8), (⟨"WhenToSpeakModel", "findRows", "(II)V"⟩, 51), (⟨"WhenToSpeakModel", "showsAt", "(III)I"⟩, 51), (⟨"WhenToSpeakModel", "findOdds", "(III)V"⟩, 51), (⟨"WhenToSpeakModel", "seamOdds", "(III)I"⟩, 51), (⟨"WhenToSpeakModel", "isThing", "(I)Z"⟩, 51), (⟨"WhenToSpeakModel", "sayingsOf", "(I)I"⟩, 51)]
theorem lw_r2 : ∀ q ∈ lw_privs_2, lw_okq q := List.forall_mem_cons.mpr ⟨lw_p16, List.forall_mem_cons.mpr ⟨lw_p17, List.forall_mem_cons.mpr ⟨lw_p18, List.forall_mem_cons.mpr ⟨lw_p19, List.forall_mem_cons.mpr ⟨lw_p20, List.forall_mem_cons.mpr ⟨lw_p21, List.forall_mem_cons.mpr ⟨lw_p22, List.forall_mem_cons.mpr ⟨lw_p23, List.forall_mem_cons.mpr ⟨lw_p24, List.forall_mem_cons.mpr ⟨lw_p25, List.forall_mem_cons.mpr ⟨lw_p26, List.forall_mem_cons.mpr ⟨lw_p27, List.forall_mem_cons.mpr ⟨lw_p28, List.forall_mem_cons.mpr ⟨lw_p29, List.forall_mem_cons.mpr ⟨lw_p30, List.forall_mem_cons.mpr ⟨lw_p31, fun _ h => absurd h List.not_mem_nil⟩⟩⟩⟩⟩⟩⟩⟩⟩⟩⟩⟩⟩⟩⟩⟩
theorem lw_p32 : lw_okq (⟨"WhenToSpeakModel", "stateOf", "(I)I"⟩, 51) := ⟨⟨by decide +kernel, by decide +kernel⟩, List.mem_of_getElem? (i := 888) (by decide +kernel), List.mem_of_getElem? (i := 1146) (by decide +kernel), List.mem_of_getElem? (i := 1147) (by decide +kernel)⟩
theorem lw_p33 : lw_okq (⟨"WhenToSpeakModel", "isTold", "(I)Z"⟩, 51) := ⟨⟨by decide +kernel, by decide +kernel⟩, List.mem_of_getElem? (i := 888) (by decide +kernel), List.mem_of_getElem? (i := 1150) (by decide +kernel), List.mem_of_getElem? (i := 1151) (by decide +kernel)⟩
theorem lw_p34 : lw_okq (⟨"WhenToSpeakModel", "valueOf", "(III)I"⟩, 51) := ⟨⟨by decide +kernel, by decide +kernel⟩, List.mem_of_getElem? (i := 888) (by decide +kernel), List.mem_of_getElem? (i := 1158) (by decide +kernel), List.mem_of_getElem? (i := 1159) (by decide +kernel)⟩
theorem lw_p35 : lw_okq (⟨"WhenToSpeakModel", "lossOf", "(IIII)I"⟩, 51) := ⟨⟨by decide +kernel, by decide +kernel⟩, List.mem_of_getElem? (i := 888) (by decide +kernel), List.mem_of_getElem? (i := 1178) (by decide +kernel), List.mem_of_getElem? (i := 1179) (by decide +kernel)⟩
theorem lw_p36 : lw_okq (⟨"WhenToSpeakModel", "thingsThat", "(I)I"⟩, 51) := ⟨⟨by decide +kernel, by decide +kernel⟩, List.mem_of_getElem? (i := 888) (by decide +kernel), List.mem_of_getElem? (i := 1187) (by decide +kernel), List.mem_of_getElem? (i := 1188) (by decide +kernel)⟩
theorem lw_p37 : lw_okq (⟨"WhenToSpeakModel", "here", "()I"⟩, 51) := ⟨⟨by decide +kernel, by decide +kernel⟩, List.mem_of_getElem? (i := 888) (by decide +kernel), List.mem_of_getElem? (i := 1200) (by decide +kernel), List.mem_of_getElem? (i := 1201) (by decide +kernel)⟩
theorem lw_p38 : lw_okq (⟨"WhenToSpeakModel", "readClause", "(I)I"⟩, 51) := ⟨⟨by decide +kernel, by decide +kernel⟩, List.mem_of_getElem? (i := 888) (by decide +kernel), List.mem_of_getElem? (i := 1204) (by decide +kernel), List.mem_of_getElem? (i := 1205) (by decide +kernel)⟩
theorem lw_p39 : lw_okq (⟨"WhenToSpeakModel", "readWord", "()V"⟩, 51) := ⟨⟨by decide +kernel, by decide +kernel⟩, List.mem_of_getElem? (i := 888) (by decide +kernel), List.mem_of_getElem? (i := 1208) (by decide +kernel), List.mem_of_getElem? (i := 1209) (by decide +kernel)⟩
theorem lw_p40 : lw_okq (⟨"WhenToSpeakModel", "fails", "(II)I"⟩, 51) := ⟨⟨by decide +kernel, by decide +kernel⟩, List.mem_of_getElem? (i := 888) (by decide +kernel), List.mem_of_getElem? (i := 1221) (by decide +kernel), List.mem_of_getElem? (i := 1222) (by decide +kernel)⟩
theorem lw_p41 : lw_okq (⟨"WhenToSpeakModel", "readNever", "(I)I"⟩, 51) := ⟨⟨by decide +kernel, by decide +kernel⟩, List.mem_of_getElem? (i := 888) (by decide +kernel), List.mem_of_getElem? (i := 1225) (by decide +kernel), List.mem_of_getElem? (i := 1226) (by decide +kernel)⟩
theorem lw_p42 : lw_okq (⟨"WhenToSpeakModel", "readWay", "(I)I"⟩, 51) := ⟨⟨by decide +kernel, by decide +kernel⟩, List.mem_of_getElem? (i := 888) (by decide +kernel), List.mem_of_getElem? (i := 1229) (by decide +kernel), List.mem_of_getElem? (i := 1230) (by decide +kernel)⟩
theorem lw_p43 : lw_okq (⟨"WhenToSpeakModel", "readNumber", "(II)I"⟩, 51) := ⟨⟨by decide +kernel, by decide +kernel⟩, List.mem_of_getElem? (i := 888) (by decide +kernel), List.mem_of_getElem? (i := 1233) (by decide +kernel), List.mem_of_getElem? (i := 1234) (by decide +kernel)⟩
theorem lw_p44 : lw_okq (⟨"WhenToSpeakModel", "needs", "(J)I"⟩, 51) := ⟨⟨by decide +kernel, by decide +kernel⟩, List.mem_of_getElem? (i := 888) (by decide +kernel), List.mem_of_getElem? (i := 1239) (by decide +kernel), List.mem_of_getElem? (i := 1240) (by decide +kernel)⟩
theorem lw_p45 : lw_okq (⟨"WhenToSpeakModel", "readMost", "(I)I"⟩, 51) := ⟨⟨by decide +kernel, by decide +kernel⟩, List.mem_of_getElem? (i := 888) (by decide +kernel), List.mem_of_getElem? (i := 1243) (by decide +kernel), List.mem_of_getElem? (i := 1244) (by decide +kernel)⟩
theorem lw_p46 : lw_okq (⟨"WhenToSpeakModel", "readAlways", "(I)I"⟩, 51) := ⟨⟨by decide +kernel, by decide +kernel⟩, List.mem_of_getElem? (i := 888) (by decide +kernel), List.mem_of_getElem? (i := 1247) (by decide +kernel), List.mem_of_getElem? (i := 1248) (by decide +kernel)⟩
theorem lw_p47 : lw_okq (⟨"WhenToSpeakModel", "areThings", "(I)Z"⟩, 51) := ⟨⟨by decide +kernel, by decide +kernel⟩, List.mem_of_getElem? (i := 888) (by decide +kernel), List.mem_of_getElem? (i := 1259) (by decide +kernel), List.mem_of_getElem? (i := 1260) (by decide +kernel)⟩
def lw_privs_3 : List (MethodName × Nat) := [(⟨"WhenToSpeakModel", "stateOf", "(I)I"⟩, 51), (⟨"WhenToSpeakModel", "isTold", "(I)Z"⟩, 51), (⟨"WhenToSpeakModel", "valueOf", "(III)I"⟩, 51), (⟨"WhenToSpeakModel", "lossOf", "(IIII)I"⟩, 51), (⟨"WhenToSpeakModel", "thingsThat", "(I)I"⟩, 51), (⟨"WhenToSpeakModel", "here", "()I"⟩, 51), (⟨"WhenToSpeakModel", "readClause", "(I)I"⟩, 51), (⟨"WhenToSpeakModel", "readWord", "()V"⟩, 51), (⟨"WhenToSpeakModel", "fails", "(II)I"⟩, 51), (⟨"WhenToSpeakModel", "readNever", "(I)I"⟩, 51), (⟨"WhenToSpeakModel", "readWay", "(I)I"⟩, 51), (⟨"WhenToSpeakModel", "readNumber", "(II)I"⟩, 51), (⟨"WhenToSpeakModel", "needs", "(J)I"⟩, 51), (⟨"WhenToSpeakModel", "readMost", "(I)I"⟩, 51), (⟨"WhenToSpeakModel", "readAlways", "(I)I"⟩, 51), (⟨"WhenToSpeakModel", "areThings", "(I)Z"⟩, 51)]
theorem lw_r3 : ∀ q ∈ lw_privs_3, lw_okq q := List.forall_mem_cons.mpr ⟨lw_p32, List.forall_mem_cons.mpr ⟨lw_p33, List.forall_mem_cons.mpr ⟨lw_p34, List.forall_mem_cons.mpr ⟨lw_p35, List.forall_mem_cons.mpr ⟨lw_p36, List.forall_mem_cons.mpr ⟨lw_p37, List.forall_mem_cons.mpr ⟨lw_p38, List.forall_mem_cons.mpr ⟨lw_p39, List.forall_mem_cons.mpr ⟨lw_p40, List.forall_mem_cons.mpr ⟨lw_p41, List.forall_mem_cons.mpr ⟨lw_p42, List.forall_mem_cons.mpr ⟨lw_p43, List.forall_mem_cons.mpr ⟨lw_p44, List.forall_mem_cons.mpr ⟨lw_p45, List.forall_mem_cons.mpr ⟨lw_p46, List.forall_mem_cons.mpr ⟨lw_p47, fun _ h => absurd h List.not_mem_nil⟩⟩⟩⟩⟩⟩⟩⟩⟩⟩⟩⟩⟩⟩⟩⟩
theorem lw_p48 : lw_okq (⟨"WhenToSpeakModel", "barring", "(IIIII)I"⟩, 51) := ⟨⟨by decide +kernel, by decide +kernel⟩, List.mem_of_getElem? (i := 888) (by decide +kernel), List.mem_of_getElem? (i := 1263) (by decide +kernel), List.mem_of_getElem? (i := 1264) (by decide +kernel)⟩
theorem lw_p49 : lw_okq (⟨"WhenToSpeakModel", "areAlways", "(II)Z"⟩, 51) := ⟨⟨by decide +kernel, by decide +kernel⟩, List.mem_of_getElem? (i := 888) (by decide +kernel), List.mem_of_getElem? (i := 1267) (by decide +kernel), List.mem_of_getElem? (i := 1268) (by decide +kernel)⟩
theorem lw_p50 : lw_okq (⟨"WhenToSpeakModel", "isAlways", "(II)Z"⟩, 51) := ⟨⟨by decide +kernel, by decide +kernel⟩, List.mem_of_getElem? (i := 888) (by decide +kernel), List.mem_of_getElem? (i := 1271) (by decide +kernel), List.mem_of_getElem? (i := 1272) (by decide +kernel)⟩
theorem lw_p51 : lw_okq (⟨"WhenToSpeakModel", "isWayBarred", "(III)Z"⟩, 51) := ⟨⟨by decide +kernel, by decide +kernel⟩, List.mem_of_getElem? (i := 888) (by decide +kernel), List.mem_of_getElem? (i := 1275) (by decide +kernel), List.mem_of_getElem? (i := 1276) (by decide +kernel)⟩
theorem lw_p52 : lw_okq (⟨"WhenToSpeakModel", "isKindBarred", "(III)Z"⟩, 51) := ⟨⟨by decide +kernel, by decide +kernel⟩, List.mem_of_getElem? (i := 888) (by decide +kernel), List.mem_of_getElem? (i := 1279) (by decide +kernel), List.mem_of_getElem? (i := 1280) (by decide +kernel)⟩
theorem lw_p53 : lw_okq (⟨"WhenToSpeakModel", "areMost", "(III)Z"⟩, 51) := ⟨⟨by decide +kernel, by decide +kernel⟩, List.mem_of_getElem? (i := 888) (by decide +kernel), List.mem_of_getElem? (i := 1283) (by decide +kernel), List.mem_of_getElem? (i := 1284) (by decide +kernel)⟩
theorem lw_p54 : lw_okq (⟨"WhenToSpeakModel", "findPlans", "(II)V"⟩, 51) := ⟨⟨by decide +kernel, by decide +kernel⟩, List.mem_of_getElem? (i := 888) (by decide +kernel), List.mem_of_getElem? (i := 1292) (by decide +kernel), List.mem_of_getElem? (i := 1293) (by decide +kernel)⟩
theorem lw_p55 : lw_okq (⟨"WhenToSpeakModel", "findGain", "(III)V"⟩, 51) := ⟨⟨by decide +kernel, by decide +kernel⟩, List.mem_of_getElem? (i := 888) (by decide +kernel), List.mem_of_getElem? (i := 1296) (by decide +kernel), List.mem_of_getElem? (i := 1297) (by decide +kernel)⟩
theorem lw_p56 : lw_okq (⟨"WhenToSpeakModel", "setOf", "(I)I"⟩, 51) := ⟨⟨by decide +kernel, by decide +kernel⟩, List.mem_of_getElem? (i := 888) (by decide +kernel), List.mem_of_getElem? (i := 1300) (by decide +kernel), List.mem_of_getElem? (i := 1301) (by decide +kernel)⟩
theorem lw_p57 : lw_okq (⟨"WhenToSpeakModel", "isOneMatter", "(I)Z"⟩, 51) := ⟨⟨by decide +kernel, by decide +kernel⟩, List.mem_of_getElem? (i := 888) (by decide +kernel), List.mem_of_getElem? (i := 1305) (by decide +kernel), List.mem_of_getElem? (i := 1306) (by decide +kernel)⟩
theorem lw_p58 : lw_okq (⟨"WhenToSpeakModel", "isMust", "(I)Z"⟩, 51) := ⟨⟨by decide +kernel, by decide +kernel⟩, List.mem_of_getElem? (i := 888) (by decide +kernel), List.mem_of_getElem? (i := 1309) (by decide +kernel), List.mem_of_getElem? (i := 1310) (by decide +kernel)⟩
theorem lw_p59 : lw_okq (⟨"WhenToSpeakModel", "by", "(IIIII)I"⟩, 51) := ⟨⟨by decide +kernel, by decide +kernel⟩, List.mem_of_getElem? (i := 888) (by decide +kernel), List.mem_of_getElem? (i := 1316) (by decide +kernel), List.mem_of_getElem? (i := 1317) (by decide +kernel)⟩
theorem lw_p60 : lw_okq (⟨"WhenToSpeakModel", "deadOf", "(I)I"⟩, 51) := ⟨⟨by decide +kernel, by decide +kernel⟩, List.mem_of_getElem? (i := 888) (by decide +kernel), List.mem_of_getElem? (i := 1324) (by decide +kernel), List.mem_of_getElem? (i := 1325) (by decide +kernel)⟩
theorem lw_p61 : lw_okq (⟨"WhenToSpeakModel", "areFor", "(II)Z"⟩, 51) := ⟨⟨by decide +kernel, by decide +kernel⟩, List.mem_of_getElem? (i := 888) (by decide +kernel), List.mem_of_getElem? (i := 1328) (by decide +kernel), List.mem_of_getElem? (i := 1329) (by decide +kernel)⟩
theorem lw_p62 : lw_okq (⟨"WhenToSpeakModel", "isSaying", "(I)Z"⟩, 51) := ⟨⟨by decide +kernel, by decide +kernel⟩, List.mem_of_getElem? (i := 888) (by decide +kernel), List.mem_of_getElem? (i := 1336) (by decide +kernel), List.mem_of_getElem? (i := 1337) (by decide +kernel)⟩
theorem lw_p63 : lw_okq (⟨"WhenToSpeakModel", "cameOf", "(IZ)I"⟩, 51) := ⟨⟨by decide +kernel, by decide +kernel⟩, List.mem_of_getElem? (i := 888) (by decide +kernel), List.mem_of_getElem? (i := 1348) (by decide +kernel), List.mem_of_getElem? (i := 1349) (by decide +kernel)⟩
def lw_privs_4 : List (MethodName × Nat) := [(⟨"WhenToSpeakModel", "barring", "(IIIII)I"⟩, 51), (⟨"WhenToSpeakModel", "areAlways", "(II)Z"⟩, 51), (⟨"WhenToSpeakModel", "isAlways", "(II)Z"⟩, 51), (⟨"WhenToSpeakModel", "isWayBarred", "(III)Z"⟩, 51), (⟨"WhenToSpeakModel", "isKindBarred", "(III)Z"⟩, 51), (⟨"WhenToSpeakModel", "areMost", "(III)Z"⟩, 51), (⟨"WhenToSpeakModel", "findPlans", "(II)V"⟩, 51), (⟨"WhenToSpeakModel", "findGain", "(III)V"⟩, 51), (⟨"WhenToSpeakModel", "setOf", "(I)I"⟩, 51), (⟨"WhenToSpeakModel", "isOneMatter", "(I)Z"⟩, 51), (⟨"WhenToSpeakModel", "isMust", "(I)Z"⟩, 51), (⟨"WhenToSpeakModel", "by", "(IIIII)I"⟩, 51), (⟨"WhenToSpeakModel", "deadOf", "(I)I"⟩, 51), (⟨"WhenToSpeakModel", "areFor", "(II)Z"⟩, 51), (⟨"WhenToSpeakModel", "isSaying", "(I)Z"⟩, 51), (⟨"WhenToSpeakModel", "cameOf", "(IZ)I"⟩, 51)]
theorem lw_r4 : ∀ q ∈ lw_privs_4, lw_okq q := List.forall_mem_cons.mpr ⟨lw_p48, List.forall_mem_cons.mpr ⟨lw_p49, List.forall_mem_cons.mpr ⟨lw_p50, List.forall_mem_cons.mpr ⟨lw_p51, List.forall_mem_cons.mpr ⟨lw_p52, List.forall_mem_cons.mpr ⟨lw_p53, List.forall_mem_cons.mpr ⟨lw_p54, List.forall_mem_cons.mpr ⟨lw_p55, List.forall_mem_cons.mpr ⟨lw_p56, List.forall_mem_cons.mpr ⟨lw_p57, List.forall_mem_cons.mpr ⟨lw_p58, List.forall_mem_cons.mpr ⟨lw_p59, List.forall_mem_cons.mpr ⟨lw_p60, List.forall_mem_cons.mpr ⟨lw_p61, List.forall_mem_cons.mpr ⟨lw_p62, List.forall_mem_cons.mpr ⟨lw_p63, fun _ h => absurd h List.not_mem_nil⟩⟩⟩⟩⟩⟩⟩⟩⟩⟩⟩⟩⟩⟩⟩⟩
def lw_privs : List (MethodName × Nat) := lw_privs_1 ++ (lw_privs_2 ++ (lw_privs_3 ++ (lw_privs_4)))
def lw_tbl : List Cond := k2_sels lw_privs ++ tables_1
theorem lw_privs_ok : ∀ q ∈ lw_privs, lw_okq q := by
  show ∀ q ∈ lw_privs_1 ++ (lw_privs_2 ++ (lw_privs_3 ++ (lw_privs_4))), lw_okq q
  exact List.forall_mem_append.mpr ⟨lw_r1, List.forall_mem_append.mpr ⟨lw_r2, List.forall_mem_append.mpr ⟨lw_r3, lw_r4⟩⟩⟩
def RX0 : String := "WhenToSpeak$Book"
def TX0 : u_T := fun k => match k with
  | 0 => ("WhenToSpeak$Book", "things", "[LWhenToSpeak$Thing;", true)
  | 1 => ("WhenToSpeak$Book", "sayings", "[LWhenToSpeak$Saying;", true)
  | 2 => ("WhenToSpeak$Book", "thingCount", "I", false)
  | _ => ("WhenToSpeak$Book", "sayingCount", "I", false)
def tyX0 : Nat → FieldType := fun k => match k with
  | 0 => .array (.object "WhenToSpeak$Thing")
  | 1 => .array (.object "WhenToSpeak$Saying")
  | 2 => .int
  | _ => .int
abbrev wsX00 : List Cond := u_ws RX0 TX0 4
theorem nmX0 : ∀ a, a < 4 → ∀ b, b < 4 → a ≠ b → (TX0 a).2.1 ≠ (TX0 b).2.1 := by decide +kernel
theorem tyX0_ok : ∀ k, k < 4 → parseFieldDescriptor (TX0 k).2.2.1 = some (tyX0 k) := by decide +kernel
abbrev cX0_init : ByteArray := prog_2_method_1_code
def yX0_init : MethodName := ⟨RX0, "<init>", "()V"⟩
abbrev cX0_hasThing : ByteArray := prog_2_method_2_code
def yX0_hasThing : MethodName := ⟨RX0, "hasThing", "(I)Z"⟩
abbrev cX0_hasThings : ByteArray := prog_2_method_3_code
def yX0_hasThings : MethodName := ⟨RX0, "hasThings", "(I)Z"⟩
abbrev cX0_hasSaying : ByteArray := prog_2_method_4_code
def yX0_hasSaying : MethodName := ⟨RX0, "hasSaying", "(I)Z"⟩
abbrev cX0_standing : ByteArray := prog_2_method_5_code
def yX0_standing : MethodName := ⟨RX0, "standing", "(II)I"⟩
abbrev cX0_thingsThatAre : ByteArray := prog_2_method_6_code
def yX0_thingsThatAre : MethodName := ⟨RX0, "thingsThatAre", "(II)I"⟩
abbrev cX0_isTold : ByteArray := prog_2_method_7_code
def yX0_isTold : MethodName := ⟨RX0, "isTold", "(I)Z"⟩
abbrev cX0_sayingsWith : ByteArray := prog_2_method_8_code
def yX0_sayingsWith : MethodName := ⟨RX0, "sayingsWith", "(I)I"⟩
abbrev cX0_personsWith : ByteArray := prog_2_method_9_code
def yX0_personsWith : MethodName := ⟨RX0, "personsWith", "(I)I"⟩
abbrev cX0_deadThings : ByteArray := prog_2_method_10_code
def yX0_deadThings : MethodName := ⟨RX0, "deadThings", "()I"⟩
abbrev cX0_canBeSaid : ByteArray := prog_2_method_11_code
def yX0_canBeSaid : MethodName := ⟨RX0, "canBeSaid", "(II)Z"⟩
abbrev cX0_countSaid : ByteArray := prog_2_method_12_code
def yX0_countSaid : MethodName := ⟨RX0, "countSaid", "(I[I)V"⟩
abbrev cX0_outcomesBy : ByteArray := prog_2_method_13_code
def yX0_outcomesBy : MethodName := ⟨RX0, "outcomesBy", "(I)I"⟩
abbrev cX0_lookedAtBy : ByteArray := prog_2_method_14_code
def yX0_lookedAtBy : MethodName := ⟨RX0, "lookedAtBy", "(I)I"⟩
def RX1 : String := "WhenToSpeak$Gate"
def TX1 : u_T := fun k => match k with
  | 0 => ("WhenToSpeak$Gate", "alwaysThings", "I", false)
  | 1 => ("WhenToSpeak$Gate", "kindThings", "I", false)
  | _ => ("WhenToSpeak$Gate", "ways", "I", false)
def tyX1 : Nat → FieldType := fun k => match k with
  | 0 => .int
  | 1 => .int
  | _ => .int
abbrev wsX10 : List Cond := u_ws RX1 TX1 3
theorem nmX1 : ∀ a, a < 3 → ∀ b, b < 3 → a ≠ b → (TX1 a).2.1 ≠ (TX1 b).2.1 := by decide +kernel
theorem tyX1_ok : ∀ k, k < 3 → parseFieldDescriptor (TX1 k).2.2.1 = some (tyX1 k) := by decide +kernel
abbrev cX1_init : ByteArray := prog_3_method_1_code
def yX1_init : MethodName := ⟨RX1, "<init>", "()V"⟩
abbrev cX1_open : ByteArray := prog_3_method_2_code
def yX1_open : MethodName := ⟨RX1, "open", "(LWhenToSpeak$Laws;LWhenToSpeak$Book;I[I)V"⟩
abbrev cX1_bar : ByteArray := prog_3_method_3_code
def yX1_bar : MethodName := ⟨RX1, "bar", "(IIZ)I"⟩
abbrev cX1_isAlways : ByteArray := prog_3_method_4_code
def yX1_isAlways : MethodName := ⟨RX1, "isAlways", "(I)Z"⟩
def RX2 : String := "WhenToSpeak$LawText"
def TX2 : u_T := fun k => match k with
  | 0 => ("WhenToSpeak$LawText", "length", "I", false)
  | 1 => ("WhenToSpeak$LawText", "faultKind", "I", false)
  | 2 => ("WhenToSpeak$LawText", "faultAt", "I", false)
  | 3 => ("WhenToSpeak$LawText", "bytes", "[I", true)
  | _ => ("WhenToSpeak$LawText", "at", "I", false)
def tyX2 : Nat → FieldType := fun k => match k with
  | 0 => .int
  | 1 => .int
  | 2 => .int
  | 3 => .array .int
  | _ => .int
abbrev wsX20 : List Cond := u_ws RX2 TX2 5
theorem nmX2 : ∀ a, a < 5 → ∀ b, b < 5 → a ≠ b → (TX2 a).2.1 ≠ (TX2 b).2.1 := by decide +kernel
theorem tyX2_ok : ∀ k, k < 5 → parseFieldDescriptor (TX2 k).2.2.1 = some (tyX2 k) := by decide +kernel
abbrev cX2_init : ByteArray := prog_4_method_1_code
def yX2_init : MethodName := ⟨RX2, "<init>", "()V"⟩
abbrev cX2_append : ByteArray := prog_4_method_2_code
def yX2_append : MethodName := ⟨RX2, "append", "(I)V"⟩
abbrev cX2_parse : ByteArray := prog_4_method_3_code
def yX2_parse : MethodName := ⟨RX2, "parse", "(LWhenToSpeak$Laws;)V"⟩
abbrev cX2_readClause : ByteArray := prog_4_method_4_code
def yX2_readClause : MethodName := ⟨RX2, "readClause", "(LWhenToSpeak$Laws;)V"⟩
abbrev cX2_readNever : ByteArray := prog_4_method_5_code
def yX2_readNever : MethodName := ⟨RX2, "readNever", "(LWhenToSpeak$Laws;)V"⟩
abbrev cX2_refuseNinth : ByteArray := prog_4_method_6_code
def yX2_refuseNinth : MethodName := ⟨RX2, "refuseNinth", "(LWhenToSpeak$Laws;I)V"⟩
abbrev cX2_finish : ByteArray := prog_4_method_7_code
def yX2_finish : MethodName := ⟨RX2, "finish", "(LWhenToSpeak$Laws;IIII)V"⟩
abbrev cX2_note : ByteArray := prog_4_method_8_code
def yX2_note : MethodName := ⟨RX2, "note", "(II)V"⟩
abbrev cX2_skipBlanks : ByteArray := prog_4_method_9_code
def yX2_skipBlanks : MethodName := ⟨RX2, "skipBlanks", "()V"⟩
abbrev cX2_needWord : ByteArray := prog_4_method_10_code
def yX2_needWord : MethodName := ⟨RX2, "needWord", "(Ljava/lang/String;)V"⟩
abbrev cX2_takeWord : ByteArray := prog_4_method_11_code
def yX2_takeWord : MethodName := ⟨RX2, "takeWord", "(Ljava/lang/String;)Z"⟩
abbrev cX2_takeNumber : ByteArray := prog_4_method_12_code
def yX2_takeNumber : MethodName := ⟨RX2, "takeNumber", "(II)I"⟩
def RX3 : String := "WhenToSpeak$Laws"
def TX3 : u_T := fun k => match k with
  | 0 => ("WhenToSpeak$Laws", "count", "I", false)
  | 1 => ("WhenToSpeak$Laws", "sorts", "[I", true)
  | 2 => ("WhenToSpeak$Laws", "firsts", "[I", true)
  | 3 => ("WhenToSpeak$Laws", "seconds", "[I", true)
  | _ => ("WhenToSpeak$Laws", "thirds", "[I", true)
def tyX3 : Nat → FieldType := fun k => match k with
  | 0 => .int
  | 1 => .array .int
  | 2 => .array .int
  | 3 => .array .int
  | _ => .array .int
abbrev wsX30 : List Cond := u_ws RX3 TX3 5
theorem nmX3 : ∀ a, a < 5 → ∀ b, b < 5 → a ≠ b → (TX3 a).2.1 ≠ (TX3 b).2.1 := by decide +kernel
theorem tyX3_ok : ∀ k, k < 5 → parseFieldDescriptor (TX3 k).2.2.1 = some (tyX3 k) := by decide +kernel
abbrev cX3_init : ByteArray := prog_5_method_1_code
def yX3_init : MethodName := ⟨RX3, "<init>", "()V"⟩
abbrev cX3_add : ByteArray := prog_5_method_2_code
def yX3_add : MethodName := ⟨RX3, "add", "(IIII)V"⟩
abbrev cX3_barredWays : ByteArray := prog_5_method_3_code
def yX3_barredWays : MethodName := ⟨RX3, "barredWays", "([I)I"⟩
abbrev cX3_isLikely : ByteArray := prog_5_method_4_code
def yX3_isLikely : MethodName := ⟨RX3, "isLikely", "(I[I)Z"⟩
abbrev cX3_barredKinds : ByteArray := prog_5_method_5_code
def yX3_barredKinds : MethodName := ⟨RX3, "barredKinds", "(I)I"⟩
abbrev cX3_alwaysFrom : ByteArray := prog_5_method_6_code
def yX3_alwaysFrom : MethodName := ⟨RX3, "alwaysFrom", "()I"⟩
abbrev cX3_countsSayings : ByteArray := prog_5_method_7_code
def yX3_countsSayings : MethodName := ⟨RX3, "countsSayings", "()Z"⟩
abbrev cX3_mostBars : ByteArray := prog_5_method_8_code
def yX3_mostBars : MethodName := ⟨RX3, "mostBars", "([II)Z"⟩
abbrev cX3_saidWithin : ByteArray := prog_5_method_9_code
def yX3_saidWithin : MethodName := ⟨RX3, "saidWithin", "([III)I"⟩
def RX4 : String := "WhenToSpeak$Planner"
def TX4 : u_T := fun k => match k with
  | 0 => ("WhenToSpeak$Planner", "most", "I", false)
  | 1 => ("WhenToSpeak$Planner", "stepSets", "[I", true)
  | 2 => ("WhenToSpeak$Planner", "stepWays", "[I", true)
  | 3 => ("WhenToSpeak$Planner", "work", "LWhenToSpeak$Work;", true)
  | 4 => ("WhenToSpeak$Planner", "ways", "LWhenToSpeak$Ways;", true)
  | 5 => ("WhenToSpeak$Planner", "book", "LWhenToSpeak$Book;", true)
  | 6 => ("WhenToSpeak$Planner", "gate", "LWhenToSpeak$Gate;", true)
  | 7 => ("WhenToSpeak$Planner", "picks", "[I", true)
  | 8 => ("WhenToSpeak$Planner", "realSets", "[I", true)
  | 9 => ("WhenToSpeak$Planner", "matters", "[I", true)
  | 10 => ("WhenToSpeak$Planner", "values", "[I", true)
  | 11 => ("WhenToSpeak$Planner", "losses", "[I", true)
  | 12 => ("WhenToSpeak$Planner", "gains", "[I", true)
  | 13 => ("WhenToSpeak$Planner", "gainWays", "[I", true)
  | 14 => ("WhenToSpeak$Planner", "totals", "[I", true)
  | 15 => ("WhenToSpeak$Planner", "saidIn", "[I", true)
  | 16 => ("WhenToSpeak$Planner", "pickCount", "I", false)
  | 17 => ("WhenToSpeak$Planner", "steps", "I", false)
  | _ => ("WhenToSpeak$Planner", "counting", "Z", false)
def tyX4 : Nat → FieldType := fun k => match k with
  | 0 => .int
  | 1 => .array .int
  | 2 => .array .int
  | 3 => .object "WhenToSpeak$Work"
  | 4 => .object "WhenToSpeak$Ways"
  | 5 => .object "WhenToSpeak$Book"
  | 6 => .object "WhenToSpeak$Gate"
  | 7 => .array .int
  | 8 => .array .int
  | 9 => .array .int
  | 10 => .array .int
  | 11 => .array .int
  | 12 => .array .int
  | 13 => .array .int
  | 14 => .array .int
  | 15 => .array .int
  | 16 => .int
  | 17 => .int
  | _ => .boolean
abbrev wsX40 : List Cond := u_ws RX4 TX4 19
theorem nmX4 : ∀ a, a < 19 → ∀ b, b < 19 → a ≠ b → (TX4 a).2.1 ≠ (TX4 b).2.1 := by decide +kernel
theorem tyX4_ok : ∀ k, k < 19 → parseFieldDescriptor (TX4 k).2.2.1 = some (tyX4 k) := by decide +kernel
abbrev cX4_init : ByteArray := prog_6_method_1_code
def yX4_init : MethodName := ⟨RX4, "<init>", "(LWhenToSpeak$Work;LWhenToSpeak$Ways;LWhenToSpeak$Book;)V"⟩
abbrev cX4_make : ByteArray := prog_6_method_2_code
def yX4_make : MethodName := ⟨RX4, "make", "(IIILWhenToSpeak$Laws;)V"⟩
abbrev cX4_pick : ByteArray := prog_6_method_3_code
def yX4_pick : MethodName := ⟨RX4, "pick", "(II)V"⟩
abbrev cX4_price : ByteArray := prog_6_method_4_code
def yX4_price : MethodName := ⟨RX4, "price", "(IILWhenToSpeak$Laws;)V"⟩
abbrev cX4_priceSet : ByteArray := prog_6_method_5_code
def yX4_priceSet : MethodName := ⟨RX4, "priceSet", "(II)V"⟩
abbrev cX4_mostBarsAt : ByteArray := prog_6_method_6_code
def yX4_mostBarsAt : MethodName := ⟨RX4, "mostBarsAt", "(IIIILWhenToSpeak$Laws;)Z"⟩
abbrev cX4_decide : ByteArray := prog_6_method_7_code
def yX4_decide : MethodName := ⟨RX4, "decide", "(IIIZ)I"⟩
abbrev cX4_nodeBehind : ByteArray := prog_6_method_8_code
def yX4_nodeBehind : MethodName := ⟨RX4, "nodeBehind", "(IZ)I"⟩
abbrev cX4_total : ByteArray := prog_6_method_9_code
def yX4_total : MethodName := ⟨RX4, "total", "(II)I"⟩
abbrev cX4_tell : ByteArray := prog_6_method_10_code
def yX4_tell : MethodName := ⟨RX4, "tell", "(IILWhenToSpeak$Laws;)V"⟩
def RX5 : String := "WhenToSpeak$Saying"
def TX5 : u_T := fun k => match k with
  | 0 => ("WhenToSpeak$Saying", "person", "I", false)
  | 1 => ("WhenToSpeak$Saying", "set", "I", false)
  | 2 => ("WhenToSpeak$Saying", "way", "I", false)
  | 3 => ("WhenToSpeak$Saying", "tick", "I", false)
  | _ => ("WhenToSpeak$Saying", "outcome", "I", false)
def tyX5 : Nat → FieldType := fun k => match k with
  | 0 => .int
  | 1 => .int
  | 2 => .int
  | 3 => .int
  | _ => .int
abbrev wsX50 : List Cond := u_ws RX5 TX5 5
theorem nmX5 : ∀ a, a < 5 → ∀ b, b < 5 → a ≠ b → (TX5 a).2.1 ≠ (TX5 b).2.1 := by decide +kernel
theorem tyX5_ok : ∀ k, k < 5 → parseFieldDescriptor (TX5 k).2.2.1 = some (tyX5 k) := by decide +kernel
abbrev cX5_init : ByteArray := prog_7_method_1_code
def yX5_init : MethodName := ⟨RX5, "<init>", "()V"⟩
def RX6 : String := "WhenToSpeak$Thing"
def TX6 : u_T := fun k => match k with
  | 0 => ("WhenToSpeak$Thing", "persons", "I", false)
  | 1 => ("WhenToSpeak$Thing", "kind", "I", false)
  | 2 => ("WhenToSpeak$Thing", "matter", "I", false)
  | 3 => ("WhenToSpeak$Thing", "from", "I", false)
  | 4 => ("WhenToSpeak$Thing", "worth", "I", false)
  | 5 => ("WhenToSpeak$Thing", "less", "I", false)
  | 6 => ("WhenToSpeak$Thing", "clock", "I", false)
  | 7 => ("WhenToSpeak$Thing", "tick", "I", false)
  | _ => ("WhenToSpeak$Thing", "takenBack", "Z", false)
def tyX6 : Nat → FieldType := fun k => match k with
  | 0 => .int
  | 1 => .int
  | 2 => .int
  | 3 => .int
  | 4 => .int
  | 5 => .int
  | 6 => .int
  | 7 => .int
  | _ => .boolean
abbrev wsX60 : List Cond := u_ws RX6 TX6 9
theorem nmX6 : ∀ a, a < 9 → ∀ b, b < 9 → a ≠ b → (TX6 a).2.1 ≠ (TX6 b).2.1 := by decide +kernel
theorem tyX6_ok : ∀ k, k < 9 → parseFieldDescriptor (TX6 k).2.2.1 = some (tyX6 k) := by decide +kernel
abbrev cX6_init : ByteArray := prog_8_method_1_code
def yX6_init : MethodName := ⟨RX6, "<init>", "()V"⟩
abbrev cX6_valueIn : ByteArray := prog_8_method_2_code
def yX6_valueIn : MethodName := ⟨RX6, "valueIn", "(II)I"⟩
abbrev cX6_planValueIn : ByteArray := prog_8_method_3_code
def yX6_planValueIn : MethodName := ⟨RX6, "planValueIn", "(II)I"⟩
abbrev cX6_isMust : ByteArray := prog_8_method_4_code
def yX6_isMust : MethodName := ⟨RX6, "isMust", "()Z"⟩
def RX7 : String := "WhenToSpeak$Trial"
def TX7 : u_T := fun k => match k with
  | 0 => ("WhenToSpeak$Trial", "late", "I", false)
  | 1 => ("WhenToSpeak$Trial", "waited", "I", false)
  | 2 => ("WhenToSpeak$Trial", "paid", "I", false)
  | 3 => ("WhenToSpeak$Trial", "said", "I", false)
  | 4 => ("WhenToSpeak$Trial", "work", "LWhenToSpeak$Work;", true)
  | 5 => ("WhenToSpeak$Trial", "ways", "LWhenToSpeak$Ways;", true)
  | 6 => ("WhenToSpeak$Trial", "book", "LWhenToSpeak$Book;", true)
  | _ => ("WhenToSpeak$Trial", "done", "I", false)
def tyX7 : Nat → FieldType := fun k => match k with
  | 0 => .int
  | 1 => .int
  | 2 => .int
  | 3 => .int
  | 4 => .object "WhenToSpeak$Work"
  | 5 => .object "WhenToSpeak$Ways"
  | 6 => .object "WhenToSpeak$Book"
  | _ => .int
abbrev wsX70 : List Cond := u_ws RX7 TX7 8
theorem nmX7 : ∀ a, a < 8 → ∀ b, b < 8 → a ≠ b → (TX7 a).2.1 ≠ (TX7 b).2.1 := by decide +kernel
theorem tyX7_ok : ∀ k, k < 8 → parseFieldDescriptor (TX7 k).2.2.1 = some (tyX7 k) := by decide +kernel
abbrev cX7_init : ByteArray := prog_9_method_1_code
def yX7_init : MethodName := ⟨RX7, "<init>", "(LWhenToSpeak$Work;LWhenToSpeak$Ways;LWhenToSpeak$Book;)V"⟩
abbrev cX7_run : ByteArray := prog_9_method_2_code
def yX7_run : MethodName := ⟨RX7, "run", "(IIII)V"⟩
abbrev cX7_sayIn : ByteArray := prog_9_method_3_code
def yX7_sayIn : MethodName := ⟨RX7, "sayIn", "(IIZ)V"⟩
abbrev cX7_isLeft : ByteArray := prog_9_method_4_code
def yX7_isLeft : MethodName := ⟨RX7, "isLeft", "(II)Z"⟩
def RX8 : String := "WhenToSpeak$Ways"
def TX8 : u_T := fun k => match k with
  | 0 => ("WhenToSpeak$Ways", "costs", "[[I", true)
  | _ => ("WhenToSpeak$Ways", "seenOdds", "[I", true)
def tyX8 : Nat → FieldType := fun k => match k with
  | 0 => .array (.array .int)
  | _ => .array .int
abbrev wsX80 : List Cond := u_ws RX8 TX8 2
theorem nmX8 : ∀ a, a < 2 → ∀ b, b < 2 → a ≠ b → (TX8 a).2.1 ≠ (TX8 b).2.1 := by decide +kernel
theorem tyX8_ok : ∀ k, k < 2 → parseFieldDescriptor (TX8 k).2.2.1 = some (tyX8 k) := by decide +kernel
abbrev cX8_init : ByteArray := prog_10_method_1_code
def yX8_init : MethodName := ⟨RX8, "<init>", "()V"⟩
abbrev cX8_lossBy : ByteArray := prog_10_method_2_code
def yX8_lossBy : MethodName := ⟨RX8, "lossBy", "(I[I)I"⟩
def RX9 : String := "WhenToSpeak$Work"
def TX9 : u_T := fun k => match k with
  | 0 => ("WhenToSpeak$Work", "next", "[[I", true)
  | 1 => ("WhenToSpeak$Work", "shown", "[[I", true)
  | 2 => ("WhenToSpeak$Work", "first", "[I", true)
  | 3 => ("WhenToSpeak$Work", "signs", "[[I", true)
  | 4 => ("WhenToSpeak$Work", "ahead", "[[I", true)
  | 5 => ("WhenToSpeak$Work", "seamStates", "I", false)
  | 6 => ("WhenToSpeak$Work", "weights", "[J", false)
  | _ => ("WhenToSpeak$Work", "laterWeights", "[J", false)
def tyX9 : Nat → FieldType := fun k => match k with
  | 0 => .array (.array .int)
  | 1 => .array (.array .int)
  | 2 => .array .int
  | 3 => .array (.array .int)
  | 4 => .array (.array .int)
  | 5 => .int
  | 6 => .array .long
  | _ => .array .long
abbrev wsX90 : List Cond := u_ws RX9 TX9 8
theorem nmX9 : ∀ a, a < 8 → ∀ b, b < 8 → a ≠ b → (TX9 a).2.1 ≠ (TX9 b).2.1 := by decide +kernel
theorem tyX9_ok : ∀ k, k < 8 → parseFieldDescriptor (TX9 k).2.2.1 = some (tyX9 k) := by decide +kernel
abbrev cX9_init : ByteArray := prog_11_method_1_code
def yX9_init : MethodName := ⟨RX9, "<init>", "()V"⟩
abbrev cX9_fittingRows : ByteArray := prog_11_method_2_code
def yX9_fittingRows : MethodName := ⟨RX9, "fittingRows", "(II)I"⟩
abbrev cX9_lookAhead : ByteArray := prog_11_method_3_code
def yX9_lookAhead : MethodName := ⟨RX9, "lookAhead", "(III)V"⟩
abbrev cX9_seamOdds : ByteArray := prog_11_method_4_code
def yX9_seamOdds : MethodName := ⟨RX9, "seamOdds", "(I)I"⟩
abbrev cX9_moveOn : ByteArray := prog_11_method_5_code
def yX9_moveOn : MethodName := ⟨RX9, "moveOn", "([I[I)V"⟩
abbrev cX9_weigh : ByteArray := prog_11_method_6_code
def yX9_weigh : MethodName := ⟨RX9, "weigh", "(IIZ)V"⟩
abbrev cX9_signFactor : ByteArray := prog_11_method_7_code
def yX9_signFactor : MethodName := ⟨RX9, "signFactor", "(IIZ)J"⟩
abbrev cX9_factor : ByteArray := prog_11_method_8_code
def yX9_factor : MethodName := ⟨RX9, "factor", "(IZ)J"⟩
abbrev cX9_allWeights : ByteArray := prog_11_method_9_code
def yX9_allWeights : MethodName := ⟨RX9, "allWeights", "()J"⟩
def RX10 : String := "WhenToSpeak"
def TX10 : u_T := fun k => match k with
  | 0 => ("WhenToSpeak", "work", "LWhenToSpeak$Work;", true)
  | 1 => ("WhenToSpeak", "ways", "LWhenToSpeak$Ways;", true)
  | 2 => ("WhenToSpeak", "book", "LWhenToSpeak$Book;", true)
  | 3 => ("WhenToSpeak", "lawText", "LWhenToSpeak$LawText;", true)
  | 4 => ("WhenToSpeak", "lawsOf", "[LWhenToSpeak$Laws;", true)
  | 5 => ("WhenToSpeak", "gate", "LWhenToSpeak$Gate;", true)
  | 6 => ("WhenToSpeak", "planner", "LWhenToSpeak$Planner;", true)
  | 7 => ("WhenToSpeak", "trial", "LWhenToSpeak$Trial;", true)
  | 8 => ("WhenToSpeak", "saidIn", "[I", true)
  | 9 => ("WhenToSpeak", "spareLaws", "LWhenToSpeak$Laws;", false)
  | _ => ("WhenToSpeak", "now", "I", false)
def tyX10 : Nat → FieldType := fun k => match k with
  | 0 => .object "WhenToSpeak$Work"
  | 1 => .object "WhenToSpeak$Ways"
  | 2 => .object "WhenToSpeak$Book"
  | 3 => .object "WhenToSpeak$LawText"
  | 4 => .array (.object "WhenToSpeak$Laws")
  | 5 => .object "WhenToSpeak$Gate"
  | 6 => .object "WhenToSpeak$Planner"
  | 7 => .object "WhenToSpeak$Trial"
  | 8 => .array .int
  | 9 => .object "WhenToSpeak$Laws"
  | _ => .int
abbrev wsX100 : List Cond := u_ws RX10 TX10 11
theorem nmX10 : ∀ a, a < 11 → ∀ b, b < 11 → a ≠ b → (TX10 a).2.1 ≠ (TX10 b).2.1 := by decide +kernel
theorem tyX10_ok : ∀ k, k < 11 → parseFieldDescriptor (TX10 k).2.2.1 = some (tyX10 k) := by decide +kernel
abbrev cX10_init : ByteArray := prog_1_method_1_code
def yX10_init : MethodName := ⟨RX10, "<init>", "()V"⟩
abbrev cX10_move : ByteArray := prog_1_method_2_code
def yX10_move : MethodName := ⟨RX10, "move", "(III)I"⟩
abbrev cX10_shows : ByteArray := prog_1_method_3_code
def yX10_shows : MethodName := ⟨RX10, "shows", "(III)I"⟩
abbrev cX10_begins : ByteArray := prog_1_method_4_code
def yX10_begins : MethodName := ⟨RX10, "begins", "(II)I"⟩
abbrev cX10_seams : ByteArray := prog_1_method_5_code
def yX10_seams : MethodName := ⟨RX10, "seams", "(I)I"⟩
abbrev cX10_sign : ByteArray := prog_1_method_6_code
def yX10_sign : MethodName := ⟨RX10, "sign", "(II)I"⟩
abbrev cX10_go : ByteArray := prog_1_method_7_code
def yX10_go : MethodName := ⟨RX10, "go", "(I)I"⟩
abbrev cX10_fits : ByteArray := prog_1_method_8_code
def yX10_fits : MethodName := ⟨RX10, "fits", "(II)I"⟩
abbrev cX10_odds : ByteArray := prog_1_method_9_code
def yX10_odds : MethodName := ⟨RX10, "odds", "(III)I"⟩
abbrev cX10_seam : ByteArray := prog_1_method_10_code
def yX10_seam : MethodName := ⟨RX10, "seam", "(II)I"⟩
abbrev cX10_until : ByteArray := prog_1_method_11_code
def yX10_until : MethodName := ⟨RX10, "until", "(II)I"⟩
abbrev cX10_thing : ByteArray := prog_1_method_12_code
def yX10_thing : MethodName := ⟨RX10, "thing", "(IIIIIII)I"⟩
abbrev cX10_dead : ByteArray := prog_1_method_13_code
def yX10_dead : MethodName := ⟨RX10, "dead", "(I)I"⟩
abbrev cX10_told : ByteArray := prog_1_method_14_code
def yX10_told : MethodName := ⟨RX10, "told", "(II)I"⟩
abbrev cX10_value : ByteArray := prog_1_method_15_code
def yX10_value : MethodName := ⟨RX10, "value", "(III)I"⟩
abbrev cX10_cost : ByteArray := prog_1_method_16_code
def yX10_cost : MethodName := ⟨RX10, "cost", "(III)I"⟩
abbrev cX10_seen : ByteArray := prog_1_method_17_code
def yX10_seen : MethodName := ⟨RX10, "seen", "(II)I"⟩
abbrev cX10_loss : ByteArray := prog_1_method_18_code
def yX10_loss : MethodName := ⟨RX10, "loss", "(III)I"⟩
abbrev cX10_count : ByteArray := prog_1_method_19_code
def yX10_count : MethodName := ⟨RX10, "count", "(I)I"⟩
abbrev cX10_feed : ByteArray := prog_1_method_20_code
def yX10_feed : MethodName := ⟨RX10, "feed", "(IJ)I"⟩
abbrev cX10_read : ByteArray := prog_1_method_21_code
def yX10_read : MethodName := ⟨RX10, "read", "(I)I"⟩
abbrev cX10_fault : ByteArray := prog_1_method_22_code
def yX10_fault : MethodName := ⟨RX10, "fault", "()I"⟩
abbrev cX10_barred : ByteArray := prog_1_method_23_code
def yX10_barred : MethodName := ⟨RX10, "barred", "(III)I"⟩
abbrev cX10_barNow : ByteArray := prog_1_method_24_code
def yX10_barNow : MethodName := ⟨RX10, "barNow", "(III)I"⟩
abbrev cX10_plan : ByteArray := prog_1_method_25_code
def yX10_plan : MethodName := ⟨RX10, "plan", "(IIII)I"⟩
abbrev cX10_say : ByteArray := prog_1_method_26_code
def yX10_say : MethodName := ⟨RX10, "say", "(III)I"⟩
abbrev cX10_came : ByteArray := prog_1_method_27_code
def yX10_came : MethodName := ⟨RX10, "came", "(II)I"⟩
abbrev cX10_saying : ByteArray := prog_1_method_28_code
def yX10_saying : MethodName := ⟨RX10, "saying", "(II)I"⟩
abbrev cX10_learnt : ByteArray := prog_1_method_29_code
def yX10_learnt : MethodName := ⟨RX10, "learnt", "(III)I"⟩
abbrev cX10_chance : ByteArray := prog_1_method_30_code
def yX10_chance : MethodName := ⟨RX10, "chance", "(IIIIZ)I"⟩
abbrev cX10_choose : ByteArray := prog_1_method_31_code
def yX10_choose : MethodName := ⟨RX10, "choose", "(II)J"⟩
abbrev cX10_commonPart : ByteArray := prog_1_method_32_code
def yX10_commonPart : MethodName := ⟨RX10, "commonPart", "(JJ)J"⟩
abbrev cX10_who : ByteArray := prog_1_method_33_code
def yX10_who : MethodName := ⟨RX10, "who", "(II)I"⟩
abbrev cX10_tried : ByteArray := prog_1_method_34_code
def yX10_tried : MethodName := ⟨RX10, "tried", "(IIII)I"⟩
abbrev cX10_within : ByteArray := prog_1_method_35_code
def yX10_within : MethodName := ⟨RX10, "within", "(III)Z"⟩
abbrev cX10_isPerson : ByteArray := prog_1_method_36_code
def yX10_isPerson : MethodName := ⟨RX10, "isPerson", "(I)Z"⟩
abbrev cX10_isState : ByteArray := prog_1_method_37_code
def yX10_isState : MethodName := ⟨RX10, "isState", "(I)Z"⟩
abbrev cX10_isWay : ByteArray := prog_1_method_38_code
def yX10_isWay : MethodName := ⟨RX10, "isWay", "(I)Z"⟩
abbrev cX10_isOften : ByteArray := prog_1_method_39_code
def yX10_isOften : MethodName := ⟨RX10, "isOften", "(I)Z"⟩
abbrev cX10_isAhead : ByteArray := prog_1_method_40_code
def yX10_isAhead : MethodName := ⟨RX10, "isAhead", "(I)Z"⟩
abbrev cX10_contains : ByteArray := prog_1_method_41_code
def yX10_contains : MethodName := ⟨RX10, "contains", "(II)Z"⟩
abbrev cX10_exchange : ByteArray := prog_1_method_42_code
def yX10_exchange : MethodName := ⟨RX10, "exchange", "([III)I"⟩
def RX11 : String := "WhenToSpeakModel"
def TX11 : u_T := fun k => match k with
  | 0 => ("WhenToSpeakModel", "moves", "[I", true)
  | 1 => ("WhenToSpeakModel", "shown", "[I", true)
  | 2 => ("WhenToSpeakModel", "begin", "[I", true)
  | 3 => ("WhenToSpeakModel", "seamSet", "I", false)
  | 4 => ("WhenToSpeakModel", "signs", "[I", true)
  | 5 => ("WhenToSpeakModel", "now", "I", false)
  | 6 => ("WhenToSpeakModel", "weights", "[J", true)
  | 7 => ("WhenToSpeakModel", "nextWeights", "[J", true)
  | 8 => ("WhenToSpeakModel", "rows", "[I", true)
  | 9 => ("WhenToSpeakModel", "nextRows", "[I", true)
  | 10 => ("WhenToSpeakModel", "odds", "[I", true)
  | 11 => ("WhenToSpeakModel", "nextOdds", "[I", true)
  | 12 => ("WhenToSpeakModel", "things", "I", false)
  | 13 => ("WhenToSpeakModel", "persons", "[I", true)
  | 14 => ("WhenToSpeakModel", "kinds", "[I", true)
  | 15 => ("WhenToSpeakModel", "matters", "[I", true)
  | 16 => ("WhenToSpeakModel", "froms", "[I", true)
  | 17 => ("WhenToSpeakModel", "worths", "[I", true)
  | 18 => ("WhenToSpeakModel", "falls", "[I", true)
  | 19 => ("WhenToSpeakModel", "clocks", "[I", true)
  | 20 => ("WhenToSpeakModel", "since", "[I", true)
  | 21 => ("WhenToSpeakModel", "isDead", "[Z", true)
  | 22 => ("WhenToSpeakModel", "costs", "[I", true)
  | 23 => ("WhenToSpeakModel", "seens", "[I", true)
  | 24 => ("WhenToSpeakModel", "lawMany", "[I", true)
  | 25 => ("WhenToSpeakModel", "lawKind", "[I", true)
  | 26 => ("WhenToSpeakModel", "lawA", "[I", true)
  | 27 => ("WhenToSpeakModel", "lawB", "[I", true)
  | 28 => ("WhenToSpeakModel", "lawC", "[I", true)
  | 29 => ("WhenToSpeakModel", "freshKind", "[I", true)
  | 30 => ("WhenToSpeakModel", "freshA", "[I", true)
  | 31 => ("WhenToSpeakModel", "freshB", "[I", true)
  | 32 => ("WhenToSpeakModel", "freshC", "[I", true)
  | 33 => ("WhenToSpeakModel", "text", "[I", true)
  | 34 => ("WhenToSpeakModel", "texted", "I", false)
  | 35 => ("WhenToSpeakModel", "faultPlace", "I", false)
  | 36 => ("WhenToSpeakModel", "at0", "I", false)
  | 37 => ("WhenToSpeakModel", "word", "J", false)
  | 38 => ("WhenToSpeakModel", "wordEnd", "I", false)
  | 39 => ("WhenToSpeakModel", "number", "I", false)
  | 40 => ("WhenToSpeakModel", "looked", "[I", true)
  | 41 => ("WhenToSpeakModel", "lookedMany", "I", false)
  | 42 => ("WhenToSpeakModel", "bests", "[I", true)
  | 43 => ("WhenToSpeakModel", "gains", "[I", true)
  | 44 => ("WhenToSpeakModel", "ways", "[I", true)
  | 45 => ("WhenToSpeakModel", "sayings", "I", false)
  | 46 => ("WhenToSpeakModel", "sayPerson", "[I", true)
  | 47 => ("WhenToSpeakModel", "said", "[I", true)
  | 48 => ("WhenToSpeakModel", "sayWay", "[I", true)
  | 49 => ("WhenToSpeakModel", "sayTick", "[I", true)
  | _ => ("WhenToSpeakModel", "results", "[I", true)
def tyX11 : Nat → FieldType := fun k => match k with
  | 0 => .array .int
  | 1 => .array .int
  | 2 => .array .int
  | 3 => .int
  | 4 => .array .int
  | 5 => .int
  | 6 => .array .long
  | 7 => .array .long
  | 8 => .array .int
  | 9 => .array .int
  | 10 => .array .int
  | 11 => .array .int
  | 12 => .int
  | 13 => .array .int
  | 14 => .array .int
  | 15 => .array .int
  | 16 => .array .int
  | 17 => .array .int
  | 18 => .array .int
  | 19 => .array .int
  | 20 => .array .int
  | 21 => .array .boolean
  | 22 => .array .int
  | 23 => .array .int
  | 24 => .array .int
  | 25 => .array .int
  | 26 => .array .int
  | 27 => .array .int
  | 28 => .array .int
  | 29 => .array .int
  | 30 => .array .int
  | 31 => .array .int
  | 32 => .array .int
  | 33 => .array .int
  | 34 => .int
  | 35 => .int
  | 36 => .int
  | 37 => .long
  | 38 => .int
  | 39 => .int
  | 40 => .array .int
  | 41 => .int
  | 42 => .array .int
  | 43 => .array .int
  | 44 => .array .int
  | 45 => .int
  | 46 => .array .int
  | 47 => .array .int
  | 48 => .array .int
  | 49 => .array .int
  | _ => .array .int
abbrev wsX110 : List Cond := u_ws RX11 TX11 51
theorem nmX11 : ∀ a, a < 51 → ∀ b, b < 51 → a ≠ b → (TX11 a).2.1 ≠ (TX11 b).2.1 := by decide +kernel
theorem tyX11_ok : ∀ k, k < 51 → parseFieldDescriptor (TX11 k).2.2.1 = some (tyX11 k) := by decide +kernel
abbrev cX11_init : ByteArray := prog_13_method_1_code
def yX11_init : MethodName := ⟨RX11, "<init>", "()V"⟩
abbrev cX11_in : ByteArray := prog_13_method_3_code
def yX11_in : MethodName := ⟨RX11, "in", "(JJJ)Z"⟩
abbrev cX11_isState : ByteArray := prog_13_method_4_code
def yX11_isState : MethodName := ⟨RX11, "isState", "(I)Z"⟩
abbrev cX11_isPerson : ByteArray := prog_13_method_5_code
def yX11_isPerson : MethodName := ⟨RX11, "isPerson", "(I)Z"⟩
abbrev cX11_move : ByteArray := prog_13_method_6_code
def yX11_move : MethodName := ⟨RX11, "move", "(III)I"⟩
abbrev cX11_shows : ByteArray := prog_13_method_7_code
def yX11_shows : MethodName := ⟨RX11, "shows", "(III)I"⟩
abbrev cX11_begins : ByteArray := prog_13_method_8_code
def yX11_begins : MethodName := ⟨RX11, "begins", "(II)I"⟩
abbrev cX11_seams : ByteArray := prog_13_method_9_code
def yX11_seams : MethodName := ⟨RX11, "seams", "(I)I"⟩
abbrev cX11_sign : ByteArray := prog_13_method_10_code
def yX11_sign : MethodName := ⟨RX11, "sign", "(II)I"⟩
abbrev cX11_go : ByteArray := prog_13_method_11_code
def yX11_go : MethodName := ⟨RX11, "go", "(I)I"⟩
abbrev cX11_showsAt : ByteArray := prog_13_method_12_code
def yX11_showsAt : MethodName := ⟨RX11, "showsAt", "(III)I"⟩
abbrev cX11_findRows : ByteArray := prog_13_method_13_code
def yX11_findRows : MethodName := ⟨RX11, "findRows", "(II)V"⟩
abbrev cX11_findOdds : ByteArray := prog_13_method_14_code
def yX11_findOdds : MethodName := ⟨RX11, "findOdds", "(III)V"⟩
abbrev cX11_seamOdds : ByteArray := prog_13_method_15_code
def yX11_seamOdds : MethodName := ⟨RX11, "seamOdds", "(III)I"⟩
abbrev cX11_fits : ByteArray := prog_13_method_16_code
def yX11_fits : MethodName := ⟨RX11, "fits", "(II)I"⟩
abbrev cX11_odds : ByteArray := prog_13_method_17_code
def yX11_odds : MethodName := ⟨RX11, "odds", "(III)I"⟩
abbrev cX11_seam : ByteArray := prog_13_method_18_code
def yX11_seam : MethodName := ⟨RX11, "seam", "(II)I"⟩
abbrev cX11_until : ByteArray := prog_13_method_19_code
def yX11_until : MethodName := ⟨RX11, "until", "(II)I"⟩
abbrev cX11_isThing : ByteArray := prog_13_method_20_code
def yX11_isThing : MethodName := ⟨RX11, "isThing", "(I)Z"⟩
abbrev cX11_isMust : ByteArray := prog_13_method_21_code
def yX11_isMust : MethodName := ⟨RX11, "isMust", "(I)Z"⟩
abbrev cX11_thing : ByteArray := prog_13_method_22_code
def yX11_thing : MethodName := ⟨RX11, "thing", "(IIIIIII)I"⟩
abbrev cX11_sayingsOf : ByteArray := prog_13_method_23_code
def yX11_sayingsOf : MethodName := ⟨RX11, "sayingsOf", "(I)I"⟩
abbrev cX11_dead : ByteArray := prog_13_method_24_code
def yX11_dead : MethodName := ⟨RX11, "dead", "(I)I"⟩
abbrev cX11_isTold : ByteArray := prog_13_method_25_code
def yX11_isTold : MethodName := ⟨RX11, "isTold", "(I)Z"⟩
abbrev cX11_stateOf : ByteArray := prog_13_method_26_code
def yX11_stateOf : MethodName := ⟨RX11, "stateOf", "(I)I"⟩
abbrev cX11_told : ByteArray := prog_13_method_27_code
def yX11_told : MethodName := ⟨RX11, "told", "(II)I"⟩
abbrev cX11_valueOf : ByteArray := prog_13_method_28_code
def yX11_valueOf : MethodName := ⟨RX11, "valueOf", "(III)I"⟩
abbrev cX11_value : ByteArray := prog_13_method_29_code
def yX11_value : MethodName := ⟨RX11, "value", "(III)I"⟩
abbrev cX11_isWay : ByteArray := prog_13_method_30_code
def yX11_isWay : MethodName := ⟨RX11, "isWay", "(I)Z"⟩
abbrev cX11_cost : ByteArray := prog_13_method_31_code
def yX11_cost : MethodName := ⟨RX11, "cost", "(III)I"⟩
abbrev cX11_seen : ByteArray := prog_13_method_32_code
def yX11_seen : MethodName := ⟨RX11, "seen", "(II)I"⟩
abbrev cX11_lossOf : ByteArray := prog_13_method_33_code
def yX11_lossOf : MethodName := ⟨RX11, "lossOf", "(IIII)I"⟩
abbrev cX11_loss : ByteArray := prog_13_method_34_code
def yX11_loss : MethodName := ⟨RX11, "loss", "(III)I"⟩
abbrev cX11_thingsThat : ByteArray := prog_13_method_35_code
def yX11_thingsThat : MethodName := ⟨RX11, "thingsThat", "(I)I"⟩
abbrev cX11_count : ByteArray := prog_13_method_36_code
def yX11_count : MethodName := ⟨RX11, "count", "(I)I"⟩
abbrev cX11_feed : ByteArray := prog_13_method_37_code
def yX11_feed : MethodName := ⟨RX11, "feed", "(IJ)I"⟩
abbrev cX11_here : ByteArray := prog_13_method_38_code
def yX11_here : MethodName := ⟨RX11, "here", "()I"⟩
abbrev cX11_fails : ByteArray := prog_13_method_39_code
def yX11_fails : MethodName := ⟨RX11, "fails", "(II)I"⟩
abbrev cX11_readWord : ByteArray := prog_13_method_40_code
def yX11_readWord : MethodName := ⟨RX11, "readWord", "()V"⟩
abbrev cX11_code : ByteArray := prog_13_method_41_code
def yX11_code : MethodName := ⟨RX11, "code", "(IIIIII)J"⟩
abbrev cX11_needs : ByteArray := prog_13_method_42_code
def yX11_needs : MethodName := ⟨RX11, "needs", "(J)I"⟩
abbrev cX11_readNumber : ByteArray := prog_13_method_43_code
def yX11_readNumber : MethodName := ⟨RX11, "readNumber", "(II)I"⟩
abbrev cX11_readWay : ByteArray := prog_13_method_44_code
def yX11_readWay : MethodName := ⟨RX11, "readWay", "(I)I"⟩
abbrev cX11_readNever : ByteArray := prog_13_method_45_code
def yX11_readNever : MethodName := ⟨RX11, "readNever", "(I)I"⟩
abbrev cX11_readMost : ByteArray := prog_13_method_46_code
def yX11_readMost : MethodName := ⟨RX11, "readMost", "(I)I"⟩
abbrev cX11_readAlways : ByteArray := prog_13_method_47_code
def yX11_readAlways : MethodName := ⟨RX11, "readAlways", "(I)I"⟩
abbrev cX11_readClause : ByteArray := prog_13_method_48_code
def yX11_readClause : MethodName := ⟨RX11, "readClause", "(I)I"⟩
abbrev cX11_read : ByteArray := prog_13_method_49_code
def yX11_read : MethodName := ⟨RX11, "read", "(I)I"⟩
abbrev cX11_fault : ByteArray := prog_13_method_50_code
def yX11_fault : MethodName := ⟨RX11, "fault", "()I"⟩
abbrev cX11_isAlways : ByteArray := prog_13_method_51_code
def yX11_isAlways : MethodName := ⟨RX11, "isAlways", "(II)Z"⟩
abbrev cX11_areAlways : ByteArray := prog_13_method_52_code
def yX11_areAlways : MethodName := ⟨RX11, "areAlways", "(II)Z"⟩
abbrev cX11_isWayBarred : ByteArray := prog_13_method_53_code
def yX11_isWayBarred : MethodName := ⟨RX11, "isWayBarred", "(III)Z"⟩
abbrev cX11_isKindBarred : ByteArray := prog_13_method_54_code
def yX11_isKindBarred : MethodName := ⟨RX11, "isKindBarred", "(III)Z"⟩
abbrev cX11_areMost : ByteArray := prog_13_method_55_code
def yX11_areMost : MethodName := ⟨RX11, "areMost", "(III)Z"⟩
abbrev cX11_barring : ByteArray := prog_13_method_56_code
def yX11_barring : MethodName := ⟨RX11, "barring", "(IIIII)I"⟩
abbrev cX11_areThings : ByteArray := prog_13_method_57_code
def yX11_areThings : MethodName := ⟨RX11, "areThings", "(I)Z"⟩
abbrev cX11_barred : ByteArray := prog_13_method_58_code
def yX11_barred : MethodName := ⟨RX11, "barred", "(III)I"⟩
abbrev cX11_setOf : ByteArray := prog_13_method_59_code
def yX11_setOf : MethodName := ⟨RX11, "setOf", "(I)I"⟩
abbrev cX11_isOneMatter : ByteArray := prog_13_method_60_code
def yX11_isOneMatter : MethodName := ⟨RX11, "isOneMatter", "(I)Z"⟩
abbrev cX11_findGain : ByteArray := prog_13_method_61_code
def yX11_findGain : MethodName := ⟨RX11, "findGain", "(III)V"⟩
abbrev cX11_place : ByteArray := prog_13_method_62_code
def yX11_place : MethodName := ⟨RX11, "place", "(III)I"⟩
abbrev cX11_by : ByteArray := prog_13_method_63_code
def yX11_by : MethodName := ⟨RX11, "by", "(IIIII)I"⟩
abbrev cX11_findPlans : ByteArray := prog_13_method_64_code
def yX11_findPlans : MethodName := ⟨RX11, "findPlans", "(II)V"⟩
abbrev cX11_plan : ByteArray := prog_13_method_65_code
def yX11_plan : MethodName := ⟨RX11, "plan", "(IIII)I"⟩
abbrev cX11_deadOf : ByteArray := prog_13_method_66_code
def yX11_deadOf : MethodName := ⟨RX11, "deadOf", "(I)I"⟩
abbrev cX11_areFor : ByteArray := prog_13_method_67_code
def yX11_areFor : MethodName := ⟨RX11, "areFor", "(II)Z"⟩
abbrev cX11_say : ByteArray := prog_13_method_68_code
def yX11_say : MethodName := ⟨RX11, "say", "(III)I"⟩
abbrev cX11_isSaying : ByteArray := prog_13_method_69_code
def yX11_isSaying : MethodName := ⟨RX11, "isSaying", "(I)Z"⟩
abbrev cX11_came : ByteArray := prog_13_method_70_code
def yX11_came : MethodName := ⟨RX11, "came", "(II)I"⟩
abbrev cX11_saying : ByteArray := prog_13_method_71_code
def yX11_saying : MethodName := ⟨RX11, "saying", "(II)I"⟩
abbrev cX11_cameOf : ByteArray := prog_13_method_72_code
def yX11_cameOf : MethodName := ⟨RX11, "cameOf", "(IZ)I"⟩
abbrev cX11_choose : ByteArray := prog_13_method_73_code
def yX11_choose : MethodName := ⟨RX11, "choose", "(II)J"⟩
abbrev cX11_gcd : ByteArray := prog_13_method_74_code
def yX11_gcd : MethodName := ⟨RX11, "gcd", "(JJ)J"⟩
abbrev cX11_learnt : ByteArray := prog_13_method_75_code
def yX11_learnt : MethodName := ⟨RX11, "learnt", "(III)I"⟩
abbrev cX11_who : ByteArray := prog_13_method_76_code
def yX11_who : MethodName := ⟨RX11, "who", "(II)I"⟩
abbrev cX11_tried : ByteArray := prog_13_method_77_code
def yX11_tried : MethodName := ⟨RX11, "tried", "(IIII)I"⟩
def RJ6 : String := "java/lang/Integer"
def TJ6 : u_T := fun k => match k with
  | _ => ("", "", "", false)
def tyJ6 : Nat → FieldType := fun k => match k with
  | _ => .int
abbrev wsJ60 : List Cond := u_ws RJ6 TJ6 0
theorem nmJ6 : ∀ a, a < 0 → ∀ b, b < 0 → a ≠ b → (TJ6 a).2.1 ≠ (TJ6 b).2.1 := by decide +kernel
theorem tyJ6_ok : ∀ k, k < 0 → parseFieldDescriptor (TJ6 k).2.2.1 = some (tyJ6 k) := by decide +kernel
abbrev cJ6_bitCount_0f7a4 : ByteArray := prog_14_method_49_code
def yJ6_bitCount_0f7a4 : MethodName := ⟨RJ6, "bitCount", "(I)I"⟩
def RJ9 : String := "java/lang/Math"
def TJ9 : u_T := fun k => match k with
  | _ => ("", "", "", false)
def tyJ9 : Nat → FieldType := fun k => match k with
  | _ => .int
abbrev wsJ90 : List Cond := u_ws RJ9 TJ9 0
theorem nmJ9 : ∀ a, a < 0 → ∀ b, b < 0 → a ≠ b → (TJ9 a).2.1 ≠ (TJ9 b).2.1 := by decide +kernel
theorem tyJ9_ok : ∀ k, k < 0 → parseFieldDescriptor (TJ9 k).2.2.1 = some (tyJ9 k) := by decide +kernel
abbrev cJ9_max_7cf53 : ByteArray := prog_15_method_65_code
def yJ9_max_7cf53 : MethodName := ⟨RJ9, "max", "(II)I"⟩
abbrev cJ9_min_7cf53 : ByteArray := prog_15_method_69_code
def yJ9_min_7cf53 : MethodName := ⟨RJ9, "min", "(II)I"⟩
def RJ0 : String := "java/lang/String"
def TJ0 : u_T := fun k => match k with
  | _ => ("", "", "", false)
def tyJ0 : Nat → FieldType := fun k => match k with
  | _ => .int
abbrev wsJ00 : List Cond := u_ws RJ0 TJ0 0
theorem nmJ0 : ∀ a, a < 0 → ∀ b, b < 0 → a ≠ b → (TJ0 a).2.1 ≠ (TJ0 b).2.1 := by decide +kernel
theorem tyJ0_ok : ∀ k, k < 0 → parseFieldDescriptor (TJ0 k).2.2.1 = some (tyJ0 k) := by decide +kernel
abbrev cJ0_length_8abf5 : ByteArray := prog_16_method_54_code
def yJ0_length_8abf5 : MethodName := ⟨RJ0, "length", "()I"⟩
abbrev cJ0_charAt_5068e : ByteArray := prog_16_method_56_code
def yJ0_charAt_5068e : MethodName := ⟨RJ0, "charAt", "(I)C"⟩
abbrev cJ0_coder_7d493 : ByteArray := prog_16_method_152_code
def yJ0_coder_7d493 : MethodName := ⟨RJ0, "coder", "()B"⟩
abbrev cJ0_isLatin1_aae02 : ByteArray := prog_16_method_154_code
def yJ0_isLatin1_aae02 : MethodName := ⟨RJ0, "isLatin1", "()Z"⟩
abbrev cJ0_checkIndex_df160 : ByteArray := prog_16_method_155_code
def yJ0_checkIndex_df160 : MethodName := ⟨RJ0, "checkIndex", "(II)V"⟩
def RJ1 : String := "java/lang/StringLatin1"
def TJ1 : u_T := fun k => match k with
  | _ => ("", "", "", false)
def tyJ1 : Nat → FieldType := fun k => match k with
  | _ => .int
abbrev wsJ10 : List Cond := u_ws RJ1 TJ1 0
theorem nmJ1 : ∀ a, a < 0 → ∀ b, b < 0 → a ≠ b → (TJ1 a).2.1 ≠ (TJ1 b).2.1 := by decide +kernel
theorem tyJ1_ok : ∀ k, k < 0 → parseFieldDescriptor (TJ1 k).2.2.1 = some (tyJ1 k) := by decide +kernel
abbrev cJ1_charAt_3b067 : ByteArray := prog_17_method_2_code
def yJ1_charAt_3b067 : MethodName := ⟨RJ1, "charAt", "([BI)C"⟩
def RJ2 : String := "java/lang/StringUTF16"
def TJ2 : u_T := fun k => match k with
  | _ => ("", "", "", false)
def tyJ2 : Nat → FieldType := fun k => match k with
  | _ => .int
abbrev wsJ20 : List Cond := u_ws RJ2 TJ2 0
theorem nmJ2 : ∀ a, a < 0 → ∀ b, b < 0 → a ≠ b → (TJ2 a).2.1 ≠ (TJ2 b).2.1 := by decide +kernel
theorem tyJ2_ok : ∀ k, k < 0 → parseFieldDescriptor (TJ2 k).2.2.1 = some (tyJ2 k) := by decide +kernel
abbrev cJ2_getChar_3b067 : ByteArray := prog_18_method_5_code
def yJ2_getChar_3b067 : MethodName := ⟨RJ2, "getChar", "([BI)C"⟩
abbrev cJ2_length_9d52b : ByteArray := prog_18_method_6_code
def yJ2_length_9d52b : MethodName := ⟨RJ2, "length", "([B)I"⟩
abbrev cJ2_charAt_3b067 : ByteArray := prog_18_method_83_code
def yJ2_charAt_3b067 : MethodName := ⟨RJ2, "charAt", "([BI)C"⟩
abbrev cJ2_checkIndex_2214a : ByteArray := prog_18_method_91_code
def yJ2_checkIndex_2214a : MethodName := ⟨RJ2, "checkIndex", "(I[B)V"⟩
def RJ3 : String := "jdk/internal/util/Preconditions"
def TJ3 : u_T := fun k => match k with
  | _ => ("", "", "", false)
def tyJ3 : Nat → FieldType := fun k => match k with
  | _ => .int
abbrev wsJ30 : List Cond := u_ws RJ3 TJ3 0
theorem nmJ3 : ∀ a, a < 0 → ∀ b, b < 0 → a ≠ b → (TJ3 a).2.1 ≠ (TJ3 b).2.1 := by decide +kernel
theorem tyJ3_ok : ∀ k, k < 0 → parseFieldDescriptor (TJ3 k).2.2.1 = some (tyJ3 k) := by decide +kernel
abbrev cJ3_checkIndex_8e157 : ByteArray := prog_19_method_11_code
def yJ3_checkIndex_8e157 : MethodName := ⟨RJ3, "checkIndex", "(IILjava/util/function/BiFunction;)I"⟩
def RLw : String := "WhenToSpeakLaw"
abbrev cL_law : ByteArray := code
def yL_law : MethodName := ⟨RLw, "law", "([I)Z"⟩
abbrev vwCl : List vw_C := [(RX0, TX0, 4), (RX1, TX1, 3), (RX2, TX2, 5), (RX3, TX3, 5), (RX4, TX4, 19), (RX5, TX5, 5), (RX6, TX6, 9), (RX7, TX7, 8), (RX8, TX8, 2), (RX9, TX9, 8), (RX10, TX10, 11), (RX11, TX11, 51)]
