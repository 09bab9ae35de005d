section
-- ===== PART A: goes FIRST, ahead of the names: the tables' words, and 'selects' of the private methods out of them =====
/-- a private method of a class that the tables say can be made, by its rows of tables_1 -/
def lw_okq (q : MethodName × Nat) : Prop := (q.1.cls ≠ "java/lang/invoke/MethodHandle" ∧ q.1.cls ≠ "java/lang/invoke/VarHandle") ∧ Cond.instantiable q.1.cls q.2 ∈ tables_1 ∧ Cond.privateMethod q.1 ∈ tables_1 ∧ Cond.instanceMethod q.1 ∈ tables_1
theorem lw_p0 : lw_okq (⟨"java/lang/Throwable", "fillInStackTrace", "(I)Ljava/lang/Throwable;"⟩, 6) := ⟨⟨by decide +kernel, by decide +kernel⟩, List.mem_of_getElem? (i := 219) (by decide +kernel), List.mem_of_getElem? (i := 217) (by decide +kernel), List.mem_of_getElem? (i := 218) (by decide +kernel)⟩
theorem lw_p1 : lw_okq (⟨"ArcLight", "find", "(I)LArcLight$Sentence;"⟩, 7) := ⟨⟨by decide +kernel, by decide +kernel⟩, List.mem_of_getElem? (i := 19) (by decide +kernel), List.mem_of_getElem? (i := 280) (by decide +kernel), List.mem_of_getElem? (i := 281) (by decide +kernel)⟩
theorem lw_p2 : lw_okq (⟨"ArcLight", "tryAll", "(LArcLight$Sentence;Z)LArcLight$Trial;"⟩, 7) := ⟨⟨by decide +kernel, by decide +kernel⟩, List.mem_of_getElem? (i := 19) (by decide +kernel), List.mem_of_getElem? (i := 459) (by decide +kernel), List.mem_of_getElem? (i := 460) (by decide +kernel)⟩
theorem lw_p3 : lw_okq (⟨"ArcLight$Trial", "note", "(J)V"⟩, 3) := ⟨⟨by decide +kernel, by decide +kernel⟩, List.mem_of_getElem? (i := 123) (by decide +kernel), List.mem_of_getElem? (i := 490) (by decide +kernel), List.mem_of_getElem? (i := 491) (by decide +kernel)⟩
theorem lw_p4 : lw_okq (⟨"ArcLight$Trial", "closesCircle", "(II)Z"⟩, 3) := ⟨⟨by decide +kernel, by decide +kernel⟩, List.mem_of_getElem? (i := 123) (by decide +kernel), List.mem_of_getElem? (i := 500) (by decide +kernel), List.mem_of_getElem? (i := 501) (by decide +kernel)⟩
theorem lw_p5 : lw_okq (⟨"ArcLight$Trial", "crossesEarlier", "(II)Z"⟩, 3) := ⟨⟨by decide +kernel, by decide +kernel⟩, List.mem_of_getElem? (i := 123) (by decide +kernel), List.mem_of_getElem? (i := 504) (by decide +kernel), List.mem_of_getElem? (i := 505) (by decide +kernel)⟩
theorem lw_p6 : lw_okq (⟨"ArcLight", "bestKey", "(LArcLight$Sentence;Z)J"⟩, 7) := ⟨⟨by decide +kernel, by decide +kernel⟩, List.mem_of_getElem? (i := 19) (by decide +kernel), List.mem_of_getElem? (i := 525) (by decide +kernel), List.mem_of_getElem? (i := 526) (by decide +kernel)⟩
theorem lw_p7 : lw_okq (⟨"ArcLight$Circles", "takeGreatest", "()J"⟩, 5) := ⟨⟨by decide +kernel, by decide +kernel⟩, List.mem_of_getElem? (i := 100) (by decide +kernel), List.mem_of_getElem? (i := 536) (by decide +kernel), List.mem_of_getElem? (i := 537) (by decide +kernel)⟩
theorem lw_p8 : lw_okq (⟨"ArcLight$Circles", "takenKey", "(I)J"⟩, 5) := ⟨⟨by decide +kernel, by decide +kernel⟩, List.mem_of_getElem? (i := 100) (by decide +kernel), List.mem_of_getElem? (i := 540) (by decide +kernel), List.mem_of_getElem? (i := 541) (by decide +kernel)⟩
theorem lw_p9 : lw_okq (⟨"ArcLight$Circles", "takenHead", "(I)I"⟩, 5) := ⟨⟨by decide +kernel, by decide +kernel⟩, List.mem_of_getElem? (i := 100) (by decide +kernel), List.mem_of_getElem? (i := 544) (by decide +kernel), List.mem_of_getElem? (i := 545) (by decide +kernel)⟩
theorem lw_p10 : lw_okq (⟨"ArcLight$Circles", "findCircle", "()I"⟩, 5) := ⟨⟨by decide +kernel, by decide +kernel⟩, List.mem_of_getElem? (i := 100) (by decide +kernel), List.mem_of_getElem? (i := 550) (by decide +kernel), List.mem_of_getElem? (i := 551) (by decide +kernel)⟩
theorem lw_p11 : lw_okq (⟨"ArcLight$Circles", "contract", "(I)V"⟩, 5) := ⟨⟨by decide +kernel, by decide +kernel⟩, List.mem_of_getElem? (i := 100) (by decide +kernel), List.mem_of_getElem? (i := 554) (by decide +kernel), List.mem_of_getElem? (i := 555) (by decide +kernel)⟩
theorem lw_p12 : lw_okq (⟨"ArcLight$Circles", "groupNodes", "(I)I"⟩, 5) := ⟨⟨by decide +kernel, by decide +kernel⟩, List.mem_of_getElem? (i := 100) (by decide +kernel), List.mem_of_getElem? (i := 558) (by decide +kernel), List.mem_of_getElem? (i := 559) (by decide +kernel)⟩
theorem lw_p13 : lw_okq (⟨"ArcLight$Circles", "offer", "(IIJ)V"⟩, 5) := ⟨⟨by decide +kernel, by decide +kernel⟩, List.mem_of_getElem? (i := 100) (by decide +kernel), List.mem_of_getElem? (i := 566) (by decide +kernel), List.mem_of_getElem? (i := 567) (by decide +kernel)⟩
theorem lw_p14 : lw_okq (⟨"ArcLight$Spans", "fillOpen", "(LArcLight$ArcKeys;II)V"⟩, 4) := ⟨⟨by decide +kernel, by decide +kernel⟩, List.mem_of_getElem? (i := 80) (by decide +kernel), List.mem_of_getElem? (i := 576) (by decide +kernel), List.mem_of_getElem? (i := 577) (by decide +kernel)⟩
theorem lw_p15 : lw_okq (⟨"ArcLight$Spans", "fillWhole", "(II)V"⟩, 4) := ⟨⟨by decide +kernel, by decide +kernel⟩, List.mem_of_getElem? (i := 80) (by decide +kernel), List.mem_of_getElem? (i := 589) (by decide +kernel), List.mem_of_getElem? (i := 590) (by decide +kernel)⟩
def lw_privs_1 : List (MethodName × Nat) := [(⟨"java/lang/Throwable", "fillInStackTrace", "(I)Ljava/lang/Throwable;"⟩, 6), (⟨"ArcLight", "find", "(I)LArcLight$Sentence;"⟩, 7), (⟨"ArcLight", "tryAll", "(LArcLight$Sentence;Z)LArcLight$Trial;"⟩, 7), (⟨"ArcLight$Trial", "note", "(J)V"⟩, 3), (⟨"ArcLight$Trial", "closesCircle", "(II)Z"⟩, 3), (⟨"ArcLight$Trial", "crossesEarlier", "(II)Z"⟩, 3), (⟨"ArcLight", "bestKey", "(LArcLight$Sentence;Z)J"⟩, 7), (⟨"ArcLight$Circles", "takeGreatest", "()J"⟩, 5), (⟨"ArcLight$Circles", "takenKey", "(I)J"⟩, 5), (⟨"ArcLight$Circles", "takenHead", "(I)I"⟩, 5), (⟨"ArcLight$Circles", "findCircle", "()I"⟩, 5), (⟨"ArcLight$Circles", "contract", "(I)V"⟩, 5), (⟨"ArcLight$Circles", "groupNodes", "(I)I"⟩, 5), (⟨"ArcLight$Circles", "offer", "(IIJ)V"⟩, 5), (⟨"ArcLight$Spans", "fillOpen", "(LArcLight$ArcKeys;II)V"⟩, 4), (⟨"ArcLight$Spans", "fillWhole", "(II)V"⟩, 4)]
theorem lw_r1 : ∀ q ∈ lw_privs_1, lw_okq q := List.forall_mem_cons.mpr ⟨lw_p0, List.forall_mem_cons.mpr ⟨lw_p1, List.forall_mem_cons.mpr ⟨lw_p2, List.forall_mem_cons.mpr ⟨lw_p3, List.forall_mem_cons.mpr ⟨lw_p4, List.forall_mem_cons.mpr ⟨lw_p5, List.forall_mem_cons.mpr ⟨lw_p6, List.forall_mem_cons.mpr ⟨lw_p7, List.forall_mem_cons.mpr ⟨lw_p8, List.forall_mem_cons.mpr ⟨lw_p9, List.forall_mem_cons.mpr ⟨lw_p10, List.forall_mem_cons.mpr ⟨lw_p11, List.forall_mem_cons.mpr ⟨lw_p12, List.forall_mem_cons.mpr ⟨lw_p13, List.forall_mem_cons.mpr ⟨lw_p14, List.forall_mem_cons.mpr ⟨lw_p15, fun _ h => absurd h List.not_mem_nil⟩⟩⟩⟩⟩⟩⟩⟩⟩⟩⟩⟩⟩⟩⟩⟩
theorem lw_p16 : lw_okq (⟨"ArcLight", "rankedKey", "(LArcLight$Sentence;ZI)J"⟩, 7) := ⟨⟨by decide +kernel, by decide +kernel⟩, List.mem_of_getElem? (i := 19) (by decide +kernel), List.mem_of_getElem? (i := 646) (by decide +kernel), List.mem_of_getElem? (i := 647) (by decide +kernel)⟩
theorem lw_p17 : lw_okq (⟨"ArcLight$Trial", "least", "(J)J"⟩, 3) := ⟨⟨by decide +kernel, by decide +kernel⟩, List.mem_of_getElem? (i := 123) (by decide +kernel), List.mem_of_getElem? (i := 656) (by decide +kernel), List.mem_of_getElem? (i := 657) (by decide +kernel)⟩
theorem lw_p18 : lw_okq (⟨"ArcLight$Trial", "countAbove", "(J)I"⟩, 3) := ⟨⟨by decide +kernel, by decide +kernel⟩, List.mem_of_getElem? (i := 123) (by decide +kernel), List.mem_of_getElem? (i := 664) (by decide +kernel), List.mem_of_getElem? (i := 665) (by decide +kernel)⟩
theorem lw_p19 : lw_okq (⟨"ArcLightModel", "asks", "(Z)Z"⟩, 20) := ⟨⟨by decide +kernel, by decide +kernel⟩, List.mem_of_getElem? (i := 746) (by decide +kernel), List.mem_of_getElem? (i := 822) (by decide +kernel), List.mem_of_getElem? (i := 823) (by decide +kernel)⟩
theorem lw_p20 : lw_okq (⟨"ArcLightModel", "isSentence", "(I)Z"⟩, 20) := ⟨⟨by decide +kernel, by decide +kernel⟩, List.mem_of_getElem? (i := 746) (by decide +kernel), List.mem_of_getElem? (i := 830) (by decide +kernel), List.mem_of_getElem? (i := 831) (by decide +kernel)⟩
theorem lw_p21 : lw_okq (⟨"ArcLightModel", "fails", "(I)I"⟩, 20) := ⟨⟨by decide +kernel, by decide +kernel⟩, List.mem_of_getElem? (i := 746) (by decide +kernel), List.mem_of_getElem? (i := 834) (by decide +kernel), List.mem_of_getElem? (i := 835) (by decide +kernel)⟩
theorem lw_p22 : lw_okq (⟨"ArcLightModel", "changed", "()V"⟩, 20) := ⟨⟨by decide +kernel, by decide +kernel⟩, List.mem_of_getElem? (i := 746) (by decide +kernel), List.mem_of_getElem? (i := 838) (by decide +kernel), List.mem_of_getElem? (i := 839) (by decide +kernel)⟩
theorem lw_p23 : lw_okq (⟨"ArcLightModel", "isWord", "(II)Z"⟩, 20) := ⟨⟨by decide +kernel, by decide +kernel⟩, List.mem_of_getElem? (i := 746) (by decide +kernel), List.mem_of_getElem? (i := 854) (by decide +kernel), List.mem_of_getElem? (i := 855) (by decide +kernel)⟩
theorem lw_p24 : lw_okq (⟨"ArcLightModel", "remembers", "(I)V"⟩, 20) := ⟨⟨by decide +kernel, by decide +kernel⟩, List.mem_of_getElem? (i := 746) (by decide +kernel), List.mem_of_getElem? (i := 862) (by decide +kernel), List.mem_of_getElem? (i := 863) (by decide +kernel)⟩
theorem lw_p25 : lw_okq (⟨"ArcLightModel", "asksArc", "(III)Z"⟩, 20) := ⟨⟨by decide +kernel, by decide +kernel⟩, List.mem_of_getElem? (i := 746) (by decide +kernel), List.mem_of_getElem? (i := 874) (by decide +kernel), List.mem_of_getElem? (i := 875) (by decide +kernel)⟩
theorem lw_p26 : lw_okq (⟨"ArcLightModel", "isPlace", "(II)Z"⟩, 20) := ⟨⟨by decide +kernel, by decide +kernel⟩, List.mem_of_getElem? (i := 746) (by decide +kernel), List.mem_of_getElem? (i := 878) (by decide +kernel), List.mem_of_getElem? (i := 879) (by decide +kernel)⟩
theorem lw_p27 : lw_okq (⟨"ArcLightModel", "byKind", "(III)I"⟩, 20) := ⟨⟨by decide +kernel, by decide +kernel⟩, List.mem_of_getElem? (i := 746) (by decide +kernel), List.mem_of_getElem? (i := 885) (by decide +kernel), List.mem_of_getElem? (i := 886) (by decide +kernel)⟩
theorem lw_p28 : lw_okq (⟨"ArcLightModel", "scoreOf", "(III)I"⟩, 20) := ⟨⟨by decide +kernel, by decide +kernel⟩, List.mem_of_getElem? (i := 746) (by decide +kernel), List.mem_of_getElem? (i := 893) (by decide +kernel), List.mem_of_getElem? (i := 894) (by decide +kernel)⟩
theorem lw_p29 : lw_okq (⟨"ArcLightModel", "arc", "(III)I"⟩, 20) := ⟨⟨by decide +kernel, by decide +kernel⟩, List.mem_of_getElem? (i := 746) (by decide +kernel), List.mem_of_getElem? (i := 901) (by decide +kernel), List.mem_of_getElem? (i := 902) (by decide +kernel)⟩
theorem lw_p30 : lw_okq (⟨"ArcLightModel", "finds", "(IZ)I"⟩, 20) := ⟨⟨by decide +kernel, by decide +kernel⟩, List.mem_of_getElem? (i := 746) (by decide +kernel), List.mem_of_getElem? (i := 909) (by decide +kernel), List.mem_of_getElem? (i := 910) (by decide +kernel)⟩
theorem lw_p31 : lw_okq (⟨"ArcLightModel", "walks", "(IZZ)V"⟩, 20) := ⟨⟨by decide +kernel, by decide +kernel⟩, List.mem_of_getElem? (i := 746) (by decide +kernel), List.mem_of_getElem? (i := 913) (by decide +kernel), List.mem_of_getElem? (i := 914) (by decide +kernel)⟩
def lw_privs_2 : List (MethodName × Nat) := [(⟨"ArcLight", "rankedKey", "(LArcLight$Sentence;ZI)J"⟩, 7), (⟨"ArcLight$Trial", "least", "(J)J"⟩, 3), (⟨"ArcLight$Trial", "countAbove", "(J)I"⟩, 3), (⟨"ArcLightModel", "asks", "(Z)Z"⟩, 20), (⟨"ArcLightModel", "isSentence", "(I)Z"⟩, 20), (⟨"ArcLightModel", "fails", "(I)I"⟩, 20), (⟨"ArcLightModel", "changed", "()V"⟩, 20), (⟨"ArcLightModel", "isWord", "(II)Z"⟩, 20), (⟨"ArcLightModel", "remembers", "(I)V"⟩, 20), (⟨"ArcLightModel", "asksArc", "(III)Z"⟩, 20), (⟨"ArcLightModel", "isPlace", "(II)Z"⟩, 20), (⟨"ArcLightModel", "byKind", "(III)I"⟩, 20), (⟨"ArcLightModel", "scoreOf", "(III)I"⟩, 20), (⟨"ArcLightModel", "arc", "(III)I"⟩, 20), (⟨"ArcLightModel", "finds", "(IZ)I"⟩, 20), (⟨"ArcLightModel", "walks", "(IZZ)V"⟩, 20)]
theorem lw_r2 : ∀ q ∈ lw_privs_2, lw_okq q := List.forall_mem_cons.mpr ⟨lw_p16, List.forall_mem_cons.mpr ⟨lw_p17, List.forall_mem_cons.mpr ⟨lw_p18, List.forall_mem_cons.mpr ⟨lw_p19, List.forall_mem_cons.mpr ⟨lw_p20, List.forall_mem_cons.mpr ⟨lw_p21, List.forall_mem_cons.mpr ⟨lw_p22, List.forall_mem_cons.mpr ⟨lw_p23, List.forall_mem_cons.mpr ⟨lw_p24, List.forall_mem_cons.mpr ⟨lw_p25, List.forall_mem_cons.mpr ⟨lw_p26, List.forall_mem_cons.mpr ⟨lw_p27, List.forall_mem_cons.mpr ⟨lw_p28, List.forall_mem_cons.mpr ⟨lw_p29, List.forall_mem_cons.mpr ⟨lw_p30, List.forall_mem_cons.mpr ⟨lw_p31, fun _ h => absurd h List.not_mem_nil⟩⟩⟩⟩⟩⟩⟩⟩⟩⟩⟩⟩⟩⟩⟩⟩
theorem lw_p32 : lw_okq (⟨"ArcLightModel", "keyOf", "(I)J"⟩, 20) := ⟨⟨by decide +kernel, by decide +kernel⟩, List.mem_of_getElem? (i := 746) (by decide +kernel), List.mem_of_getElem? (i := 918) (by decide +kernel), List.mem_of_getElem? (i := 919) (by decide +kernel)⟩
theorem lw_p33 : lw_okq (⟨"ArcLightModel", "may", "(IIZ)Z"⟩, 20) := ⟨⟨by decide +kernel, by decide +kernel⟩, List.mem_of_getElem? (i := 746) (by decide +kernel), List.mem_of_getElem? (i := 923) (by decide +kernel), List.mem_of_getElem? (i := 924) (by decide +kernel)⟩
theorem lw_p34 : lw_okq (⟨"ArcLightModel", "doCross", "(II)Z"⟩, 20) := ⟨⟨by decide +kernel, by decide +kernel⟩, List.mem_of_getElem? (i := 746) (by decide +kernel), List.mem_of_getElem? (i := 927) (by decide +kernel), List.mem_of_getElem? (i := 928) (by decide +kernel)⟩
theorem lw_p35 : lw_okq (⟨"ArcLightModel", "asksTree", "(IZ)Z"⟩, 20) := ⟨⟨by decide +kernel, by decide +kernel⟩, List.mem_of_getElem? (i := 746) (by decide +kernel), List.mem_of_getElem? (i := 941) (by decide +kernel), List.mem_of_getElem? (i := 942) (by decide +kernel)⟩
theorem lw_p36 : lw_okq (⟨"ArcLightModel", "scoreIn", "(J)I"⟩, 20) := ⟨⟨by decide +kernel, by decide +kernel⟩, List.mem_of_getElem? (i := 746) (by decide +kernel), List.mem_of_getElem? (i := 945) (by decide +kernel), List.mem_of_getElem? (i := 946) (by decide +kernel)⟩
theorem lw_p37 : lw_okq (⟨"ArcLightModel", "headIn", "(IJI)I"⟩, 20) := ⟨⟨by decide +kernel, by decide +kernel⟩, List.mem_of_getElem? (i := 746) (by decide +kernel), List.mem_of_getElem? (i := 957) (by decide +kernel), List.mem_of_getElem? (i := 958) (by decide +kernel)⟩
theorem lw_p38 : lw_okq (⟨"ArcLightModel", "asksRank", "(IZIZ)Z"⟩, 20) := ⟨⟨by decide +kernel, by decide +kernel⟩, List.mem_of_getElem? (i := 746) (by decide +kernel), List.mem_of_getElem? (i := 970) (by decide +kernel), List.mem_of_getElem? (i := 971) (by decide +kernel)⟩
theorem lw_p39 : lw_okq (⟨"ArcLightModel", "lists", "(IZ)V"⟩, 20) := ⟨⟨by decide +kernel, by decide +kernel⟩, List.mem_of_getElem? (i := 746) (by decide +kernel), List.mem_of_getElem? (i := 974) (by decide +kernel), List.mem_of_getElem? (i := 975) (by decide +kernel)⟩
theorem lw_p40 : lw_okq (⟨"ArcLightModel", "sinks", "(II)V"⟩, 20) := ⟨⟨by decide +kernel, by decide +kernel⟩, List.mem_of_getElem? (i := 746) (by decide +kernel), List.mem_of_getElem? (i := 978) (by decide +kernel), List.mem_of_getElem? (i := 979) (by decide +kernel)⟩
theorem lw_p41 : lw_okq (⟨"ArcLightModel", "isRight", "(I)Z"⟩, 20) := ⟨⟨by decide +kernel, by decide +kernel⟩, List.mem_of_getElem? (i := 746) (by decide +kernel), List.mem_of_getElem? (i := 998) (by decide +kernel), List.mem_of_getElem? (i := 999) (by decide +kernel)⟩
theorem lw_p42 : lw_okq (⟨"ArcLightModel", "adds", "(IIII)V"⟩, 20) := ⟨⟨by decide +kernel, by decide +kernel⟩, List.mem_of_getElem? (i := 746) (by decide +kernel), List.mem_of_getElem? (i := 1002) (by decide +kernel), List.mem_of_getElem? (i := 1003) (by decide +kernel)⟩
def lw_privs_3 : List (MethodName × Nat) := [(⟨"ArcLightModel", "keyOf", "(I)J"⟩, 20), (⟨"ArcLightModel", "may", "(IIZ)Z"⟩, 20), (⟨"ArcLightModel", "doCross", "(II)Z"⟩, 20), (⟨"ArcLightModel", "asksTree", "(IZ)Z"⟩, 20), (⟨"ArcLightModel", "scoreIn", "(J)I"⟩, 20), (⟨"ArcLightModel", "headIn", "(IJI)I"⟩, 20), (⟨"ArcLightModel", "asksRank", "(IZIZ)Z"⟩, 20), (⟨"ArcLightModel", "lists", "(IZ)V"⟩, 20), (⟨"ArcLightModel", "sinks", "(II)V"⟩, 20), (⟨"ArcLightModel", "isRight", "(I)Z"⟩, 20), (⟨"ArcLightModel", "adds", "(IIII)V"⟩, 20)]
theorem lw_r3 : ∀ q ∈ lw_privs_3, lw_okq q := List.forall_mem_cons.mpr ⟨lw_p32, List.forall_mem_cons.mpr ⟨lw_p33, List.forall_mem_cons.mpr ⟨lw_p34, List.forall_mem_cons.mpr ⟨lw_p35, List.forall_mem_cons.mpr ⟨lw_p36, List.forall_mem_cons.mpr ⟨lw_p37, List.forall_mem_cons.mpr ⟨lw_p38, List.forall_mem_cons.mpr ⟨lw_p39, List.forall_mem_cons.mpr ⟨lw_p40, List.forall_mem_cons.mpr ⟨lw_p41, List.forall_mem_cons.mpr ⟨lw_p42, fun _ h => absurd h List.not_mem_nil⟩⟩⟩⟩⟩⟩⟩⟩⟩⟩⟩
def lw_privs : List (MethodName × Nat) := lw_privs_1 ++ (lw_privs_2 ++ (lw_privs_3))
def lw_tbl : List Cond := k2_sels lw_privs ++ tables_1
theorem lw_privs_ok : ∀ q ∈ lw_privs, lw_okq q := by
  show ∀ q ∈ lw_privs_1 ++ (lw_privs_2 ++ (lw_privs_3)), lw_okq q
  exact List.forall_mem_append.mpr ⟨lw_r1, List.forall_mem_append.mpr ⟨lw_r2, lw_r3⟩⟩
/-- the streams that the claim lets the run draw from -/
abbrev lw_cs : List Choice := [Jvm.Choice.named "NaN.bits"]
theorem lw_bits : nanBits ∈ lw_cs := by first | decide | exact List.mem_cons_self | simp [lw_cs, nanBits]

def va_AOA (t : FieldType) (U : State) : Prop := (Cond.arrayOver (.array t)).before #[] U = true
theorem va_AOA.of {t : FieldType} {A : Array Value} {U : State} (h : (Cond.arrayOver (.array t)).before A U = true) : va_AOA t U := h
theorem va_AOA.use {t : FieldType} {A : Array Value} {U : State} (h : va_AOA t U) : (Cond.arrayOver (.array t)).before A U = true := h
/-! ===== BEGIN words of one list among another's, by their places ===== -/
theorem goodIn_r {big : List Cond} (ws : List Cond) (ps : List Nat) (hp : ws = ps.filterMap (fun i => big[i]?)) (h : ws.all goodWord = true) : GoodIn big ws := by
  intro w hw
  have h1 := List.all_eq_true.mp h w hw
  rw [hp] at hw
  obtain ⟨i, -, hi⟩ := List.mem_filterMap.mp hw
  have hm : w ∈ big := by first | exact List.mem_of_getElem? hi | exact List.getElem?_mem hi
  exact ⟨hm, good_of_word h1⟩
theorem goodIn_app {big a b : List Cond} (ha : GoodIn big a) (hb : GoodIn big b) : GoodIn big (a ++ b) := fun w h => (List.mem_append.mp h).elim (ha w) (hb w)
theorem goodIn_ca {big a b : List Cond} {c : Cond} (ha : GoodIn big (c :: a)) (hb : GoodIn big b) : GoodIn big (c :: (a ++ b)) := fun w h => (List.mem_cons.mp h).elim (fun e => ha w (List.mem_cons.mpr (Or.inl e))) (fun h => (List.mem_append.mp h).elim (fun h => ha w (List.mem_cons.mpr (Or.inr h))) (hb w))
theorem goodIn_sub {big ws : List Cond} (hm : ∀ w ∈ ws, w ∈ big) (h : ws.all goodWord = true) : GoodIn big ws := fun w hw => ⟨hm w hw, good_of_word (List.all_eq_true.mp h w hw)⟩
/-! ===== END ===== -/

/-! ===== BEGIN new T[n][m]: the outer array a place, the inner ones among the pooled ===== -/
/-- f, but v at every address of l -/
def vr_up {α : Type} (f : Nat → α) (l : List Nat) (v : α) : Nat → α := fun a => if a ∈ l then v else f a
theorem vr_up_in {α : Type} {f : Nat → α} {l : List Nat} {v : α} {a : Nat} (h : a ∈ l) : vr_up f l v a = v := if_pos h
theorem vr_up_ne {α : Type} {f : Nat → α} {l : List Nat} {v : α} {a : Nat} (h : a ∉ l) : vr_up f l v a = f a := if_neg h
theorem vr_rows {L l : List Nat} {f : Nat → va_E} {e : va_E} (h : ∀ a, a ∈ l → a ∉ L) : va_pl L f ++ l.map (fun a => (a, e)) = va_pl (L ++ l) (vr_up f l e) := by
  unfold va_pl
  rw [List.map_append]
  congr 1
  · apply List.map_congr_left
    intro a ha
    rw [vr_up_ne (fun q => h a q ha)]
  · apply List.map_congr_left
    intro a ha
    rw [vr_up_in ha]
theorem vr_lay {X rows : va_W} {x : Nat × va_E} {pl : va_W} {D : va_G} {cl : List vw_C} {H : Heap} (hP : va_P D cl (((X ++ pl) ++ [x]) ++ rows) H) : va_P D cl ((X ++ [x]) ++ (pl ++ rows)) H := by
  rw [List.append_assoc (X ++ pl)] at hP
  have h := va_P.swap hP
  rw [← List.append_assoc X] at h
  have h2 := va_P.swap h
  rw [List.append_assoc (X ++ [x])] at h2
  exact h2
theorem vr_layD {X rows : va_W} {x : Nat × va_E} {pl : va_W} {A : Nat → Prop} (hD : va_D A (((X ++ pl) ++ [x]) ++ rows)) : va_D A ((X ++ [x]) ++ (pl ++ rows)) := by
  rw [List.append_assoc (X ++ pl)] at hD
  have h := va_D.swap hD
  rw [← List.append_assoc X] at h
  have h2 := va_D.swap h
  rw [List.append_assoc (X ++ [x])] at h2
  exact h2
theorem vr_outer (c : ClassId) (N h0 : Nat) : ∀ i : Nat, Jvm.Free.Multi.outerC c N h0 i = arrV c N (fun j => va_rf (if j < i then some (h0 + 1 + j) else none))
  | 0 => by
    show ({ cls := c, slots := Array.replicate N .null, vm := .none } : Cell) = _
    rw [arrV_new]
    refine congrArg (arrV c N) (funext fun j => ?_)
    simp [va_rf]
  | i + 1 => by
    show (Jvm.Free.Multi.outerC c N h0 i).setSlot i (.ref (h0 + 1 + i)) = _
    rw [vr_outer c N h0 i, arrV_store]
    refine congrArg (arrV c N) (funext fun j => ?_)
    by_cases e : j = i
    · subst e
      simp [updV, va_rf]
    · by_cases h : j < i
      · simp [updV, e, h, Nat.lt_succ_of_lt h]
      · simp [updV, e, h, show ¬ j < i + 1 by omega]
section VGM
variable {p : Program} {l : Launch} {e : Env} {R : Room} {s : State} {m : MethodId} {args : Array Value} {below : List Frame} {meth : Method} {c : Code} {H : Heap} {locs : List Loc} {cells slots : Nat} {Q : State → Prop}
variable {cc : ByteArray} {pc : Nat} {ls : Array Slot} {rest : List Value} {D : va_G} {cl : List vw_C} {A : Nat → Prop} {a : Nat} {tys : List (ClassId × FieldType)} {ws : va_W} {H0 : Heap}
theorem va_mna {X : va_W} {L : List Nat} {f : Nat → va_E} {cc : ByteArray} (hexec : p.tables.exec = Jvm.exec) (hb : c.code = cc) {own : String} {index : Nat} {ty : FieldType} {cy : ClassId} (hown : s.vm.findClass own = some m.cls) (hclink : (Cond.classLink own index ("[" ++ (FieldType.array ty).toString)).before args s = true) (hover : va_AOA ty s) (harr : (Cond.arrayClass ty).before args s = true) (hcy : s.vm.findClass (FieldType.array ty).toString = some cy)
    (hK : va_K D cl tys s) (hP : va_P D cl (X ++ va_pl L f) H) (hD : va_D A (X ++ va_pl L f)) (hS : va_S A H0 H locs) (hA : ∀ q, H0.size ≤ q → A q) {n k : Int32} {N' K' : Nat} {z : vp_A} (hn : ¬ n < 0) (hk : ¬ k < 0) (hN : n.toNatClampNeg = N') (hM : k.toNatClampNeg = K')
    (hb1 : N' * 4 ≤ 536870912) (hb2 : K' * componentBytes ty ≤ 536870912) (hb3 : K' ≤ 536870912) (hdf : fits ty (defaultValue ty) = true) (hdd : (defaultValue ty).isDefault = true) (hcells : cells + (1 + N') ≤ R.cells) (hslots : slots + (N' + N' * K') ≤ R.slots) (hz : ∀ c : ClassId, Jvm.Free.Multi.innerC c K' (defaultValue ty) = vp_cell c z) (hdg : decode cc pc = .ok (.multianewarray index 2, 4))
    (kk : ∀ (q : Nat) (r : Nat → Nat) (cA : ClassId) (H1 : Heap), (∀ i j : Nat, i < N' → j < N' → r i = r j → i = j) → (∀ i : Nat, i < N' → r i ∉ L) → va_K D cl (tys ++ [(cA, .array ty)]) s →
      va_P D cl ((X ++ [(q, .inl (cA, N', .inr (.inr (.inr (.inr (fun i => if i < N' then some (r i) else none))))))]) ++ va_pl (L ++ (List.range N').map r) (vr_up f ((List.range N').map r) (.inl (cy, z)))) H1 → va_D A ((X ++ [(q, .inl (cA, N', .inr (.inr (.inr (.inr (fun i => if i < N' then some (r i) else none))))))]) ++ va_pl (L ++ (List.range N').map r) (vr_up f ((List.range N').map r) (.inl (cy, z)))) → va_S A H0 H1 locs →
      W p l e R s m args below meth c H1 locs (cells + 1 + N') (slots + N' + N' * K') Q (F0 m (pc + 4) ls (.ref q :: rest))) : W p l e R s m args below meth c H locs cells slots Q (F0 m pc ls (.int k :: .int n :: rest)) := by
  subst hN
  subst hM
  intro T hT Xs
  obtain ⟨vm₁, cA, comp, -, fA, fC, hO, -, X', step⟩ := Xs.multianewarray2F hexec hown hclink (va_AOA.use hover) harr (g := F0 m pc ls (.int k :: .int n :: rest)) rfl (by rw [hb]; exact hdg) rfl hn hk hb1 hb2 hb3 hdf hdd hcells hslots
  have ec : some cy = some comp := hcy.symm.trans fC
  cases ec
  generalize hF : Jvm.Free.Multi.fill (T.setVm vm₁) cA cy n.toNatClampNeg k.toNatClampNeg (defaultValue ty) n.toNatClampNeg = F at X' step
  have hTh : (T.setVm vm₁).heap = H := hT
  obtain ⟨f1, f2, -, -⟩ := Jvm.Free.Multi.fill_facts (T.setVm vm₁) cA cy n.toNatClampNeg k.toNatClampNeg (defaultValue ty) n.toNatClampNeg
  rw [hF, hTh] at f1 f2
  have hold : ∀ x : Nat, x < H.size → F.heap[x]? = H[x]? := fun x hx => by
    have := Jvm.Free.Multi.fill_old (T.setVm vm₁) cA cy n.toNatClampNeg k.toNatClampNeg (defaultValue ty) (a := x) (by rw [hTh]; exact hx) n.toNatClampNeg
    rw [hF, hTh] at this
    exact this
  have hrow : ∀ j : Nat, j < n.toNatClampNeg → F.heap[H.size + 1 + j]? = some (vp_cell cy z) := fun j hj => by
    have := Jvm.Free.Multi.fill_inner (T.setVm vm₁) cA cy n.toNatClampNeg k.toNatClampNeg (defaultValue ty) n.toNatClampNeg j hj
    rw [hF, hTh, hz] at this
    exact this
  have hout : Jvm.Free.Multi.outerC cA n.toNatClampNeg H.size n.toNatClampNeg = vp_cell cA (n.toNatClampNeg, .inr (.inr (.inr (.inr (fun i => if i < n.toNatClampNeg then some (H.size + 1 + i) else none))))) := by
    rw [vp_cell_q]
    exact vr_outer cA n.toNatClampNeg H.size n.toNatClampNeg
  rw [hout] at f2
  have hlt : ∀ a, a ∈ L → a < H.size := fun a ha => by
    obtain ⟨k9, hk9⟩ := va_pl_get (X := X) (f := f) ha
    exact (hP k9 _ hk9).lt
  have hnl : ∀ i : Nat, i < n.toNatClampNeg → H.size + 1 + i ∉ L := fun i _ h => by
    have := hlt _ h
    omega
  have hnm : ∀ a, a ∈ (List.range n.toNatClampNeg).map (fun i => H.size + 1 + i) → a ∉ L := fun a ha h => by
    obtain ⟨i, -, rfl⟩ := List.mem_map.mp ha
    have := hlt _ h
    omega
  have hP0 : va_P D cl (X ++ va_pl L f) F.heap := hP.kept (fun k9 x hx => hold x.1 ((hP k9 x hx).lt))
  have hP1 : va_P D cl ((X ++ va_pl L f) ++ [(H.size, .inl (cA, n.toNatClampNeg, .inr (.inr (.inr (.inr (fun i => if i < n.toNatClampNeg then some (H.size + 1 + i) else none))))))]) F.heap := hP0.app (fun k9 x hx => by
    have h0 : k9 < 1 := (List.getElem?_eq_some_iff.mp hx).1
    rw [show k9 = 0 by omega] at hx
    cases hx
    exact f2)
  have hP2 : va_P D cl (((X ++ va_pl L f) ++ [(H.size, .inl (cA, n.toNatClampNeg, .inr (.inr (.inr (.inr (fun i => if i < n.toNatClampNeg then some (H.size + 1 + i) else none))))))]) ++ ((List.range n.toNatClampNeg).map (fun i => H.size + 1 + i)).map (fun a => (a, .inl (cy, z)))) F.heap := hP1.app (fun k9 x hx => by
    obtain ⟨a, ha, rfl⟩ := List.mem_map.mp (List.mem_of_getElem? hx)
    obtain ⟨i, hi, rfl⟩ := List.mem_map.mp ha
    exact hrow i (List.mem_range.mp hi))
  have hD2 : va_D A (((X ++ va_pl L f) ++ [(H.size, .inl (cA, n.toNatClampNeg, .inr (.inr (.inr (.inr (fun i => if i < n.toNatClampNeg then some (H.size + 1 + i) else none))))))]) ++ ((List.range n.toNatClampNeg).map (fun i => H.size + 1 + i)).map (fun a => (a, .inl (cy, z)))) := by
    have hD1 := hD.push (e := .inl (cA, n.toNatClampNeg, .inr (.inr (.inr (.inr (fun i => if i < n.toNatClampNeg then some (H.size + 1 + i) else none)))))) hP rfl (hA _ hS.1)
    generalize hW1 : (X ++ va_pl L f) ++ [(H.size, .inl (cA, n.toNatClampNeg, .inr (.inr (.inr (.inr (fun i => if i < n.toNatClampNeg then some (H.size + 1 + i) else none))))))] = W1 at hD1 hP1 ⊢
    have hle : ∀ (k9 : Nat) (x : Nat × va_E), W1[k9]? = some x → x.1 ≤ H.size := fun k9 x hx => by
      rw [← hW1] at hx
      by_cases hl : k9 < (X ++ va_pl L f).length
      · rw [List.getElem?_append_left hl] at hx
        exact Nat.le_of_lt ((hP k9 x hx).lt)
      · rw [List.getElem?_append_right (by omega)] at hx
        have h0 : k9 - (X ++ va_pl L f).length < 1 := (List.getElem?_eq_some_iff.mp hx).1
        rw [show k9 - (X ++ va_pl L f).length = 0 by omega] at hx
        cases hx
        exact Nat.le_refl _
    have hr : ∀ (k9 : Nat) (x : Nat × va_E), (((List.range n.toNatClampNeg).map (fun i => H.size + 1 + i)).map (fun a => ((a, .inl (cy, z)) : Nat × va_E)))[k9]? = some x → x.1 = H.size + 1 + k9 := fun k9 x hx => by
      rw [List.getElem?_map, List.getElem?_map] at hx
      by_cases h9 : k9 < n.toNatClampNeg
      · rw [List.getElem?_range h9] at hx
        cases hx
        rfl
      · have hn0 : (List.range n.toNatClampNeg)[k9]? = none := List.getElem?_eq_none (by rw [List.length_range]; omega)
        rw [hn0] at hx
        cases hx
    refine ⟨fun i j x y hi hj hxy => ?_, fun k9 x hx => ?_⟩
    · by_cases h1 : i < W1.length <;> by_cases h2 : j < W1.length
      · rw [List.getElem?_append_left h1] at hi
        rw [List.getElem?_append_left h2] at hj
        exact hD1.1 i j x y hi hj hxy
      · rw [List.getElem?_append_left h1] at hi
        rw [List.getElem?_append_right (by omega)] at hj
        have := hle _ _ hi
        have := hr _ _ hj
        omega
      · rw [List.getElem?_append_right (by omega)] at hi
        rw [List.getElem?_append_left h2] at hj
        have := hle _ _ hj
        have := hr _ _ hi
        omega
      · rw [List.getElem?_append_right (by omega)] at hi hj
        have := hr _ _ hi
        have := hr _ _ hj
        omega
    · by_cases h1 : k9 < W1.length
      · rw [List.getElem?_append_left h1] at hx
        exact hD1.2 k9 x hx
      · rw [List.getElem?_append_right (by omega)] at hx
        have := hr _ _ hx
        exact hA _ (by have := hS.1; omega)
  have hAr : ArrOfT s cA (.array ty) := fun N9 z9 => by
    obtain ⟨-, k9, hk9, cm9, hkk9⟩ := (hO 0 0 0).1
    exact ⟨(fun q hq => by cases hq), k9, hk9, cm9, hkk9⟩
  have hK2 : va_K D cl (tys ++ [(cA, .array ty)]) s := ⟨hK.1, fun k9 x hx => by
    by_cases hl : k9 < tys.length
    · rw [List.getElem?_append_left hl] at hx
      exact hK.2 k9 x hx
    · rw [List.getElem?_append_right (by omega)] at hx
      have h0 : k9 - tys.length < 1 := (List.getElem?_eq_some_iff.mp hx).1
      rw [show k9 - tys.length = 0 by omega] at hx
      cases hx
      exact ⟨hAr, fA⟩⟩
  obtain ⟨t, a1, b1⟩ := kk H.size (fun i => H.size + 1 + i) cA F.heap (fun i j _ _ h => by have h9 : H.size + 1 + i = H.size + 1 + j := h; omega) hnl hK2 (by rw [← vr_rows hnm]; exact vr_lay hP2) (by rw [← vr_rows hnm]; exact vr_layD hD2) ⟨by rw [f1]; have := hS.1; omega, fun x h1 h2 => (hold x (Nat.lt_of_lt_of_le h1 hS.1)).trans (hS.2.1 x h1 h2), hS.2.2⟩ F rfl X'
  refine ⟨t, step t ?_, b1⟩
  have e : T.heap.size = H.size := by rw [hT]
  rw [e]
  exact a1
end VGM
/-! ===== END ===== -/

/-! ===== BEGIN exceptions that leave a method, and their catching by the caller (launches without stack traces) ===== -/
section VXA
/-! The laws vx_back, vx_callV, vx_callS, vx_callSW, vx_throw0, vx_throwS follow proofs of the library, with one case more: JvmDerived/Free/Laws.lean (Back.of_free), Shelf42/LK1.lean (callV, callS), Shelf/KitTraced.lean (throwNew0V, throwNewS). -/
/-- where a method has thrown q: the class by its name, the cell, what was written, the world -/
def vx_T (XC : String → State → State → Prop) (st : State) (q : Addr) (t : State) (mc ms : Nat) (free : Addr → Prop) : Prop :=
  ∃ (E : String) (ce : Cell) (L : List Loc), XC E st t ∧ t.heap[q]? = some ce ∧ ce.vm = .none ∧ st.vm.findClass E = some ce.cls ∧ st.WarmedH t.vm ∧ st.sameButNew ({ t with vm := st.vm } : State) L mc ms ∧ ∀ z ∈ L, free z.base
def vx_Q (Qc : Array Value → State → Outcome → State → Prop) (XC : String → State → State → Prop) (mc ms : Nat) (free : Addr → Prop) : Array Value → State → Outcome → State → Prop := fun a st o t =>
  (Qc a st o t ∧ ∃ L, FrameEnd st o t L mc ms ∧ ∀ q ∈ L, free q.base) ∨ ∃ q, o = .threw q ∧ vx_T XC st q t mc ms free
/-- a callee that returns or throws -/
def vx_Met (l : Launch) (y : MethodName) (ws : List Cond) (rm : Room) (Pc : Array Value → State → Prop) (Qc : Array Value → State → Outcome → State → Prop) (XC : String → State → State → Prop) (mc ms : Nat) (free : Addr → Prop) : Prop :=
  MetFree l y (headSpec ws rm) Pc (fun _ _ _ _ _ => True) (vx_Q Qc XC mc ms free)
def vx_Post (XC : String → State → State → Prop) (mc ms : Nat) (free : Addr → Prop) : Pt → Array Value → Addr → Pt → Prop := fun A a q B =>
  ∃ (g : JFrame) (mk : MethodId) (t : State) (L : List Loc) (E : String) (ce : Cell), B.U.heap = t.heap ∧ B.U.vm = t.vm ∧ XC E (A.U.calling g mk a) t ∧ t.heap[q]? = some ce ∧ ce.vm = .none ∧ A.U.vm.findClass E = some ce.cls ∧ B.locs = A.locs ++ L ∧ (∀ z ∈ L, free z.base) ∧ B.cells = A.cells + mc ∧ B.slots = A.slots + ms
def vx_Back (l : Launch) (R : Room) (p : Program) (e : Env) (below : List Frame) (s : State) (sargs : Array Value) (y : MethodName) (len W9 : Nat)
    (Pre : Pt → Array Value → Prop) (Post : Pt → Array Value → Option Value → Pt → Prop) (PostX : Pt → Array Value → Addr → Pt → Prop) : Prop :=
  ∀ (m : MethodId) (meth : Method) (c : Code) (A : Pt) (g : JFrame) (ig : Instr) (mk : MethodId) (a : Array Value),
    Stand p l e R s m sargs below meth c A.U A.locs A.cells A.slots → g.method = m → g.locals.size = c.maxLocals → decode c.code g.pc = .ok (ig, len) →
    2 * g.monitorRoom + (g.stack.map fun v => v.category).sum ≤ W9 → A.U.methodNamed? y = some mk → Pre A a →
    (∃ (v : Option Value) (B : Pt), Stand p l e R s m sargs below meth c B.U B.locs B.cells B.slots ∧ Post A a v B ∧
      Steps p.tables e below (doInvoke e (A.U.setTop g) [] mk a).1 (B.U.setTop { g with pc := g.pc + len, stack := v.toList ++ g.stack })) ∨
    (∃ (q : Addr) (B : Pt), Stand p l e R s m sargs below meth c B.U B.locs B.cells B.slots ∧ PostX A a q B ∧
      Steps p.tables e below (doInvoke e (A.U.setTop g) [] mk a).1 ((B.U.setTop g).pushFrame (.throwing q)))
section Payer
variable {l : Launch} {R : Room} {p : Program} {e : Env} {below : List Frame} {s : State} {sargs : Array Value} {y : MethodName} {len W9 : Nat}
theorem vx_back {ws : List Cond} {rm : Room} {Pc : Array Value → State → Prop} {Qc : Array Value → State → Outcome → State → Prop} {XC : String → State → State → Prop} {mc ms : Nat} {free : Addr → Prop} {bytes : ByteArray} {maxL : Nat} {ret : Option FieldType}
    (hM : vx_Met l y ws rm Pc Qc XC mc ms free) (hblind : FrameBlind Pc) (hrc : rm.cells = mc) (hrs : rm.slots = ms)
    (hframes : rm.frames + 1 ≤ R.frames) (hlocals : W9 + (maxL + 11) + rm.locals ≤ R.locals)
    (hws : ∀ w ∈ ws, ∀ a' U, s.WarmedH U.vm → w.before a' U = true) (hcode : Cond.code y bytes maxL ret ∈ ws) (hinit : ∀ a' U, s.WarmedH U.vm → (Cond.initialized y.cls).before a' U = true) :
    vx_Back l R p e below s sargs y len W9 (PreOf R mc ms Pc) (PostOf Qc mc ms free) (vx_Post XC mc ms free) := by
  intro m meth c A g ig mk a X hg hsize hdg hW hn hp
  have h1 : (headSpec ws rm).pre.before a A.U = true := atoms_intro fun w hw => hws w hw _ _ X.warmed
  have h2 : (Cond.code y bytes maxL ret).before a A.U = true := hws _ hcode _ _ X.warmed
  have h3 : (Cond.initialized y.cls).before a A.U = true := hinit _ _ X.warmed
  have h4 : A.cells + (headSpec ws rm).room.cells ≤ R.cells := by rw [show (headSpec ws rm).room.cells = mc from hrc]; exact hp.1
  have h5 : A.slots + (headSpec ws rm).room.slots ≤ R.slots := by rw [show (headSpec ws rm).room.slots = ms from hrs]; exact hp.2.1
  have hPc : Pc a (A.U.calling g mk a) := hblind _ _ _ _ hp.2.2
  obtain ⟨U, Ls, c0, s0⟩ := A
  dsimp only [Pt.U, Pt.locs, Pt.cells, Pt.slots] at h1 h2 h3 h4 h5 X hn hPc ⊢
  obtain ⟨methY, cY, hmY, hcY, -, hlY, -, -, -, -⟩ := Cond.code_spec hn h2
  obtain ⟨kY, hkY, -⟩ := className_of_methodNamed hn
  have hinitY : kY.init = .initialized := Cond.initialized_spec (findClass_of_methodNamed hn) hkY h3
  have h : At U g.method c below := by rw [hg]; exact X.here
  have hlocals9 : W9 + (maxL + 11) + (headSpec ws rm).room.locals ≤ R.locals := hlocals
  have happ : (headSpec ws rm).appliesLoose y e.platform (U.calling g mk a) = true :=
    Spec.appliesLoose_calling (g := g) h hdg hn hkY hinitY
      (X.room_calling (g := g) (R' := (headSpec ws rm).room) hsize hmY hcY hframes (by rw [hlY]; omega) h4 h5) h1
  obtain ⟨mid, hmid⟩ := h.above
  have hfr : (U.setTop g).frames = (.java g :: mid) ++ below := by rw [State.frames_setTop' g h.top, hmid]; rfl
  obtain ⟨o, s₂, hsteps, -, hend, hq⟩ := Steps.callFree hM p X.admits X.cas X.clock (acts := []) hfr happ hPc trivial
  have hq' : vx_Q Qc XC mc ms free a (U.calling g mk a) o s₂ := hq
  rw [State.frames_setTop' g h.top] at hend
  obtain ⟨g₀, hg0⟩ := Option.isSome_iff_exists.mp h.top
  obtain ⟨r, hr⟩ := State.topJava?_eq_some.mp hg0
  have hr' : (({ U with heap := s₂.heap, slotsUsed := s₂.slotsUsed } : State).setVm s₂.vm).frames = .java g₀ :: r := hr
  rcases hq' with ⟨hqc, L, hfe, hL⟩ | ⟨q, rfl, E, ce, L, hx, hce, hcv, hcl, hW₂, hsm, hL⟩
  · obtain ⟨⟨v, rfl⟩, hW₂, e2, q2, q3, q4, q5, q6⟩ := id hfe
    have e3 : s₂ = ({ (U.calling g mk a).setFrames s₂.frames with heap := s₂.heap, slotsUsed := s₂.slotsUsed } : State).setVm s₂.vm := by
      have : s₂ = ({ s₂ with vm := (U.calling g mk a).vm } : State).setVm s₂.vm := rfl
      rw [e2] at this
      exact this
    obtain ⟨c₂, i₂, len₂, hc₂, hd₂, hf₂⟩ := hend
    have hW' : U.WarmedH s₂.vm := hW₂
    have hcc : c₂ = c := by
      have h1 : s₂.code? g.method = U.code? g.method := by
        rw [State.code?_eq, State.code?_eq, hW'.alike.method?]
      exact Option.some.inj (hc₂.symm.trans (h1.trans h.code))
    subst hcc
    have hlen : len₂ = len := by rw [hdg] at hd₂; cases hd₂; rfl
    subst hlen
    have hs₂ : s₂ = (({ U with heap := s₂.heap, slotsUsed := s₂.slotsUsed } : State).setVm s₂.vm).setTop { g with pc := g.pc + len₂, stack := v.toList ++ g.stack } := by
      refine e3.trans ?_
      rw [hf₂, State.calling_eq h.top, State.setFrames_setFrames, State.setTop_of_frames _ hr', hr]
      rfl
    have hsame : U.sameButNew ({ U with heap := s₂.heap, slotsUsed := s₂.slotsUsed } : State) L mc ms := by
      refine ⟨?_, q2, q3, q4, q5, q6⟩
      obtain ⟨t, ht, -⟩ := State.frames_cons hr
      show ({ U with heap := s₂.heap, slotsUsed := s₂.slotsUsed } : State) = { U.setFrames U.frames with heap := s₂.heap, slotsUsed := s₂.slotsUsed }
      rw [State.setFrames_self ht]
    subst hg
    refine Or.inl ⟨v, ⟨(({ U with heap := s₂.heap, slotsUsed := s₂.slotsUsed } : State).setVm s₂.vm), Ls ++ L, c0 + mc, s0 + ms⟩,
      ⟨X.admits, X.cas, X.clock, X.frames, X.room, X.hears, X.method, X.code, (X.here.setHeapUsed s₂.heap s₂.slotsUsed).setVm hW'.alike, X.tail, State.WarmedH.trans X.warmed hW', X.limits, X.bytes, X.same.trans (hsame.setVm s.vm)⟩,
      ⟨g, mk, s₂, L, rfl, rfl, hqc, rfl, hL, rfl, rfl⟩, ?_⟩
    show Steps p.tables e below _ ((({ U with heap := s₂.heap, slotsUsed := s₂.slotsUsed } : State).setVm s₂.vm).setTop { g with pc := g.pc + len₂, stack := v.toList ++ g.stack })
    rw [← hs₂]
    exact hsteps
  · obtain ⟨e2, q2, q3, q4, q5, q6⟩ := id hsm
    have e3 : s₂ = ({ (U.calling g mk a).setFrames s₂.frames with heap := s₂.heap, slotsUsed := s₂.slotsUsed } : State).setVm s₂.vm := by
      have : s₂ = ({ s₂ with vm := (U.calling g mk a).vm } : State).setVm s₂.vm := rfl
      rw [e2] at this
      exact this
    have hf₂ : s₂.frames = .throwing q :: .java g :: U.frames.tail := hend
    have hW' : U.WarmedH s₂.vm := hW₂
    have hs₂ : s₂ = ((({ U with heap := s₂.heap, slotsUsed := s₂.slotsUsed } : State).setVm s₂.vm).setTop g).pushFrame (.throwing q) := by
      refine e3.trans ?_
      rw [hf₂, State.calling_eq h.top, State.setFrames_setFrames, State.pushFrame, State.frames_setTop _ hr', State.setTop_of_frames _ hr', State.setFrames_setFrames, hr]
      rfl
    have hsame : U.sameButNew ({ U with heap := s₂.heap, slotsUsed := s₂.slotsUsed } : State) L mc ms := by
      refine ⟨?_, q2, q3, q4, q5, q6⟩
      obtain ⟨t, ht, -⟩ := State.frames_cons hr
      show ({ U with heap := s₂.heap, slotsUsed := s₂.slotsUsed } : State) = { U.setFrames U.frames with heap := s₂.heap, slotsUsed := s₂.slotsUsed }
      rw [State.setFrames_self ht]
    subst hg
    refine Or.inr ⟨q, ⟨(({ U with heap := s₂.heap, slotsUsed := s₂.slotsUsed } : State).setVm s₂.vm), Ls ++ L, c0 + mc, s0 + ms⟩,
      ⟨X.admits, X.cas, X.clock, X.frames, X.room, X.hears, X.method, X.code, (X.here.setHeapUsed s₂.heap s₂.slotsUsed).setVm hW'.alike, X.tail, State.WarmedH.trans X.warmed hW', X.limits, X.bytes, X.same.trans (hsame.setVm s.vm)⟩,
      ⟨g, mk, s₂, L, E, ce, rfl, rfl, hx, hce, hcv, hcl, rfl, hL, rfl, rfl⟩, ?_⟩
    show Steps p.tables e below _ (((({ U with heap := s₂.heap, slotsUsed := s₂.slotsUsed } : State).setVm s₂.vm).setTop g).pushFrame (.throwing q))
    rw [← hs₂]
    exact hsteps
end Payer
section Calls
variable {p : Program} {l : Launch} {e : Env} {R : Room} {s : State} {m : MethodId} {args : Array Value} {below : List Frame} {meth : Method} {c : Code} {T : State} {locs : List Loc} {cells slots : Nat}
theorem vx_callV (X : Stand p l e R s m args below meth c T locs cells slots) (hexec : p.tables.exec = Jvm.exec) {own C : String} {index : Nat} {y : MethodName} {bytes : ByteArray} {maxL : Nat} {ret : Option FieldType}
    (hown : s.vm.findClass own = some m.cls) (hlink : (Cond.methodLink own index y).before args s = true) (hinst : (Cond.instanceMethod y).before args s = true) (hsel : (Cond.selects C y y).before args s = true)
    (hcode : (Cond.code y bytes maxL ret).before args s = true) (hy : y.cls ≠ "java/lang/invoke/MethodHandle" ∧ y.cls ≠ "java/lang/invoke/VarHandle")
    {W9 : Nat} {Pre : Pt → Array Value → Prop} {Post : Pt → Array Value → Option Value → Pt → Prop} {PostX : Pt → Array Value → Addr → Pt → Prop} (hK : vx_Back l R p e below s args y 3 W9 Pre Post PostX)
    {b : Addr} {cellB : Cell} (hcell : T.heap[b]? = some cellB) (hobj : cellB.vm.isStatics = false) (hcls : s.vm.findClass C = some cellB.cls)
    {g : JFrame} (hg : g.method = m) (hsize : g.locals.size = c.maxLocals) {argsL rest : List Value} (hlen : ∀ sig, parseMethodDescriptor y.desc = some sig → argsL.length = sig.parameters.length)
    (hstack : g.stack = argsL.reverse ++ .ref b :: rest) (hW : 2 * g.monitorRoom + (rest.map fun v => v.category).sum ≤ W9) (hdg : decode c.code g.pc = .ok (.invokevirtual index, 3))
    (hpre : ∀ vm₁, s.WarmedH vm₁ → Pre ⟨T.setVm vm₁, locs, cells, slots⟩ (Value.ref b :: argsL).toArray) :
    (∃ (v : Option Value) (vm₁ : Vm) (B : Pt), s.WarmedH vm₁ ∧ Stand p l e R s m args below meth c B.U B.locs B.cells B.slots ∧ Post ⟨T.setVm vm₁, locs, cells, slots⟩ (Value.ref b :: argsL).toArray v B ∧
      ∀ target, Steps p.tables e below (B.U.setTop { g with pc := g.pc + 3, stack := v.toList ++ rest }) target → Steps p.tables e below (T.setTop g) target) ∨
    (∃ (q : Addr) (vm₁ : Vm) (B : Pt), s.WarmedH vm₁ ∧ Stand p l e R s m args below meth c B.U B.locs B.cells B.slots ∧ PostX ⟨T.setVm vm₁, locs, cells, slots⟩ (Value.ref b :: argsL).toArray q B ∧
      Steps p.tables e below (T.setTop g) ((B.U.setTop { g with stack := rest }).pushFrame (.throwing q))) := by
  obtain ⟨mk, methM, hnamed, hmethM, hstM, habM⟩ := Cond.instanceMethod_spec hinst
  obtain ⟨methM', cM, hmethM', -, -, -, -, -, -, hsigM⟩ := Cond.code_spec hnamed hcode
  cases hmethM.symm.trans hmethM'
  obtain ⟨c2, r2, m2, q1, q2, q3, q4, kP, hkP, hkPi⟩ := Cond.selects_spec hsel
  cases hcls.symm.trans q1
  cases (State.methodFound?_of_named hnamed hy).symm.trans q2
  cases hnamed.symm.trans q3
  have hselP : selectMethod e.platform s.vm cellB.cls mk = .method mk := by rw [Launch.admits_selectMethod X.admits]; exact q4
  obtain ⟨vm₁, X₁, hstep₁⟩ := X.invokevirtual hexec hown hlink hnamed hmethM hstM hkP hkPi hy (a := b) (cell := cellB) hcell
    (fun z h => by rw [h] at hobj; cases hobj) hselP hmethM habM hkP hkPi (g := g) hg (argsL := argsL) (rest := rest) (hlen _ hsigM) hstack hdg
  rcases hK m meth c ⟨T.setVm vm₁, locs, cells, slots⟩ { g with stack := rest } (.invokevirtual index) mk (Value.ref b :: argsL).toArray X₁ hg hsize hdg hW (X₁.named hnamed) (hpre vm₁ X₁.warmed) with ⟨v, B, X', hpost, hsteps⟩ | ⟨q, B, X', hpost, hsteps⟩
  · exact Or.inl ⟨v, vm₁, B, X₁.warmed, X', hpost, fun target h => hstep₁ _ fun acts => by rw [doInvoke_state]; exact hsteps.trans h⟩
  · exact Or.inr ⟨q, vm₁, B, X₁.warmed, X', hpost, hstep₁ _ fun acts => by rw [doInvoke_state]; exact hsteps⟩
theorem vx_callS (X : Stand p l e R s m args below meth c T locs cells slots) (hexec : p.tables.exec = Jvm.exec) {own : String} {index : Nat} {y : MethodName} {bytes : ByteArray} {maxL : Nat} {ret : Option FieldType}
    (hown : s.vm.findClass own = some m.cls) (hlink : (Cond.methodLink own index y).before args s = true) (hstat : (Cond.static y).before args s = true) (hinit : (Cond.initialized y.cls).before args s = true)
    (hcode : (Cond.code y bytes maxL ret).before args s = true) (hy : y.cls ≠ "java/lang/invoke/MethodHandle" ∧ y.cls ≠ "java/lang/invoke/VarHandle")
    {W9 : Nat} {Pre : Pt → Array Value → Prop} {Post : Pt → Array Value → Option Value → Pt → Prop} {PostX : Pt → Array Value → Addr → Pt → Prop} (hK : vx_Back l R p e below s args y 3 W9 Pre Post PostX)
    {g : JFrame} (hg : g.method = m) (hsize : g.locals.size = c.maxLocals) {argsL rest : List Value} (hlen : ∀ sig, parseMethodDescriptor y.desc = some sig → argsL.length = sig.parameters.length)
    (hstack : g.stack = argsL.reverse ++ rest) (hW : 2 * g.monitorRoom + (rest.map fun v => v.category).sum ≤ W9) (hdg : decode c.code g.pc = .ok (.invokestatic index, 3))
    (hpre : ∀ vm₁, s.WarmedH vm₁ → Pre ⟨T.setVm vm₁, locs, cells, slots⟩ argsL.toArray) :
    (∃ (v : Option Value) (vm₁ : Vm) (B : Pt), s.WarmedH vm₁ ∧ Stand p l e R s m args below meth c B.U B.locs B.cells B.slots ∧ Post ⟨T.setVm vm₁, locs, cells, slots⟩ argsL.toArray v B ∧
      ∀ target, Steps p.tables e below (B.U.setTop { g with pc := g.pc + 3, stack := v.toList ++ rest }) target → Steps p.tables e below (T.setTop g) target) ∨
    (∃ (q : Addr) (vm₁ : Vm) (B : Pt), s.WarmedH vm₁ ∧ Stand p l e R s m args below meth c B.U B.locs B.cells B.slots ∧ PostX ⟨T.setVm vm₁, locs, cells, slots⟩ argsL.toArray q B ∧
      Steps p.tables e below (T.setTop g) ((B.U.setTop { g with stack := rest }).pushFrame (.throwing q))) := by
  obtain ⟨mk, hnamed⟩ := Cond.code_named hcode
  obtain ⟨methM, cM, hmethM, -, -, -, -, -, -, hsigM⟩ := Cond.code_spec hnamed hcode
  have hstatic : methM.isStatic = true := Cond.static_spec hnamed hmethM hstat
  obtain ⟨kP, hkP, -⟩ := className_of_methodNamed hnamed
  have hinitP : kP.init = .initialized := Cond.initialized_spec (findClass_of_methodNamed hnamed) hkP hinit
  obtain ⟨vm₁, X₁, hstep₁⟩ := X.invokestatic hexec hown hlink hnamed hmethM hstatic hkP hinitP hy (g := g) hg (argsL := argsL) (rest := rest) (hlen _ hsigM) hstack hdg
  rcases hK m meth c ⟨T.setVm vm₁, locs, cells, slots⟩ { g with stack := rest } (.invokestatic index) mk argsL.toArray X₁ hg hsize hdg hW (X₁.named hnamed) (hpre vm₁ X₁.warmed) with ⟨v, B, X', hpost, hsteps⟩ | ⟨q, B, X', hpost, hsteps⟩
  · exact Or.inl ⟨v, vm₁, B, X₁.warmed, X', hpost, fun target h => hstep₁ _ fun acts => by rw [doInvoke_state]; exact hsteps.trans h⟩
  · exact Or.inr ⟨q, vm₁, B, X₁.warmed, X', hpost, hstep₁ _ fun acts => by rw [doInvoke_state]; exact hsteps⟩
end Calls
theorem vx_cls {s : State} {T : State} {vm₁ : Vm} {E : String} {k : ClassId} (hW : s.WarmedH vm₁) (h : (T.setVm vm₁).vm.findClass E = some k) : s.vm.findClass E = some k := by
  have h1 : vm₁.findClass E = some k := h
  rw [hW.alike.findClass] at h1
  exact h1
/-- the method's frame g, with q thrown over it -/
def vx_W (p : Program) (l : Launch) (e : Env) (R : Room) (s : State) (m : MethodId) (args : Array Value) (below : List Frame) (meth : Method) (c : Code) (H : Heap) (locs : List Loc) (cells slots : Nat) (Q : State → Prop) (g : JFrame) (q : Addr) : Prop :=
  ∀ T : State, T.heap = H → Stand p l e R s m args below meth c T locs cells slots → ∃ t, Steps p.tables e below ((T.setTop g).pushFrame (.throwing q)) t ∧ Q t
def vx_Run (p : Program) (l : Launch) (e : Env) (R : Room) (s : State) (m : MethodId) (args : Array Value) (below : List Frame) (meth : Method) (c : Code) (H : Heap) (locs : List Loc) (cells slots mc ms : Nat) (g : JFrame) (rest : List Value) (Qa : State → Outcome → State → Prop) (XC : String → State → State → Prop) (free : Addr → Prop) : Prop :=
  ∀ T : State, T.heap = H → Stand p l e R s m args below meth c T locs cells slots →
    (∃ (v : Option Value) (st₀ t T' : State) (L : List Loc), st₀.heap = H ∧ Stand p l e R s m args below meth c T' (locs ++ L) (cells + mc) (slots + ms) ∧ (∀ q ∈ L, free q.base) ∧ T'.heap = t.heap ∧ T'.vm = t.vm ∧ Qa st₀ (.returned v) t ∧
      Goes p e below T g T' { g with pc := g.pc + 3, stack := v.toList ++ rest }) ∨
    (∃ (q : Addr) (st₀ t T' : State) (L : List Loc) (E : String) (ce : Cell), st₀.heap = H ∧ Stand p l e R s m args below meth c T' (locs ++ L) (cells + mc) (slots + ms) ∧ (∀ z ∈ L, free z.base) ∧ T'.heap = t.heap ∧ T'.vm = t.vm ∧ XC E st₀ t ∧ t.heap[q]? = some ce ∧ ce.vm = .none ∧ s.vm.findClass E = some ce.cls ∧
      Steps p.tables e below (T.setTop g) ((T'.setTop { g with stack := rest }).pushFrame (.throwing q)))
def vx_X {S : Type} (px : S → Prop) (B : String → S → State → Prop) (A : Nat → Prop) : String → State → State → Prop := fun E st t => ∃ u : S, px u ∧ B E u t ∧ va_F A st t
section Runs
variable {p : Program} {l : Launch} {e : Env} {R : Room} {s : State} {m : MethodId} {args : Array Value} {below : List Frame} {meth : Method} {c : Code} {H : Heap} {locs : List Loc} {cells slots : Nat}
variable {y : MethodName} {bytes cc : ByteArray} {maxL nL mc ms n index : Nat} {ret : Option FieldType} {ws : List Cond} {rm : Room} {Pc : Array Value → State → Prop} {Qc : Array Value → State → Outcome → State → Prop} {XC : String → State → State → Prop} {free : Addr → Prop} {Ts : List Cond} {own C : String} {b : Addr} {As rest : List Value} {g : JFrame}
theorem vx_callBack (cb : CallB R s args own index y bytes maxL ret ws rm mc ms n) (hM : vx_Met l y ws rm Pc Qc XC mc ms free) (hbl : FrameBlind Pc) : vx_Back l R p e below s args y 3 8 (PreOf R mc ms Pc) (PostOf Qc mc ms free) (vx_Post XC mc ms free) := by
  obtain ⟨hrc, hrs, hfr, hlo, hws, hcw, -, hini, -⟩ := cb
  exact vx_back (bytes := bytes) (maxL := maxL) (ret := ret) hM hbl hrc hrs hfr hlo hws hcw (fun a' U hW => word_at hW (Or.inl (by first | rfl | simp [Cond.onTables, Cond.keeps, Cond.steady])) hini)
theorem vx_runV (S : CallFix p m c cc nL s args Ts own) (hM : vx_Met l y ws rm Pc Qc XC mc ms free) (cw : CallW R s args own C index y bytes maxL ret ws rm mc ms n) (hp : PreV s H C b Pc As)
    (hg : g.method = m) (hn : As.length = n) (hsize : g.locals.size = nL) (hstack : g.stack = As.reverse ++ .ref b :: rest) (hW : 2 * g.monitorRoom + (rest.map fun v => v.category).sum ≤ 8) (hdg : decode cc g.pc = .ok (.invokevirtual index, 3)) (hf : cells + mc ≤ R.cells ∧ slots + ms ≤ R.slots) :
    vx_Run p l e R s m args below meth c H locs cells slots mc ms g rest (Qc (Value.ref b :: As).toArray) XC free := by
  have hK : vx_Back l R p e below s args y 3 8 (PreOf R mc ms Pc) (PostOf Qc mc ms free) (vx_Post XC mc ms free) := vx_callBack cw.1 hM hp.1
  obtain ⟨⟨-, -, -, -, -, -, hcode, -, hy, hlen, hl⟩, hin, hse⟩ := cw
  obtain ⟨hx, hb, hml, ho, -⟩ := S
  obtain ⟨-, ⟨cellB, hcB, hoB, hclB⟩, hPc⟩ := hp
  intro T hT X
  rcases vx_callV X hx (C := C) (bytes := bytes) (maxL := maxL) (ret := ret) ho hl hin hse hcode hy hK (by rw [hT]; exact hcB) hoB hclB hg (hsize.trans hml.symm) (argsL := As) (rest := rest) (fun sig h => hn.trans (hlen sig h)) hstack hW (by rw [hb]; exact hdg)
    (fun vm₁ hW₁ => ⟨hf.1, hf.2, hPc (T.setVm vm₁) hT hW₁⟩) with ⟨v, vm₁, ⟨U', l2, c2, s2⟩, hW₁, X', ⟨g', mk, t, L, e1, e2, hq, h1, hL, h2, h3⟩, st⟩ | ⟨q, vm₁, ⟨U', l2, c2, s2⟩, hW₁, X', ⟨g', mk, t, L, E, ce, e1, e2, hq, hce, hcv, hcl, h1, hL, h2, h3⟩, st⟩
  · dsimp only [Pt.U, Pt.locs, Pt.cells, Pt.slots] at X' e1 e2 h1 h2 h3 st
    subst h1; subst h2; subst h3
    exact Or.inl ⟨v, (T.setVm vm₁).calling g' mk (Value.ref b :: As).toArray, t, U', L, hT, X', hL, e1, e2, hq, st⟩
  · dsimp only [Pt.U, Pt.locs, Pt.cells, Pt.slots] at X' e1 e2 h1 h2 h3 st hcl
    subst h1; subst h2; subst h3
    exact Or.inr ⟨q, (T.setVm vm₁).calling g' mk (Value.ref b :: As).toArray, t, U', L, E, ce, hT, X', hL, e1, e2, hq, hce, hcv, vx_cls hW₁ hcl, st⟩
theorem vx_runS (S : CallFix p m c cc nL s args Ts own) (hM : vx_Met l y ws rm Pc Qc XC mc ms free) (cw : CallB R s args own index y bytes maxL ret ws rm mc ms n ∧ (Cond.static y).before args s = true) (hp : PreS s H Pc As)
    (hg : g.method = m) (hn : As.length = n) (hsize : g.locals.size = nL) (hstack : g.stack = As.reverse ++ rest) (hW : 2 * g.monitorRoom + (rest.map fun v => v.category).sum ≤ 8) (hdg : decode cc g.pc = .ok (.invokestatic index, 3)) (hf : cells + mc ≤ R.cells ∧ slots + ms ≤ R.slots) :
    vx_Run p l e R s m args below meth c H locs cells slots mc ms g rest (Qc As.toArray) XC free := by
  have hK : vx_Back l R p e below s args y 3 8 (PreOf R mc ms Pc) (PostOf Qc mc ms free) (vx_Post XC mc ms free) := vx_callBack cw.1 hM hp.1
  obtain ⟨⟨-, -, -, -, -, -, hcode, hini, hy, hlen, hl⟩, hstt⟩ := cw
  obtain ⟨hx, hb, hml, ho, -⟩ := S
  intro T hT X
  rcases vx_callS X hx (bytes := bytes) (maxL := maxL) (ret := ret) ho hl hstt hini hcode hy hK hg (hsize.trans hml.symm) (argsL := As) (rest := rest) (fun sig h => hn.trans (hlen sig h)) hstack hW (by rw [hb]; exact hdg)
    (fun vm₁ hW₁ => ⟨hf.1, hf.2, hp.2 (T.setVm vm₁) hT hW₁⟩) with ⟨v, vm₁, ⟨U', l2, c2, s2⟩, hW₁, X', ⟨g', mk, t, L, e1, e2, hq, h1, hL, h2, h3⟩, st⟩ | ⟨q, vm₁, ⟨U', l2, c2, s2⟩, hW₁, X', ⟨g', mk, t, L, E, ce, e1, e2, hq, hce, hcv, hcl, h1, hL, h2, h3⟩, st⟩
  · dsimp only [Pt.U, Pt.locs, Pt.cells, Pt.slots] at X' e1 e2 h1 h2 h3 st
    subst h1; subst h2; subst h3
    exact Or.inl ⟨v, (T.setVm vm₁).calling g' mk As.toArray, t, U', L, hT, X', hL, e1, e2, hq, st⟩
  · dsimp only [Pt.U, Pt.locs, Pt.cells, Pt.slots] at X' e1 e2 h1 h2 h3 st hcl
    subst h1; subst h2; subst h3
    exact Or.inr ⟨q, (T.setVm vm₁).calling g' mk As.toArray, t, U', L, E, ce, hT, X', hL, e1, e2, hq, hce, hcv, vx_cls hW₁ hcl, st⟩
end Runs
section Rows
variable {p : Program} {l : Launch} {e : Env} {R : Room} {s : State} {m : MethodId} {args : Array Value} {below : List Frame} {meth : Method} {c : Code} {H : Heap} {locs : List Loc} {cells slots : Nat} {Q : State → Prop}
variable {mc ms : Nat} {free : Addr → Prop} {A0 A1 : Nat → Prop} {H0 : Heap} {a : Array Value} {pc : Nat} {ls : Array Slot} {st0 rest : List Value}
theorem vx_keep {st₀ t T' : State} {L : List Loc} (h0 : st₀.heap = H) (e1 : T'.heap = t.heap) (hS : va_S A0 H0 H locs) (hA : ∀ q, q < H.size → A1 q → A0 q) (hf : ∀ q, free q → A0 q) (hL : ∀ q ∈ L, free q.base) (hF : va_F A1 st₀ t) :
    H.size ≤ T'.heap.size ∧ (∀ q : Nat, q < H.size → ¬ A1 q → T'.heap[q]? = H[q]?) ∧ va_S A0 H0 T'.heap (locs ++ L) := by
  obtain ⟨hz, hk⟩ := hF
  rw [h0] at hz hk
  exact ⟨by rw [e1]; exact hz, fun q h1 h2 => by rw [e1]; exact hk q h1 h2,
    ⟨Nat.le_trans hS.1 (by rw [e1]; exact hz), fun q h1 h2 => by rw [e1, hk q (Nat.lt_of_lt_of_le h1 hS.1) (fun z => h2 (hA q (Nat.lt_of_lt_of_le h1 hS.1) z))]; exact hS.2.1 q h1 h2, fun q hq => by
      rcases List.mem_append.mp hq with h | h
      · exact hS.2.2 q h
      · exact hf _ (hL q h)⟩⟩
theorem vx_calli {S SX : Type} {post : Int32 → S → Prop} {px : SX → Prop} {B : S → State → Prop} {BX : String → SX → State → Prop} {AX : Nat → Prop} (hr : vx_Run p l e R s m args below meth c H locs cells slots mc ms (F0 m pc ls st0) rest (va_Qi post B A1 a) (vx_X px BX AX) free) (hS : va_S A0 H0 H locs) (hA : ∀ q, q < H.size → A1 q → A0 q) (hf : ∀ q, free q → A0 q) (hAX : ∀ q, q < H.size → AX q → A0 q)
    (kx : ∀ (E : String) (ce : Cell) (q9 : Addr) (u : SX) (t : State) (H1 : Heap) (locs1 : List Loc), t.heap = H1 → s.vm.Alike t.vm → px u → BX E u t → H.size ≤ H1.size → (∀ q : Nat, q < H.size → ¬ AX q → H1[q]? = H[q]?) → va_S A0 H0 H1 locs1 → H1[q9]? = some ce → ce.vm = .none → s.vm.findClass E = some ce.cls → vx_W p l e R s m args below meth c H1 locs1 (cells + mc) (slots + ms) Q (F0 m pc ls rest) q9)
    (kk : ∀ (r : Int32) (u : S) (t : State) (H1 : Heap) (locs1 : List Loc), t.heap = H1 → s.vm.Alike t.vm → post r u → B u t → H.size ≤ H1.size → (∀ q : Nat, q < H.size → ¬ A1 q → H1[q]? = H[q]?) → va_S A0 H0 H1 locs1 → W p l e R s m args below meth c H1 locs1 (cells + mc) (slots + ms) Q (F0 m (pc + 3) ls (.int r :: rest))) : W p l e R s m args below meth c H locs cells slots Q (F0 m pc ls st0) := by
  intro T hT X
  rcases hr T hT X with ⟨v, st₀, t, T', L, h0, X', hL, e1, e2, ⟨⟨r, u, hv, hp, hb⟩, hF⟩, st⟩ | ⟨q, st₀, t, T', L, E, ce, h0, X', hL, e1, e2, ⟨u, hp, hb, hF⟩, hce, hcv, hcl, st⟩
  · cases hv
    obtain ⟨k1, k2, k3⟩ := vx_keep h0 e1 hS hA hf hL hF
    obtain ⟨t2, a1, b1⟩ := kk r u t T'.heap (locs ++ L) e1.symm (by rw [← e2]; exact X'.warmed.alike) hp hb k1 k2 k3 T' rfl X'
    exact ⟨t2, st t2 a1, b1⟩
  · obtain ⟨k1, k2, k3⟩ := vx_keep h0 e1 hS hAX hf hL hF
    obtain ⟨t2, a1, b1⟩ := kx E ce q u t T'.heap (locs ++ L) e1.symm (by rw [← e2]; exact X'.warmed.alike) hp hb k1 k2 k3 (by rw [e1]; exact hce) hcv hcl T' rfl X'
    exact ⟨t2, st.trans a1, b1⟩
theorem vx_calll {S SX : Type} {post : Int64 → S → Prop} {px : SX → Prop} {B : S → State → Prop} {BX : String → SX → State → Prop} {AX : Nat → Prop} (hr : vx_Run p l e R s m args below meth c H locs cells slots mc ms (F0 m pc ls st0) rest (va_Ql post B A1 a) (vx_X px BX AX) free) (hS : va_S A0 H0 H locs) (hA : ∀ q, q < H.size → A1 q → A0 q) (hf : ∀ q, free q → A0 q) (hAX : ∀ q, q < H.size → AX q → A0 q)
    (kx : ∀ (E : String) (ce : Cell) (q9 : Addr) (u : SX) (t : State) (H1 : Heap) (locs1 : List Loc), t.heap = H1 → s.vm.Alike t.vm → px u → BX E u t → H.size ≤ H1.size → (∀ q : Nat, q < H.size → ¬ AX q → H1[q]? = H[q]?) → va_S A0 H0 H1 locs1 → H1[q9]? = some ce → ce.vm = .none → s.vm.findClass E = some ce.cls → vx_W p l e R s m args below meth c H1 locs1 (cells + mc) (slots + ms) Q (F0 m pc ls rest) q9)
    (kk : ∀ (r : Int64) (u : S) (t : State) (H1 : Heap) (locs1 : List Loc), t.heap = H1 → s.vm.Alike t.vm → post r u → B u t → H.size ≤ H1.size → (∀ q : Nat, q < H.size → ¬ A1 q → H1[q]? = H[q]?) → va_S A0 H0 H1 locs1 → W p l e R s m args below meth c H1 locs1 (cells + mc) (slots + ms) Q (F0 m (pc + 3) ls (.long r :: rest))) : W p l e R s m args below meth c H locs cells slots Q (F0 m pc ls st0) := by
  intro T hT X
  rcases hr T hT X with ⟨v, st₀, t, T', L, h0, X', hL, e1, e2, ⟨⟨r, u, hv, hp, hb⟩, hF⟩, st⟩ | ⟨q, st₀, t, T', L, E, ce, h0, X', hL, e1, e2, ⟨u, hp, hb, hF⟩, hce, hcv, hcl, st⟩
  · cases hv
    obtain ⟨k1, k2, k3⟩ := vx_keep h0 e1 hS hA hf hL hF
    obtain ⟨t2, a1, b1⟩ := kk r u t T'.heap (locs ++ L) e1.symm (by rw [← e2]; exact X'.warmed.alike) hp hb k1 k2 k3 T' rfl X'
    exact ⟨t2, st t2 a1, b1⟩
  · obtain ⟨k1, k2, k3⟩ := vx_keep h0 e1 hS hAX hf hL hF
    obtain ⟨t2, a1, b1⟩ := kx E ce q u t T'.heap (locs ++ L) e1.symm (by rw [← e2]; exact X'.warmed.alike) hp hb k1 k2 k3 (by rw [e1]; exact hce) hcv hcl T' rfl X'
    exact ⟨t2, st.trans a1, b1⟩
theorem vx_callf {S SX : Type} {post : UInt32 → S → Prop} {px : SX → Prop} {B : S → State → Prop} {BX : String → SX → State → Prop} {AX : Nat → Prop} (hr : vx_Run p l e R s m args below meth c H locs cells slots mc ms (F0 m pc ls st0) rest (va_Qf post B A1 a) (vx_X px BX AX) free) (hS : va_S A0 H0 H locs) (hA : ∀ q, q < H.size → A1 q → A0 q) (hf : ∀ q, free q → A0 q) (hAX : ∀ q, q < H.size → AX q → A0 q)
    (kx : ∀ (E : String) (ce : Cell) (q9 : Addr) (u : SX) (t : State) (H1 : Heap) (locs1 : List Loc), t.heap = H1 → s.vm.Alike t.vm → px u → BX E u t → H.size ≤ H1.size → (∀ q : Nat, q < H.size → ¬ AX q → H1[q]? = H[q]?) → va_S A0 H0 H1 locs1 → H1[q9]? = some ce → ce.vm = .none → s.vm.findClass E = some ce.cls → vx_W p l e R s m args below meth c H1 locs1 (cells + mc) (slots + ms) Q (F0 m pc ls rest) q9)
    (kk : ∀ (r : UInt32) (u : S) (t : State) (H1 : Heap) (locs1 : List Loc), t.heap = H1 → s.vm.Alike t.vm → post r u → B u t → H.size ≤ H1.size → (∀ q : Nat, q < H.size → ¬ A1 q → H1[q]? = H[q]?) → va_S A0 H0 H1 locs1 → W p l e R s m args below meth c H1 locs1 (cells + mc) (slots + ms) Q (F0 m (pc + 3) ls (.float r :: rest))) : W p l e R s m args below meth c H locs cells slots Q (F0 m pc ls st0) := by
  intro T hT X
  rcases hr T hT X with ⟨v, st₀, t, T', L, h0, X', hL, e1, e2, ⟨⟨r, u, hv, hp, hb⟩, hF⟩, st⟩ | ⟨q, st₀, t, T', L, E, ce, h0, X', hL, e1, e2, ⟨u, hp, hb, hF⟩, hce, hcv, hcl, st⟩
  · cases hv
    obtain ⟨k1, k2, k3⟩ := vx_keep h0 e1 hS hA hf hL hF
    obtain ⟨t2, a1, b1⟩ := kk r u t T'.heap (locs ++ L) e1.symm (by rw [← e2]; exact X'.warmed.alike) hp hb k1 k2 k3 T' rfl X'
    exact ⟨t2, st t2 a1, b1⟩
  · obtain ⟨k1, k2, k3⟩ := vx_keep h0 e1 hS hAX hf hL hF
    obtain ⟨t2, a1, b1⟩ := kx E ce q u t T'.heap (locs ++ L) e1.symm (by rw [← e2]; exact X'.warmed.alike) hp hb k1 k2 k3 (by rw [e1]; exact hce) hcv hcl T' rfl X'
    exact ⟨t2, st.trans a1, b1⟩
theorem vx_calld {S SX : Type} {post : UInt64 → S → Prop} {px : SX → Prop} {B : S → State → Prop} {BX : String → SX → State → Prop} {AX : Nat → Prop} (hr : vx_Run p l e R s m args below meth c H locs cells slots mc ms (F0 m pc ls st0) rest (va_Qd post B A1 a) (vx_X px BX AX) free) (hS : va_S A0 H0 H locs) (hA : ∀ q, q < H.size → A1 q → A0 q) (hf : ∀ q, free q → A0 q) (hAX : ∀ q, q < H.size → AX q → A0 q)
    (kx : ∀ (E : String) (ce : Cell) (q9 : Addr) (u : SX) (t : State) (H1 : Heap) (locs1 : List Loc), t.heap = H1 → s.vm.Alike t.vm → px u → BX E u t → H.size ≤ H1.size → (∀ q : Nat, q < H.size → ¬ AX q → H1[q]? = H[q]?) → va_S A0 H0 H1 locs1 → H1[q9]? = some ce → ce.vm = .none → s.vm.findClass E = some ce.cls → vx_W p l e R s m args below meth c H1 locs1 (cells + mc) (slots + ms) Q (F0 m pc ls rest) q9)
    (kk : ∀ (r : UInt64) (u : S) (t : State) (H1 : Heap) (locs1 : List Loc), t.heap = H1 → s.vm.Alike t.vm → post r u → B u t → H.size ≤ H1.size → (∀ q : Nat, q < H.size → ¬ A1 q → H1[q]? = H[q]?) → va_S A0 H0 H1 locs1 → W p l e R s m args below meth c H1 locs1 (cells + mc) (slots + ms) Q (F0 m (pc + 3) ls (.double r :: rest))) : W p l e R s m args below meth c H locs cells slots Q (F0 m pc ls st0) := by
  intro T hT X
  rcases hr T hT X with ⟨v, st₀, t, T', L, h0, X', hL, e1, e2, ⟨⟨r, u, hv, hp, hb⟩, hF⟩, st⟩ | ⟨q, st₀, t, T', L, E, ce, h0, X', hL, e1, e2, ⟨u, hp, hb, hF⟩, hce, hcv, hcl, st⟩
  · cases hv
    obtain ⟨k1, k2, k3⟩ := vx_keep h0 e1 hS hA hf hL hF
    obtain ⟨t2, a1, b1⟩ := kk r u t T'.heap (locs ++ L) e1.symm (by rw [← e2]; exact X'.warmed.alike) hp hb k1 k2 k3 T' rfl X'
    exact ⟨t2, st t2 a1, b1⟩
  · obtain ⟨k1, k2, k3⟩ := vx_keep h0 e1 hS hAX hf hL hF
    obtain ⟨t2, a1, b1⟩ := kx E ce q u t T'.heap (locs ++ L) e1.symm (by rw [← e2]; exact X'.warmed.alike) hp hb k1 k2 k3 (by rw [e1]; exact hce) hcv hcl T' rfl X'
    exact ⟨t2, st.trans a1, b1⟩
theorem vx_callv {S SX : Type} {post : S → Prop} {px : SX → Prop} {B : S → State → Prop} {BX : String → SX → State → Prop} {AX : Nat → Prop} (hr : vx_Run p l e R s m args below meth c H locs cells slots mc ms (F0 m pc ls st0) rest (va_Qv post B A1 a) (vx_X px BX AX) free) (hS : va_S A0 H0 H locs) (hA : ∀ q, q < H.size → A1 q → A0 q) (hf : ∀ q, free q → A0 q) (hAX : ∀ q, q < H.size → AX q → A0 q)
    (kx : ∀ (E : String) (ce : Cell) (q9 : Addr) (u : SX) (t : State) (H1 : Heap) (locs1 : List Loc), t.heap = H1 → s.vm.Alike t.vm → px u → BX E u t → H.size ≤ H1.size → (∀ q : Nat, q < H.size → ¬ AX q → H1[q]? = H[q]?) → va_S A0 H0 H1 locs1 → H1[q9]? = some ce → ce.vm = .none → s.vm.findClass E = some ce.cls → vx_W p l e R s m args below meth c H1 locs1 (cells + mc) (slots + ms) Q (F0 m pc ls rest) q9)
    (kk : ∀ (u : S) (t : State) (H1 : Heap) (locs1 : List Loc), t.heap = H1 → s.vm.Alike t.vm → post u → B u t → H.size ≤ H1.size → (∀ q : Nat, q < H.size → ¬ A1 q → H1[q]? = H[q]?) → va_S A0 H0 H1 locs1 → W p l e R s m args below meth c H1 locs1 (cells + mc) (slots + ms) Q (F0 m (pc + 3) ls (rest))) : W p l e R s m args below meth c H locs cells slots Q (F0 m pc ls st0) := by
  intro T hT X
  rcases hr T hT X with ⟨v, st₀, t, T', L, h0, X', hL, e1, e2, ⟨⟨u, hv, hp, hb⟩, hF⟩, st⟩ | ⟨q, st₀, t, T', L, E, ce, h0, X', hL, e1, e2, ⟨u, hp, hb, hF⟩, hce, hcv, hcl, st⟩
  · cases hv
    obtain ⟨k1, k2, k3⟩ := vx_keep h0 e1 hS hA hf hL hF
    obtain ⟨t2, a1, b1⟩ := kk u t T'.heap (locs ++ L) e1.symm (by rw [← e2]; exact X'.warmed.alike) hp hb k1 k2 k3 T' rfl X'
    exact ⟨t2, st t2 a1, b1⟩
  · obtain ⟨k1, k2, k3⟩ := vx_keep h0 e1 hS hAX hf hL hF
    obtain ⟨t2, a1, b1⟩ := kx E ce q u t T'.heap (locs ++ L) e1.symm (by rw [← e2]; exact X'.warmed.alike) hp hb k1 k2 k3 (by rw [e1]; exact hce) hcv hcl T' rfl X'
    exact ⟨t2, st.trans a1, b1⟩
/-- caught by the row x of this method's table; the rows ahead don't take it -/
theorem vx_catch {own name : String} {E : String} {ce : Cell} {q : Addr} (hown : s.vm.findClass own = some m.cls) (pre : List ExceptionTableEntry) (x : ExceptionTableEntry) (suf : List ExceptionTableEntry) (hsplit : c.exceptionTable.toList = pre ++ x :: suf)
    (hpass : ∀ z ∈ pre, covers z pc = false ∨ (z.catchType ≠ 0 ∧ ∃ nm : String, (Cond.classLink own z.catchType nm).before args s = true ∧ va_Nc E nm s)) (hx : covers x pc = true) (h0 : x.catchType ≠ 0)
    (hlink : (Cond.classLink own x.catchType name).before args s = true) (hcast : (Cond.castable E name).before args s = true) (hcell : H[q]? = some ce) (hv : ce.vm = .none) (hcl : s.vm.findClass E = some ce.cls)
    (kk : W p l e R s m args below meth c H locs cells slots Q (F0 m x.handlerPc ls [.ref q])) : vx_W p l e R s m args below meth c H locs cells slots Q (F0 m pc ls rest) q := by
  intro T hT X
  have hpl : e.platform.magicAccessors = ({} : Platform).magicAccessors := by rw [X.admits.platform]
  obtain ⟨c3, c4, hc3, hc4, hasg⟩ := Cond.castable_spec hcast
  cases Option.some.inj (hc3.symm.trans hcl)
  obtain ⟨c5, hc5, hcl5⟩ := Cond.classLink_spec hown hlink e.platform hpl
  cases Option.some.inj (hc4.symm.trans hc5)
  obtain ⟨vm', X', st⟩ := X.thenCaughtThrough q (g := F0 m pc ls rest) rfl (Steps.refl _) (by rw [hT]; exact hcell) (by rw [hv]; rfl) (by obtain ⟨k9, h9, -⟩ := Vm.findClass_spec hcl; exact ⟨k9, h9⟩) pre x suf hsplit
    (fun z hz => by
      rcases hpass z hz with h | ⟨hz0, nm, hl1, hn1⟩
      · exact Or.inl h
      · obtain ⟨c6, hc6, hcl6⟩ := Cond.classLink_spec hown hl1 e.platform hpl
        obtain ⟨a8, b8, h1, h2, h3⟩ := hn1
        cases Option.some.inj (h1.symm.trans hcl)
        cases Option.some.inj (h2.symm.trans hc6)
        exact Or.inr ⟨hz0, _, hcl6, h3⟩) hx (Or.inr ⟨h0, c4, hcl5, hasg⟩)
  obtain ⟨t, a1, b1⟩ := kk (T.setVm vm') hT X'
  exact ⟨t, st.trans a1, b1⟩
end Rows
section Ends
variable {p : Program} {l : Launch} {e : Env} {R : Room} {s : State} {m : MethodId} {args : Array Value} {below : List Frame} {meth : Method} {c : Code} {H : Heap} {locs : List Loc} {cells slots : Nat} {Q : State → Prop}
variable {mc ms : Nat} {free : Addr → Prop} {A0 A1 : Nat → Prop} {H0 : Heap} {a : Array Value} {ls : Array Slot} {st0 rest : List Value}
variable {Qc : Array Value → State → Outcome → State → Prop} {XC : String → State → State → Prop}
/-- what a body that may throw owes at its end -/
def vx_MQ (below : List Frame) (Qc : Array Value → State → Outcome → State → Prop) (XC : String → State → State → Prop) (a : Array Value) (s : State) (mc ms : Nat) (free : Addr → Prop) : State → Prop := fun t =>
  ∃ o, t.status = .running ∧ Ended t below o ∧ vx_Q Qc XC mc ms free a s o t
theorem vx_ret {g : JFrame} {mc ms : Nat} (k : W p l e R s m args below meth c H locs cells slots (MQ below Qc args s mc ms free) g) : W p l e R s m args below meth c H locs cells slots (vx_MQ below Qc XC args s mc ms free) g := by
  intro T hT X
  obtain ⟨t, a1, o, b1, b2, b3, b4⟩ := k T hT X
  exact ⟨t, a1, o, b1, b2, Or.inl ⟨b3, b4⟩⟩
/-- not caught here: it goes on to the caller -/
theorem vx_widen {g : JFrame} {q : Addr} {k n : Nat} (h1 : cells ≤ k) (h2 : slots ≤ n) (kk : vx_W p l e R s m args below meth c H locs k n Q g q) : vx_W p l e R s m args below meth c H locs cells slots Q g q := fun T hT X => kk T hT (stand_widen X h1 h2)
theorem vx_out {pc : Nat} {E : String} {ce : Cell} {q : Addr} {mc ms : Nat} (hout : ∀ x ∈ c.exceptionTable.toList, covers x pc = false) (hlocks : meth.locks = false) (hcell : H[q]? = some ce) (hv : ce.vm = .none) (hcl : s.vm.findClass E = some ce.cls)
    (hx : ∀ t : State, t.heap = H → s.vm.Alike t.vm → XC E s t) (hf : ∀ z ∈ locs, free z.base) (hc : cells ≤ mc) (hs : slots ≤ ms) :
    vx_W p l e R s m args below meth c H locs cells slots (vx_MQ below Qc XC args s mc ms free) (F0 m pc ls rest) q := by
  intro T hT X
  obtain ⟨st1, hrun, hend, hW, hsm⟩ := X.leaveThrown q (g := F0 m pc ls rest) rfl rfl rfl hout hlocks
  have hcell9 : (T.setFrames (.throwing q :: below)).heap[q]? = some ce := by
    show T.heap[q]? = some ce
    rw [hT]; exact hcell
  exact ⟨_, st1, .threw q, hrun, hend, Or.inr ⟨q, rfl, E, ce, locs, hx _ hT hW.alike, hcell9, hv, hcl, hW, hsm.mono hc hs, hf⟩⟩
theorem vx_frame {U : State} {k n : Nat} (h : s.sameButNew ({ U with vm := s.vm } : State) locs k n) : s.heap.size ≤ U.heap.size ∧ ∀ q : Nat, q < s.heap.size → (∀ z ∈ locs, z.base ≠ q) → U.heap[q]? = s.heap[q]? := by
  obtain ⟨-, h2, -, -, -, h6⟩ := h
  refine ⟨h2, fun q hq hz => ?_⟩
  obtain ⟨c9, e1, e2, e3, e4⟩ := h6 q _ (Array.getElem?_eq_getElem hq)
  have hs : c9.slots = (s.heap[q]).slots := Array.ext_getElem? fun i => e4 i fun hm => hz _ hm rfl
  have h9 : c9 = s.heap[q] := by
    rw [hs] at e2
    exact e2
  have e5 : U.heap[q]? = some c9 := e1
  rw [e5, h9, Array.getElem?_eq_getElem hq]
/-- the words of a throw but the four that speak of the heap -/
def vx_no (w : Cond) : Bool := decide (w ≠ .isRef (.static Bundle.tN "UNASSIGNED_STACK" Bundle.steD)) && decide (w ≠ .isRef (.static Bundle.tN "SUPPRESSED_SENTINEL" Bundle.listD)) && decide (w ≠ .laysStatic Bundle.tN "UNASSIGNED_STACK" Bundle.steD) && decide (w ≠ .laysStatic Bundle.tN "SUPPRESSED_SENTINEL" Bundle.listD)
def vx_at0 (own : String) (ic : Nat) (X : String) (names : List String) : List Cond := (Bundle.ownAtoms0 own ic X names).filter vx_no
def vx_atS (own : String) (ic : Nat) (X : String) (names : List String) : List Cond := (Bundle.ownAtoms own ic X names).filter vx_no
/-- a word that the tables alone decide, or a good one -/
def vx_ot (w : Cond) : Bool := w.onTables || goodWord w
theorem vx_ot_at {args a' : Array Value} {s U : State} {w : Cond} (hW : s.WarmedH U.vm) (hvm : s.vm = U.vm) (hg : vx_ot w = true) (h : w.before args s = true) : w.before a' U = true := by
  simp only [vx_ot, Bool.or_eq_true] at hg
  rcases hg with hg | hg
  · exact va_tabs hg hvm h
  · exact word_at hW (good_of_word hg) h
/-- a list's words: the good ones out of the method's own list, the others by premises of their own -/
theorem vx_hat {args : Array Value} {s : State} {L B : List Cond} (h1 : ∀ w ∈ L.filter goodWord, w.before args s = true) (h2 : ∀ w ∈ L.filter (fun w => !goodWord w), w ∈ B) (h3 : ∀ w ∈ B, w.before args s = true) : ∀ w ∈ L, w.before args s = true := by
  intro w hw
  by_cases g : goodWord w = true
  · exact h1 w (List.mem_filter.mpr ⟨hw, g⟩)
  · refine h3 w (h2 w (List.mem_filter.mpr ⟨hw, ?_⟩))
    show (!goodWord w) = true
    cases hgw : goodWord w
    · rfl
    · exact absurd hgw g
theorem vx_c {args : Array Value} {s : State} {w : Cond} {B : List Cond} (h : w.before args s = true) (t : ∀ w ∈ B, w.before args s = true) : ∀ w' ∈ w :: B, w'.before args s = true := fun w' h' => (List.mem_cons.mp h').elim (fun e => by rw [e]; exact h) (t w')
theorem vx_n {args : Array Value} {s : State} : ∀ w ∈ ([] : List Cond), w.before args s = true := fun _ h => nomatch h
theorem vx_own {args : Array Value} {s : State} {L : List Cond} (h1 : ∀ w ∈ L.filter vx_no, w.before args s = true)
    (hU : (Cond.isRef (.static Bundle.tN "UNASSIGNED_STACK" Bundle.steD)).before args s = true) (hN : (Cond.isRef (.static Bundle.tN "SUPPRESSED_SENTINEL" Bundle.listD)).before args s = true)
    (lU : (Cond.laysStatic Bundle.tN "UNASSIGNED_STACK" Bundle.steD).before args s = true) (lN : (Cond.laysStatic Bundle.tN "SUPPRESSED_SENTINEL" Bundle.listD).before args s = true) : ∀ w ∈ L, w.before args s = true := by
  intro w hw
  by_cases e1 : w = .isRef (.static Bundle.tN "UNASSIGNED_STACK" Bundle.steD)
  · rw [e1]; exact hU
  · by_cases e2 : w = .isRef (.static Bundle.tN "SUPPRESSED_SENTINEL" Bundle.listD)
    · rw [e2]; exact hN
    · by_cases e3 : w = .laysStatic Bundle.tN "UNASSIGNED_STACK" Bundle.steD
      · rw [e3]; exact lU
      · by_cases e4 : w = .laysStatic Bundle.tN "SUPPRESSED_SENTINEL" Bundle.listD
        · rw [e4]; exact lN
        · exact h1 w (List.mem_filter.mpr ⟨hw, by unfold vx_no; rw [decide_eq_true e1, decide_eq_true e2, decide_eq_true e3, decide_eq_true e4]; rfl⟩)
/-- where a static field lies, its class's statics cell in H -/
def vx_L (C n d : String) (A : Nat → Prop) (U : State) (H : Heap) : Prop := ∃ (c : ClassId) (k : Class) (i : Nat) (f : Field) (a : Nat) (cell : Cell), U.vm.findClass C = some c ∧ U.fieldFound? C n d = some (c, k, i, f) ∧ f.isStatic = true ∧ k.statics = some a ∧ H[a]? = some cell ∧ cell.vm.isStatics = true ∧ cell.cls = c ∧ f.slot < cell.slots.size ∧ k.staticTypes[f.slot]? = some f.type ∧ ¬ A a
theorem vx_L.moved {C n d : String} {A : Nat → Prop} {u U : State} {H : Heap} (hvm : u.vm.Alike U.vm) (h : vx_L C n d A u H) : vx_L C n d A U H := by
  obtain ⟨c, k, i, f, a, cell, h1, h2, h3, h4, h5, h6, h7, h8, h9, h10⟩ := h
  obtain ⟨k', hi', he⟩ := State.fieldFound?_setVm hvm h2
  exact ⟨c, k', i, f, a, cell, by rw [hvm.findClass]; exact h1, hi', h3, by rw [he]; exact h4, h5, h6, h7, h8, by rw [he]; exact h9, h10⟩
theorem vx_L.kept {C n d : String} {A : Nat → Prop} {U : State} {H H1 : Heap} (h : vx_L C n d A U H) (hq : ∀ a : Nat, a < H.size → ¬ A a → H1[a]? = H[a]?) : vx_L C n d A U H1 := by
  obtain ⟨c, k, i, f, a, cell, h1, h2, h3, h4, h5, h6, h7, h8, h9, h10⟩ := h
  exact ⟨c, k, i, f, a, cell, h1, h2, h3, h4, by rw [hq a (Array.getElem?_eq_some_iff.mp h5).1 h10]; exact h5, h6, h7, h8, h9, h10⟩
theorem vx_L.narrow {C n d : String} {A B : Nat → Prop} {U : State} {H : Heap} (h : vx_L C n d A U H) (hAB : ∀ q, B q → A q) : vx_L C n d B U H := by
  obtain ⟨c, k, i, f, a, cell, h1, h2, h3, h4, h5, h6, h7, h8, h9, h10⟩ := h
  exact ⟨c, k, i, f, a, cell, h1, h2, h3, h4, h5, h6, h7, h8, h9, fun z => h10 (hAB _ z)⟩
theorem vx_L.word {C n d : String} {A : Nat → Prop} {s : State} {args : Array Value} (h : vx_L C n d A s s.heap) : (Cond.laysStatic C n d).before args s = true := by
  obtain ⟨c, k, i, f, a, cell, h1, h2, h3, h4, h5, h6, h7, h8, h9, -⟩ := h
  show (Cond.laysStatic C n d).holds args s none s [] = true
  exact Cond.laysStatic_of h1 h2 h3 h4 h5 h6 h7 h8 h9
/-- .. and what it holds: null or some reference -/
def vx_Zq (C n d : String) (A : Nat → Prop) (U : State) (H : Heap) : Prop := va_Zq C n d A U H ∧ vx_L C n d A U H
theorem vx_Zq.moved {C n d : String} {A : Nat → Prop} {u U : State} {H : Heap} (hvm : u.vm.Alike U.vm) (h : vx_Zq C n d A u H) : vx_Zq C n d A U H := ⟨va_Zq.moved hvm h.1, vx_L.moved hvm h.2⟩
theorem vx_Zq.kept {C n d : String} {A : Nat → Prop} {U : State} {H H1 : Heap} (h : vx_Zq C n d A U H) (hq : ∀ a : Nat, a < H.size → ¬ A a → H1[a]? = H[a]?) : vx_Zq C n d A U H1 := ⟨va_Zq.kept h.1 hq, vx_L.kept h.2 hq⟩
theorem vx_Zq.narrow {C n d : String} {A B : Nat → Prop} {U : State} {H : Heap} (h : vx_Zq C n d A U H) (hAB : ∀ q, B q → A q) : vx_Zq C n d B U H := ⟨va_Zq.narrow h.1 hAB, vx_L.narrow h.2 hAB⟩
theorem vx_Zqof {args : Array Value} {s : State} {C n d : String} {A : Nat → Prop} (hl : (Cond.laysStatic C n d).before args s = true) (hini : (Cond.initialized C).before args s = true) (h : (Cond.isRef (.static C n d)).before args s = true) (hA : ∀ a : Nat, a < s.heap.size → ¬ A a) : vx_Zq C n d A s s.heap := by
  refine ⟨va_Zqof hl hini h hA, ?_⟩
  obtain ⟨c, k, i, f, a, cell, h1, h2, h3, h4, h5, h6, h7, h8, h9⟩ := Cond.laysStatic_spec hl
  exact ⟨c, k, i, f, a, cell, h1, h2, h3, h4, h5, h6, h7, h8, h9, hA a (Array.getElem?_eq_some_iff.mp h5).1⟩
theorem vx_isRef {C n d : String} {v : Value} {A : Nat → Prop} {s : State} {args : Array Value} (h : va_Z C n d v A s s.heap) (hv : v.isRef = true) : (Cond.isRef (.static C n d)).before args s = true := by
  obtain ⟨cf, kf, fi, f, a, cell, h1, h2, h3, h4, h5, h6, h7, -⟩ := h
  have he : (Term.static C n d).eval args s none [] s = some v := by
    simp [Term.eval, State.fieldNamed?, h1, h2, h4, h5, h6, h7]
  simp only [Cond.before, Cond.holds, Cond.value, he]
  cases v <;> simp_all [Value.isRef]
theorem vx_isRefq {C n d : String} {A : Nat → Prop} {s : State} {args : Array Value} (h : va_Zq C n d A s s.heap) : (Cond.isRef (.static C n d)).before args s = true := by
  rcases h with h | ⟨t, h⟩
  · exact vx_isRef h rfl
  · exact vx_isRef h rfl
/-- the same frame, seen from here: as if the method were called anew in this heap -/
theorem vx_rebase {T : State} (X : Stand p l e R s m args below meth c T locs cells slots) {R' : Room} (hf : R'.frames ≤ R.frames) (hl : R'.locals ≤ R.locals) (hc : cells + R'.cells ≤ R.cells) (hs : slots + R'.slots ≤ R.slots) :
    Stand p l e R' ((T.setVm s.vm).setFrames (.invoking m args :: below)) m args below meth c T [] 0 0 := by
  have htop : (T.setVm s.vm).topJava?.isSome := X.here.top
  have hF : ((T.setVm s.vm).setFrames (.invoking m args :: below)).frames = .invoking m args :: below := State.frames_setFrames _ (State.cur_lt_of_top htop)
  obtain ⟨g₀, hg0⟩ := Option.isSome_iff_exists.mp htop
  obtain ⟨r, hr⟩ := State.topJava?_eq_some.mp hg0
  have hl9 : e.platform.stackLimits (T.setVm s.vm).me = e.platform.stackLimits s.me := X.limits
  have hb9 : (T.setVm s.vm).me.stackBytes = s.me.stackBytes := X.bytes
  refine ⟨X.admits, X.cas, X.clock, hF, ?_, X.hears, X.method, X.code, X.here, X.tail, X.warmed, ?_, ?_, ?_⟩
  · have h := X.room
    have hU : ((T.setVm s.vm).setFrames (.invoking m args :: below)).localsInUse = s.localsInUse := by
      rw [State.localsInUse_invoking hF (meth := meth) (c := c) X.method X.code, State.localsInUse_invoking X.frames X.method X.code]
    simp only [State.hasRoom, Bool.and_eq_true, decide_eq_true_eq] at h ⊢
    obtain ⟨⟨⟨⟨h1, h2, h3, h4, h5, h6⟩, h7⟩, h8⟩, h9⟩ := h
    rw [X.frames, List.length_cons] at h2 h3
    have q1 := X.heapSize
    have q2 := X.used
    simp only [hF, hU, List.length_cons, State.stackLimits_setFrames, State.stackBytes_setFrames, hl9, hb9]
    refine ⟨⟨⟨⟨by omega, by omega, by omega, by omega, by omega, h6⟩, ?_⟩, ?_⟩, X.book⟩
    · show T.heap.size + R'.cells ≤ e.platform.maxCells
      omega
    · show T.slotsUsed + R'.slots ≤ e.platform.maxSlots
      omega
  · rw [State.stackLimits_setFrames]; rfl
  · rw [State.stackBytes_setFrames]; rfl
  · refine ⟨?_, Nat.le_refl _, Nat.le_refl _, ?_, ?_, fun a c9 h9 => ⟨c9, h9, rfl, rfl, fun _ _ => rfl⟩⟩
    · obtain ⟨t, ht, -⟩ := State.frames_cons hr
      show T.setVm s.vm = { ((T.setVm s.vm).setFrames (.invoking m args :: below)).setFrames (T.setVm s.vm).frames with heap := T.heap, slotsUsed := T.slotsUsed }
      rw [State.setFrames_setFrames, State.setFrames_self ht]
      rfl
    · show T.slotsUsed = T.slotsUsed + ((T.heap.toList.drop T.heap.size).map (·.slots.size)).sum
      rw [List.drop_eq_nil_of_le (Nat.le_of_eq Array.length_toList)]
      rfl
    · show ((T.heap.toList.drop T.heap.size).map (·.slots.size)).sum ≤ 0
      rw [List.drop_eq_nil_of_le (Nat.le_of_eq Array.length_toList)]
      exact Nat.le_refl _
/-- 'throw new E()': new; dup; invokespecial; athrow -/
theorem vx_throw0 {cc : ByteArray} {pc : Nat} (hexec : p.tables.exec = Jvm.exec) (hb : c.code = cc) (hl : l.stackTraces = false) {own cls : String} {names : List String} {ik ic mc ms : Nat} {A : Nat → Prop}
    (hown : s.vm.findClass own = some m.cls) (hcls : Bundle.fit cls = true) (hnames : ∀ n ∈ names, Bundle.fit n = true)
    (hk : (Cond.classLink own ik cls).before args s = true) (hini : (Cond.initialized cls).before args s = true) (hat : ∀ w ∈ vx_at0 own ic cls names, w.before args s = true)
    (hgood : ∀ w ∈ Cond.classLink own ik cls :: Cond.initialized cls :: vx_at0 own ic cls names, vx_ot w = true)
    (hU : vx_Zq Bundle.tN "UNASSIGNED_STACK" Bundle.steD A s s.heap) (hN : vx_Zq Bundle.tN "SUPPRESSED_SENTINEL" Bundle.listD A s s.heap) (hS : va_S A s.heap H locs) (hsize : ls.size = c.maxLocals)
    (d0 : decode cc pc = .ok (.new ik, 3)) (d3 : decode cc (pc + 3) = .ok (.dup, 1)) (d4 : decode cc (pc + 4) = .ok (.invokespecial ic, 3)) (d7 : decode cc (pc + 7) = .ok (.athrow, 1))
    (hout : ∀ x ∈ c.exceptionTable.toList, covers x (pc + 7) = false)
    (hRframes : names.length + 3 < R.frames) (hRlocals : (rest.map fun v => v.category).sum + (13 * (names.length + 1) + 42) ≤ R.locals) (hRcells : cells + 1 ≤ R.cells) (hRslots : slots + 6 ≤ R.slots) (hlocks : meth.locks = false)
    (hx : ∀ t : State, s.vm.Alike t.vm → H.size ≤ t.heap.size → (∀ q : Nat, q < H.size → t.heap[q]? = H[q]?) → XC cls s t)
    (hf : ∀ z ∈ locs, free z.base) (hc : cells + 1 ≤ mc) (hs : slots + 6 ≤ ms) :
    W p l e R s m args below meth c H locs cells slots (vx_MQ below Qc XC args s mc ms free) (F0 m pc ls rest) := by
  intro T hT X
  have htr : e.platform.stackTraces = false := (show e.platform.stackTraces = l.stackTraces by rw [X.admits.platform]).trans hl
  have Y := vx_rebase X (R' := { frames := R.frames, locals := R.locals, cells := 1, slots := 6 }) (Nat.le_refl _) (Nat.le_refl _) hRcells hRslots
  obtain ⟨s', hA⟩ : ∃ z, z = (T.setVm s.vm).setFrames (.invoking m args :: below) := ⟨_, rfl⟩
  rw [← hA] at Y
  have hvm : s'.vm = s.vm := by rw [hA]; rfl
  have hhp : s'.heap = H := by rw [hA]; exact hT
  have hW0 : s.WarmedH s'.vm := by rw [hvm]; exact State.WarmedH.refl s
  have hat' : ∀ w ∈ vx_at0 own ic cls names, w.before args s' = true := fun w hw => vx_ot_at hW0 hvm.symm (hgood w (List.mem_cons_of_mem _ (List.mem_cons_of_mem _ hw))) (hat w hw)
  have hk' : (Cond.classLink own ik cls).before args s' = true := vx_ot_at hW0 hvm.symm (hgood _ List.mem_cons_self) hk
  have hini' : (Cond.initialized cls).before args s' = true := vx_ot_at hW0 hvm.symm (hgood _ (List.mem_cons_of_mem _ List.mem_cons_self)) hini
  have hU' : vx_Zq Bundle.tN "UNASSIGNED_STACK" Bundle.steD A s' s'.heap := by rw [hhp]; exact vx_Zq.moved hW0.alike (hU.kept hS.2.1)
  have hN' : vx_Zq Bundle.tN "SUPPRESSED_SENTINEL" Bundle.listD A s' s'.heap := by rw [hhp]; exact vx_Zq.moved hW0.alike (hN.kept hS.2.1)
  have h : ∀ w ∈ Bundle.ownAtoms0 own ic cls names, w.before args s' = true := vx_own hat' (vx_isRefq hU'.1) (vx_isRefq hN'.1) hU'.2.word hN'.2.word
  have hown' : s'.vm.findClass own = some m.cls := by rw [hvm]; exact hown
  have hins : (Cond.instantiable cls 6).before args s' = true := h _ (by simp [Bundle.ownAtoms0])
  obtain ⟨vm₁, cX, kX, hfX, hkX, -, -, X₁, st1⟩ := Y.newCold hexec (own := own) (C := cls) (index := ik) (n := 6) hown' hk' hins hini'
    (g := F0 m pc ls rest) rfl (by rw [hb]; exact d0) (Nat.le_refl _) (Nat.le_refl _)
  generalize hT1 : (T.setVm vm₁).pushCell { cls := cX, slots := kX.instanceTypes.map defaultValue, vm := .none } = T1 at X₁ st1
  have hcat : (Value.ref T.heap.size).category = 1 := rfl
  have hcellA : T1.heap[T.heap.size]? = some (freshCell cX kX) := by rw [← hT1]; exact State.heap_pushCell_size _ _
  have d3' : decode c.code (pc + 3) = .ok (.dup, 1) := by rw [hb]; exact d3
  obtain ⟨U, hsteps, hrun, hend, hW, hsame, ce, hce, hO⟩ := X₁.ctorThrow0 hexec htr (own := own) (cls := cls) (names := names) (ic := ic) hown' hcls hnames h (fun x hx => nomatch hx) hfX hkX hcellA (by rw [hhp, hT]; exact Nat.le_refl _)
    (g := { method := m, pc := pc + 4, locals := ls, stack := .ref T.heap.size :: .ref T.heap.size :: rest, locked := none }) rfl hsize rfl rfl (rest := rest) rfl
    (by rw [hb]; exact d4) (by rw [hb]; exact d7) hout hRframes (by simp only [List.map_cons, List.sum_cons, hcat]; omega) hlocks
  obtain ⟨f1, f2⟩ := vx_frame hsame
  rw [hhp] at f1 f2
  have hWs : s.WarmedH U.vm := State.WarmedH.trans hW0 hW
  have hcl : s.vm.findClass cls = some ce.cls := by
    have h9 := hO.cls
    rw [hvm] at h9
    exact h9
  have hall : s.sameButNew ({ U with vm := s.vm } : State) locs mc ms := by
    subst hA
    obtain ⟨e1, e2⟩ := hsame
    rw [State.setFrames_setFrames] at e1
    have h2 : (T.setVm s.vm).sameButNew ({ U with vm := s.vm } : State) [] (0 + 1) (0 + 6) := ⟨e1, e2⟩
    have h3 := X.same.trans h2
    rw [List.append_nil] at h3
    exact h3.mono hc hs
  refine ⟨U, ?_, .threw T.heap.size, hrun, hend, Or.inr ⟨T.heap.size, rfl, cls, ce, locs, hx U hWs.alike f1 (fun q hq => f2 q hq (fun z hz => nomatch hz)), hce, hO.vm, hcl, hWs, hall, hf⟩⟩
  refine st1 _ ?_
  show Steps p.tables e below (T1.setTop { method := m, pc := pc + 3, locals := ls, stack := .ref T.heap.size :: rest, locked := none }) _
  jvm_step X₁.here [X₁.here.top, hexec, d3', Value.category]
  exact hsteps
/-- 'throw new E("text")': new; dup; ldc; invokespecial; athrow -/
theorem vx_throwS {cc : ByteArray} {pc : Nat} (hexec : p.tables.exec = Jvm.exec) (hb : c.code = cc) (hl : l.stackTraces = false) {own cls text : String} {names : List String} {ik is ic mc ms sa : Nat} {A : Nat → Prop}
    (hown : s.vm.findClass own = some m.cls) (hcls : Bundle.fit cls = true) (hnames : ∀ n ∈ names, Bundle.fit n = true)
    (hk : (Cond.classLink own ik cls).before args s = true) (hini : (Cond.initialized cls).before args s = true) (hstr : vk_R own is text sa s) (hat : ∀ w ∈ vx_atS own ic cls names, w.before args s = true)
    (hgood : ∀ w ∈ Cond.classLink own ik cls :: Cond.initialized cls :: vx_atS own ic cls names, vx_ot w = true)
    (hU : vx_Zq Bundle.tN "UNASSIGNED_STACK" Bundle.steD A s s.heap) (hN : vx_Zq Bundle.tN "SUPPRESSED_SENTINEL" Bundle.listD A s s.heap) (hS : va_S A s.heap H locs) (hsize : ls.size = c.maxLocals)
    (d0 : decode cc pc = .ok (.new ik, 3)) (d3 : decode cc (pc + 3) = .ok (.dup, 1)) (d4 : decode cc (pc + 4) = .ok (.ldc is, 2)) (d6 : decode cc (pc + 6) = .ok (.invokespecial ic, 3)) (d9 : decode cc (pc + 9) = .ok (.athrow, 1))
    (hout : ∀ x ∈ c.exceptionTable.toList, covers x (pc + 9) = false)
    (hRframes : names.length + 3 < R.frames) (hRlocals : (rest.map fun v => v.category).sum + (13 * (names.length + 1) + 43) ≤ R.locals) (hRcells : cells + 1 ≤ R.cells) (hRslots : slots + 6 ≤ R.slots) (hlocks : meth.locks = false)
    (hx : ∀ t : State, s.vm.Alike t.vm → H.size ≤ t.heap.size → (∀ q : Nat, q < H.size → t.heap[q]? = H[q]?) → XC cls s t)
    (hf : ∀ z ∈ locs, free z.base) (hc : cells + 1 ≤ mc) (hs : slots + 6 ≤ ms) :
    W p l e R s m args below meth c H locs cells slots (vx_MQ below Qc XC args s mc ms free) (F0 m pc ls rest) := by
  intro T hT X
  have htr : e.platform.stackTraces = false := (show e.platform.stackTraces = l.stackTraces by rw [X.admits.platform]).trans hl
  have Y := vx_rebase X (R' := { frames := R.frames, locals := R.locals, cells := 1, slots := 6 }) (Nat.le_refl _) (Nat.le_refl _) hRcells hRslots
  obtain ⟨s', hA⟩ : ∃ z, z = (T.setVm s.vm).setFrames (.invoking m args :: below) := ⟨_, rfl⟩
  rw [← hA] at Y
  have hvm : s'.vm = s.vm := by rw [hA]; rfl
  have hhp : s'.heap = H := by rw [hA]; exact hT
  have hW0 : s.WarmedH s'.vm := by rw [hvm]; exact State.WarmedH.refl s
  have hat' : ∀ w ∈ vx_atS own ic cls names, w.before args s' = true := fun w hw => vx_ot_at hW0 hvm.symm (hgood w (List.mem_cons_of_mem _ (List.mem_cons_of_mem _ hw))) (hat w hw)
  have hk' : (Cond.classLink own ik cls).before args s' = true := vx_ot_at hW0 hvm.symm (hgood _ List.mem_cons_self) hk
  have hini' : (Cond.initialized cls).before args s' = true := vx_ot_at hW0 hvm.symm (hgood _ (List.mem_cons_of_mem _ List.mem_cons_self)) hini
  have hU' : vx_Zq Bundle.tN "UNASSIGNED_STACK" Bundle.steD A s' s'.heap := by rw [hhp]; exact vx_Zq.moved hW0.alike (hU.kept hS.2.1)
  have hN' : vx_Zq Bundle.tN "SUPPRESSED_SENTINEL" Bundle.listD A s' s'.heap := by rw [hhp]; exact vx_Zq.moved hW0.alike (hN.kept hS.2.1)
  have h : ∀ w ∈ Bundle.ownAtoms own ic cls names, w.before args s' = true := vx_own hat' (vx_isRefq hU'.1) (vx_isRefq hN'.1) hU'.2.word hN'.2.word
  have hown' : s'.vm.findClass own = some m.cls := by rw [hvm]; exact hown
  have hins : (Cond.instantiable cls 6).before args s' = true := h _ (by simp [Bundle.ownAtoms])
  obtain ⟨vm₁, cX, kX, hfX, hkX, -, -, X₁, st1⟩ := Y.newCold hexec (own := own) (C := cls) (index := ik) (n := 6) hown' hk' hins hini'
    (g := F0 m pc ls rest) rfl (by rw [hb]; exact d0) (Nat.le_refl _) (Nat.le_refl _)
  generalize hT1 : (T.setVm vm₁).pushCell { cls := cX, slots := kX.instanceTypes.map defaultValue, vm := .none } = T1 at X₁ st1
  have hcat : (Value.ref T.heap.size).category = 1 := rfl
  have hcellA : T1.heap[T.heap.size]? = some (freshCell cX kX) := by rw [← hT1]; exact State.heap_pushCell_size _ _
  have d3' : decode c.code (pc + 3) = .ok (.dup, 1) := by rw [hb]; exact d3
  have d4' : decode c.code (pc + 4) = .ok (.ldc is, 2) := by rw [hb]; exact d4
  have hstr' : vk_R own is text sa s' := vk_R.warm hW0 hstr
  obtain ⟨U, hsteps, hrun, hend, hW, hsame, ce, hce, hO⟩ := X₁.ctorThrowS hexec htr (own := own) (cls := cls) (names := names) (ic := ic) hown' hcls hnames h (fun x hx => nomatch hx) hfX hkX hcellA (by rw [hhp, hT]; exact Nat.le_refl _) (msg := .ref sa) rfl
    (g := { method := m, pc := pc + 6, locals := ls, stack := .ref sa :: .ref T.heap.size :: .ref T.heap.size :: rest, locked := none }) rfl hsize rfl rfl (rest := rest) rfl
    (by rw [hb]; exact d6) (by rw [hb]; exact d9) hout hRframes (by simp only [List.map_cons, List.sum_cons, hcat]; omega) hlocks
  obtain ⟨f1, f2⟩ := vx_frame hsame
  rw [hhp] at f1 f2
  have hWs : s.WarmedH U.vm := State.WarmedH.trans hW0 hW
  have hcl : s.vm.findClass cls = some ce.cls := by
    have h9 := hO.cls
    rw [hvm] at h9
    exact h9
  have hall : s.sameButNew ({ U with vm := s.vm } : State) locs mc ms := by
    subst hA
    obtain ⟨e1, e2⟩ := hsame
    rw [State.setFrames_setFrames] at e1
    have h2 : (T.setVm s.vm).sameButNew ({ U with vm := s.vm } : State) [] (0 + 1) (0 + 6) := ⟨e1, e2⟩
    have h3 := X.same.trans h2
    rw [List.append_nil] at h3
    exact h3.mono hc hs
  refine ⟨U, ?_, .threw T.heap.size, hrun, hend, Or.inr ⟨T.heap.size, rfl, cls, ce, locs, hx U hWs.alike f1 (fun q hq => f2 q hq (fun z hz => nomatch hz)), hce, hO.vm, hcl, hWs, hall, hf⟩⟩
  refine st1 _ ?_
  show Steps p.tables e below (T1.setTop { method := m, pc := pc + 3, locals := ls, stack := .ref T.heap.size :: rest, locked := none }) _
  jvm_step X₁.here [X₁.here.top, hexec, d3', Value.category]
  exact X₁.ldcString hexec (own := own) (text := text) (index := is) (a := sa) hown' hstr'.1 hstr'.2
    (g := { method := m, pc := pc + 4, locals := ls, stack := .ref T.heap.size :: .ref T.heap.size :: rest, locked := none }) rfl d4' _ hsteps
/-- 'throw new E("text")', the text by a wide index -/
theorem vx_throwSW {cc : ByteArray} {pc : Nat} (hexec : p.tables.exec = Jvm.exec) (hb : c.code = cc) (hl : l.stackTraces = false) {own cls text : String} {names : List String} {ik is ic mc ms sa : Nat} {A : Nat → Prop}
    (hown : s.vm.findClass own = some m.cls) (hcls : Bundle.fit cls = true) (hnames : ∀ n ∈ names, Bundle.fit n = true)
    (hk : (Cond.classLink own ik cls).before args s = true) (hini : (Cond.initialized cls).before args s = true) (hstr : vk_R own is text sa s) (hat : ∀ w ∈ vx_atS own ic cls names, w.before args s = true)
    (hgood : ∀ w ∈ Cond.classLink own ik cls :: Cond.initialized cls :: vx_atS own ic cls names, vx_ot w = true)
    (hU : vx_Zq Bundle.tN "UNASSIGNED_STACK" Bundle.steD A s s.heap) (hN : vx_Zq Bundle.tN "SUPPRESSED_SENTINEL" Bundle.listD A s s.heap) (hS : va_S A s.heap H locs) (hsize : ls.size = c.maxLocals)
    (d0 : decode cc pc = .ok (.new ik, 3)) (d3 : decode cc (pc + 3) = .ok (.dup, 1)) (d4 : decode cc (pc + 4) = .ok (.ldc_w is, 3)) (d7 : decode cc (pc + 7) = .ok (.invokespecial ic, 3)) (d10 : decode cc (pc + 10) = .ok (.athrow, 1))
    (hout : ∀ x ∈ c.exceptionTable.toList, covers x (pc + 10) = false)
    (hRframes : names.length + 3 < R.frames) (hRlocals : (rest.map fun v => v.category).sum + (13 * (names.length + 1) + 43) ≤ R.locals) (hRcells : cells + 1 ≤ R.cells) (hRslots : slots + 6 ≤ R.slots) (hlocks : meth.locks = false)
    (hx : ∀ t : State, s.vm.Alike t.vm → H.size ≤ t.heap.size → (∀ q : Nat, q < H.size → t.heap[q]? = H[q]?) → XC cls s t)
    (hf : ∀ z ∈ locs, free z.base) (hc : cells + 1 ≤ mc) (hs : slots + 6 ≤ ms) :
    W p l e R s m args below meth c H locs cells slots (vx_MQ below Qc XC args s mc ms free) (F0 m pc ls rest) := by
  intro T hT X
  have htr : e.platform.stackTraces = false := (show e.platform.stackTraces = l.stackTraces by rw [X.admits.platform]).trans hl
  have Y := vx_rebase X (R' := { frames := R.frames, locals := R.locals, cells := 1, slots := 6 }) (Nat.le_refl _) (Nat.le_refl _) hRcells hRslots
  obtain ⟨s', hA⟩ : ∃ z, z = (T.setVm s.vm).setFrames (.invoking m args :: below) := ⟨_, rfl⟩
  rw [← hA] at Y
  have hvm : s'.vm = s.vm := by rw [hA]; rfl
  have hhp : s'.heap = H := by rw [hA]; exact hT
  have hW0 : s.WarmedH s'.vm := by rw [hvm]; exact State.WarmedH.refl s
  have hat' : ∀ w ∈ vx_atS own ic cls names, w.before args s' = true := fun w hw => vx_ot_at hW0 hvm.symm (hgood w (List.mem_cons_of_mem _ (List.mem_cons_of_mem _ hw))) (hat w hw)
  have hk' : (Cond.classLink own ik cls).before args s' = true := vx_ot_at hW0 hvm.symm (hgood _ List.mem_cons_self) hk
  have hini' : (Cond.initialized cls).before args s' = true := vx_ot_at hW0 hvm.symm (hgood _ (List.mem_cons_of_mem _ List.mem_cons_self)) hini
  have hU' : vx_Zq Bundle.tN "UNASSIGNED_STACK" Bundle.steD A s' s'.heap := by rw [hhp]; exact vx_Zq.moved hW0.alike (hU.kept hS.2.1)
  have hN' : vx_Zq Bundle.tN "SUPPRESSED_SENTINEL" Bundle.listD A s' s'.heap := by rw [hhp]; exact vx_Zq.moved hW0.alike (hN.kept hS.2.1)
  have h : ∀ w ∈ Bundle.ownAtoms own ic cls names, w.before args s' = true := vx_own hat' (vx_isRefq hU'.1) (vx_isRefq hN'.1) hU'.2.word hN'.2.word
  have hown' : s'.vm.findClass own = some m.cls := by rw [hvm]; exact hown
  have hins : (Cond.instantiable cls 6).before args s' = true := h _ (by simp [Bundle.ownAtoms])
  obtain ⟨vm₁, cX, kX, hfX, hkX, -, -, X₁, st1⟩ := Y.newCold hexec (own := own) (C := cls) (index := ik) (n := 6) hown' hk' hins hini'
    (g := F0 m pc ls rest) rfl (by rw [hb]; exact d0) (Nat.le_refl _) (Nat.le_refl _)
  generalize hT1 : (T.setVm vm₁).pushCell { cls := cX, slots := kX.instanceTypes.map defaultValue, vm := .none } = T1 at X₁ st1
  have hcat : (Value.ref T.heap.size).category = 1 := rfl
  have hcellA : T1.heap[T.heap.size]? = some (freshCell cX kX) := by rw [← hT1]; exact State.heap_pushCell_size _ _
  have d3' : decode c.code (pc + 3) = .ok (.dup, 1) := by rw [hb]; exact d3
  have d4' : decode c.code (pc + 4) = .ok (.ldc_w is, 3) := by rw [hb]; exact d4
  have hstr' : vk_R own is text sa s' := vk_R.warm hW0 hstr
  obtain ⟨U, hsteps, hrun, hend, hW, hsame, ce, hce, hO⟩ := X₁.ctorThrowS hexec htr (own := own) (cls := cls) (names := names) (ic := ic) hown' hcls hnames h (fun x hx => nomatch hx) hfX hkX hcellA (by rw [hhp, hT]; exact Nat.le_refl _) (msg := .ref sa) rfl
    (g := { method := m, pc := pc + 7, locals := ls, stack := .ref sa :: .ref T.heap.size :: .ref T.heap.size :: rest, locked := none }) rfl hsize rfl rfl (rest := rest) rfl
    (by rw [hb]; exact d7) (by rw [hb]; exact d10) hout hRframes (by simp only [List.map_cons, List.sum_cons, hcat]; omega) hlocks
  obtain ⟨f1, f2⟩ := vx_frame hsame
  rw [hhp] at f1 f2
  have hWs : s.WarmedH U.vm := State.WarmedH.trans hW0 hW
  have hcl : s.vm.findClass cls = some ce.cls := by
    have h9 := hO.cls
    rw [hvm] at h9
    exact h9
  have hall : s.sameButNew ({ U with vm := s.vm } : State) locs mc ms := by
    subst hA
    obtain ⟨e1, e2⟩ := hsame
    rw [State.setFrames_setFrames] at e1
    have h2 : (T.setVm s.vm).sameButNew ({ U with vm := s.vm } : State) [] (0 + 1) (0 + 6) := ⟨e1, e2⟩
    have h3 := X.same.trans h2
    rw [List.append_nil] at h3
    exact h3.mono hc hs
  refine ⟨U, ?_, .threw T.heap.size, hrun, hend, Or.inr ⟨T.heap.size, rfl, cls, ce, locs, hx U hWs.alike f1 (fun q hq => f2 q hq (fun z hz => nomatch hz)), hce, hO.vm, hcl, hWs, hall, hf⟩⟩
  refine st1 _ ?_
  show Steps p.tables e below (T1.setTop { method := m, pc := pc + 3, locals := ls, stack := .ref T.heap.size :: rest, locked := none }) _
  jvm_step X₁.here [X₁.here.top, hexec, d3', Value.category]
  exact X₁.ldcStringW hexec (own := own) (text := text) (index := is) (a := sa) hown' hstr'.1 hstr'.2
    (g := { method := m, pc := pc + 4, locals := ls, stack := .ref T.heap.size :: .ref T.heap.size :: rest, locked := none }) rfl d4' _ hsteps
end Ends
section Bodies
variable {l : Launch}
theorem vx_ofW {y : MethodName} {ws ws' : List Cond} {rm : Room} {Pc : Array Value → State → Prop} {Qc : Array Value → State → Outcome → State → Prop} {XC : String → State → State → Prop} {mc ms : Nat} {free : Addr → Prop} {cc : ByteArray} {maxL : Nat} {ret : Option FieldType}
    (hy : plainName y.cls = true) (hw : ws = Cond.code y cc maxL ret :: ws')
    (body : ∀ p e s m args below meth c s₁, BodyLoose p l y (headSpec ws rm) cc maxL ret e s m args below meth c s₁ → c.maxLocals = maxL → (∀ x ∈ c.exceptionTable.toList, False) → Pc args s →
      W p l e (headSpec ws rm).room s m args below meth c s.heap [] 0 0 (vx_MQ below Qc XC args s mc ms free) (entryFrame m args maxL)) : vx_Met l y ws rm Pc Qc XC mc ms free := by
  refine MetFree.of_bodyS (code := cc) (maxLocals := maxL) (ret := ret) hy ?_ ?_
  · intro args s m h hn
    obtain ⟨meth, c, h1, h2, h3, h4, h5, h6, -, -⟩ := Cond.code_spec hn (atoms_spec (ws := ws) h _ (by rw [hw]; exact List.mem_cons_self))
    exact ⟨meth, c, h1, h2, h3, h4, h5, h6⟩
  · intro p e s m args below meth c s₁ B hml hP _
    have hh0 : s₁.heap = s.heap := by rw [B.state]; rfl
    have ht : ∀ x ∈ c.exceptionTable.toList, False := by
      obtain ⟨meth9, c9, h1, h2, -, -, -, -, h7, -⟩ := Cond.code_spec B.named (atoms_spec (ws := ws) B.pre _ (by rw [hw]; exact List.mem_cons_self))
      cases Option.some.inj (h1.symm.trans B.method)
      cases Option.some.inj (h2.symm.trans (Stand.of_body B).code)
      intro x hx
      rw [Array.isEmpty_iff.mp h7] at hx
      cases hx
    obtain ⟨t, a1, o, b1, b2, b3⟩ := body p e s m args below meth c s₁ B hml ht hP s₁ hh0 (Stand.of_body B)
    exact ⟨t, o, a1, b1, b2, b3⟩
/-- the table of a body with handlers -/
theorem vx_table {p : Program} {x y : MethodName} {S : Spec} {cc bytes : ByteArray} {maxL maxL' : Nat} {ret ret' : Option FieldType} {e : Env} {s s₁ : State} {m : MethodId} {args : Array Value} {below : List Frame} {meth : Method} {c : Code} {hh : List (Nat × Nat × Nat × Nat)}
    (B : BodyLoose p l y S cc maxL ret e s m args below meth c s₁) (h : (Cond.codeWith y bytes maxL' ret' hh).before args s = true) : c.exceptionTable.toList = tableOf hh := by
  obtain ⟨m9, meth9, c9, hn9, h1, h2, -, -, h6, -⟩ := Cond.codeWith_spec h
  cases Option.some.inj (hn9.symm.trans B.named)
  cases Option.some.inj (h1.symm.trans B.method)
  cases Option.some.inj (h2.symm.trans (Stand.of_body B).code)
  rw [← h6, table_eq]
end Bodies
end VXA
/-! ===== END ===== -/
/-! ===== BEGIN a static call of a method with an exception table ===== -/
section VXS
variable {p : Program} {l : Launch} {e : Env} {R : Room} {s : State} {m : MethodId} {args : Array Value} {below : List Frame} {meth : Method} {c : Code} {T : State} {H : Heap} {locs : List Loc} {cells slots : Nat}
abbrev vx_CSW (R : Room) (s : State) (args : Array Value) (own : String) (index : Nat) (y : MethodName) (bytes : ByteArray) (maxL : Nat) (ret : Option FieldType) (hh : List (Nat × Nat × Nat × Nat)) (ws : List Cond) (rm : Room) (mc ms n : Nat) : Prop :=
  (rm.cells = mc ∧ rm.slots = ms ∧ rm.frames + 1 ≤ R.frames ∧ 8 + (maxL + 11) + rm.locals ≤ R.locals ∧ (∀ w ∈ ws, ∀ (a' : Array Value) (U : State), s.WarmedH U.vm → w.before a' U = true) ∧ Cond.codeWith y bytes maxL ret hh ∈ ws) ∧
  (Cond.codeWith y bytes maxL ret hh).before args s = true ∧ (Cond.initialized y.cls).before args s = true ∧ (y.cls ≠ "java/lang/invoke/MethodHandle" ∧ y.cls ≠ "java/lang/invoke/VarHandle") ∧
  (∀ sig, parseMethodDescriptor y.desc = some sig → n = sig.parameters.length) ∧ (Cond.methodLink own index y).before args s = true ∧ (Cond.static y).before args s = true
theorem vx_cwSW {own : String} {index maxL mc ms : Nat} {y : MethodName} {bytes : ByteArray} {ret : Option FieldType} {hh : List (Nat × Nat × Nat × Nat)} {Ts ws ws' : List Cond} {rm : Room} (n : Nat) (ht : ∀ w ∈ Ts, w.before args s = true) (hT : GoodIn Ts (va_wsS own index y ws)) (hw : ws = Cond.codeWith y bytes maxL ret hh :: ws') (hrc : rm.cells = mc) (hrs : rm.slots = ms)
    (hd : y.cls ≠ "java/lang/invoke/MethodHandle" ∧ y.cls ≠ "java/lang/invoke/VarHandle" ∧ (parseMethodDescriptor y.desc).map (fun d => d.parameters.length) = some n) (hR : rm.frames + 1 ≤ R.frames ∧ 8 + (maxL + 11) + rm.locals ≤ R.locals) :
    vx_CSW R s args own index y bytes maxL ret hh ws rm mc ms n := by
  have ok : ∀ w ∈ va_wsS own index y ws, w.before args s = true := fun w h => ht w (hT w h).1
  have hG : GoodIn Ts ws := fun w h => hT w (by unfold va_wsS; exact List.mem_append_right _ h)
  have hc : Cond.codeWith y bytes maxL ret hh ∈ ws := by rw [hw]; exact List.mem_cons_self
  refine ⟨⟨hrc, hrs, hR.1, hR.2, pay_in ht hG, hc⟩, ht _ (hG _ hc).1, ok _ (by simp [va_wsS]), ⟨hd.1, hd.2.1⟩, fun sig h => ?_, ok _ (by simp [va_wsS]), ok _ (by simp [va_wsS])⟩
  have h2 := hd.2.2
  rw [h] at h2
  exact (Option.some.inj h2).symm
theorem vx_callSW (X : Stand p l e R s m args below meth c T locs cells slots) (hexec : p.tables.exec = Jvm.exec) {own : String} {index : Nat} {y : MethodName} {bytes : ByteArray} {maxL : Nat} {ret : Option FieldType} {hh : List (Nat × Nat × Nat × Nat)}
    (hown : s.vm.findClass own = some m.cls) (hlink : (Cond.methodLink own index y).before args s = true) (hstat : (Cond.static y).before args s = true) (hinit : (Cond.initialized y.cls).before args s = true)
    (hcode : (Cond.codeWith y bytes maxL ret hh).before args s = true) (hy : y.cls ≠ "java/lang/invoke/MethodHandle" ∧ y.cls ≠ "java/lang/invoke/VarHandle")
    {W9 : Nat} {Pre : Pt → Array Value → Prop} {Post : Pt → Array Value → Option Value → Pt → Prop} (hK : Back l R p e below s args y 3 W9 Pre Post)
    {g : JFrame} (hg : g.method = m) (hsize : g.locals.size = c.maxLocals) {argsL rest : List Value} (hlen : ∀ sig, parseMethodDescriptor y.desc = some sig → argsL.length = sig.parameters.length)
    (hstack : g.stack = argsL.reverse ++ rest) (hW : 2 * g.monitorRoom + (rest.map fun v => v.category).sum ≤ W9) (hdg : decode c.code g.pc = .ok (.invokestatic index, 3))
    (hpre : ∀ vm₁, s.WarmedH vm₁ → Pre ⟨T.setVm vm₁, locs, cells, slots⟩ argsL.toArray) :
    ∃ (v : Option Value) (vm₁ : Vm) (B : Pt), s.WarmedH vm₁ ∧ Stand p l e R s m args below meth c B.U B.locs B.cells B.slots ∧ Post ⟨T.setVm vm₁, locs, cells, slots⟩ argsL.toArray v B ∧
      ∀ target, Steps p.tables e below (B.U.setTop { g with pc := g.pc + 3, stack := v.toList ++ rest }) target → Steps p.tables e below (T.setTop g) target := by
  obtain ⟨mk, methM, cM, hnamed, hmethM, -, -, -, -, -, -, hsigM⟩ := Cond.codeWith_spec hcode
  have hstatic : methM.isStatic = true := Cond.static_spec hnamed hmethM hstat
  obtain ⟨kP, hkP, -⟩ := className_of_methodNamed hnamed
  have hinitP : kP.init = .initialized := Cond.initialized_spec (findClass_of_methodNamed hnamed) hkP hinit
  obtain ⟨vm₁, X₁, hstep₁⟩ := X.invokestatic hexec hown hlink hnamed hmethM hstatic hkP hinitP hy (g := g) hg (argsL := argsL) (rest := rest) (hlen _ hsigM) hstack hdg
  obtain ⟨v, B, X', hpost, hsteps⟩ := hK m meth c ⟨T.setVm vm₁, locs, cells, slots⟩ { g with stack := rest } (.invokestatic index) mk argsL.toArray X₁ hg hsize hdg hW (X₁.named hnamed) (hpre vm₁ X₁.warmed)
  exact ⟨v, vm₁, B, X₁.warmed, X', hpost, fun target h => hstep₁ _ fun acts => by rw [doInvoke_state]; exact hsteps.trans h⟩
theorem vx_runSW {y : MethodName} {bytes cc : ByteArray} {maxL nL mc ms n index : Nat} {ret : Option FieldType} {hh : List (Nat × Nat × Nat × Nat)} {ws : List Cond} {rm : Room} {Pc : Array Value → State → Prop} {Qc : Array Value → State → Outcome → State → Prop} {free : Addr → Prop} {Ts : List Cond} {own : String} {As rest : List Value} {g : JFrame}
    (S : CallFix p m c cc nL s args Ts own) (hM : Met l y ws rm Pc Qc mc ms free) (cw : vx_CSW R s args own index y bytes maxL ret hh ws rm mc ms n) (hp : PreS s H Pc As)
    (hg : g.method = m) (hn : As.length = n) (hsize : g.locals.size = nL) (hstack : g.stack = As.reverse ++ rest) (hW : 2 * g.monitorRoom + (rest.map fun v => v.category).sum ≤ 8) (hdg : decode cc g.pc = .ok (.invokestatic index, 3)) (hf : cells + mc ≤ R.cells ∧ slots + ms ≤ R.slots) :
    va_Run p l e R s m args below meth c H locs cells slots mc ms g rest (Qc As.toArray) (free) := by
  obtain ⟨⟨hrc, hrs, hfr, hlo, hws, hcw⟩, hcode, hini, hy, hlen, hl, hstt⟩ := cw
  have hK : Back l R p e below s args y 3 8 (PreOf R mc ms Pc) (PostOf Qc mc ms free) := va_backW (hh := hh) (bytes := bytes) (maxL := maxL) (ret := ret) hM hp.1 hrc hrs hfr hlo hws hcw (fun a' U hW => word_at hW (Or.inl (by first | rfl | simp [Cond.onTables, Cond.keeps, Cond.steady])) hini)
  obtain ⟨hx, hb, hml, ho, -⟩ := S
  intro T hT X
  obtain ⟨v, vm₁, ⟨U', l2, c2, s2⟩, hW₁, X', ⟨g', mk, t, L, e1, e2, hq, h1, hL, h2, h3⟩, st⟩ := vx_callSW X hx (hh := hh) (bytes := bytes) (maxL := maxL) (ret := ret) ho hl hstt hini hcode hy hK hg (hsize.trans hml.symm) (argsL := As) (rest := rest) (fun sig h => hn.trans (hlen sig h)) hstack hW (by rw [hb]; exact hdg)
    (fun vm₁ hW₁ => ⟨hf.1, hf.2, hp.2 (T.setVm vm₁) hT hW₁⟩)
  dsimp only [Pt.U, Pt.locs, Pt.cells, Pt.slots] at X' e1 e2 h1 h2 h3 st
  subst h1; subst h2; subst h3
  exact ⟨v, (T.setVm vm₁).calling g' mk As.toArray, t, U', L, hT, X', hL, e1, e2, hq, st⟩
/-- not caught here, past rows that name other classes: it goes on to the caller -/
theorem vx_outP {p : Program} {l : Launch} {e : Env} {R : Room} {s : State} {m : MethodId} {args : Array Value} {below : List Frame} {meth : Method} {c : Code} {H : Heap} {locs : List Loc} {cells slots : Nat} {free : Addr → Prop} {ls : Array Slot} {rest : List Value} {Qc : Array Value → State → Outcome → State → Prop} {XC : String → State → State → Prop}
    {pc : Nat} {own E : String} {ce : Cell} {q : Addr} {mc ms : Nat} (hown : s.vm.findClass own = some m.cls) (hlocks : meth.locks = false)
    (hpass : ∀ z ∈ c.exceptionTable.toList, covers z pc = false ∨ (z.catchType ≠ 0 ∧ ∃ nm : String, (Cond.classLink own z.catchType nm).before args s = true ∧ va_Nc E nm s)) (hcell : H[q]? = some ce) (hv : ce.vm = .none) (hcl : s.vm.findClass E = some ce.cls)
    (hx : ∀ t : State, t.heap = H → s.vm.Alike t.vm → XC E s t) (hf : ∀ z ∈ locs, free z.base) (hc : cells ≤ mc) (hs : slots ≤ ms) :
    vx_W p l e R s m args below meth c H locs cells slots (vx_MQ below Qc XC args s mc ms free) (F0 m pc ls rest) q := by
  intro T hT X
  have hpl : e.platform.magicAccessors = ({} : Platform).magicAccessors := by rw [X.admits.platform]
  obtain ⟨vm', hW', X', st⟩ := X.outThrough hlocks q (g := F0 m pc ls rest) rfl rfl rfl (cell := ce) (by rw [hT]; exact hcell) (by rw [hv]; rfl)
    (by obtain ⟨k9, h9, -⟩ := Vm.findClass_spec hcl; exact ⟨k9, h9⟩) (fun z hz => by
      rcases hpass z hz with h | ⟨hz0, nm, hl1, hn1⟩
      · exact Or.inl h
      · obtain ⟨c6, hc6, hcl6⟩ := Cond.classLink_spec hown hl1 e.platform hpl
        obtain ⟨a8, b8, h1, h2, h3⟩ := hn1
        cases Option.some.inj (h1.symm.trans hcl)
        cases Option.some.inj (h2.symm.trans hc6)
        exact Or.inr ⟨hz0, _, hcl6, h3⟩)
  obtain ⟨g₀, hfr⟩ := X'.frames_eq
  have hcell9 : ((T.setVm vm').setFrames (.throwing q :: below)).heap[q]? = some ce := by
    show T.heap[q]? = some ce
    rw [hT]; exact hcell
  have hend : Ended ((T.setVm vm').setFrames (.throwing q :: below)) below (.threw q) := State.frames_setFrames _ (State.cur_lt_of_frames hfr)
  refine ⟨(T.setVm vm').setFrames (.throwing q :: below), ?_, .threw q, X'.here.running, hend, Or.inr ⟨q, rfl, E, ce, locs, hx _ hT (X'.ends _).1.alike, hcell9, hv, hcl, (X'.ends _).1, (X'.ends _).2.mono hc hs, hf⟩⟩
  rw [X.pushThrowing_eq]
  exact st
/-- a thing of a world lies in the heap -/
theorem vx_lt {D : va_G} {cl : List vw_C} {ws : va_W} {H1 : Heap} (h : va_P D cl ws H1) {k : Nat} {q : Nat × va_E} (hk : ws[k]? = some q) : q.1 < H1.size := (h k q hk).lt
end VXS
/-! ===== END ===== -/
/-! ===== BEGIN methods with a table of their own: called by a name, returning or throwing ===== -/
section VXH
/-! vx_backW, vx_callVX, vx_callSX, vx_callVW, vx_runVW, vx_runVX, vx_runSX, vx_ofWH follow the same proofs as their sisters above (Free/Laws.lean, Shelf42/LK1.lean); vx_outP calls Shelf42/NT130.lean (outThrough). -/
section
variable {l : Launch} {R : Room} {p : Program} {e : Env} {below : List Frame} {s : State} {sargs : Array Value} {y : MethodName} {len W9 : Nat}
theorem vx_backW {ws : List Cond} {rm : Room} {Pc : Array Value → State → Prop} {Qc : Array Value → State → Outcome → State → Prop} {XC : String → State → State → Prop} {mc ms : Nat} {free : Addr → Prop} {bytes : ByteArray} {maxL : Nat} {ret : Option FieldType} {hh : List (Nat × Nat × Nat × Nat)}
    (hM : vx_Met l y ws rm Pc Qc XC mc ms free) (hblind : FrameBlind Pc) (hrc : rm.cells = mc) (hrs : rm.slots = ms)
    (hframes : rm.frames + 1 ≤ R.frames) (hlocals : W9 + (maxL + 11) + rm.locals ≤ R.locals)
    (hws : ∀ w ∈ ws, ∀ a' U, s.WarmedH U.vm → w.before a' U = true) (hcode : Cond.codeWith y bytes maxL ret hh ∈ ws) (hinit : ∀ a' U, s.WarmedH U.vm → (Cond.initialized y.cls).before a' U = true) :
    vx_Back l R p e below s sargs y len W9 (PreOf R mc ms Pc) (PostOf Qc mc ms free) (vx_Post XC mc ms free) := by
  intro m meth c A g ig mk a X hg hsize hdg hW hn hp
  have h1 : (headSpec ws rm).pre.before a A.U = true := atoms_intro fun w hw => hws w hw _ _ X.warmed
  have h2 : (Cond.codeWith y bytes maxL ret hh).before a A.U = true := hws _ hcode _ _ X.warmed
  have h3 : (Cond.initialized y.cls).before a A.U = true := hinit _ _ X.warmed
  have h4 : A.cells + (headSpec ws rm).room.cells ≤ R.cells := by rw [show (headSpec ws rm).room.cells = mc from hrc]; exact hp.1
  have h5 : A.slots + (headSpec ws rm).room.slots ≤ R.slots := by rw [show (headSpec ws rm).room.slots = ms from hrs]; exact hp.2.1
  have hPc : Pc a (A.U.calling g mk a) := hblind _ _ _ _ hp.2.2
  obtain ⟨U, Ls, c0, s0⟩ := A
  dsimp only [Pt.U, Pt.locs, Pt.cells, Pt.slots] at h1 h2 h3 h4 h5 X hn hPc ⊢
  obtain ⟨m9, methY, cY, hn9, hmY, hcY, -, hlY, -⟩ := Cond.codeWith_spec h2
  cases Option.some.inj (hn9.symm.trans hn)
  obtain ⟨kY, hkY, -⟩ := className_of_methodNamed hn
  have hinitY : kY.init = .initialized := Cond.initialized_spec (findClass_of_methodNamed hn) hkY h3
  have h : At U g.method c below := by rw [hg]; exact X.here
  have hlocals9 : W9 + (maxL + 11) + (headSpec ws rm).room.locals ≤ R.locals := hlocals
  have happ : (headSpec ws rm).appliesLoose y e.platform (U.calling g mk a) = true :=
    Spec.appliesLoose_calling (g := g) h hdg hn hkY hinitY
      (X.room_calling (g := g) (R' := (headSpec ws rm).room) hsize hmY hcY hframes (by rw [hlY]; omega) h4 h5) h1
  obtain ⟨mid, hmid⟩ := h.above
  have hfr : (U.setTop g).frames = (.java g :: mid) ++ below := by rw [State.frames_setTop' g h.top, hmid]; rfl
  obtain ⟨o, s₂, hsteps, -, hend, hq⟩ := Steps.callFree hM p X.admits X.cas X.clock (acts := []) hfr happ hPc trivial
  have hq' : vx_Q Qc XC mc ms free a (U.calling g mk a) o s₂ := hq
  rw [State.frames_setTop' g h.top] at hend
  obtain ⟨g₀, hg0⟩ := Option.isSome_iff_exists.mp h.top
  obtain ⟨r, hr⟩ := State.topJava?_eq_some.mp hg0
  have hr' : (({ U with heap := s₂.heap, slotsUsed := s₂.slotsUsed } : State).setVm s₂.vm).frames = .java g₀ :: r := hr
  rcases hq' with ⟨hqc, L, hfe, hL⟩ | ⟨q, rfl, E, ce, L, hx, hce, hcv, hcl, hW₂, hsm, hL⟩
  · obtain ⟨⟨v, rfl⟩, hW₂, e2, q2, q3, q4, q5, q6⟩ := id hfe
    have e3 : s₂ = ({ (U.calling g mk a).setFrames s₂.frames with heap := s₂.heap, slotsUsed := s₂.slotsUsed } : State).setVm s₂.vm := by
      have : s₂ = ({ s₂ with vm := (U.calling g mk a).vm } : State).setVm s₂.vm := rfl
      rw [e2] at this
      exact this
    obtain ⟨c₂, i₂, len₂, hc₂, hd₂, hf₂⟩ := hend
    have hW' : U.WarmedH s₂.vm := hW₂
    have hcc : c₂ = c := by
      have h1 : s₂.code? g.method = U.code? g.method := by
        rw [State.code?_eq, State.code?_eq, hW'.alike.method?]
      exact Option.some.inj (hc₂.symm.trans (h1.trans h.code))
    subst hcc
    have hlen : len₂ = len := by rw [hdg] at hd₂; cases hd₂; rfl
    subst hlen
    have hs₂ : s₂ = (({ U with heap := s₂.heap, slotsUsed := s₂.slotsUsed } : State).setVm s₂.vm).setTop { g with pc := g.pc + len₂, stack := v.toList ++ g.stack } := by
      refine e3.trans ?_
      rw [hf₂, State.calling_eq h.top, State.setFrames_setFrames, State.setTop_of_frames _ hr', hr]
      rfl
    have hsame : U.sameButNew ({ U with heap := s₂.heap, slotsUsed := s₂.slotsUsed } : State) L mc ms := by
      refine ⟨?_, q2, q3, q4, q5, q6⟩
      obtain ⟨t, ht, -⟩ := State.frames_cons hr
      show ({ U with heap := s₂.heap, slotsUsed := s₂.slotsUsed } : State) = { U.setFrames U.frames with heap := s₂.heap, slotsUsed := s₂.slotsUsed }
      rw [State.setFrames_self ht]
    subst hg
    refine Or.inl ⟨v, ⟨(({ U with heap := s₂.heap, slotsUsed := s₂.slotsUsed } : State).setVm s₂.vm), Ls ++ L, c0 + mc, s0 + ms⟩,
      ⟨X.admits, X.cas, X.clock, X.frames, X.room, X.hears, X.method, X.code, (X.here.setHeapUsed s₂.heap s₂.slotsUsed).setVm hW'.alike, X.tail, State.WarmedH.trans X.warmed hW', X.limits, X.bytes, X.same.trans (hsame.setVm s.vm)⟩,
      ⟨g, mk, s₂, L, rfl, rfl, hqc, rfl, hL, rfl, rfl⟩, ?_⟩
    show Steps p.tables e below _ ((({ U with heap := s₂.heap, slotsUsed := s₂.slotsUsed } : State).setVm s₂.vm).setTop { g with pc := g.pc + len₂, stack := v.toList ++ g.stack })
    rw [← hs₂]
    exact hsteps
  · obtain ⟨e2, q2, q3, q4, q5, q6⟩ := id hsm
    have e3 : s₂ = ({ (U.calling g mk a).setFrames s₂.frames with heap := s₂.heap, slotsUsed := s₂.slotsUsed } : State).setVm s₂.vm := by
      have : s₂ = ({ s₂ with vm := (U.calling g mk a).vm } : State).setVm s₂.vm := rfl
      rw [e2] at this
      exact this
    have hf₂ : s₂.frames = .throwing q :: .java g :: U.frames.tail := hend
    have hW' : U.WarmedH s₂.vm := hW₂
    have hs₂ : s₂ = ((({ U with heap := s₂.heap, slotsUsed := s₂.slotsUsed } : State).setVm s₂.vm).setTop g).pushFrame (.throwing q) := by
      refine e3.trans ?_
      rw [hf₂, State.calling_eq h.top, State.setFrames_setFrames, State.pushFrame, State.frames_setTop _ hr', State.setTop_of_frames _ hr', State.setFrames_setFrames, hr]
      rfl
    have hsame : U.sameButNew ({ U with heap := s₂.heap, slotsUsed := s₂.slotsUsed } : State) L mc ms := by
      refine ⟨?_, q2, q3, q4, q5, q6⟩
      obtain ⟨t, ht, -⟩ := State.frames_cons hr
      show ({ U with heap := s₂.heap, slotsUsed := s₂.slotsUsed } : State) = { U.setFrames U.frames with heap := s₂.heap, slotsUsed := s₂.slotsUsed }
      rw [State.setFrames_self ht]
    subst hg
    refine Or.inr ⟨q, ⟨(({ U with heap := s₂.heap, slotsUsed := s₂.slotsUsed } : State).setVm s₂.vm), Ls ++ L, c0 + mc, s0 + ms⟩,
      ⟨X.admits, X.cas, X.clock, X.frames, X.room, X.hears, X.method, X.code, (X.here.setHeapUsed s₂.heap s₂.slotsUsed).setVm hW'.alike, X.tail, State.WarmedH.trans X.warmed hW', X.limits, X.bytes, X.same.trans (hsame.setVm s.vm)⟩,
      ⟨g, mk, s₂, L, E, ce, rfl, rfl, hx, hce, hcv, hcl, rfl, hL, rfl, rfl⟩, ?_⟩
    show Steps p.tables e below _ (((({ U with heap := s₂.heap, slotsUsed := s₂.slotsUsed } : State).setVm s₂.vm).setTop g).pushFrame (.throwing q))
    rw [← hs₂]
    exact hsteps
end
variable {p : Program} {l : Launch} {e : Env} {R : Room} {s : State} {m : MethodId} {args : Array Value} {below : List Frame} {meth : Method} {c : Code} {T : State} {H : Heap} {locs : List Loc} {cells slots : Nat}
theorem vx_callVX (X : Stand p l e R s m args below meth c T locs cells slots) (hexec : p.tables.exec = Jvm.exec) {own C : String} {index : Nat} {y : MethodName} {bytes : ByteArray} {maxL : Nat} {ret : Option FieldType} {hh : List (Nat × Nat × Nat × Nat)}
    (hown : s.vm.findClass own = some m.cls) (hlink : (Cond.methodLink own index y).before args s = true) (hinst : (Cond.instanceMethod y).before args s = true) (hsel : (Cond.selects C y y).before args s = true)
    (hcode : (Cond.codeWith y bytes maxL ret hh).before args s = true) (hy : y.cls ≠ "java/lang/invoke/MethodHandle" ∧ y.cls ≠ "java/lang/invoke/VarHandle")
    {W9 : Nat} {Pre : Pt → Array Value → Prop} {Post : Pt → Array Value → Option Value → Pt → Prop} {PostX : Pt → Array Value → Addr → Pt → Prop} (hK : vx_Back l R p e below s args y 3 W9 Pre Post PostX)
    {b : Addr} {cellB : Cell} (hcell : T.heap[b]? = some cellB) (hobj : cellB.vm.isStatics = false) (hcls : s.vm.findClass C = some cellB.cls)
    {g : JFrame} (hg : g.method = m) (hsize : g.locals.size = c.maxLocals) {argsL rest : List Value} (hlen : ∀ sig, parseMethodDescriptor y.desc = some sig → argsL.length = sig.parameters.length)
    (hstack : g.stack = argsL.reverse ++ .ref b :: rest) (hW : 2 * g.monitorRoom + (rest.map fun v => v.category).sum ≤ W9) (hdg : decode c.code g.pc = .ok (.invokevirtual index, 3))
    (hpre : ∀ vm₁, s.WarmedH vm₁ → Pre ⟨T.setVm vm₁, locs, cells, slots⟩ (Value.ref b :: argsL).toArray) :
    (∃ (v : Option Value) (vm₁ : Vm) (B : Pt), s.WarmedH vm₁ ∧ Stand p l e R s m args below meth c B.U B.locs B.cells B.slots ∧ Post ⟨T.setVm vm₁, locs, cells, slots⟩ (Value.ref b :: argsL).toArray v B ∧
      ∀ target, Steps p.tables e below (B.U.setTop { g with pc := g.pc + 3, stack := v.toList ++ rest }) target → Steps p.tables e below (T.setTop g) target) ∨
    (∃ (q : Addr) (vm₁ : Vm) (B : Pt), s.WarmedH vm₁ ∧ Stand p l e R s m args below meth c B.U B.locs B.cells B.slots ∧ PostX ⟨T.setVm vm₁, locs, cells, slots⟩ (Value.ref b :: argsL).toArray q B ∧
      Steps p.tables e below (T.setTop g) ((B.U.setTop { g with stack := rest }).pushFrame (.throwing q))) := by
  obtain ⟨mk, methM, hnamed, hmethM, hstM, habM⟩ := Cond.instanceMethod_spec hinst
  obtain ⟨m8, methM', cM, hn8, hmethM', -, -, -, -, -, -, hsigM⟩ := Cond.codeWith_spec hcode
  cases Option.some.inj (hn8.symm.trans hnamed)
  cases hmethM.symm.trans hmethM'
  obtain ⟨c2, r2, m2, q1, q2, q3, q4, kP, hkP, hkPi⟩ := Cond.selects_spec hsel
  cases hcls.symm.trans q1
  cases (State.methodFound?_of_named hnamed hy).symm.trans q2
  cases hnamed.symm.trans q3
  have hselP : selectMethod e.platform s.vm cellB.cls mk = .method mk := by rw [Launch.admits_selectMethod X.admits]; exact q4
  obtain ⟨vm₁, X₁, hstep₁⟩ := X.invokevirtual hexec hown hlink hnamed hmethM hstM hkP hkPi hy (a := b) (cell := cellB) hcell
    (fun z h => by rw [h] at hobj; cases hobj) hselP hmethM habM hkP hkPi (g := g) hg (argsL := argsL) (rest := rest) (hlen _ hsigM) hstack hdg
  rcases hK m meth c ⟨T.setVm vm₁, locs, cells, slots⟩ { g with stack := rest } (.invokevirtual index) mk (Value.ref b :: argsL).toArray X₁ hg hsize hdg hW (X₁.named hnamed) (hpre vm₁ X₁.warmed) with ⟨v, B, X', hpost, hsteps⟩ | ⟨q, B, X', hpost, hsteps⟩
  · exact Or.inl ⟨v, vm₁, B, X₁.warmed, X', hpost, fun target h => hstep₁ _ fun acts => by rw [doInvoke_state]; exact hsteps.trans h⟩
  · exact Or.inr ⟨q, vm₁, B, X₁.warmed, X', hpost, hstep₁ _ fun acts => by rw [doInvoke_state]; exact hsteps⟩
theorem vx_callSX (X : Stand p l e R s m args below meth c T locs cells slots) (hexec : p.tables.exec = Jvm.exec) {own : String} {index : Nat} {y : MethodName} {bytes : ByteArray} {maxL : Nat} {ret : Option FieldType} {hh : List (Nat × Nat × Nat × Nat)}
    (hown : s.vm.findClass own = some m.cls) (hlink : (Cond.methodLink own index y).before args s = true) (hstat : (Cond.static y).before args s = true) (hinit : (Cond.initialized y.cls).before args s = true)
    (hcode : (Cond.codeWith y bytes maxL ret hh).before args s = true) (hy : y.cls ≠ "java/lang/invoke/MethodHandle" ∧ y.cls ≠ "java/lang/invoke/VarHandle")
    {W9 : Nat} {Pre : Pt → Array Value → Prop} {Post : Pt → Array Value → Option Value → Pt → Prop} {PostX : Pt → Array Value → Addr → Pt → Prop} (hK : vx_Back l R p e below s args y 3 W9 Pre Post PostX)
    {g : JFrame} (hg : g.method = m) (hsize : g.locals.size = c.maxLocals) {argsL rest : List Value} (hlen : ∀ sig, parseMethodDescriptor y.desc = some sig → argsL.length = sig.parameters.length)
    (hstack : g.stack = argsL.reverse ++ rest) (hW : 2 * g.monitorRoom + (rest.map fun v => v.category).sum ≤ W9) (hdg : decode c.code g.pc = .ok (.invokestatic index, 3))
    (hpre : ∀ vm₁, s.WarmedH vm₁ → Pre ⟨T.setVm vm₁, locs, cells, slots⟩ argsL.toArray) :
    (∃ (v : Option Value) (vm₁ : Vm) (B : Pt), s.WarmedH vm₁ ∧ Stand p l e R s m args below meth c B.U B.locs B.cells B.slots ∧ Post ⟨T.setVm vm₁, locs, cells, slots⟩ argsL.toArray v B ∧
      ∀ target, Steps p.tables e below (B.U.setTop { g with pc := g.pc + 3, stack := v.toList ++ rest }) target → Steps p.tables e below (T.setTop g) target) ∨
    (∃ (q : Addr) (vm₁ : Vm) (B : Pt), s.WarmedH vm₁ ∧ Stand p l e R s m args below meth c B.U B.locs B.cells B.slots ∧ PostX ⟨T.setVm vm₁, locs, cells, slots⟩ argsL.toArray q B ∧
      Steps p.tables e below (T.setTop g) ((B.U.setTop { g with stack := rest }).pushFrame (.throwing q))) := by
  obtain ⟨mk, methM, cM, hnamed, hmethM, -, -, -, -, -, -, hsigM⟩ := Cond.codeWith_spec hcode
  have hstatic : methM.isStatic = true := Cond.static_spec hnamed hmethM hstat
  obtain ⟨kP, hkP, -⟩ := className_of_methodNamed hnamed
  have hinitP : kP.init = .initialized := Cond.initialized_spec (findClass_of_methodNamed hnamed) hkP hinit
  obtain ⟨vm₁, X₁, hstep₁⟩ := X.invokestatic hexec hown hlink hnamed hmethM hstatic hkP hinitP hy (g := g) hg (argsL := argsL) (rest := rest) (hlen _ hsigM) hstack hdg
  rcases hK m meth c ⟨T.setVm vm₁, locs, cells, slots⟩ { g with stack := rest } (.invokestatic index) mk argsL.toArray X₁ hg hsize hdg hW (X₁.named hnamed) (hpre vm₁ X₁.warmed) with ⟨v, B, X', hpost, hsteps⟩ | ⟨q, B, X', hpost, hsteps⟩
  · exact Or.inl ⟨v, vm₁, B, X₁.warmed, X', hpost, fun target h => hstep₁ _ fun acts => by rw [doInvoke_state]; exact hsteps.trans h⟩
  · exact Or.inr ⟨q, vm₁, B, X₁.warmed, X', hpost, hstep₁ _ fun acts => by rw [doInvoke_state]; exact hsteps⟩
theorem vx_callVW (X : Stand p l e R s m args below meth c T locs cells slots) (hexec : p.tables.exec = Jvm.exec) {own C : String} {index : Nat} {y : MethodName} {bytes : ByteArray} {maxL : Nat} {ret : Option FieldType} {hh : List (Nat × Nat × Nat × Nat)}
    (hown : s.vm.findClass own = some m.cls) (hlink : (Cond.methodLink own index y).before args s = true) (hinst : (Cond.instanceMethod y).before args s = true) (hsel : (Cond.selects C y y).before args s = true)
    (hcode : (Cond.codeWith y bytes maxL ret hh).before args s = true) (hy : y.cls ≠ "java/lang/invoke/MethodHandle" ∧ y.cls ≠ "java/lang/invoke/VarHandle")
    {W9 : Nat} {Pre : Pt → Array Value → Prop} {Post : Pt → Array Value → Option Value → Pt → Prop} (hK : Back l R p e below s args y 3 W9 Pre Post)
    {b : Addr} {cellB : Cell} (hcell : T.heap[b]? = some cellB) (hobj : cellB.vm.isStatics = false) (hcls : s.vm.findClass C = some cellB.cls)
    {g : JFrame} (hg : g.method = m) (hsize : g.locals.size = c.maxLocals) {argsL rest : List Value} (hlen : ∀ sig, parseMethodDescriptor y.desc = some sig → argsL.length = sig.parameters.length)
    (hstack : g.stack = argsL.reverse ++ .ref b :: rest) (hW : 2 * g.monitorRoom + (rest.map fun v => v.category).sum ≤ W9) (hdg : decode c.code g.pc = .ok (.invokevirtual index, 3))
    (hpre : ∀ vm₁, s.WarmedH vm₁ → Pre ⟨T.setVm vm₁, locs, cells, slots⟩ (Value.ref b :: argsL).toArray) :
    ∃ (v : Option Value) (vm₁ : Vm) (B : Pt), s.WarmedH vm₁ ∧ Stand p l e R s m args below meth c B.U B.locs B.cells B.slots ∧ Post ⟨T.setVm vm₁, locs, cells, slots⟩ (Value.ref b :: argsL).toArray v B ∧
      ∀ target, Steps p.tables e below (B.U.setTop { g with pc := g.pc + 3, stack := v.toList ++ rest }) target → Steps p.tables e below (T.setTop g) target := by
  obtain ⟨mk, methM, hnamed, hmethM, hstM, habM⟩ := Cond.instanceMethod_spec hinst
  obtain ⟨m8, methM', cM, hn8, hmethM', -, -, -, -, -, -, hsigM⟩ := Cond.codeWith_spec hcode
  cases Option.some.inj (hn8.symm.trans hnamed)
  cases hmethM.symm.trans hmethM'
  obtain ⟨c2, r2, m2, q1, q2, q3, q4, kP, hkP, hkPi⟩ := Cond.selects_spec hsel
  cases hcls.symm.trans q1
  cases (State.methodFound?_of_named hnamed hy).symm.trans q2
  cases hnamed.symm.trans q3
  have hselP : selectMethod e.platform s.vm cellB.cls mk = .method mk := by rw [Launch.admits_selectMethod X.admits]; exact q4
  obtain ⟨vm₁, X₁, hstep₁⟩ := X.invokevirtual hexec hown hlink hnamed hmethM hstM hkP hkPi hy (a := b) (cell := cellB) hcell
    (fun z h => by rw [h] at hobj; cases hobj) hselP hmethM habM hkP hkPi (g := g) hg (argsL := argsL) (rest := rest) (hlen _ hsigM) hstack hdg
  obtain ⟨v, B, X', hpost, hsteps⟩ := hK m meth c ⟨T.setVm vm₁, locs, cells, slots⟩ { g with stack := rest } (.invokevirtual index) mk (Value.ref b :: argsL).toArray X₁ hg hsize hdg hW (X₁.named hnamed) (hpre vm₁ X₁.warmed)
  exact ⟨v, vm₁, B, X₁.warmed, X', hpost, fun target h => hstep₁ _ fun acts => by rw [doInvoke_state]; exact hsteps.trans h⟩
abbrev vx_CVW (R : Room) (s : State) (args : Array Value) (own C : String) (index : Nat) (y : MethodName) (bytes : ByteArray) (maxL : Nat) (ret : Option FieldType) (hh : List (Nat × Nat × Nat × Nat)) (ws : List Cond) (rm : Room) (mc ms n : Nat) : Prop :=
  (rm.cells = mc ∧ rm.slots = ms ∧ rm.frames + 1 ≤ R.frames ∧ 8 + (maxL + 11) + rm.locals ≤ R.locals ∧ (∀ w ∈ ws, ∀ (a' : Array Value) (U : State), s.WarmedH U.vm → w.before a' U = true) ∧ Cond.codeWith y bytes maxL ret hh ∈ ws) ∧
  (Cond.codeWith y bytes maxL ret hh).before args s = true ∧ (Cond.initialized y.cls).before args s = true ∧ (y.cls ≠ "java/lang/invoke/MethodHandle" ∧ y.cls ≠ "java/lang/invoke/VarHandle") ∧
  (∀ sig, parseMethodDescriptor y.desc = some sig → n = sig.parameters.length) ∧ (Cond.methodLink own index y).before args s = true ∧ (Cond.instanceMethod y).before args s = true ∧ (Cond.selects C y y).before args s = true
theorem vx_cwVW {own C : String} {index maxL mc ms : Nat} {y : MethodName} {bytes : ByteArray} {ret : Option FieldType} {hh : List (Nat × Nat × Nat × Nat)} {Ts ws ws' : List Cond} {rm : Room} (n : Nat) (ht : ∀ w ∈ Ts, w.before args s = true) (hT : GoodIn Ts (wsV own index C y ws)) (hw : ws = Cond.codeWith y bytes maxL ret hh :: ws') (hrc : rm.cells = mc) (hrs : rm.slots = ms)
    (hd : y.cls = C ∧ y.cls ≠ "java/lang/invoke/MethodHandle" ∧ y.cls ≠ "java/lang/invoke/VarHandle" ∧ (parseMethodDescriptor y.desc).map (fun d => d.parameters.length) = some n) (hR : rm.frames + 1 ≤ R.frames ∧ 8 + (maxL + 11) + rm.locals ≤ R.locals) :
    vx_CVW R s args own C index y bytes maxL ret hh ws rm mc ms n := by
  obtain ⟨hC, hd⟩ := hd
  subst hC
  have ok : ∀ w ∈ wsV own index y.cls y ws, w.before args s = true := fun w h => ht w (hT w h).1
  have hG : GoodIn Ts ws := fun w h => hT w (by unfold wsV; exact List.mem_append_right _ h)
  have hc : Cond.codeWith y bytes maxL ret hh ∈ ws := by rw [hw]; exact List.mem_cons_self
  refine ⟨⟨hrc, hrs, hR.1, hR.2, pay_in ht hG, hc⟩, ht _ (hG _ hc).1, ok _ (by simp [wsV]), ⟨hd.1, hd.2.1⟩, fun sig h => ?_, ok _ (by simp [wsV]), ok _ (by simp [wsV]), ok _ (by simp [wsV])⟩
  have h2 := hd.2.2
  rw [h] at h2
  exact (Option.some.inj h2).symm
theorem vx_runVW {y : MethodName} {bytes cc : ByteArray} {maxL nL mc ms n index : Nat} {ret : Option FieldType} {hh : List (Nat × Nat × Nat × Nat)} {ws : List Cond} {rm : Room} {Pc : Array Value → State → Prop} {Qc : Array Value → State → Outcome → State → Prop} {free : Addr → Prop} {Ts : List Cond} {own C : String} {b : Addr} {As rest : List Value} {g : JFrame}
    (S : CallFix p m c cc nL s args Ts own) (hM : Met l y ws rm Pc Qc mc ms free) (cw : vx_CVW R s args own C index y bytes maxL ret hh ws rm mc ms n) (hp : PreV s H C b Pc As)
    (hg : g.method = m) (hn : As.length = n) (hsize : g.locals.size = nL) (hstack : g.stack = As.reverse ++ .ref b :: rest) (hW : 2 * g.monitorRoom + (rest.map fun v => v.category).sum ≤ 8) (hdg : decode cc g.pc = .ok (.invokevirtual index, 3)) (hf : cells + mc ≤ R.cells ∧ slots + ms ≤ R.slots) :
    va_Run p l e R s m args below meth c H locs cells slots mc ms g rest (Qc (Value.ref b :: As).toArray) free := by
  obtain ⟨⟨hrc, hrs, hfr, hlo, hws, hcw⟩, hcode, hini, hy, hlen, hl, hin, hse⟩ := cw
  have hK : Back l R p e below s args y 3 8 (PreOf R mc ms Pc) (PostOf Qc mc ms free) := va_backW (hh := hh) (bytes := bytes) (maxL := maxL) (ret := ret) hM hp.1 hrc hrs hfr hlo hws hcw (fun a' U hW => word_at hW (Or.inl (by first | rfl | simp [Cond.onTables, Cond.keeps, Cond.steady])) hini)
  obtain ⟨hx, hb, hml, ho, -⟩ := S
  obtain ⟨-, ⟨cellB, hcB, hoB, hclB⟩, hPc⟩ := hp
  intro T hT X
  obtain ⟨v, vm₁, ⟨U', l2, c2, s2⟩, hW₁, X', ⟨g', mk, t, L, e1, e2, hq, h1, hL, h2, h3⟩, st⟩ := vx_callVW X hx (C := C) (hh := hh) (bytes := bytes) (maxL := maxL) (ret := ret) ho hl hin hse hcode hy hK (by rw [hT]; exact hcB) hoB hclB hg (hsize.trans hml.symm) (argsL := As) (rest := rest) (fun sig h => hn.trans (hlen sig h)) hstack hW (by rw [hb]; exact hdg)
    (fun vm₁ hW₁ => ⟨hf.1, hf.2, hPc (T.setVm vm₁) hT hW₁⟩)
  dsimp only [Pt.U, Pt.locs, Pt.cells, Pt.slots] at X' e1 e2 h1 h2 h3 st
  subst h1; subst h2; subst h3
  exact ⟨v, (T.setVm vm₁).calling g' mk (Value.ref b :: As).toArray, t, U', L, hT, X', hL, e1, e2, hq, st⟩
section
variable {y : MethodName} {bytes cc : ByteArray} {maxL nL mc ms n index : Nat} {ret : Option FieldType} {ws : List Cond} {rm : Room} {Pc : Array Value → State → Prop} {Qc : Array Value → State → Outcome → State → Prop} {XC : String → State → State → Prop} {free : Addr → Prop} {Ts : List Cond} {own C : String} {b : Addr} {As rest : List Value} {g : JFrame}
theorem vx_runVX {hh : List (Nat × Nat × Nat × Nat)} (S : CallFix p m c cc nL s args Ts own) (hM : vx_Met l y ws rm Pc Qc XC mc ms free) (cw : vx_CVW R s args own C index y bytes maxL ret hh ws rm mc ms n) (hp : PreV s H C b Pc As)
    (hg : g.method = m) (hn : As.length = n) (hsize : g.locals.size = nL) (hstack : g.stack = As.reverse ++ .ref b :: rest) (hW : 2 * g.monitorRoom + (rest.map fun v => v.category).sum ≤ 8) (hdg : decode cc g.pc = .ok (.invokevirtual index, 3)) (hf : cells + mc ≤ R.cells ∧ slots + ms ≤ R.slots) :
    vx_Run p l e R s m args below meth c H locs cells slots mc ms g rest (Qc (Value.ref b :: As).toArray) XC free := by
  obtain ⟨⟨hrc, hrs, hfr, hlo, hws, hcw⟩, hcode, hini, hy, hlen, hl, hin, hse⟩ := cw
  have hK : vx_Back l R p e below s args y 3 8 (PreOf R mc ms Pc) (PostOf Qc mc ms free) (vx_Post XC mc ms free) := vx_backW (hh := hh) (bytes := bytes) (maxL := maxL) (ret := ret) hM hp.1 hrc hrs hfr hlo hws hcw (fun a' U hW => word_at hW (Or.inl (by first | rfl | simp [Cond.onTables, Cond.keeps, Cond.steady])) hini)
  obtain ⟨hx, hb, hml, ho, -⟩ := S
  obtain ⟨-, ⟨cellB, hcB, hoB, hclB⟩, hPc⟩ := hp
  intro T hT X
  rcases vx_callVX X hx (C := C) (hh := hh) (bytes := bytes) (maxL := maxL) (ret := ret) ho hl hin hse hcode hy hK (by rw [hT]; exact hcB) hoB hclB hg (hsize.trans hml.symm) (argsL := As) (rest := rest) (fun sig h => hn.trans (hlen sig h)) hstack hW (by rw [hb]; exact hdg)
    (fun vm₁ hW₁ => ⟨hf.1, hf.2, hPc (T.setVm vm₁) hT hW₁⟩) with ⟨v, vm₁, ⟨U', l2, c2, s2⟩, hW₁, X', ⟨g', mk, t, L, e1, e2, hq, h1, hL, h2, h3⟩, st⟩ | ⟨q, vm₁, ⟨U', l2, c2, s2⟩, hW₁, X', ⟨g', mk, t, L, E, ce, e1, e2, hq, hce, hcv, hcl, h1, hL, h2, h3⟩, st⟩
  · dsimp only [Pt.U, Pt.locs, Pt.cells, Pt.slots] at X' e1 e2 h1 h2 h3 st
    subst h1; subst h2; subst h3
    exact Or.inl ⟨v, (T.setVm vm₁).calling g' mk (Value.ref b :: As).toArray, t, U', L, hT, X', hL, e1, e2, hq, st⟩
  · dsimp only [Pt.U, Pt.locs, Pt.cells, Pt.slots] at X' e1 e2 h1 h2 h3 st hcl
    subst h1; subst h2; subst h3
    exact Or.inr ⟨q, (T.setVm vm₁).calling g' mk (Value.ref b :: As).toArray, t, U', L, E, ce, hT, X', hL, e1, e2, hq, hce, hcv, vx_cls hW₁ hcl, st⟩
theorem vx_runSX {hh : List (Nat × Nat × Nat × Nat)} (S : CallFix p m c cc nL s args Ts own) (hM : vx_Met l y ws rm Pc Qc XC mc ms free) (cw : vx_CSW R s args own index y bytes maxL ret hh ws rm mc ms n) (hp : PreS s H Pc As)
    (hg : g.method = m) (hn : As.length = n) (hsize : g.locals.size = nL) (hstack : g.stack = As.reverse ++ rest) (hW : 2 * g.monitorRoom + (rest.map fun v => v.category).sum ≤ 8) (hdg : decode cc g.pc = .ok (.invokestatic index, 3)) (hf : cells + mc ≤ R.cells ∧ slots + ms ≤ R.slots) :
    vx_Run p l e R s m args below meth c H locs cells slots mc ms g rest (Qc As.toArray) XC free := by
  obtain ⟨⟨hrc, hrs, hfr, hlo, hws, hcw⟩, hcode, hini, hy, hlen, hl, hstt⟩ := cw
  have hK : vx_Back l R p e below s args y 3 8 (PreOf R mc ms Pc) (PostOf Qc mc ms free) (vx_Post XC mc ms free) := vx_backW (hh := hh) (bytes := bytes) (maxL := maxL) (ret := ret) hM hp.1 hrc hrs hfr hlo hws hcw (fun a' U hW => word_at hW (Or.inl (by first | rfl | simp [Cond.onTables, Cond.keeps, Cond.steady])) hini)
  obtain ⟨hx, hb, hml, ho, -⟩ := S
  intro T hT X
  rcases vx_callSX X hx (hh := hh) (bytes := bytes) (maxL := maxL) (ret := ret) ho hl hstt hini hcode hy hK hg (hsize.trans hml.symm) (argsL := As) (rest := rest) (fun sig h => hn.trans (hlen sig h)) hstack hW (by rw [hb]; exact hdg)
    (fun vm₁ hW₁ => ⟨hf.1, hf.2, hp.2 (T.setVm vm₁) hT hW₁⟩) with ⟨v, vm₁, ⟨U', l2, c2, s2⟩, hW₁, X', ⟨g', mk, t, L, e1, e2, hq, h1, hL, h2, h3⟩, st⟩ | ⟨q, vm₁, ⟨U', l2, c2, s2⟩, hW₁, X', ⟨g', mk, t, L, E, ce, e1, e2, hq, hce, hcv, hcl, h1, hL, h2, h3⟩, st⟩
  · dsimp only [Pt.U, Pt.locs, Pt.cells, Pt.slots] at X' e1 e2 h1 h2 h3 st
    subst h1; subst h2; subst h3
    exact Or.inl ⟨v, (T.setVm vm₁).calling g' mk As.toArray, t, U', L, hT, X', hL, e1, e2, hq, st⟩
  · dsimp only [Pt.U, Pt.locs, Pt.cells, Pt.slots] at X' e1 e2 h1 h2 h3 st hcl
    subst h1; subst h2; subst h3
    exact Or.inr ⟨q, (T.setVm vm₁).calling g' mk As.toArray, t, U', L, E, ce, hT, X', hL, e1, e2, hq, hce, hcv, vx_cls hW₁ hcl, st⟩
end
end VXH
theorem vx_ofWH {l : Launch} {y : MethodName} {ws ws' : List Cond} {rm : Room} {Pc : Array Value → State → Prop} {Qc : Array Value → State → Outcome → State → Prop} {XC : String → State → State → Prop} {mc ms : Nat} {free : Addr → Prop} {cc : ByteArray} {maxL : Nat} {ret : Option FieldType} {hh : List (Nat × Nat × Nat × Nat)}
    (hy : plainName y.cls = true) (hw : ws = Cond.codeWith y cc maxL ret hh :: ws')
    (body : ∀ p e s m args below meth c s₁, BodyLoose p l y (headSpec ws rm) cc maxL ret e s m args below meth c s₁ → c.maxLocals = maxL → Pc args s →
      W p l e (headSpec ws rm).room s m args below meth c s.heap [] 0 0 (vx_MQ below Qc XC args s mc ms free) (entryFrame m args maxL)) : vx_Met l y ws rm Pc Qc XC mc ms free := by
  refine MetFree.of_bodyS (code := cc) (maxLocals := maxL) (ret := ret) hy ?_ ?_
  · intro args s m h hn
    obtain ⟨m9, meth, c, hn9, h1, h2, h3, h4, -, h5, h6, -⟩ := Cond.codeWith_spec (atoms_spec (ws := ws) h _ (by rw [hw]; exact List.mem_cons_self))
    cases hn.symm.trans hn9
    exact ⟨meth, c, h1, h2, h3, h4, h5, h6⟩
  · intro p e s m args below meth c s₁ B hml hP _
    have hh0 : s₁.heap = s.heap := by rw [B.state]; rfl
    obtain ⟨t, a1, o, b1, b2, b3⟩ := body p e s m args below meth c s₁ B hml hP s₁ hh0 (Stand.of_body B)
    exact ⟨t, o, a1, b1, b2, b3⟩
/-! ===== END ===== -/
end
section
def RX0 : String := "ArcLight$ArcKeys"
def TX0 : u_T := fun k => match k with
  | 0 => ("ArcLight$ArcKeys", "keys", "[[J", true)
  | _ => ("ArcLight$ArcKeys", "last", "I", false)
def tyX0 : Nat → FieldType := fun k => match k with
  | 0 => .array (.array .long)
  | _ => .int
abbrev wsX00 : List Cond := u_ws RX0 TX0 2
theorem nmX0 : ∀ a, a < 2 → ∀ b, b < 2 → a ≠ b → (TX0 a).2.1 ≠ (TX0 b).2.1 := by decide +kernel
theorem tyX0_ok : ∀ k, k < 2 → parseFieldDescriptor (TX0 k).2.2.1 = some (tyX0 k) := by decide +kernel
abbrev cX0_init : ByteArray := prog_2_method_1_code
def yX0_init : MethodName := ⟨RX0, "<init>", "()V"⟩
abbrev cX0_fill : ByteArray := prog_2_method_2_code
def yX0_fill : MethodName := ⟨RX0, "fill", "(LArcLight$Sentence;LArcLight$Weights;)V"⟩
abbrev cX0_size : ByteArray := prog_2_method_3_code
def yX0_size : MethodName := ⟨RX0, "size", "()I"⟩
abbrev cX0_get : ByteArray := prog_2_method_4_code
def yX0_get : MethodName := ⟨RX0, "get", "(II)J"⟩
def RX1 : String := "ArcLight$Circles"
def TX1 : u_T := fun k => match k with
  | 0 => ("ArcLight$Circles", "keys", "[[J", false)
  | 1 => ("ArcLight$Circles", "contracted", "[[J", false)
  | 2 => ("ArcLight$Circles", "taken", "[I", true)
  | 3 => ("ArcLight$Circles", "groups", "[I", true)
  | _ => ("ArcLight$Circles", "nodes", "I", false)
def tyX1 : Nat → FieldType := fun k => match k with
  | 0 => .array (.array .long)
  | 1 => .array (.array .long)
  | 2 => .array .int
  | 3 => .array .int
  | _ => .int
abbrev wsX10 : List Cond := u_ws RX1 TX1 5
theorem nmX1 : ∀ a, a < 5 → ∀ b, b < 5 → a ≠ b → (TX1 a).2.1 ≠ (TX1 b).2.1 := by decide +kernel
theorem tyX1_ok : ∀ k, k < 5 → parseFieldDescriptor (TX1 k).2.2.1 = some (tyX1 k) := by decide +kernel
abbrev cX1_init : ByteArray := prog_3_method_1_code
def yX1_init : MethodName := ⟨RX1, "<init>", "()V"⟩
abbrev cX1_greatest : ByteArray := prog_3_method_2_code
def yX1_greatest : MethodName := ⟨RX1, "greatest", "(LArcLight$ArcKeys;)J"⟩
abbrev cX1_takeGreatest : ByteArray := prog_3_method_3_code
def yX1_takeGreatest : MethodName := ⟨RX1, "takeGreatest", "()J"⟩
abbrev cX1_takenKey : ByteArray := prog_3_method_4_code
def yX1_takenKey : MethodName := ⟨RX1, "takenKey", "(I)J"⟩
abbrev cX1_takenHead : ByteArray := prog_3_method_5_code
def yX1_takenHead : MethodName := ⟨RX1, "takenHead", "(I)I"⟩
abbrev cX1_findCircle : ByteArray := prog_3_method_6_code
def yX1_findCircle : MethodName := ⟨RX1, "findCircle", "()I"⟩
abbrev cX1_contract : ByteArray := prog_3_method_7_code
def yX1_contract : MethodName := ⟨RX1, "contract", "(I)V"⟩
abbrev cX1_groupNodes : ByteArray := prog_3_method_8_code
def yX1_groupNodes : MethodName := ⟨RX1, "groupNodes", "(I)I"⟩
abbrev cX1_offer : ByteArray := prog_3_method_9_code
def yX1_offer : MethodName := ⟨RX1, "offer", "(IIJ)V"⟩
def RX2 : String := "ArcLight$Sentence"
def TX2 : u_T := fun k => match k with
  | 0 => ("ArcLight$Sentence", "kinds", "[I", true)
  | 1 => ("ArcLight$Sentence", "rightHeads", "[I", true)
  | 2 => ("ArcLight$Sentence", "marks", "[[I", true)
  | _ => ("ArcLight$Sentence", "last", "I", false)
def tyX2 : Nat → FieldType := fun k => match k with
  | 0 => .array .int
  | 1 => .array .int
  | 2 => .array (.array .int)
  | _ => .int
abbrev wsX20 : List Cond := u_ws RX2 TX2 4
theorem nmX2 : ∀ a, a < 4 → ∀ b, b < 4 → a ≠ b → (TX2 a).2.1 ≠ (TX2 b).2.1 := by decide +kernel
theorem tyX2_ok : ∀ k, k < 4 → parseFieldDescriptor (TX2 k).2.2.1 = some (tyX2 k) := by decide +kernel
abbrev cX2_init : ByteArray := prog_4_method_1_code
def yX2_init : MethodName := ⟨RX2, "<init>", "()V"⟩
abbrev cX2_size : ByteArray := prog_4_method_2_code
def yX2_size : MethodName := ⟨RX2, "size", "()I"⟩
abbrev cX2_append : ByteArray := prog_4_method_3_code
def yX2_append : MethodName := ⟨RX2, "append", "(I)V"⟩
abbrev cX2_kindAt : ByteArray := prog_4_method_4_code
def yX2_kindAt : MethodName := ⟨RX2, "kindAt", "(I)I"⟩
abbrev cX2_byKinds : ByteArray := prog_4_method_5_code
def yX2_byKinds : MethodName := ⟨RX2, "byKinds", "(II)I"⟩
abbrev cX2_markOf : ByteArray := prog_4_method_6_code
def yX2_markOf : MethodName := ⟨RX2, "markOf", "(II)I"⟩
abbrev cX2_changeMark : ByteArray := prog_4_method_7_code
def yX2_changeMark : MethodName := ⟨RX2, "changeMark", "(III)I"⟩
abbrev cX2_forcedHead : ByteArray := prog_4_method_8_code
def yX2_forcedHead : MethodName := ⟨RX2, "forcedHead", "(I)I"⟩
abbrev cX2_allows : ByteArray := prog_4_method_9_code
def yX2_allows : MethodName := ⟨RX2, "allows", "(II)Z"⟩
abbrev cX2_rightHead : ByteArray := prog_4_method_10_code
def yX2_rightHead : MethodName := ⟨RX2, "rightHead", "(I)I"⟩
abbrev cX2_changeRightHead : ByteArray := prog_4_method_11_code
def yX2_changeRightHead : MethodName := ⟨RX2, "changeRightHead", "(II)I"⟩
abbrev cX2_hasRightTree : ByteArray := prog_4_method_12_code
def yX2_hasRightTree : MethodName := ⟨RX2, "hasRightTree", "()Z"⟩
def RX3 : String := "ArcLight$Spans"
def TX3 : u_T := fun k => match k with
  | 0 => ("ArcLight$Spans", "wholeFromLeft", "[[J", true)
  | 1 => ("ArcLight$Spans", "wholeFromRight", "[[J", true)
  | 2 => ("ArcLight$Spans", "openFromLeft", "[[J", true)
  | _ => ("ArcLight$Spans", "openFromRight", "[[J", true)
def tyX3 : Nat → FieldType := fun k => match k with
  | 0 => .array (.array .long)
  | 1 => .array (.array .long)
  | 2 => .array (.array .long)
  | _ => .array (.array .long)
abbrev wsX30 : List Cond := u_ws RX3 TX3 4
theorem nmX3 : ∀ a, a < 4 → ∀ b, b < 4 → a ≠ b → (TX3 a).2.1 ≠ (TX3 b).2.1 := by decide +kernel
theorem tyX3_ok : ∀ k, k < 4 → parseFieldDescriptor (TX3 k).2.2.1 = some (tyX3 k) := by decide +kernel
abbrev cX3_init : ByteArray := prog_5_method_1_code
def yX3_init : MethodName := ⟨RX3, "<init>", "()V"⟩
abbrev cX3_greatest : ByteArray := prog_5_method_2_code
def yX3_greatest : MethodName := ⟨RX3, "greatest", "(LArcLight$ArcKeys;)J"⟩
abbrev cX3_fillOpen : ByteArray := prog_5_method_3_code
def yX3_fillOpen : MethodName := ⟨RX3, "fillOpen", "(LArcLight$ArcKeys;II)V"⟩
abbrev cX3_fillWhole : ByteArray := prog_5_method_4_code
def yX3_fillWhole : MethodName := ⟨RX3, "fillWhole", "(II)V"⟩
abbrev cX3_join : ByteArray := prog_5_method_5_code
def yX3_join : MethodName := ⟨RX3, "join", "(JJ)J"⟩
def RX4 : String := "ArcLight$Trial"
def TX4 : u_T := fun k => match k with
  | 0 => ("ArcLight$Trial", "keys", "[J", true)
  | 1 => ("ArcLight$Trial", "heads", "[I", true)
  | _ => ("ArcLight$Trial", "found", "I", false)
def tyX4 : Nat → FieldType := fun k => match k with
  | 0 => .array .long
  | 1 => .array .int
  | _ => .int
abbrev wsX40 : List Cond := u_ws RX4 TX4 3
theorem nmX4 : ∀ a, a < 3 → ∀ b, b < 3 → a ≠ b → (TX4 a).2.1 ≠ (TX4 b).2.1 := by decide +kernel
theorem tyX4_ok : ∀ k, k < 3 → parseFieldDescriptor (TX4 k).2.2.1 = some (tyX4 k) := by decide +kernel
abbrev cX4_init : ByteArray := prog_6_method_1_code
def yX4_init : MethodName := ⟨RX4, "<init>", "()V"⟩
abbrev cX4_run : ByteArray := prog_6_method_2_code
def yX4_run : MethodName := ⟨RX4, "run", "(LArcLight$ArcKeys;Z)V"⟩
abbrev cX4_size : ByteArray := prog_6_method_3_code
def yX4_size : MethodName := ⟨RX4, "size", "()I"⟩
abbrev cX4_greatest : ByteArray := prog_6_method_4_code
def yX4_greatest : MethodName := ⟨RX4, "greatest", "()J"⟩
abbrev cX4_ofRank : ByteArray := prog_6_method_5_code
def yX4_ofRank : MethodName := ⟨RX4, "ofRank", "(I)J"⟩
abbrev cX4_least : ByteArray := prog_6_method_6_code
def yX4_least : MethodName := ⟨RX4, "least", "(J)J"⟩
abbrev cX4_countAbove : ByteArray := prog_6_method_7_code
def yX4_countAbove : MethodName := ⟨RX4, "countAbove", "(J)I"⟩
abbrev cX4_giveHeads : ByteArray := prog_6_method_8_code
def yX4_giveHeads : MethodName := ⟨RX4, "giveHeads", "(LArcLight$Trial;LArcLight$ArcKeys;ZIJ)V"⟩
abbrev cX4_note : ByteArray := prog_6_method_9_code
def yX4_note : MethodName := ⟨RX4, "note", "(J)V"⟩
abbrev cX4_closesCircle : ByteArray := prog_6_method_10_code
def yX4_closesCircle : MethodName := ⟨RX4, "closesCircle", "(II)Z"⟩
abbrev cX4_crossesEarlier : ByteArray := prog_6_method_11_code
def yX4_crossesEarlier : MethodName := ⟨RX4, "crossesEarlier", "(II)Z"⟩
def RX5 : String := "ArcLight$Weights"
def TX5 : u_T := fun k => match k with
  | 0 => ("ArcLight$Weights", "now", "[I", true)
  | 1 => ("ArcLight$Weights", "sums", "[J", true)
  | 2 => ("ArcLight$Weights", "steps", "I", false)
  | 3 => ("ArcLight$Weights", "oldWeights", "[[I", true)
  | 4 => ("ArcLight$Weights", "oldSums", "[[J", true)
  | 5 => ("ArcLight$Weights", "oldSteps", "[I", true)
  | 6 => ("ArcLight$Weights", "kept", "I", false)
  | _ => ("ArcLight$Weights", "next", "I", false)
def tyX5 : Nat → FieldType := fun k => match k with
  | 0 => .array .int
  | 1 => .array .long
  | 2 => .int
  | 3 => .array (.array .int)
  | 4 => .array (.array .long)
  | 5 => .array .int
  | 6 => .int
  | _ => .int
abbrev wsX50 : List Cond := u_ws RX5 TX5 8
theorem nmX5 : ∀ a, a < 8 → ∀ b, b < 8 → a ≠ b → (TX5 a).2.1 ≠ (TX5 b).2.1 := by decide +kernel
theorem tyX5_ok : ∀ k, k < 8 → parseFieldDescriptor (TX5 k).2.2.1 = some (tyX5 k) := by decide +kernel
abbrev cX5_init : ByteArray := prog_7_method_1_code
def yX5_init : MethodName := ⟨RX5, "<init>", "()V"⟩
abbrev cX5_get : ByteArray := prog_7_method_2_code
def yX5_get : MethodName := ⟨RX5, "get", "(I)I"⟩
abbrev cX5_put : ByteArray := prog_7_method_3_code
def yX5_put : MethodName := ⟨RX5, "put", "(II)V"⟩
abbrev cX5_ofArc : ByteArray := prog_7_method_4_code
def yX5_ofArc : MethodName := ⟨RX5, "ofArc", "(LArcLight$Sentence;II)I"⟩
abbrev cX5_addToArc : ByteArray := prog_7_method_5_code
def yX5_addToArc : MethodName := ⟨RX5, "addToArc", "(LArcLight$Sentence;III)V"⟩
abbrev cX5_endStep : ByteArray := prog_7_method_6_code
def yX5_endStep : MethodName := ⟨RX5, "endStep", "()V"⟩
abbrev cX5_stepCount : ByteArray := prog_7_method_7_code
def yX5_stepCount : MethodName := ⟨RX5, "stepCount", "()I"⟩
abbrev cX5_averageOf : ByteArray := prog_7_method_8_code
def yX5_averageOf : MethodName := ⟨RX5, "averageOf", "(I)D"⟩
abbrev cX5_keptCount : ByteArray := prog_7_method_9_code
def yX5_keptCount : MethodName := ⟨RX5, "keptCount", "()I"⟩
abbrev cX5_keep : ByteArray := prog_7_method_10_code
def yX5_keep : MethodName := ⟨RX5, "keep", "()V"⟩
abbrev cX5_takeBack : ByteArray := prog_7_method_11_code
def yX5_takeBack : MethodName := ⟨RX5, "takeBack", "()V"⟩
abbrev cX5_isFeature : ByteArray := prog_7_method_12_code
def yX5_isFeature : MethodName := ⟨RX5, "isFeature", "(I)Z"⟩
abbrev cX5_isRow : ByteArray := prog_7_method_13_code
def yX5_isRow : MethodName := ⟨RX5, "isRow", "(I)Z"⟩
def RX6 : String := "ArcLight"
def TX6 : u_T := fun k => match k with
  | 0 => ("ArcLight", "all", "[LArcLight$Sentence;", true)
  | 1 => ("ArcLight", "count", "I", false)
  | 2 => ("ArcLight", "weights", "LArcLight$Weights;", true)
  | 3 => ("ArcLight", "arcs", "LArcLight$ArcKeys;", true)
  | 4 => ("ArcLight", "spans", "LArcLight$Spans;", true)
  | 5 => ("ArcLight", "circles", "LArcLight$Circles;", true)
  | _ => ("ArcLight", "trial", "LArcLight$Trial;", true)
def tyX6 : Nat → FieldType := fun k => match k with
  | 0 => .array (.object "ArcLight$Sentence")
  | 1 => .int
  | 2 => .object "ArcLight$Weights"
  | 3 => .object "ArcLight$ArcKeys"
  | 4 => .object "ArcLight$Spans"
  | 5 => .object "ArcLight$Circles"
  | _ => .object "ArcLight$Trial"
abbrev wsX60 : List Cond := u_ws RX6 TX6 7
theorem nmX6 : ∀ a, a < 7 → ∀ b, b < 7 → a ≠ b → (TX6 a).2.1 ≠ (TX6 b).2.1 := by decide +kernel
theorem tyX6_ok : ∀ k, k < 7 → parseFieldDescriptor (TX6 k).2.2.1 = some (tyX6 k) := by decide +kernel
abbrev cX6_init : ByteArray := prog_1_method_1_code
def yX6_init : MethodName := ⟨RX6, "<init>", "()V"⟩
abbrev cX6_addSentence : ByteArray := prog_1_method_2_code
def yX6_addSentence : MethodName := ⟨RX6, "addSentence", "()I"⟩
abbrev cX6_addWord : ByteArray := prog_1_method_3_code
def yX6_addWord : MethodName := ⟨RX6, "addWord", "(II)I"⟩
abbrev cX6_sentences : ByteArray := prog_1_method_4_code
def yX6_sentences : MethodName := ⟨RX6, "sentences", "()I"⟩
abbrev cX6_words : ByteArray := prog_1_method_5_code
def yX6_words : MethodName := ⟨RX6, "words", "(I)I"⟩
abbrev cX6_kind : ByteArray := prog_1_method_6_code
def yX6_kind : MethodName := ⟨RX6, "kind", "(II)I"⟩
abbrev cX6_setWeight : ByteArray := prog_1_method_7_code
def yX6_setWeight : MethodName := ⟨RX6, "setWeight", "(II)I"⟩
abbrev cX6_weight : ByteArray := prog_1_method_8_code
def yX6_weight : MethodName := ⟨RX6, "weight", "(I)I"⟩
abbrev cX6_feature : ByteArray := prog_1_method_9_code
def yX6_feature : MethodName := ⟨RX6, "feature", "(IIIZ)I"⟩
abbrev cX6_score : ByteArray := prog_1_method_10_code
def yX6_score : MethodName := ⟨RX6, "score", "(III)I"⟩
abbrev cX6_mark : ByteArray := prog_1_method_11_code
def yX6_mark : MethodName := ⟨RX6, "mark", "(IIII)I"⟩
abbrev cX6_trees : ByteArray := prog_1_method_12_code
def yX6_trees : MethodName := ⟨RX6, "trees", "(IZ)I"⟩
abbrev cX6_best : ByteArray := prog_1_method_13_code
def yX6_best : MethodName := ⟨RX6, "best", "(IZ)I"⟩
abbrev cX6_bestByTrying : ByteArray := prog_1_method_14_code
def yX6_bestByTrying : MethodName := ⟨RX6, "bestByTrying", "(IZ)I"⟩
abbrev cX6_head : ByteArray := prog_1_method_15_code
def yX6_head : MethodName := ⟨RX6, "head", "(IZI)I"⟩
abbrev cX6_crossings : ByteArray := prog_1_method_16_code
def yX6_crossings : MethodName := ⟨RX6, "crossings", "(I)I"⟩
abbrev cX6_ranked : ByteArray := prog_1_method_17_code
def yX6_ranked : MethodName := ⟨RX6, "ranked", "(IZI)I"⟩
abbrev cX6_rankedHead : ByteArray := prog_1_method_18_code
def yX6_rankedHead : MethodName := ⟨RX6, "rankedHead", "(IZII)I"⟩
abbrev cX6_correct : ByteArray := prog_1_method_19_code
def yX6_correct : MethodName := ⟨RX6, "correct", "(III)I"⟩
abbrev cX6_matched : ByteArray := prog_1_method_20_code
def yX6_matched : MethodName := ⟨RX6, "matched", "(I)I"⟩
abbrev cX6_mend : ByteArray := prog_1_method_21_code
def yX6_mend : MethodName := ⟨RX6, "mend", "(I)I"⟩
abbrev cX6_steps : ByteArray := prog_1_method_22_code
def yX6_steps : MethodName := ⟨RX6, "steps", "()I"⟩
abbrev cX6_average : ByteArray := prog_1_method_23_code
def yX6_average : MethodName := ⟨RX6, "average", "(I)D"⟩
abbrev cX6_rollBack : ByteArray := prog_1_method_24_code
def yX6_rollBack : MethodName := ⟨RX6, "rollBack", "()I"⟩
abbrev cX6_find : ByteArray := prog_1_method_25_code
def yX6_find : MethodName := ⟨RX6, "find", "(I)LArcLight$Sentence;"⟩
abbrev cX6_checkWord : ByteArray := prog_1_method_26_code
def yX6_checkWord : MethodName := ⟨RX6, "checkWord", "(LArcLight$Sentence;I)V"⟩
abbrev cX6_checkArc : ByteArray := prog_1_method_27_code
def yX6_checkArc : MethodName := ⟨RX6, "checkArc", "(LArcLight$Sentence;II)V"⟩
abbrev cX6_checkFeature : ByteArray := prog_1_method_28_code
def yX6_checkFeature : MethodName := ⟨RX6, "checkFeature", "(I)V"⟩
abbrev cX6_checkTree : ByteArray := prog_1_method_29_code
def yX6_checkTree : MethodName := ⟨RX6, "checkTree", "(J)V"⟩
abbrev cX6_tryAll : ByteArray := prog_1_method_30_code
def yX6_tryAll : MethodName := ⟨RX6, "tryAll", "(LArcLight$Sentence;Z)LArcLight$Trial;"⟩
abbrev cX6_bestKey : ByteArray := prog_1_method_31_code
def yX6_bestKey : MethodName := ⟨RX6, "bestKey", "(LArcLight$Sentence;Z)J"⟩
abbrev cX6_rankedKey : ByteArray := prog_1_method_32_code
def yX6_rankedKey : MethodName := ⟨RX6, "rankedKey", "(LArcLight$Sentence;ZI)J"⟩
abbrev cX6_rowOfHeads : ByteArray := prog_1_method_33_code
def yX6_rowOfHeads : MethodName := ⟨RX6, "rowOfHeads", "(J)J"⟩
abbrev cX6_scoreIn : ByteArray := prog_1_method_34_code
def yX6_scoreIn : MethodName := ⟨RX6, "scoreIn", "(J)I"⟩
abbrev cX6_headIn : ByteArray := prog_1_method_35_code
def yX6_headIn : MethodName := ⟨RX6, "headIn", "(JI)I"⟩
abbrev cX6_byDistance : ByteArray := prog_1_method_36_code
def yX6_byDistance : MethodName := ⟨RX6, "byDistance", "(II)I"⟩
abbrev cX6_doCross : ByteArray := prog_1_method_37_code
def yX6_doCross : MethodName := ⟨RX6, "doCross", "(IIII)Z"⟩
abbrev cX6_isPlace : ByteArray := prog_1_method_38_code
def yX6_isPlace : MethodName := ⟨RX6, "isPlace", "(I)Z"⟩
def RX7 : String := "ArcLightModel"
def TX7 : u_T := fun k => match k with
  | 0 => ("ArcLightModel", "sentences", "I", false)
  | 1 => ("ArcLightModel", "words", "[I", true)
  | 2 => ("ArcLightModel", "kind", "[I", true)
  | 3 => ("ArcLightModel", "mark", "[I", true)
  | 4 => ("ArcLightModel", "right", "[I", true)
  | 5 => ("ArcLightModel", "weight", "[I", true)
  | 6 => ("ArcLightModel", "sum", "[J", true)
  | 7 => ("ArcLightModel", "steps", "I", false)
  | 8 => ("ArcLightModel", "back", "I", false)
  | 9 => ("ArcLightModel", "first", "I", false)
  | 10 => ("ArcLightModel", "was", "[I", true)
  | 11 => ("ArcLightModel", "weights", "[I", true)
  | 12 => ("ArcLightModel", "tree", "[J", true)
  | 13 => ("ArcLightModel", "listed", "I", false)
  | 14 => ("ArcLightModel", "many", "I", false)
  | 15 => ("ArcLightModel", "bestKey", "[J", true)
  | 16 => ("ArcLightModel", "count", "[I", true)
  | 17 => ("ArcLightModel", "isFound", "[Z", true)
  | 18 => ("ArcLightModel", "head", "[I", true)
  | _ => ("ArcLightModel", "thrown", "I", false)
def tyX7 : Nat → FieldType := fun k => match k with
  | 0 => .int
  | 1 => .array .int
  | 2 => .array .int
  | 3 => .array .int
  | 4 => .array .int
  | 5 => .array .int
  | 6 => .array .long
  | 7 => .int
  | 8 => .int
  | 9 => .int
  | 10 => .array .int
  | 11 => .array .int
  | 12 => .array .long
  | 13 => .int
  | 14 => .int
  | 15 => .array .long
  | 16 => .array .int
  | 17 => .array .boolean
  | 18 => .array .int
  | _ => .int
abbrev wsX70 : List Cond := u_ws RX7 TX7 20
theorem nmX7 : ∀ a, a < 20 → ∀ b, b < 20 → a ≠ b → (TX7 a).2.1 ≠ (TX7 b).2.1 := by decide +kernel
theorem tyX7_ok : ∀ k, k < 20 → parseFieldDescriptor (TX7 k).2.2.1 = some (tyX7 k) := by decide +kernel
abbrev cX7_init : ByteArray := prog_9_method_1_code
def yX7_init : MethodName := ⟨RX7, "<init>", "()V"⟩
abbrev cX7_thrown : ByteArray := prog_9_method_2_code
def yX7_thrown : MethodName := ⟨RX7, "thrown", "()I"⟩
abbrev cX7_fails : ByteArray := prog_9_method_3_code
def yX7_fails : MethodName := ⟨RX7, "fails", "(I)I"⟩
abbrev cX7_asks : ByteArray := prog_9_method_4_code
def yX7_asks : MethodName := ⟨RX7, "asks", "(Z)Z"⟩
abbrev cX7_changed : ByteArray := prog_9_method_5_code
def yX7_changed : MethodName := ⟨RX7, "changed", "()V"⟩
abbrev cX7_isSentence : ByteArray := prog_9_method_6_code
def yX7_isSentence : MethodName := ⟨RX7, "isSentence", "(I)Z"⟩
abbrev cX7_isWord : ByteArray := prog_9_method_7_code
def yX7_isWord : MethodName := ⟨RX7, "isWord", "(II)Z"⟩
abbrev cX7_isPlace : ByteArray := prog_9_method_8_code
def yX7_isPlace : MethodName := ⟨RX7, "isPlace", "(II)Z"⟩
abbrev cX7_addSentence : ByteArray := prog_9_method_9_code
def yX7_addSentence : MethodName := ⟨RX7, "addSentence", "()I"⟩
abbrev cX7_addWord : ByteArray := prog_9_method_10_code
def yX7_addWord : MethodName := ⟨RX7, "addWord", "(II)I"⟩
abbrev cX7_sentences : ByteArray := prog_9_method_11_code
def yX7_sentences : MethodName := ⟨RX7, "sentences", "()I"⟩
abbrev cX7_words : ByteArray := prog_9_method_12_code
def yX7_words : MethodName := ⟨RX7, "words", "(I)I"⟩
abbrev cX7_kind : ByteArray := prog_9_method_13_code
def yX7_kind : MethodName := ⟨RX7, "kind", "(II)I"⟩
abbrev cX7_remembers : ByteArray := prog_9_method_14_code
def yX7_remembers : MethodName := ⟨RX7, "remembers", "(I)V"⟩
abbrev cX7_setWeight : ByteArray := prog_9_method_15_code
def yX7_setWeight : MethodName := ⟨RX7, "setWeight", "(II)I"⟩
abbrev cX7_weight : ByteArray := prog_9_method_16_code
def yX7_weight : MethodName := ⟨RX7, "weight", "(I)I"⟩
abbrev cX7_byKind : ByteArray := prog_9_method_17_code
def yX7_byKind : MethodName := ⟨RX7, "byKind", "(III)I"⟩
abbrev cX7_byDistance : ByteArray := prog_9_method_18_code
def yX7_byDistance : MethodName := ⟨RX7, "byDistance", "(II)I"⟩
abbrev cX7_scoreOf : ByteArray := prog_9_method_19_code
def yX7_scoreOf : MethodName := ⟨RX7, "scoreOf", "(III)I"⟩
abbrev cX7_asksArc : ByteArray := prog_9_method_20_code
def yX7_asksArc : MethodName := ⟨RX7, "asksArc", "(III)Z"⟩
abbrev cX7_feature : ByteArray := prog_9_method_21_code
def yX7_feature : MethodName := ⟨RX7, "feature", "(IIIZ)I"⟩
abbrev cX7_score : ByteArray := prog_9_method_22_code
def yX7_score : MethodName := ⟨RX7, "score", "(III)I"⟩
abbrev cX7_arc : ByteArray := prog_9_method_23_code
def yX7_arc : MethodName := ⟨RX7, "arc", "(III)I"⟩
abbrev cX7_mark : ByteArray := prog_9_method_24_code
def yX7_mark : MethodName := ⟨RX7, "mark", "(IIII)I"⟩
abbrev cX7_isBetween : ByteArray := prog_9_method_25_code
def yX7_isBetween : MethodName := ⟨RX7, "isBetween", "(III)Z"⟩
abbrev cX7_isBeyond : ByteArray := prog_9_method_26_code
def yX7_isBeyond : MethodName := ⟨RX7, "isBeyond", "(III)Z"⟩
abbrev cX7_doCross : ByteArray := prog_9_method_27_code
def yX7_doCross : MethodName := ⟨RX7, "doCross", "(II)Z"⟩
abbrev cX7_may : ByteArray := prog_9_method_28_code
def yX7_may : MethodName := ⟨RX7, "may", "(IIZ)Z"⟩
abbrev cX7_keyOf : ByteArray := prog_9_method_29_code
def yX7_keyOf : MethodName := ⟨RX7, "keyOf", "(I)J"⟩
abbrev cX7_walks : ByteArray := prog_9_method_30_code
def yX7_walks : MethodName := ⟨RX7, "walks", "(IZZ)V"⟩
abbrev cX7_finds : ByteArray := prog_9_method_31_code
def yX7_finds : MethodName := ⟨RX7, "finds", "(IZ)I"⟩
abbrev cX7_sinks : ByteArray := prog_9_method_32_code
def yX7_sinks : MethodName := ⟨RX7, "sinks", "(II)V"⟩
abbrev cX7_lists : ByteArray := prog_9_method_33_code
def yX7_lists : MethodName := ⟨RX7, "lists", "(IZ)V"⟩
abbrev cX7_scoreIn : ByteArray := prog_9_method_34_code
def yX7_scoreIn : MethodName := ⟨RX7, "scoreIn", "(J)I"⟩
abbrev cX7_headIn : ByteArray := prog_9_method_35_code
def yX7_headIn : MethodName := ⟨RX7, "headIn", "(IJI)I"⟩
abbrev cX7_trees : ByteArray := prog_9_method_36_code
def yX7_trees : MethodName := ⟨RX7, "trees", "(IZ)I"⟩
abbrev cX7_asksTree : ByteArray := prog_9_method_37_code
def yX7_asksTree : MethodName := ⟨RX7, "asksTree", "(IZ)Z"⟩
abbrev cX7_best : ByteArray := prog_9_method_38_code
def yX7_best : MethodName := ⟨RX7, "best", "(IZ)I"⟩
abbrev cX7_bestByTrying : ByteArray := prog_9_method_39_code
def yX7_bestByTrying : MethodName := ⟨RX7, "bestByTrying", "(IZ)I"⟩
abbrev cX7_head : ByteArray := prog_9_method_40_code
def yX7_head : MethodName := ⟨RX7, "head", "(IZI)I"⟩
abbrev cX7_crossings : ByteArray := prog_9_method_41_code
def yX7_crossings : MethodName := ⟨RX7, "crossings", "(I)I"⟩
abbrev cX7_asksRank : ByteArray := prog_9_method_42_code
def yX7_asksRank : MethodName := ⟨RX7, "asksRank", "(IZIZ)Z"⟩
abbrev cX7_ranked : ByteArray := prog_9_method_43_code
def yX7_ranked : MethodName := ⟨RX7, "ranked", "(IZI)I"⟩
abbrev cX7_rankedHead : ByteArray := prog_9_method_44_code
def yX7_rankedHead : MethodName := ⟨RX7, "rankedHead", "(IZII)I"⟩
abbrev cX7_correct : ByteArray := prog_9_method_45_code
def yX7_correct : MethodName := ⟨RX7, "correct", "(III)I"⟩
abbrev cX7_matched : ByteArray := prog_9_method_46_code
def yX7_matched : MethodName := ⟨RX7, "matched", "(I)I"⟩
abbrev cX7_isRight : ByteArray := prog_9_method_47_code
def yX7_isRight : MethodName := ⟨RX7, "isRight", "(I)Z"⟩
abbrev cX7_adds : ByteArray := prog_9_method_48_code
def yX7_adds : MethodName := ⟨RX7, "adds", "(IIII)V"⟩
abbrev cX7_mend : ByteArray := prog_9_method_49_code
def yX7_mend : MethodName := ⟨RX7, "mend", "(I)I"⟩
abbrev cX7_steps : ByteArray := prog_9_method_50_code
def yX7_steps : MethodName := ⟨RX7, "steps", "()I"⟩
abbrev cX7_average : ByteArray := prog_9_method_51_code
def yX7_average : MethodName := ⟨RX7, "average", "(I)D"⟩
abbrev cX7_rollBack : ByteArray := prog_9_method_52_code
def yX7_rollBack : MethodName := ⟨RX7, "rollBack", "()I"⟩
def RJx145de : String := "java/io/Serializable"
def TJx145de : u_T := fun k => match k with
  | _ => ("", "", "", false)
def tyJx145de : Nat → FieldType := fun k => match k with
  | _ => .int
abbrev wsJx145de0 : List Cond := u_ws RJx145de TJx145de 0
theorem nmJx145de : ∀ a, a < 0 → ∀ b, b < 0 → a ≠ b → (TJx145de a).2.1 ≠ (TJx145de b).2.1 := by decide +kernel
theorem tyJx145de_ok : ∀ k, k < 0 → parseFieldDescriptor (TJx145de k).2.2.1 = some (tyJx145de k) := by decide +kernel
def RJ9 : String := "java/lang/Math"
def TJ9 : u_T := fun k => match k with
  | _ => ("", "", "", false)
def tyJ9 : Nat → FieldType := fun k => match k with
  | _ => .int
abbrev wsJ90 : List Cond := u_ws RJ9 TJ9 0
theorem nmJ9 : ∀ a, a < 0 → ∀ b, b < 0 → a ≠ b → (TJ9 a).2.1 ≠ (TJ9 b).2.1 := by decide +kernel
theorem tyJ9_ok : ∀ k, k < 0 → parseFieldDescriptor (TJ9 k).2.2.1 = some (tyJ9 k) := by decide +kernel
abbrev cJ9_floorMod_f86c9 : ByteArray := prog_14_method_52_code
def yJ9_floorMod_f86c9 : MethodName := ⟨RJ9, "floorMod", "(JJ)J"⟩
abbrev cJ9_abs_0f7a4 : ByteArray := prog_14_method_59_code
def yJ9_abs_0f7a4 : MethodName := ⟨RJ9, "abs", "(I)I"⟩
abbrev cJ9_max_7cf53 : ByteArray := prog_14_method_65_code
def yJ9_max_7cf53 : MethodName := ⟨RJ9, "max", "(II)I"⟩
abbrev cJ9_max_f86c9 : ByteArray := prog_14_method_66_code
def yJ9_max_f86c9 : MethodName := ⟨RJ9, "max", "(JJ)J"⟩
abbrev cJ9_min_7cf53 : ByteArray := prog_14_method_69_code
def yJ9_min_7cf53 : MethodName := ⟨RJ9, "min", "(II)I"⟩
abbrev cJ9_min_f86c9 : ByteArray := prog_14_method_70_code
def yJ9_min_f86c9 : MethodName := ⟨RJ9, "min", "(JJ)J"⟩
def RJ0 : String := "java/lang/String"
def TJ0 : u_T := fun k => match k with
  | _ => ("", "", "", false)
def tyJ0 : Nat → FieldType := fun k => match k with
  | _ => .int
abbrev wsJ00 : List Cond := u_ws RJ0 TJ0 0
theorem nmJ0 : ∀ a, a < 0 → ∀ b, b < 0 → a ≠ b → (TJ0 a).2.1 ≠ (TJ0 b).2.1 := by decide +kernel
theorem tyJ0_ok : ∀ k, k < 0 → parseFieldDescriptor (TJ0 k).2.2.1 = some (tyJ0 k) := by decide +kernel
def RJ10 : String := "java/lang/System"
def TJ10 : u_T := fun k => match k with
  | _ => ("", "", "", false)
def tyJ10 : Nat → FieldType := fun k => match k with
  | _ => .int
abbrev wsJ100 : List Cond := u_ws RJ10 TJ10 0
theorem nmJ10 : ∀ a, a < 0 → ∀ b, b < 0 → a ≠ b → (TJ10 a).2.1 ≠ (TJ10 b).2.1 := by decide +kernel
theorem tyJ10_ok : ∀ k, k < 0 → parseFieldDescriptor (TJ10 k).2.2.1 = some (tyJ10 k) := by decide +kernel
def RJ7 : String := "java/util/Arrays"
def TJ7 : u_T := fun k => match k with
  | _ => ("", "", "", false)
def tyJ7 : Nat → FieldType := fun k => match k with
  | _ => .int
abbrev wsJ70 : List Cond := u_ws RJ7 TJ7 0
theorem nmJ7 : ∀ a, a < 0 → ∀ b, b < 0 → a ≠ b → (TJ7 a).2.1 ≠ (TJ7 b).2.1 := by decide +kernel
theorem tyJ7_ok : ∀ k, k < 0 → parseFieldDescriptor (TJ7 k).2.2.1 = some (tyJ7 k) := by decide +kernel
abbrev cJ7_fill_d0a16 : ByteArray := prog_19_method_101_code
def yJ7_fill_d0a16 : MethodName := ⟨RJ7, "fill", "([JJ)V"⟩
abbrev cJ7_fill_53178 : ByteArray := prog_19_method_103_code
def yJ7_fill_53178 : MethodName := ⟨RJ7, "fill", "([II)V"⟩
def wsX0_init : List Cond := .code yX0_init cX0_init 1 none :: ([.methodLink RX0 3 objectInit, .instanceMethod objectInit, .code objectInit ⟨#[0xb1]⟩ 1 none, .classLink RX0 9 "[[J", .arrayClass .long, .fieldLink RX0 11 "ArcLight$ArcKeys" "keys" "[[J", .fieldLink RX0 16 "ArcLight$ArcKeys" "last" "I"] ++ wsX00)
def wsX2_size : List Cond := .code yX2_size cX2_size 1 (some .int) :: ([.fieldLink RX2 23 "ArcLight$Sentence" "last" "I"] ++ wsX20)
def wsX6_isPlace : List Cond := .code yX6_isPlace cX6_isPlace 1 (some .boolean) :: ([])
def wsX2_markOf : List Cond := .code yX2_markOf cX2_markOf 3 (some .int) :: ([.fieldLink RX2 20 "ArcLight$Sentence" "marks" "[[I", .static yX6_isPlace, .initialized RX6, .code yX6_isPlace cX6_isPlace 1 (some .boolean)] ++ wsX20)
def wsX2_forcedHead : List Cond := .code yX2_forcedHead cX2_forcedHead 3 (some .int) :: ([.fieldLink RX2 23 "ArcLight$Sentence" "last" "I", .methodLink RX2 41 yX2_markOf, .instanceMethod yX2_markOf, .selects RX2 yX2_markOf yX2_markOf, .initialized RX2, .code yX2_markOf cX2_markOf 3 (some .int), .fieldLink RX2 20 "ArcLight$Sentence" "marks" "[[I", .static yX6_isPlace, .initialized RX6, .code yX6_isPlace cX6_isPlace 1 (some .boolean)] ++ wsX20)
def wsX2_allows : List Cond := .code yX2_allows cX2_allows 4 (some .boolean) :: ([.methodLink RX2 41 yX2_markOf, .instanceMethod yX2_markOf, .selects RX2 yX2_markOf yX2_markOf, .initialized RX2, .code yX2_markOf cX2_markOf 3 (some .int), .fieldLink RX2 20 "ArcLight$Sentence" "marks" "[[I", .static yX6_isPlace, .initialized RX6, .code yX6_isPlace cX6_isPlace 1 (some .boolean), .methodLink RX2 45 yX2_forcedHead, .instanceMethod yX2_forcedHead, .selects RX2 yX2_forcedHead yX2_forcedHead, .code yX2_forcedHead cX2_forcedHead 3 (some .int), .fieldLink RX2 23 "ArcLight$Sentence" "last" "I"] ++ wsX20)
def wsX2_kindAt : List Cond := .code yX2_kindAt cX2_kindAt 2 (some .int) :: ([.fieldLink RX2 9 "ArcLight$Sentence" "kinds" "[I", .static yX6_isPlace, .initialized RX6, .code yX6_isPlace cX6_isPlace 1 (some .boolean)] ++ wsX20)
def wsX2_byKinds : List Cond := .code yX2_byKinds cX2_byKinds 3 (some .int) :: ([.methodLink RX2 37 yX2_kindAt, .instanceMethod yX2_kindAt, .selects RX2 yX2_kindAt yX2_kindAt, .initialized RX2, .code yX2_kindAt cX2_kindAt 2 (some .int), .fieldLink RX2 9 "ArcLight$Sentence" "kinds" "[I", .static yX6_isPlace, .initialized RX6, .code yX6_isPlace cX6_isPlace 1 (some .boolean)] ++ wsX20)
def wsX5_isFeature : List Cond := .code yX5_isFeature cX5_isFeature 1 (some .boolean) :: ([])
def wsX5_get : List Cond := .code yX5_get cX5_get 2 (some .int) :: ([.fieldLink RX5 9 "ArcLight$Weights" "now" "[I", .methodLink RX5 42 yX5_isFeature, .static yX5_isFeature, .initialized RX5, .code yX5_isFeature cX5_isFeature 1 (some .boolean)] ++ wsX50)
def wsX6_byDistance : List Cond := .code yX6_byDistance cX6_byDistance 3 (some .int) :: ([.methodLink RX6 246 Lib.Math.abs.name, .static Lib.Math.abs.name, .initialized "java/lang/Math", .code Lib.Math.abs.name Lib.Math.abs.code 1 (some .int), .methodLink RX6 249 Lib.Math.min.name, .static Lib.Math.min.name, .code Lib.Math.min.name Lib.Math.min.code 2 (some .int)])
def wsX5_ofArc_r1 : List Cond := [Cond.methodLink RX5 46 yX2_byKinds, Cond.instanceMethod yX2_byKinds, Cond.selects RX2 yX2_byKinds yX2_byKinds, Cond.initialized RX2, Cond.code yX2_byKinds cX2_byKinds 3 (some .int), Cond.methodLink RX2 37 yX2_kindAt, Cond.instanceMethod yX2_kindAt, Cond.selects RX2 yX2_kindAt yX2_kindAt, Cond.code yX2_kindAt cX2_kindAt 2 (some .int), Cond.fieldLink RX2 9 "ArcLight$Sentence" "kinds" "[I", Cond.static yX6_isPlace, Cond.initialized RX6, Cond.code yX6_isPlace cX6_isPlace 1 (some .boolean), Cond.methodLink RX5 52 yX5_get, Cond.instanceMethod yX5_get, Cond.selects RX5 yX5_get yX5_get, Cond.initialized RX5, Cond.code yX5_get cX5_get 2 (some .int), Cond.fieldLink RX5 9 "ArcLight$Weights" "now" "[I", Cond.methodLink RX5 42 yX5_isFeature, Cond.static yX5_isFeature, Cond.code yX5_isFeature cX5_isFeature 1 (some .boolean), Cond.static yX6_byDistance, Cond.code yX6_byDistance cX6_byDistance 3 (some .int)]
def wsX5_ofArc_r2 : List Cond := [Cond.methodLink RX6 246 Lib.Math.abs.name, Cond.static Lib.Math.abs.name, Cond.initialized "java/lang/Math", Cond.code Lib.Math.abs.name Lib.Math.abs.code 1 (some .int), Cond.methodLink RX6 249 Lib.Math.min.name, Cond.static Lib.Math.min.name, Cond.code Lib.Math.min.name Lib.Math.min.code 2 (some .int)]
def wsX5_ofArc : List Cond := .code yX5_ofArc cX5_ofArc 4 (some .int) :: ((wsX5_ofArc_r1 ++ wsX5_ofArc_r2) ++ wsX20 ++ wsX50)
def wsX0_fill_r1 : List Cond := [Cond.methodLink RX0 26 Lib.Math.min.name, Cond.static Lib.Math.min.name, Cond.initialized "java/lang/Math", Cond.code Lib.Math.min.name Lib.Math.min.code 2 (some .int), Cond.fieldLink RX0 16 "ArcLight$ArcKeys" "last" "I", Cond.fieldLink RX0 11 "ArcLight$ArcKeys" "keys" "[[J", Cond.constantLong RX0 32 (-9223372036854775808), Cond.constantLong RX0 44 (117649), Cond.methodLink RX0 20 yX2_size, Cond.instanceMethod yX2_size, Cond.selects RX2 yX2_size yX2_size, Cond.initialized RX2, Cond.code yX2_size cX2_size 1 (some .int), Cond.fieldLink RX2 23 "ArcLight$Sentence" "last" "I", Cond.methodLink RX0 34 yX2_allows, Cond.instanceMethod yX2_allows, Cond.selects RX2 yX2_allows yX2_allows, Cond.code yX2_allows cX2_allows 4 (some .boolean), Cond.methodLink RX2 41 yX2_markOf, Cond.instanceMethod yX2_markOf, Cond.selects RX2 yX2_markOf yX2_markOf, Cond.code yX2_markOf cX2_markOf 3 (some .int), Cond.fieldLink RX2 20 "ArcLight$Sentence" "marks" "[[I", Cond.static yX6_isPlace]
def wsX0_fill_r2 : List Cond := [Cond.initialized RX6, Cond.code yX6_isPlace cX6_isPlace 1 (some .boolean), Cond.methodLink RX2 45 yX2_forcedHead, Cond.instanceMethod yX2_forcedHead, Cond.selects RX2 yX2_forcedHead yX2_forcedHead, Cond.code yX2_forcedHead cX2_forcedHead 3 (some .int), Cond.methodLink RX0 38 yX5_ofArc, Cond.instanceMethod yX5_ofArc, Cond.selects RX5 yX5_ofArc yX5_ofArc, Cond.initialized RX5, Cond.code yX5_ofArc cX5_ofArc 4 (some .int), Cond.methodLink RX5 46 yX2_byKinds, Cond.instanceMethod yX2_byKinds, Cond.selects RX2 yX2_byKinds yX2_byKinds, Cond.code yX2_byKinds cX2_byKinds 3 (some .int), Cond.methodLink RX2 37 yX2_kindAt, Cond.instanceMethod yX2_kindAt, Cond.selects RX2 yX2_kindAt yX2_kindAt, Cond.code yX2_kindAt cX2_kindAt 2 (some .int), Cond.fieldLink RX2 9 "ArcLight$Sentence" "kinds" "[I", Cond.methodLink RX5 52 yX5_get, Cond.instanceMethod yX5_get, Cond.selects RX5 yX5_get yX5_get, Cond.code yX5_get cX5_get 2 (some .int)]
def wsX0_fill_r3 : List Cond := [Cond.fieldLink RX5 9 "ArcLight$Weights" "now" "[I", Cond.methodLink RX5 42 yX5_isFeature, Cond.static yX5_isFeature, Cond.code yX5_isFeature cX5_isFeature 1 (some .boolean), Cond.static yX6_byDistance, Cond.code yX6_byDistance cX6_byDistance 3 (some .int), Cond.methodLink RX6 246 Lib.Math.abs.name, Cond.static Lib.Math.abs.name, Cond.code Lib.Math.abs.name Lib.Math.abs.code 1 (some .int), Cond.methodLink RX6 249 Lib.Math.min.name]
def wsX0_fill : List Cond := .code yX0_fill cX0_fill 5 none :: ((wsX0_fill_r1 ++ (wsX0_fill_r2 ++ wsX0_fill_r3)) ++ wsX00 ++ wsX20 ++ wsX50)
def wsX0_size : List Cond := .code yX0_size cX0_size 1 (some .int) :: ([.fieldLink RX0 16 "ArcLight$ArcKeys" "last" "I"] ++ wsX00)
def wsX0_get : List Cond := .code yX0_get cX0_get 3 (some .long) :: ([.fieldLink RX0 11 "ArcLight$ArcKeys" "keys" "[[J", .constantLong RX0 32 (-9223372036854775808), .static yX6_isPlace, .initialized RX6, .code yX6_isPlace cX6_isPlace 1 (some .boolean)] ++ wsX00)
def wsX1_init : List Cond := .code yX1_init cX1_init 1 none :: ([.methodLink RX1 3 objectInit, .instanceMethod objectInit, .code objectInit ⟨#[0xb1]⟩ 1 none, .classLink RX1 9 "[[J", .arrayClass .long, .fieldLink RX1 11 "ArcLight$Circles" "keys" "[[J", .fieldLink RX1 16 "ArcLight$Circles" "contracted" "[[J", .arrayClass .int, .fieldLink RX1 19 "ArcLight$Circles" "taken" "[I", .fieldLink RX1 23 "ArcLight$Circles" "groups" "[I", .fieldLink RX1 26 "ArcLight$Circles" "nodes" "I"] ++ wsX10)
def wsX1_takenHead : List Cond := .code yX1_takenHead cX1_takenHead 2 (some .int) :: ([.fieldLink RX1 26 "ArcLight$Circles" "nodes" "I", .fieldLink RX1 19 "ArcLight$Circles" "taken" "[I"] ++ wsX10)
def wsX1_takenKey : List Cond := .code yX1_takenKey cX1_takenKey 3 (some .long) :: ([.fieldLink RX1 11 "ArcLight$Circles" "keys" "[[J", .constantLong RX1 50 (-9223372036854775808), .methodLink RX1 63 yX1_takenHead, .instanceMethod yX1_takenHead, .selects RX1 yX1_takenHead yX1_takenHead, .initialized RX1, .code yX1_takenHead cX1_takenHead 2 (some .int), .fieldLink RX1 26 "ArcLight$Circles" "nodes" "I", .fieldLink RX1 19 "ArcLight$Circles" "taken" "[I", .static yX6_isPlace, .initialized RX6, .code yX6_isPlace cX6_isPlace 1 (some .boolean)] ++ wsX10)
def wsX1_takeGreatest : List Cond := .code yX1_takeGreatest cX1_takeGreatest 5 (some .long) :: ([.fieldLink RX1 26 "ArcLight$Circles" "nodes" "I", .fieldLink RX1 19 "ArcLight$Circles" "taken" "[I", .fieldLink RX1 11 "ArcLight$Circles" "keys" "[[J", .constantLong RX1 50 (-9223372036854775808), .methodLink RX1 59 yX1_takenKey, .instanceMethod yX1_takenKey, .selects RX1 yX1_takenKey yX1_takenKey, .initialized RX1, .code yX1_takenKey cX1_takenKey 3 (some .long), .methodLink RX1 63 yX1_takenHead, .instanceMethod yX1_takenHead, .selects RX1 yX1_takenHead yX1_takenHead, .code yX1_takenHead cX1_takenHead 2 (some .int), .static yX6_isPlace, .initialized RX6, .code yX6_isPlace cX6_isPlace 1 (some .boolean)] ++ wsX10)
def wsX1_findCircle : List Cond := .code yX1_findCircle cX1_findCircle 4 (some .int) :: ([.fieldLink RX1 26 "ArcLight$Circles" "nodes" "I", .methodLink RX1 63 yX1_takenHead, .instanceMethod yX1_takenHead, .selects RX1 yX1_takenHead yX1_takenHead, .initialized RX1, .code yX1_takenHead cX1_takenHead 2 (some .int), .fieldLink RX1 19 "ArcLight$Circles" "taken" "[I"] ++ wsX10)
def wsJ7_fill_53178 : List Cond := .code yJ7_fill_53178 cJ7_fill_53178 4 none :: ([])
def wsX1_groupNodes : List Cond := .code yX1_groupNodes cX1_groupNodes 5 (some .int) :: ([.fieldLink RX1 23 "ArcLight$Circles" "groups" "[I", .fieldLink RX1 26 "ArcLight$Circles" "nodes" "I", .methodLink RX1 36 Lib.Math.min.name, .static Lib.Math.min.name, .initialized "java/lang/Math", .code Lib.Math.min.name Lib.Math.min.code 2 (some .int), .methodLink RX1 84 yJ7_fill_53178, .static yJ7_fill_53178, .initialized RJ7, .code yJ7_fill_53178 cJ7_fill_53178 4 none, .static yX6_isPlace, .initialized RX6, .code yX6_isPlace cX6_isPlace 1 (some .boolean), .methodLink RX1 63 yX1_takenHead, .instanceMethod yX1_takenHead, .selects RX1 yX1_takenHead yX1_takenHead, .initialized RX1, .code yX1_takenHead cX1_takenHead 2 (some .int), .fieldLink RX1 19 "ArcLight$Circles" "taken" "[I"] ++ wsX10)
def wsJ7_fill_d0a16 : List Cond := .code yJ7_fill_d0a16 cJ7_fill_d0a16 5 none :: ([])
def wsX1_offer : List Cond := .code yX1_offer cX1_offer 5 none :: ([.fieldLink RX1 16 "ArcLight$Circles" "contracted" "[[J", .static yX6_isPlace, .initialized RX6, .code yX6_isPlace cX6_isPlace 1 (some .boolean)] ++ wsX10)
def wsX1_contract_r1 : List Cond := [Cond.fieldLink RX1 16 "ArcLight$Circles" "contracted" "[[J", Cond.constantLong RX1 50 (-9223372036854775808), Cond.fieldLink RX1 26 "ArcLight$Circles" "nodes" "I", Cond.fieldLink RX1 11 "ArcLight$Circles" "keys" "[[J", Cond.fieldLink RX1 23 "ArcLight$Circles" "groups" "[I", Cond.methodLink RX1 71 yX1_groupNodes, Cond.instanceMethod yX1_groupNodes, Cond.selects RX1 yX1_groupNodes yX1_groupNodes, Cond.initialized RX1, Cond.code yX1_groupNodes cX1_groupNodes 5 (some .int), Cond.methodLink RX1 36 Lib.Math.min.name, Cond.static Lib.Math.min.name, Cond.initialized "java/lang/Math", Cond.code Lib.Math.min.name Lib.Math.min.code 2 (some .int), Cond.methodLink RX1 84 yJ7_fill_53178, Cond.static yJ7_fill_53178, Cond.initialized RJ7, Cond.code yJ7_fill_53178 cJ7_fill_53178 4 none, Cond.static yX6_isPlace, Cond.initialized RX6, Cond.code yX6_isPlace cX6_isPlace 1 (some .boolean), Cond.methodLink RX1 63 yX1_takenHead, Cond.instanceMethod yX1_takenHead, Cond.selects RX1 yX1_takenHead yX1_takenHead]
def wsX1_contract_r2 : List Cond := [Cond.code yX1_takenHead cX1_takenHead 2 (some .int), Cond.fieldLink RX1 19 "ArcLight$Circles" "taken" "[I", Cond.methodLink RX1 74 yJ7_fill_d0a16, Cond.static yJ7_fill_d0a16, Cond.code yJ7_fill_d0a16 cJ7_fill_d0a16 5 none, Cond.methodLink RX1 59 yX1_takenKey, Cond.instanceMethod yX1_takenKey, Cond.selects RX1 yX1_takenKey yX1_takenKey, Cond.code yX1_takenKey cX1_takenKey 3 (some .long), Cond.methodLink RX1 80 yX1_offer, Cond.instanceMethod yX1_offer, Cond.selects RX1 yX1_offer yX1_offer, Cond.code yX1_offer cX1_offer 5 none]
def wsX1_contract : List Cond := .code yX1_contract cX1_contract 7 none :: ((wsX1_contract_r1 ++ wsX1_contract_r2) ++ wsX10)
def wsX1_greatest_r1 : List Cond := [Cond.methodLink RX1 36 Lib.Math.min.name, Cond.static Lib.Math.min.name, Cond.initialized "java/lang/Math", Cond.code Lib.Math.min.name Lib.Math.min.code 2 (some .int), Cond.fieldLink RX1 26 "ArcLight$Circles" "nodes" "I", Cond.fieldLink RX1 11 "ArcLight$Circles" "keys" "[[J", Cond.constantLong RX1 50 (-9223372036854775808), Cond.methodLink RX1 30 yX0_size, Cond.instanceMethod yX0_size, Cond.selects RX0 yX0_size yX0_size, Cond.initialized RX0, Cond.code yX0_size cX0_size 1 (some .int), Cond.fieldLink RX0 16 "ArcLight$ArcKeys" "last" "I", Cond.methodLink RX1 42 yX0_get, Cond.instanceMethod yX0_get, Cond.selects RX0 yX0_get yX0_get, Cond.code yX0_get cX0_get 3 (some .long), Cond.fieldLink RX0 11 "ArcLight$ArcKeys" "keys" "[[J", Cond.constantLong RX0 32 (-9223372036854775808), Cond.static yX6_isPlace, Cond.initialized RX6, Cond.code yX6_isPlace cX6_isPlace 1 (some .boolean), Cond.methodLink RX1 46 yX1_takeGreatest, Cond.instanceMethod yX1_takeGreatest]
def wsX1_greatest_r2 : List Cond := [Cond.selects RX1 yX1_takeGreatest yX1_takeGreatest, Cond.initialized RX1, Cond.code yX1_takeGreatest cX1_takeGreatest 5 (some .long), Cond.fieldLink RX1 19 "ArcLight$Circles" "taken" "[I", Cond.methodLink RX1 59 yX1_takenKey, Cond.instanceMethod yX1_takenKey, Cond.selects RX1 yX1_takenKey yX1_takenKey, Cond.code yX1_takenKey cX1_takenKey 3 (some .long), Cond.methodLink RX1 63 yX1_takenHead, Cond.instanceMethod yX1_takenHead, Cond.selects RX1 yX1_takenHead yX1_takenHead, Cond.code yX1_takenHead cX1_takenHead 2 (some .int), Cond.methodLink RX1 52 yX1_findCircle, Cond.instanceMethod yX1_findCircle, Cond.selects RX1 yX1_findCircle yX1_findCircle, Cond.code yX1_findCircle cX1_findCircle 4 (some .int), Cond.methodLink RX1 55 yX1_contract, Cond.instanceMethod yX1_contract, Cond.selects RX1 yX1_contract yX1_contract, Cond.code yX1_contract cX1_contract 7 none, Cond.fieldLink RX1 16 "ArcLight$Circles" "contracted" "[[J", Cond.fieldLink RX1 23 "ArcLight$Circles" "groups" "[I", Cond.methodLink RX1 71 yX1_groupNodes, Cond.instanceMethod yX1_groupNodes]
def wsX1_greatest_r3 : List Cond := [Cond.selects RX1 yX1_groupNodes yX1_groupNodes, Cond.code yX1_groupNodes cX1_groupNodes 5 (some .int), Cond.methodLink RX1 84 yJ7_fill_53178, Cond.static yJ7_fill_53178, Cond.initialized RJ7, Cond.code yJ7_fill_53178 cJ7_fill_53178 4 none, Cond.methodLink RX1 74 yJ7_fill_d0a16, Cond.static yJ7_fill_d0a16, Cond.code yJ7_fill_d0a16 cJ7_fill_d0a16 5 none, Cond.methodLink RX1 80 yX1_offer, Cond.instanceMethod yX1_offer, Cond.selects RX1 yX1_offer yX1_offer, Cond.code yX1_offer cX1_offer 5 none]
def wsX1_greatest : List Cond := .code yX1_greatest cX1_greatest 8 (some .long) :: ((wsX1_greatest_r1 ++ (wsX1_greatest_r2 ++ wsX1_greatest_r3)) ++ wsX10 ++ wsX00)
def wsX2_init : List Cond := .code yX2_init cX2_init 1 none :: ([.methodLink RX2 3 objectInit, .instanceMethod objectInit, .code objectInit ⟨#[0xb1]⟩ 1 none, .arrayClass .int, .fieldLink RX2 9 "ArcLight$Sentence" "kinds" "[I", .fieldLink RX2 15 "ArcLight$Sentence" "rightHeads" "[I", .classLink RX2 18 "[[I", .fieldLink RX2 20 "ArcLight$Sentence" "marks" "[[I", .fieldLink RX2 23 "ArcLight$Sentence" "last" "I", .methodLink RX2 27 yJ7_fill_53178, .static yJ7_fill_53178, .initialized RJ7, .code yJ7_fill_53178 cJ7_fill_53178 4 none] ++ wsX20)
def wsX2_append : List Cond := .code yX2_append cX2_append 2 none :: ([.fieldLink RX2 23 "ArcLight$Sentence" "last" "I", .fieldLink RX2 9 "ArcLight$Sentence" "kinds" "[I"] ++ wsX20)
def wsX2_changeMark : List Cond := .code yX2_changeMark cX2_changeMark 5 (some .int) :: ([.fieldLink RX2 20 "ArcLight$Sentence" "marks" "[[I", .methodLink RX2 41 yX2_markOf, .instanceMethod yX2_markOf, .selects RX2 yX2_markOf yX2_markOf, .initialized RX2, .code yX2_markOf cX2_markOf 3 (some .int), .static yX6_isPlace, .initialized RX6, .code yX6_isPlace cX6_isPlace 1 (some .boolean)] ++ wsX20)
def wsX2_rightHead : List Cond := .code yX2_rightHead cX2_rightHead 2 (some .int) :: ([.fieldLink RX2 15 "ArcLight$Sentence" "rightHeads" "[I", .static yX6_isPlace, .initialized RX6, .code yX6_isPlace cX6_isPlace 1 (some .boolean)] ++ wsX20)
def wsX2_changeRightHead : List Cond := .code yX2_changeRightHead cX2_changeRightHead 4 (some .int) :: ([.fieldLink RX2 15 "ArcLight$Sentence" "rightHeads" "[I", .methodLink RX2 48 yX2_rightHead, .instanceMethod yX2_rightHead, .selects RX2 yX2_rightHead yX2_rightHead, .initialized RX2, .code yX2_rightHead cX2_rightHead 2 (some .int), .static yX6_isPlace, .initialized RX6, .code yX6_isPlace cX6_isPlace 1 (some .boolean)] ++ wsX20)
def wsX2_hasRightTree : List Cond := .code yX2_hasRightTree cX2_hasRightTree 4 (some .boolean) :: ([.fieldLink RX2 23 "ArcLight$Sentence" "last" "I", .methodLink RX2 48 yX2_rightHead, .instanceMethod yX2_rightHead, .selects RX2 yX2_rightHead yX2_rightHead, .initialized RX2, .code yX2_rightHead cX2_rightHead 2 (some .int), .fieldLink RX2 15 "ArcLight$Sentence" "rightHeads" "[I", .static yX6_isPlace, .initialized RX6, .code yX6_isPlace cX6_isPlace 1 (some .boolean)] ++ wsX20)
def wsX3_init : List Cond := .code yX3_init cX3_init 1 none :: ([.methodLink RX3 3 objectInit, .instanceMethod objectInit, .code objectInit ⟨#[0xb1]⟩ 1 none, .classLink RX3 9 "[[J", .arrayClass .long, .fieldLink RX3 11 "ArcLight$Spans" "wholeFromLeft" "[[J", .fieldLink RX3 16 "ArcLight$Spans" "wholeFromRight" "[[J", .fieldLink RX3 19 "ArcLight$Spans" "openFromLeft" "[[J", .fieldLink RX3 22 "ArcLight$Spans" "openFromRight" "[[J"] ++ wsX30)
def wsX3_join : List Cond := .code yX3_join cX3_join 4 (some .long) :: ([.constantLong RX3 45 (-9223372036854775808)])
def wsX3_fillOpen : List Cond := .code yX3_fillOpen cX3_fillOpen 7 none :: ([.constantLong RX3 45 (-9223372036854775808), .fieldLink RX3 11 "ArcLight$Spans" "wholeFromLeft" "[[J", .fieldLink RX3 16 "ArcLight$Spans" "wholeFromRight" "[[J", .methodLink RX3 55 Lib.MathLoose.max_long.x, .static Lib.MathLoose.max_long.x, .initialized "java/lang/Math", .code Lib.MathLoose.max_long.x Lib.MathLoose.max_long.code 4 (some .long), .fieldLink RX3 19 "ArcLight$Spans" "openFromLeft" "[[J", .fieldLink RX3 22 "ArcLight$Spans" "openFromRight" "[[J", .static yX6_isPlace, .initialized RX6, .code yX6_isPlace cX6_isPlace 1 (some .boolean), .methodLink RX3 51 yX3_join, .static yX3_join, .initialized RX3, .code yX3_join cX3_join 4 (some .long), .methodLink RX3 58 yX0_get, .instanceMethod yX0_get, .selects RX0 yX0_get yX0_get, .initialized RX0, .code yX0_get cX0_get 3 (some .long), .fieldLink RX0 11 "ArcLight$ArcKeys" "keys" "[[J", .constantLong RX0 32 (-9223372036854775808)] ++ wsX30 ++ wsX00)
def wsX3_fillWhole : List Cond := .code yX3_fillWhole cX3_fillWhole 8 none :: ([.constantLong RX3 45 (-9223372036854775808), .fieldLink RX3 19 "ArcLight$Spans" "openFromLeft" "[[J", .fieldLink RX3 11 "ArcLight$Spans" "wholeFromLeft" "[[J", .methodLink RX3 55 Lib.MathLoose.max_long.x, .static Lib.MathLoose.max_long.x, .initialized "java/lang/Math", .code Lib.MathLoose.max_long.x Lib.MathLoose.max_long.code 4 (some .long), .fieldLink RX3 16 "ArcLight$Spans" "wholeFromRight" "[[J", .fieldLink RX3 22 "ArcLight$Spans" "openFromRight" "[[J", .static yX6_isPlace, .initialized RX6, .code yX6_isPlace cX6_isPlace 1 (some .boolean), .methodLink RX3 51 yX3_join, .static yX3_join, .initialized RX3, .code yX3_join cX3_join 4 (some .long)] ++ wsX30)
def wsX3_greatest_r1 : List Cond := [Cond.methodLink RX3 31 Lib.Math.min.name, Cond.static Lib.Math.min.name, Cond.initialized "java/lang/Math", Cond.code Lib.Math.min.name Lib.Math.min.code 2 (some .int), Cond.fieldLink RX3 11 "ArcLight$Spans" "wholeFromLeft" "[[J", Cond.fieldLink RX3 16 "ArcLight$Spans" "wholeFromRight" "[[J", Cond.constantLong RX3 45 (-9223372036854775808), Cond.methodLink RX3 25 yX0_size, Cond.instanceMethod yX0_size, Cond.selects RX0 yX0_size yX0_size, Cond.initialized RX0, Cond.code yX0_size cX0_size 1 (some .int), Cond.fieldLink RX0 16 "ArcLight$ArcKeys" "last" "I", Cond.methodLink RX3 37 yX3_fillOpen, Cond.instanceMethod yX3_fillOpen, Cond.selects RX3 yX3_fillOpen yX3_fillOpen, Cond.initialized RX3, Cond.code yX3_fillOpen cX3_fillOpen 7 none, Cond.methodLink RX3 55 Lib.MathLoose.max_long.x, Cond.static Lib.MathLoose.max_long.x, Cond.code Lib.MathLoose.max_long.x Lib.MathLoose.max_long.code 4 (some .long), Cond.fieldLink RX3 19 "ArcLight$Spans" "openFromLeft" "[[J", Cond.fieldLink RX3 22 "ArcLight$Spans" "openFromRight" "[[J", Cond.static yX6_isPlace]
def wsX3_greatest_r2 : List Cond := [Cond.initialized RX6, Cond.code yX6_isPlace cX6_isPlace 1 (some .boolean), Cond.methodLink RX3 51 yX3_join, Cond.static yX3_join, Cond.code yX3_join cX3_join 4 (some .long), Cond.methodLink RX3 58 yX0_get, Cond.instanceMethod yX0_get, Cond.selects RX0 yX0_get yX0_get, Cond.code yX0_get cX0_get 3 (some .long), Cond.fieldLink RX0 11 "ArcLight$ArcKeys" "keys" "[[J", Cond.constantLong RX0 32 (-9223372036854775808), Cond.methodLink RX3 41 yX3_fillWhole, Cond.instanceMethod yX3_fillWhole, Cond.selects RX3 yX3_fillWhole yX3_fillWhole, Cond.code yX3_fillWhole cX3_fillWhole 8 none]
def wsX3_greatest : List Cond := .code yX3_greatest cX3_greatest 5 (some .long) :: ((wsX3_greatest_r1 ++ wsX3_greatest_r2) ++ wsX30 ++ wsX00)
def wsX4_init : List Cond := .code yX4_init cX4_init 1 none :: ([.methodLink RX4 3 objectInit, .instanceMethod objectInit, .code objectInit ⟨#[0xb1]⟩ 1 none, .arrayClass .long, .fieldLink RX4 9 "ArcLight$Trial" "keys" "[J", .arrayClass .int, .fieldLink RX4 15 "ArcLight$Trial" "heads" "[I", .fieldLink RX4 19 "ArcLight$Trial" "found" "I"] ++ wsX40)
def wsX4_note : List Cond := .code yX4_note cX4_note 3 none :: ([.fieldLink RX4 19 "ArcLight$Trial" "found" "I", .fieldLink RX4 9 "ArcLight$Trial" "keys" "[J"] ++ wsX40)
def wsX4_closesCircle : List Cond := .code yX4_closesCircle cX4_closesCircle 5 (some .boolean) :: ([.fieldLink RX4 15 "ArcLight$Trial" "heads" "[I"] ++ wsX40)
def wsX6_doCross : List Cond := .code yX6_doCross cX6_doCross 8 (some .boolean) :: ([.methodLink RX6 249 Lib.Math.min.name, .static Lib.Math.min.name, .initialized "java/lang/Math", .code Lib.Math.min.name Lib.Math.min.code 2 (some .int), .methodLink RX6 252 Lib.Math.max.name, .static Lib.Math.max.name, .code Lib.Math.max.name Lib.Math.max.code 2 (some .int)])
def wsX4_crossesEarlier : List Cond := .code yX4_crossesEarlier cX4_crossesEarlier 4 (some .boolean) :: ([.fieldLink RX4 15 "ArcLight$Trial" "heads" "[I", .static yX6_doCross, .initialized RX6, .code yX6_doCross cX6_doCross 8 (some .boolean), .methodLink RX6 249 Lib.Math.min.name, .static Lib.Math.min.name, .initialized "java/lang/Math", .code Lib.Math.min.name Lib.Math.min.code 2 (some .int), .methodLink RX6 252 Lib.Math.max.name, .static Lib.Math.max.name, .code Lib.Math.max.name Lib.Math.max.code 2 (some .int)] ++ wsX40)
def wsX4_giveHeads_r1 : List Cond := [Cond.constantLong RX4 27 (-9223372036854775808), Cond.fieldLink RX4 15 "ArcLight$Trial" "heads" "[I", Cond.methodLink RX4 52 yX0_size, Cond.instanceMethod yX0_size, Cond.selects RX0 yX0_size yX0_size, Cond.initialized RX0, Cond.code yX0_size cX0_size 1 (some .int), Cond.fieldLink RX0 16 "ArcLight$ArcKeys" "last" "I", Cond.methodLink RX4 58 yX4_note, Cond.instanceMethod yX4_note, Cond.selects RX4 yX4_note yX4_note, Cond.initialized RX4, Cond.code yX4_note cX4_note 3 none, Cond.fieldLink RX4 19 "ArcLight$Trial" "found" "I", Cond.fieldLink RX4 9 "ArcLight$Trial" "keys" "[J", Cond.methodLink RX4 62 yX0_get, Cond.instanceMethod yX0_get, Cond.selects RX0 yX0_get yX0_get, Cond.code yX0_get cX0_get 3 (some .long), Cond.fieldLink RX0 11 "ArcLight$ArcKeys" "keys" "[[J", Cond.constantLong RX0 32 (-9223372036854775808), Cond.static yX6_isPlace, Cond.initialized RX6, Cond.code yX6_isPlace cX6_isPlace 1 (some .boolean)]
def wsX4_giveHeads_r2 : List Cond := [Cond.methodLink RX4 66 yX4_closesCircle, Cond.instanceMethod yX4_closesCircle, Cond.selects RX4 yX4_closesCircle yX4_closesCircle, Cond.code yX4_closesCircle cX4_closesCircle 5 (some .boolean), Cond.methodLink RX4 70 yX4_crossesEarlier, Cond.instanceMethod yX4_crossesEarlier, Cond.selects RX4 yX4_crossesEarlier yX4_crossesEarlier, Cond.code yX4_crossesEarlier cX4_crossesEarlier 4 (some .boolean), Cond.static yX6_doCross, Cond.code yX6_doCross cX6_doCross 8 (some .boolean), Cond.methodLink RX6 249 Lib.Math.min.name, Cond.static Lib.Math.min.name, Cond.initialized "java/lang/Math", Cond.code Lib.Math.min.name Lib.Math.min.code 2 (some .int), Cond.methodLink RX6 252 Lib.Math.max.name, Cond.static Lib.Math.max.name, Cond.code Lib.Math.max.name Lib.Math.max.code 2 (some .int), Cond.methodLink RX4 23 yX4_giveHeads, Cond.static yX4_giveHeads]
def wsX4_giveHeads : List Cond := .code yX4_giveHeads cX4_giveHeads 9 none :: ((wsX4_giveHeads_r1 ++ wsX4_giveHeads_r2) ++ wsX40 ++ wsX00)
def wsX4_run_r1 : List Cond := [Cond.fieldLink RX4 19 "ArcLight$Trial" "found" "I", Cond.methodLink RX4 23 yX4_giveHeads, Cond.static yX4_giveHeads, Cond.initialized RX4, Cond.code yX4_giveHeads cX4_giveHeads 9 none, Cond.constantLong RX4 27 (-9223372036854775808), Cond.fieldLink RX4 15 "ArcLight$Trial" "heads" "[I", Cond.methodLink RX4 52 yX0_size, Cond.instanceMethod yX0_size, Cond.selects RX0 yX0_size yX0_size, Cond.initialized RX0, Cond.code yX0_size cX0_size 1 (some .int), Cond.fieldLink RX0 16 "ArcLight$ArcKeys" "last" "I", Cond.methodLink RX4 58 yX4_note, Cond.instanceMethod yX4_note, Cond.selects RX4 yX4_note yX4_note, Cond.code yX4_note cX4_note 3 none, Cond.fieldLink RX4 9 "ArcLight$Trial" "keys" "[J", Cond.methodLink RX4 62 yX0_get, Cond.instanceMethod yX0_get, Cond.selects RX0 yX0_get yX0_get, Cond.code yX0_get cX0_get 3 (some .long), Cond.fieldLink RX0 11 "ArcLight$ArcKeys" "keys" "[[J", Cond.constantLong RX0 32 (-9223372036854775808)]
def wsX4_run_r2 : List Cond := [Cond.static yX6_isPlace, Cond.initialized RX6, Cond.code yX6_isPlace cX6_isPlace 1 (some .boolean), Cond.methodLink RX4 66 yX4_closesCircle, Cond.instanceMethod yX4_closesCircle, Cond.selects RX4 yX4_closesCircle yX4_closesCircle, Cond.code yX4_closesCircle cX4_closesCircle 5 (some .boolean), Cond.methodLink RX4 70 yX4_crossesEarlier, Cond.instanceMethod yX4_crossesEarlier, Cond.selects RX4 yX4_crossesEarlier yX4_crossesEarlier, Cond.code yX4_crossesEarlier cX4_crossesEarlier 4 (some .boolean), Cond.static yX6_doCross, Cond.code yX6_doCross cX6_doCross 8 (some .boolean), Cond.methodLink RX6 249 Lib.Math.min.name, Cond.static Lib.Math.min.name, Cond.initialized "java/lang/Math", Cond.code Lib.Math.min.name Lib.Math.min.code 2 (some .int), Cond.methodLink RX6 252 Lib.Math.max.name, Cond.static Lib.Math.max.name, Cond.code Lib.Math.max.name Lib.Math.max.code 2 (some .int)]
def wsX4_run : List Cond := .code yX4_run cX4_run 3 none :: ((wsX4_run_r1 ++ wsX4_run_r2) ++ wsX40 ++ wsX00)
def wsX4_size : List Cond := .code yX4_size cX4_size 1 (some .int) :: ([.fieldLink RX4 19 "ArcLight$Trial" "found" "I"] ++ wsX40)
def wsX4_greatest : List Cond := .code yX4_greatest cX4_greatest 4 (some .long) :: ([.constantLong RX4 27 (-9223372036854775808), .fieldLink RX4 19 "ArcLight$Trial" "found" "I", .fieldLink RX4 9 "ArcLight$Trial" "keys" "[J", .methodLink RX4 29 Lib.MathLoose.max_long.x, .static Lib.MathLoose.max_long.x, .initialized "java/lang/Math", .code Lib.MathLoose.max_long.x Lib.MathLoose.max_long.code 4 (some .long)] ++ wsX40)
def wsX4_least : List Cond := .code yX4_least cX4_least 6 (some .long) :: ([.fieldLink RX4 19 "ArcLight$Trial" "found" "I", .fieldLink RX4 9 "ArcLight$Trial" "keys" "[J", .methodLink RX4 49 Lib.MathLoose.min_long.x, .static Lib.MathLoose.min_long.x, .initialized "java/lang/Math", .code Lib.MathLoose.min_long.x Lib.MathLoose.min_long.code 4 (some .long)] ++ wsX40)
def wsX4_countAbove : List Cond := .code yX4_countAbove cX4_countAbove 5 (some .int) :: ([.fieldLink RX4 19 "ArcLight$Trial" "found" "I", .fieldLink RX4 9 "ArcLight$Trial" "keys" "[J"] ++ wsX40)
def wsX4_ofRank : List Cond := .code yX4_ofRank cX4_ofRank 9 (some .long) :: ([.constantLong RX4 43 (2), .methodLink RX4 35 yX4_greatest, .instanceMethod yX4_greatest, .selects RX4 yX4_greatest yX4_greatest, .initialized RX4, .code yX4_greatest cX4_greatest 4 (some .long), .constantLong RX4 27 (-9223372036854775808), .fieldLink RX4 19 "ArcLight$Trial" "found" "I", .fieldLink RX4 9 "ArcLight$Trial" "keys" "[J", .methodLink RX4 29 Lib.MathLoose.max_long.x, .static Lib.MathLoose.max_long.x, .initialized "java/lang/Math", .code Lib.MathLoose.max_long.x Lib.MathLoose.max_long.code 4 (some .long), .methodLink RX4 39 yX4_least, .instanceMethod yX4_least, .selects RX4 yX4_least yX4_least, .code yX4_least cX4_least 6 (some .long), .methodLink RX4 49 Lib.MathLoose.min_long.x, .static Lib.MathLoose.min_long.x, .code Lib.MathLoose.min_long.x Lib.MathLoose.min_long.code 4 (some .long), .methodLink RX4 45 yX4_countAbove, .instanceMethod yX4_countAbove, .selects RX4 yX4_countAbove yX4_countAbove, .code yX4_countAbove cX4_countAbove 5 (some .int)] ++ wsX40)
def wsX5_init : List Cond := .code yX5_init cX5_init 1 none :: ([.methodLink RX5 3 objectInit, .instanceMethod objectInit, .code objectInit ⟨#[0xb1]⟩ 1 none, .arrayClass .int, .fieldLink RX5 9 "ArcLight$Weights" "now" "[I", .arrayClass .long, .fieldLink RX5 15 "ArcLight$Weights" "sums" "[J", .fieldLink RX5 19 "ArcLight$Weights" "steps" "I", .classLink RX5 23 "[[I", .fieldLink RX5 25 "ArcLight$Weights" "oldWeights" "[[I", .classLink RX5 28 "[[J", .fieldLink RX5 30 "ArcLight$Weights" "oldSums" "[[J", .fieldLink RX5 33 "ArcLight$Weights" "oldSteps" "[I", .fieldLink RX5 36 "ArcLight$Weights" "kept" "I", .fieldLink RX5 39 "ArcLight$Weights" "next" "I"] ++ wsX50)
def wsX5_put : List Cond := .code yX5_put cX5_put 3 none :: ([.fieldLink RX5 9 "ArcLight$Weights" "now" "[I", .methodLink RX5 42 yX5_isFeature, .static yX5_isFeature, .initialized RX5, .code yX5_isFeature cX5_isFeature 1 (some .boolean)] ++ wsX50)
def wsX5_addToArc_r1 : List Cond := [Cond.methodLink RX5 46 yX2_byKinds, Cond.instanceMethod yX2_byKinds, Cond.selects RX2 yX2_byKinds yX2_byKinds, Cond.initialized RX2, Cond.code yX2_byKinds cX2_byKinds 3 (some .int), Cond.methodLink RX2 37 yX2_kindAt, Cond.instanceMethod yX2_kindAt, Cond.selects RX2 yX2_kindAt yX2_kindAt, Cond.code yX2_kindAt cX2_kindAt 2 (some .int), Cond.fieldLink RX2 9 "ArcLight$Sentence" "kinds" "[I", Cond.static yX6_isPlace, Cond.initialized RX6, Cond.code yX6_isPlace cX6_isPlace 1 (some .boolean), Cond.static yX6_byDistance, Cond.code yX6_byDistance cX6_byDistance 3 (some .int), Cond.methodLink RX6 246 Lib.Math.abs.name, Cond.static Lib.Math.abs.name, Cond.initialized "java/lang/Math", Cond.code Lib.Math.abs.name Lib.Math.abs.code 1 (some .int), Cond.methodLink RX6 249 Lib.Math.min.name, Cond.static Lib.Math.min.name, Cond.code Lib.Math.min.name Lib.Math.min.code 2 (some .int), Cond.methodLink RX5 52 yX5_get, Cond.instanceMethod yX5_get]
def wsX5_addToArc_r2 : List Cond := [Cond.selects RX5 yX5_get yX5_get, Cond.initialized RX5, Cond.code yX5_get cX5_get 2 (some .int), Cond.fieldLink RX5 9 "ArcLight$Weights" "now" "[I", Cond.methodLink RX5 42 yX5_isFeature, Cond.static yX5_isFeature, Cond.code yX5_isFeature cX5_isFeature 1 (some .boolean), Cond.methodLink RX5 59 yX5_put, Cond.instanceMethod yX5_put, Cond.selects RX5 yX5_put yX5_put, Cond.code yX5_put cX5_put 3 none]
def wsX5_addToArc : List Cond := .code yX5_addToArc cX5_addToArc 7 none :: ((wsX5_addToArc_r1 ++ wsX5_addToArc_r2) ++ wsX20 ++ wsX50)
def wsX5_endStep : List Cond := .code yX5_endStep cX5_endStep 2 none :: ([.fieldLink RX5 15 "ArcLight$Weights" "sums" "[J", .fieldLink RX5 9 "ArcLight$Weights" "now" "[I", .fieldLink RX5 19 "ArcLight$Weights" "steps" "I"] ++ wsX50)
def wsX5_stepCount : List Cond := .code yX5_stepCount cX5_stepCount 1 (some .int) :: ([.fieldLink RX5 19 "ArcLight$Weights" "steps" "I"] ++ wsX50)
def wsX5_averageOf : List Cond := .code yX5_averageOf cX5_averageOf 2 (some .double) :: ([.fieldLink RX5 19 "ArcLight$Weights" "steps" "I", .fieldLink RX5 15 "ArcLight$Weights" "sums" "[J", .methodLink RX5 42 yX5_isFeature, .static yX5_isFeature, .initialized RX5, .code yX5_isFeature cX5_isFeature 1 (some .boolean)] ++ wsX50)
def wsX5_keptCount : List Cond := .code yX5_keptCount cX5_keptCount 1 (some .int) :: ([.fieldLink RX5 36 "ArcLight$Weights" "kept" "I"] ++ wsX50)
def wsX5_isRow : List Cond := .code yX5_isRow cX5_isRow 1 (some .boolean) :: ([])
def wsX5_keep : List Cond := .code yX5_keep cX5_keep 1 none :: ([.fieldLink RX5 39 "ArcLight$Weights" "next" "I", .fieldLink RX5 9 "ArcLight$Weights" "now" "[I", .fieldLink RX5 25 "ArcLight$Weights" "oldWeights" "[[I", .methodLink RX5 66 arraycopyName, .native arraycopyName, .static arraycopyName, .initialized "java/lang/System", .fieldLink RX5 15 "ArcLight$Weights" "sums" "[J", .fieldLink RX5 30 "ArcLight$Weights" "oldSums" "[[J", .fieldLink RX5 33 "ArcLight$Weights" "oldSteps" "[I", .fieldLink RX5 19 "ArcLight$Weights" "steps" "I", .fieldLink RX5 36 "ArcLight$Weights" "kept" "I", .methodLink RX5 72 Lib.Math.min.name, .static Lib.Math.min.name, .initialized "java/lang/Math", .code Lib.Math.min.name Lib.Math.min.code 2 (some .int), .methodLink RX5 63 yX5_isRow, .static yX5_isRow, .initialized RX5, .code yX5_isRow cX5_isRow 1 (some .boolean)] ++ wsX50)
def wsX5_takeBack : List Cond := .code yX5_takeBack cX5_takeBack 2 none :: ([.fieldLink RX5 39 "ArcLight$Weights" "next" "I", .fieldLink RX5 36 "ArcLight$Weights" "kept" "I", .fieldLink RX5 25 "ArcLight$Weights" "oldWeights" "[[I", .fieldLink RX5 9 "ArcLight$Weights" "now" "[I", .methodLink RX5 66 arraycopyName, .native arraycopyName, .static arraycopyName, .initialized "java/lang/System", .fieldLink RX5 30 "ArcLight$Weights" "oldSums" "[[J", .fieldLink RX5 15 "ArcLight$Weights" "sums" "[J", .fieldLink RX5 33 "ArcLight$Weights" "oldSteps" "[I", .fieldLink RX5 19 "ArcLight$Weights" "steps" "I", .methodLink RX5 63 yX5_isRow, .static yX5_isRow, .initialized RX5, .code yX5_isRow cX5_isRow 1 (some .boolean)] ++ wsX50)
def wsX6_init_r1 : List Cond := [Cond.methodLink RX6 3 objectInit, Cond.instanceMethod objectInit, Cond.code objectInit ⟨#[0xb1]⟩ 1 none, Cond.classLink RX6 9 RX2, Cond.fieldLink RX6 11 "ArcLight" "all" "[LArcLight$Sentence;", Cond.fieldLink RX6 15 "ArcLight" "count" "I", Cond.classLink RX6 19 RX5, Cond.instantiable RX5 8, Cond.initialized RX5, Cond.fieldLink RX6 22 "ArcLight" "weights" "LArcLight$Weights;", Cond.classLink RX6 26 RX0, Cond.instantiable RX0 2, Cond.initialized RX0, Cond.fieldLink RX6 29 "ArcLight" "arcs" "LArcLight$ArcKeys;", Cond.classLink RX6 33 RX3, Cond.instantiable RX3 4, Cond.initialized RX3, Cond.fieldLink RX6 36 "ArcLight" "spans" "LArcLight$Spans;", Cond.classLink RX6 40 RX1, Cond.instantiable RX1 5, Cond.initialized RX1, Cond.fieldLink RX6 43 "ArcLight" "circles" "LArcLight$Circles;", Cond.classLink RX6 47 RX4, Cond.instantiable RX4 3]
def wsX6_init_r2 : List Cond := [Cond.initialized RX4, Cond.fieldLink RX6 50 "ArcLight" "trial" "LArcLight$Trial;", Cond.instanceMethod yX5_init, Cond.code yX5_init cX5_init 1 none, Cond.methodLink RX5 3 objectInit, Cond.arrayClass .int, Cond.fieldLink RX5 9 "ArcLight$Weights" "now" "[I", Cond.arrayClass .long, Cond.fieldLink RX5 15 "ArcLight$Weights" "sums" "[J", Cond.fieldLink RX5 19 "ArcLight$Weights" "steps" "I", Cond.classLink RX5 23 "[[I", Cond.fieldLink RX5 25 "ArcLight$Weights" "oldWeights" "[[I", Cond.classLink RX5 28 "[[J", Cond.fieldLink RX5 30 "ArcLight$Weights" "oldSums" "[[J", Cond.fieldLink RX5 33 "ArcLight$Weights" "oldSteps" "[I", Cond.fieldLink RX5 36 "ArcLight$Weights" "kept" "I", Cond.fieldLink RX5 39 "ArcLight$Weights" "next" "I", Cond.instanceMethod yX0_init, Cond.code yX0_init cX0_init 1 none, Cond.methodLink RX0 3 objectInit, Cond.classLink RX0 9 "[[J", Cond.fieldLink RX0 11 "ArcLight$ArcKeys" "keys" "[[J", Cond.fieldLink RX0 16 "ArcLight$ArcKeys" "last" "I", Cond.instanceMethod yX3_init]
def wsX6_init_r3 : List Cond := [Cond.code yX3_init cX3_init 1 none, Cond.methodLink RX3 3 objectInit, Cond.classLink RX3 9 "[[J", Cond.fieldLink RX3 11 "ArcLight$Spans" "wholeFromLeft" "[[J", Cond.fieldLink RX3 16 "ArcLight$Spans" "wholeFromRight" "[[J", Cond.fieldLink RX3 19 "ArcLight$Spans" "openFromLeft" "[[J", Cond.fieldLink RX3 22 "ArcLight$Spans" "openFromRight" "[[J", Cond.instanceMethod yX1_init, Cond.code yX1_init cX1_init 1 none, Cond.methodLink RX1 3 objectInit, Cond.classLink RX1 9 "[[J", Cond.fieldLink RX1 11 "ArcLight$Circles" "keys" "[[J", Cond.fieldLink RX1 16 "ArcLight$Circles" "contracted" "[[J", Cond.fieldLink RX1 19 "ArcLight$Circles" "taken" "[I", Cond.fieldLink RX1 23 "ArcLight$Circles" "groups" "[I", Cond.fieldLink RX1 26 "ArcLight$Circles" "nodes" "I", Cond.instanceMethod yX4_init, Cond.code yX4_init cX4_init 1 none, Cond.methodLink RX4 3 objectInit, Cond.fieldLink RX4 9 "ArcLight$Trial" "keys" "[J", Cond.fieldLink RX4 15 "ArcLight$Trial" "heads" "[I", Cond.fieldLink RX4 19 "ArcLight$Trial" "found" "I"]
def wsX6_init : List Cond := .code yX6_init cX6_init 1 none :: ((wsX6_init_r1 ++ (wsX6_init_r2 ++ wsX6_init_r3)) ++ wsX60 ++ wsX50 ++ wsX00 ++ wsX30 ++ wsX10 ++ wsX40)
def wsX6_addSentence : List Cond := .code yX6_addSentence cX6_addSentence 1 (some .int) :: ([.classLink RX6 54 "java/lang/IllegalStateException", .initialized "java/lang/IllegalStateException", .fieldLink RX6 15 "ArcLight" "count" "I", .fieldLink RX6 11 "ArcLight" "all" "[LArcLight$Sentence;", .classLink RX6 9 RX2, .instantiable RX2 4, .initialized RX2, .methodLink RX6 61 yX2_init, .instanceMethod yX2_init, .code yX2_init cX2_init 1 none, .methodLink RX2 3 objectInit, .instanceMethod objectInit, .code objectInit ⟨#[0xb1]⟩ 1 none, .arrayClass .int, .fieldLink RX2 9 "ArcLight$Sentence" "kinds" "[I", .fieldLink RX2 15 "ArcLight$Sentence" "rightHeads" "[I", .classLink RX2 18 "[[I", .fieldLink RX2 20 "ArcLight$Sentence" "marks" "[[I", .fieldLink RX2 23 "ArcLight$Sentence" "last" "I", .methodLink RX2 27 yJ7_fill_53178, .static yJ7_fill_53178, .initialized RJ7, .code yJ7_fill_53178 cJ7_fill_53178 4 none] ++ wsX60 ++ wsX20 ++ (vx_atS RX6 58 "java/lang/IllegalStateException" ["java/lang/RuntimeException", "java/lang/Exception"]).filter goodWord)
def wsX6_find : List Cond := .code yX6_find cX6_find 3 (some (.object "ArcLight$Sentence")) :: ([.classLink RX6 197 "java/lang/IndexOutOfBoundsException", .initialized "java/lang/IndexOutOfBoundsException", .fieldLink RX6 11 "ArcLight" "all" "[LArcLight$Sentence;"] ++ wsX60 ++ (vx_atS RX6 201 "java/lang/IndexOutOfBoundsException" ["java/lang/RuntimeException", "java/lang/Exception"]).filter goodWord)
def wsX6_addWord : List Cond := .code yX6_addWord cX6_addWord 4 (some .int) :: ([.classLink RX6 66 "java/lang/IllegalArgumentException", .initialized "java/lang/IllegalArgumentException", .classLink RX6 54 "java/lang/IllegalStateException", .initialized "java/lang/IllegalStateException", .methodLink RX6 62 yX6_find, .instanceMethod yX6_find, .selects RX6 yX6_find yX6_find, .initialized RX6, .code yX6_find cX6_find 3 (some (.object "ArcLight$Sentence")), .classLink RX6 197 "java/lang/IndexOutOfBoundsException", .initialized "java/lang/IndexOutOfBoundsException", .fieldLink RX6 11 "ArcLight" "all" "[LArcLight$Sentence;", .methodLink RX6 71 yX2_size, .instanceMethod yX2_size, .selects RX2 yX2_size yX2_size, .initialized RX2, .code yX2_size cX2_size 1 (some .int), .fieldLink RX2 23 "ArcLight$Sentence" "last" "I", .methodLink RX6 77 yX2_append, .instanceMethod yX2_append, .selects RX2 yX2_append yX2_append, .code yX2_append cX2_append 2 none, .fieldLink RX2 9 "ArcLight$Sentence" "kinds" "[I"] ++ wsX60 ++ wsX20 ++ (vx_atS RX6 70 "java/lang/IllegalArgumentException" ["java/lang/RuntimeException", "java/lang/Exception"]).filter goodWord ++ (vx_atS RX6 58 "java/lang/IllegalStateException" ["java/lang/RuntimeException", "java/lang/Exception"]).filter goodWord ++ (vx_atS RX6 201 "java/lang/IndexOutOfBoundsException" ["java/lang/RuntimeException", "java/lang/Exception"]).filter goodWord)
def wsX6_sentences : List Cond := .code yX6_sentences cX6_sentences 1 (some .int) :: ([.fieldLink RX6 15 "ArcLight" "count" "I"] ++ wsX60)
def wsX6_words : List Cond := .code yX6_words cX6_words 2 (some .int) :: ([.methodLink RX6 62 yX6_find, .instanceMethod yX6_find, .selects RX6 yX6_find yX6_find, .initialized RX6, .code yX6_find cX6_find 3 (some (.object "ArcLight$Sentence")), .classLink RX6 197 "java/lang/IndexOutOfBoundsException", .initialized "java/lang/IndexOutOfBoundsException", .fieldLink RX6 11 "ArcLight" "all" "[LArcLight$Sentence;", .methodLink RX6 71 yX2_size, .instanceMethod yX2_size, .selects RX2 yX2_size yX2_size, .initialized RX2, .code yX2_size cX2_size 1 (some .int), .fieldLink RX2 23 "ArcLight$Sentence" "last" "I"] ++ wsX60 ++ wsX20 ++ (vx_atS RX6 201 "java/lang/IndexOutOfBoundsException" ["java/lang/RuntimeException", "java/lang/Exception"]).filter goodWord)
def wsX6_checkWord : List Cond := .code yX6_checkWord cX6_checkWord 2 none :: ([.classLink RX6 197 "java/lang/IndexOutOfBoundsException", .initialized "java/lang/IndexOutOfBoundsException", .methodLink RX6 71 yX2_size, .instanceMethod yX2_size, .selects RX2 yX2_size yX2_size, .initialized RX2, .code yX2_size cX2_size 1 (some .int), .fieldLink RX2 23 "ArcLight$Sentence" "last" "I"] ++ wsX20 ++ (vx_atS RX6 201 "java/lang/IndexOutOfBoundsException" ["java/lang/RuntimeException", "java/lang/Exception"]).filter goodWord)
def wsX6_kind : List Cond := .code yX6_kind cX6_kind 4 (some .int) :: ([.methodLink RX6 62 yX6_find, .instanceMethod yX6_find, .selects RX6 yX6_find yX6_find, .initialized RX6, .code yX6_find cX6_find 3 (some (.object "ArcLight$Sentence")), .classLink RX6 197 "java/lang/IndexOutOfBoundsException", .initialized "java/lang/IndexOutOfBoundsException", .fieldLink RX6 11 "ArcLight" "all" "[LArcLight$Sentence;", .methodLink RX6 81 yX6_checkWord, .static yX6_checkWord, .code yX6_checkWord cX6_checkWord 2 none, .methodLink RX6 71 yX2_size, .instanceMethod yX2_size, .selects RX2 yX2_size yX2_size, .initialized RX2, .code yX2_size cX2_size 1 (some .int), .fieldLink RX2 23 "ArcLight$Sentence" "last" "I", .methodLink RX6 85 yX2_kindAt, .instanceMethod yX2_kindAt, .selects RX2 yX2_kindAt yX2_kindAt, .code yX2_kindAt cX2_kindAt 2 (some .int), .fieldLink RX2 9 "ArcLight$Sentence" "kinds" "[I", .static yX6_isPlace, .code yX6_isPlace cX6_isPlace 1 (some .boolean)] ++ wsX60 ++ wsX20 ++ (vx_atS RX6 201 "java/lang/IndexOutOfBoundsException" ["java/lang/RuntimeException", "java/lang/Exception"]).filter goodWord)
def wsX6_checkFeature : List Cond := .code yX6_checkFeature cX6_checkFeature 1 none :: ([.classLink RX6 197 "java/lang/IndexOutOfBoundsException", .initialized "java/lang/IndexOutOfBoundsException"] ++ (vx_atS RX6 201 "java/lang/IndexOutOfBoundsException" ["java/lang/RuntimeException", "java/lang/Exception"]).filter goodWord)
def wsX6_setWeight_r1 : List Cond := [Cond.classLink RX6 66 "java/lang/IllegalArgumentException", Cond.initialized "java/lang/IllegalArgumentException", Cond.fieldLink RX6 22 "ArcLight" "weights" "LArcLight$Weights;", Cond.methodLink RX6 89 yX6_checkFeature, Cond.static yX6_checkFeature, Cond.initialized RX6, Cond.code yX6_checkFeature cX6_checkFeature 1 none, Cond.classLink RX6 197 "java/lang/IndexOutOfBoundsException", Cond.initialized "java/lang/IndexOutOfBoundsException", Cond.methodLink RX6 94 yX5_get, Cond.instanceMethod yX5_get, Cond.selects RX5 yX5_get yX5_get, Cond.initialized RX5, Cond.code yX5_get cX5_get 2 (some .int), Cond.fieldLink RX5 9 "ArcLight$Weights" "now" "[I", Cond.methodLink RX5 42 yX5_isFeature, Cond.static yX5_isFeature, Cond.code yX5_isFeature cX5_isFeature 1 (some .boolean), Cond.methodLink RX6 97 yX5_keep, Cond.instanceMethod yX5_keep, Cond.selects RX5 yX5_keep yX5_keep, Cond.code yX5_keep cX5_keep 1 none, Cond.fieldLink RX5 39 "ArcLight$Weights" "next" "I", Cond.fieldLink RX5 25 "ArcLight$Weights" "oldWeights" "[[I"]
def wsX6_setWeight_r2 : List Cond := [Cond.methodLink RX5 66 arraycopyName, Cond.native arraycopyName, Cond.static arraycopyName, Cond.initialized "java/lang/System", Cond.fieldLink RX5 15 "ArcLight$Weights" "sums" "[J", Cond.fieldLink RX5 30 "ArcLight$Weights" "oldSums" "[[J", Cond.fieldLink RX5 33 "ArcLight$Weights" "oldSteps" "[I", Cond.fieldLink RX5 19 "ArcLight$Weights" "steps" "I", Cond.fieldLink RX5 36 "ArcLight$Weights" "kept" "I", Cond.methodLink RX5 72 Lib.Math.min.name, Cond.static Lib.Math.min.name, Cond.initialized "java/lang/Math", Cond.code Lib.Math.min.name Lib.Math.min.code 2 (some .int), Cond.methodLink RX5 63 yX5_isRow, Cond.static yX5_isRow, Cond.code yX5_isRow cX5_isRow 1 (some .boolean), Cond.methodLink RX6 100 yX5_put, Cond.instanceMethod yX5_put, Cond.selects RX5 yX5_put yX5_put, Cond.code yX5_put cX5_put 3 none]
def wsX6_setWeight : List Cond := .code yX6_setWeight cX6_setWeight 4 (some .int) :: ((wsX6_setWeight_r1 ++ wsX6_setWeight_r2) ++ wsX60 ++ wsX50 ++ (vx_atS RX6 70 "java/lang/IllegalArgumentException" ["java/lang/RuntimeException", "java/lang/Exception"]).filter goodWord ++ (vx_atS RX6 201 "java/lang/IndexOutOfBoundsException" ["java/lang/RuntimeException", "java/lang/Exception"]).filter goodWord)
def wsX6_weight : List Cond := .code yX6_weight cX6_weight 2 (some .int) :: ([.fieldLink RX6 22 "ArcLight" "weights" "LArcLight$Weights;", .methodLink RX6 89 yX6_checkFeature, .static yX6_checkFeature, .initialized RX6, .code yX6_checkFeature cX6_checkFeature 1 none, .classLink RX6 197 "java/lang/IndexOutOfBoundsException", .initialized "java/lang/IndexOutOfBoundsException", .methodLink RX6 94 yX5_get, .instanceMethod yX5_get, .selects RX5 yX5_get yX5_get, .initialized RX5, .code yX5_get cX5_get 2 (some .int), .fieldLink RX5 9 "ArcLight$Weights" "now" "[I", .methodLink RX5 42 yX5_isFeature, .static yX5_isFeature, .code yX5_isFeature cX5_isFeature 1 (some .boolean)] ++ wsX60 ++ wsX50 ++ (vx_atS RX6 201 "java/lang/IndexOutOfBoundsException" ["java/lang/RuntimeException", "java/lang/Exception"]).filter goodWord)
def wsX6_checkArc : List Cond := .code yX6_checkArc cX6_checkArc 3 none :: ([.classLink RX6 197 "java/lang/IndexOutOfBoundsException", .initialized "java/lang/IndexOutOfBoundsException", .classLink RX6 66 "java/lang/IllegalArgumentException", .initialized "java/lang/IllegalArgumentException", .methodLink RX6 71 yX2_size, .instanceMethod yX2_size, .selects RX2 yX2_size yX2_size, .initialized RX2, .code yX2_size cX2_size 1 (some .int), .fieldLink RX2 23 "ArcLight$Sentence" "last" "I", .methodLink RX6 81 yX6_checkWord, .static yX6_checkWord, .initialized RX6, .code yX6_checkWord cX6_checkWord 2 none] ++ wsX20 ++ (vx_atS RX6 201 "java/lang/IndexOutOfBoundsException" ["java/lang/RuntimeException", "java/lang/Exception"]).filter goodWord ++ (vx_atS RX6 70 "java/lang/IllegalArgumentException" ["java/lang/RuntimeException", "java/lang/Exception"]).filter goodWord)
def wsX6_feature_r1 : List Cond := [Cond.methodLink RX6 62 yX6_find, Cond.instanceMethod yX6_find, Cond.selects RX6 yX6_find yX6_find, Cond.initialized RX6, Cond.code yX6_find cX6_find 3 (some (.object "ArcLight$Sentence")), Cond.classLink RX6 197 "java/lang/IndexOutOfBoundsException", Cond.initialized "java/lang/IndexOutOfBoundsException", Cond.fieldLink RX6 11 "ArcLight" "all" "[LArcLight$Sentence;", Cond.methodLink RX6 104 yX6_checkArc, Cond.static yX6_checkArc, Cond.code yX6_checkArc cX6_checkArc 3 none, Cond.classLink RX6 66 "java/lang/IllegalArgumentException", Cond.initialized "java/lang/IllegalArgumentException", Cond.methodLink RX6 71 yX2_size, Cond.instanceMethod yX2_size, Cond.selects RX2 yX2_size yX2_size, Cond.initialized RX2, Cond.code yX2_size cX2_size 1 (some .int), Cond.fieldLink RX2 23 "ArcLight$Sentence" "last" "I", Cond.methodLink RX6 81 yX6_checkWord, Cond.static yX6_checkWord, Cond.code yX6_checkWord cX6_checkWord 2 none, Cond.methodLink RX6 108 yX6_byDistance, Cond.static yX6_byDistance]
def wsX6_feature_r2 : List Cond := [Cond.code yX6_byDistance cX6_byDistance 3 (some .int), Cond.methodLink RX6 246 Lib.Math.abs.name, Cond.static Lib.Math.abs.name, Cond.initialized "java/lang/Math", Cond.code Lib.Math.abs.name Lib.Math.abs.code 1 (some .int), Cond.methodLink RX6 249 Lib.Math.min.name, Cond.static Lib.Math.min.name, Cond.code Lib.Math.min.name Lib.Math.min.code 2 (some .int), Cond.methodLink RX6 112 yX2_byKinds, Cond.instanceMethod yX2_byKinds, Cond.selects RX2 yX2_byKinds yX2_byKinds, Cond.code yX2_byKinds cX2_byKinds 3 (some .int), Cond.methodLink RX2 37 yX2_kindAt, Cond.instanceMethod yX2_kindAt, Cond.selects RX2 yX2_kindAt yX2_kindAt, Cond.code yX2_kindAt cX2_kindAt 2 (some .int), Cond.fieldLink RX2 9 "ArcLight$Sentence" "kinds" "[I", Cond.static yX6_isPlace, Cond.code yX6_isPlace cX6_isPlace 1 (some .boolean)]
def wsX6_feature : List Cond := .code yX6_feature cX6_feature 6 (some .int) :: ((wsX6_feature_r1 ++ wsX6_feature_r2) ++ wsX60 ++ wsX20 ++ (vx_atS RX6 201 "java/lang/IndexOutOfBoundsException" ["java/lang/RuntimeException", "java/lang/Exception"]).filter goodWord ++ (vx_atS RX6 70 "java/lang/IllegalArgumentException" ["java/lang/RuntimeException", "java/lang/Exception"]).filter goodWord)
def wsX6_score_r1 : List Cond := [Cond.fieldLink RX6 22 "ArcLight" "weights" "LArcLight$Weights;", Cond.methodLink RX6 62 yX6_find, Cond.instanceMethod yX6_find, Cond.selects RX6 yX6_find yX6_find, Cond.initialized RX6, Cond.code yX6_find cX6_find 3 (some (.object "ArcLight$Sentence")), Cond.classLink RX6 197 "java/lang/IndexOutOfBoundsException", Cond.initialized "java/lang/IndexOutOfBoundsException", Cond.fieldLink RX6 11 "ArcLight" "all" "[LArcLight$Sentence;", Cond.methodLink RX6 104 yX6_checkArc, Cond.static yX6_checkArc, Cond.code yX6_checkArc cX6_checkArc 3 none, Cond.classLink RX6 66 "java/lang/IllegalArgumentException", Cond.initialized "java/lang/IllegalArgumentException", Cond.methodLink RX6 71 yX2_size, Cond.instanceMethod yX2_size, Cond.selects RX2 yX2_size yX2_size, Cond.initialized RX2, Cond.code yX2_size cX2_size 1 (some .int), Cond.fieldLink RX2 23 "ArcLight$Sentence" "last" "I", Cond.methodLink RX6 81 yX6_checkWord, Cond.static yX6_checkWord, Cond.code yX6_checkWord cX6_checkWord 2 none, Cond.methodLink RX6 115 yX5_ofArc]
def wsX6_score_r2 : List Cond := [Cond.instanceMethod yX5_ofArc, Cond.selects RX5 yX5_ofArc yX5_ofArc, Cond.initialized RX5, Cond.code yX5_ofArc cX5_ofArc 4 (some .int), Cond.methodLink RX5 46 yX2_byKinds, Cond.instanceMethod yX2_byKinds, Cond.selects RX2 yX2_byKinds yX2_byKinds, Cond.code yX2_byKinds cX2_byKinds 3 (some .int), Cond.methodLink RX2 37 yX2_kindAt, Cond.instanceMethod yX2_kindAt, Cond.selects RX2 yX2_kindAt yX2_kindAt, Cond.code yX2_kindAt cX2_kindAt 2 (some .int), Cond.fieldLink RX2 9 "ArcLight$Sentence" "kinds" "[I", Cond.static yX6_isPlace, Cond.code yX6_isPlace cX6_isPlace 1 (some .boolean), Cond.methodLink RX5 52 yX5_get, Cond.instanceMethod yX5_get, Cond.selects RX5 yX5_get yX5_get, Cond.code yX5_get cX5_get 2 (some .int), Cond.fieldLink RX5 9 "ArcLight$Weights" "now" "[I", Cond.methodLink RX5 42 yX5_isFeature, Cond.static yX5_isFeature, Cond.code yX5_isFeature cX5_isFeature 1 (some .boolean), Cond.static yX6_byDistance]
def wsX6_score_r3 : List Cond := [Cond.code yX6_byDistance cX6_byDistance 3 (some .int), Cond.methodLink RX6 246 Lib.Math.abs.name, Cond.static Lib.Math.abs.name, Cond.initialized "java/lang/Math", Cond.code Lib.Math.abs.name Lib.Math.abs.code 1 (some .int), Cond.methodLink RX6 249 Lib.Math.min.name, Cond.static Lib.Math.min.name, Cond.code Lib.Math.min.name Lib.Math.min.code 2 (some .int)]
def wsX6_score : List Cond := .code yX6_score cX6_score 5 (some .int) :: ((wsX6_score_r1 ++ (wsX6_score_r2 ++ wsX6_score_r3)) ++ wsX60 ++ wsX20 ++ wsX50 ++ (vx_atS RX6 201 "java/lang/IndexOutOfBoundsException" ["java/lang/RuntimeException", "java/lang/Exception"]).filter goodWord ++ (vx_atS RX6 70 "java/lang/IllegalArgumentException" ["java/lang/RuntimeException", "java/lang/Exception"]).filter goodWord)
def wsX6_mark_r1 : List Cond := [Cond.classLink RX6 66 "java/lang/IllegalArgumentException", Cond.initialized "java/lang/IllegalArgumentException", Cond.classLink RX6 54 "java/lang/IllegalStateException", Cond.initialized "java/lang/IllegalStateException", Cond.methodLink RX6 62 yX6_find, Cond.instanceMethod yX6_find, Cond.selects RX6 yX6_find yX6_find, Cond.initialized RX6, Cond.code yX6_find cX6_find 3 (some (.object "ArcLight$Sentence")), Cond.classLink RX6 197 "java/lang/IndexOutOfBoundsException", Cond.initialized "java/lang/IndexOutOfBoundsException", Cond.fieldLink RX6 11 "ArcLight" "all" "[LArcLight$Sentence;", Cond.methodLink RX6 104 yX6_checkArc, Cond.static yX6_checkArc, Cond.code yX6_checkArc cX6_checkArc 3 none, Cond.methodLink RX6 71 yX2_size, Cond.instanceMethod yX2_size, Cond.selects RX2 yX2_size yX2_size, Cond.initialized RX2, Cond.code yX2_size cX2_size 1 (some .int), Cond.fieldLink RX2 23 "ArcLight$Sentence" "last" "I", Cond.methodLink RX6 81 yX6_checkWord, Cond.static yX6_checkWord, Cond.code yX6_checkWord cX6_checkWord 2 none]
def wsX6_mark_r2 : List Cond := [Cond.methodLink RX6 121 yX2_forcedHead, Cond.instanceMethod yX2_forcedHead, Cond.selects RX2 yX2_forcedHead yX2_forcedHead, Cond.code yX2_forcedHead cX2_forcedHead 3 (some .int), Cond.methodLink RX2 41 yX2_markOf, Cond.instanceMethod yX2_markOf, Cond.selects RX2 yX2_markOf yX2_markOf, Cond.code yX2_markOf cX2_markOf 3 (some .int), Cond.fieldLink RX2 20 "ArcLight$Sentence" "marks" "[[I", Cond.static yX6_isPlace, Cond.code yX6_isPlace cX6_isPlace 1 (some .boolean), Cond.methodLink RX6 126 yX2_changeMark, Cond.instanceMethod yX2_changeMark, Cond.selects RX2 yX2_changeMark yX2_changeMark, Cond.code yX2_changeMark cX2_changeMark 5 (some .int)]
def wsX6_mark : List Cond := .code yX6_mark cX6_mark 7 (some .int) :: ((wsX6_mark_r1 ++ wsX6_mark_r2) ++ wsX60 ++ wsX20 ++ (vx_atS RX6 70 "java/lang/IllegalArgumentException" ["java/lang/RuntimeException", "java/lang/Exception"]).filter goodWord ++ (vx_atS RX6 58 "java/lang/IllegalStateException" ["java/lang/RuntimeException", "java/lang/Exception"]).filter goodWord ++ (vx_atS RX6 201 "java/lang/IndexOutOfBoundsException" ["java/lang/RuntimeException", "java/lang/Exception"]).filter goodWord)
def wsX6_tryAll_r1 : List Cond := [Cond.fieldLink RX6 29 "ArcLight" "arcs" "LArcLight$ArcKeys;", Cond.fieldLink RX6 22 "ArcLight" "weights" "LArcLight$Weights;", Cond.fieldLink RX6 50 "ArcLight" "trial" "LArcLight$Trial;", Cond.methodLink RX6 214 yX0_fill, Cond.instanceMethod yX0_fill, Cond.selects RX0 yX0_fill yX0_fill, Cond.initialized RX0, Cond.code yX0_fill cX0_fill 5 none, Cond.methodLink RX0 26 Lib.Math.min.name, Cond.static Lib.Math.min.name, Cond.initialized "java/lang/Math", Cond.code Lib.Math.min.name Lib.Math.min.code 2 (some .int), Cond.fieldLink RX0 16 "ArcLight$ArcKeys" "last" "I", Cond.fieldLink RX0 11 "ArcLight$ArcKeys" "keys" "[[J", Cond.constantLong RX0 32 (-9223372036854775808), Cond.constantLong RX0 44 (117649), Cond.methodLink RX0 20 yX2_size, Cond.instanceMethod yX2_size, Cond.selects RX2 yX2_size yX2_size, Cond.initialized RX2, Cond.code yX2_size cX2_size 1 (some .int), Cond.fieldLink RX2 23 "ArcLight$Sentence" "last" "I", Cond.methodLink RX0 34 yX2_allows, Cond.instanceMethod yX2_allows]
def wsX6_tryAll_r2 : List Cond := [Cond.selects RX2 yX2_allows yX2_allows, Cond.code yX2_allows cX2_allows 4 (some .boolean), Cond.methodLink RX2 41 yX2_markOf, Cond.instanceMethod yX2_markOf, Cond.selects RX2 yX2_markOf yX2_markOf, Cond.code yX2_markOf cX2_markOf 3 (some .int), Cond.fieldLink RX2 20 "ArcLight$Sentence" "marks" "[[I", Cond.static yX6_isPlace, Cond.initialized RX6, Cond.code yX6_isPlace cX6_isPlace 1 (some .boolean), Cond.methodLink RX2 45 yX2_forcedHead, Cond.instanceMethod yX2_forcedHead, Cond.selects RX2 yX2_forcedHead yX2_forcedHead, Cond.code yX2_forcedHead cX2_forcedHead 3 (some .int), Cond.methodLink RX0 38 yX5_ofArc, Cond.instanceMethod yX5_ofArc, Cond.selects RX5 yX5_ofArc yX5_ofArc, Cond.initialized RX5, Cond.code yX5_ofArc cX5_ofArc 4 (some .int), Cond.methodLink RX5 46 yX2_byKinds, Cond.instanceMethod yX2_byKinds, Cond.selects RX2 yX2_byKinds yX2_byKinds, Cond.code yX2_byKinds cX2_byKinds 3 (some .int), Cond.methodLink RX2 37 yX2_kindAt]
def wsX6_tryAll_r3 : List Cond := [Cond.instanceMethod yX2_kindAt, Cond.selects RX2 yX2_kindAt yX2_kindAt, Cond.code yX2_kindAt cX2_kindAt 2 (some .int), Cond.fieldLink RX2 9 "ArcLight$Sentence" "kinds" "[I", Cond.methodLink RX5 52 yX5_get, Cond.instanceMethod yX5_get, Cond.selects RX5 yX5_get yX5_get, Cond.code yX5_get cX5_get 2 (some .int), Cond.fieldLink RX5 9 "ArcLight$Weights" "now" "[I", Cond.methodLink RX5 42 yX5_isFeature, Cond.static yX5_isFeature, Cond.code yX5_isFeature cX5_isFeature 1 (some .boolean), Cond.static yX6_byDistance, Cond.code yX6_byDistance cX6_byDistance 3 (some .int), Cond.methodLink RX6 246 Lib.Math.abs.name, Cond.static Lib.Math.abs.name, Cond.code Lib.Math.abs.name Lib.Math.abs.code 1 (some .int), Cond.methodLink RX6 249 Lib.Math.min.name, Cond.methodLink RX6 218 yX4_run, Cond.instanceMethod yX4_run, Cond.selects RX4 yX4_run yX4_run, Cond.initialized RX4, Cond.code yX4_run cX4_run 3 none, Cond.fieldLink RX4 19 "ArcLight$Trial" "found" "I"]
def wsX6_tryAll_r4 : List Cond := [Cond.methodLink RX4 23 yX4_giveHeads, Cond.static yX4_giveHeads, Cond.code yX4_giveHeads cX4_giveHeads 9 none, Cond.constantLong RX4 27 (-9223372036854775808), Cond.fieldLink RX4 15 "ArcLight$Trial" "heads" "[I", Cond.methodLink RX4 52 yX0_size, Cond.instanceMethod yX0_size, Cond.selects RX0 yX0_size yX0_size, Cond.code yX0_size cX0_size 1 (some .int), Cond.methodLink RX4 58 yX4_note, Cond.instanceMethod yX4_note, Cond.selects RX4 yX4_note yX4_note, Cond.code yX4_note cX4_note 3 none, Cond.fieldLink RX4 9 "ArcLight$Trial" "keys" "[J", Cond.methodLink RX4 62 yX0_get, Cond.instanceMethod yX0_get, Cond.selects RX0 yX0_get yX0_get, Cond.code yX0_get cX0_get 3 (some .long), Cond.methodLink RX4 66 yX4_closesCircle, Cond.instanceMethod yX4_closesCircle, Cond.selects RX4 yX4_closesCircle yX4_closesCircle, Cond.code yX4_closesCircle cX4_closesCircle 5 (some .boolean), Cond.methodLink RX4 70 yX4_crossesEarlier, Cond.instanceMethod yX4_crossesEarlier]
def wsX6_tryAll_r5 : List Cond := [Cond.selects RX4 yX4_crossesEarlier yX4_crossesEarlier, Cond.code yX4_crossesEarlier cX4_crossesEarlier 4 (some .boolean), Cond.static yX6_doCross, Cond.code yX6_doCross cX6_doCross 8 (some .boolean), Cond.methodLink RX6 252 Lib.Math.max.name, Cond.static Lib.Math.max.name, Cond.code Lib.Math.max.name Lib.Math.max.code 2 (some .int)]
def wsX6_tryAll : List Cond := .code yX6_tryAll cX6_tryAll 3 (some (.object "ArcLight$Trial")) :: ((wsX6_tryAll_r1 ++ (wsX6_tryAll_r2 ++ (wsX6_tryAll_r3 ++ (wsX6_tryAll_r4 ++ wsX6_tryAll_r5)))) ++ wsX60 ++ wsX00 ++ wsX20 ++ wsX50 ++ wsX40)
def wsX6_trees_r1 : List Cond := [Cond.methodLink RX6 62 yX6_find, Cond.instanceMethod yX6_find, Cond.selects RX6 yX6_find yX6_find, Cond.initialized RX6, Cond.code yX6_find cX6_find 3 (some (.object "ArcLight$Sentence")), Cond.classLink RX6 197 "java/lang/IndexOutOfBoundsException", Cond.initialized "java/lang/IndexOutOfBoundsException", Cond.fieldLink RX6 11 "ArcLight" "all" "[LArcLight$Sentence;", Cond.methodLink RX6 130 yX6_tryAll, Cond.instanceMethod yX6_tryAll, Cond.selects RX6 yX6_tryAll yX6_tryAll, Cond.code yX6_tryAll cX6_tryAll 3 (some (.object "ArcLight$Trial")), Cond.fieldLink RX6 29 "ArcLight" "arcs" "LArcLight$ArcKeys;", Cond.fieldLink RX6 22 "ArcLight" "weights" "LArcLight$Weights;", Cond.fieldLink RX6 50 "ArcLight" "trial" "LArcLight$Trial;", Cond.methodLink RX6 214 yX0_fill, Cond.instanceMethod yX0_fill, Cond.selects RX0 yX0_fill yX0_fill, Cond.initialized RX0, Cond.code yX0_fill cX0_fill 5 none, Cond.methodLink RX0 26 Lib.Math.min.name, Cond.static Lib.Math.min.name, Cond.initialized "java/lang/Math", Cond.code Lib.Math.min.name Lib.Math.min.code 2 (some .int)]
def wsX6_trees_r2 : List Cond := [Cond.fieldLink RX0 16 "ArcLight$ArcKeys" "last" "I", Cond.fieldLink RX0 11 "ArcLight$ArcKeys" "keys" "[[J", Cond.constantLong RX0 32 (-9223372036854775808), Cond.constantLong RX0 44 (117649), Cond.methodLink RX0 20 yX2_size, Cond.instanceMethod yX2_size, Cond.selects RX2 yX2_size yX2_size, Cond.initialized RX2, Cond.code yX2_size cX2_size 1 (some .int), Cond.fieldLink RX2 23 "ArcLight$Sentence" "last" "I", Cond.methodLink RX0 34 yX2_allows, Cond.instanceMethod yX2_allows, Cond.selects RX2 yX2_allows yX2_allows, Cond.code yX2_allows cX2_allows 4 (some .boolean), Cond.methodLink RX2 41 yX2_markOf, Cond.instanceMethod yX2_markOf, Cond.selects RX2 yX2_markOf yX2_markOf, Cond.code yX2_markOf cX2_markOf 3 (some .int), Cond.fieldLink RX2 20 "ArcLight$Sentence" "marks" "[[I", Cond.static yX6_isPlace, Cond.code yX6_isPlace cX6_isPlace 1 (some .boolean), Cond.methodLink RX2 45 yX2_forcedHead, Cond.instanceMethod yX2_forcedHead, Cond.selects RX2 yX2_forcedHead yX2_forcedHead]
def wsX6_trees_r3 : List Cond := [Cond.code yX2_forcedHead cX2_forcedHead 3 (some .int), Cond.methodLink RX0 38 yX5_ofArc, Cond.instanceMethod yX5_ofArc, Cond.selects RX5 yX5_ofArc yX5_ofArc, Cond.initialized RX5, Cond.code yX5_ofArc cX5_ofArc 4 (some .int), Cond.methodLink RX5 46 yX2_byKinds, Cond.instanceMethod yX2_byKinds, Cond.selects RX2 yX2_byKinds yX2_byKinds, Cond.code yX2_byKinds cX2_byKinds 3 (some .int), Cond.methodLink RX2 37 yX2_kindAt, Cond.instanceMethod yX2_kindAt, Cond.selects RX2 yX2_kindAt yX2_kindAt, Cond.code yX2_kindAt cX2_kindAt 2 (some .int), Cond.fieldLink RX2 9 "ArcLight$Sentence" "kinds" "[I", Cond.methodLink RX5 52 yX5_get, Cond.instanceMethod yX5_get, Cond.selects RX5 yX5_get yX5_get, Cond.code yX5_get cX5_get 2 (some .int), Cond.fieldLink RX5 9 "ArcLight$Weights" "now" "[I", Cond.methodLink RX5 42 yX5_isFeature, Cond.static yX5_isFeature, Cond.code yX5_isFeature cX5_isFeature 1 (some .boolean), Cond.static yX6_byDistance]
def wsX6_trees_r4 : List Cond := [Cond.code yX6_byDistance cX6_byDistance 3 (some .int), Cond.methodLink RX6 246 Lib.Math.abs.name, Cond.static Lib.Math.abs.name, Cond.code Lib.Math.abs.name Lib.Math.abs.code 1 (some .int), Cond.methodLink RX6 249 Lib.Math.min.name, Cond.methodLink RX6 218 yX4_run, Cond.instanceMethod yX4_run, Cond.selects RX4 yX4_run yX4_run, Cond.initialized RX4, Cond.code yX4_run cX4_run 3 none, Cond.fieldLink RX4 19 "ArcLight$Trial" "found" "I", Cond.methodLink RX4 23 yX4_giveHeads, Cond.static yX4_giveHeads, Cond.code yX4_giveHeads cX4_giveHeads 9 none, Cond.constantLong RX4 27 (-9223372036854775808), Cond.fieldLink RX4 15 "ArcLight$Trial" "heads" "[I", Cond.methodLink RX4 52 yX0_size, Cond.instanceMethod yX0_size, Cond.selects RX0 yX0_size yX0_size, Cond.code yX0_size cX0_size 1 (some .int), Cond.methodLink RX4 58 yX4_note, Cond.instanceMethod yX4_note, Cond.selects RX4 yX4_note yX4_note, Cond.code yX4_note cX4_note 3 none]
def wsX6_trees_r5 : List Cond := [Cond.fieldLink RX4 9 "ArcLight$Trial" "keys" "[J", Cond.methodLink RX4 62 yX0_get, Cond.instanceMethod yX0_get, Cond.selects RX0 yX0_get yX0_get, Cond.code yX0_get cX0_get 3 (some .long), Cond.methodLink RX4 66 yX4_closesCircle, Cond.instanceMethod yX4_closesCircle, Cond.selects RX4 yX4_closesCircle yX4_closesCircle, Cond.code yX4_closesCircle cX4_closesCircle 5 (some .boolean), Cond.methodLink RX4 70 yX4_crossesEarlier, Cond.instanceMethod yX4_crossesEarlier, Cond.selects RX4 yX4_crossesEarlier yX4_crossesEarlier, Cond.code yX4_crossesEarlier cX4_crossesEarlier 4 (some .boolean), Cond.static yX6_doCross, Cond.code yX6_doCross cX6_doCross 8 (some .boolean), Cond.methodLink RX6 252 Lib.Math.max.name, Cond.static Lib.Math.max.name, Cond.code Lib.Math.max.name Lib.Math.max.code 2 (some .int), Cond.methodLink RX6 134 yX4_size, Cond.instanceMethod yX4_size, Cond.selects RX4 yX4_size yX4_size, Cond.code yX4_size cX4_size 1 (some .int)]
def wsX6_trees : List Cond := .code yX6_trees cX6_trees 3 (some .int) :: ((wsX6_trees_r1 ++ (wsX6_trees_r2 ++ (wsX6_trees_r3 ++ (wsX6_trees_r4 ++ wsX6_trees_r5)))) ++ wsX60 ++ wsX00 ++ wsX20 ++ wsX50 ++ wsX40 ++ (vx_atS RX6 201 "java/lang/IndexOutOfBoundsException" ["java/lang/RuntimeException", "java/lang/Exception"]).filter goodWord)
def wsX6_checkTree : List Cond := .code yX6_checkTree cX6_checkTree 2 none :: ([.classLink RX6 54 "java/lang/IllegalStateException", .initialized "java/lang/IllegalStateException", .constantLong RX6 210 (-9223372036854775808)] ++ (vx_atS RX6 58 "java/lang/IllegalStateException" ["java/lang/RuntimeException", "java/lang/Exception"]).filter goodWord)
def wsX6_bestKey_r1 : List Cond := [Cond.fieldLink RX6 29 "ArcLight" "arcs" "LArcLight$ArcKeys;", Cond.fieldLink RX6 22 "ArcLight" "weights" "LArcLight$Weights;", Cond.fieldLink RX6 43 "ArcLight" "circles" "LArcLight$Circles;", Cond.fieldLink RX6 36 "ArcLight" "spans" "LArcLight$Spans;", Cond.methodLink RX6 214 yX0_fill, Cond.instanceMethod yX0_fill, Cond.selects RX0 yX0_fill yX0_fill, Cond.initialized RX0, Cond.code yX0_fill cX0_fill 5 none, Cond.methodLink RX0 26 Lib.Math.min.name, Cond.static Lib.Math.min.name, Cond.initialized "java/lang/Math", Cond.code Lib.Math.min.name Lib.Math.min.code 2 (some .int), Cond.fieldLink RX0 16 "ArcLight$ArcKeys" "last" "I", Cond.fieldLink RX0 11 "ArcLight$ArcKeys" "keys" "[[J", Cond.constantLong RX0 32 (-9223372036854775808), Cond.constantLong RX0 44 (117649), Cond.methodLink RX0 20 yX2_size, Cond.instanceMethod yX2_size, Cond.selects RX2 yX2_size yX2_size, Cond.initialized RX2, Cond.code yX2_size cX2_size 1 (some .int), Cond.fieldLink RX2 23 "ArcLight$Sentence" "last" "I", Cond.methodLink RX0 34 yX2_allows]
def wsX6_bestKey_r2 : List Cond := [Cond.instanceMethod yX2_allows, Cond.selects RX2 yX2_allows yX2_allows, Cond.code yX2_allows cX2_allows 4 (some .boolean), Cond.methodLink RX2 41 yX2_markOf, Cond.instanceMethod yX2_markOf, Cond.selects RX2 yX2_markOf yX2_markOf, Cond.code yX2_markOf cX2_markOf 3 (some .int), Cond.fieldLink RX2 20 "ArcLight$Sentence" "marks" "[[I", Cond.static yX6_isPlace, Cond.initialized RX6, Cond.code yX6_isPlace cX6_isPlace 1 (some .boolean), Cond.methodLink RX2 45 yX2_forcedHead, Cond.instanceMethod yX2_forcedHead, Cond.selects RX2 yX2_forcedHead yX2_forcedHead, Cond.code yX2_forcedHead cX2_forcedHead 3 (some .int), Cond.methodLink RX0 38 yX5_ofArc, Cond.instanceMethod yX5_ofArc, Cond.selects RX5 yX5_ofArc yX5_ofArc, Cond.initialized RX5, Cond.code yX5_ofArc cX5_ofArc 4 (some .int), Cond.methodLink RX5 46 yX2_byKinds, Cond.instanceMethod yX2_byKinds, Cond.selects RX2 yX2_byKinds yX2_byKinds, Cond.code yX2_byKinds cX2_byKinds 3 (some .int)]
def wsX6_bestKey_r3 : List Cond := [Cond.methodLink RX2 37 yX2_kindAt, Cond.instanceMethod yX2_kindAt, Cond.selects RX2 yX2_kindAt yX2_kindAt, Cond.code yX2_kindAt cX2_kindAt 2 (some .int), Cond.fieldLink RX2 9 "ArcLight$Sentence" "kinds" "[I", Cond.methodLink RX5 52 yX5_get, Cond.instanceMethod yX5_get, Cond.selects RX5 yX5_get yX5_get, Cond.code yX5_get cX5_get 2 (some .int), Cond.fieldLink RX5 9 "ArcLight$Weights" "now" "[I", Cond.methodLink RX5 42 yX5_isFeature, Cond.static yX5_isFeature, Cond.code yX5_isFeature cX5_isFeature 1 (some .boolean), Cond.static yX6_byDistance, Cond.code yX6_byDistance cX6_byDistance 3 (some .int), Cond.methodLink RX6 246 Lib.Math.abs.name, Cond.static Lib.Math.abs.name, Cond.code Lib.Math.abs.name Lib.Math.abs.code 1 (some .int), Cond.methodLink RX6 249 Lib.Math.min.name, Cond.methodLink RX6 222 yX1_greatest, Cond.instanceMethod yX1_greatest, Cond.selects RX1 yX1_greatest yX1_greatest, Cond.initialized RX1, Cond.code yX1_greatest cX1_greatest 8 (some .long)]
def wsX6_bestKey_r4 : List Cond := [Cond.methodLink RX1 36 Lib.Math.min.name, Cond.fieldLink RX1 26 "ArcLight$Circles" "nodes" "I", Cond.fieldLink RX1 11 "ArcLight$Circles" "keys" "[[J", Cond.constantLong RX1 50 (-9223372036854775808), Cond.methodLink RX1 30 yX0_size, Cond.instanceMethod yX0_size, Cond.selects RX0 yX0_size yX0_size, Cond.code yX0_size cX0_size 1 (some .int), Cond.methodLink RX1 42 yX0_get, Cond.instanceMethod yX0_get, Cond.selects RX0 yX0_get yX0_get, Cond.code yX0_get cX0_get 3 (some .long), Cond.methodLink RX1 46 yX1_takeGreatest, Cond.instanceMethod yX1_takeGreatest, Cond.selects RX1 yX1_takeGreatest yX1_takeGreatest, Cond.code yX1_takeGreatest cX1_takeGreatest 5 (some .long), Cond.fieldLink RX1 19 "ArcLight$Circles" "taken" "[I", Cond.methodLink RX1 59 yX1_takenKey, Cond.instanceMethod yX1_takenKey, Cond.selects RX1 yX1_takenKey yX1_takenKey, Cond.code yX1_takenKey cX1_takenKey 3 (some .long), Cond.methodLink RX1 63 yX1_takenHead, Cond.instanceMethod yX1_takenHead, Cond.selects RX1 yX1_takenHead yX1_takenHead]
def wsX6_bestKey_r5 : List Cond := [Cond.code yX1_takenHead cX1_takenHead 2 (some .int), Cond.methodLink RX1 52 yX1_findCircle, Cond.instanceMethod yX1_findCircle, Cond.selects RX1 yX1_findCircle yX1_findCircle, Cond.code yX1_findCircle cX1_findCircle 4 (some .int), Cond.methodLink RX1 55 yX1_contract, Cond.instanceMethod yX1_contract, Cond.selects RX1 yX1_contract yX1_contract, Cond.code yX1_contract cX1_contract 7 none, Cond.fieldLink RX1 16 "ArcLight$Circles" "contracted" "[[J", Cond.fieldLink RX1 23 "ArcLight$Circles" "groups" "[I", Cond.methodLink RX1 71 yX1_groupNodes, Cond.instanceMethod yX1_groupNodes, Cond.selects RX1 yX1_groupNodes yX1_groupNodes, Cond.code yX1_groupNodes cX1_groupNodes 5 (some .int), Cond.methodLink RX1 84 yJ7_fill_53178, Cond.static yJ7_fill_53178, Cond.initialized RJ7, Cond.code yJ7_fill_53178 cJ7_fill_53178 4 none, Cond.methodLink RX1 74 yJ7_fill_d0a16, Cond.static yJ7_fill_d0a16, Cond.code yJ7_fill_d0a16 cJ7_fill_d0a16 5 none, Cond.methodLink RX1 80 yX1_offer, Cond.instanceMethod yX1_offer]
def wsX6_bestKey_r6 : List Cond := [Cond.selects RX1 yX1_offer yX1_offer, Cond.code yX1_offer cX1_offer 5 none, Cond.methodLink RX6 225 yX3_greatest, Cond.instanceMethod yX3_greatest, Cond.selects RX3 yX3_greatest yX3_greatest, Cond.initialized RX3, Cond.code yX3_greatest cX3_greatest 5 (some .long), Cond.methodLink RX3 31 Lib.Math.min.name, Cond.fieldLink RX3 11 "ArcLight$Spans" "wholeFromLeft" "[[J", Cond.fieldLink RX3 16 "ArcLight$Spans" "wholeFromRight" "[[J", Cond.constantLong RX3 45 (-9223372036854775808), Cond.methodLink RX3 25 yX0_size, Cond.methodLink RX3 37 yX3_fillOpen, Cond.instanceMethod yX3_fillOpen, Cond.selects RX3 yX3_fillOpen yX3_fillOpen, Cond.code yX3_fillOpen cX3_fillOpen 7 none, Cond.methodLink RX3 55 Lib.MathLoose.max_long.x, Cond.static Lib.MathLoose.max_long.x, Cond.code Lib.MathLoose.max_long.x Lib.MathLoose.max_long.code 4 (some .long), Cond.fieldLink RX3 19 "ArcLight$Spans" "openFromLeft" "[[J", Cond.fieldLink RX3 22 "ArcLight$Spans" "openFromRight" "[[J", Cond.methodLink RX3 51 yX3_join, Cond.static yX3_join, Cond.code yX3_join cX3_join 4 (some .long)]
def wsX6_bestKey_r7 : List Cond := [Cond.methodLink RX3 58 yX0_get, Cond.methodLink RX3 41 yX3_fillWhole, Cond.instanceMethod yX3_fillWhole, Cond.selects RX3 yX3_fillWhole yX3_fillWhole, Cond.code yX3_fillWhole cX3_fillWhole 8 none, Cond.methodLink RX6 147 yX6_checkTree, Cond.static yX6_checkTree, Cond.code yX6_checkTree cX6_checkTree 2 none, Cond.classLink RX6 54 "java/lang/IllegalStateException", Cond.initialized "java/lang/IllegalStateException", Cond.constantLong RX6 210 (-9223372036854775808)]
def wsX6_bestKey : List Cond := .code yX6_bestKey cX6_bestKey 5 (some .long) :: ((wsX6_bestKey_r1 ++ (wsX6_bestKey_r2 ++ (wsX6_bestKey_r3 ++ (wsX6_bestKey_r4 ++ (wsX6_bestKey_r5 ++ (wsX6_bestKey_r6 ++ wsX6_bestKey_r7)))))) ++ wsX60 ++ wsX00 ++ wsX20 ++ wsX50 ++ wsX10 ++ wsX30 ++ (vx_atS RX6 58 "java/lang/IllegalStateException" ["java/lang/RuntimeException", "java/lang/Exception"]).filter goodWord)
def wsJ9_floorMod_f86c9 : List Cond := .code yJ9_floorMod_f86c9 cJ9_floorMod_f86c9 6 (some .long) :: ([])
def wsX6_rowOfHeads : List Cond := .code yX6_rowOfHeads cX6_rowOfHeads 2 (some .long) :: ([.constantLong RX6 232 (117649), .methodLink RX6 234 yJ9_floorMod_f86c9, .static yJ9_floorMod_f86c9, .initialized RJ9, .code yJ9_floorMod_f86c9 cJ9_floorMod_f86c9 6 (some .long)])
def wsX6_scoreIn : List Cond := .code yX6_scoreIn cX6_scoreIn 2 (some .int) :: ([.constantLong RX6 232 (117649), .methodLink RX6 240 yX6_rowOfHeads, .static yX6_rowOfHeads, .initialized RX6, .code yX6_rowOfHeads cX6_rowOfHeads 2 (some .long), .methodLink RX6 234 yJ9_floorMod_f86c9, .static yJ9_floorMod_f86c9, .initialized RJ9, .code yJ9_floorMod_f86c9 cJ9_floorMod_f86c9 6 (some .long)])
def wsX6_best_r1 : List Cond := [Cond.methodLink RX6 62 yX6_find, Cond.instanceMethod yX6_find, Cond.selects RX6 yX6_find yX6_find, Cond.initialized RX6, Cond.code yX6_find cX6_find 3 (some (.object "ArcLight$Sentence")), Cond.classLink RX6 197 "java/lang/IndexOutOfBoundsException", Cond.initialized "java/lang/IndexOutOfBoundsException", Cond.fieldLink RX6 11 "ArcLight" "all" "[LArcLight$Sentence;", Cond.methodLink RX6 135 yX6_bestKey, Cond.instanceMethod yX6_bestKey, Cond.selects RX6 yX6_bestKey yX6_bestKey, Cond.code yX6_bestKey cX6_bestKey 5 (some .long), Cond.fieldLink RX6 29 "ArcLight" "arcs" "LArcLight$ArcKeys;", Cond.fieldLink RX6 22 "ArcLight" "weights" "LArcLight$Weights;", Cond.fieldLink RX6 43 "ArcLight" "circles" "LArcLight$Circles;", Cond.fieldLink RX6 36 "ArcLight" "spans" "LArcLight$Spans;", Cond.methodLink RX6 214 yX0_fill, Cond.instanceMethod yX0_fill, Cond.selects RX0 yX0_fill yX0_fill, Cond.initialized RX0, Cond.code yX0_fill cX0_fill 5 none, Cond.methodLink RX0 26 Lib.Math.min.name, Cond.static Lib.Math.min.name, Cond.initialized "java/lang/Math"]
def wsX6_best_r2 : List Cond := [Cond.code Lib.Math.min.name Lib.Math.min.code 2 (some .int), Cond.fieldLink RX0 16 "ArcLight$ArcKeys" "last" "I", Cond.fieldLink RX0 11 "ArcLight$ArcKeys" "keys" "[[J", Cond.constantLong RX0 32 (-9223372036854775808), Cond.constantLong RX0 44 (117649), Cond.methodLink RX0 20 yX2_size, Cond.instanceMethod yX2_size, Cond.selects RX2 yX2_size yX2_size, Cond.initialized RX2, Cond.code yX2_size cX2_size 1 (some .int), Cond.fieldLink RX2 23 "ArcLight$Sentence" "last" "I", Cond.methodLink RX0 34 yX2_allows, Cond.instanceMethod yX2_allows, Cond.selects RX2 yX2_allows yX2_allows, Cond.code yX2_allows cX2_allows 4 (some .boolean), Cond.methodLink RX2 41 yX2_markOf, Cond.instanceMethod yX2_markOf, Cond.selects RX2 yX2_markOf yX2_markOf, Cond.code yX2_markOf cX2_markOf 3 (some .int), Cond.fieldLink RX2 20 "ArcLight$Sentence" "marks" "[[I", Cond.static yX6_isPlace, Cond.code yX6_isPlace cX6_isPlace 1 (some .boolean), Cond.methodLink RX2 45 yX2_forcedHead, Cond.instanceMethod yX2_forcedHead]
def wsX6_best_r3 : List Cond := [Cond.selects RX2 yX2_forcedHead yX2_forcedHead, Cond.code yX2_forcedHead cX2_forcedHead 3 (some .int), Cond.methodLink RX0 38 yX5_ofArc, Cond.instanceMethod yX5_ofArc, Cond.selects RX5 yX5_ofArc yX5_ofArc, Cond.initialized RX5, Cond.code yX5_ofArc cX5_ofArc 4 (some .int), Cond.methodLink RX5 46 yX2_byKinds, Cond.instanceMethod yX2_byKinds, Cond.selects RX2 yX2_byKinds yX2_byKinds, Cond.code yX2_byKinds cX2_byKinds 3 (some .int), Cond.methodLink RX2 37 yX2_kindAt, Cond.instanceMethod yX2_kindAt, Cond.selects RX2 yX2_kindAt yX2_kindAt, Cond.code yX2_kindAt cX2_kindAt 2 (some .int), Cond.fieldLink RX2 9 "ArcLight$Sentence" "kinds" "[I", Cond.methodLink RX5 52 yX5_get, Cond.instanceMethod yX5_get, Cond.selects RX5 yX5_get yX5_get, Cond.code yX5_get cX5_get 2 (some .int), Cond.fieldLink RX5 9 "ArcLight$Weights" "now" "[I", Cond.methodLink RX5 42 yX5_isFeature, Cond.static yX5_isFeature, Cond.code yX5_isFeature cX5_isFeature 1 (some .boolean)]
def wsX6_best_r4 : List Cond := [Cond.static yX6_byDistance, Cond.code yX6_byDistance cX6_byDistance 3 (some .int), Cond.methodLink RX6 246 Lib.Math.abs.name, Cond.static Lib.Math.abs.name, Cond.code Lib.Math.abs.name Lib.Math.abs.code 1 (some .int), Cond.methodLink RX6 249 Lib.Math.min.name, Cond.methodLink RX6 222 yX1_greatest, Cond.instanceMethod yX1_greatest, Cond.selects RX1 yX1_greatest yX1_greatest, Cond.initialized RX1, Cond.code yX1_greatest cX1_greatest 8 (some .long), Cond.methodLink RX1 36 Lib.Math.min.name, Cond.fieldLink RX1 26 "ArcLight$Circles" "nodes" "I", Cond.fieldLink RX1 11 "ArcLight$Circles" "keys" "[[J", Cond.constantLong RX1 50 (-9223372036854775808), Cond.methodLink RX1 30 yX0_size, Cond.instanceMethod yX0_size, Cond.selects RX0 yX0_size yX0_size, Cond.code yX0_size cX0_size 1 (some .int), Cond.methodLink RX1 42 yX0_get, Cond.instanceMethod yX0_get, Cond.selects RX0 yX0_get yX0_get, Cond.code yX0_get cX0_get 3 (some .long), Cond.methodLink RX1 46 yX1_takeGreatest]
def wsX6_best_r5 : List Cond := [Cond.instanceMethod yX1_takeGreatest, Cond.selects RX1 yX1_takeGreatest yX1_takeGreatest, Cond.code yX1_takeGreatest cX1_takeGreatest 5 (some .long), Cond.fieldLink RX1 19 "ArcLight$Circles" "taken" "[I", Cond.methodLink RX1 59 yX1_takenKey, Cond.instanceMethod yX1_takenKey, Cond.selects RX1 yX1_takenKey yX1_takenKey, Cond.code yX1_takenKey cX1_takenKey 3 (some .long), Cond.methodLink RX1 63 yX1_takenHead, Cond.instanceMethod yX1_takenHead, Cond.selects RX1 yX1_takenHead yX1_takenHead, Cond.code yX1_takenHead cX1_takenHead 2 (some .int), Cond.methodLink RX1 52 yX1_findCircle, Cond.instanceMethod yX1_findCircle, Cond.selects RX1 yX1_findCircle yX1_findCircle, Cond.code yX1_findCircle cX1_findCircle 4 (some .int), Cond.methodLink RX1 55 yX1_contract, Cond.instanceMethod yX1_contract, Cond.selects RX1 yX1_contract yX1_contract, Cond.code yX1_contract cX1_contract 7 none, Cond.fieldLink RX1 16 "ArcLight$Circles" "contracted" "[[J", Cond.fieldLink RX1 23 "ArcLight$Circles" "groups" "[I", Cond.methodLink RX1 71 yX1_groupNodes, Cond.instanceMethod yX1_groupNodes]
def wsX6_best_r6 : List Cond := [Cond.selects RX1 yX1_groupNodes yX1_groupNodes, Cond.code yX1_groupNodes cX1_groupNodes 5 (some .int), Cond.methodLink RX1 84 yJ7_fill_53178, Cond.static yJ7_fill_53178, Cond.initialized RJ7, Cond.code yJ7_fill_53178 cJ7_fill_53178 4 none, Cond.methodLink RX1 74 yJ7_fill_d0a16, Cond.static yJ7_fill_d0a16, Cond.code yJ7_fill_d0a16 cJ7_fill_d0a16 5 none, Cond.methodLink RX1 80 yX1_offer, Cond.instanceMethod yX1_offer, Cond.selects RX1 yX1_offer yX1_offer, Cond.code yX1_offer cX1_offer 5 none, Cond.methodLink RX6 225 yX3_greatest, Cond.instanceMethod yX3_greatest, Cond.selects RX3 yX3_greatest yX3_greatest, Cond.initialized RX3, Cond.code yX3_greatest cX3_greatest 5 (some .long), Cond.methodLink RX3 31 Lib.Math.min.name, Cond.fieldLink RX3 11 "ArcLight$Spans" "wholeFromLeft" "[[J", Cond.fieldLink RX3 16 "ArcLight$Spans" "wholeFromRight" "[[J", Cond.constantLong RX3 45 (-9223372036854775808), Cond.methodLink RX3 25 yX0_size, Cond.methodLink RX3 37 yX3_fillOpen]
def wsX6_best_r7 : List Cond := [Cond.instanceMethod yX3_fillOpen, Cond.selects RX3 yX3_fillOpen yX3_fillOpen, Cond.code yX3_fillOpen cX3_fillOpen 7 none, Cond.methodLink RX3 55 Lib.MathLoose.max_long.x, Cond.static Lib.MathLoose.max_long.x, Cond.code Lib.MathLoose.max_long.x Lib.MathLoose.max_long.code 4 (some .long), Cond.fieldLink RX3 19 "ArcLight$Spans" "openFromLeft" "[[J", Cond.fieldLink RX3 22 "ArcLight$Spans" "openFromRight" "[[J", Cond.methodLink RX3 51 yX3_join, Cond.static yX3_join, Cond.code yX3_join cX3_join 4 (some .long), Cond.methodLink RX3 58 yX0_get, Cond.methodLink RX3 41 yX3_fillWhole, Cond.instanceMethod yX3_fillWhole, Cond.selects RX3 yX3_fillWhole yX3_fillWhole, Cond.code yX3_fillWhole cX3_fillWhole 8 none, Cond.methodLink RX6 147 yX6_checkTree, Cond.static yX6_checkTree, Cond.code yX6_checkTree cX6_checkTree 2 none, Cond.classLink RX6 54 "java/lang/IllegalStateException", Cond.initialized "java/lang/IllegalStateException", Cond.constantLong RX6 210 (-9223372036854775808), Cond.methodLink RX6 139 yX6_scoreIn, Cond.static yX6_scoreIn]
def wsX6_best_r8 : List Cond := [Cond.code yX6_scoreIn cX6_scoreIn 2 (some .int), Cond.constantLong RX6 232 (117649), Cond.methodLink RX6 240 yX6_rowOfHeads, Cond.static yX6_rowOfHeads, Cond.code yX6_rowOfHeads cX6_rowOfHeads 2 (some .long), Cond.methodLink RX6 234 yJ9_floorMod_f86c9, Cond.static yJ9_floorMod_f86c9, Cond.initialized RJ9, Cond.code yJ9_floorMod_f86c9 cJ9_floorMod_f86c9 6 (some .long)]
def wsX6_best : List Cond := .code yX6_best cX6_best 3 (some .int) :: ((wsX6_best_r1 ++ (wsX6_best_r2 ++ (wsX6_best_r3 ++ (wsX6_best_r4 ++ (wsX6_best_r5 ++ (wsX6_best_r6 ++ (wsX6_best_r7 ++ wsX6_best_r8))))))) ++ wsX60 ++ wsX00 ++ wsX20 ++ wsX50 ++ wsX10 ++ wsX30 ++ (vx_atS RX6 201 "java/lang/IndexOutOfBoundsException" ["java/lang/RuntimeException", "java/lang/Exception"]).filter goodWord ++ (vx_atS RX6 58 "java/lang/IllegalStateException" ["java/lang/RuntimeException", "java/lang/Exception"]).filter goodWord)
def wsX6_bestByTrying_r1 : List Cond := [Cond.methodLink RX6 62 yX6_find, Cond.instanceMethod yX6_find, Cond.selects RX6 yX6_find yX6_find, Cond.initialized RX6, Cond.code yX6_find cX6_find 3 (some (.object "ArcLight$Sentence")), Cond.classLink RX6 197 "java/lang/IndexOutOfBoundsException", Cond.initialized "java/lang/IndexOutOfBoundsException", Cond.fieldLink RX6 11 "ArcLight" "all" "[LArcLight$Sentence;", Cond.methodLink RX6 130 yX6_tryAll, Cond.instanceMethod yX6_tryAll, Cond.selects RX6 yX6_tryAll yX6_tryAll, Cond.code yX6_tryAll cX6_tryAll 3 (some (.object "ArcLight$Trial")), Cond.fieldLink RX6 29 "ArcLight" "arcs" "LArcLight$ArcKeys;", Cond.fieldLink RX6 22 "ArcLight" "weights" "LArcLight$Weights;", Cond.fieldLink RX6 50 "ArcLight" "trial" "LArcLight$Trial;", Cond.methodLink RX6 214 yX0_fill, Cond.instanceMethod yX0_fill, Cond.selects RX0 yX0_fill yX0_fill, Cond.initialized RX0, Cond.code yX0_fill cX0_fill 5 none, Cond.methodLink RX0 26 Lib.Math.min.name, Cond.static Lib.Math.min.name, Cond.initialized "java/lang/Math", Cond.code Lib.Math.min.name Lib.Math.min.code 2 (some .int)]
def wsX6_bestByTrying_r2 : List Cond := [Cond.fieldLink RX0 16 "ArcLight$ArcKeys" "last" "I", Cond.fieldLink RX0 11 "ArcLight$ArcKeys" "keys" "[[J", Cond.constantLong RX0 32 (-9223372036854775808), Cond.constantLong RX0 44 (117649), Cond.methodLink RX0 20 yX2_size, Cond.instanceMethod yX2_size, Cond.selects RX2 yX2_size yX2_size, Cond.initialized RX2, Cond.code yX2_size cX2_size 1 (some .int), Cond.fieldLink RX2 23 "ArcLight$Sentence" "last" "I", Cond.methodLink RX0 34 yX2_allows, Cond.instanceMethod yX2_allows, Cond.selects RX2 yX2_allows yX2_allows, Cond.code yX2_allows cX2_allows 4 (some .boolean), Cond.methodLink RX2 41 yX2_markOf, Cond.instanceMethod yX2_markOf, Cond.selects RX2 yX2_markOf yX2_markOf, Cond.code yX2_markOf cX2_markOf 3 (some .int), Cond.fieldLink RX2 20 "ArcLight$Sentence" "marks" "[[I", Cond.static yX6_isPlace, Cond.code yX6_isPlace cX6_isPlace 1 (some .boolean), Cond.methodLink RX2 45 yX2_forcedHead, Cond.instanceMethod yX2_forcedHead, Cond.selects RX2 yX2_forcedHead yX2_forcedHead]
def wsX6_bestByTrying_r3 : List Cond := [Cond.code yX2_forcedHead cX2_forcedHead 3 (some .int), Cond.methodLink RX0 38 yX5_ofArc, Cond.instanceMethod yX5_ofArc, Cond.selects RX5 yX5_ofArc yX5_ofArc, Cond.initialized RX5, Cond.code yX5_ofArc cX5_ofArc 4 (some .int), Cond.methodLink RX5 46 yX2_byKinds, Cond.instanceMethod yX2_byKinds, Cond.selects RX2 yX2_byKinds yX2_byKinds, Cond.code yX2_byKinds cX2_byKinds 3 (some .int), Cond.methodLink RX2 37 yX2_kindAt, Cond.instanceMethod yX2_kindAt, Cond.selects RX2 yX2_kindAt yX2_kindAt, Cond.code yX2_kindAt cX2_kindAt 2 (some .int), Cond.fieldLink RX2 9 "ArcLight$Sentence" "kinds" "[I", Cond.methodLink RX5 52 yX5_get, Cond.instanceMethod yX5_get, Cond.selects RX5 yX5_get yX5_get, Cond.code yX5_get cX5_get 2 (some .int), Cond.fieldLink RX5 9 "ArcLight$Weights" "now" "[I", Cond.methodLink RX5 42 yX5_isFeature, Cond.static yX5_isFeature, Cond.code yX5_isFeature cX5_isFeature 1 (some .boolean), Cond.static yX6_byDistance]
def wsX6_bestByTrying_r4 : List Cond := [Cond.code yX6_byDistance cX6_byDistance 3 (some .int), Cond.methodLink RX6 246 Lib.Math.abs.name, Cond.static Lib.Math.abs.name, Cond.code Lib.Math.abs.name Lib.Math.abs.code 1 (some .int), Cond.methodLink RX6 249 Lib.Math.min.name, Cond.methodLink RX6 218 yX4_run, Cond.instanceMethod yX4_run, Cond.selects RX4 yX4_run yX4_run, Cond.initialized RX4, Cond.code yX4_run cX4_run 3 none, Cond.fieldLink RX4 19 "ArcLight$Trial" "found" "I", Cond.methodLink RX4 23 yX4_giveHeads, Cond.static yX4_giveHeads, Cond.code yX4_giveHeads cX4_giveHeads 9 none, Cond.constantLong RX4 27 (-9223372036854775808), Cond.fieldLink RX4 15 "ArcLight$Trial" "heads" "[I", Cond.methodLink RX4 52 yX0_size, Cond.instanceMethod yX0_size, Cond.selects RX0 yX0_size yX0_size, Cond.code yX0_size cX0_size 1 (some .int), Cond.methodLink RX4 58 yX4_note, Cond.instanceMethod yX4_note, Cond.selects RX4 yX4_note yX4_note, Cond.code yX4_note cX4_note 3 none]
def wsX6_bestByTrying_r5 : List Cond := [Cond.fieldLink RX4 9 "ArcLight$Trial" "keys" "[J", Cond.methodLink RX4 62 yX0_get, Cond.instanceMethod yX0_get, Cond.selects RX0 yX0_get yX0_get, Cond.code yX0_get cX0_get 3 (some .long), Cond.methodLink RX4 66 yX4_closesCircle, Cond.instanceMethod yX4_closesCircle, Cond.selects RX4 yX4_closesCircle yX4_closesCircle, Cond.code yX4_closesCircle cX4_closesCircle 5 (some .boolean), Cond.methodLink RX4 70 yX4_crossesEarlier, Cond.instanceMethod yX4_crossesEarlier, Cond.selects RX4 yX4_crossesEarlier yX4_crossesEarlier, Cond.code yX4_crossesEarlier cX4_crossesEarlier 4 (some .boolean), Cond.static yX6_doCross, Cond.code yX6_doCross cX6_doCross 8 (some .boolean), Cond.methodLink RX6 252 Lib.Math.max.name, Cond.static Lib.Math.max.name, Cond.code Lib.Math.max.name Lib.Math.max.code 2 (some .int), Cond.methodLink RX6 143 yX4_greatest, Cond.instanceMethod yX4_greatest, Cond.selects RX4 yX4_greatest yX4_greatest, Cond.code yX4_greatest cX4_greatest 4 (some .long), Cond.methodLink RX4 29 Lib.MathLoose.max_long.x, Cond.static Lib.MathLoose.max_long.x]
def wsX6_bestByTrying_r6 : List Cond := [Cond.code Lib.MathLoose.max_long.x Lib.MathLoose.max_long.code 4 (some .long), Cond.methodLink RX6 147 yX6_checkTree, Cond.static yX6_checkTree, Cond.code yX6_checkTree cX6_checkTree 2 none, Cond.classLink RX6 54 "java/lang/IllegalStateException", Cond.initialized "java/lang/IllegalStateException", Cond.constantLong RX6 210 (-9223372036854775808), Cond.methodLink RX6 139 yX6_scoreIn, Cond.static yX6_scoreIn, Cond.code yX6_scoreIn cX6_scoreIn 2 (some .int), Cond.constantLong RX6 232 (117649), Cond.methodLink RX6 240 yX6_rowOfHeads, Cond.static yX6_rowOfHeads, Cond.code yX6_rowOfHeads cX6_rowOfHeads 2 (some .long), Cond.methodLink RX6 234 yJ9_floorMod_f86c9, Cond.static yJ9_floorMod_f86c9, Cond.initialized RJ9, Cond.code yJ9_floorMod_f86c9 cJ9_floorMod_f86c9 6 (some .long)]
def wsX6_bestByTrying : List Cond := .code yX6_bestByTrying cX6_bestByTrying 5 (some .int) :: ((wsX6_bestByTrying_r1 ++ (wsX6_bestByTrying_r2 ++ (wsX6_bestByTrying_r3 ++ (wsX6_bestByTrying_r4 ++ (wsX6_bestByTrying_r5 ++ wsX6_bestByTrying_r6))))) ++ wsX60 ++ wsX00 ++ wsX20 ++ wsX50 ++ wsX40 ++ (vx_atS RX6 201 "java/lang/IndexOutOfBoundsException" ["java/lang/RuntimeException", "java/lang/Exception"]).filter goodWord ++ (vx_atS RX6 58 "java/lang/IllegalStateException" ["java/lang/RuntimeException", "java/lang/Exception"]).filter goodWord)
def wsX6_headIn : List Cond := .code yX6_headIn cX6_headIn 6 (some .int) :: ([.constantLong RX6 244 (7), .methodLink RX6 240 yX6_rowOfHeads, .static yX6_rowOfHeads, .initialized RX6, .code yX6_rowOfHeads cX6_rowOfHeads 2 (some .long), .constantLong RX6 232 (117649), .methodLink RX6 234 yJ9_floorMod_f86c9, .static yJ9_floorMod_f86c9, .initialized RJ9, .code yJ9_floorMod_f86c9 cJ9_floorMod_f86c9 6 (some .long)])
def wsX6_head_r1 : List Cond := [Cond.methodLink RX6 62 yX6_find, Cond.instanceMethod yX6_find, Cond.selects RX6 yX6_find yX6_find, Cond.initialized RX6, Cond.code yX6_find cX6_find 3 (some (.object "ArcLight$Sentence")), Cond.classLink RX6 197 "java/lang/IndexOutOfBoundsException", Cond.initialized "java/lang/IndexOutOfBoundsException", Cond.fieldLink RX6 11 "ArcLight" "all" "[LArcLight$Sentence;", Cond.methodLink RX6 81 yX6_checkWord, Cond.static yX6_checkWord, Cond.code yX6_checkWord cX6_checkWord 2 none, Cond.methodLink RX6 71 yX2_size, Cond.instanceMethod yX2_size, Cond.selects RX2 yX2_size yX2_size, Cond.initialized RX2, Cond.code yX2_size cX2_size 1 (some .int), Cond.fieldLink RX2 23 "ArcLight$Sentence" "last" "I", Cond.methodLink RX6 135 yX6_bestKey, Cond.instanceMethod yX6_bestKey, Cond.selects RX6 yX6_bestKey yX6_bestKey, Cond.code yX6_bestKey cX6_bestKey 5 (some .long), Cond.fieldLink RX6 29 "ArcLight" "arcs" "LArcLight$ArcKeys;", Cond.fieldLink RX6 22 "ArcLight" "weights" "LArcLight$Weights;", Cond.fieldLink RX6 43 "ArcLight" "circles" "LArcLight$Circles;"]
def wsX6_head_r2 : List Cond := [Cond.fieldLink RX6 36 "ArcLight" "spans" "LArcLight$Spans;", Cond.methodLink RX6 214 yX0_fill, Cond.instanceMethod yX0_fill, Cond.selects RX0 yX0_fill yX0_fill, Cond.initialized RX0, Cond.code yX0_fill cX0_fill 5 none, Cond.methodLink RX0 26 Lib.Math.min.name, Cond.static Lib.Math.min.name, Cond.initialized "java/lang/Math", Cond.code Lib.Math.min.name Lib.Math.min.code 2 (some .int), Cond.fieldLink RX0 16 "ArcLight$ArcKeys" "last" "I", Cond.fieldLink RX0 11 "ArcLight$ArcKeys" "keys" "[[J", Cond.constantLong RX0 32 (-9223372036854775808), Cond.constantLong RX0 44 (117649), Cond.methodLink RX0 20 yX2_size, Cond.methodLink RX0 34 yX2_allows, Cond.instanceMethod yX2_allows, Cond.selects RX2 yX2_allows yX2_allows, Cond.code yX2_allows cX2_allows 4 (some .boolean), Cond.methodLink RX2 41 yX2_markOf, Cond.instanceMethod yX2_markOf, Cond.selects RX2 yX2_markOf yX2_markOf, Cond.code yX2_markOf cX2_markOf 3 (some .int), Cond.fieldLink RX2 20 "ArcLight$Sentence" "marks" "[[I"]
def wsX6_head_r3 : List Cond := [Cond.static yX6_isPlace, Cond.code yX6_isPlace cX6_isPlace 1 (some .boolean), Cond.methodLink RX2 45 yX2_forcedHead, Cond.instanceMethod yX2_forcedHead, Cond.selects RX2 yX2_forcedHead yX2_forcedHead, Cond.code yX2_forcedHead cX2_forcedHead 3 (some .int), Cond.methodLink RX0 38 yX5_ofArc, Cond.instanceMethod yX5_ofArc, Cond.selects RX5 yX5_ofArc yX5_ofArc, Cond.initialized RX5, Cond.code yX5_ofArc cX5_ofArc 4 (some .int), Cond.methodLink RX5 46 yX2_byKinds, Cond.instanceMethod yX2_byKinds, Cond.selects RX2 yX2_byKinds yX2_byKinds, Cond.code yX2_byKinds cX2_byKinds 3 (some .int), Cond.methodLink RX2 37 yX2_kindAt, Cond.instanceMethod yX2_kindAt, Cond.selects RX2 yX2_kindAt yX2_kindAt, Cond.code yX2_kindAt cX2_kindAt 2 (some .int), Cond.fieldLink RX2 9 "ArcLight$Sentence" "kinds" "[I", Cond.methodLink RX5 52 yX5_get, Cond.instanceMethod yX5_get, Cond.selects RX5 yX5_get yX5_get, Cond.code yX5_get cX5_get 2 (some .int)]
def wsX6_head_r4 : List Cond := [Cond.fieldLink RX5 9 "ArcLight$Weights" "now" "[I", Cond.methodLink RX5 42 yX5_isFeature, Cond.static yX5_isFeature, Cond.code yX5_isFeature cX5_isFeature 1 (some .boolean), Cond.static yX6_byDistance, Cond.code yX6_byDistance cX6_byDistance 3 (some .int), Cond.methodLink RX6 246 Lib.Math.abs.name, Cond.static Lib.Math.abs.name, Cond.code Lib.Math.abs.name Lib.Math.abs.code 1 (some .int), Cond.methodLink RX6 249 Lib.Math.min.name, Cond.methodLink RX6 222 yX1_greatest, Cond.instanceMethod yX1_greatest, Cond.selects RX1 yX1_greatest yX1_greatest, Cond.initialized RX1, Cond.code yX1_greatest cX1_greatest 8 (some .long), Cond.methodLink RX1 36 Lib.Math.min.name, Cond.fieldLink RX1 26 "ArcLight$Circles" "nodes" "I", Cond.fieldLink RX1 11 "ArcLight$Circles" "keys" "[[J", Cond.constantLong RX1 50 (-9223372036854775808), Cond.methodLink RX1 30 yX0_size, Cond.instanceMethod yX0_size, Cond.selects RX0 yX0_size yX0_size, Cond.code yX0_size cX0_size 1 (some .int), Cond.methodLink RX1 42 yX0_get]
def wsX6_head_r5 : List Cond := [Cond.instanceMethod yX0_get, Cond.selects RX0 yX0_get yX0_get, Cond.code yX0_get cX0_get 3 (some .long), Cond.methodLink RX1 46 yX1_takeGreatest, Cond.instanceMethod yX1_takeGreatest, Cond.selects RX1 yX1_takeGreatest yX1_takeGreatest, Cond.code yX1_takeGreatest cX1_takeGreatest 5 (some .long), Cond.fieldLink RX1 19 "ArcLight$Circles" "taken" "[I", Cond.methodLink RX1 59 yX1_takenKey, Cond.instanceMethod yX1_takenKey, Cond.selects RX1 yX1_takenKey yX1_takenKey, Cond.code yX1_takenKey cX1_takenKey 3 (some .long), Cond.methodLink RX1 63 yX1_takenHead, Cond.instanceMethod yX1_takenHead, Cond.selects RX1 yX1_takenHead yX1_takenHead, Cond.code yX1_takenHead cX1_takenHead 2 (some .int), Cond.methodLink RX1 52 yX1_findCircle, Cond.instanceMethod yX1_findCircle, Cond.selects RX1 yX1_findCircle yX1_findCircle, Cond.code yX1_findCircle cX1_findCircle 4 (some .int), Cond.methodLink RX1 55 yX1_contract, Cond.instanceMethod yX1_contract, Cond.selects RX1 yX1_contract yX1_contract, Cond.code yX1_contract cX1_contract 7 none]
def wsX6_head_r6 : List Cond := [Cond.fieldLink RX1 16 "ArcLight$Circles" "contracted" "[[J", Cond.fieldLink RX1 23 "ArcLight$Circles" "groups" "[I", Cond.methodLink RX1 71 yX1_groupNodes, Cond.instanceMethod yX1_groupNodes, Cond.selects RX1 yX1_groupNodes yX1_groupNodes, Cond.code yX1_groupNodes cX1_groupNodes 5 (some .int), Cond.methodLink RX1 84 yJ7_fill_53178, Cond.static yJ7_fill_53178, Cond.initialized RJ7, Cond.code yJ7_fill_53178 cJ7_fill_53178 4 none, Cond.methodLink RX1 74 yJ7_fill_d0a16, Cond.static yJ7_fill_d0a16, Cond.code yJ7_fill_d0a16 cJ7_fill_d0a16 5 none, Cond.methodLink RX1 80 yX1_offer, Cond.instanceMethod yX1_offer, Cond.selects RX1 yX1_offer yX1_offer, Cond.code yX1_offer cX1_offer 5 none, Cond.methodLink RX6 225 yX3_greatest, Cond.instanceMethod yX3_greatest, Cond.selects RX3 yX3_greatest yX3_greatest, Cond.initialized RX3, Cond.code yX3_greatest cX3_greatest 5 (some .long), Cond.methodLink RX3 31 Lib.Math.min.name, Cond.fieldLink RX3 11 "ArcLight$Spans" "wholeFromLeft" "[[J"]
def wsX6_head_r7 : List Cond := [Cond.fieldLink RX3 16 "ArcLight$Spans" "wholeFromRight" "[[J", Cond.constantLong RX3 45 (-9223372036854775808), Cond.methodLink RX3 25 yX0_size, Cond.methodLink RX3 37 yX3_fillOpen, Cond.instanceMethod yX3_fillOpen, Cond.selects RX3 yX3_fillOpen yX3_fillOpen, Cond.code yX3_fillOpen cX3_fillOpen 7 none, Cond.methodLink RX3 55 Lib.MathLoose.max_long.x, Cond.static Lib.MathLoose.max_long.x, Cond.code Lib.MathLoose.max_long.x Lib.MathLoose.max_long.code 4 (some .long), Cond.fieldLink RX3 19 "ArcLight$Spans" "openFromLeft" "[[J", Cond.fieldLink RX3 22 "ArcLight$Spans" "openFromRight" "[[J", Cond.methodLink RX3 51 yX3_join, Cond.static yX3_join, Cond.code yX3_join cX3_join 4 (some .long), Cond.methodLink RX3 58 yX0_get, Cond.methodLink RX3 41 yX3_fillWhole, Cond.instanceMethod yX3_fillWhole, Cond.selects RX3 yX3_fillWhole yX3_fillWhole, Cond.code yX3_fillWhole cX3_fillWhole 8 none, Cond.methodLink RX6 147 yX6_checkTree, Cond.static yX6_checkTree, Cond.code yX6_checkTree cX6_checkTree 2 none, Cond.classLink RX6 54 "java/lang/IllegalStateException"]
def wsX6_head_r8 : List Cond := [Cond.initialized "java/lang/IllegalStateException", Cond.constantLong RX6 210 (-9223372036854775808), Cond.methodLink RX6 151 yX6_headIn, Cond.static yX6_headIn, Cond.code yX6_headIn cX6_headIn 6 (some .int), Cond.constantLong RX6 244 (7), Cond.methodLink RX6 240 yX6_rowOfHeads, Cond.static yX6_rowOfHeads, Cond.code yX6_rowOfHeads cX6_rowOfHeads 2 (some .long), Cond.constantLong RX6 232 (117649), Cond.methodLink RX6 234 yJ9_floorMod_f86c9, Cond.static yJ9_floorMod_f86c9, Cond.initialized RJ9, Cond.code yJ9_floorMod_f86c9 cJ9_floorMod_f86c9 6 (some .long)]
def wsX6_head : List Cond := .code yX6_head cX6_head 5 (some .int) :: ((wsX6_head_r1 ++ (wsX6_head_r2 ++ (wsX6_head_r3 ++ (wsX6_head_r4 ++ (wsX6_head_r5 ++ (wsX6_head_r6 ++ (wsX6_head_r7 ++ wsX6_head_r8))))))) ++ wsX60 ++ wsX20 ++ wsX00 ++ wsX50 ++ wsX10 ++ wsX30 ++ (vx_atS RX6 201 "java/lang/IndexOutOfBoundsException" ["java/lang/RuntimeException", "java/lang/Exception"]).filter goodWord ++ (vx_atS RX6 58 "java/lang/IllegalStateException" ["java/lang/RuntimeException", "java/lang/Exception"]).filter goodWord)
def wsX6_crossings_r1 : List Cond := [Cond.methodLink RX6 62 yX6_find, Cond.instanceMethod yX6_find, Cond.selects RX6 yX6_find yX6_find, Cond.initialized RX6, Cond.code yX6_find cX6_find 3 (some (.object "ArcLight$Sentence")), Cond.classLink RX6 197 "java/lang/IndexOutOfBoundsException", Cond.initialized "java/lang/IndexOutOfBoundsException", Cond.fieldLink RX6 11 "ArcLight" "all" "[LArcLight$Sentence;", Cond.methodLink RX6 135 yX6_bestKey, Cond.instanceMethod yX6_bestKey, Cond.selects RX6 yX6_bestKey yX6_bestKey, Cond.code yX6_bestKey cX6_bestKey 5 (some .long), Cond.fieldLink RX6 29 "ArcLight" "arcs" "LArcLight$ArcKeys;", Cond.fieldLink RX6 22 "ArcLight" "weights" "LArcLight$Weights;", Cond.fieldLink RX6 43 "ArcLight" "circles" "LArcLight$Circles;", Cond.fieldLink RX6 36 "ArcLight" "spans" "LArcLight$Spans;", Cond.methodLink RX6 214 yX0_fill, Cond.instanceMethod yX0_fill, Cond.selects RX0 yX0_fill yX0_fill, Cond.initialized RX0, Cond.code yX0_fill cX0_fill 5 none, Cond.methodLink RX0 26 Lib.Math.min.name, Cond.static Lib.Math.min.name, Cond.initialized "java/lang/Math"]
def wsX6_crossings_r2 : List Cond := [Cond.code Lib.Math.min.name Lib.Math.min.code 2 (some .int), Cond.fieldLink RX0 16 "ArcLight$ArcKeys" "last" "I", Cond.fieldLink RX0 11 "ArcLight$ArcKeys" "keys" "[[J", Cond.constantLong RX0 32 (-9223372036854775808), Cond.constantLong RX0 44 (117649), Cond.methodLink RX0 20 yX2_size, Cond.instanceMethod yX2_size, Cond.selects RX2 yX2_size yX2_size, Cond.initialized RX2, Cond.code yX2_size cX2_size 1 (some .int), Cond.fieldLink RX2 23 "ArcLight$Sentence" "last" "I", Cond.methodLink RX0 34 yX2_allows, Cond.instanceMethod yX2_allows, Cond.selects RX2 yX2_allows yX2_allows, Cond.code yX2_allows cX2_allows 4 (some .boolean), Cond.methodLink RX2 41 yX2_markOf, Cond.instanceMethod yX2_markOf, Cond.selects RX2 yX2_markOf yX2_markOf, Cond.code yX2_markOf cX2_markOf 3 (some .int), Cond.fieldLink RX2 20 "ArcLight$Sentence" "marks" "[[I", Cond.static yX6_isPlace, Cond.code yX6_isPlace cX6_isPlace 1 (some .boolean), Cond.methodLink RX2 45 yX2_forcedHead, Cond.instanceMethod yX2_forcedHead]
def wsX6_crossings_r3 : List Cond := [Cond.selects RX2 yX2_forcedHead yX2_forcedHead, Cond.code yX2_forcedHead cX2_forcedHead 3 (some .int), Cond.methodLink RX0 38 yX5_ofArc, Cond.instanceMethod yX5_ofArc, Cond.selects RX5 yX5_ofArc yX5_ofArc, Cond.initialized RX5, Cond.code yX5_ofArc cX5_ofArc 4 (some .int), Cond.methodLink RX5 46 yX2_byKinds, Cond.instanceMethod yX2_byKinds, Cond.selects RX2 yX2_byKinds yX2_byKinds, Cond.code yX2_byKinds cX2_byKinds 3 (some .int), Cond.methodLink RX2 37 yX2_kindAt, Cond.instanceMethod yX2_kindAt, Cond.selects RX2 yX2_kindAt yX2_kindAt, Cond.code yX2_kindAt cX2_kindAt 2 (some .int), Cond.fieldLink RX2 9 "ArcLight$Sentence" "kinds" "[I", Cond.methodLink RX5 52 yX5_get, Cond.instanceMethod yX5_get, Cond.selects RX5 yX5_get yX5_get, Cond.code yX5_get cX5_get 2 (some .int), Cond.fieldLink RX5 9 "ArcLight$Weights" "now" "[I", Cond.methodLink RX5 42 yX5_isFeature, Cond.static yX5_isFeature, Cond.code yX5_isFeature cX5_isFeature 1 (some .boolean)]
def wsX6_crossings_r4 : List Cond := [Cond.static yX6_byDistance, Cond.code yX6_byDistance cX6_byDistance 3 (some .int), Cond.methodLink RX6 246 Lib.Math.abs.name, Cond.static Lib.Math.abs.name, Cond.code Lib.Math.abs.name Lib.Math.abs.code 1 (some .int), Cond.methodLink RX6 249 Lib.Math.min.name, Cond.methodLink RX6 222 yX1_greatest, Cond.instanceMethod yX1_greatest, Cond.selects RX1 yX1_greatest yX1_greatest, Cond.initialized RX1, Cond.code yX1_greatest cX1_greatest 8 (some .long), Cond.methodLink RX1 36 Lib.Math.min.name, Cond.fieldLink RX1 26 "ArcLight$Circles" "nodes" "I", Cond.fieldLink RX1 11 "ArcLight$Circles" "keys" "[[J", Cond.constantLong RX1 50 (-9223372036854775808), Cond.methodLink RX1 30 yX0_size, Cond.instanceMethod yX0_size, Cond.selects RX0 yX0_size yX0_size, Cond.code yX0_size cX0_size 1 (some .int), Cond.methodLink RX1 42 yX0_get, Cond.instanceMethod yX0_get, Cond.selects RX0 yX0_get yX0_get, Cond.code yX0_get cX0_get 3 (some .long), Cond.methodLink RX1 46 yX1_takeGreatest]
def wsX6_crossings_r5 : List Cond := [Cond.instanceMethod yX1_takeGreatest, Cond.selects RX1 yX1_takeGreatest yX1_takeGreatest, Cond.code yX1_takeGreatest cX1_takeGreatest 5 (some .long), Cond.fieldLink RX1 19 "ArcLight$Circles" "taken" "[I", Cond.methodLink RX1 59 yX1_takenKey, Cond.instanceMethod yX1_takenKey, Cond.selects RX1 yX1_takenKey yX1_takenKey, Cond.code yX1_takenKey cX1_takenKey 3 (some .long), Cond.methodLink RX1 63 yX1_takenHead, Cond.instanceMethod yX1_takenHead, Cond.selects RX1 yX1_takenHead yX1_takenHead, Cond.code yX1_takenHead cX1_takenHead 2 (some .int), Cond.methodLink RX1 52 yX1_findCircle, Cond.instanceMethod yX1_findCircle, Cond.selects RX1 yX1_findCircle yX1_findCircle, Cond.code yX1_findCircle cX1_findCircle 4 (some .int), Cond.methodLink RX1 55 yX1_contract, Cond.instanceMethod yX1_contract, Cond.selects RX1 yX1_contract yX1_contract, Cond.code yX1_contract cX1_contract 7 none, Cond.fieldLink RX1 16 "ArcLight$Circles" "contracted" "[[J", Cond.fieldLink RX1 23 "ArcLight$Circles" "groups" "[I", Cond.methodLink RX1 71 yX1_groupNodes, Cond.instanceMethod yX1_groupNodes]
def wsX6_crossings_r6 : List Cond := [Cond.selects RX1 yX1_groupNodes yX1_groupNodes, Cond.code yX1_groupNodes cX1_groupNodes 5 (some .int), Cond.methodLink RX1 84 yJ7_fill_53178, Cond.static yJ7_fill_53178, Cond.initialized RJ7, Cond.code yJ7_fill_53178 cJ7_fill_53178 4 none, Cond.methodLink RX1 74 yJ7_fill_d0a16, Cond.static yJ7_fill_d0a16, Cond.code yJ7_fill_d0a16 cJ7_fill_d0a16 5 none, Cond.methodLink RX1 80 yX1_offer, Cond.instanceMethod yX1_offer, Cond.selects RX1 yX1_offer yX1_offer, Cond.code yX1_offer cX1_offer 5 none, Cond.methodLink RX6 225 yX3_greatest, Cond.instanceMethod yX3_greatest, Cond.selects RX3 yX3_greatest yX3_greatest, Cond.initialized RX3, Cond.code yX3_greatest cX3_greatest 5 (some .long), Cond.methodLink RX3 31 Lib.Math.min.name, Cond.fieldLink RX3 11 "ArcLight$Spans" "wholeFromLeft" "[[J", Cond.fieldLink RX3 16 "ArcLight$Spans" "wholeFromRight" "[[J", Cond.constantLong RX3 45 (-9223372036854775808), Cond.methodLink RX3 25 yX0_size, Cond.methodLink RX3 37 yX3_fillOpen]
def wsX6_crossings_r7 : List Cond := [Cond.instanceMethod yX3_fillOpen, Cond.selects RX3 yX3_fillOpen yX3_fillOpen, Cond.code yX3_fillOpen cX3_fillOpen 7 none, Cond.methodLink RX3 55 Lib.MathLoose.max_long.x, Cond.static Lib.MathLoose.max_long.x, Cond.code Lib.MathLoose.max_long.x Lib.MathLoose.max_long.code 4 (some .long), Cond.fieldLink RX3 19 "ArcLight$Spans" "openFromLeft" "[[J", Cond.fieldLink RX3 22 "ArcLight$Spans" "openFromRight" "[[J", Cond.methodLink RX3 51 yX3_join, Cond.static yX3_join, Cond.code yX3_join cX3_join 4 (some .long), Cond.methodLink RX3 58 yX0_get, Cond.methodLink RX3 41 yX3_fillWhole, Cond.instanceMethod yX3_fillWhole, Cond.selects RX3 yX3_fillWhole yX3_fillWhole, Cond.code yX3_fillWhole cX3_fillWhole 8 none, Cond.methodLink RX6 147 yX6_checkTree, Cond.static yX6_checkTree, Cond.code yX6_checkTree cX6_checkTree 2 none, Cond.classLink RX6 54 "java/lang/IllegalStateException", Cond.initialized "java/lang/IllegalStateException", Cond.constantLong RX6 210 (-9223372036854775808), Cond.methodLink RX6 71 yX2_size, Cond.methodLink RX6 151 yX6_headIn]
def wsX6_crossings_r8 : List Cond := [Cond.static yX6_headIn, Cond.code yX6_headIn cX6_headIn 6 (some .int), Cond.constantLong RX6 244 (7), Cond.methodLink RX6 240 yX6_rowOfHeads, Cond.static yX6_rowOfHeads, Cond.code yX6_rowOfHeads cX6_rowOfHeads 2 (some .long), Cond.constantLong RX6 232 (117649), Cond.methodLink RX6 234 yJ9_floorMod_f86c9, Cond.static yJ9_floorMod_f86c9, Cond.initialized RJ9, Cond.code yJ9_floorMod_f86c9 cJ9_floorMod_f86c9 6 (some .long), Cond.methodLink RX6 155 yX6_doCross, Cond.static yX6_doCross, Cond.code yX6_doCross cX6_doCross 8 (some .boolean), Cond.methodLink RX6 252 Lib.Math.max.name, Cond.static Lib.Math.max.name, Cond.code Lib.Math.max.name Lib.Math.max.code 2 (some .int)]
def wsX6_crossings : List Cond := .code yX6_crossings cX6_crossings 8 (some .int) :: ((wsX6_crossings_r1 ++ (wsX6_crossings_r2 ++ (wsX6_crossings_r3 ++ (wsX6_crossings_r4 ++ (wsX6_crossings_r5 ++ (wsX6_crossings_r6 ++ (wsX6_crossings_r7 ++ wsX6_crossings_r8))))))) ++ wsX60 ++ wsX00 ++ wsX20 ++ wsX50 ++ wsX10 ++ wsX30 ++ (vx_atS RX6 201 "java/lang/IndexOutOfBoundsException" ["java/lang/RuntimeException", "java/lang/Exception"]).filter goodWord ++ (vx_atS RX6 58 "java/lang/IllegalStateException" ["java/lang/RuntimeException", "java/lang/Exception"]).filter goodWord)
def wsX6_rankedKey_r1 : List Cond := [Cond.classLink RX6 197 "java/lang/IndexOutOfBoundsException", Cond.initialized "java/lang/IndexOutOfBoundsException", Cond.methodLink RX6 130 yX6_tryAll, Cond.instanceMethod yX6_tryAll, Cond.selects RX6 yX6_tryAll yX6_tryAll, Cond.initialized RX6, Cond.code yX6_tryAll cX6_tryAll 3 (some (.object "ArcLight$Trial")), Cond.fieldLink RX6 29 "ArcLight" "arcs" "LArcLight$ArcKeys;", Cond.fieldLink RX6 22 "ArcLight" "weights" "LArcLight$Weights;", Cond.fieldLink RX6 50 "ArcLight" "trial" "LArcLight$Trial;", Cond.methodLink RX6 214 yX0_fill, Cond.instanceMethod yX0_fill, Cond.selects RX0 yX0_fill yX0_fill, Cond.initialized RX0, Cond.code yX0_fill cX0_fill 5 none, Cond.methodLink RX0 26 Lib.Math.min.name, Cond.static Lib.Math.min.name, Cond.initialized "java/lang/Math", Cond.code Lib.Math.min.name Lib.Math.min.code 2 (some .int), Cond.fieldLink RX0 16 "ArcLight$ArcKeys" "last" "I", Cond.fieldLink RX0 11 "ArcLight$ArcKeys" "keys" "[[J", Cond.constantLong RX0 32 (-9223372036854775808), Cond.constantLong RX0 44 (117649), Cond.methodLink RX0 20 yX2_size]
def wsX6_rankedKey_r2 : List Cond := [Cond.instanceMethod yX2_size, Cond.selects RX2 yX2_size yX2_size, Cond.initialized RX2, Cond.code yX2_size cX2_size 1 (some .int), Cond.fieldLink RX2 23 "ArcLight$Sentence" "last" "I", Cond.methodLink RX0 34 yX2_allows, Cond.instanceMethod yX2_allows, Cond.selects RX2 yX2_allows yX2_allows, Cond.code yX2_allows cX2_allows 4 (some .boolean), Cond.methodLink RX2 41 yX2_markOf, Cond.instanceMethod yX2_markOf, Cond.selects RX2 yX2_markOf yX2_markOf, Cond.code yX2_markOf cX2_markOf 3 (some .int), Cond.fieldLink RX2 20 "ArcLight$Sentence" "marks" "[[I", Cond.static yX6_isPlace, Cond.code yX6_isPlace cX6_isPlace 1 (some .boolean), Cond.methodLink RX2 45 yX2_forcedHead, Cond.instanceMethod yX2_forcedHead, Cond.selects RX2 yX2_forcedHead yX2_forcedHead, Cond.code yX2_forcedHead cX2_forcedHead 3 (some .int), Cond.methodLink RX0 38 yX5_ofArc, Cond.instanceMethod yX5_ofArc, Cond.selects RX5 yX5_ofArc yX5_ofArc, Cond.initialized RX5]
def wsX6_rankedKey_r3 : List Cond := [Cond.code yX5_ofArc cX5_ofArc 4 (some .int), Cond.methodLink RX5 46 yX2_byKinds, Cond.instanceMethod yX2_byKinds, Cond.selects RX2 yX2_byKinds yX2_byKinds, Cond.code yX2_byKinds cX2_byKinds 3 (some .int), Cond.methodLink RX2 37 yX2_kindAt, Cond.instanceMethod yX2_kindAt, Cond.selects RX2 yX2_kindAt yX2_kindAt, Cond.code yX2_kindAt cX2_kindAt 2 (some .int), Cond.fieldLink RX2 9 "ArcLight$Sentence" "kinds" "[I", Cond.methodLink RX5 52 yX5_get, Cond.instanceMethod yX5_get, Cond.selects RX5 yX5_get yX5_get, Cond.code yX5_get cX5_get 2 (some .int), Cond.fieldLink RX5 9 "ArcLight$Weights" "now" "[I", Cond.methodLink RX5 42 yX5_isFeature, Cond.static yX5_isFeature, Cond.code yX5_isFeature cX5_isFeature 1 (some .boolean), Cond.static yX6_byDistance, Cond.code yX6_byDistance cX6_byDistance 3 (some .int), Cond.methodLink RX6 246 Lib.Math.abs.name, Cond.static Lib.Math.abs.name, Cond.code Lib.Math.abs.name Lib.Math.abs.code 1 (some .int), Cond.methodLink RX6 249 Lib.Math.min.name]
def wsX6_rankedKey_r4 : List Cond := [Cond.methodLink RX6 218 yX4_run, Cond.instanceMethod yX4_run, Cond.selects RX4 yX4_run yX4_run, Cond.initialized RX4, Cond.code yX4_run cX4_run 3 none, Cond.fieldLink RX4 19 "ArcLight$Trial" "found" "I", Cond.methodLink RX4 23 yX4_giveHeads, Cond.static yX4_giveHeads, Cond.code yX4_giveHeads cX4_giveHeads 9 none, Cond.constantLong RX4 27 (-9223372036854775808), Cond.fieldLink RX4 15 "ArcLight$Trial" "heads" "[I", Cond.methodLink RX4 52 yX0_size, Cond.instanceMethod yX0_size, Cond.selects RX0 yX0_size yX0_size, Cond.code yX0_size cX0_size 1 (some .int), Cond.methodLink RX4 58 yX4_note, Cond.instanceMethod yX4_note, Cond.selects RX4 yX4_note yX4_note, Cond.code yX4_note cX4_note 3 none, Cond.fieldLink RX4 9 "ArcLight$Trial" "keys" "[J", Cond.methodLink RX4 62 yX0_get, Cond.instanceMethod yX0_get, Cond.selects RX0 yX0_get yX0_get, Cond.code yX0_get cX0_get 3 (some .long)]
def wsX6_rankedKey_r5 : List Cond := [Cond.methodLink RX4 66 yX4_closesCircle, Cond.instanceMethod yX4_closesCircle, Cond.selects RX4 yX4_closesCircle yX4_closesCircle, Cond.code yX4_closesCircle cX4_closesCircle 5 (some .boolean), Cond.methodLink RX4 70 yX4_crossesEarlier, Cond.instanceMethod yX4_crossesEarlier, Cond.selects RX4 yX4_crossesEarlier yX4_crossesEarlier, Cond.code yX4_crossesEarlier cX4_crossesEarlier 4 (some .boolean), Cond.static yX6_doCross, Cond.code yX6_doCross cX6_doCross 8 (some .boolean), Cond.methodLink RX6 252 Lib.Math.max.name, Cond.static Lib.Math.max.name, Cond.code Lib.Math.max.name Lib.Math.max.code 2 (some .int), Cond.methodLink RX6 134 yX4_size, Cond.instanceMethod yX4_size, Cond.selects RX4 yX4_size yX4_size, Cond.code yX4_size cX4_size 1 (some .int), Cond.methodLink RX6 228 yX4_ofRank, Cond.instanceMethod yX4_ofRank, Cond.selects RX4 yX4_ofRank yX4_ofRank, Cond.code yX4_ofRank cX4_ofRank 9 (some .long), Cond.constantLong RX4 43 (2), Cond.methodLink RX4 35 yX4_greatest, Cond.instanceMethod yX4_greatest]
def wsX6_rankedKey_r6 : List Cond := [Cond.selects RX4 yX4_greatest yX4_greatest, Cond.code yX4_greatest cX4_greatest 4 (some .long), Cond.methodLink RX4 29 Lib.MathLoose.max_long.x, Cond.static Lib.MathLoose.max_long.x, Cond.code Lib.MathLoose.max_long.x Lib.MathLoose.max_long.code 4 (some .long), Cond.methodLink RX4 39 yX4_least, Cond.instanceMethod yX4_least, Cond.selects RX4 yX4_least yX4_least, Cond.code yX4_least cX4_least 6 (some .long), Cond.methodLink RX4 49 Lib.MathLoose.min_long.x, Cond.static Lib.MathLoose.min_long.x, Cond.code Lib.MathLoose.min_long.x Lib.MathLoose.min_long.code 4 (some .long), Cond.methodLink RX4 45 yX4_countAbove, Cond.instanceMethod yX4_countAbove, Cond.selects RX4 yX4_countAbove yX4_countAbove, Cond.code yX4_countAbove cX4_countAbove 5 (some .int)]
def wsX6_rankedKey : List Cond := .code yX6_rankedKey cX6_rankedKey 5 (some .long) :: ((wsX6_rankedKey_r1 ++ (wsX6_rankedKey_r2 ++ (wsX6_rankedKey_r3 ++ (wsX6_rankedKey_r4 ++ (wsX6_rankedKey_r5 ++ wsX6_rankedKey_r6))))) ++ wsX60 ++ wsX00 ++ wsX20 ++ wsX50 ++ wsX40 ++ (vx_atS RX6 201 "java/lang/IndexOutOfBoundsException" ["java/lang/RuntimeException", "java/lang/Exception"]).filter goodWord)
def wsX6_ranked_r1 : List Cond := [Cond.methodLink RX6 62 yX6_find, Cond.instanceMethod yX6_find, Cond.selects RX6 yX6_find yX6_find, Cond.initialized RX6, Cond.code yX6_find cX6_find 3 (some (.object "ArcLight$Sentence")), Cond.classLink RX6 197 "java/lang/IndexOutOfBoundsException", Cond.initialized "java/lang/IndexOutOfBoundsException", Cond.fieldLink RX6 11 "ArcLight" "all" "[LArcLight$Sentence;", Cond.methodLink RX6 159 yX6_rankedKey, Cond.instanceMethod yX6_rankedKey, Cond.selects RX6 yX6_rankedKey yX6_rankedKey, Cond.code yX6_rankedKey cX6_rankedKey 5 (some .long), Cond.methodLink RX6 130 yX6_tryAll, Cond.instanceMethod yX6_tryAll, Cond.selects RX6 yX6_tryAll yX6_tryAll, Cond.code yX6_tryAll cX6_tryAll 3 (some (.object "ArcLight$Trial")), Cond.fieldLink RX6 29 "ArcLight" "arcs" "LArcLight$ArcKeys;", Cond.fieldLink RX6 22 "ArcLight" "weights" "LArcLight$Weights;", Cond.fieldLink RX6 50 "ArcLight" "trial" "LArcLight$Trial;", Cond.methodLink RX6 214 yX0_fill, Cond.instanceMethod yX0_fill, Cond.selects RX0 yX0_fill yX0_fill, Cond.initialized RX0, Cond.code yX0_fill cX0_fill 5 none]
def wsX6_ranked_r2 : List Cond := [Cond.methodLink RX0 26 Lib.Math.min.name, Cond.static Lib.Math.min.name, Cond.initialized "java/lang/Math", Cond.code Lib.Math.min.name Lib.Math.min.code 2 (some .int), Cond.fieldLink RX0 16 "ArcLight$ArcKeys" "last" "I", Cond.fieldLink RX0 11 "ArcLight$ArcKeys" "keys" "[[J", Cond.constantLong RX0 32 (-9223372036854775808), Cond.constantLong RX0 44 (117649), Cond.methodLink RX0 20 yX2_size, Cond.instanceMethod yX2_size, Cond.selects RX2 yX2_size yX2_size, Cond.initialized RX2, Cond.code yX2_size cX2_size 1 (some .int), Cond.fieldLink RX2 23 "ArcLight$Sentence" "last" "I", Cond.methodLink RX0 34 yX2_allows, Cond.instanceMethod yX2_allows, Cond.selects RX2 yX2_allows yX2_allows, Cond.code yX2_allows cX2_allows 4 (some .boolean), Cond.methodLink RX2 41 yX2_markOf, Cond.instanceMethod yX2_markOf, Cond.selects RX2 yX2_markOf yX2_markOf, Cond.code yX2_markOf cX2_markOf 3 (some .int), Cond.fieldLink RX2 20 "ArcLight$Sentence" "marks" "[[I", Cond.static yX6_isPlace]
def wsX6_ranked_r3 : List Cond := [Cond.code yX6_isPlace cX6_isPlace 1 (some .boolean), Cond.methodLink RX2 45 yX2_forcedHead, Cond.instanceMethod yX2_forcedHead, Cond.selects RX2 yX2_forcedHead yX2_forcedHead, Cond.code yX2_forcedHead cX2_forcedHead 3 (some .int), Cond.methodLink RX0 38 yX5_ofArc, Cond.instanceMethod yX5_ofArc, Cond.selects RX5 yX5_ofArc yX5_ofArc, Cond.initialized RX5, Cond.code yX5_ofArc cX5_ofArc 4 (some .int), Cond.methodLink RX5 46 yX2_byKinds, Cond.instanceMethod yX2_byKinds, Cond.selects RX2 yX2_byKinds yX2_byKinds, Cond.code yX2_byKinds cX2_byKinds 3 (some .int), Cond.methodLink RX2 37 yX2_kindAt, Cond.instanceMethod yX2_kindAt, Cond.selects RX2 yX2_kindAt yX2_kindAt, Cond.code yX2_kindAt cX2_kindAt 2 (some .int), Cond.fieldLink RX2 9 "ArcLight$Sentence" "kinds" "[I", Cond.methodLink RX5 52 yX5_get, Cond.instanceMethod yX5_get, Cond.selects RX5 yX5_get yX5_get, Cond.code yX5_get cX5_get 2 (some .int), Cond.fieldLink RX5 9 "ArcLight$Weights" "now" "[I"]
def wsX6_ranked_r4 : List Cond := [Cond.methodLink RX5 42 yX5_isFeature, Cond.static yX5_isFeature, Cond.code yX5_isFeature cX5_isFeature 1 (some .boolean), Cond.static yX6_byDistance, Cond.code yX6_byDistance cX6_byDistance 3 (some .int), Cond.methodLink RX6 246 Lib.Math.abs.name, Cond.static Lib.Math.abs.name, Cond.code Lib.Math.abs.name Lib.Math.abs.code 1 (some .int), Cond.methodLink RX6 249 Lib.Math.min.name, Cond.methodLink RX6 218 yX4_run, Cond.instanceMethod yX4_run, Cond.selects RX4 yX4_run yX4_run, Cond.initialized RX4, Cond.code yX4_run cX4_run 3 none, Cond.fieldLink RX4 19 "ArcLight$Trial" "found" "I", Cond.methodLink RX4 23 yX4_giveHeads, Cond.static yX4_giveHeads, Cond.code yX4_giveHeads cX4_giveHeads 9 none, Cond.constantLong RX4 27 (-9223372036854775808), Cond.fieldLink RX4 15 "ArcLight$Trial" "heads" "[I", Cond.methodLink RX4 52 yX0_size, Cond.instanceMethod yX0_size, Cond.selects RX0 yX0_size yX0_size, Cond.code yX0_size cX0_size 1 (some .int)]
def wsX6_ranked_r5 : List Cond := [Cond.methodLink RX4 58 yX4_note, Cond.instanceMethod yX4_note, Cond.selects RX4 yX4_note yX4_note, Cond.code yX4_note cX4_note 3 none, Cond.fieldLink RX4 9 "ArcLight$Trial" "keys" "[J", Cond.methodLink RX4 62 yX0_get, Cond.instanceMethod yX0_get, Cond.selects RX0 yX0_get yX0_get, Cond.code yX0_get cX0_get 3 (some .long), Cond.methodLink RX4 66 yX4_closesCircle, Cond.instanceMethod yX4_closesCircle, Cond.selects RX4 yX4_closesCircle yX4_closesCircle, Cond.code yX4_closesCircle cX4_closesCircle 5 (some .boolean), Cond.methodLink RX4 70 yX4_crossesEarlier, Cond.instanceMethod yX4_crossesEarlier, Cond.selects RX4 yX4_crossesEarlier yX4_crossesEarlier, Cond.code yX4_crossesEarlier cX4_crossesEarlier 4 (some .boolean), Cond.static yX6_doCross, Cond.code yX6_doCross cX6_doCross 8 (some .boolean), Cond.methodLink RX6 252 Lib.Math.max.name, Cond.static Lib.Math.max.name, Cond.code Lib.Math.max.name Lib.Math.max.code 2 (some .int), Cond.methodLink RX6 134 yX4_size, Cond.instanceMethod yX4_size]
def wsX6_ranked_r6 : List Cond := [Cond.selects RX4 yX4_size yX4_size, Cond.code yX4_size cX4_size 1 (some .int), Cond.methodLink RX6 228 yX4_ofRank, Cond.instanceMethod yX4_ofRank, Cond.selects RX4 yX4_ofRank yX4_ofRank, Cond.code yX4_ofRank cX4_ofRank 9 (some .long), Cond.constantLong RX4 43 (2), Cond.methodLink RX4 35 yX4_greatest, Cond.instanceMethod yX4_greatest, Cond.selects RX4 yX4_greatest yX4_greatest, Cond.code yX4_greatest cX4_greatest 4 (some .long), Cond.methodLink RX4 29 Lib.MathLoose.max_long.x, Cond.static Lib.MathLoose.max_long.x, Cond.code Lib.MathLoose.max_long.x Lib.MathLoose.max_long.code 4 (some .long), Cond.methodLink RX4 39 yX4_least, Cond.instanceMethod yX4_least, Cond.selects RX4 yX4_least yX4_least, Cond.code yX4_least cX4_least 6 (some .long), Cond.methodLink RX4 49 Lib.MathLoose.min_long.x, Cond.static Lib.MathLoose.min_long.x, Cond.code Lib.MathLoose.min_long.x Lib.MathLoose.min_long.code 4 (some .long), Cond.methodLink RX4 45 yX4_countAbove, Cond.instanceMethod yX4_countAbove, Cond.selects RX4 yX4_countAbove yX4_countAbove]
def wsX6_ranked_r7 : List Cond := [Cond.code yX4_countAbove cX4_countAbove 5 (some .int), Cond.methodLink RX6 139 yX6_scoreIn, Cond.static yX6_scoreIn, Cond.code yX6_scoreIn cX6_scoreIn 2 (some .int), Cond.constantLong RX6 232 (117649), Cond.methodLink RX6 240 yX6_rowOfHeads, Cond.static yX6_rowOfHeads, Cond.code yX6_rowOfHeads cX6_rowOfHeads 2 (some .long), Cond.methodLink RX6 234 yJ9_floorMod_f86c9, Cond.static yJ9_floorMod_f86c9, Cond.initialized RJ9, Cond.code yJ9_floorMod_f86c9 cJ9_floorMod_f86c9 6 (some .long)]
def wsX6_ranked : List Cond := .code yX6_ranked cX6_ranked 4 (some .int) :: ((wsX6_ranked_r1 ++ (wsX6_ranked_r2 ++ (wsX6_ranked_r3 ++ (wsX6_ranked_r4 ++ (wsX6_ranked_r5 ++ (wsX6_ranked_r6 ++ wsX6_ranked_r7)))))) ++ wsX60 ++ wsX00 ++ wsX20 ++ wsX50 ++ wsX40 ++ (vx_atS RX6 201 "java/lang/IndexOutOfBoundsException" ["java/lang/RuntimeException", "java/lang/Exception"]).filter goodWord)
def wsX6_rankedHead_r1 : List Cond := [Cond.methodLink RX6 62 yX6_find, Cond.instanceMethod yX6_find, Cond.selects RX6 yX6_find yX6_find, Cond.initialized RX6, Cond.code yX6_find cX6_find 3 (some (.object "ArcLight$Sentence")), Cond.classLink RX6 197 "java/lang/IndexOutOfBoundsException", Cond.initialized "java/lang/IndexOutOfBoundsException", Cond.fieldLink RX6 11 "ArcLight" "all" "[LArcLight$Sentence;", Cond.methodLink RX6 81 yX6_checkWord, Cond.static yX6_checkWord, Cond.code yX6_checkWord cX6_checkWord 2 none, Cond.methodLink RX6 71 yX2_size, Cond.instanceMethod yX2_size, Cond.selects RX2 yX2_size yX2_size, Cond.initialized RX2, Cond.code yX2_size cX2_size 1 (some .int), Cond.fieldLink RX2 23 "ArcLight$Sentence" "last" "I", Cond.methodLink RX6 159 yX6_rankedKey, Cond.instanceMethod yX6_rankedKey, Cond.selects RX6 yX6_rankedKey yX6_rankedKey, Cond.code yX6_rankedKey cX6_rankedKey 5 (some .long), Cond.methodLink RX6 130 yX6_tryAll, Cond.instanceMethod yX6_tryAll, Cond.selects RX6 yX6_tryAll yX6_tryAll]
def wsX6_rankedHead_r2 : List Cond := [Cond.code yX6_tryAll cX6_tryAll 3 (some (.object "ArcLight$Trial")), Cond.fieldLink RX6 29 "ArcLight" "arcs" "LArcLight$ArcKeys;", Cond.fieldLink RX6 22 "ArcLight" "weights" "LArcLight$Weights;", Cond.fieldLink RX6 50 "ArcLight" "trial" "LArcLight$Trial;", Cond.methodLink RX6 214 yX0_fill, Cond.instanceMethod yX0_fill, Cond.selects RX0 yX0_fill yX0_fill, Cond.initialized RX0, Cond.code yX0_fill cX0_fill 5 none, Cond.methodLink RX0 26 Lib.Math.min.name, Cond.static Lib.Math.min.name, Cond.initialized "java/lang/Math", Cond.code Lib.Math.min.name Lib.Math.min.code 2 (some .int), Cond.fieldLink RX0 16 "ArcLight$ArcKeys" "last" "I", Cond.fieldLink RX0 11 "ArcLight$ArcKeys" "keys" "[[J", Cond.constantLong RX0 32 (-9223372036854775808), Cond.constantLong RX0 44 (117649), Cond.methodLink RX0 20 yX2_size, Cond.methodLink RX0 34 yX2_allows, Cond.instanceMethod yX2_allows, Cond.selects RX2 yX2_allows yX2_allows, Cond.code yX2_allows cX2_allows 4 (some .boolean), Cond.methodLink RX2 41 yX2_markOf, Cond.instanceMethod yX2_markOf]
def wsX6_rankedHead_r3 : List Cond := [Cond.selects RX2 yX2_markOf yX2_markOf, Cond.code yX2_markOf cX2_markOf 3 (some .int), Cond.fieldLink RX2 20 "ArcLight$Sentence" "marks" "[[I", Cond.static yX6_isPlace, Cond.code yX6_isPlace cX6_isPlace 1 (some .boolean), Cond.methodLink RX2 45 yX2_forcedHead, Cond.instanceMethod yX2_forcedHead, Cond.selects RX2 yX2_forcedHead yX2_forcedHead, Cond.code yX2_forcedHead cX2_forcedHead 3 (some .int), Cond.methodLink RX0 38 yX5_ofArc, Cond.instanceMethod yX5_ofArc, Cond.selects RX5 yX5_ofArc yX5_ofArc, Cond.initialized RX5, Cond.code yX5_ofArc cX5_ofArc 4 (some .int), Cond.methodLink RX5 46 yX2_byKinds, Cond.instanceMethod yX2_byKinds, Cond.selects RX2 yX2_byKinds yX2_byKinds, Cond.code yX2_byKinds cX2_byKinds 3 (some .int), Cond.methodLink RX2 37 yX2_kindAt, Cond.instanceMethod yX2_kindAt, Cond.selects RX2 yX2_kindAt yX2_kindAt, Cond.code yX2_kindAt cX2_kindAt 2 (some .int), Cond.fieldLink RX2 9 "ArcLight$Sentence" "kinds" "[I", Cond.methodLink RX5 52 yX5_get]
def wsX6_rankedHead_r4 : List Cond := [Cond.instanceMethod yX5_get, Cond.selects RX5 yX5_get yX5_get, Cond.code yX5_get cX5_get 2 (some .int), Cond.fieldLink RX5 9 "ArcLight$Weights" "now" "[I", Cond.methodLink RX5 42 yX5_isFeature, Cond.static yX5_isFeature, Cond.code yX5_isFeature cX5_isFeature 1 (some .boolean), Cond.static yX6_byDistance, Cond.code yX6_byDistance cX6_byDistance 3 (some .int), Cond.methodLink RX6 246 Lib.Math.abs.name, Cond.static Lib.Math.abs.name, Cond.code Lib.Math.abs.name Lib.Math.abs.code 1 (some .int), Cond.methodLink RX6 249 Lib.Math.min.name, Cond.methodLink RX6 218 yX4_run, Cond.instanceMethod yX4_run, Cond.selects RX4 yX4_run yX4_run, Cond.initialized RX4, Cond.code yX4_run cX4_run 3 none, Cond.fieldLink RX4 19 "ArcLight$Trial" "found" "I", Cond.methodLink RX4 23 yX4_giveHeads, Cond.static yX4_giveHeads, Cond.code yX4_giveHeads cX4_giveHeads 9 none, Cond.constantLong RX4 27 (-9223372036854775808), Cond.fieldLink RX4 15 "ArcLight$Trial" "heads" "[I"]
def wsX6_rankedHead_r5 : List Cond := [Cond.methodLink RX4 52 yX0_size, Cond.instanceMethod yX0_size, Cond.selects RX0 yX0_size yX0_size, Cond.code yX0_size cX0_size 1 (some .int), Cond.methodLink RX4 58 yX4_note, Cond.instanceMethod yX4_note, Cond.selects RX4 yX4_note yX4_note, Cond.code yX4_note cX4_note 3 none, Cond.fieldLink RX4 9 "ArcLight$Trial" "keys" "[J", Cond.methodLink RX4 62 yX0_get, Cond.instanceMethod yX0_get, Cond.selects RX0 yX0_get yX0_get, Cond.code yX0_get cX0_get 3 (some .long), Cond.methodLink RX4 66 yX4_closesCircle, Cond.instanceMethod yX4_closesCircle, Cond.selects RX4 yX4_closesCircle yX4_closesCircle, Cond.code yX4_closesCircle cX4_closesCircle 5 (some .boolean), Cond.methodLink RX4 70 yX4_crossesEarlier, Cond.instanceMethod yX4_crossesEarlier, Cond.selects RX4 yX4_crossesEarlier yX4_crossesEarlier, Cond.code yX4_crossesEarlier cX4_crossesEarlier 4 (some .boolean), Cond.static yX6_doCross, Cond.code yX6_doCross cX6_doCross 8 (some .boolean), Cond.methodLink RX6 252 Lib.Math.max.name]
def wsX6_rankedHead_r6 : List Cond := [Cond.static Lib.Math.max.name, Cond.code Lib.Math.max.name Lib.Math.max.code 2 (some .int), Cond.methodLink RX6 134 yX4_size, Cond.instanceMethod yX4_size, Cond.selects RX4 yX4_size yX4_size, Cond.code yX4_size cX4_size 1 (some .int), Cond.methodLink RX6 228 yX4_ofRank, Cond.instanceMethod yX4_ofRank, Cond.selects RX4 yX4_ofRank yX4_ofRank, Cond.code yX4_ofRank cX4_ofRank 9 (some .long), Cond.constantLong RX4 43 (2), Cond.methodLink RX4 35 yX4_greatest, Cond.instanceMethod yX4_greatest, Cond.selects RX4 yX4_greatest yX4_greatest, Cond.code yX4_greatest cX4_greatest 4 (some .long), Cond.methodLink RX4 29 Lib.MathLoose.max_long.x, Cond.static Lib.MathLoose.max_long.x, Cond.code Lib.MathLoose.max_long.x Lib.MathLoose.max_long.code 4 (some .long), Cond.methodLink RX4 39 yX4_least, Cond.instanceMethod yX4_least, Cond.selects RX4 yX4_least yX4_least, Cond.code yX4_least cX4_least 6 (some .long), Cond.methodLink RX4 49 Lib.MathLoose.min_long.x, Cond.static Lib.MathLoose.min_long.x]
def wsX6_rankedHead_r7 : List Cond := [Cond.code Lib.MathLoose.min_long.x Lib.MathLoose.min_long.code 4 (some .long), Cond.methodLink RX4 45 yX4_countAbove, Cond.instanceMethod yX4_countAbove, Cond.selects RX4 yX4_countAbove yX4_countAbove, Cond.code yX4_countAbove cX4_countAbove 5 (some .int), Cond.methodLink RX6 151 yX6_headIn, Cond.static yX6_headIn, Cond.code yX6_headIn cX6_headIn 6 (some .int), Cond.constantLong RX6 244 (7), Cond.methodLink RX6 240 yX6_rowOfHeads, Cond.static yX6_rowOfHeads, Cond.code yX6_rowOfHeads cX6_rowOfHeads 2 (some .long), Cond.constantLong RX6 232 (117649), Cond.methodLink RX6 234 yJ9_floorMod_f86c9, Cond.static yJ9_floorMod_f86c9, Cond.initialized RJ9, Cond.code yJ9_floorMod_f86c9 cJ9_floorMod_f86c9 6 (some .long)]
def wsX6_rankedHead : List Cond := .code yX6_rankedHead cX6_rankedHead 6 (some .int) :: ((wsX6_rankedHead_r1 ++ (wsX6_rankedHead_r2 ++ (wsX6_rankedHead_r3 ++ (wsX6_rankedHead_r4 ++ (wsX6_rankedHead_r5 ++ (wsX6_rankedHead_r6 ++ wsX6_rankedHead_r7)))))) ++ wsX60 ++ wsX20 ++ wsX00 ++ wsX50 ++ wsX40 ++ (vx_atS RX6 201 "java/lang/IndexOutOfBoundsException" ["java/lang/RuntimeException", "java/lang/Exception"]).filter goodWord)
def wsX6_correct_r1 : List Cond := [Cond.methodLink RX6 62 yX6_find, Cond.instanceMethod yX6_find, Cond.selects RX6 yX6_find yX6_find, Cond.initialized RX6, Cond.code yX6_find cX6_find 3 (some (.object "ArcLight$Sentence")), Cond.classLink RX6 197 "java/lang/IndexOutOfBoundsException", Cond.initialized "java/lang/IndexOutOfBoundsException", Cond.fieldLink RX6 11 "ArcLight" "all" "[LArcLight$Sentence;", Cond.methodLink RX6 104 yX6_checkArc, Cond.static yX6_checkArc, Cond.code yX6_checkArc cX6_checkArc 3 none, Cond.classLink RX6 66 "java/lang/IllegalArgumentException", Cond.initialized "java/lang/IllegalArgumentException", Cond.methodLink RX6 71 yX2_size, Cond.instanceMethod yX2_size, Cond.selects RX2 yX2_size yX2_size, Cond.initialized RX2, Cond.code yX2_size cX2_size 1 (some .int), Cond.fieldLink RX2 23 "ArcLight$Sentence" "last" "I", Cond.methodLink RX6 81 yX6_checkWord, Cond.static yX6_checkWord, Cond.code yX6_checkWord cX6_checkWord 2 none, Cond.methodLink RX6 163 yX2_changeRightHead, Cond.instanceMethod yX2_changeRightHead]
def wsX6_correct_r2 : List Cond := [Cond.selects RX2 yX2_changeRightHead yX2_changeRightHead, Cond.code yX2_changeRightHead cX2_changeRightHead 4 (some .int), Cond.fieldLink RX2 15 "ArcLight$Sentence" "rightHeads" "[I", Cond.methodLink RX2 48 yX2_rightHead, Cond.instanceMethod yX2_rightHead, Cond.selects RX2 yX2_rightHead yX2_rightHead, Cond.code yX2_rightHead cX2_rightHead 2 (some .int), Cond.static yX6_isPlace, Cond.code yX6_isPlace cX6_isPlace 1 (some .boolean)]
def wsX6_correct : List Cond := .code yX6_correct cX6_correct 5 (some .int) :: ((wsX6_correct_r1 ++ wsX6_correct_r2) ++ wsX60 ++ wsX20 ++ (vx_atS RX6 201 "java/lang/IndexOutOfBoundsException" ["java/lang/RuntimeException", "java/lang/Exception"]).filter goodWord ++ (vx_atS RX6 70 "java/lang/IllegalArgumentException" ["java/lang/RuntimeException", "java/lang/Exception"]).filter goodWord)
def wsX6_matched_r1 : List Cond := [Cond.methodLink RX6 62 yX6_find, Cond.instanceMethod yX6_find, Cond.selects RX6 yX6_find yX6_find, Cond.initialized RX6, Cond.code yX6_find cX6_find 3 (some (.object "ArcLight$Sentence")), Cond.classLink RX6 197 "java/lang/IndexOutOfBoundsException", Cond.initialized "java/lang/IndexOutOfBoundsException", Cond.fieldLink RX6 11 "ArcLight" "all" "[LArcLight$Sentence;", Cond.methodLink RX6 135 yX6_bestKey, Cond.instanceMethod yX6_bestKey, Cond.selects RX6 yX6_bestKey yX6_bestKey, Cond.code yX6_bestKey cX6_bestKey 5 (some .long), Cond.fieldLink RX6 29 "ArcLight" "arcs" "LArcLight$ArcKeys;", Cond.fieldLink RX6 22 "ArcLight" "weights" "LArcLight$Weights;", Cond.fieldLink RX6 43 "ArcLight" "circles" "LArcLight$Circles;", Cond.fieldLink RX6 36 "ArcLight" "spans" "LArcLight$Spans;", Cond.methodLink RX6 214 yX0_fill, Cond.instanceMethod yX0_fill, Cond.selects RX0 yX0_fill yX0_fill, Cond.initialized RX0, Cond.code yX0_fill cX0_fill 5 none, Cond.methodLink RX0 26 Lib.Math.min.name, Cond.static Lib.Math.min.name, Cond.initialized "java/lang/Math"]
def wsX6_matched_r2 : List Cond := [Cond.code Lib.Math.min.name Lib.Math.min.code 2 (some .int), Cond.fieldLink RX0 16 "ArcLight$ArcKeys" "last" "I", Cond.fieldLink RX0 11 "ArcLight$ArcKeys" "keys" "[[J", Cond.constantLong RX0 32 (-9223372036854775808), Cond.constantLong RX0 44 (117649), Cond.methodLink RX0 20 yX2_size, Cond.instanceMethod yX2_size, Cond.selects RX2 yX2_size yX2_size, Cond.initialized RX2, Cond.code yX2_size cX2_size 1 (some .int), Cond.fieldLink RX2 23 "ArcLight$Sentence" "last" "I", Cond.methodLink RX0 34 yX2_allows, Cond.instanceMethod yX2_allows, Cond.selects RX2 yX2_allows yX2_allows, Cond.code yX2_allows cX2_allows 4 (some .boolean), Cond.methodLink RX2 41 yX2_markOf, Cond.instanceMethod yX2_markOf, Cond.selects RX2 yX2_markOf yX2_markOf, Cond.code yX2_markOf cX2_markOf 3 (some .int), Cond.fieldLink RX2 20 "ArcLight$Sentence" "marks" "[[I", Cond.static yX6_isPlace, Cond.code yX6_isPlace cX6_isPlace 1 (some .boolean), Cond.methodLink RX2 45 yX2_forcedHead, Cond.instanceMethod yX2_forcedHead]
def wsX6_matched_r3 : List Cond := [Cond.selects RX2 yX2_forcedHead yX2_forcedHead, Cond.code yX2_forcedHead cX2_forcedHead 3 (some .int), Cond.methodLink RX0 38 yX5_ofArc, Cond.instanceMethod yX5_ofArc, Cond.selects RX5 yX5_ofArc yX5_ofArc, Cond.initialized RX5, Cond.code yX5_ofArc cX5_ofArc 4 (some .int), Cond.methodLink RX5 46 yX2_byKinds, Cond.instanceMethod yX2_byKinds, Cond.selects RX2 yX2_byKinds yX2_byKinds, Cond.code yX2_byKinds cX2_byKinds 3 (some .int), Cond.methodLink RX2 37 yX2_kindAt, Cond.instanceMethod yX2_kindAt, Cond.selects RX2 yX2_kindAt yX2_kindAt, Cond.code yX2_kindAt cX2_kindAt 2 (some .int), Cond.fieldLink RX2 9 "ArcLight$Sentence" "kinds" "[I", Cond.methodLink RX5 52 yX5_get, Cond.instanceMethod yX5_get, Cond.selects RX5 yX5_get yX5_get, Cond.code yX5_get cX5_get 2 (some .int), Cond.fieldLink RX5 9 "ArcLight$Weights" "now" "[I", Cond.methodLink RX5 42 yX5_isFeature, Cond.static yX5_isFeature, Cond.code yX5_isFeature cX5_isFeature 1 (some .boolean)]
def wsX6_matched_r4 : List Cond := [Cond.static yX6_byDistance, Cond.code yX6_byDistance cX6_byDistance 3 (some .int), Cond.methodLink RX6 246 Lib.Math.abs.name, Cond.static Lib.Math.abs.name, Cond.code Lib.Math.abs.name Lib.Math.abs.code 1 (some .int), Cond.methodLink RX6 249 Lib.Math.min.name, Cond.methodLink RX6 222 yX1_greatest, Cond.instanceMethod yX1_greatest, Cond.selects RX1 yX1_greatest yX1_greatest, Cond.initialized RX1, Cond.code yX1_greatest cX1_greatest 8 (some .long), Cond.methodLink RX1 36 Lib.Math.min.name, Cond.fieldLink RX1 26 "ArcLight$Circles" "nodes" "I", Cond.fieldLink RX1 11 "ArcLight$Circles" "keys" "[[J", Cond.constantLong RX1 50 (-9223372036854775808), Cond.methodLink RX1 30 yX0_size, Cond.instanceMethod yX0_size, Cond.selects RX0 yX0_size yX0_size, Cond.code yX0_size cX0_size 1 (some .int), Cond.methodLink RX1 42 yX0_get, Cond.instanceMethod yX0_get, Cond.selects RX0 yX0_get yX0_get, Cond.code yX0_get cX0_get 3 (some .long), Cond.methodLink RX1 46 yX1_takeGreatest]
def wsX6_matched_r5 : List Cond := [Cond.instanceMethod yX1_takeGreatest, Cond.selects RX1 yX1_takeGreatest yX1_takeGreatest, Cond.code yX1_takeGreatest cX1_takeGreatest 5 (some .long), Cond.fieldLink RX1 19 "ArcLight$Circles" "taken" "[I", Cond.methodLink RX1 59 yX1_takenKey, Cond.instanceMethod yX1_takenKey, Cond.selects RX1 yX1_takenKey yX1_takenKey, Cond.code yX1_takenKey cX1_takenKey 3 (some .long), Cond.methodLink RX1 63 yX1_takenHead, Cond.instanceMethod yX1_takenHead, Cond.selects RX1 yX1_takenHead yX1_takenHead, Cond.code yX1_takenHead cX1_takenHead 2 (some .int), Cond.methodLink RX1 52 yX1_findCircle, Cond.instanceMethod yX1_findCircle, Cond.selects RX1 yX1_findCircle yX1_findCircle, Cond.code yX1_findCircle cX1_findCircle 4 (some .int), Cond.methodLink RX1 55 yX1_contract, Cond.instanceMethod yX1_contract, Cond.selects RX1 yX1_contract yX1_contract, Cond.code yX1_contract cX1_contract 7 none, Cond.fieldLink RX1 16 "ArcLight$Circles" "contracted" "[[J", Cond.fieldLink RX1 23 "ArcLight$Circles" "groups" "[I", Cond.methodLink RX1 71 yX1_groupNodes, Cond.instanceMethod yX1_groupNodes]
def wsX6_matched_r6 : List Cond := [Cond.selects RX1 yX1_groupNodes yX1_groupNodes, Cond.code yX1_groupNodes cX1_groupNodes 5 (some .int), Cond.methodLink RX1 84 yJ7_fill_53178, Cond.static yJ7_fill_53178, Cond.initialized RJ7, Cond.code yJ7_fill_53178 cJ7_fill_53178 4 none, Cond.methodLink RX1 74 yJ7_fill_d0a16, Cond.static yJ7_fill_d0a16, Cond.code yJ7_fill_d0a16 cJ7_fill_d0a16 5 none, Cond.methodLink RX1 80 yX1_offer, Cond.instanceMethod yX1_offer, Cond.selects RX1 yX1_offer yX1_offer, Cond.code yX1_offer cX1_offer 5 none, Cond.methodLink RX6 225 yX3_greatest, Cond.instanceMethod yX3_greatest, Cond.selects RX3 yX3_greatest yX3_greatest, Cond.initialized RX3, Cond.code yX3_greatest cX3_greatest 5 (some .long), Cond.methodLink RX3 31 Lib.Math.min.name, Cond.fieldLink RX3 11 "ArcLight$Spans" "wholeFromLeft" "[[J", Cond.fieldLink RX3 16 "ArcLight$Spans" "wholeFromRight" "[[J", Cond.constantLong RX3 45 (-9223372036854775808), Cond.methodLink RX3 25 yX0_size, Cond.methodLink RX3 37 yX3_fillOpen]
def wsX6_matched_r7 : List Cond := [Cond.instanceMethod yX3_fillOpen, Cond.selects RX3 yX3_fillOpen yX3_fillOpen, Cond.code yX3_fillOpen cX3_fillOpen 7 none, Cond.methodLink RX3 55 Lib.MathLoose.max_long.x, Cond.static Lib.MathLoose.max_long.x, Cond.code Lib.MathLoose.max_long.x Lib.MathLoose.max_long.code 4 (some .long), Cond.fieldLink RX3 19 "ArcLight$Spans" "openFromLeft" "[[J", Cond.fieldLink RX3 22 "ArcLight$Spans" "openFromRight" "[[J", Cond.methodLink RX3 51 yX3_join, Cond.static yX3_join, Cond.code yX3_join cX3_join 4 (some .long), Cond.methodLink RX3 58 yX0_get, Cond.methodLink RX3 41 yX3_fillWhole, Cond.instanceMethod yX3_fillWhole, Cond.selects RX3 yX3_fillWhole yX3_fillWhole, Cond.code yX3_fillWhole cX3_fillWhole 8 none, Cond.methodLink RX6 147 yX6_checkTree, Cond.static yX6_checkTree, Cond.code yX6_checkTree cX6_checkTree 2 none, Cond.classLink RX6 54 "java/lang/IllegalStateException", Cond.initialized "java/lang/IllegalStateException", Cond.constantLong RX6 210 (-9223372036854775808), Cond.methodLink RX6 71 yX2_size, Cond.methodLink RX6 166 yX2_rightHead]
def wsX6_matched_r8 : List Cond := [Cond.instanceMethod yX2_rightHead, Cond.selects RX2 yX2_rightHead yX2_rightHead, Cond.code yX2_rightHead cX2_rightHead 2 (some .int), Cond.fieldLink RX2 15 "ArcLight$Sentence" "rightHeads" "[I", Cond.methodLink RX6 151 yX6_headIn, Cond.static yX6_headIn, Cond.code yX6_headIn cX6_headIn 6 (some .int), Cond.constantLong RX6 244 (7), Cond.methodLink RX6 240 yX6_rowOfHeads, Cond.static yX6_rowOfHeads, Cond.code yX6_rowOfHeads cX6_rowOfHeads 2 (some .long), Cond.constantLong RX6 232 (117649), Cond.methodLink RX6 234 yJ9_floorMod_f86c9, Cond.static yJ9_floorMod_f86c9, Cond.initialized RJ9, Cond.code yJ9_floorMod_f86c9 cJ9_floorMod_f86c9 6 (some .long)]
def wsX6_matched : List Cond := .code yX6_matched cX6_matched 7 (some .int) :: ((wsX6_matched_r1 ++ (wsX6_matched_r2 ++ (wsX6_matched_r3 ++ (wsX6_matched_r4 ++ (wsX6_matched_r5 ++ (wsX6_matched_r6 ++ (wsX6_matched_r7 ++ wsX6_matched_r8))))))) ++ wsX60 ++ wsX00 ++ wsX20 ++ wsX50 ++ wsX10 ++ wsX30 ++ (vx_atS RX6 201 "java/lang/IndexOutOfBoundsException" ["java/lang/RuntimeException", "java/lang/Exception"]).filter goodWord ++ (vx_atS RX6 58 "java/lang/IllegalStateException" ["java/lang/RuntimeException", "java/lang/Exception"]).filter goodWord)
def wsX6_mend_r1 : List Cond := [Cond.classLink RX6 54 "java/lang/IllegalStateException", Cond.initialized "java/lang/IllegalStateException", Cond.fieldLink RX6 22 "ArcLight" "weights" "LArcLight$Weights;", Cond.methodLink RX6 62 yX6_find, Cond.instanceMethod yX6_find, Cond.selects RX6 yX6_find yX6_find, Cond.initialized RX6, Cond.code yX6_find cX6_find 3 (some (.object "ArcLight$Sentence")), Cond.classLink RX6 197 "java/lang/IndexOutOfBoundsException", Cond.initialized "java/lang/IndexOutOfBoundsException", Cond.fieldLink RX6 11 "ArcLight" "all" "[LArcLight$Sentence;", Cond.methodLink RX6 169 yX2_hasRightTree, Cond.instanceMethod yX2_hasRightTree, Cond.selects RX2 yX2_hasRightTree yX2_hasRightTree, Cond.initialized RX2, Cond.code yX2_hasRightTree cX2_hasRightTree 4 (some .boolean), Cond.fieldLink RX2 23 "ArcLight$Sentence" "last" "I", Cond.methodLink RX2 48 yX2_rightHead, Cond.instanceMethod yX2_rightHead, Cond.selects RX2 yX2_rightHead yX2_rightHead, Cond.code yX2_rightHead cX2_rightHead 2 (some .int), Cond.fieldLink RX2 15 "ArcLight$Sentence" "rightHeads" "[I", Cond.static yX6_isPlace, Cond.code yX6_isPlace cX6_isPlace 1 (some .boolean)]
def wsX6_mend_r2 : List Cond := [Cond.methodLink RX6 135 yX6_bestKey, Cond.instanceMethod yX6_bestKey, Cond.selects RX6 yX6_bestKey yX6_bestKey, Cond.code yX6_bestKey cX6_bestKey 5 (some .long), Cond.fieldLink RX6 29 "ArcLight" "arcs" "LArcLight$ArcKeys;", Cond.fieldLink RX6 43 "ArcLight" "circles" "LArcLight$Circles;", Cond.fieldLink RX6 36 "ArcLight" "spans" "LArcLight$Spans;", Cond.methodLink RX6 214 yX0_fill, Cond.instanceMethod yX0_fill, Cond.selects RX0 yX0_fill yX0_fill, Cond.initialized RX0, Cond.code yX0_fill cX0_fill 5 none, Cond.methodLink RX0 26 Lib.Math.min.name, Cond.static Lib.Math.min.name, Cond.initialized "java/lang/Math", Cond.code Lib.Math.min.name Lib.Math.min.code 2 (some .int), Cond.fieldLink RX0 16 "ArcLight$ArcKeys" "last" "I", Cond.fieldLink RX0 11 "ArcLight$ArcKeys" "keys" "[[J", Cond.constantLong RX0 32 (-9223372036854775808), Cond.constantLong RX0 44 (117649), Cond.methodLink RX0 20 yX2_size, Cond.instanceMethod yX2_size, Cond.selects RX2 yX2_size yX2_size, Cond.code yX2_size cX2_size 1 (some .int)]
def wsX6_mend_r3 : List Cond := [Cond.methodLink RX0 34 yX2_allows, Cond.instanceMethod yX2_allows, Cond.selects RX2 yX2_allows yX2_allows, Cond.code yX2_allows cX2_allows 4 (some .boolean), Cond.methodLink RX2 41 yX2_markOf, Cond.instanceMethod yX2_markOf, Cond.selects RX2 yX2_markOf yX2_markOf, Cond.code yX2_markOf cX2_markOf 3 (some .int), Cond.fieldLink RX2 20 "ArcLight$Sentence" "marks" "[[I", Cond.methodLink RX2 45 yX2_forcedHead, Cond.instanceMethod yX2_forcedHead, Cond.selects RX2 yX2_forcedHead yX2_forcedHead, Cond.code yX2_forcedHead cX2_forcedHead 3 (some .int), Cond.methodLink RX0 38 yX5_ofArc, Cond.instanceMethod yX5_ofArc, Cond.selects RX5 yX5_ofArc yX5_ofArc, Cond.initialized RX5, Cond.code yX5_ofArc cX5_ofArc 4 (some .int), Cond.methodLink RX5 46 yX2_byKinds, Cond.instanceMethod yX2_byKinds, Cond.selects RX2 yX2_byKinds yX2_byKinds, Cond.code yX2_byKinds cX2_byKinds 3 (some .int), Cond.methodLink RX2 37 yX2_kindAt, Cond.instanceMethod yX2_kindAt]
def wsX6_mend_r4 : List Cond := [Cond.selects RX2 yX2_kindAt yX2_kindAt, Cond.code yX2_kindAt cX2_kindAt 2 (some .int), Cond.fieldLink RX2 9 "ArcLight$Sentence" "kinds" "[I", Cond.methodLink RX5 52 yX5_get, Cond.instanceMethod yX5_get, Cond.selects RX5 yX5_get yX5_get, Cond.code yX5_get cX5_get 2 (some .int), Cond.fieldLink RX5 9 "ArcLight$Weights" "now" "[I", Cond.methodLink RX5 42 yX5_isFeature, Cond.static yX5_isFeature, Cond.code yX5_isFeature cX5_isFeature 1 (some .boolean), Cond.static yX6_byDistance, Cond.code yX6_byDistance cX6_byDistance 3 (some .int), Cond.methodLink RX6 246 Lib.Math.abs.name, Cond.static Lib.Math.abs.name, Cond.code Lib.Math.abs.name Lib.Math.abs.code 1 (some .int), Cond.methodLink RX6 249 Lib.Math.min.name, Cond.methodLink RX6 222 yX1_greatest, Cond.instanceMethod yX1_greatest, Cond.selects RX1 yX1_greatest yX1_greatest, Cond.initialized RX1, Cond.code yX1_greatest cX1_greatest 8 (some .long), Cond.methodLink RX1 36 Lib.Math.min.name, Cond.fieldLink RX1 26 "ArcLight$Circles" "nodes" "I"]
def wsX6_mend_r5 : List Cond := [Cond.fieldLink RX1 11 "ArcLight$Circles" "keys" "[[J", Cond.constantLong RX1 50 (-9223372036854775808), Cond.methodLink RX1 30 yX0_size, Cond.instanceMethod yX0_size, Cond.selects RX0 yX0_size yX0_size, Cond.code yX0_size cX0_size 1 (some .int), Cond.methodLink RX1 42 yX0_get, Cond.instanceMethod yX0_get, Cond.selects RX0 yX0_get yX0_get, Cond.code yX0_get cX0_get 3 (some .long), Cond.methodLink RX1 46 yX1_takeGreatest, Cond.instanceMethod yX1_takeGreatest, Cond.selects RX1 yX1_takeGreatest yX1_takeGreatest, Cond.code yX1_takeGreatest cX1_takeGreatest 5 (some .long), Cond.fieldLink RX1 19 "ArcLight$Circles" "taken" "[I", Cond.methodLink RX1 59 yX1_takenKey, Cond.instanceMethod yX1_takenKey, Cond.selects RX1 yX1_takenKey yX1_takenKey, Cond.code yX1_takenKey cX1_takenKey 3 (some .long), Cond.methodLink RX1 63 yX1_takenHead, Cond.instanceMethod yX1_takenHead, Cond.selects RX1 yX1_takenHead yX1_takenHead, Cond.code yX1_takenHead cX1_takenHead 2 (some .int), Cond.methodLink RX1 52 yX1_findCircle]
def wsX6_mend_r6 : List Cond := [Cond.instanceMethod yX1_findCircle, Cond.selects RX1 yX1_findCircle yX1_findCircle, Cond.code yX1_findCircle cX1_findCircle 4 (some .int), Cond.methodLink RX1 55 yX1_contract, Cond.instanceMethod yX1_contract, Cond.selects RX1 yX1_contract yX1_contract, Cond.code yX1_contract cX1_contract 7 none, Cond.fieldLink RX1 16 "ArcLight$Circles" "contracted" "[[J", Cond.fieldLink RX1 23 "ArcLight$Circles" "groups" "[I", Cond.methodLink RX1 71 yX1_groupNodes, Cond.instanceMethod yX1_groupNodes, Cond.selects RX1 yX1_groupNodes yX1_groupNodes, Cond.code yX1_groupNodes cX1_groupNodes 5 (some .int), Cond.methodLink RX1 84 yJ7_fill_53178, Cond.static yJ7_fill_53178, Cond.initialized RJ7, Cond.code yJ7_fill_53178 cJ7_fill_53178 4 none, Cond.methodLink RX1 74 yJ7_fill_d0a16, Cond.static yJ7_fill_d0a16, Cond.code yJ7_fill_d0a16 cJ7_fill_d0a16 5 none, Cond.methodLink RX1 80 yX1_offer, Cond.instanceMethod yX1_offer, Cond.selects RX1 yX1_offer yX1_offer, Cond.code yX1_offer cX1_offer 5 none]
def wsX6_mend_r7 : List Cond := [Cond.methodLink RX6 225 yX3_greatest, Cond.instanceMethod yX3_greatest, Cond.selects RX3 yX3_greatest yX3_greatest, Cond.initialized RX3, Cond.code yX3_greatest cX3_greatest 5 (some .long), Cond.methodLink RX3 31 Lib.Math.min.name, Cond.fieldLink RX3 11 "ArcLight$Spans" "wholeFromLeft" "[[J", Cond.fieldLink RX3 16 "ArcLight$Spans" "wholeFromRight" "[[J", Cond.constantLong RX3 45 (-9223372036854775808), Cond.methodLink RX3 25 yX0_size, Cond.methodLink RX3 37 yX3_fillOpen, Cond.instanceMethod yX3_fillOpen, Cond.selects RX3 yX3_fillOpen yX3_fillOpen, Cond.code yX3_fillOpen cX3_fillOpen 7 none, Cond.methodLink RX3 55 Lib.MathLoose.max_long.x, Cond.static Lib.MathLoose.max_long.x, Cond.code Lib.MathLoose.max_long.x Lib.MathLoose.max_long.code 4 (some .long), Cond.fieldLink RX3 19 "ArcLight$Spans" "openFromLeft" "[[J", Cond.fieldLink RX3 22 "ArcLight$Spans" "openFromRight" "[[J", Cond.methodLink RX3 51 yX3_join, Cond.static yX3_join, Cond.code yX3_join cX3_join 4 (some .long), Cond.methodLink RX3 58 yX0_get, Cond.methodLink RX3 41 yX3_fillWhole]
def wsX6_mend_r8 : List Cond := [Cond.instanceMethod yX3_fillWhole, Cond.selects RX3 yX3_fillWhole yX3_fillWhole, Cond.code yX3_fillWhole cX3_fillWhole 8 none, Cond.methodLink RX6 147 yX6_checkTree, Cond.static yX6_checkTree, Cond.code yX6_checkTree cX6_checkTree 2 none, Cond.constantLong RX6 210 (-9223372036854775808), Cond.methodLink RX6 97 yX5_keep, Cond.instanceMethod yX5_keep, Cond.selects RX5 yX5_keep yX5_keep, Cond.code yX5_keep cX5_keep 1 none, Cond.fieldLink RX5 39 "ArcLight$Weights" "next" "I", Cond.fieldLink RX5 25 "ArcLight$Weights" "oldWeights" "[[I", Cond.methodLink RX5 66 arraycopyName, Cond.native arraycopyName, Cond.static arraycopyName, Cond.initialized "java/lang/System", Cond.fieldLink RX5 15 "ArcLight$Weights" "sums" "[J", Cond.fieldLink RX5 30 "ArcLight$Weights" "oldSums" "[[J", Cond.fieldLink RX5 33 "ArcLight$Weights" "oldSteps" "[I", Cond.fieldLink RX5 19 "ArcLight$Weights" "steps" "I", Cond.fieldLink RX5 36 "ArcLight$Weights" "kept" "I", Cond.methodLink RX5 72 Lib.Math.min.name, Cond.methodLink RX5 63 yX5_isRow]
def wsX6_mend_r9 : List Cond := [Cond.static yX5_isRow, Cond.code yX5_isRow cX5_isRow 1 (some .boolean), Cond.methodLink RX6 71 yX2_size, Cond.methodLink RX6 166 yX2_rightHead, Cond.methodLink RX6 151 yX6_headIn, Cond.static yX6_headIn, Cond.code yX6_headIn cX6_headIn 6 (some .int), Cond.constantLong RX6 244 (7), Cond.methodLink RX6 240 yX6_rowOfHeads, Cond.static yX6_rowOfHeads, Cond.code yX6_rowOfHeads cX6_rowOfHeads 2 (some .long), Cond.constantLong RX6 232 (117649), Cond.methodLink RX6 234 yJ9_floorMod_f86c9, Cond.static yJ9_floorMod_f86c9, Cond.initialized RJ9, Cond.code yJ9_floorMod_f86c9 cJ9_floorMod_f86c9 6 (some .long), Cond.methodLink RX6 175 yX5_addToArc, Cond.instanceMethod yX5_addToArc, Cond.selects RX5 yX5_addToArc yX5_addToArc, Cond.code yX5_addToArc cX5_addToArc 7 none, Cond.methodLink RX5 59 yX5_put, Cond.instanceMethod yX5_put, Cond.selects RX5 yX5_put yX5_put, Cond.code yX5_put cX5_put 3 none]
def wsX6_mend_r10 : List Cond := [Cond.methodLink RX6 179 yX5_endStep, Cond.instanceMethod yX5_endStep, Cond.selects RX5 yX5_endStep yX5_endStep, Cond.code yX5_endStep cX5_endStep 2 none]
def wsX6_mend : List Cond := .code yX6_mend cX6_mend 9 (some .int) :: ((wsX6_mend_r1 ++ (wsX6_mend_r2 ++ (wsX6_mend_r3 ++ (wsX6_mend_r4 ++ (wsX6_mend_r5 ++ (wsX6_mend_r6 ++ (wsX6_mend_r7 ++ (wsX6_mend_r8 ++ (wsX6_mend_r9 ++ wsX6_mend_r10))))))))) ++ wsX60 ++ wsX20 ++ wsX00 ++ wsX50 ++ wsX10 ++ wsX30 ++ (vx_atS RX6 58 "java/lang/IllegalStateException" ["java/lang/RuntimeException", "java/lang/Exception"]).filter goodWord ++ (vx_atS RX6 201 "java/lang/IndexOutOfBoundsException" ["java/lang/RuntimeException", "java/lang/Exception"]).filter goodWord)
def wsX6_steps : List Cond := .code yX6_steps cX6_steps 1 (some .int) :: ([.fieldLink RX6 22 "ArcLight" "weights" "LArcLight$Weights;", .methodLink RX6 182 yX5_stepCount, .instanceMethod yX5_stepCount, .selects RX5 yX5_stepCount yX5_stepCount, .initialized RX5, .code yX5_stepCount cX5_stepCount 1 (some .int), .fieldLink RX5 19 "ArcLight$Weights" "steps" "I"] ++ wsX60 ++ wsX50)
def wsX6_average : List Cond := .code yX6_average cX6_average 2 (some .double) :: ([.fieldLink RX6 22 "ArcLight" "weights" "LArcLight$Weights;", .methodLink RX6 89 yX6_checkFeature, .static yX6_checkFeature, .initialized RX6, .code yX6_checkFeature cX6_checkFeature 1 none, .classLink RX6 197 "java/lang/IndexOutOfBoundsException", .initialized "java/lang/IndexOutOfBoundsException", .methodLink RX6 185 yX5_averageOf, .instanceMethod yX5_averageOf, .selects RX5 yX5_averageOf yX5_averageOf, .initialized RX5, .code yX5_averageOf cX5_averageOf 2 (some .double), .fieldLink RX5 19 "ArcLight$Weights" "steps" "I", .fieldLink RX5 15 "ArcLight$Weights" "sums" "[J", .methodLink RX5 42 yX5_isFeature, .static yX5_isFeature, .code yX5_isFeature cX5_isFeature 1 (some .boolean)] ++ wsX60 ++ wsX50 ++ (vx_atS RX6 201 "java/lang/IndexOutOfBoundsException" ["java/lang/RuntimeException", "java/lang/Exception"]).filter goodWord)
def wsX6_rollBack_r1 : List Cond := [Cond.classLink RX6 54 "java/lang/IllegalStateException", Cond.initialized "java/lang/IllegalStateException", Cond.fieldLink RX6 22 "ArcLight" "weights" "LArcLight$Weights;", Cond.methodLink RX6 189 yX5_keptCount, Cond.instanceMethod yX5_keptCount, Cond.selects RX5 yX5_keptCount yX5_keptCount, Cond.initialized RX5, Cond.code yX5_keptCount cX5_keptCount 1 (some .int), Cond.fieldLink RX5 36 "ArcLight$Weights" "kept" "I", Cond.methodLink RX6 194 yX5_takeBack, Cond.instanceMethod yX5_takeBack, Cond.selects RX5 yX5_takeBack yX5_takeBack, Cond.code yX5_takeBack cX5_takeBack 2 none, Cond.fieldLink RX5 39 "ArcLight$Weights" "next" "I", Cond.fieldLink RX5 25 "ArcLight$Weights" "oldWeights" "[[I", Cond.fieldLink RX5 9 "ArcLight$Weights" "now" "[I", Cond.methodLink RX5 66 arraycopyName, Cond.native arraycopyName, Cond.static arraycopyName, Cond.initialized "java/lang/System", Cond.fieldLink RX5 30 "ArcLight$Weights" "oldSums" "[[J", Cond.fieldLink RX5 15 "ArcLight$Weights" "sums" "[J", Cond.fieldLink RX5 33 "ArcLight$Weights" "oldSteps" "[I", Cond.fieldLink RX5 19 "ArcLight$Weights" "steps" "I"]
def wsX6_rollBack_r2 : List Cond := [Cond.methodLink RX5 63 yX5_isRow, Cond.static yX5_isRow, Cond.code yX5_isRow cX5_isRow 1 (some .boolean)]
def wsX6_rollBack : List Cond := .code yX6_rollBack cX6_rollBack 1 (some .int) :: ((wsX6_rollBack_r1 ++ wsX6_rollBack_r2) ++ wsX60 ++ wsX50 ++ (vx_atS RX6 58 "java/lang/IllegalStateException" ["java/lang/RuntimeException", "java/lang/Exception"]).filter goodWord)
def wsX7_init : List Cond := .code yX7_init cX7_init 1 none :: ([.methodLink RX7 1 objectInit, .instanceMethod objectInit, .code objectInit ⟨#[0xb1]⟩ 1 none, .arrayClass .int, .fieldLink RX7 7 "ArcLightModel" "words" "[I", .fieldLink RX7 13 "ArcLightModel" "kind" "[I", .fieldLink RX7 16 "ArcLightModel" "mark" "[I", .fieldLink RX7 19 "ArcLightModel" "right" "[I", .fieldLink RX7 22 "ArcLightModel" "weight" "[I", .arrayClass .long, .fieldLink RX7 25 "ArcLightModel" "sum" "[J", .fieldLink RX7 29 "ArcLightModel" "was" "[I", .fieldLink RX7 32 "ArcLightModel" "weights" "[I", .fieldLink RX7 35 "ArcLightModel" "tree" "[J", .fieldLink RX7 38 "ArcLightModel" "listed" "I", .fieldLink RX7 42 "ArcLightModel" "bestKey" "[J", .fieldLink RX7 45 "ArcLightModel" "count" "[I", .arrayClass .boolean, .fieldLink RX7 48 "ArcLightModel" "isFound" "[Z", .fieldLink RX7 52 "ArcLightModel" "head" "[I"] ++ wsX70)
def wsX7_thrown : List Cond := .code yX7_thrown cX7_thrown 1 (some .int) :: ([.fieldLink RX7 55 "ArcLightModel" "thrown" "I"] ++ wsX70)
def wsX7_fails : List Cond := .code yX7_fails cX7_fails 2 (some .int) :: ([.fieldLink RX7 55 "ArcLightModel" "thrown" "I"] ++ wsX70)
def wsX7_asks : List Cond := .code yX7_asks cX7_asks 2 (some .boolean) :: ([.fieldLink RX7 55 "ArcLightModel" "thrown" "I"] ++ wsX70)
def wsX7_changed : List Cond := .code yX7_changed cX7_changed 2 none :: ([.fieldLink RX7 38 "ArcLightModel" "listed" "I", .fieldLink RX7 48 "ArcLightModel" "isFound" "[Z"] ++ wsX70)
def wsX7_isSentence : List Cond := .code yX7_isSentence cX7_isSentence 2 (some .boolean) :: ([.fieldLink RX7 58 "ArcLightModel" "sentences" "I"] ++ wsX70)
def wsX7_isWord : List Cond := .code yX7_isWord cX7_isWord 3 (some .boolean) :: ([.fieldLink RX7 7 "ArcLightModel" "words" "[I", .methodLink RX7 61 yX7_isSentence, .instanceMethod yX7_isSentence, .selects RX7 yX7_isSentence yX7_isSentence, .initialized RX7, .code yX7_isSentence cX7_isSentence 2 (some .boolean), .fieldLink RX7 58 "ArcLightModel" "sentences" "I"] ++ wsX70)
def wsX7_isPlace : List Cond := .code yX7_isPlace cX7_isPlace 3 (some .boolean) :: ([.fieldLink RX7 7 "ArcLightModel" "words" "[I", .methodLink RX7 61 yX7_isSentence, .instanceMethod yX7_isSentence, .selects RX7 yX7_isSentence yX7_isSentence, .initialized RX7, .code yX7_isSentence cX7_isSentence 2 (some .boolean), .fieldLink RX7 58 "ArcLightModel" "sentences" "I"] ++ wsX70)
def wsX7_addSentence : List Cond := .code yX7_addSentence cX7_addSentence 1 (some .int) :: ([.fieldLink RX7 58 "ArcLightModel" "sentences" "I", .methodLink RX7 65 yX7_asks, .instanceMethod yX7_asks, .selects RX7 yX7_asks yX7_asks, .initialized RX7, .code yX7_asks cX7_asks 2 (some .boolean), .fieldLink RX7 55 "ArcLightModel" "thrown" "I"] ++ wsX70)
def wsX7_addWord : List Cond := .code yX7_addWord cX7_addWord 3 (some .int) :: ([.fieldLink RX7 7 "ArcLightModel" "words" "[I", .fieldLink RX7 13 "ArcLightModel" "kind" "[I", .fieldLink RX7 19 "ArcLightModel" "right" "[I", .methodLink RX7 61 yX7_isSentence, .instanceMethod yX7_isSentence, .selects RX7 yX7_isSentence yX7_isSentence, .initialized RX7, .code yX7_isSentence cX7_isSentence 2 (some .boolean), .fieldLink RX7 58 "ArcLightModel" "sentences" "I", .methodLink RX7 65 yX7_asks, .instanceMethod yX7_asks, .selects RX7 yX7_asks yX7_asks, .code yX7_asks cX7_asks 2 (some .boolean), .fieldLink RX7 55 "ArcLightModel" "thrown" "I", .methodLink RX7 69 yX7_fails, .instanceMethod yX7_fails, .selects RX7 yX7_fails yX7_fails, .code yX7_fails cX7_fails 2 (some .int), .methodLink RX7 73 yX7_changed, .instanceMethod yX7_changed, .selects RX7 yX7_changed yX7_changed, .code yX7_changed cX7_changed 2 none, .fieldLink RX7 38 "ArcLightModel" "listed" "I", .fieldLink RX7 48 "ArcLightModel" "isFound" "[Z"] ++ wsX70)
def wsX7_sentences : List Cond := .code yX7_sentences cX7_sentences 1 (some .int) :: ([.fieldLink RX7 55 "ArcLightModel" "thrown" "I", .fieldLink RX7 58 "ArcLightModel" "sentences" "I"] ++ wsX70)
def wsX7_words : List Cond := .code yX7_words cX7_words 2 (some .int) :: ([.fieldLink RX7 7 "ArcLightModel" "words" "[I", .methodLink RX7 61 yX7_isSentence, .instanceMethod yX7_isSentence, .selects RX7 yX7_isSentence yX7_isSentence, .initialized RX7, .code yX7_isSentence cX7_isSentence 2 (some .boolean), .fieldLink RX7 58 "ArcLightModel" "sentences" "I", .methodLink RX7 65 yX7_asks, .instanceMethod yX7_asks, .selects RX7 yX7_asks yX7_asks, .code yX7_asks cX7_asks 2 (some .boolean), .fieldLink RX7 55 "ArcLightModel" "thrown" "I"] ++ wsX70)
def wsX7_kind : List Cond := .code yX7_kind cX7_kind 3 (some .int) :: ([.fieldLink RX7 13 "ArcLightModel" "kind" "[I", .methodLink RX7 76 yX7_isWord, .instanceMethod yX7_isWord, .selects RX7 yX7_isWord yX7_isWord, .initialized RX7, .code yX7_isWord cX7_isWord 3 (some .boolean), .fieldLink RX7 7 "ArcLightModel" "words" "[I", .methodLink RX7 61 yX7_isSentence, .instanceMethod yX7_isSentence, .selects RX7 yX7_isSentence yX7_isSentence, .code yX7_isSentence cX7_isSentence 2 (some .boolean), .fieldLink RX7 58 "ArcLightModel" "sentences" "I", .methodLink RX7 65 yX7_asks, .instanceMethod yX7_asks, .selects RX7 yX7_asks yX7_asks, .code yX7_asks cX7_asks 2 (some .boolean), .fieldLink RX7 55 "ArcLightModel" "thrown" "I"] ++ wsX70)
def wsX7_remembers : List Cond := .code yX7_remembers cX7_remembers 4 none :: ([.fieldLink RX7 80 "ArcLightModel" "first" "I", .fieldLink RX7 83 "ArcLightModel" "back" "I", .fieldLink RX7 29 "ArcLightModel" "was" "[I", .fieldLink RX7 32 "ArcLightModel" "weights" "[I", .fieldLink RX7 22 "ArcLightModel" "weight" "[I"] ++ wsX70)
def wsX7_setWeight_r1 : List Cond := [Cond.fieldLink RX7 22 "ArcLightModel" "weight" "[I", Cond.methodLink RX7 65 yX7_asks, Cond.instanceMethod yX7_asks, Cond.selects RX7 yX7_asks yX7_asks, Cond.initialized RX7, Cond.code yX7_asks cX7_asks 2 (some .boolean), Cond.fieldLink RX7 55 "ArcLightModel" "thrown" "I", Cond.methodLink RX7 69 yX7_fails, Cond.instanceMethod yX7_fails, Cond.selects RX7 yX7_fails yX7_fails, Cond.code yX7_fails cX7_fails 2 (some .int), Cond.methodLink RX7 86 yX7_remembers, Cond.instanceMethod yX7_remembers, Cond.selects RX7 yX7_remembers yX7_remembers, Cond.code yX7_remembers cX7_remembers 4 none, Cond.fieldLink RX7 80 "ArcLightModel" "first" "I", Cond.fieldLink RX7 83 "ArcLightModel" "back" "I", Cond.fieldLink RX7 29 "ArcLightModel" "was" "[I", Cond.fieldLink RX7 32 "ArcLightModel" "weights" "[I", Cond.methodLink RX7 73 yX7_changed, Cond.instanceMethod yX7_changed, Cond.selects RX7 yX7_changed yX7_changed, Cond.code yX7_changed cX7_changed 2 none, Cond.fieldLink RX7 38 "ArcLightModel" "listed" "I"]
def wsX7_setWeight_r2 : List Cond := [Cond.fieldLink RX7 48 "ArcLightModel" "isFound" "[Z"]
def wsX7_setWeight : List Cond := .code yX7_setWeight cX7_setWeight 4 (some .int) :: ((wsX7_setWeight_r1 ++ wsX7_setWeight_r2) ++ wsX70)
def wsX7_weight : List Cond := .code yX7_weight cX7_weight 2 (some .int) :: ([.fieldLink RX7 22 "ArcLightModel" "weight" "[I", .methodLink RX7 65 yX7_asks, .instanceMethod yX7_asks, .selects RX7 yX7_asks yX7_asks, .initialized RX7, .code yX7_asks cX7_asks 2 (some .boolean), .fieldLink RX7 55 "ArcLightModel" "thrown" "I"] ++ wsX70)
def wsX7_byKind : List Cond := .code yX7_byKind cX7_byKind 4 (some .int) :: ([.fieldLink RX7 13 "ArcLightModel" "kind" "[I"] ++ wsX70)
def wsX7_byDistance : List Cond := .code yX7_byDistance cX7_byDistance 3 (some .int) :: ([])
def wsX7_scoreOf : List Cond := .code yX7_scoreOf cX7_scoreOf 4 (some .int) :: ([.fieldLink RX7 22 "ArcLightModel" "weight" "[I", .methodLink RX7 90 yX7_byKind, .instanceMethod yX7_byKind, .selects RX7 yX7_byKind yX7_byKind, .initialized RX7, .code yX7_byKind cX7_byKind 4 (some .int), .fieldLink RX7 13 "ArcLightModel" "kind" "[I", .methodLink RX7 94 yX7_byDistance, .static yX7_byDistance, .code yX7_byDistance cX7_byDistance 3 (some .int)] ++ wsX70)
def wsX7_asksArc : List Cond := .code yX7_asksArc cX7_asksArc 4 (some .boolean) :: ([.fieldLink RX7 55 "ArcLightModel" "thrown" "I", .methodLink RX7 98 yX7_isPlace, .instanceMethod yX7_isPlace, .selects RX7 yX7_isPlace yX7_isPlace, .initialized RX7, .code yX7_isPlace cX7_isPlace 3 (some .boolean), .fieldLink RX7 7 "ArcLightModel" "words" "[I", .methodLink RX7 61 yX7_isSentence, .instanceMethod yX7_isSentence, .selects RX7 yX7_isSentence yX7_isSentence, .code yX7_isSentence cX7_isSentence 2 (some .boolean), .fieldLink RX7 58 "ArcLightModel" "sentences" "I", .methodLink RX7 76 yX7_isWord, .instanceMethod yX7_isWord, .selects RX7 yX7_isWord yX7_isWord, .code yX7_isWord cX7_isWord 3 (some .boolean)] ++ wsX70)
def wsX7_feature_r1 : List Cond := [Cond.methodLink RX7 101 yX7_asksArc, Cond.instanceMethod yX7_asksArc, Cond.selects RX7 yX7_asksArc yX7_asksArc, Cond.initialized RX7, Cond.code yX7_asksArc cX7_asksArc 4 (some .boolean), Cond.fieldLink RX7 55 "ArcLightModel" "thrown" "I", Cond.methodLink RX7 98 yX7_isPlace, Cond.instanceMethod yX7_isPlace, Cond.selects RX7 yX7_isPlace yX7_isPlace, Cond.code yX7_isPlace cX7_isPlace 3 (some .boolean), Cond.fieldLink RX7 7 "ArcLightModel" "words" "[I", Cond.methodLink RX7 61 yX7_isSentence, Cond.instanceMethod yX7_isSentence, Cond.selects RX7 yX7_isSentence yX7_isSentence, Cond.code yX7_isSentence cX7_isSentence 2 (some .boolean), Cond.fieldLink RX7 58 "ArcLightModel" "sentences" "I", Cond.methodLink RX7 76 yX7_isWord, Cond.instanceMethod yX7_isWord, Cond.selects RX7 yX7_isWord yX7_isWord, Cond.code yX7_isWord cX7_isWord 3 (some .boolean), Cond.methodLink RX7 94 yX7_byDistance, Cond.static yX7_byDistance, Cond.code yX7_byDistance cX7_byDistance 3 (some .int), Cond.methodLink RX7 90 yX7_byKind]
def wsX7_feature_r2 : List Cond := [Cond.instanceMethod yX7_byKind, Cond.selects RX7 yX7_byKind yX7_byKind, Cond.code yX7_byKind cX7_byKind 4 (some .int), Cond.fieldLink RX7 13 "ArcLightModel" "kind" "[I"]
def wsX7_feature : List Cond := .code yX7_feature cX7_feature 5 (some .int) :: ((wsX7_feature_r1 ++ wsX7_feature_r2) ++ wsX70)
def wsX7_score_r1 : List Cond := [Cond.methodLink RX7 101 yX7_asksArc, Cond.instanceMethod yX7_asksArc, Cond.selects RX7 yX7_asksArc yX7_asksArc, Cond.initialized RX7, Cond.code yX7_asksArc cX7_asksArc 4 (some .boolean), Cond.fieldLink RX7 55 "ArcLightModel" "thrown" "I", Cond.methodLink RX7 98 yX7_isPlace, Cond.instanceMethod yX7_isPlace, Cond.selects RX7 yX7_isPlace yX7_isPlace, Cond.code yX7_isPlace cX7_isPlace 3 (some .boolean), Cond.fieldLink RX7 7 "ArcLightModel" "words" "[I", Cond.methodLink RX7 61 yX7_isSentence, Cond.instanceMethod yX7_isSentence, Cond.selects RX7 yX7_isSentence yX7_isSentence, Cond.code yX7_isSentence cX7_isSentence 2 (some .boolean), Cond.fieldLink RX7 58 "ArcLightModel" "sentences" "I", Cond.methodLink RX7 76 yX7_isWord, Cond.instanceMethod yX7_isWord, Cond.selects RX7 yX7_isWord yX7_isWord, Cond.code yX7_isWord cX7_isWord 3 (some .boolean), Cond.methodLink RX7 105 yX7_scoreOf, Cond.instanceMethod yX7_scoreOf, Cond.selects RX7 yX7_scoreOf yX7_scoreOf, Cond.code yX7_scoreOf cX7_scoreOf 4 (some .int)]
def wsX7_score_r2 : List Cond := [Cond.fieldLink RX7 22 "ArcLightModel" "weight" "[I", Cond.methodLink RX7 90 yX7_byKind, Cond.instanceMethod yX7_byKind, Cond.selects RX7 yX7_byKind yX7_byKind, Cond.code yX7_byKind cX7_byKind 4 (some .int), Cond.fieldLink RX7 13 "ArcLightModel" "kind" "[I", Cond.methodLink RX7 94 yX7_byDistance, Cond.static yX7_byDistance, Cond.code yX7_byDistance cX7_byDistance 3 (some .int)]
def wsX7_score : List Cond := .code yX7_score cX7_score 4 (some .int) :: ((wsX7_score_r1 ++ wsX7_score_r2) ++ wsX70)
def wsX7_arc : List Cond := .code yX7_arc cX7_arc 4 (some .int) :: ([])
def wsX7_mark_r1 : List Cond := [Cond.fieldLink RX7 16 "ArcLightModel" "mark" "[I", Cond.methodLink RX7 101 yX7_asksArc, Cond.instanceMethod yX7_asksArc, Cond.selects RX7 yX7_asksArc yX7_asksArc, Cond.initialized RX7, Cond.code yX7_asksArc cX7_asksArc 4 (some .boolean), Cond.fieldLink RX7 55 "ArcLightModel" "thrown" "I", Cond.methodLink RX7 98 yX7_isPlace, Cond.instanceMethod yX7_isPlace, Cond.selects RX7 yX7_isPlace yX7_isPlace, Cond.code yX7_isPlace cX7_isPlace 3 (some .boolean), Cond.fieldLink RX7 7 "ArcLightModel" "words" "[I", Cond.methodLink RX7 61 yX7_isSentence, Cond.instanceMethod yX7_isSentence, Cond.selects RX7 yX7_isSentence yX7_isSentence, Cond.code yX7_isSentence cX7_isSentence 2 (some .boolean), Cond.fieldLink RX7 58 "ArcLightModel" "sentences" "I", Cond.methodLink RX7 76 yX7_isWord, Cond.instanceMethod yX7_isWord, Cond.selects RX7 yX7_isWord yX7_isWord, Cond.code yX7_isWord cX7_isWord 3 (some .boolean), Cond.methodLink RX7 69 yX7_fails, Cond.instanceMethod yX7_fails, Cond.selects RX7 yX7_fails yX7_fails]
def wsX7_mark_r2 : List Cond := [Cond.code yX7_fails cX7_fails 2 (some .int), Cond.methodLink RX7 108 yX7_arc, Cond.instanceMethod yX7_arc, Cond.selects RX7 yX7_arc yX7_arc, Cond.code yX7_arc cX7_arc 4 (some .int), Cond.methodLink RX7 73 yX7_changed, Cond.instanceMethod yX7_changed, Cond.selects RX7 yX7_changed yX7_changed, Cond.code yX7_changed cX7_changed 2 none, Cond.fieldLink RX7 38 "ArcLightModel" "listed" "I", Cond.fieldLink RX7 48 "ArcLightModel" "isFound" "[Z"]
def wsX7_mark : List Cond := .code yX7_mark cX7_mark 7 (some .int) :: ((wsX7_mark_r1 ++ wsX7_mark_r2) ++ wsX70)
def wsX7_isBetween : List Cond := .code yX7_isBetween cX7_isBetween 3 (some .boolean) :: ([])
def wsX7_isBeyond : List Cond := .code yX7_isBeyond cX7_isBeyond 3 (some .boolean) :: ([])
def wsX7_doCross : List Cond := .code yX7_doCross cX7_doCross 4 (some .boolean) :: ([.fieldLink RX7 52 "ArcLightModel" "head" "[I", .methodLink RX7 111 yX7_isBetween, .static yX7_isBetween, .initialized RX7, .code yX7_isBetween cX7_isBetween 3 (some .boolean), .methodLink RX7 114 yX7_isBeyond, .static yX7_isBeyond, .code yX7_isBeyond cX7_isBeyond 3 (some .boolean)] ++ wsX70)
def wsX7_may : List Cond := .code yX7_may cX7_may 8 (some .boolean) :: ([.fieldLink RX7 52 "ArcLightModel" "head" "[I", .fieldLink RX7 16 "ArcLightModel" "mark" "[I", .fieldLink RX7 7 "ArcLightModel" "words" "[I", .methodLink RX7 108 yX7_arc, .instanceMethod yX7_arc, .selects RX7 yX7_arc yX7_arc, .initialized RX7, .code yX7_arc cX7_arc 4 (some .int), .methodLink RX7 117 yX7_doCross, .instanceMethod yX7_doCross, .selects RX7 yX7_doCross yX7_doCross, .code yX7_doCross cX7_doCross 4 (some .boolean), .methodLink RX7 111 yX7_isBetween, .static yX7_isBetween, .code yX7_isBetween cX7_isBetween 3 (some .boolean), .methodLink RX7 114 yX7_isBeyond, .static yX7_isBeyond, .code yX7_isBeyond cX7_isBeyond 3 (some .boolean)] ++ wsX70)
def wsX7_keyOf : List Cond := .code yX7_keyOf cX7_keyOf 5 (some .long) :: ([.fieldLink RX7 7 "ArcLightModel" "words" "[I", .fieldLink RX7 52 "ArcLightModel" "head" "[I", .constant RX7 120 (100000), .methodLink RX7 105 yX7_scoreOf, .instanceMethod yX7_scoreOf, .selects RX7 yX7_scoreOf yX7_scoreOf, .initialized RX7, .code yX7_scoreOf cX7_scoreOf 4 (some .int), .fieldLink RX7 22 "ArcLightModel" "weight" "[I", .methodLink RX7 90 yX7_byKind, .instanceMethod yX7_byKind, .selects RX7 yX7_byKind yX7_byKind, .code yX7_byKind cX7_byKind 4 (some .int), .fieldLink RX7 13 "ArcLightModel" "kind" "[I", .methodLink RX7 94 yX7_byDistance, .static yX7_byDistance, .code yX7_byDistance cX7_byDistance 3 (some .int)] ++ wsX70)
def wsX7_walks_r1 : List Cond := [Cond.fieldLink RX7 7 "ArcLightModel" "words" "[I", Cond.constantLong RX7 121 (4611686018427387904), Cond.fieldLink RX7 123 "ArcLightModel" "many" "I", Cond.fieldLink RX7 52 "ArcLightModel" "head" "[I", Cond.fieldLink RX7 35 "ArcLightModel" "tree" "[J", Cond.fieldLink RX7 42 "ArcLightModel" "bestKey" "[J", Cond.fieldLink RX7 45 "ArcLightModel" "count" "[I", Cond.fieldLink RX7 48 "ArcLightModel" "isFound" "[Z", Cond.methodLink RX7 126 yX7_keyOf, Cond.instanceMethod yX7_keyOf, Cond.selects RX7 yX7_keyOf yX7_keyOf, Cond.initialized RX7, Cond.code yX7_keyOf cX7_keyOf 5 (some .long), Cond.constant RX7 120 (100000), Cond.methodLink RX7 105 yX7_scoreOf, Cond.instanceMethod yX7_scoreOf, Cond.selects RX7 yX7_scoreOf yX7_scoreOf, Cond.code yX7_scoreOf cX7_scoreOf 4 (some .int), Cond.fieldLink RX7 22 "ArcLightModel" "weight" "[I", Cond.methodLink RX7 90 yX7_byKind, Cond.instanceMethod yX7_byKind, Cond.selects RX7 yX7_byKind yX7_byKind, Cond.code yX7_byKind cX7_byKind 4 (some .int), Cond.fieldLink RX7 13 "ArcLightModel" "kind" "[I"]
def wsX7_walks_r2 : List Cond := [Cond.methodLink RX7 94 yX7_byDistance, Cond.static yX7_byDistance, Cond.code yX7_byDistance cX7_byDistance 3 (some .int), Cond.methodLink RX7 130 yX7_may, Cond.instanceMethod yX7_may, Cond.selects RX7 yX7_may yX7_may, Cond.code yX7_may cX7_may 8 (some .boolean), Cond.fieldLink RX7 16 "ArcLightModel" "mark" "[I", Cond.methodLink RX7 108 yX7_arc, Cond.instanceMethod yX7_arc, Cond.selects RX7 yX7_arc yX7_arc, Cond.code yX7_arc cX7_arc 4 (some .int), Cond.methodLink RX7 117 yX7_doCross, Cond.instanceMethod yX7_doCross, Cond.selects RX7 yX7_doCross yX7_doCross, Cond.code yX7_doCross cX7_doCross 4 (some .boolean), Cond.methodLink RX7 111 yX7_isBetween, Cond.static yX7_isBetween, Cond.code yX7_isBetween cX7_isBetween 3 (some .boolean), Cond.methodLink RX7 114 yX7_isBeyond, Cond.static yX7_isBeyond, Cond.code yX7_isBeyond cX7_isBeyond 3 (some .boolean)]
def wsX7_walks : List Cond := .code yX7_walks cX7_walks 11 none :: ((wsX7_walks_r1 ++ wsX7_walks_r2) ++ wsX70)
def wsX7_finds_r1 : List Cond := [Cond.fieldLink RX7 48 "ArcLightModel" "isFound" "[Z", Cond.fieldLink RX7 38 "ArcLightModel" "listed" "I", Cond.methodLink RX7 134 yX7_walks, Cond.instanceMethod yX7_walks, Cond.selects RX7 yX7_walks yX7_walks, Cond.initialized RX7, Cond.code yX7_walks cX7_walks 11 none, Cond.fieldLink RX7 7 "ArcLightModel" "words" "[I", Cond.constantLong RX7 121 (4611686018427387904), Cond.fieldLink RX7 123 "ArcLightModel" "many" "I", Cond.fieldLink RX7 52 "ArcLightModel" "head" "[I", Cond.fieldLink RX7 35 "ArcLightModel" "tree" "[J", Cond.fieldLink RX7 42 "ArcLightModel" "bestKey" "[J", Cond.fieldLink RX7 45 "ArcLightModel" "count" "[I", Cond.methodLink RX7 126 yX7_keyOf, Cond.instanceMethod yX7_keyOf, Cond.selects RX7 yX7_keyOf yX7_keyOf, Cond.code yX7_keyOf cX7_keyOf 5 (some .long), Cond.constant RX7 120 (100000), Cond.methodLink RX7 105 yX7_scoreOf, Cond.instanceMethod yX7_scoreOf, Cond.selects RX7 yX7_scoreOf yX7_scoreOf, Cond.code yX7_scoreOf cX7_scoreOf 4 (some .int), Cond.fieldLink RX7 22 "ArcLightModel" "weight" "[I"]
def wsX7_finds_r2 : List Cond := [Cond.methodLink RX7 90 yX7_byKind, Cond.instanceMethod yX7_byKind, Cond.selects RX7 yX7_byKind yX7_byKind, Cond.code yX7_byKind cX7_byKind 4 (some .int), Cond.fieldLink RX7 13 "ArcLightModel" "kind" "[I", Cond.methodLink RX7 94 yX7_byDistance, Cond.static yX7_byDistance, Cond.code yX7_byDistance cX7_byDistance 3 (some .int), Cond.methodLink RX7 130 yX7_may, Cond.instanceMethod yX7_may, Cond.selects RX7 yX7_may yX7_may, Cond.code yX7_may cX7_may 8 (some .boolean), Cond.fieldLink RX7 16 "ArcLightModel" "mark" "[I", Cond.methodLink RX7 108 yX7_arc, Cond.instanceMethod yX7_arc, Cond.selects RX7 yX7_arc yX7_arc, Cond.code yX7_arc cX7_arc 4 (some .int), Cond.methodLink RX7 117 yX7_doCross, Cond.instanceMethod yX7_doCross, Cond.selects RX7 yX7_doCross yX7_doCross, Cond.code yX7_doCross cX7_doCross 4 (some .boolean), Cond.methodLink RX7 111 yX7_isBetween, Cond.static yX7_isBetween, Cond.code yX7_isBetween cX7_isBetween 3 (some .boolean)]
def wsX7_finds_r3 : List Cond := [Cond.methodLink RX7 114 yX7_isBeyond, Cond.static yX7_isBeyond, Cond.code yX7_isBeyond cX7_isBeyond 3 (some .boolean)]
def wsX7_finds : List Cond := .code yX7_finds cX7_finds 4 (some .int) :: ((wsX7_finds_r1 ++ (wsX7_finds_r2 ++ wsX7_finds_r3)) ++ wsX70)
def wsX7_sinks : List Cond := .code yX7_sinks cX7_sinks 8 none :: ([.fieldLink RX7 35 "ArcLightModel" "tree" "[J"] ++ wsX70)
def wsX7_lists_r1 : List Cond := [Cond.fieldLink RX7 38 "ArcLightModel" "listed" "I", Cond.fieldLink RX7 123 "ArcLightModel" "many" "I", Cond.fieldLink RX7 35 "ArcLightModel" "tree" "[J", Cond.methodLink RX7 134 yX7_walks, Cond.instanceMethod yX7_walks, Cond.selects RX7 yX7_walks yX7_walks, Cond.initialized RX7, Cond.code yX7_walks cX7_walks 11 none, Cond.fieldLink RX7 7 "ArcLightModel" "words" "[I", Cond.constantLong RX7 121 (4611686018427387904), Cond.fieldLink RX7 52 "ArcLightModel" "head" "[I", Cond.fieldLink RX7 42 "ArcLightModel" "bestKey" "[J", Cond.fieldLink RX7 45 "ArcLightModel" "count" "[I", Cond.fieldLink RX7 48 "ArcLightModel" "isFound" "[Z", Cond.methodLink RX7 126 yX7_keyOf, Cond.instanceMethod yX7_keyOf, Cond.selects RX7 yX7_keyOf yX7_keyOf, Cond.code yX7_keyOf cX7_keyOf 5 (some .long), Cond.constant RX7 120 (100000), Cond.methodLink RX7 105 yX7_scoreOf, Cond.instanceMethod yX7_scoreOf, Cond.selects RX7 yX7_scoreOf yX7_scoreOf, Cond.code yX7_scoreOf cX7_scoreOf 4 (some .int), Cond.fieldLink RX7 22 "ArcLightModel" "weight" "[I"]
def wsX7_lists_r2 : List Cond := [Cond.methodLink RX7 90 yX7_byKind, Cond.instanceMethod yX7_byKind, Cond.selects RX7 yX7_byKind yX7_byKind, Cond.code yX7_byKind cX7_byKind 4 (some .int), Cond.fieldLink RX7 13 "ArcLightModel" "kind" "[I", Cond.methodLink RX7 94 yX7_byDistance, Cond.static yX7_byDistance, Cond.code yX7_byDistance cX7_byDistance 3 (some .int), Cond.methodLink RX7 130 yX7_may, Cond.instanceMethod yX7_may, Cond.selects RX7 yX7_may yX7_may, Cond.code yX7_may cX7_may 8 (some .boolean), Cond.fieldLink RX7 16 "ArcLightModel" "mark" "[I", Cond.methodLink RX7 108 yX7_arc, Cond.instanceMethod yX7_arc, Cond.selects RX7 yX7_arc yX7_arc, Cond.code yX7_arc cX7_arc 4 (some .int), Cond.methodLink RX7 117 yX7_doCross, Cond.instanceMethod yX7_doCross, Cond.selects RX7 yX7_doCross yX7_doCross, Cond.code yX7_doCross cX7_doCross 4 (some .boolean), Cond.methodLink RX7 111 yX7_isBetween, Cond.static yX7_isBetween, Cond.code yX7_isBetween cX7_isBetween 3 (some .boolean)]
def wsX7_lists_r3 : List Cond := [Cond.methodLink RX7 114 yX7_isBeyond, Cond.static yX7_isBeyond, Cond.code yX7_isBeyond cX7_isBeyond 3 (some .boolean), Cond.methodLink RX7 138 yX7_sinks, Cond.instanceMethod yX7_sinks, Cond.selects RX7 yX7_sinks yX7_sinks, Cond.code yX7_sinks cX7_sinks 8 none]
def wsX7_lists : List Cond := .code yX7_lists cX7_lists 7 none :: ((wsX7_lists_r1 ++ (wsX7_lists_r2 ++ wsX7_lists_r3)) ++ wsX70)
def wsX7_scoreIn : List Cond := .code yX7_scoreIn cX7_scoreIn 3 (some .int) :: ([.constant RX7 120 (100000)])
def wsX7_headIn : List Cond := .code yX7_headIn cX7_headIn 5 (some .int) :: ([.fieldLink RX7 7 "ArcLightModel" "words" "[I", .constantLong RX7 142 (7)] ++ wsX70)
def wsX7_trees_r1 : List Cond := [Cond.fieldLink RX7 45 "ArcLightModel" "count" "[I", Cond.methodLink RX7 61 yX7_isSentence, Cond.instanceMethod yX7_isSentence, Cond.selects RX7 yX7_isSentence yX7_isSentence, Cond.initialized RX7, Cond.code yX7_isSentence cX7_isSentence 2 (some .boolean), Cond.fieldLink RX7 58 "ArcLightModel" "sentences" "I", Cond.methodLink RX7 65 yX7_asks, Cond.instanceMethod yX7_asks, Cond.selects RX7 yX7_asks yX7_asks, Cond.code yX7_asks cX7_asks 2 (some .boolean), Cond.fieldLink RX7 55 "ArcLightModel" "thrown" "I", Cond.methodLink RX7 144 yX7_finds, Cond.instanceMethod yX7_finds, Cond.selects RX7 yX7_finds yX7_finds, Cond.code yX7_finds cX7_finds 4 (some .int), Cond.fieldLink RX7 48 "ArcLightModel" "isFound" "[Z", Cond.fieldLink RX7 38 "ArcLightModel" "listed" "I", Cond.methodLink RX7 134 yX7_walks, Cond.instanceMethod yX7_walks, Cond.selects RX7 yX7_walks yX7_walks, Cond.code yX7_walks cX7_walks 11 none, Cond.fieldLink RX7 7 "ArcLightModel" "words" "[I", Cond.constantLong RX7 121 (4611686018427387904)]
def wsX7_trees_r2 : List Cond := [Cond.fieldLink RX7 123 "ArcLightModel" "many" "I", Cond.fieldLink RX7 52 "ArcLightModel" "head" "[I", Cond.fieldLink RX7 35 "ArcLightModel" "tree" "[J", Cond.fieldLink RX7 42 "ArcLightModel" "bestKey" "[J", Cond.methodLink RX7 126 yX7_keyOf, Cond.instanceMethod yX7_keyOf, Cond.selects RX7 yX7_keyOf yX7_keyOf, Cond.code yX7_keyOf cX7_keyOf 5 (some .long), Cond.constant RX7 120 (100000), Cond.methodLink RX7 105 yX7_scoreOf, Cond.instanceMethod yX7_scoreOf, Cond.selects RX7 yX7_scoreOf yX7_scoreOf, Cond.code yX7_scoreOf cX7_scoreOf 4 (some .int), Cond.fieldLink RX7 22 "ArcLightModel" "weight" "[I", Cond.methodLink RX7 90 yX7_byKind, Cond.instanceMethod yX7_byKind, Cond.selects RX7 yX7_byKind yX7_byKind, Cond.code yX7_byKind cX7_byKind 4 (some .int), Cond.fieldLink RX7 13 "ArcLightModel" "kind" "[I", Cond.methodLink RX7 94 yX7_byDistance, Cond.static yX7_byDistance, Cond.code yX7_byDistance cX7_byDistance 3 (some .int), Cond.methodLink RX7 130 yX7_may, Cond.instanceMethod yX7_may]
def wsX7_trees_r3 : List Cond := [Cond.selects RX7 yX7_may yX7_may, Cond.code yX7_may cX7_may 8 (some .boolean), Cond.fieldLink RX7 16 "ArcLightModel" "mark" "[I", Cond.methodLink RX7 108 yX7_arc, Cond.instanceMethod yX7_arc, Cond.selects RX7 yX7_arc yX7_arc, Cond.code yX7_arc cX7_arc 4 (some .int), Cond.methodLink RX7 117 yX7_doCross, Cond.instanceMethod yX7_doCross, Cond.selects RX7 yX7_doCross yX7_doCross, Cond.code yX7_doCross cX7_doCross 4 (some .boolean), Cond.methodLink RX7 111 yX7_isBetween, Cond.static yX7_isBetween, Cond.code yX7_isBetween cX7_isBetween 3 (some .boolean), Cond.methodLink RX7 114 yX7_isBeyond, Cond.static yX7_isBeyond, Cond.code yX7_isBeyond cX7_isBeyond 3 (some .boolean)]
def wsX7_trees : List Cond := .code yX7_trees cX7_trees 3 (some .int) :: ((wsX7_trees_r1 ++ (wsX7_trees_r2 ++ wsX7_trees_r3)) ++ wsX70)
def wsX7_asksTree_r1 : List Cond := [Cond.fieldLink RX7 45 "ArcLightModel" "count" "[I", Cond.fieldLink RX7 55 "ArcLightModel" "thrown" "I", Cond.methodLink RX7 61 yX7_isSentence, Cond.instanceMethod yX7_isSentence, Cond.selects RX7 yX7_isSentence yX7_isSentence, Cond.initialized RX7, Cond.code yX7_isSentence cX7_isSentence 2 (some .boolean), Cond.fieldLink RX7 58 "ArcLightModel" "sentences" "I", Cond.methodLink RX7 65 yX7_asks, Cond.instanceMethod yX7_asks, Cond.selects RX7 yX7_asks yX7_asks, Cond.code yX7_asks cX7_asks 2 (some .boolean), Cond.methodLink RX7 144 yX7_finds, Cond.instanceMethod yX7_finds, Cond.selects RX7 yX7_finds yX7_finds, Cond.code yX7_finds cX7_finds 4 (some .int), Cond.fieldLink RX7 48 "ArcLightModel" "isFound" "[Z", Cond.fieldLink RX7 38 "ArcLightModel" "listed" "I", Cond.methodLink RX7 134 yX7_walks, Cond.instanceMethod yX7_walks, Cond.selects RX7 yX7_walks yX7_walks, Cond.code yX7_walks cX7_walks 11 none, Cond.fieldLink RX7 7 "ArcLightModel" "words" "[I", Cond.constantLong RX7 121 (4611686018427387904)]
def wsX7_asksTree_r2 : List Cond := [Cond.fieldLink RX7 123 "ArcLightModel" "many" "I", Cond.fieldLink RX7 52 "ArcLightModel" "head" "[I", Cond.fieldLink RX7 35 "ArcLightModel" "tree" "[J", Cond.fieldLink RX7 42 "ArcLightModel" "bestKey" "[J", Cond.methodLink RX7 126 yX7_keyOf, Cond.instanceMethod yX7_keyOf, Cond.selects RX7 yX7_keyOf yX7_keyOf, Cond.code yX7_keyOf cX7_keyOf 5 (some .long), Cond.constant RX7 120 (100000), Cond.methodLink RX7 105 yX7_scoreOf, Cond.instanceMethod yX7_scoreOf, Cond.selects RX7 yX7_scoreOf yX7_scoreOf, Cond.code yX7_scoreOf cX7_scoreOf 4 (some .int), Cond.fieldLink RX7 22 "ArcLightModel" "weight" "[I", Cond.methodLink RX7 90 yX7_byKind, Cond.instanceMethod yX7_byKind, Cond.selects RX7 yX7_byKind yX7_byKind, Cond.code yX7_byKind cX7_byKind 4 (some .int), Cond.fieldLink RX7 13 "ArcLightModel" "kind" "[I", Cond.methodLink RX7 94 yX7_byDistance, Cond.static yX7_byDistance, Cond.code yX7_byDistance cX7_byDistance 3 (some .int), Cond.methodLink RX7 130 yX7_may, Cond.instanceMethod yX7_may]
def wsX7_asksTree_r3 : List Cond := [Cond.selects RX7 yX7_may yX7_may, Cond.code yX7_may cX7_may 8 (some .boolean), Cond.fieldLink RX7 16 "ArcLightModel" "mark" "[I", Cond.methodLink RX7 108 yX7_arc, Cond.instanceMethod yX7_arc, Cond.selects RX7 yX7_arc yX7_arc, Cond.code yX7_arc cX7_arc 4 (some .int), Cond.methodLink RX7 117 yX7_doCross, Cond.instanceMethod yX7_doCross, Cond.selects RX7 yX7_doCross yX7_doCross, Cond.code yX7_doCross cX7_doCross 4 (some .boolean), Cond.methodLink RX7 111 yX7_isBetween, Cond.static yX7_isBetween, Cond.code yX7_isBetween cX7_isBetween 3 (some .boolean), Cond.methodLink RX7 114 yX7_isBeyond, Cond.static yX7_isBeyond, Cond.code yX7_isBeyond cX7_isBeyond 3 (some .boolean)]
def wsX7_asksTree : List Cond := .code yX7_asksTree cX7_asksTree 3 (some .boolean) :: ((wsX7_asksTree_r1 ++ (wsX7_asksTree_r2 ++ wsX7_asksTree_r3)) ++ wsX70)
def wsX7_best_r1 : List Cond := [Cond.fieldLink RX7 42 "ArcLightModel" "bestKey" "[J", Cond.methodLink RX7 148 yX7_asksTree, Cond.instanceMethod yX7_asksTree, Cond.selects RX7 yX7_asksTree yX7_asksTree, Cond.initialized RX7, Cond.code yX7_asksTree cX7_asksTree 3 (some .boolean), Cond.fieldLink RX7 45 "ArcLightModel" "count" "[I", Cond.fieldLink RX7 55 "ArcLightModel" "thrown" "I", Cond.methodLink RX7 61 yX7_isSentence, Cond.instanceMethod yX7_isSentence, Cond.selects RX7 yX7_isSentence yX7_isSentence, Cond.code yX7_isSentence cX7_isSentence 2 (some .boolean), Cond.fieldLink RX7 58 "ArcLightModel" "sentences" "I", Cond.methodLink RX7 65 yX7_asks, Cond.instanceMethod yX7_asks, Cond.selects RX7 yX7_asks yX7_asks, Cond.code yX7_asks cX7_asks 2 (some .boolean), Cond.methodLink RX7 144 yX7_finds, Cond.instanceMethod yX7_finds, Cond.selects RX7 yX7_finds yX7_finds, Cond.code yX7_finds cX7_finds 4 (some .int), Cond.fieldLink RX7 48 "ArcLightModel" "isFound" "[Z", Cond.fieldLink RX7 38 "ArcLightModel" "listed" "I", Cond.methodLink RX7 134 yX7_walks]
def wsX7_best_r2 : List Cond := [Cond.instanceMethod yX7_walks, Cond.selects RX7 yX7_walks yX7_walks, Cond.code yX7_walks cX7_walks 11 none, Cond.fieldLink RX7 7 "ArcLightModel" "words" "[I", Cond.constantLong RX7 121 (4611686018427387904), Cond.fieldLink RX7 123 "ArcLightModel" "many" "I", Cond.fieldLink RX7 52 "ArcLightModel" "head" "[I", Cond.fieldLink RX7 35 "ArcLightModel" "tree" "[J", Cond.methodLink RX7 126 yX7_keyOf, Cond.instanceMethod yX7_keyOf, Cond.selects RX7 yX7_keyOf yX7_keyOf, Cond.code yX7_keyOf cX7_keyOf 5 (some .long), Cond.constant RX7 120 (100000), Cond.methodLink RX7 105 yX7_scoreOf, Cond.instanceMethod yX7_scoreOf, Cond.selects RX7 yX7_scoreOf yX7_scoreOf, Cond.code yX7_scoreOf cX7_scoreOf 4 (some .int), Cond.fieldLink RX7 22 "ArcLightModel" "weight" "[I", Cond.methodLink RX7 90 yX7_byKind, Cond.instanceMethod yX7_byKind, Cond.selects RX7 yX7_byKind yX7_byKind, Cond.code yX7_byKind cX7_byKind 4 (some .int), Cond.fieldLink RX7 13 "ArcLightModel" "kind" "[I", Cond.methodLink RX7 94 yX7_byDistance]
def wsX7_best_r3 : List Cond := [Cond.static yX7_byDistance, Cond.code yX7_byDistance cX7_byDistance 3 (some .int), Cond.methodLink RX7 130 yX7_may, Cond.instanceMethod yX7_may, Cond.selects RX7 yX7_may yX7_may, Cond.code yX7_may cX7_may 8 (some .boolean), Cond.fieldLink RX7 16 "ArcLightModel" "mark" "[I", Cond.methodLink RX7 108 yX7_arc, Cond.instanceMethod yX7_arc, Cond.selects RX7 yX7_arc yX7_arc, Cond.code yX7_arc cX7_arc 4 (some .int), Cond.methodLink RX7 117 yX7_doCross, Cond.instanceMethod yX7_doCross, Cond.selects RX7 yX7_doCross yX7_doCross, Cond.code yX7_doCross cX7_doCross 4 (some .boolean), Cond.methodLink RX7 111 yX7_isBetween, Cond.static yX7_isBetween, Cond.code yX7_isBetween cX7_isBetween 3 (some .boolean), Cond.methodLink RX7 114 yX7_isBeyond, Cond.static yX7_isBeyond, Cond.code yX7_isBeyond cX7_isBeyond 3 (some .boolean), Cond.methodLink RX7 152 yX7_scoreIn, Cond.instanceMethod yX7_scoreIn, Cond.selects RX7 yX7_scoreIn yX7_scoreIn]
def wsX7_best_r4 : List Cond := [Cond.code yX7_scoreIn cX7_scoreIn 3 (some .int)]
def wsX7_best : List Cond := .code yX7_best cX7_best 3 (some .int) :: ((wsX7_best_r1 ++ (wsX7_best_r2 ++ (wsX7_best_r3 ++ wsX7_best_r4))) ++ wsX70)
def wsX7_bestByTrying_r1 : List Cond := [Cond.fieldLink RX7 42 "ArcLightModel" "bestKey" "[J", Cond.methodLink RX7 148 yX7_asksTree, Cond.instanceMethod yX7_asksTree, Cond.selects RX7 yX7_asksTree yX7_asksTree, Cond.initialized RX7, Cond.code yX7_asksTree cX7_asksTree 3 (some .boolean), Cond.fieldLink RX7 45 "ArcLightModel" "count" "[I", Cond.fieldLink RX7 55 "ArcLightModel" "thrown" "I", Cond.methodLink RX7 61 yX7_isSentence, Cond.instanceMethod yX7_isSentence, Cond.selects RX7 yX7_isSentence yX7_isSentence, Cond.code yX7_isSentence cX7_isSentence 2 (some .boolean), Cond.fieldLink RX7 58 "ArcLightModel" "sentences" "I", Cond.methodLink RX7 65 yX7_asks, Cond.instanceMethod yX7_asks, Cond.selects RX7 yX7_asks yX7_asks, Cond.code yX7_asks cX7_asks 2 (some .boolean), Cond.methodLink RX7 144 yX7_finds, Cond.instanceMethod yX7_finds, Cond.selects RX7 yX7_finds yX7_finds, Cond.code yX7_finds cX7_finds 4 (some .int), Cond.fieldLink RX7 48 "ArcLightModel" "isFound" "[Z", Cond.fieldLink RX7 38 "ArcLightModel" "listed" "I", Cond.methodLink RX7 134 yX7_walks]
def wsX7_bestByTrying_r2 : List Cond := [Cond.instanceMethod yX7_walks, Cond.selects RX7 yX7_walks yX7_walks, Cond.code yX7_walks cX7_walks 11 none, Cond.fieldLink RX7 7 "ArcLightModel" "words" "[I", Cond.constantLong RX7 121 (4611686018427387904), Cond.fieldLink RX7 123 "ArcLightModel" "many" "I", Cond.fieldLink RX7 52 "ArcLightModel" "head" "[I", Cond.fieldLink RX7 35 "ArcLightModel" "tree" "[J", Cond.methodLink RX7 126 yX7_keyOf, Cond.instanceMethod yX7_keyOf, Cond.selects RX7 yX7_keyOf yX7_keyOf, Cond.code yX7_keyOf cX7_keyOf 5 (some .long), Cond.constant RX7 120 (100000), Cond.methodLink RX7 105 yX7_scoreOf, Cond.instanceMethod yX7_scoreOf, Cond.selects RX7 yX7_scoreOf yX7_scoreOf, Cond.code yX7_scoreOf cX7_scoreOf 4 (some .int), Cond.fieldLink RX7 22 "ArcLightModel" "weight" "[I", Cond.methodLink RX7 90 yX7_byKind, Cond.instanceMethod yX7_byKind, Cond.selects RX7 yX7_byKind yX7_byKind, Cond.code yX7_byKind cX7_byKind 4 (some .int), Cond.fieldLink RX7 13 "ArcLightModel" "kind" "[I", Cond.methodLink RX7 94 yX7_byDistance]
def wsX7_bestByTrying_r3 : List Cond := [Cond.static yX7_byDistance, Cond.code yX7_byDistance cX7_byDistance 3 (some .int), Cond.methodLink RX7 130 yX7_may, Cond.instanceMethod yX7_may, Cond.selects RX7 yX7_may yX7_may, Cond.code yX7_may cX7_may 8 (some .boolean), Cond.fieldLink RX7 16 "ArcLightModel" "mark" "[I", Cond.methodLink RX7 108 yX7_arc, Cond.instanceMethod yX7_arc, Cond.selects RX7 yX7_arc yX7_arc, Cond.code yX7_arc cX7_arc 4 (some .int), Cond.methodLink RX7 117 yX7_doCross, Cond.instanceMethod yX7_doCross, Cond.selects RX7 yX7_doCross yX7_doCross, Cond.code yX7_doCross cX7_doCross 4 (some .boolean), Cond.methodLink RX7 111 yX7_isBetween, Cond.static yX7_isBetween, Cond.code yX7_isBetween cX7_isBetween 3 (some .boolean), Cond.methodLink RX7 114 yX7_isBeyond, Cond.static yX7_isBeyond, Cond.code yX7_isBeyond cX7_isBeyond 3 (some .boolean), Cond.methodLink RX7 152 yX7_scoreIn, Cond.instanceMethod yX7_scoreIn, Cond.selects RX7 yX7_scoreIn yX7_scoreIn]
def wsX7_bestByTrying_r4 : List Cond := [Cond.code yX7_scoreIn cX7_scoreIn 3 (some .int)]
def wsX7_bestByTrying : List Cond := .code yX7_bestByTrying cX7_bestByTrying 3 (some .int) :: ((wsX7_bestByTrying_r1 ++ (wsX7_bestByTrying_r2 ++ (wsX7_bestByTrying_r3 ++ wsX7_bestByTrying_r4))) ++ wsX70)
def wsX7_head_r1 : List Cond := [Cond.fieldLink RX7 42 "ArcLightModel" "bestKey" "[J", Cond.methodLink RX7 76 yX7_isWord, Cond.instanceMethod yX7_isWord, Cond.selects RX7 yX7_isWord yX7_isWord, Cond.initialized RX7, Cond.code yX7_isWord cX7_isWord 3 (some .boolean), Cond.fieldLink RX7 7 "ArcLightModel" "words" "[I", Cond.methodLink RX7 61 yX7_isSentence, Cond.instanceMethod yX7_isSentence, Cond.selects RX7 yX7_isSentence yX7_isSentence, Cond.code yX7_isSentence cX7_isSentence 2 (some .boolean), Cond.fieldLink RX7 58 "ArcLightModel" "sentences" "I", Cond.methodLink RX7 65 yX7_asks, Cond.instanceMethod yX7_asks, Cond.selects RX7 yX7_asks yX7_asks, Cond.code yX7_asks cX7_asks 2 (some .boolean), Cond.fieldLink RX7 55 "ArcLightModel" "thrown" "I", Cond.methodLink RX7 148 yX7_asksTree, Cond.instanceMethod yX7_asksTree, Cond.selects RX7 yX7_asksTree yX7_asksTree, Cond.code yX7_asksTree cX7_asksTree 3 (some .boolean), Cond.fieldLink RX7 45 "ArcLightModel" "count" "[I", Cond.methodLink RX7 144 yX7_finds, Cond.instanceMethod yX7_finds]
def wsX7_head_r2 : List Cond := [Cond.selects RX7 yX7_finds yX7_finds, Cond.code yX7_finds cX7_finds 4 (some .int), Cond.fieldLink RX7 48 "ArcLightModel" "isFound" "[Z", Cond.fieldLink RX7 38 "ArcLightModel" "listed" "I", Cond.methodLink RX7 134 yX7_walks, Cond.instanceMethod yX7_walks, Cond.selects RX7 yX7_walks yX7_walks, Cond.code yX7_walks cX7_walks 11 none, Cond.constantLong RX7 121 (4611686018427387904), Cond.fieldLink RX7 123 "ArcLightModel" "many" "I", Cond.fieldLink RX7 52 "ArcLightModel" "head" "[I", Cond.fieldLink RX7 35 "ArcLightModel" "tree" "[J", Cond.methodLink RX7 126 yX7_keyOf, Cond.instanceMethod yX7_keyOf, Cond.selects RX7 yX7_keyOf yX7_keyOf, Cond.code yX7_keyOf cX7_keyOf 5 (some .long), Cond.constant RX7 120 (100000), Cond.methodLink RX7 105 yX7_scoreOf, Cond.instanceMethod yX7_scoreOf, Cond.selects RX7 yX7_scoreOf yX7_scoreOf, Cond.code yX7_scoreOf cX7_scoreOf 4 (some .int), Cond.fieldLink RX7 22 "ArcLightModel" "weight" "[I", Cond.methodLink RX7 90 yX7_byKind, Cond.instanceMethod yX7_byKind]
def wsX7_head_r3 : List Cond := [Cond.selects RX7 yX7_byKind yX7_byKind, Cond.code yX7_byKind cX7_byKind 4 (some .int), Cond.fieldLink RX7 13 "ArcLightModel" "kind" "[I", Cond.methodLink RX7 94 yX7_byDistance, Cond.static yX7_byDistance, Cond.code yX7_byDistance cX7_byDistance 3 (some .int), Cond.methodLink RX7 130 yX7_may, Cond.instanceMethod yX7_may, Cond.selects RX7 yX7_may yX7_may, Cond.code yX7_may cX7_may 8 (some .boolean), Cond.fieldLink RX7 16 "ArcLightModel" "mark" "[I", Cond.methodLink RX7 108 yX7_arc, Cond.instanceMethod yX7_arc, Cond.selects RX7 yX7_arc yX7_arc, Cond.code yX7_arc cX7_arc 4 (some .int), Cond.methodLink RX7 117 yX7_doCross, Cond.instanceMethod yX7_doCross, Cond.selects RX7 yX7_doCross yX7_doCross, Cond.code yX7_doCross cX7_doCross 4 (some .boolean), Cond.methodLink RX7 111 yX7_isBetween, Cond.static yX7_isBetween, Cond.code yX7_isBetween cX7_isBetween 3 (some .boolean), Cond.methodLink RX7 114 yX7_isBeyond, Cond.static yX7_isBeyond]
def wsX7_head_r4 : List Cond := [Cond.code yX7_isBeyond cX7_isBeyond 3 (some .boolean), Cond.methodLink RX7 156 yX7_headIn, Cond.instanceMethod yX7_headIn, Cond.selects RX7 yX7_headIn yX7_headIn, Cond.code yX7_headIn cX7_headIn 5 (some .int), Cond.constantLong RX7 142 (7)]
def wsX7_head : List Cond := .code yX7_head cX7_head 4 (some .int) :: ((wsX7_head_r1 ++ (wsX7_head_r2 ++ (wsX7_head_r3 ++ wsX7_head_r4))) ++ wsX70)
def wsX7_crossings_r1 : List Cond := [Cond.fieldLink RX7 42 "ArcLightModel" "bestKey" "[J", Cond.fieldLink RX7 7 "ArcLightModel" "words" "[I", Cond.fieldLink RX7 52 "ArcLightModel" "head" "[I", Cond.methodLink RX7 148 yX7_asksTree, Cond.instanceMethod yX7_asksTree, Cond.selects RX7 yX7_asksTree yX7_asksTree, Cond.initialized RX7, Cond.code yX7_asksTree cX7_asksTree 3 (some .boolean), Cond.fieldLink RX7 45 "ArcLightModel" "count" "[I", Cond.fieldLink RX7 55 "ArcLightModel" "thrown" "I", Cond.methodLink RX7 61 yX7_isSentence, Cond.instanceMethod yX7_isSentence, Cond.selects RX7 yX7_isSentence yX7_isSentence, Cond.code yX7_isSentence cX7_isSentence 2 (some .boolean), Cond.fieldLink RX7 58 "ArcLightModel" "sentences" "I", Cond.methodLink RX7 65 yX7_asks, Cond.instanceMethod yX7_asks, Cond.selects RX7 yX7_asks yX7_asks, Cond.code yX7_asks cX7_asks 2 (some .boolean), Cond.methodLink RX7 144 yX7_finds, Cond.instanceMethod yX7_finds, Cond.selects RX7 yX7_finds yX7_finds, Cond.code yX7_finds cX7_finds 4 (some .int), Cond.fieldLink RX7 48 "ArcLightModel" "isFound" "[Z"]
def wsX7_crossings_r2 : List Cond := [Cond.fieldLink RX7 38 "ArcLightModel" "listed" "I", Cond.methodLink RX7 134 yX7_walks, Cond.instanceMethod yX7_walks, Cond.selects RX7 yX7_walks yX7_walks, Cond.code yX7_walks cX7_walks 11 none, Cond.constantLong RX7 121 (4611686018427387904), Cond.fieldLink RX7 123 "ArcLightModel" "many" "I", Cond.fieldLink RX7 35 "ArcLightModel" "tree" "[J", Cond.methodLink RX7 126 yX7_keyOf, Cond.instanceMethod yX7_keyOf, Cond.selects RX7 yX7_keyOf yX7_keyOf, Cond.code yX7_keyOf cX7_keyOf 5 (some .long), Cond.constant RX7 120 (100000), Cond.methodLink RX7 105 yX7_scoreOf, Cond.instanceMethod yX7_scoreOf, Cond.selects RX7 yX7_scoreOf yX7_scoreOf, Cond.code yX7_scoreOf cX7_scoreOf 4 (some .int), Cond.fieldLink RX7 22 "ArcLightModel" "weight" "[I", Cond.methodLink RX7 90 yX7_byKind, Cond.instanceMethod yX7_byKind, Cond.selects RX7 yX7_byKind yX7_byKind, Cond.code yX7_byKind cX7_byKind 4 (some .int), Cond.fieldLink RX7 13 "ArcLightModel" "kind" "[I", Cond.methodLink RX7 94 yX7_byDistance]
def wsX7_crossings_r3 : List Cond := [Cond.static yX7_byDistance, Cond.code yX7_byDistance cX7_byDistance 3 (some .int), Cond.methodLink RX7 130 yX7_may, Cond.instanceMethod yX7_may, Cond.selects RX7 yX7_may yX7_may, Cond.code yX7_may cX7_may 8 (some .boolean), Cond.fieldLink RX7 16 "ArcLightModel" "mark" "[I", Cond.methodLink RX7 108 yX7_arc, Cond.instanceMethod yX7_arc, Cond.selects RX7 yX7_arc yX7_arc, Cond.code yX7_arc cX7_arc 4 (some .int), Cond.methodLink RX7 117 yX7_doCross, Cond.instanceMethod yX7_doCross, Cond.selects RX7 yX7_doCross yX7_doCross, Cond.code yX7_doCross cX7_doCross 4 (some .boolean), Cond.methodLink RX7 111 yX7_isBetween, Cond.static yX7_isBetween, Cond.code yX7_isBetween cX7_isBetween 3 (some .boolean), Cond.methodLink RX7 114 yX7_isBeyond, Cond.static yX7_isBeyond, Cond.code yX7_isBeyond cX7_isBeyond 3 (some .boolean), Cond.methodLink RX7 156 yX7_headIn, Cond.instanceMethod yX7_headIn, Cond.selects RX7 yX7_headIn yX7_headIn]
def wsX7_crossings_r4 : List Cond := [Cond.code yX7_headIn cX7_headIn 5 (some .int), Cond.constantLong RX7 142 (7)]
def wsX7_crossings : List Cond := .code yX7_crossings cX7_crossings 7 (some .int) :: ((wsX7_crossings_r1 ++ (wsX7_crossings_r2 ++ (wsX7_crossings_r3 ++ wsX7_crossings_r4))) ++ wsX70)
def wsX7_asksRank_r1 : List Cond := [Cond.fieldLink RX7 45 "ArcLightModel" "count" "[I", Cond.methodLink RX7 61 yX7_isSentence, Cond.instanceMethod yX7_isSentence, Cond.selects RX7 yX7_isSentence yX7_isSentence, Cond.initialized RX7, Cond.code yX7_isSentence cX7_isSentence 2 (some .boolean), Cond.fieldLink RX7 58 "ArcLightModel" "sentences" "I", Cond.methodLink RX7 144 yX7_finds, Cond.instanceMethod yX7_finds, Cond.selects RX7 yX7_finds yX7_finds, Cond.code yX7_finds cX7_finds 4 (some .int), Cond.fieldLink RX7 48 "ArcLightModel" "isFound" "[Z", Cond.fieldLink RX7 38 "ArcLightModel" "listed" "I", Cond.methodLink RX7 134 yX7_walks, Cond.instanceMethod yX7_walks, Cond.selects RX7 yX7_walks yX7_walks, Cond.code yX7_walks cX7_walks 11 none, Cond.fieldLink RX7 7 "ArcLightModel" "words" "[I", Cond.constantLong RX7 121 (4611686018427387904), Cond.fieldLink RX7 123 "ArcLightModel" "many" "I", Cond.fieldLink RX7 52 "ArcLightModel" "head" "[I", Cond.fieldLink RX7 35 "ArcLightModel" "tree" "[J", Cond.fieldLink RX7 42 "ArcLightModel" "bestKey" "[J", Cond.methodLink RX7 126 yX7_keyOf]
def wsX7_asksRank_r2 : List Cond := [Cond.instanceMethod yX7_keyOf, Cond.selects RX7 yX7_keyOf yX7_keyOf, Cond.code yX7_keyOf cX7_keyOf 5 (some .long), Cond.constant RX7 120 (100000), Cond.methodLink RX7 105 yX7_scoreOf, Cond.instanceMethod yX7_scoreOf, Cond.selects RX7 yX7_scoreOf yX7_scoreOf, Cond.code yX7_scoreOf cX7_scoreOf 4 (some .int), Cond.fieldLink RX7 22 "ArcLightModel" "weight" "[I", Cond.methodLink RX7 90 yX7_byKind, Cond.instanceMethod yX7_byKind, Cond.selects RX7 yX7_byKind yX7_byKind, Cond.code yX7_byKind cX7_byKind 4 (some .int), Cond.fieldLink RX7 13 "ArcLightModel" "kind" "[I", Cond.methodLink RX7 94 yX7_byDistance, Cond.static yX7_byDistance, Cond.code yX7_byDistance cX7_byDistance 3 (some .int), Cond.methodLink RX7 130 yX7_may, Cond.instanceMethod yX7_may, Cond.selects RX7 yX7_may yX7_may, Cond.code yX7_may cX7_may 8 (some .boolean), Cond.fieldLink RX7 16 "ArcLightModel" "mark" "[I", Cond.methodLink RX7 108 yX7_arc, Cond.instanceMethod yX7_arc]
def wsX7_asksRank_r3 : List Cond := [Cond.selects RX7 yX7_arc yX7_arc, Cond.code yX7_arc cX7_arc 4 (some .int), Cond.methodLink RX7 117 yX7_doCross, Cond.instanceMethod yX7_doCross, Cond.selects RX7 yX7_doCross yX7_doCross, Cond.code yX7_doCross cX7_doCross 4 (some .boolean), Cond.methodLink RX7 111 yX7_isBetween, Cond.static yX7_isBetween, Cond.code yX7_isBetween cX7_isBetween 3 (some .boolean), Cond.methodLink RX7 114 yX7_isBeyond, Cond.static yX7_isBeyond, Cond.code yX7_isBeyond cX7_isBeyond 3 (some .boolean), Cond.methodLink RX7 160 yX7_lists, Cond.instanceMethod yX7_lists, Cond.selects RX7 yX7_lists yX7_lists, Cond.code yX7_lists cX7_lists 7 none, Cond.methodLink RX7 138 yX7_sinks, Cond.instanceMethod yX7_sinks, Cond.selects RX7 yX7_sinks yX7_sinks, Cond.code yX7_sinks cX7_sinks 8 none, Cond.methodLink RX7 65 yX7_asks, Cond.instanceMethod yX7_asks, Cond.selects RX7 yX7_asks yX7_asks, Cond.code yX7_asks cX7_asks 2 (some .boolean)]
def wsX7_asksRank_r4 : List Cond := [Cond.fieldLink RX7 55 "ArcLightModel" "thrown" "I"]
def wsX7_asksRank : List Cond := .code yX7_asksRank cX7_asksRank 6 (some .boolean) :: ((wsX7_asksRank_r1 ++ (wsX7_asksRank_r2 ++ (wsX7_asksRank_r3 ++ wsX7_asksRank_r4))) ++ wsX70)
def wsX7_ranked_r1 : List Cond := [Cond.fieldLink RX7 35 "ArcLightModel" "tree" "[J", Cond.methodLink RX7 164 yX7_asksRank, Cond.instanceMethod yX7_asksRank, Cond.selects RX7 yX7_asksRank yX7_asksRank, Cond.initialized RX7, Cond.code yX7_asksRank cX7_asksRank 6 (some .boolean), Cond.fieldLink RX7 45 "ArcLightModel" "count" "[I", Cond.methodLink RX7 61 yX7_isSentence, Cond.instanceMethod yX7_isSentence, Cond.selects RX7 yX7_isSentence yX7_isSentence, Cond.code yX7_isSentence cX7_isSentence 2 (some .boolean), Cond.fieldLink RX7 58 "ArcLightModel" "sentences" "I", Cond.methodLink RX7 144 yX7_finds, Cond.instanceMethod yX7_finds, Cond.selects RX7 yX7_finds yX7_finds, Cond.code yX7_finds cX7_finds 4 (some .int), Cond.fieldLink RX7 48 "ArcLightModel" "isFound" "[Z", Cond.fieldLink RX7 38 "ArcLightModel" "listed" "I", Cond.methodLink RX7 134 yX7_walks, Cond.instanceMethod yX7_walks, Cond.selects RX7 yX7_walks yX7_walks, Cond.code yX7_walks cX7_walks 11 none, Cond.fieldLink RX7 7 "ArcLightModel" "words" "[I", Cond.constantLong RX7 121 (4611686018427387904)]
def wsX7_ranked_r2 : List Cond := [Cond.fieldLink RX7 123 "ArcLightModel" "many" "I", Cond.fieldLink RX7 52 "ArcLightModel" "head" "[I", Cond.fieldLink RX7 42 "ArcLightModel" "bestKey" "[J", Cond.methodLink RX7 126 yX7_keyOf, Cond.instanceMethod yX7_keyOf, Cond.selects RX7 yX7_keyOf yX7_keyOf, Cond.code yX7_keyOf cX7_keyOf 5 (some .long), Cond.constant RX7 120 (100000), Cond.methodLink RX7 105 yX7_scoreOf, Cond.instanceMethod yX7_scoreOf, Cond.selects RX7 yX7_scoreOf yX7_scoreOf, Cond.code yX7_scoreOf cX7_scoreOf 4 (some .int), Cond.fieldLink RX7 22 "ArcLightModel" "weight" "[I", Cond.methodLink RX7 90 yX7_byKind, Cond.instanceMethod yX7_byKind, Cond.selects RX7 yX7_byKind yX7_byKind, Cond.code yX7_byKind cX7_byKind 4 (some .int), Cond.fieldLink RX7 13 "ArcLightModel" "kind" "[I", Cond.methodLink RX7 94 yX7_byDistance, Cond.static yX7_byDistance, Cond.code yX7_byDistance cX7_byDistance 3 (some .int), Cond.methodLink RX7 130 yX7_may, Cond.instanceMethod yX7_may, Cond.selects RX7 yX7_may yX7_may]
def wsX7_ranked_r3 : List Cond := [Cond.code yX7_may cX7_may 8 (some .boolean), Cond.fieldLink RX7 16 "ArcLightModel" "mark" "[I", Cond.methodLink RX7 108 yX7_arc, Cond.instanceMethod yX7_arc, Cond.selects RX7 yX7_arc yX7_arc, Cond.code yX7_arc cX7_arc 4 (some .int), Cond.methodLink RX7 117 yX7_doCross, Cond.instanceMethod yX7_doCross, Cond.selects RX7 yX7_doCross yX7_doCross, Cond.code yX7_doCross cX7_doCross 4 (some .boolean), Cond.methodLink RX7 111 yX7_isBetween, Cond.static yX7_isBetween, Cond.code yX7_isBetween cX7_isBetween 3 (some .boolean), Cond.methodLink RX7 114 yX7_isBeyond, Cond.static yX7_isBeyond, Cond.code yX7_isBeyond cX7_isBeyond 3 (some .boolean), Cond.methodLink RX7 160 yX7_lists, Cond.instanceMethod yX7_lists, Cond.selects RX7 yX7_lists yX7_lists, Cond.code yX7_lists cX7_lists 7 none, Cond.methodLink RX7 138 yX7_sinks, Cond.instanceMethod yX7_sinks, Cond.selects RX7 yX7_sinks yX7_sinks, Cond.code yX7_sinks cX7_sinks 8 none]
def wsX7_ranked_r4 : List Cond := [Cond.methodLink RX7 65 yX7_asks, Cond.instanceMethod yX7_asks, Cond.selects RX7 yX7_asks yX7_asks, Cond.code yX7_asks cX7_asks 2 (some .boolean), Cond.fieldLink RX7 55 "ArcLightModel" "thrown" "I", Cond.methodLink RX7 152 yX7_scoreIn, Cond.instanceMethod yX7_scoreIn, Cond.selects RX7 yX7_scoreIn yX7_scoreIn, Cond.code yX7_scoreIn cX7_scoreIn 3 (some .int)]
def wsX7_ranked : List Cond := .code yX7_ranked cX7_ranked 4 (some .int) :: ((wsX7_ranked_r1 ++ (wsX7_ranked_r2 ++ (wsX7_ranked_r3 ++ wsX7_ranked_r4))) ++ wsX70)
def wsX7_rankedHead_r1 : List Cond := [Cond.fieldLink RX7 35 "ArcLightModel" "tree" "[J", Cond.methodLink RX7 76 yX7_isWord, Cond.instanceMethod yX7_isWord, Cond.selects RX7 yX7_isWord yX7_isWord, Cond.initialized RX7, Cond.code yX7_isWord cX7_isWord 3 (some .boolean), Cond.fieldLink RX7 7 "ArcLightModel" "words" "[I", Cond.methodLink RX7 61 yX7_isSentence, Cond.instanceMethod yX7_isSentence, Cond.selects RX7 yX7_isSentence yX7_isSentence, Cond.code yX7_isSentence cX7_isSentence 2 (some .boolean), Cond.fieldLink RX7 58 "ArcLightModel" "sentences" "I", Cond.methodLink RX7 164 yX7_asksRank, Cond.instanceMethod yX7_asksRank, Cond.selects RX7 yX7_asksRank yX7_asksRank, Cond.code yX7_asksRank cX7_asksRank 6 (some .boolean), Cond.fieldLink RX7 45 "ArcLightModel" "count" "[I", Cond.methodLink RX7 144 yX7_finds, Cond.instanceMethod yX7_finds, Cond.selects RX7 yX7_finds yX7_finds, Cond.code yX7_finds cX7_finds 4 (some .int), Cond.fieldLink RX7 48 "ArcLightModel" "isFound" "[Z", Cond.fieldLink RX7 38 "ArcLightModel" "listed" "I", Cond.methodLink RX7 134 yX7_walks]
def wsX7_rankedHead_r2 : List Cond := [Cond.instanceMethod yX7_walks, Cond.selects RX7 yX7_walks yX7_walks, Cond.code yX7_walks cX7_walks 11 none, Cond.constantLong RX7 121 (4611686018427387904), Cond.fieldLink RX7 123 "ArcLightModel" "many" "I", Cond.fieldLink RX7 52 "ArcLightModel" "head" "[I", Cond.fieldLink RX7 42 "ArcLightModel" "bestKey" "[J", Cond.methodLink RX7 126 yX7_keyOf, Cond.instanceMethod yX7_keyOf, Cond.selects RX7 yX7_keyOf yX7_keyOf, Cond.code yX7_keyOf cX7_keyOf 5 (some .long), Cond.constant RX7 120 (100000), Cond.methodLink RX7 105 yX7_scoreOf, Cond.instanceMethod yX7_scoreOf, Cond.selects RX7 yX7_scoreOf yX7_scoreOf, Cond.code yX7_scoreOf cX7_scoreOf 4 (some .int), Cond.fieldLink RX7 22 "ArcLightModel" "weight" "[I", Cond.methodLink RX7 90 yX7_byKind, Cond.instanceMethod yX7_byKind, Cond.selects RX7 yX7_byKind yX7_byKind, Cond.code yX7_byKind cX7_byKind 4 (some .int), Cond.fieldLink RX7 13 "ArcLightModel" "kind" "[I", Cond.methodLink RX7 94 yX7_byDistance, Cond.static yX7_byDistance]
def wsX7_rankedHead_r3 : List Cond := [Cond.code yX7_byDistance cX7_byDistance 3 (some .int), Cond.methodLink RX7 130 yX7_may, Cond.instanceMethod yX7_may, Cond.selects RX7 yX7_may yX7_may, Cond.code yX7_may cX7_may 8 (some .boolean), Cond.fieldLink RX7 16 "ArcLightModel" "mark" "[I", Cond.methodLink RX7 108 yX7_arc, Cond.instanceMethod yX7_arc, Cond.selects RX7 yX7_arc yX7_arc, Cond.code yX7_arc cX7_arc 4 (some .int), Cond.methodLink RX7 117 yX7_doCross, Cond.instanceMethod yX7_doCross, Cond.selects RX7 yX7_doCross yX7_doCross, Cond.code yX7_doCross cX7_doCross 4 (some .boolean), Cond.methodLink RX7 111 yX7_isBetween, Cond.static yX7_isBetween, Cond.code yX7_isBetween cX7_isBetween 3 (some .boolean), Cond.methodLink RX7 114 yX7_isBeyond, Cond.static yX7_isBeyond, Cond.code yX7_isBeyond cX7_isBeyond 3 (some .boolean), Cond.methodLink RX7 160 yX7_lists, Cond.instanceMethod yX7_lists, Cond.selects RX7 yX7_lists yX7_lists, Cond.code yX7_lists cX7_lists 7 none]
def wsX7_rankedHead_r4 : List Cond := [Cond.methodLink RX7 138 yX7_sinks, Cond.instanceMethod yX7_sinks, Cond.selects RX7 yX7_sinks yX7_sinks, Cond.code yX7_sinks cX7_sinks 8 none, Cond.methodLink RX7 65 yX7_asks, Cond.instanceMethod yX7_asks, Cond.selects RX7 yX7_asks yX7_asks, Cond.code yX7_asks cX7_asks 2 (some .boolean), Cond.fieldLink RX7 55 "ArcLightModel" "thrown" "I", Cond.methodLink RX7 156 yX7_headIn, Cond.instanceMethod yX7_headIn, Cond.selects RX7 yX7_headIn yX7_headIn, Cond.code yX7_headIn cX7_headIn 5 (some .int), Cond.constantLong RX7 142 (7)]
def wsX7_rankedHead : List Cond := .code yX7_rankedHead cX7_rankedHead 5 (some .int) :: ((wsX7_rankedHead_r1 ++ (wsX7_rankedHead_r2 ++ (wsX7_rankedHead_r3 ++ wsX7_rankedHead_r4))) ++ wsX70)
def wsX7_correct : List Cond := .code yX7_correct cX7_correct 5 (some .int) :: ([.fieldLink RX7 19 "ArcLightModel" "right" "[I", .methodLink RX7 101 yX7_asksArc, .instanceMethod yX7_asksArc, .selects RX7 yX7_asksArc yX7_asksArc, .initialized RX7, .code yX7_asksArc cX7_asksArc 4 (some .boolean), .fieldLink RX7 55 "ArcLightModel" "thrown" "I", .methodLink RX7 98 yX7_isPlace, .instanceMethod yX7_isPlace, .selects RX7 yX7_isPlace yX7_isPlace, .code yX7_isPlace cX7_isPlace 3 (some .boolean), .fieldLink RX7 7 "ArcLightModel" "words" "[I", .methodLink RX7 61 yX7_isSentence, .instanceMethod yX7_isSentence, .selects RX7 yX7_isSentence yX7_isSentence, .code yX7_isSentence cX7_isSentence 2 (some .boolean), .fieldLink RX7 58 "ArcLightModel" "sentences" "I", .methodLink RX7 76 yX7_isWord, .instanceMethod yX7_isWord, .selects RX7 yX7_isWord yX7_isWord, .code yX7_isWord cX7_isWord 3 (some .boolean)] ++ wsX70)
def wsX7_matched_r1 : List Cond := [Cond.fieldLink RX7 42 "ArcLightModel" "bestKey" "[J", Cond.fieldLink RX7 7 "ArcLightModel" "words" "[I", Cond.fieldLink RX7 19 "ArcLightModel" "right" "[I", Cond.methodLink RX7 148 yX7_asksTree, Cond.instanceMethod yX7_asksTree, Cond.selects RX7 yX7_asksTree yX7_asksTree, Cond.initialized RX7, Cond.code yX7_asksTree cX7_asksTree 3 (some .boolean), Cond.fieldLink RX7 45 "ArcLightModel" "count" "[I", Cond.fieldLink RX7 55 "ArcLightModel" "thrown" "I", Cond.methodLink RX7 61 yX7_isSentence, Cond.instanceMethod yX7_isSentence, Cond.selects RX7 yX7_isSentence yX7_isSentence, Cond.code yX7_isSentence cX7_isSentence 2 (some .boolean), Cond.fieldLink RX7 58 "ArcLightModel" "sentences" "I", Cond.methodLink RX7 65 yX7_asks, Cond.instanceMethod yX7_asks, Cond.selects RX7 yX7_asks yX7_asks, Cond.code yX7_asks cX7_asks 2 (some .boolean), Cond.methodLink RX7 144 yX7_finds, Cond.instanceMethod yX7_finds, Cond.selects RX7 yX7_finds yX7_finds, Cond.code yX7_finds cX7_finds 4 (some .int), Cond.fieldLink RX7 48 "ArcLightModel" "isFound" "[Z"]
def wsX7_matched_r2 : List Cond := [Cond.fieldLink RX7 38 "ArcLightModel" "listed" "I", Cond.methodLink RX7 134 yX7_walks, Cond.instanceMethod yX7_walks, Cond.selects RX7 yX7_walks yX7_walks, Cond.code yX7_walks cX7_walks 11 none, Cond.constantLong RX7 121 (4611686018427387904), Cond.fieldLink RX7 123 "ArcLightModel" "many" "I", Cond.fieldLink RX7 52 "ArcLightModel" "head" "[I", Cond.fieldLink RX7 35 "ArcLightModel" "tree" "[J", Cond.methodLink RX7 126 yX7_keyOf, Cond.instanceMethod yX7_keyOf, Cond.selects RX7 yX7_keyOf yX7_keyOf, Cond.code yX7_keyOf cX7_keyOf 5 (some .long), Cond.constant RX7 120 (100000), Cond.methodLink RX7 105 yX7_scoreOf, Cond.instanceMethod yX7_scoreOf, Cond.selects RX7 yX7_scoreOf yX7_scoreOf, Cond.code yX7_scoreOf cX7_scoreOf 4 (some .int), Cond.fieldLink RX7 22 "ArcLightModel" "weight" "[I", Cond.methodLink RX7 90 yX7_byKind, Cond.instanceMethod yX7_byKind, Cond.selects RX7 yX7_byKind yX7_byKind, Cond.code yX7_byKind cX7_byKind 4 (some .int), Cond.fieldLink RX7 13 "ArcLightModel" "kind" "[I"]
def wsX7_matched_r3 : List Cond := [Cond.methodLink RX7 94 yX7_byDistance, Cond.static yX7_byDistance, Cond.code yX7_byDistance cX7_byDistance 3 (some .int), Cond.methodLink RX7 130 yX7_may, Cond.instanceMethod yX7_may, Cond.selects RX7 yX7_may yX7_may, Cond.code yX7_may cX7_may 8 (some .boolean), Cond.fieldLink RX7 16 "ArcLightModel" "mark" "[I", Cond.methodLink RX7 108 yX7_arc, Cond.instanceMethod yX7_arc, Cond.selects RX7 yX7_arc yX7_arc, Cond.code yX7_arc cX7_arc 4 (some .int), Cond.methodLink RX7 117 yX7_doCross, Cond.instanceMethod yX7_doCross, Cond.selects RX7 yX7_doCross yX7_doCross, Cond.code yX7_doCross cX7_doCross 4 (some .boolean), Cond.methodLink RX7 111 yX7_isBetween, Cond.static yX7_isBetween, Cond.code yX7_isBetween cX7_isBetween 3 (some .boolean), Cond.methodLink RX7 114 yX7_isBeyond, Cond.static yX7_isBeyond, Cond.code yX7_isBeyond cX7_isBeyond 3 (some .boolean), Cond.methodLink RX7 156 yX7_headIn, Cond.instanceMethod yX7_headIn]
def wsX7_matched_r4 : List Cond := [Cond.selects RX7 yX7_headIn yX7_headIn, Cond.code yX7_headIn cX7_headIn 5 (some .int), Cond.constantLong RX7 142 (7)]
def wsX7_matched : List Cond := .code yX7_matched cX7_matched 6 (some .int) :: ((wsX7_matched_r1 ++ (wsX7_matched_r2 ++ (wsX7_matched_r3 ++ wsX7_matched_r4))) ++ wsX70)
def wsX7_isRight : List Cond := .code yX7_isRight cX7_isRight 6 (some .boolean) :: ([.fieldLink RX7 7 "ArcLightModel" "words" "[I", .fieldLink RX7 19 "ArcLightModel" "right" "[I"] ++ wsX70)
def wsX7_adds : List Cond := .code yX7_adds cX7_adds 5 none :: ([.fieldLink RX7 22 "ArcLightModel" "weight" "[I", .methodLink RX7 90 yX7_byKind, .instanceMethod yX7_byKind, .selects RX7 yX7_byKind yX7_byKind, .initialized RX7, .code yX7_byKind cX7_byKind 4 (some .int), .fieldLink RX7 13 "ArcLightModel" "kind" "[I", .methodLink RX7 94 yX7_byDistance, .static yX7_byDistance, .code yX7_byDistance cX7_byDistance 3 (some .int)] ++ wsX70)
def wsX7_mend_r1 : List Cond := [Cond.fieldLink RX7 45 "ArcLightModel" "count" "[I", Cond.fieldLink RX7 42 "ArcLightModel" "bestKey" "[J", Cond.fieldLink RX7 7 "ArcLightModel" "words" "[I", Cond.fieldLink RX7 19 "ArcLightModel" "right" "[I", Cond.fieldLink RX7 175 "ArcLightModel" "steps" "I", Cond.fieldLink RX7 25 "ArcLightModel" "sum" "[J", Cond.fieldLink RX7 22 "ArcLightModel" "weight" "[I", Cond.methodLink RX7 61 yX7_isSentence, Cond.instanceMethod yX7_isSentence, Cond.selects RX7 yX7_isSentence yX7_isSentence, Cond.initialized RX7, Cond.code yX7_isSentence cX7_isSentence 2 (some .boolean), Cond.fieldLink RX7 58 "ArcLightModel" "sentences" "I", Cond.methodLink RX7 65 yX7_asks, Cond.instanceMethod yX7_asks, Cond.selects RX7 yX7_asks yX7_asks, Cond.code yX7_asks cX7_asks 2 (some .boolean), Cond.fieldLink RX7 55 "ArcLightModel" "thrown" "I", Cond.methodLink RX7 168 yX7_isRight, Cond.instanceMethod yX7_isRight, Cond.selects RX7 yX7_isRight yX7_isRight, Cond.code yX7_isRight cX7_isRight 6 (some .boolean), Cond.methodLink RX7 144 yX7_finds, Cond.instanceMethod yX7_finds]
def wsX7_mend_r2 : List Cond := [Cond.selects RX7 yX7_finds yX7_finds, Cond.code yX7_finds cX7_finds 4 (some .int), Cond.fieldLink RX7 48 "ArcLightModel" "isFound" "[Z", Cond.fieldLink RX7 38 "ArcLightModel" "listed" "I", Cond.methodLink RX7 134 yX7_walks, Cond.instanceMethod yX7_walks, Cond.selects RX7 yX7_walks yX7_walks, Cond.code yX7_walks cX7_walks 11 none, Cond.constantLong RX7 121 (4611686018427387904), Cond.fieldLink RX7 123 "ArcLightModel" "many" "I", Cond.fieldLink RX7 52 "ArcLightModel" "head" "[I", Cond.fieldLink RX7 35 "ArcLightModel" "tree" "[J", Cond.methodLink RX7 126 yX7_keyOf, Cond.instanceMethod yX7_keyOf, Cond.selects RX7 yX7_keyOf yX7_keyOf, Cond.code yX7_keyOf cX7_keyOf 5 (some .long), Cond.constant RX7 120 (100000), Cond.methodLink RX7 105 yX7_scoreOf, Cond.instanceMethod yX7_scoreOf, Cond.selects RX7 yX7_scoreOf yX7_scoreOf, Cond.code yX7_scoreOf cX7_scoreOf 4 (some .int), Cond.methodLink RX7 90 yX7_byKind, Cond.instanceMethod yX7_byKind, Cond.selects RX7 yX7_byKind yX7_byKind]
def wsX7_mend_r3 : List Cond := [Cond.code yX7_byKind cX7_byKind 4 (some .int), Cond.fieldLink RX7 13 "ArcLightModel" "kind" "[I", Cond.methodLink RX7 94 yX7_byDistance, Cond.static yX7_byDistance, Cond.code yX7_byDistance cX7_byDistance 3 (some .int), Cond.methodLink RX7 130 yX7_may, Cond.instanceMethod yX7_may, Cond.selects RX7 yX7_may yX7_may, Cond.code yX7_may cX7_may 8 (some .boolean), Cond.fieldLink RX7 16 "ArcLightModel" "mark" "[I", Cond.methodLink RX7 108 yX7_arc, Cond.instanceMethod yX7_arc, Cond.selects RX7 yX7_arc yX7_arc, Cond.code yX7_arc cX7_arc 4 (some .int), Cond.methodLink RX7 117 yX7_doCross, Cond.instanceMethod yX7_doCross, Cond.selects RX7 yX7_doCross yX7_doCross, Cond.code yX7_doCross cX7_doCross 4 (some .boolean), Cond.methodLink RX7 111 yX7_isBetween, Cond.static yX7_isBetween, Cond.code yX7_isBetween cX7_isBetween 3 (some .boolean), Cond.methodLink RX7 114 yX7_isBeyond, Cond.static yX7_isBeyond, Cond.code yX7_isBeyond cX7_isBeyond 3 (some .boolean)]
def wsX7_mend_r4 : List Cond := [Cond.methodLink RX7 69 yX7_fails, Cond.instanceMethod yX7_fails, Cond.selects RX7 yX7_fails yX7_fails, Cond.code yX7_fails cX7_fails 2 (some .int), Cond.methodLink RX7 86 yX7_remembers, Cond.instanceMethod yX7_remembers, Cond.selects RX7 yX7_remembers yX7_remembers, Cond.code yX7_remembers cX7_remembers 4 none, Cond.fieldLink RX7 80 "ArcLightModel" "first" "I", Cond.fieldLink RX7 83 "ArcLightModel" "back" "I", Cond.fieldLink RX7 29 "ArcLightModel" "was" "[I", Cond.fieldLink RX7 32 "ArcLightModel" "weights" "[I", Cond.methodLink RX7 156 yX7_headIn, Cond.instanceMethod yX7_headIn, Cond.selects RX7 yX7_headIn yX7_headIn, Cond.code yX7_headIn cX7_headIn 5 (some .int), Cond.constantLong RX7 142 (7), Cond.methodLink RX7 171 yX7_adds, Cond.instanceMethod yX7_adds, Cond.selects RX7 yX7_adds yX7_adds, Cond.code yX7_adds cX7_adds 5 none, Cond.methodLink RX7 73 yX7_changed, Cond.instanceMethod yX7_changed, Cond.selects RX7 yX7_changed yX7_changed]
def wsX7_mend_r5 : List Cond := [Cond.code yX7_changed cX7_changed 2 none]
def wsX7_mend : List Cond := .code yX7_mend cX7_mend 8 (some .int) :: ((wsX7_mend_r1 ++ (wsX7_mend_r2 ++ (wsX7_mend_r3 ++ (wsX7_mend_r4 ++ wsX7_mend_r5)))) ++ wsX70)
def wsX7_steps : List Cond := .code yX7_steps cX7_steps 1 (some .int) :: ([.fieldLink RX7 55 "ArcLightModel" "thrown" "I", .fieldLink RX7 175 "ArcLightModel" "steps" "I"] ++ wsX70)
def wsX7_average : List Cond := .code yX7_average cX7_average 2 (some .double) :: ([.fieldLink RX7 175 "ArcLightModel" "steps" "I", .fieldLink RX7 25 "ArcLightModel" "sum" "[J", .methodLink RX7 65 yX7_asks, .instanceMethod yX7_asks, .selects RX7 yX7_asks yX7_asks, .initialized RX7, .code yX7_asks cX7_asks 2 (some .boolean), .fieldLink RX7 55 "ArcLightModel" "thrown" "I"] ++ wsX70)
def wsX7_rollBack : List Cond := .code yX7_rollBack cX7_rollBack 4 (some .int) :: ([.fieldLink RX7 83 "ArcLightModel" "back" "I", .fieldLink RX7 80 "ArcLightModel" "first" "I", .fieldLink RX7 29 "ArcLightModel" "was" "[I", .fieldLink RX7 25 "ArcLightModel" "sum" "[J", .fieldLink RX7 22 "ArcLightModel" "weight" "[I", .fieldLink RX7 32 "ArcLightModel" "weights" "[I", .fieldLink RX7 175 "ArcLightModel" "steps" "I", .methodLink RX7 65 yX7_asks, .instanceMethod yX7_asks, .selects RX7 yX7_asks yX7_asks, .initialized RX7, .code yX7_asks cX7_asks 2 (some .boolean), .fieldLink RX7 55 "ArcLightModel" "thrown" "I", .methodLink RX7 73 yX7_changed, .instanceMethod yX7_changed, .selects RX7 yX7_changed yX7_changed, .code yX7_changed cX7_changed 2 none, .fieldLink RX7 38 "ArcLightModel" "listed" "I", .fieldLink RX7 48 "ArcLightModel" "isFound" "[Z"] ++ wsX70)
def wsJ9_abs_0f7a4 : List Cond := .code yJ9_abs_0f7a4 cJ9_abs_0f7a4 1 (some .int) :: ([])
def wsJ9_max_7cf53 : List Cond := .code yJ9_max_7cf53 cJ9_max_7cf53 2 (some .int) :: ([])
def wsJ9_max_f86c9 : List Cond := .code yJ9_max_f86c9 cJ9_max_f86c9 4 (some .long) :: ([])
def wsJ9_min_7cf53 : List Cond := .code yJ9_min_7cf53 cJ9_min_7cf53 2 (some .int) :: ([])
def wsJ9_min_f86c9 : List Cond := .code yJ9_min_f86c9 cJ9_min_f86c9 4 (some .long) :: ([])
abbrev vwCl : List vw_C := [(RX0, TX0, 2), (RX1, TX1, 5), (RX2, TX2, 4), (RX3, TX3, 4), (RX4, TX4, 3), (RX5, TX5, 8), (RX6, TX6, 7), (RX7, TX7, 20)]
end
section
theorem dX0_init_0 : decode cX0_init 0 = .ok (.aload_n 0, 1) := by decide +kernel
theorem dX0_init_1 : decode cX0_init 1 = .ok (.invokespecial 3, 3) := by decide +kernel
theorem dX0_init_4 : decode cX0_init 4 = .ok (.aload_n 0, 1) := by decide +kernel
theorem dX0_init_5 : decode cX0_init 5 = .ok (.bipush 7, 2) := by decide +kernel
theorem dX0_init_7 : decode cX0_init 7 = .ok (.bipush 7, 2) := by decide +kernel
theorem dX0_init_9 : decode cX0_init 9 = .ok (.multianewarray 9 2, 4) := by decide +kernel
theorem dX0_init_13 : decode cX0_init 13 = .ok (.putfield 11, 3) := by decide +kernel
theorem dX0_init_16 : decode cX0_init 16 = .ok (.aload_n 0, 1) := by decide +kernel
theorem dX0_init_17 : decode cX0_init 17 = .ok (.iconst 0, 1) := by decide +kernel
theorem dX0_init_18 : decode cX0_init 18 = .ok (.putfield 16, 3) := by decide +kernel
theorem dX0_init_21 : decode cX0_init 21 = .ok (.return_, 1) := by decide +kernel
set_option maxRecDepth 20000 in
theorem ggX0_fill_X2_size : GoodIn wsX0_fill wsX2_size := goodIn_r _ [13, 14, 61, 62, 63, 64] (by decide +kernel) (by decide +kernel)
set_option maxRecDepth 20000 in
theorem gX0_fill_X2_size : GoodIn wsX0_fill (wsV RX0 20 RX2 yX2_size wsX2_size) := goodIn_app (goodIn_of _ (by decide +kernel)) ggX0_fill_X2_size
set_option maxRecDepth 20000 in
theorem ggX0_fill_X2_allows : GoodIn wsX0_fill wsX2_allows := goodIn_r _ [18, 19, 20, 21, 12, 22, 23, 24, 25, 26, 27, 28, 29, 30, 14, 61, 62, 63, 64] (by decide +kernel) (by decide +kernel)
set_option maxRecDepth 20000 in
theorem gX0_fill_X2_allows : GoodIn wsX0_fill (wsV RX0 34 RX2 yX2_allows wsX2_allows) := goodIn_app (goodIn_of _ (by decide +kernel)) ggX0_fill_X2_allows
set_option maxRecDepth 20000 in
theorem ggX0_fill_X5_ofArc : GoodIn wsX0_fill wsX5_ofArc := goodIn_r _ [35, 36, 37, 38, 12, 39, 40, 41, 42, 43, 44, 24, 25, 26, 45, 46, 47, 34, 48, 49, 50, 51, 52, 53, 54, 55, 56, 3, 57, 58, 2, 4, 61, 62, 63, 64, 65, 66, 67, 68, 69, 70, 71, 72] (by decide +kernel) (by decide +kernel)
set_option maxRecDepth 20000 in
theorem gX0_fill_X5_ofArc : GoodIn wsX0_fill (wsV RX0 38 RX5 yX5_ofArc wsX5_ofArc) := goodIn_app (goodIn_of _ (by decide +kernel)) ggX0_fill_X5_ofArc
theorem dX0_fill_0 : decode cX0_fill 0 = .ok (.aload_n 0, 1) := by decide +kernel
theorem dX0_fill_1 : decode cX0_fill 1 = .ok (.aload_n 1, 1) := by decide +kernel
theorem dX0_fill_2 : decode cX0_fill 2 = .ok (.invokevirtual 20, 3) := by decide +kernel
theorem dX0_fill_5 : decode cX0_fill 5 = .ok (.bipush 6, 2) := by decide +kernel
theorem dX0_fill_7 : decode cX0_fill 7 = .ok (.invokestatic 26, 3) := by decide +kernel
theorem dX0_fill_10 : decode cX0_fill 10 = .ok (.putfield 16, 3) := by decide +kernel
theorem dX0_fill_13 : decode cX0_fill 13 = .ok (.iconst 0, 1) := by decide +kernel
theorem dX0_fill_14 : decode cX0_fill 14 = .ok (.istore_n 3, 1) := by decide +kernel
theorem dX0_fill_15 : decode cX0_fill 15 = .ok (.iload_n 3, 1) := by decide +kernel
theorem dX0_fill_16 : decode cX0_fill 16 = .ok (.aload_n 0, 1) := by decide +kernel
theorem dX0_fill_17 : decode cX0_fill 17 = .ok (.getfield 16, 3) := by decide +kernel
theorem dX0_fill_20 : decode cX0_fill 20 = .ok (.if_icmp .gt 86, 3) := by decide +kernel
theorem dX0_fill_23 : decode cX0_fill 23 = .ok (.aload_n 0, 1) := by decide +kernel
theorem dX0_fill_24 : decode cX0_fill 24 = .ok (.getfield 11, 3) := by decide +kernel
theorem dX0_fill_27 : decode cX0_fill 27 = .ok (.iload_n 3, 1) := by decide +kernel
theorem dX0_fill_28 : decode cX0_fill 28 = .ok (.aaload, 1) := by decide +kernel
theorem dX0_fill_29 : decode cX0_fill 29 = .ok (.iconst 0, 1) := by decide +kernel
theorem dX0_fill_30 : decode cX0_fill 30 = .ok (.ldc2_w 32, 3) := by decide +kernel
theorem dX0_fill_33 : decode cX0_fill 33 = .ok (.lastore, 1) := by decide +kernel
theorem dX0_fill_34 : decode cX0_fill 34 = .ok (.iconst 1, 1) := by decide +kernel
theorem dX0_fill_35 : decode cX0_fill 35 = .ok (.istore 4, 2) := by decide +kernel
theorem dX0_fill_37 : decode cX0_fill 37 = .ok (.iload 4, 2) := by decide +kernel
theorem dX0_fill_39 : decode cX0_fill 39 = .ok (.aload_n 0, 1) := by decide +kernel
theorem dX0_fill_40 : decode cX0_fill 40 = .ok (.getfield 16, 3) := by decide +kernel
theorem dX0_fill_43 : decode cX0_fill 43 = .ok (.if_icmp .gt 57, 3) := by decide +kernel
theorem dX0_fill_46 : decode cX0_fill 46 = .ok (.aload_n 0, 1) := by decide +kernel
theorem dX0_fill_47 : decode cX0_fill 47 = .ok (.getfield 11, 3) := by decide +kernel
theorem dX0_fill_50 : decode cX0_fill 50 = .ok (.iload_n 3, 1) := by decide +kernel
theorem dX0_fill_51 : decode cX0_fill 51 = .ok (.aaload, 1) := by decide +kernel
theorem dX0_fill_52 : decode cX0_fill 52 = .ok (.iload 4, 2) := by decide +kernel
theorem dX0_fill_54 : decode cX0_fill 54 = .ok (.aload_n 1, 1) := by decide +kernel
theorem dX0_fill_55 : decode cX0_fill 55 = .ok (.iload_n 3, 1) := by decide +kernel
theorem dX0_fill_56 : decode cX0_fill 56 = .ok (.iload 4, 2) := by decide +kernel
theorem dX0_fill_58 : decode cX0_fill 58 = .ok (.invokevirtual 34, 3) := by decide +kernel
theorem dX0_fill_61 : decode cX0_fill 61 = .ok (.ifCond .eq 29, 3) := by decide +kernel
theorem dX0_fill_64 : decode cX0_fill 64 = .ok (.aload_n 2, 1) := by decide +kernel
theorem dX0_fill_65 : decode cX0_fill 65 = .ok (.aload_n 1, 1) := by decide +kernel
theorem dX0_fill_66 : decode cX0_fill 66 = .ok (.iload_n 3, 1) := by decide +kernel
theorem dX0_fill_67 : decode cX0_fill 67 = .ok (.iload 4, 2) := by decide +kernel
theorem dX0_fill_69 : decode cX0_fill 69 = .ok (.invokevirtual 38, 3) := by decide +kernel
theorem dX0_fill_72 : decode cX0_fill 72 = .ok (.i2l, 1) := by decide +kernel
theorem dX0_fill_73 : decode cX0_fill 73 = .ok (.ldc2_w 44, 3) := by decide +kernel
theorem dX0_fill_76 : decode cX0_fill 76 = .ok (.lmul, 1) := by decide +kernel
theorem dX0_fill_77 : decode cX0_fill 77 = .ok (.iload_n 3, 1) := by decide +kernel
theorem dX0_fill_78 : decode cX0_fill 78 = .ok (.i2l, 1) := by decide +kernel
theorem dX0_fill_79 : decode cX0_fill 79 = .ok (.getstatic 46, 3) := by decide +kernel
theorem dX0_fill_82 : decode cX0_fill 82 = .ok (.iload 4, 2) := by decide +kernel
theorem dX0_fill_84 : decode cX0_fill 84 = .ok (.laload, 1) := by decide +kernel
theorem dX0_fill_85 : decode cX0_fill 85 = .ok (.lmul, 1) := by decide +kernel
theorem dX0_fill_86 : decode cX0_fill 86 = .ok (.lsub, 1) := by decide +kernel
theorem dX0_fill_87 : decode cX0_fill 87 = .ok (.goto 6, 3) := by decide +kernel
theorem dX0_fill_90 : decode cX0_fill 90 = .ok (.ldc2_w 32, 3) := by decide +kernel
theorem dX0_fill_93 : decode cX0_fill 93 = .ok (.lastore, 1) := by decide +kernel
theorem dX0_fill_94 : decode cX0_fill 94 = .ok (.iinc 4 1, 3) := by decide +kernel
theorem dX0_fill_97 : decode cX0_fill 97 = .ok (.goto (-60), 3) := by decide +kernel
theorem dX0_fill_100 : decode cX0_fill 100 = .ok (.iinc 3 1, 3) := by decide +kernel
theorem dX0_fill_103 : decode cX0_fill 103 = .ok (.goto (-88), 3) := by decide +kernel
theorem dX0_fill_106 : decode cX0_fill 106 = .ok (.return_, 1) := by decide +kernel
theorem dX0_size_0 : decode cX0_size 0 = .ok (.aload_n 0, 1) := by decide +kernel
theorem dX0_size_1 : decode cX0_size 1 = .ok (.getfield 16, 3) := by decide +kernel
theorem dX0_size_4 : decode cX0_size 4 = .ok (.ireturn, 1) := by decide +kernel
set_option maxRecDepth 20000 in
theorem ggX0_get_X6_isPlace : GoodIn wsX0_get wsX6_isPlace := goodIn_r _ [5] (by decide +kernel) (by decide +kernel)
set_option maxRecDepth 20000 in
theorem gX0_get_X6_isPlace_n50 : GoodIn wsX0_get (wsX6_isPlace) := ggX0_get_X6_isPlace
theorem dX0_get_0 : decode cX0_get 0 = .ok (.iload_n 1, 1) := by decide +kernel
theorem dX0_get_1 : decode cX0_get 1 = .ok (.invokestatic 50, 3) := by decide +kernel
theorem dX0_get_4 : decode cX0_get 4 = .ok (.ifCond .eq 21, 3) := by decide +kernel
theorem dX0_get_7 : decode cX0_get 7 = .ok (.iload_n 2, 1) := by decide +kernel
theorem dX0_get_8 : decode cX0_get 8 = .ok (.invokestatic 50, 3) := by decide +kernel
theorem dX0_get_11 : decode cX0_get 11 = .ok (.ifCond .eq 14, 3) := by decide +kernel
theorem dX0_get_14 : decode cX0_get 14 = .ok (.aload_n 0, 1) := by decide +kernel
theorem dX0_get_15 : decode cX0_get 15 = .ok (.getfield 11, 3) := by decide +kernel
theorem dX0_get_18 : decode cX0_get 18 = .ok (.iload_n 1, 1) := by decide +kernel
theorem dX0_get_19 : decode cX0_get 19 = .ok (.aaload, 1) := by decide +kernel
theorem dX0_get_20 : decode cX0_get 20 = .ok (.iload_n 2, 1) := by decide +kernel
theorem dX0_get_21 : decode cX0_get 21 = .ok (.laload, 1) := by decide +kernel
theorem dX0_get_22 : decode cX0_get 22 = .ok (.goto 6, 3) := by decide +kernel
theorem dX0_get_25 : decode cX0_get 25 = .ok (.ldc2_w 32, 3) := by decide +kernel
theorem dX0_get_28 : decode cX0_get 28 = .ok (.lreturn, 1) := by decide +kernel
theorem dX1_init_0 : decode cX1_init 0 = .ok (.aload_n 0, 1) := by decide +kernel
theorem dX1_init_1 : decode cX1_init 1 = .ok (.invokespecial 3, 3) := by decide +kernel
theorem dX1_init_4 : decode cX1_init 4 = .ok (.aload_n 0, 1) := by decide +kernel
theorem dX1_init_5 : decode cX1_init 5 = .ok (.bipush 7, 2) := by decide +kernel
theorem dX1_init_7 : decode cX1_init 7 = .ok (.bipush 7, 2) := by decide +kernel
theorem dX1_init_9 : decode cX1_init 9 = .ok (.multianewarray 9 2, 4) := by decide +kernel
theorem dX1_init_13 : decode cX1_init 13 = .ok (.putfield 11, 3) := by decide +kernel
theorem dX1_init_16 : decode cX1_init 16 = .ok (.aload_n 0, 1) := by decide +kernel
theorem dX1_init_17 : decode cX1_init 17 = .ok (.bipush 7, 2) := by decide +kernel
theorem dX1_init_19 : decode cX1_init 19 = .ok (.bipush 7, 2) := by decide +kernel
theorem dX1_init_21 : decode cX1_init 21 = .ok (.multianewarray 9 2, 4) := by decide +kernel
theorem dX1_init_25 : decode cX1_init 25 = .ok (.putfield 16, 3) := by decide +kernel
theorem dX1_init_28 : decode cX1_init 28 = .ok (.aload_n 0, 1) := by decide +kernel
theorem dX1_init_29 : decode cX1_init 29 = .ok (.bipush 7, 2) := by decide +kernel
theorem dX1_init_31 : decode cX1_init 31 = .ok (.newarray .int, 2) := by decide +kernel
theorem dX1_init_33 : decode cX1_init 33 = .ok (.putfield 19, 3) := by decide +kernel
theorem dX1_init_36 : decode cX1_init 36 = .ok (.aload_n 0, 1) := by decide +kernel
theorem dX1_init_37 : decode cX1_init 37 = .ok (.bipush 7, 2) := by decide +kernel
theorem dX1_init_39 : decode cX1_init 39 = .ok (.newarray .int, 2) := by decide +kernel
theorem dX1_init_41 : decode cX1_init 41 = .ok (.putfield 23, 3) := by decide +kernel
theorem dX1_init_44 : decode cX1_init 44 = .ok (.aload_n 0, 1) := by decide +kernel
theorem dX1_init_45 : decode cX1_init 45 = .ok (.iconst 0, 1) := by decide +kernel
theorem dX1_init_46 : decode cX1_init 46 = .ok (.putfield 26, 3) := by decide +kernel
theorem dX1_init_49 : decode cX1_init 49 = .ok (.return_, 1) := by decide +kernel
set_option maxRecDepth 20000 in
theorem ggX1_greatest_X0_size : GoodIn wsX1_greatest wsX0_size := goodIn_r _ [12, 13, 67, 68] (by decide +kernel) (by decide +kernel)
set_option maxRecDepth 20000 in
theorem gX1_greatest_X0_size : GoodIn wsX1_greatest (wsV RX1 30 RX0 yX0_size wsX0_size) := goodIn_app (goodIn_of _ (by decide +kernel)) ggX1_greatest_X0_size
set_option maxRecDepth 20000 in
theorem ggX1_greatest_X0_get : GoodIn wsX1_greatest wsX0_get := goodIn_r _ [17, 18, 19, 20, 21, 22, 67, 68] (by decide +kernel) (by decide +kernel)
set_option maxRecDepth 20000 in
theorem gX1_greatest_X0_get : GoodIn wsX1_greatest (wsV RX1 42 RX0 yX0_get wsX0_get) := goodIn_app (goodIn_of _ (by decide +kernel)) ggX1_greatest_X0_get
set_option maxRecDepth 20000 in
theorem ggX1_greatest_X1_takeGreatest : GoodIn wsX1_greatest wsX1_takeGreatest := goodIn_r _ [27, 5, 28, 6, 7, 29, 30, 31, 26, 32, 33, 34, 35, 36, 20, 21, 22, 62, 63, 64, 65, 66] (by decide +kernel) (by decide +kernel)
set_option maxRecDepth 20000 in
theorem gX1_greatest_X1_takeGreatest : GoodIn wsX1_greatest (wsV RX1 46 RX1 yX1_takeGreatest wsX1_takeGreatest) := goodIn_app (goodIn_of _ (by decide +kernel)) ggX1_greatest_X1_takeGreatest
set_option maxRecDepth 20000 in
theorem ggX1_greatest_X1_findCircle : GoodIn wsX1_greatest wsX1_findCircle := goodIn_r _ [40, 5, 33, 34, 35, 26, 36, 28, 62, 63, 64, 65, 66] (by decide +kernel) (by decide +kernel)
set_option maxRecDepth 20000 in
theorem gX1_greatest_X1_findCircle : GoodIn wsX1_greatest (wsV RX1 52 RX1 yX1_findCircle wsX1_findCircle) := goodIn_app (goodIn_of _ (by decide +kernel)) ggX1_greatest_X1_findCircle
set_option maxRecDepth 20000 in
theorem ggX1_greatest_X1_contract : GoodIn wsX1_greatest wsX1_contract := goodIn_r _ [44, 45, 7, 5, 6, 46, 47, 48, 49, 26, 50, 1, 2, 3, 4, 51, 52, 53, 54, 20, 21, 22, 33, 34, 35, 36, 28, 55, 56, 57, 29, 30, 31, 32, 58, 59, 60, 61, 62, 63, 64, 65, 66] (by decide +kernel) (by decide +kernel)
set_option maxRecDepth 20000 in
theorem gX1_greatest_X1_contract : GoodIn wsX1_greatest (wsV RX1 55 RX1 yX1_contract wsX1_contract) := goodIn_app (goodIn_of _ (by decide +kernel)) ggX1_greatest_X1_contract
theorem dX1_greatest_0 : decode cX1_greatest 0 = .ok (.aload_n 0, 1) := by decide +kernel
theorem dX1_greatest_1 : decode cX1_greatest 1 = .ok (.aload_n 1, 1) := by decide +kernel
theorem dX1_greatest_2 : decode cX1_greatest 2 = .ok (.invokevirtual 30, 3) := by decide +kernel
theorem dX1_greatest_5 : decode cX1_greatest 5 = .ok (.iconst 1, 1) := by decide +kernel
theorem dX1_greatest_6 : decode cX1_greatest 6 = .ok (.iadd, 1) := by decide +kernel
theorem dX1_greatest_7 : decode cX1_greatest 7 = .ok (.bipush 7, 2) := by decide +kernel
theorem dX1_greatest_9 : decode cX1_greatest 9 = .ok (.invokestatic 36, 3) := by decide +kernel
theorem dX1_greatest_12 : decode cX1_greatest 12 = .ok (.putfield 26, 3) := by decide +kernel
theorem dX1_greatest_15 : decode cX1_greatest 15 = .ok (.iconst 0, 1) := by decide +kernel
theorem dX1_greatest_16 : decode cX1_greatest 16 = .ok (.istore_n 2, 1) := by decide +kernel
theorem dX1_greatest_17 : decode cX1_greatest 17 = .ok (.iload_n 2, 1) := by decide +kernel
theorem dX1_greatest_18 : decode cX1_greatest 18 = .ok (.aload_n 0, 1) := by decide +kernel
theorem dX1_greatest_19 : decode cX1_greatest 19 = .ok (.getfield 26, 3) := by decide +kernel
theorem dX1_greatest_22 : decode cX1_greatest 22 = .ok (.if_icmp .ge 39, 3) := by decide +kernel
theorem dX1_greatest_25 : decode cX1_greatest 25 = .ok (.iconst 0, 1) := by decide +kernel
theorem dX1_greatest_26 : decode cX1_greatest 26 = .ok (.istore_n 3, 1) := by decide +kernel
theorem dX1_greatest_27 : decode cX1_greatest 27 = .ok (.iload_n 3, 1) := by decide +kernel
theorem dX1_greatest_28 : decode cX1_greatest 28 = .ok (.aload_n 0, 1) := by decide +kernel
theorem dX1_greatest_29 : decode cX1_greatest 29 = .ok (.getfield 26, 3) := by decide +kernel
theorem dX1_greatest_32 : decode cX1_greatest 32 = .ok (.if_icmp .ge 23, 3) := by decide +kernel
theorem dX1_greatest_35 : decode cX1_greatest 35 = .ok (.aload_n 0, 1) := by decide +kernel
theorem dX1_greatest_36 : decode cX1_greatest 36 = .ok (.getfield 11, 3) := by decide +kernel
theorem dX1_greatest_39 : decode cX1_greatest 39 = .ok (.iload_n 2, 1) := by decide +kernel
theorem dX1_greatest_40 : decode cX1_greatest 40 = .ok (.aaload, 1) := by decide +kernel
theorem dX1_greatest_41 : decode cX1_greatest 41 = .ok (.iload_n 3, 1) := by decide +kernel
theorem dX1_greatest_42 : decode cX1_greatest 42 = .ok (.aload_n 1, 1) := by decide +kernel
theorem dX1_greatest_43 : decode cX1_greatest 43 = .ok (.iload_n 2, 1) := by decide +kernel
theorem dX1_greatest_44 : decode cX1_greatest 44 = .ok (.iload_n 3, 1) := by decide +kernel
theorem dX1_greatest_45 : decode cX1_greatest 45 = .ok (.invokevirtual 42, 3) := by decide +kernel
theorem dX1_greatest_48 : decode cX1_greatest 48 = .ok (.lastore, 1) := by decide +kernel
theorem dX1_greatest_49 : decode cX1_greatest 49 = .ok (.iinc 3 1, 3) := by decide +kernel
theorem dX1_greatest_52 : decode cX1_greatest 52 = .ok (.goto (-25), 3) := by decide +kernel
theorem dX1_greatest_55 : decode cX1_greatest 55 = .ok (.iinc 2 1, 3) := by decide +kernel
theorem dX1_greatest_58 : decode cX1_greatest 58 = .ok (.goto (-41), 3) := by decide +kernel
theorem dX1_greatest_61 : decode cX1_greatest 61 = .ok (.lconst 0, 1) := by decide +kernel
theorem dX1_greatest_62 : decode cX1_greatest 62 = .ok (.lstore_n 2, 1) := by decide +kernel
theorem dX1_greatest_63 : decode cX1_greatest 63 = .ok (.iconst 0, 1) := by decide +kernel
theorem dX1_greatest_64 : decode cX1_greatest 64 = .ok (.istore 4, 2) := by decide +kernel
theorem dX1_greatest_66 : decode cX1_greatest 66 = .ok (.iload 4, 2) := by decide +kernel
theorem dX1_greatest_68 : decode cX1_greatest 68 = .ok (.bipush 7, 2) := by decide +kernel
theorem dX1_greatest_70 : decode cX1_greatest 70 = .ok (.if_icmp .ge 52, 3) := by decide +kernel
theorem dX1_greatest_73 : decode cX1_greatest 73 = .ok (.aload_n 0, 1) := by decide +kernel
theorem dX1_greatest_74 : decode cX1_greatest 74 = .ok (.invokevirtual 46, 3) := by decide +kernel
theorem dX1_greatest_77 : decode cX1_greatest 77 = .ok (.lstore 5, 2) := by decide +kernel
theorem dX1_greatest_79 : decode cX1_greatest 79 = .ok (.lload 5, 2) := by decide +kernel
theorem dX1_greatest_81 : decode cX1_greatest 81 = .ok (.ldc2_w 50, 3) := by decide +kernel
theorem dX1_greatest_84 : decode cX1_greatest 84 = .ok (.lcmp, 1) := by decide +kernel
theorem dX1_greatest_85 : decode cX1_greatest 85 = .ok (.ifCond .ne 7, 3) := by decide +kernel
theorem dX1_greatest_88 : decode cX1_greatest 88 = .ok (.ldc2_w 50, 3) := by decide +kernel
theorem dX1_greatest_91 : decode cX1_greatest 91 = .ok (.lreturn, 1) := by decide +kernel
theorem dX1_greatest_92 : decode cX1_greatest 92 = .ok (.lload_n 2, 1) := by decide +kernel
theorem dX1_greatest_93 : decode cX1_greatest 93 = .ok (.lload 5, 2) := by decide +kernel
theorem dX1_greatest_95 : decode cX1_greatest 95 = .ok (.ladd, 1) := by decide +kernel
theorem dX1_greatest_96 : decode cX1_greatest 96 = .ok (.lstore_n 2, 1) := by decide +kernel
theorem dX1_greatest_97 : decode cX1_greatest 97 = .ok (.aload_n 0, 1) := by decide +kernel
theorem dX1_greatest_98 : decode cX1_greatest 98 = .ok (.invokevirtual 52, 3) := by decide +kernel
theorem dX1_greatest_101 : decode cX1_greatest 101 = .ok (.istore 7, 2) := by decide +kernel
theorem dX1_greatest_103 : decode cX1_greatest 103 = .ok (.iload 7, 2) := by decide +kernel
theorem dX1_greatest_105 : decode cX1_greatest 105 = .ok (.ifCond .ne 5, 3) := by decide +kernel
theorem dX1_greatest_108 : decode cX1_greatest 108 = .ok (.lload_n 2, 1) := by decide +kernel
theorem dX1_greatest_109 : decode cX1_greatest 109 = .ok (.lreturn, 1) := by decide +kernel
theorem dX1_greatest_110 : decode cX1_greatest 110 = .ok (.aload_n 0, 1) := by decide +kernel
theorem dX1_greatest_111 : decode cX1_greatest 111 = .ok (.iload 7, 2) := by decide +kernel
theorem dX1_greatest_113 : decode cX1_greatest 113 = .ok (.invokevirtual 55, 3) := by decide +kernel
theorem dX1_greatest_116 : decode cX1_greatest 116 = .ok (.iinc 4 1, 3) := by decide +kernel
theorem dX1_greatest_119 : decode cX1_greatest 119 = .ok (.goto (-53), 3) := by decide +kernel
theorem dX1_greatest_122 : decode cX1_greatest 122 = .ok (.ldc2_w 50, 3) := by decide +kernel
theorem dX1_greatest_125 : decode cX1_greatest 125 = .ok (.lreturn, 1) := by decide +kernel
set_option maxRecDepth 20000 in
theorem ggX1_takeGreatest_X1_takenKey : GoodIn wsX1_takeGreatest wsX1_takenKey := goodIn_r _ [9, 3, 4, 10, 11, 12, 8, 13, 1, 2, 14, 15, 16, 17, 18, 19, 20, 21] (by decide +kernel) (by decide +kernel)
set_option maxRecDepth 20000 in
theorem gX1_takeGreatest_X1_takenKey : GoodIn wsX1_takeGreatest (wsV RX1 59 RX1 yX1_takenKey wsX1_takenKey) := goodIn_app (goodIn_of _ (by decide +kernel)) ggX1_takeGreatest_X1_takenKey
theorem dX1_takeGreatest_0 : decode cX1_takeGreatest 0 = .ok (.lconst 0, 1) := by decide +kernel
theorem dX1_takeGreatest_1 : decode cX1_takeGreatest 1 = .ok (.lstore_n 1, 1) := by decide +kernel
theorem dX1_takeGreatest_2 : decode cX1_takeGreatest 2 = .ok (.iconst 1, 1) := by decide +kernel
theorem dX1_takeGreatest_3 : decode cX1_takeGreatest 3 = .ok (.istore_n 3, 1) := by decide +kernel
theorem dX1_takeGreatest_4 : decode cX1_takeGreatest 4 = .ok (.iload_n 3, 1) := by decide +kernel
theorem dX1_takeGreatest_5 : decode cX1_takeGreatest 5 = .ok (.aload_n 0, 1) := by decide +kernel
theorem dX1_takeGreatest_6 : decode cX1_takeGreatest 6 = .ok (.getfield 26, 3) := by decide +kernel
theorem dX1_takeGreatest_9 : decode cX1_takeGreatest 9 = .ok (.if_icmp .ge 84, 3) := by decide +kernel
theorem dX1_takeGreatest_12 : decode cX1_takeGreatest 12 = .ok (.aload_n 0, 1) := by decide +kernel
theorem dX1_takeGreatest_13 : decode cX1_takeGreatest 13 = .ok (.getfield 19, 3) := by decide +kernel
theorem dX1_takeGreatest_16 : decode cX1_takeGreatest 16 = .ok (.iload_n 3, 1) := by decide +kernel
theorem dX1_takeGreatest_17 : decode cX1_takeGreatest 17 = .ok (.iconst 0, 1) := by decide +kernel
theorem dX1_takeGreatest_18 : decode cX1_takeGreatest 18 = .ok (.iastore, 1) := by decide +kernel
theorem dX1_takeGreatest_19 : decode cX1_takeGreatest 19 = .ok (.iconst 1, 1) := by decide +kernel
theorem dX1_takeGreatest_20 : decode cX1_takeGreatest 20 = .ok (.istore 4, 2) := by decide +kernel
theorem dX1_takeGreatest_22 : decode cX1_takeGreatest 22 = .ok (.iload 4, 2) := by decide +kernel
theorem dX1_takeGreatest_24 : decode cX1_takeGreatest 24 = .ok (.aload_n 0, 1) := by decide +kernel
theorem dX1_takeGreatest_25 : decode cX1_takeGreatest 25 = .ok (.getfield 26, 3) := by decide +kernel
theorem dX1_takeGreatest_28 : decode cX1_takeGreatest 28 = .ok (.if_icmp .ge 35, 3) := by decide +kernel
theorem dX1_takeGreatest_31 : decode cX1_takeGreatest 31 = .ok (.aload_n 0, 1) := by decide +kernel
theorem dX1_takeGreatest_32 : decode cX1_takeGreatest 32 = .ok (.getfield 11, 3) := by decide +kernel
theorem dX1_takeGreatest_35 : decode cX1_takeGreatest 35 = .ok (.iload 4, 2) := by decide +kernel
theorem dX1_takeGreatest_37 : decode cX1_takeGreatest 37 = .ok (.aaload, 1) := by decide +kernel
theorem dX1_takeGreatest_38 : decode cX1_takeGreatest 38 = .ok (.iload_n 3, 1) := by decide +kernel
theorem dX1_takeGreatest_39 : decode cX1_takeGreatest 39 = .ok (.laload, 1) := by decide +kernel
theorem dX1_takeGreatest_40 : decode cX1_takeGreatest 40 = .ok (.aload_n 0, 1) := by decide +kernel
theorem dX1_takeGreatest_41 : decode cX1_takeGreatest 41 = .ok (.iload_n 3, 1) := by decide +kernel
theorem dX1_takeGreatest_42 : decode cX1_takeGreatest 42 = .ok (.invokevirtual 59, 3) := by decide +kernel
theorem dX1_takeGreatest_45 : decode cX1_takeGreatest 45 = .ok (.lcmp, 1) := by decide +kernel
theorem dX1_takeGreatest_46 : decode cX1_takeGreatest 46 = .ok (.ifCond .le 11, 3) := by decide +kernel
theorem dX1_takeGreatest_49 : decode cX1_takeGreatest 49 = .ok (.aload_n 0, 1) := by decide +kernel
theorem dX1_takeGreatest_50 : decode cX1_takeGreatest 50 = .ok (.getfield 19, 3) := by decide +kernel
theorem dX1_takeGreatest_53 : decode cX1_takeGreatest 53 = .ok (.iload_n 3, 1) := by decide +kernel
theorem dX1_takeGreatest_54 : decode cX1_takeGreatest 54 = .ok (.iload 4, 2) := by decide +kernel
theorem dX1_takeGreatest_56 : decode cX1_takeGreatest 56 = .ok (.iastore, 1) := by decide +kernel
theorem dX1_takeGreatest_57 : decode cX1_takeGreatest 57 = .ok (.iinc 4 1, 3) := by decide +kernel
theorem dX1_takeGreatest_60 : decode cX1_takeGreatest 60 = .ok (.goto (-38), 3) := by decide +kernel
theorem dX1_takeGreatest_63 : decode cX1_takeGreatest 63 = .ok (.aload_n 0, 1) := by decide +kernel
theorem dX1_takeGreatest_64 : decode cX1_takeGreatest 64 = .ok (.iload_n 3, 1) := by decide +kernel
theorem dX1_takeGreatest_65 : decode cX1_takeGreatest 65 = .ok (.invokevirtual 59, 3) := by decide +kernel
theorem dX1_takeGreatest_68 : decode cX1_takeGreatest 68 = .ok (.ldc2_w 50, 3) := by decide +kernel
theorem dX1_takeGreatest_71 : decode cX1_takeGreatest 71 = .ok (.lcmp, 1) := by decide +kernel
theorem dX1_takeGreatest_72 : decode cX1_takeGreatest 72 = .ok (.ifCond .ne 7, 3) := by decide +kernel
theorem dX1_takeGreatest_75 : decode cX1_takeGreatest 75 = .ok (.ldc2_w 50, 3) := by decide +kernel
theorem dX1_takeGreatest_78 : decode cX1_takeGreatest 78 = .ok (.lreturn, 1) := by decide +kernel
theorem dX1_takeGreatest_79 : decode cX1_takeGreatest 79 = .ok (.lload_n 1, 1) := by decide +kernel
theorem dX1_takeGreatest_80 : decode cX1_takeGreatest 80 = .ok (.aload_n 0, 1) := by decide +kernel
theorem dX1_takeGreatest_81 : decode cX1_takeGreatest 81 = .ok (.iload_n 3, 1) := by decide +kernel
theorem dX1_takeGreatest_82 : decode cX1_takeGreatest 82 = .ok (.invokevirtual 59, 3) := by decide +kernel
theorem dX1_takeGreatest_85 : decode cX1_takeGreatest 85 = .ok (.ladd, 1) := by decide +kernel
theorem dX1_takeGreatest_86 : decode cX1_takeGreatest 86 = .ok (.lstore_n 1, 1) := by decide +kernel
theorem dX1_takeGreatest_87 : decode cX1_takeGreatest 87 = .ok (.iinc 3 1, 3) := by decide +kernel
theorem dX1_takeGreatest_90 : decode cX1_takeGreatest 90 = .ok (.goto (-86), 3) := by decide +kernel
theorem dX1_takeGreatest_93 : decode cX1_takeGreatest 93 = .ok (.lload_n 1, 1) := by decide +kernel
theorem dX1_takeGreatest_94 : decode cX1_takeGreatest 94 = .ok (.lreturn, 1) := by decide +kernel
set_option maxRecDepth 20000 in
theorem ggX1_takenKey_X1_takenHead : GoodIn wsX1_takenKey wsX1_takenHead := goodIn_r _ [7, 8, 9, 13, 14, 15, 16, 17] (by decide +kernel) (by decide +kernel)
set_option maxRecDepth 20000 in
theorem gX1_takenKey_X1_takenHead : GoodIn wsX1_takenKey (wsV RX1 63 RX1 yX1_takenHead wsX1_takenHead) := goodIn_app (goodIn_of _ (by decide +kernel)) ggX1_takenKey_X1_takenHead
set_option maxRecDepth 20000 in
theorem ggX1_takenKey_X6_isPlace : GoodIn wsX1_takenKey wsX6_isPlace := goodIn_r _ [12] (by decide +kernel) (by decide +kernel)
set_option maxRecDepth 20000 in
theorem gX1_takenKey_X6_isPlace_n67 : GoodIn wsX1_takenKey (wsX6_isPlace) := ggX1_takenKey_X6_isPlace
theorem dX1_takenKey_0 : decode cX1_takenKey 0 = .ok (.aload_n 0, 1) := by decide +kernel
theorem dX1_takenKey_1 : decode cX1_takenKey 1 = .ok (.iload_n 1, 1) := by decide +kernel
theorem dX1_takenKey_2 : decode cX1_takenKey 2 = .ok (.invokevirtual 63, 3) := by decide +kernel
theorem dX1_takenKey_5 : decode cX1_takenKey 5 = .ok (.istore_n 2, 1) := by decide +kernel
theorem dX1_takenKey_6 : decode cX1_takenKey 6 = .ok (.iload_n 2, 1) := by decide +kernel
theorem dX1_takenKey_7 : decode cX1_takenKey 7 = .ok (.invokestatic 67, 3) := by decide +kernel
theorem dX1_takenKey_10 : decode cX1_takenKey 10 = .ok (.ifCond .eq 21, 3) := by decide +kernel
theorem dX1_takenKey_13 : decode cX1_takenKey 13 = .ok (.iload_n 1, 1) := by decide +kernel
theorem dX1_takenKey_14 : decode cX1_takenKey 14 = .ok (.invokestatic 67, 3) := by decide +kernel
theorem dX1_takenKey_17 : decode cX1_takenKey 17 = .ok (.ifCond .eq 14, 3) := by decide +kernel
theorem dX1_takenKey_20 : decode cX1_takenKey 20 = .ok (.aload_n 0, 1) := by decide +kernel
theorem dX1_takenKey_21 : decode cX1_takenKey 21 = .ok (.getfield 11, 3) := by decide +kernel
theorem dX1_takenKey_24 : decode cX1_takenKey 24 = .ok (.iload_n 2, 1) := by decide +kernel
theorem dX1_takenKey_25 : decode cX1_takenKey 25 = .ok (.aaload, 1) := by decide +kernel
theorem dX1_takenKey_26 : decode cX1_takenKey 26 = .ok (.iload_n 1, 1) := by decide +kernel
theorem dX1_takenKey_27 : decode cX1_takenKey 27 = .ok (.laload, 1) := by decide +kernel
theorem dX1_takenKey_28 : decode cX1_takenKey 28 = .ok (.goto 6, 3) := by decide +kernel
theorem dX1_takenKey_31 : decode cX1_takenKey 31 = .ok (.ldc2_w 50, 3) := by decide +kernel
theorem dX1_takenKey_34 : decode cX1_takenKey 34 = .ok (.lreturn, 1) := by decide +kernel
theorem dX1_takenHead_0 : decode cX1_takenHead 0 = .ok (.iload_n 1, 1) := by decide +kernel
theorem dX1_takenHead_1 : decode cX1_takenHead 1 = .ok (.ifCond .le 20, 3) := by decide +kernel
theorem dX1_takenHead_4 : decode cX1_takenHead 4 = .ok (.iload_n 1, 1) := by decide +kernel
theorem dX1_takenHead_5 : decode cX1_takenHead 5 = .ok (.aload_n 0, 1) := by decide +kernel
theorem dX1_takenHead_6 : decode cX1_takenHead 6 = .ok (.getfield 26, 3) := by decide +kernel
theorem dX1_takenHead_9 : decode cX1_takenHead 9 = .ok (.if_icmp .ge 12, 3) := by decide +kernel
theorem dX1_takenHead_12 : decode cX1_takenHead 12 = .ok (.aload_n 0, 1) := by decide +kernel
theorem dX1_takenHead_13 : decode cX1_takenHead 13 = .ok (.getfield 19, 3) := by decide +kernel
theorem dX1_takenHead_16 : decode cX1_takenHead 16 = .ok (.iload_n 1, 1) := by decide +kernel
theorem dX1_takenHead_17 : decode cX1_takenHead 17 = .ok (.iaload, 1) := by decide +kernel
theorem dX1_takenHead_18 : decode cX1_takenHead 18 = .ok (.goto 4, 3) := by decide +kernel
theorem dX1_takenHead_21 : decode cX1_takenHead 21 = .ok (.iconst 0, 1) := by decide +kernel
theorem dX1_takenHead_22 : decode cX1_takenHead 22 = .ok (.ireturn, 1) := by decide +kernel
set_option maxRecDepth 20000 in
theorem ggX1_findCircle_X1_takenHead : GoodIn wsX1_findCircle wsX1_takenHead := goodIn_r _ [6, 1, 7, 8, 9, 10, 11, 12] (by decide +kernel) (by decide +kernel)
set_option maxRecDepth 20000 in
theorem gX1_findCircle_X1_takenHead : GoodIn wsX1_findCircle (wsV RX1 63 RX1 yX1_takenHead wsX1_takenHead) := goodIn_app (goodIn_of _ (by decide +kernel)) ggX1_findCircle_X1_takenHead
theorem dX1_findCircle_0 : decode cX1_findCircle 0 = .ok (.iconst 1, 1) := by decide +kernel
theorem dX1_findCircle_1 : decode cX1_findCircle 1 = .ok (.istore_n 1, 1) := by decide +kernel
theorem dX1_findCircle_2 : decode cX1_findCircle 2 = .ok (.iload_n 1, 1) := by decide +kernel
theorem dX1_findCircle_3 : decode cX1_findCircle 3 = .ok (.aload_n 0, 1) := by decide +kernel
theorem dX1_findCircle_4 : decode cX1_findCircle 4 = .ok (.getfield 26, 3) := by decide +kernel
theorem dX1_findCircle_7 : decode cX1_findCircle 7 = .ok (.if_icmp .ge 39, 3) := by decide +kernel
theorem dX1_findCircle_10 : decode cX1_findCircle 10 = .ok (.iload_n 1, 1) := by decide +kernel
theorem dX1_findCircle_11 : decode cX1_findCircle 11 = .ok (.istore_n 2, 1) := by decide +kernel
theorem dX1_findCircle_12 : decode cX1_findCircle 12 = .ok (.iconst 0, 1) := by decide +kernel
theorem dX1_findCircle_13 : decode cX1_findCircle 13 = .ok (.istore_n 3, 1) := by decide +kernel
theorem dX1_findCircle_14 : decode cX1_findCircle 14 = .ok (.iload_n 3, 1) := by decide +kernel
theorem dX1_findCircle_15 : decode cX1_findCircle 15 = .ok (.aload_n 0, 1) := by decide +kernel
theorem dX1_findCircle_16 : decode cX1_findCircle 16 = .ok (.getfield 26, 3) := by decide +kernel
theorem dX1_findCircle_19 : decode cX1_findCircle 19 = .ok (.if_icmp .ge 15, 3) := by decide +kernel
theorem dX1_findCircle_22 : decode cX1_findCircle 22 = .ok (.aload_n 0, 1) := by decide +kernel
theorem dX1_findCircle_23 : decode cX1_findCircle 23 = .ok (.iload_n 2, 1) := by decide +kernel
theorem dX1_findCircle_24 : decode cX1_findCircle 24 = .ok (.invokevirtual 63, 3) := by decide +kernel
theorem dX1_findCircle_27 : decode cX1_findCircle 27 = .ok (.istore_n 2, 1) := by decide +kernel
theorem dX1_findCircle_28 : decode cX1_findCircle 28 = .ok (.iinc 3 1, 3) := by decide +kernel
theorem dX1_findCircle_31 : decode cX1_findCircle 31 = .ok (.goto (-17), 3) := by decide +kernel
theorem dX1_findCircle_34 : decode cX1_findCircle 34 = .ok (.iload_n 2, 1) := by decide +kernel
theorem dX1_findCircle_35 : decode cX1_findCircle 35 = .ok (.ifCond .eq 5, 3) := by decide +kernel
theorem dX1_findCircle_38 : decode cX1_findCircle 38 = .ok (.iload_n 2, 1) := by decide +kernel
theorem dX1_findCircle_39 : decode cX1_findCircle 39 = .ok (.ireturn, 1) := by decide +kernel
theorem dX1_findCircle_40 : decode cX1_findCircle 40 = .ok (.iinc 1 1, 3) := by decide +kernel
theorem dX1_findCircle_43 : decode cX1_findCircle 43 = .ok (.goto (-41), 3) := by decide +kernel
theorem dX1_findCircle_46 : decode cX1_findCircle 46 = .ok (.iconst 0, 1) := by decide +kernel
theorem dX1_findCircle_47 : decode cX1_findCircle 47 = .ok (.ireturn, 1) := by decide +kernel
set_option maxRecDepth 20000 in
theorem ggX1_contract_X1_groupNodes : GoodIn wsX1_contract wsX1_groupNodes := goodIn_r _ [10, 5, 3, 11, 12, 13, 14, 15, 16, 17, 18, 19, 20, 21, 22, 23, 24, 9, 25, 26, 38, 39, 40, 41, 42] (by decide +kernel) (by decide +kernel)
set_option maxRecDepth 20000 in
theorem gX1_contract_X1_groupNodes : GoodIn wsX1_contract (wsV RX1 71 RX1 yX1_groupNodes wsX1_groupNodes) := goodIn_app (goodIn_of _ (by decide +kernel)) ggX1_contract_X1_groupNodes
set_option maxRecDepth 20000 in
theorem ggX1_contract_J7_fill_d0a16 : GoodIn wsX1_contract wsJ7_fill_d0a16 := goodIn_r _ [29] (by decide +kernel) (by decide +kernel)
set_option maxRecDepth 20000 in
theorem gX1_contract_J7_fill_d0a16 : GoodIn wsX1_contract (va_wsS RX1 74 yJ7_fill_d0a16 wsJ7_fill_d0a16) := goodIn_app (goodIn_of _ (by decide +kernel)) ggX1_contract_J7_fill_d0a16
set_option maxRecDepth 20000 in
theorem ggX1_contract_X1_takenKey : GoodIn wsX1_contract wsX1_takenKey := goodIn_r _ [33, 4, 2, 22, 23, 24, 9, 25, 3, 26, 19, 20, 21, 38, 39, 40, 41, 42] (by decide +kernel) (by decide +kernel)
set_option maxRecDepth 20000 in
theorem gX1_contract_X1_takenKey : GoodIn wsX1_contract (wsV RX1 59 RX1 yX1_takenKey wsX1_takenKey) := goodIn_app (goodIn_of _ (by decide +kernel)) ggX1_contract_X1_takenKey
set_option maxRecDepth 20000 in
theorem ggX1_contract_X1_offer : GoodIn wsX1_contract wsX1_offer := goodIn_r _ [37, 1, 19, 20, 21, 38, 39, 40, 41, 42] (by decide +kernel) (by decide +kernel)
set_option maxRecDepth 20000 in
theorem gX1_contract_X1_offer : GoodIn wsX1_contract (wsV RX1 80 RX1 yX1_offer wsX1_offer) := goodIn_app (goodIn_of _ (by decide +kernel)) ggX1_contract_X1_offer
theorem dX1_contract_0 : decode cX1_contract 0 = .ok (.aload_n 0, 1) := by decide +kernel
theorem dX1_contract_1 : decode cX1_contract 1 = .ok (.iload_n 1, 1) := by decide +kernel
theorem dX1_contract_2 : decode cX1_contract 2 = .ok (.invokevirtual 71, 3) := by decide +kernel
theorem dX1_contract_5 : decode cX1_contract 5 = .ok (.istore_n 2, 1) := by decide +kernel
theorem dX1_contract_6 : decode cX1_contract 6 = .ok (.iconst 0, 1) := by decide +kernel
theorem dX1_contract_7 : decode cX1_contract 7 = .ok (.istore_n 3, 1) := by decide +kernel
theorem dX1_contract_8 : decode cX1_contract 8 = .ok (.iload_n 3, 1) := by decide +kernel
theorem dX1_contract_9 : decode cX1_contract 9 = .ok (.iload_n 2, 1) := by decide +kernel
theorem dX1_contract_10 : decode cX1_contract 10 = .ok (.if_icmp .ge 21, 3) := by decide +kernel
theorem dX1_contract_13 : decode cX1_contract 13 = .ok (.aload_n 0, 1) := by decide +kernel
theorem dX1_contract_14 : decode cX1_contract 14 = .ok (.getfield 16, 3) := by decide +kernel
theorem dX1_contract_17 : decode cX1_contract 17 = .ok (.iload_n 3, 1) := by decide +kernel
theorem dX1_contract_18 : decode cX1_contract 18 = .ok (.aaload, 1) := by decide +kernel
theorem dX1_contract_19 : decode cX1_contract 19 = .ok (.ldc2_w 50, 3) := by decide +kernel
theorem dX1_contract_22 : decode cX1_contract 22 = .ok (.invokestatic 74, 3) := by decide +kernel
theorem dX1_contract_25 : decode cX1_contract 25 = .ok (.iinc 3 1, 3) := by decide +kernel
theorem dX1_contract_28 : decode cX1_contract 28 = .ok (.goto (-20), 3) := by decide +kernel
theorem dX1_contract_31 : decode cX1_contract 31 = .ok (.iconst 1, 1) := by decide +kernel
theorem dX1_contract_32 : decode cX1_contract 32 = .ok (.istore_n 3, 1) := by decide +kernel
theorem dX1_contract_33 : decode cX1_contract 33 = .ok (.iload_n 3, 1) := by decide +kernel
theorem dX1_contract_34 : decode cX1_contract 34 = .ok (.aload_n 0, 1) := by decide +kernel
theorem dX1_contract_35 : decode cX1_contract 35 = .ok (.getfield 26, 3) := by decide +kernel
theorem dX1_contract_38 : decode cX1_contract 38 = .ok (.if_icmp .ge 79, 3) := by decide +kernel
theorem dX1_contract_41 : decode cX1_contract 41 = .ok (.aload_n 0, 1) := by decide +kernel
theorem dX1_contract_42 : decode cX1_contract 42 = .ok (.iload_n 3, 1) := by decide +kernel
theorem dX1_contract_43 : decode cX1_contract 43 = .ok (.invokevirtual 59, 3) := by decide +kernel
theorem dX1_contract_46 : decode cX1_contract 46 = .ok (.lstore 4, 2) := by decide +kernel
theorem dX1_contract_48 : decode cX1_contract 48 = .ok (.iconst 0, 1) := by decide +kernel
theorem dX1_contract_49 : decode cX1_contract 49 = .ok (.istore 6, 2) := by decide +kernel
theorem dX1_contract_51 : decode cX1_contract 51 = .ok (.iload 6, 2) := by decide +kernel
theorem dX1_contract_53 : decode cX1_contract 53 = .ok (.aload_n 0, 1) := by decide +kernel
theorem dX1_contract_54 : decode cX1_contract 54 = .ok (.getfield 26, 3) := by decide +kernel
theorem dX1_contract_57 : decode cX1_contract 57 = .ok (.if_icmp .ge 54, 3) := by decide +kernel
theorem dX1_contract_60 : decode cX1_contract 60 = .ok (.aload_n 0, 1) := by decide +kernel
theorem dX1_contract_61 : decode cX1_contract 61 = .ok (.getfield 11, 3) := by decide +kernel
theorem dX1_contract_64 : decode cX1_contract 64 = .ok (.iload 6, 2) := by decide +kernel
theorem dX1_contract_66 : decode cX1_contract 66 = .ok (.aaload, 1) := by decide +kernel
theorem dX1_contract_67 : decode cX1_contract 67 = .ok (.iload_n 3, 1) := by decide +kernel
theorem dX1_contract_68 : decode cX1_contract 68 = .ok (.laload, 1) := by decide +kernel
theorem dX1_contract_69 : decode cX1_contract 69 = .ok (.ldc2_w 50, 3) := by decide +kernel
theorem dX1_contract_72 : decode cX1_contract 72 = .ok (.lcmp, 1) := by decide +kernel
theorem dX1_contract_73 : decode cX1_contract 73 = .ok (.ifCond .eq 32, 3) := by decide +kernel
theorem dX1_contract_76 : decode cX1_contract 76 = .ok (.aload_n 0, 1) := by decide +kernel
theorem dX1_contract_77 : decode cX1_contract 77 = .ok (.aload_n 0, 1) := by decide +kernel
theorem dX1_contract_78 : decode cX1_contract 78 = .ok (.getfield 23, 3) := by decide +kernel
theorem dX1_contract_81 : decode cX1_contract 81 = .ok (.iload 6, 2) := by decide +kernel
theorem dX1_contract_83 : decode cX1_contract 83 = .ok (.iaload, 1) := by decide +kernel
theorem dX1_contract_84 : decode cX1_contract 84 = .ok (.aload_n 0, 1) := by decide +kernel
theorem dX1_contract_85 : decode cX1_contract 85 = .ok (.getfield 23, 3) := by decide +kernel
theorem dX1_contract_88 : decode cX1_contract 88 = .ok (.iload_n 3, 1) := by decide +kernel
theorem dX1_contract_89 : decode cX1_contract 89 = .ok (.iaload, 1) := by decide +kernel
theorem dX1_contract_90 : decode cX1_contract 90 = .ok (.aload_n 0, 1) := by decide +kernel
theorem dX1_contract_91 : decode cX1_contract 91 = .ok (.getfield 11, 3) := by decide +kernel
theorem dX1_contract_94 : decode cX1_contract 94 = .ok (.iload 6, 2) := by decide +kernel
theorem dX1_contract_96 : decode cX1_contract 96 = .ok (.aaload, 1) := by decide +kernel
theorem dX1_contract_97 : decode cX1_contract 97 = .ok (.iload_n 3, 1) := by decide +kernel
theorem dX1_contract_98 : decode cX1_contract 98 = .ok (.laload, 1) := by decide +kernel
theorem dX1_contract_99 : decode cX1_contract 99 = .ok (.lload 4, 2) := by decide +kernel
theorem dX1_contract_101 : decode cX1_contract 101 = .ok (.lsub, 1) := by decide +kernel
theorem dX1_contract_102 : decode cX1_contract 102 = .ok (.invokevirtual 80, 3) := by decide +kernel
theorem dX1_contract_105 : decode cX1_contract 105 = .ok (.iinc 6 1, 3) := by decide +kernel
theorem dX1_contract_108 : decode cX1_contract 108 = .ok (.goto (-57), 3) := by decide +kernel
theorem dX1_contract_111 : decode cX1_contract 111 = .ok (.iinc 3 1, 3) := by decide +kernel
theorem dX1_contract_114 : decode cX1_contract 114 = .ok (.goto (-81), 3) := by decide +kernel
theorem dX1_contract_117 : decode cX1_contract 117 = .ok (.aload_n 0, 1) := by decide +kernel
theorem dX1_contract_118 : decode cX1_contract 118 = .ok (.getfield 11, 3) := by decide +kernel
theorem dX1_contract_121 : decode cX1_contract 121 = .ok (.astore_n 3, 1) := by decide +kernel
theorem dX1_contract_122 : decode cX1_contract 122 = .ok (.aload_n 0, 1) := by decide +kernel
theorem dX1_contract_123 : decode cX1_contract 123 = .ok (.aload_n 0, 1) := by decide +kernel
theorem dX1_contract_124 : decode cX1_contract 124 = .ok (.getfield 16, 3) := by decide +kernel
theorem dX1_contract_127 : decode cX1_contract 127 = .ok (.putfield 11, 3) := by decide +kernel
theorem dX1_contract_130 : decode cX1_contract 130 = .ok (.aload_n 0, 1) := by decide +kernel
theorem dX1_contract_131 : decode cX1_contract 131 = .ok (.aload_n 3, 1) := by decide +kernel
theorem dX1_contract_132 : decode cX1_contract 132 = .ok (.putfield 16, 3) := by decide +kernel
theorem dX1_contract_135 : decode cX1_contract 135 = .ok (.aload_n 0, 1) := by decide +kernel
theorem dX1_contract_136 : decode cX1_contract 136 = .ok (.iload_n 2, 1) := by decide +kernel
theorem dX1_contract_137 : decode cX1_contract 137 = .ok (.putfield 26, 3) := by decide +kernel
theorem dX1_contract_140 : decode cX1_contract 140 = .ok (.return_, 1) := by decide +kernel
set_option maxRecDepth 20000 in
theorem ggX1_groupNodes_J7_fill_53178 : GoodIn wsX1_groupNodes wsJ7_fill_53178 := goodIn_r _ [10] (by decide +kernel) (by decide +kernel)
set_option maxRecDepth 20000 in
theorem gX1_groupNodes_J7_fill_53178 : GoodIn wsX1_groupNodes (va_wsS RX1 84 yJ7_fill_53178 wsJ7_fill_53178) := goodIn_app (goodIn_of _ (by decide +kernel)) ggX1_groupNodes_J7_fill_53178
set_option maxRecDepth 20000 in
theorem ggX1_groupNodes_X6_isPlace : GoodIn wsX1_groupNodes wsX6_isPlace := goodIn_r _ [13] (by decide +kernel) (by decide +kernel)
set_option maxRecDepth 20000 in
theorem gX1_groupNodes_X6_isPlace_n67 : GoodIn wsX1_groupNodes (wsX6_isPlace) := ggX1_groupNodes_X6_isPlace
set_option maxRecDepth 20000 in
theorem ggX1_groupNodes_X1_takenHead : GoodIn wsX1_groupNodes wsX1_takenHead := goodIn_r _ [18, 2, 19, 20, 21, 22, 23, 24] (by decide +kernel) (by decide +kernel)
set_option maxRecDepth 20000 in
theorem gX1_groupNodes_X1_takenHead : GoodIn wsX1_groupNodes (wsV RX1 63 RX1 yX1_takenHead wsX1_takenHead) := goodIn_app (goodIn_of _ (by decide +kernel)) ggX1_groupNodes_X1_takenHead
theorem dX1_groupNodes_0 : decode cX1_groupNodes 0 = .ok (.aload_n 0, 1) := by decide +kernel
theorem dX1_groupNodes_1 : decode cX1_groupNodes 1 = .ok (.getfield 23, 3) := by decide +kernel
theorem dX1_groupNodes_4 : decode cX1_groupNodes 4 = .ok (.iconst 0, 1) := by decide +kernel
theorem dX1_groupNodes_5 : decode cX1_groupNodes 5 = .ok (.invokestatic 84, 3) := by decide +kernel
theorem dX1_groupNodes_8 : decode cX1_groupNodes 8 = .ok (.iload_n 1, 1) := by decide +kernel
theorem dX1_groupNodes_9 : decode cX1_groupNodes 9 = .ok (.istore_n 2, 1) := by decide +kernel
theorem dX1_groupNodes_10 : decode cX1_groupNodes 10 = .ok (.iconst 0, 1) := by decide +kernel
theorem dX1_groupNodes_11 : decode cX1_groupNodes 11 = .ok (.istore_n 3, 1) := by decide +kernel
theorem dX1_groupNodes_12 : decode cX1_groupNodes 12 = .ok (.iload_n 3, 1) := by decide +kernel
theorem dX1_groupNodes_13 : decode cX1_groupNodes 13 = .ok (.aload_n 0, 1) := by decide +kernel
theorem dX1_groupNodes_14 : decode cX1_groupNodes 14 = .ok (.getfield 26, 3) := by decide +kernel
theorem dX1_groupNodes_17 : decode cX1_groupNodes 17 = .ok (.if_icmp .ge 29, 3) := by decide +kernel
theorem dX1_groupNodes_20 : decode cX1_groupNodes 20 = .ok (.iload_n 2, 1) := by decide +kernel
theorem dX1_groupNodes_21 : decode cX1_groupNodes 21 = .ok (.invokestatic 67, 3) := by decide +kernel
theorem dX1_groupNodes_24 : decode cX1_groupNodes 24 = .ok (.ifCond .eq 22, 3) := by decide +kernel
theorem dX1_groupNodes_27 : decode cX1_groupNodes 27 = .ok (.aload_n 0, 1) := by decide +kernel
theorem dX1_groupNodes_28 : decode cX1_groupNodes 28 = .ok (.getfield 23, 3) := by decide +kernel
theorem dX1_groupNodes_31 : decode cX1_groupNodes 31 = .ok (.iload_n 2, 1) := by decide +kernel
theorem dX1_groupNodes_32 : decode cX1_groupNodes 32 = .ok (.iconst (-1), 1) := by decide +kernel
theorem dX1_groupNodes_33 : decode cX1_groupNodes 33 = .ok (.iastore, 1) := by decide +kernel
theorem dX1_groupNodes_34 : decode cX1_groupNodes 34 = .ok (.aload_n 0, 1) := by decide +kernel
theorem dX1_groupNodes_35 : decode cX1_groupNodes 35 = .ok (.iload_n 2, 1) := by decide +kernel
theorem dX1_groupNodes_36 : decode cX1_groupNodes 36 = .ok (.invokevirtual 63, 3) := by decide +kernel
theorem dX1_groupNodes_39 : decode cX1_groupNodes 39 = .ok (.istore_n 2, 1) := by decide +kernel
theorem dX1_groupNodes_40 : decode cX1_groupNodes 40 = .ok (.iinc 3 1, 3) := by decide +kernel
theorem dX1_groupNodes_43 : decode cX1_groupNodes 43 = .ok (.goto (-31), 3) := by decide +kernel
theorem dX1_groupNodes_46 : decode cX1_groupNodes 46 = .ok (.iconst 0, 1) := by decide +kernel
theorem dX1_groupNodes_47 : decode cX1_groupNodes 47 = .ok (.istore_n 3, 1) := by decide +kernel
theorem dX1_groupNodes_48 : decode cX1_groupNodes 48 = .ok (.iconst 0, 1) := by decide +kernel
theorem dX1_groupNodes_49 : decode cX1_groupNodes 49 = .ok (.istore 4, 2) := by decide +kernel
theorem dX1_groupNodes_51 : decode cX1_groupNodes 51 = .ok (.iload 4, 2) := by decide +kernel
theorem dX1_groupNodes_53 : decode cX1_groupNodes 53 = .ok (.aload_n 0, 1) := by decide +kernel
theorem dX1_groupNodes_54 : decode cX1_groupNodes 54 = .ok (.getfield 26, 3) := by decide +kernel
theorem dX1_groupNodes_57 : decode cX1_groupNodes 57 = .ok (.if_icmp .ge 31, 3) := by decide +kernel
theorem dX1_groupNodes_60 : decode cX1_groupNodes 60 = .ok (.aload_n 0, 1) := by decide +kernel
theorem dX1_groupNodes_61 : decode cX1_groupNodes 61 = .ok (.getfield 23, 3) := by decide +kernel
theorem dX1_groupNodes_64 : decode cX1_groupNodes 64 = .ok (.iload 4, 2) := by decide +kernel
theorem dX1_groupNodes_66 : decode cX1_groupNodes 66 = .ok (.iaload, 1) := by decide +kernel
theorem dX1_groupNodes_67 : decode cX1_groupNodes 67 = .ok (.iconst (-1), 1) := by decide +kernel
theorem dX1_groupNodes_68 : decode cX1_groupNodes 68 = .ok (.if_icmp .eq 14, 3) := by decide +kernel
theorem dX1_groupNodes_71 : decode cX1_groupNodes 71 = .ok (.aload_n 0, 1) := by decide +kernel
theorem dX1_groupNodes_72 : decode cX1_groupNodes 72 = .ok (.getfield 23, 3) := by decide +kernel
theorem dX1_groupNodes_75 : decode cX1_groupNodes 75 = .ok (.iload 4, 2) := by decide +kernel
theorem dX1_groupNodes_77 : decode cX1_groupNodes 77 = .ok (.iload_n 3, 1) := by decide +kernel
theorem dX1_groupNodes_78 : decode cX1_groupNodes 78 = .ok (.iastore, 1) := by decide +kernel
theorem dX1_groupNodes_79 : decode cX1_groupNodes 79 = .ok (.iinc 3 1, 3) := by decide +kernel
theorem dX1_groupNodes_82 : decode cX1_groupNodes 82 = .ok (.iinc 4 1, 3) := by decide +kernel
theorem dX1_groupNodes_85 : decode cX1_groupNodes 85 = .ok (.goto (-34), 3) := by decide +kernel
theorem dX1_groupNodes_88 : decode cX1_groupNodes 88 = .ok (.iconst 0, 1) := by decide +kernel
theorem dX1_groupNodes_89 : decode cX1_groupNodes 89 = .ok (.istore 4, 2) := by decide +kernel
theorem dX1_groupNodes_91 : decode cX1_groupNodes 91 = .ok (.iload 4, 2) := by decide +kernel
theorem dX1_groupNodes_93 : decode cX1_groupNodes 93 = .ok (.aload_n 0, 1) := by decide +kernel
theorem dX1_groupNodes_94 : decode cX1_groupNodes 94 = .ok (.getfield 26, 3) := by decide +kernel
theorem dX1_groupNodes_97 : decode cX1_groupNodes 97 = .ok (.if_icmp .ge 28, 3) := by decide +kernel
theorem dX1_groupNodes_100 : decode cX1_groupNodes 100 = .ok (.aload_n 0, 1) := by decide +kernel
theorem dX1_groupNodes_101 : decode cX1_groupNodes 101 = .ok (.getfield 23, 3) := by decide +kernel
theorem dX1_groupNodes_104 : decode cX1_groupNodes 104 = .ok (.iload 4, 2) := by decide +kernel
theorem dX1_groupNodes_106 : decode cX1_groupNodes 106 = .ok (.iaload, 1) := by decide +kernel
theorem dX1_groupNodes_107 : decode cX1_groupNodes 107 = .ok (.iconst (-1), 1) := by decide +kernel
theorem dX1_groupNodes_108 : decode cX1_groupNodes 108 = .ok (.if_icmp .ne 11, 3) := by decide +kernel
theorem dX1_groupNodes_111 : decode cX1_groupNodes 111 = .ok (.aload_n 0, 1) := by decide +kernel
theorem dX1_groupNodes_112 : decode cX1_groupNodes 112 = .ok (.getfield 23, 3) := by decide +kernel
theorem dX1_groupNodes_115 : decode cX1_groupNodes 115 = .ok (.iload 4, 2) := by decide +kernel
theorem dX1_groupNodes_117 : decode cX1_groupNodes 117 = .ok (.iload_n 3, 1) := by decide +kernel
theorem dX1_groupNodes_118 : decode cX1_groupNodes 118 = .ok (.iastore, 1) := by decide +kernel
theorem dX1_groupNodes_119 : decode cX1_groupNodes 119 = .ok (.iinc 4 1, 3) := by decide +kernel
theorem dX1_groupNodes_122 : decode cX1_groupNodes 122 = .ok (.goto (-31), 3) := by decide +kernel
theorem dX1_groupNodes_125 : decode cX1_groupNodes 125 = .ok (.iload_n 3, 1) := by decide +kernel
theorem dX1_groupNodes_126 : decode cX1_groupNodes 126 = .ok (.iconst 1, 1) := by decide +kernel
theorem dX1_groupNodes_127 : decode cX1_groupNodes 127 = .ok (.iadd, 1) := by decide +kernel
theorem dX1_groupNodes_128 : decode cX1_groupNodes 128 = .ok (.aload_n 0, 1) := by decide +kernel
theorem dX1_groupNodes_129 : decode cX1_groupNodes 129 = .ok (.getfield 26, 3) := by decide +kernel
theorem dX1_groupNodes_132 : decode cX1_groupNodes 132 = .ok (.invokestatic 36, 3) := by decide +kernel
theorem dX1_groupNodes_135 : decode cX1_groupNodes 135 = .ok (.ireturn, 1) := by decide +kernel
set_option maxRecDepth 20000 in
theorem ggX1_offer_X6_isPlace : GoodIn wsX1_offer wsX6_isPlace := goodIn_r _ [4] (by decide +kernel) (by decide +kernel)
set_option maxRecDepth 20000 in
theorem gX1_offer_X6_isPlace_n67 : GoodIn wsX1_offer (wsX6_isPlace) := ggX1_offer_X6_isPlace
theorem dX1_offer_0 : decode cX1_offer 0 = .ok (.iload_n 1, 1) := by decide +kernel
theorem dX1_offer_1 : decode cX1_offer 1 = .ok (.iload_n 2, 1) := by decide +kernel
theorem dX1_offer_2 : decode cX1_offer 2 = .ok (.if_icmp .eq 39, 3) := by decide +kernel
theorem dX1_offer_5 : decode cX1_offer 5 = .ok (.iload_n 1, 1) := by decide +kernel
theorem dX1_offer_6 : decode cX1_offer 6 = .ok (.invokestatic 67, 3) := by decide +kernel
theorem dX1_offer_9 : decode cX1_offer 9 = .ok (.ifCond .eq 32, 3) := by decide +kernel
theorem dX1_offer_12 : decode cX1_offer 12 = .ok (.iload_n 2, 1) := by decide +kernel
theorem dX1_offer_13 : decode cX1_offer 13 = .ok (.invokestatic 67, 3) := by decide +kernel
theorem dX1_offer_16 : decode cX1_offer 16 = .ok (.ifCond .eq 25, 3) := by decide +kernel
theorem dX1_offer_19 : decode cX1_offer 19 = .ok (.lload_n 3, 1) := by decide +kernel
theorem dX1_offer_20 : decode cX1_offer 20 = .ok (.aload_n 0, 1) := by decide +kernel
theorem dX1_offer_21 : decode cX1_offer 21 = .ok (.getfield 16, 3) := by decide +kernel
theorem dX1_offer_24 : decode cX1_offer 24 = .ok (.iload_n 1, 1) := by decide +kernel
theorem dX1_offer_25 : decode cX1_offer 25 = .ok (.aaload, 1) := by decide +kernel
theorem dX1_offer_26 : decode cX1_offer 26 = .ok (.iload_n 2, 1) := by decide +kernel
theorem dX1_offer_27 : decode cX1_offer 27 = .ok (.laload, 1) := by decide +kernel
theorem dX1_offer_28 : decode cX1_offer 28 = .ok (.lcmp, 1) := by decide +kernel
theorem dX1_offer_29 : decode cX1_offer 29 = .ok (.ifCond .le 12, 3) := by decide +kernel
theorem dX1_offer_32 : decode cX1_offer 32 = .ok (.aload_n 0, 1) := by decide +kernel
theorem dX1_offer_33 : decode cX1_offer 33 = .ok (.getfield 16, 3) := by decide +kernel
theorem dX1_offer_36 : decode cX1_offer 36 = .ok (.iload_n 1, 1) := by decide +kernel
theorem dX1_offer_37 : decode cX1_offer 37 = .ok (.aaload, 1) := by decide +kernel
theorem dX1_offer_38 : decode cX1_offer 38 = .ok (.iload_n 2, 1) := by decide +kernel
theorem dX1_offer_39 : decode cX1_offer 39 = .ok (.lload_n 3, 1) := by decide +kernel
theorem dX1_offer_40 : decode cX1_offer 40 = .ok (.lastore, 1) := by decide +kernel
theorem dX1_offer_41 : decode cX1_offer 41 = .ok (.return_, 1) := by decide +kernel
set_option maxRecDepth 20000 in
theorem ggX2_init_J7_fill_53178 : GoodIn wsX2_init wsJ7_fill_53178 := goodIn_r _ [13] (by decide +kernel) (by decide +kernel)
set_option maxRecDepth 20000 in
theorem gX2_init_J7_fill_53178 : GoodIn wsX2_init (va_wsS RX2 27 yJ7_fill_53178 wsJ7_fill_53178) := goodIn_app (goodIn_of _ (by decide +kernel)) ggX2_init_J7_fill_53178
theorem dX2_init_0 : decode cX2_init 0 = .ok (.aload_n 0, 1) := by decide +kernel
theorem dX2_init_1 : decode cX2_init 1 = .ok (.invokespecial 3, 3) := by decide +kernel
theorem dX2_init_4 : decode cX2_init 4 = .ok (.aload_n 0, 1) := by decide +kernel
theorem dX2_init_5 : decode cX2_init 5 = .ok (.bipush 7, 2) := by decide +kernel
theorem dX2_init_7 : decode cX2_init 7 = .ok (.newarray .int, 2) := by decide +kernel
theorem dX2_init_9 : decode cX2_init 9 = .ok (.putfield 9, 3) := by decide +kernel
theorem dX2_init_12 : decode cX2_init 12 = .ok (.aload_n 0, 1) := by decide +kernel
theorem dX2_init_13 : decode cX2_init 13 = .ok (.bipush 7, 2) := by decide +kernel
theorem dX2_init_15 : decode cX2_init 15 = .ok (.newarray .int, 2) := by decide +kernel
theorem dX2_init_17 : decode cX2_init 17 = .ok (.putfield 15, 3) := by decide +kernel
theorem dX2_init_20 : decode cX2_init 20 = .ok (.aload_n 0, 1) := by decide +kernel
theorem dX2_init_21 : decode cX2_init 21 = .ok (.bipush 7, 2) := by decide +kernel
theorem dX2_init_23 : decode cX2_init 23 = .ok (.bipush 7, 2) := by decide +kernel
theorem dX2_init_25 : decode cX2_init 25 = .ok (.multianewarray 18 2, 4) := by decide +kernel
theorem dX2_init_29 : decode cX2_init 29 = .ok (.putfield 20, 3) := by decide +kernel
theorem dX2_init_32 : decode cX2_init 32 = .ok (.aload_n 0, 1) := by decide +kernel
theorem dX2_init_33 : decode cX2_init 33 = .ok (.iconst 0, 1) := by decide +kernel
theorem dX2_init_34 : decode cX2_init 34 = .ok (.putfield 23, 3) := by decide +kernel
theorem dX2_init_37 : decode cX2_init 37 = .ok (.aload_n 0, 1) := by decide +kernel
theorem dX2_init_38 : decode cX2_init 38 = .ok (.getfield 9, 3) := by decide +kernel
theorem dX2_init_41 : decode cX2_init 41 = .ok (.iconst 0, 1) := by decide +kernel
theorem dX2_init_42 : decode cX2_init 42 = .ok (.iconst 4, 1) := by decide +kernel
theorem dX2_init_43 : decode cX2_init 43 = .ok (.iastore, 1) := by decide +kernel
theorem dX2_init_44 : decode cX2_init 44 = .ok (.aload_n 0, 1) := by decide +kernel
theorem dX2_init_45 : decode cX2_init 45 = .ok (.getfield 15, 3) := by decide +kernel
theorem dX2_init_48 : decode cX2_init 48 = .ok (.iconst (-1), 1) := by decide +kernel
theorem dX2_init_49 : decode cX2_init 49 = .ok (.invokestatic 27, 3) := by decide +kernel
theorem dX2_init_52 : decode cX2_init 52 = .ok (.return_, 1) := by decide +kernel
theorem dX2_size_0 : decode cX2_size 0 = .ok (.aload_n 0, 1) := by decide +kernel
theorem dX2_size_1 : decode cX2_size 1 = .ok (.getfield 23, 3) := by decide +kernel
theorem dX2_size_4 : decode cX2_size 4 = .ok (.ireturn, 1) := by decide +kernel
theorem dX2_append_0 : decode cX2_append 0 = .ok (.aload_n 0, 1) := by decide +kernel
theorem dX2_append_1 : decode cX2_append 1 = .ok (.getfield 23, 3) := by decide +kernel
theorem dX2_append_4 : decode cX2_append 4 = .ok (.bipush 6, 2) := by decide +kernel
theorem dX2_append_6 : decode cX2_append 6 = .ok (.if_icmp .ge 23, 3) := by decide +kernel
theorem dX2_append_9 : decode cX2_append 9 = .ok (.aload_n 0, 1) := by decide +kernel
theorem dX2_append_10 : decode cX2_append 10 = .ok (.dup, 1) := by decide +kernel
theorem dX2_append_11 : decode cX2_append 11 = .ok (.getfield 23, 3) := by decide +kernel
theorem dX2_append_14 : decode cX2_append 14 = .ok (.iconst 1, 1) := by decide +kernel
theorem dX2_append_15 : decode cX2_append 15 = .ok (.iadd, 1) := by decide +kernel
theorem dX2_append_16 : decode cX2_append 16 = .ok (.putfield 23, 3) := by decide +kernel
theorem dX2_append_19 : decode cX2_append 19 = .ok (.aload_n 0, 1) := by decide +kernel
theorem dX2_append_20 : decode cX2_append 20 = .ok (.getfield 9, 3) := by decide +kernel
theorem dX2_append_23 : decode cX2_append 23 = .ok (.aload_n 0, 1) := by decide +kernel
theorem dX2_append_24 : decode cX2_append 24 = .ok (.getfield 23, 3) := by decide +kernel
theorem dX2_append_27 : decode cX2_append 27 = .ok (.iload_n 1, 1) := by decide +kernel
theorem dX2_append_28 : decode cX2_append 28 = .ok (.iastore, 1) := by decide +kernel
theorem dX2_append_29 : decode cX2_append 29 = .ok (.return_, 1) := by decide +kernel
set_option maxRecDepth 20000 in
theorem ggX2_kindAt_X6_isPlace : GoodIn wsX2_kindAt wsX6_isPlace := goodIn_r _ [4] (by decide +kernel) (by decide +kernel)
set_option maxRecDepth 20000 in
theorem gX2_kindAt_X6_isPlace_n33 : GoodIn wsX2_kindAt (wsX6_isPlace) := ggX2_kindAt_X6_isPlace
theorem dX2_kindAt_0 : decode cX2_kindAt 0 = .ok (.iload_n 1, 1) := by decide +kernel
theorem dX2_kindAt_1 : decode cX2_kindAt 1 = .ok (.invokestatic 33, 3) := by decide +kernel
theorem dX2_kindAt_4 : decode cX2_kindAt 4 = .ok (.ifCond .eq 12, 3) := by decide +kernel
theorem dX2_kindAt_7 : decode cX2_kindAt 7 = .ok (.aload_n 0, 1) := by decide +kernel
theorem dX2_kindAt_8 : decode cX2_kindAt 8 = .ok (.getfield 9, 3) := by decide +kernel
theorem dX2_kindAt_11 : decode cX2_kindAt 11 = .ok (.iload_n 1, 1) := by decide +kernel
theorem dX2_kindAt_12 : decode cX2_kindAt 12 = .ok (.iaload, 1) := by decide +kernel
theorem dX2_kindAt_13 : decode cX2_kindAt 13 = .ok (.goto 4, 3) := by decide +kernel
theorem dX2_kindAt_16 : decode cX2_kindAt 16 = .ok (.iconst (-1), 1) := by decide +kernel
theorem dX2_kindAt_17 : decode cX2_kindAt 17 = .ok (.ireturn, 1) := by decide +kernel
set_option maxRecDepth 20000 in
theorem ggX2_byKinds_X2_kindAt : GoodIn wsX2_byKinds wsX2_kindAt := goodIn_r _ [5, 6, 7, 8, 9, 10, 11, 12, 13] (by decide +kernel) (by decide +kernel)
set_option maxRecDepth 20000 in
theorem gX2_byKinds_X2_kindAt : GoodIn wsX2_byKinds (wsV RX2 37 RX2 yX2_kindAt wsX2_kindAt) := goodIn_app (goodIn_of _ (by decide +kernel)) ggX2_byKinds_X2_kindAt
theorem dX2_byKinds_0 : decode cX2_byKinds 0 = .ok (.iconst 4, 1) := by decide +kernel
theorem dX2_byKinds_1 : decode cX2_byKinds 1 = .ok (.aload_n 0, 1) := by decide +kernel
theorem dX2_byKinds_2 : decode cX2_byKinds 2 = .ok (.iload_n 1, 1) := by decide +kernel
theorem dX2_byKinds_3 : decode cX2_byKinds 3 = .ok (.invokevirtual 37, 3) := by decide +kernel
theorem dX2_byKinds_6 : decode cX2_byKinds 6 = .ok (.imul, 1) := by decide +kernel
theorem dX2_byKinds_7 : decode cX2_byKinds 7 = .ok (.aload_n 0, 1) := by decide +kernel
theorem dX2_byKinds_8 : decode cX2_byKinds 8 = .ok (.iload_n 2, 1) := by decide +kernel
theorem dX2_byKinds_9 : decode cX2_byKinds 9 = .ok (.invokevirtual 37, 3) := by decide +kernel
theorem dX2_byKinds_12 : decode cX2_byKinds 12 = .ok (.iadd, 1) := by decide +kernel
theorem dX2_byKinds_13 : decode cX2_byKinds 13 = .ok (.ireturn, 1) := by decide +kernel
set_option maxRecDepth 20000 in
theorem ggX2_markOf_X6_isPlace : GoodIn wsX2_markOf wsX6_isPlace := goodIn_r _ [4] (by decide +kernel) (by decide +kernel)
set_option maxRecDepth 20000 in
theorem gX2_markOf_X6_isPlace_n33 : GoodIn wsX2_markOf (wsX6_isPlace) := ggX2_markOf_X6_isPlace
theorem dX2_markOf_0 : decode cX2_markOf 0 = .ok (.iload_n 1, 1) := by decide +kernel
theorem dX2_markOf_1 : decode cX2_markOf 1 = .ok (.invokestatic 33, 3) := by decide +kernel
theorem dX2_markOf_4 : decode cX2_markOf 4 = .ok (.ifCond .eq 21, 3) := by decide +kernel
theorem dX2_markOf_7 : decode cX2_markOf 7 = .ok (.iload_n 2, 1) := by decide +kernel
theorem dX2_markOf_8 : decode cX2_markOf 8 = .ok (.invokestatic 33, 3) := by decide +kernel
theorem dX2_markOf_11 : decode cX2_markOf 11 = .ok (.ifCond .eq 14, 3) := by decide +kernel
theorem dX2_markOf_14 : decode cX2_markOf 14 = .ok (.aload_n 0, 1) := by decide +kernel
theorem dX2_markOf_15 : decode cX2_markOf 15 = .ok (.getfield 20, 3) := by decide +kernel
theorem dX2_markOf_18 : decode cX2_markOf 18 = .ok (.iload_n 1, 1) := by decide +kernel
theorem dX2_markOf_19 : decode cX2_markOf 19 = .ok (.aaload, 1) := by decide +kernel
theorem dX2_markOf_20 : decode cX2_markOf 20 = .ok (.iload_n 2, 1) := by decide +kernel
theorem dX2_markOf_21 : decode cX2_markOf 21 = .ok (.iaload, 1) := by decide +kernel
theorem dX2_markOf_22 : decode cX2_markOf 22 = .ok (.goto 4, 3) := by decide +kernel
theorem dX2_markOf_25 : decode cX2_markOf 25 = .ok (.iconst 2, 1) := by decide +kernel
theorem dX2_markOf_26 : decode cX2_markOf 26 = .ok (.ireturn, 1) := by decide +kernel
set_option maxRecDepth 20000 in
theorem ggX2_changeMark_X2_markOf : GoodIn wsX2_changeMark wsX2_markOf := goodIn_r _ [6, 1, 7, 8, 9, 10, 11, 12, 13] (by decide +kernel) (by decide +kernel)
set_option maxRecDepth 20000 in
theorem gX2_changeMark_X2_markOf : GoodIn wsX2_changeMark (wsV RX2 41 RX2 yX2_markOf wsX2_markOf) := goodIn_app (goodIn_of _ (by decide +kernel)) ggX2_changeMark_X2_markOf
set_option maxRecDepth 20000 in
theorem ggX2_changeMark_X6_isPlace : GoodIn wsX2_changeMark wsX6_isPlace := goodIn_r _ [9] (by decide +kernel) (by decide +kernel)
set_option maxRecDepth 20000 in
theorem gX2_changeMark_X6_isPlace_n33 : GoodIn wsX2_changeMark (wsX6_isPlace) := ggX2_changeMark_X6_isPlace
theorem dX2_changeMark_0 : decode cX2_changeMark 0 = .ok (.aload_n 0, 1) := by decide +kernel
theorem dX2_changeMark_1 : decode cX2_changeMark 1 = .ok (.iload_n 1, 1) := by decide +kernel
theorem dX2_changeMark_2 : decode cX2_changeMark 2 = .ok (.iload_n 2, 1) := by decide +kernel
theorem dX2_changeMark_3 : decode cX2_changeMark 3 = .ok (.invokevirtual 41, 3) := by decide +kernel
theorem dX2_changeMark_6 : decode cX2_changeMark 6 = .ok (.istore 4, 2) := by decide +kernel
theorem dX2_changeMark_8 : decode cX2_changeMark 8 = .ok (.iload_n 1, 1) := by decide +kernel
theorem dX2_changeMark_9 : decode cX2_changeMark 9 = .ok (.invokestatic 33, 3) := by decide +kernel
theorem dX2_changeMark_12 : decode cX2_changeMark 12 = .ok (.ifCond .eq 19, 3) := by decide +kernel
theorem dX2_changeMark_15 : decode cX2_changeMark 15 = .ok (.iload_n 2, 1) := by decide +kernel
theorem dX2_changeMark_16 : decode cX2_changeMark 16 = .ok (.invokestatic 33, 3) := by decide +kernel
theorem dX2_changeMark_19 : decode cX2_changeMark 19 = .ok (.ifCond .eq 12, 3) := by decide +kernel
theorem dX2_changeMark_22 : decode cX2_changeMark 22 = .ok (.aload_n 0, 1) := by decide +kernel
theorem dX2_changeMark_23 : decode cX2_changeMark 23 = .ok (.getfield 20, 3) := by decide +kernel
theorem dX2_changeMark_26 : decode cX2_changeMark 26 = .ok (.iload_n 1, 1) := by decide +kernel
theorem dX2_changeMark_27 : decode cX2_changeMark 27 = .ok (.aaload, 1) := by decide +kernel
theorem dX2_changeMark_28 : decode cX2_changeMark 28 = .ok (.iload_n 2, 1) := by decide +kernel
theorem dX2_changeMark_29 : decode cX2_changeMark 29 = .ok (.iload_n 3, 1) := by decide +kernel
theorem dX2_changeMark_30 : decode cX2_changeMark 30 = .ok (.iastore, 1) := by decide +kernel
theorem dX2_changeMark_31 : decode cX2_changeMark 31 = .ok (.iload 4, 2) := by decide +kernel
theorem dX2_changeMark_33 : decode cX2_changeMark 33 = .ok (.ireturn, 1) := by decide +kernel
set_option maxRecDepth 20000 in
theorem ggX2_forcedHead_X2_markOf : GoodIn wsX2_forcedHead wsX2_markOf := goodIn_r _ [6, 7, 8, 9, 10, 11, 12, 13, 14] (by decide +kernel) (by decide +kernel)
set_option maxRecDepth 20000 in
theorem gX2_forcedHead_X2_markOf : GoodIn wsX2_forcedHead (wsV RX2 41 RX2 yX2_markOf wsX2_markOf) := goodIn_app (goodIn_of _ (by decide +kernel)) ggX2_forcedHead_X2_markOf
theorem dX2_forcedHead_0 : decode cX2_forcedHead 0 = .ok (.iconst 0, 1) := by decide +kernel
theorem dX2_forcedHead_1 : decode cX2_forcedHead 1 = .ok (.istore_n 2, 1) := by decide +kernel
theorem dX2_forcedHead_2 : decode cX2_forcedHead 2 = .ok (.iload_n 2, 1) := by decide +kernel
theorem dX2_forcedHead_3 : decode cX2_forcedHead 3 = .ok (.aload_n 0, 1) := by decide +kernel
theorem dX2_forcedHead_4 : decode cX2_forcedHead 4 = .ok (.getfield 23, 3) := by decide +kernel
theorem dX2_forcedHead_7 : decode cX2_forcedHead 7 = .ok (.if_icmp .gt 21, 3) := by decide +kernel
theorem dX2_forcedHead_10 : decode cX2_forcedHead 10 = .ok (.aload_n 0, 1) := by decide +kernel
theorem dX2_forcedHead_11 : decode cX2_forcedHead 11 = .ok (.iload_n 2, 1) := by decide +kernel
theorem dX2_forcedHead_12 : decode cX2_forcedHead 12 = .ok (.iload_n 1, 1) := by decide +kernel
theorem dX2_forcedHead_13 : decode cX2_forcedHead 13 = .ok (.invokevirtual 41, 3) := by decide +kernel
theorem dX2_forcedHead_16 : decode cX2_forcedHead 16 = .ok (.iconst 1, 1) := by decide +kernel
theorem dX2_forcedHead_17 : decode cX2_forcedHead 17 = .ok (.if_icmp .ne 5, 3) := by decide +kernel
theorem dX2_forcedHead_20 : decode cX2_forcedHead 20 = .ok (.iload_n 2, 1) := by decide +kernel
theorem dX2_forcedHead_21 : decode cX2_forcedHead 21 = .ok (.ireturn, 1) := by decide +kernel
theorem dX2_forcedHead_22 : decode cX2_forcedHead 22 = .ok (.iinc 2 1, 3) := by decide +kernel
theorem dX2_forcedHead_25 : decode cX2_forcedHead 25 = .ok (.goto (-23), 3) := by decide +kernel
theorem dX2_forcedHead_28 : decode cX2_forcedHead 28 = .ok (.iconst (-1), 1) := by decide +kernel
theorem dX2_forcedHead_29 : decode cX2_forcedHead 29 = .ok (.ireturn, 1) := by decide +kernel
set_option maxRecDepth 20000 in
theorem ggX2_allows_X2_markOf : GoodIn wsX2_allows wsX2_markOf := goodIn_r _ [5, 6, 7, 8, 9, 15, 16, 17, 18] (by decide +kernel) (by decide +kernel)
set_option maxRecDepth 20000 in
theorem gX2_allows_X2_markOf : GoodIn wsX2_allows (wsV RX2 41 RX2 yX2_markOf wsX2_markOf) := goodIn_app (goodIn_of _ (by decide +kernel)) ggX2_allows_X2_markOf
set_option maxRecDepth 20000 in
theorem ggX2_allows_X2_forcedHead : GoodIn wsX2_allows wsX2_forcedHead := goodIn_r _ [13, 14, 1, 2, 3, 4, 5, 6, 7, 8, 9, 15, 16, 17, 18] (by decide +kernel) (by decide +kernel)
set_option maxRecDepth 20000 in
theorem gX2_allows_X2_forcedHead : GoodIn wsX2_allows (wsV RX2 45 RX2 yX2_forcedHead wsX2_forcedHead) := goodIn_app (goodIn_of _ (by decide +kernel)) ggX2_allows_X2_forcedHead
theorem dX2_allows_0 : decode cX2_allows 0 = .ok (.iload_n 1, 1) := by decide +kernel
theorem dX2_allows_1 : decode cX2_allows 1 = .ok (.iload_n 2, 1) := by decide +kernel
theorem dX2_allows_2 : decode cX2_allows 2 = .ok (.if_icmp .eq 13, 3) := by decide +kernel
theorem dX2_allows_5 : decode cX2_allows 5 = .ok (.aload_n 0, 1) := by decide +kernel
theorem dX2_allows_6 : decode cX2_allows 6 = .ok (.iload_n 1, 1) := by decide +kernel
theorem dX2_allows_7 : decode cX2_allows 7 = .ok (.iload_n 2, 1) := by decide +kernel
theorem dX2_allows_8 : decode cX2_allows 8 = .ok (.invokevirtual 41, 3) := by decide +kernel
theorem dX2_allows_11 : decode cX2_allows 11 = .ok (.iconst 2, 1) := by decide +kernel
theorem dX2_allows_12 : decode cX2_allows 12 = .ok (.if_icmp .ne 5, 3) := by decide +kernel
theorem dX2_allows_15 : decode cX2_allows 15 = .ok (.iconst 0, 1) := by decide +kernel
theorem dX2_allows_16 : decode cX2_allows 16 = .ok (.ireturn, 1) := by decide +kernel
theorem dX2_allows_17 : decode cX2_allows 17 = .ok (.aload_n 0, 1) := by decide +kernel
theorem dX2_allows_18 : decode cX2_allows 18 = .ok (.iload_n 2, 1) := by decide +kernel
theorem dX2_allows_19 : decode cX2_allows 19 = .ok (.invokevirtual 45, 3) := by decide +kernel
theorem dX2_allows_22 : decode cX2_allows 22 = .ok (.istore_n 3, 1) := by decide +kernel
theorem dX2_allows_23 : decode cX2_allows 23 = .ok (.iload_n 3, 1) := by decide +kernel
theorem dX2_allows_24 : decode cX2_allows 24 = .ok (.iconst (-1), 1) := by decide +kernel
theorem dX2_allows_25 : decode cX2_allows 25 = .ok (.if_icmp .eq 8, 3) := by decide +kernel
theorem dX2_allows_28 : decode cX2_allows 28 = .ok (.iload_n 3, 1) := by decide +kernel
theorem dX2_allows_29 : decode cX2_allows 29 = .ok (.iload_n 1, 1) := by decide +kernel
theorem dX2_allows_30 : decode cX2_allows 30 = .ok (.if_icmp .ne 7, 3) := by decide +kernel
theorem dX2_allows_33 : decode cX2_allows 33 = .ok (.iconst 1, 1) := by decide +kernel
theorem dX2_allows_34 : decode cX2_allows 34 = .ok (.goto 4, 3) := by decide +kernel
theorem dX2_allows_37 : decode cX2_allows 37 = .ok (.iconst 0, 1) := by decide +kernel
theorem dX2_allows_38 : decode cX2_allows 38 = .ok (.ireturn, 1) := by decide +kernel
set_option maxRecDepth 20000 in
theorem ggX2_rightHead_X6_isPlace : GoodIn wsX2_rightHead wsX6_isPlace := goodIn_r _ [4] (by decide +kernel) (by decide +kernel)
set_option maxRecDepth 20000 in
theorem gX2_rightHead_X6_isPlace_n33 : GoodIn wsX2_rightHead (wsX6_isPlace) := ggX2_rightHead_X6_isPlace
theorem dX2_rightHead_0 : decode cX2_rightHead 0 = .ok (.iload_n 1, 1) := by decide +kernel
theorem dX2_rightHead_1 : decode cX2_rightHead 1 = .ok (.invokestatic 33, 3) := by decide +kernel
theorem dX2_rightHead_4 : decode cX2_rightHead 4 = .ok (.ifCond .eq 12, 3) := by decide +kernel
theorem dX2_rightHead_7 : decode cX2_rightHead 7 = .ok (.aload_n 0, 1) := by decide +kernel
theorem dX2_rightHead_8 : decode cX2_rightHead 8 = .ok (.getfield 15, 3) := by decide +kernel
theorem dX2_rightHead_11 : decode cX2_rightHead 11 = .ok (.iload_n 1, 1) := by decide +kernel
theorem dX2_rightHead_12 : decode cX2_rightHead 12 = .ok (.iaload, 1) := by decide +kernel
theorem dX2_rightHead_13 : decode cX2_rightHead 13 = .ok (.goto 4, 3) := by decide +kernel
theorem dX2_rightHead_16 : decode cX2_rightHead 16 = .ok (.iconst (-1), 1) := by decide +kernel
theorem dX2_rightHead_17 : decode cX2_rightHead 17 = .ok (.ireturn, 1) := by decide +kernel
set_option maxRecDepth 20000 in
theorem ggX2_changeRightHead_X2_rightHead : GoodIn wsX2_changeRightHead wsX2_rightHead := goodIn_r _ [6, 1, 7, 8, 9, 10, 11, 12, 13] (by decide +kernel) (by decide +kernel)
set_option maxRecDepth 20000 in
theorem gX2_changeRightHead_X2_rightHead : GoodIn wsX2_changeRightHead (wsV RX2 48 RX2 yX2_rightHead wsX2_rightHead) := goodIn_app (goodIn_of _ (by decide +kernel)) ggX2_changeRightHead_X2_rightHead
set_option maxRecDepth 20000 in
theorem ggX2_changeRightHead_X6_isPlace : GoodIn wsX2_changeRightHead wsX6_isPlace := goodIn_r _ [9] (by decide +kernel) (by decide +kernel)
set_option maxRecDepth 20000 in
theorem gX2_changeRightHead_X6_isPlace_n33 : GoodIn wsX2_changeRightHead (wsX6_isPlace) := ggX2_changeRightHead_X6_isPlace
theorem dX2_changeRightHead_0 : decode cX2_changeRightHead 0 = .ok (.aload_n 0, 1) := by decide +kernel
theorem dX2_changeRightHead_1 : decode cX2_changeRightHead 1 = .ok (.iload_n 2, 1) := by decide +kernel
theorem dX2_changeRightHead_2 : decode cX2_changeRightHead 2 = .ok (.invokevirtual 48, 3) := by decide +kernel
theorem dX2_changeRightHead_5 : decode cX2_changeRightHead 5 = .ok (.istore_n 3, 1) := by decide +kernel
theorem dX2_changeRightHead_6 : decode cX2_changeRightHead 6 = .ok (.iload_n 2, 1) := by decide +kernel
theorem dX2_changeRightHead_7 : decode cX2_changeRightHead 7 = .ok (.invokestatic 33, 3) := by decide +kernel
theorem dX2_changeRightHead_10 : decode cX2_changeRightHead 10 = .ok (.ifCond .eq 10, 3) := by decide +kernel
theorem dX2_changeRightHead_13 : decode cX2_changeRightHead 13 = .ok (.aload_n 0, 1) := by decide +kernel
theorem dX2_changeRightHead_14 : decode cX2_changeRightHead 14 = .ok (.getfield 15, 3) := by decide +kernel
theorem dX2_changeRightHead_17 : decode cX2_changeRightHead 17 = .ok (.iload_n 2, 1) := by decide +kernel
theorem dX2_changeRightHead_18 : decode cX2_changeRightHead 18 = .ok (.iload_n 1, 1) := by decide +kernel
theorem dX2_changeRightHead_19 : decode cX2_changeRightHead 19 = .ok (.iastore, 1) := by decide +kernel
theorem dX2_changeRightHead_20 : decode cX2_changeRightHead 20 = .ok (.iload_n 3, 1) := by decide +kernel
theorem dX2_changeRightHead_21 : decode cX2_changeRightHead 21 = .ok (.ireturn, 1) := by decide +kernel
set_option maxRecDepth 20000 in
theorem ggX2_hasRightTree_X2_rightHead : GoodIn wsX2_hasRightTree wsX2_rightHead := goodIn_r _ [6, 7, 8, 9, 10, 11, 12, 13, 14] (by decide +kernel) (by decide +kernel)
set_option maxRecDepth 20000 in
theorem gX2_hasRightTree_X2_rightHead : GoodIn wsX2_hasRightTree (wsV RX2 48 RX2 yX2_rightHead wsX2_rightHead) := goodIn_app (goodIn_of _ (by decide +kernel)) ggX2_hasRightTree_X2_rightHead
theorem dX2_hasRightTree_0 : decode cX2_hasRightTree 0 = .ok (.iconst 1, 1) := by decide +kernel
theorem dX2_hasRightTree_1 : decode cX2_hasRightTree 1 = .ok (.istore_n 1, 1) := by decide +kernel
theorem dX2_hasRightTree_2 : decode cX2_hasRightTree 2 = .ok (.iload_n 1, 1) := by decide +kernel
theorem dX2_hasRightTree_3 : decode cX2_hasRightTree 3 = .ok (.aload_n 0, 1) := by decide +kernel
theorem dX2_hasRightTree_4 : decode cX2_hasRightTree 4 = .ok (.getfield 23, 3) := by decide +kernel
theorem dX2_hasRightTree_7 : decode cX2_hasRightTree 7 = .ok (.if_icmp .gt 43, 3) := by decide +kernel
theorem dX2_hasRightTree_10 : decode cX2_hasRightTree 10 = .ok (.iload_n 1, 1) := by decide +kernel
theorem dX2_hasRightTree_11 : decode cX2_hasRightTree 11 = .ok (.istore_n 2, 1) := by decide +kernel
theorem dX2_hasRightTree_12 : decode cX2_hasRightTree 12 = .ok (.iconst 0, 1) := by decide +kernel
theorem dX2_hasRightTree_13 : decode cX2_hasRightTree 13 = .ok (.istore_n 3, 1) := by decide +kernel
theorem dX2_hasRightTree_14 : decode cX2_hasRightTree 14 = .ok (.iload_n 3, 1) := by decide +kernel
theorem dX2_hasRightTree_15 : decode cX2_hasRightTree 15 = .ok (.aload_n 0, 1) := by decide +kernel
theorem dX2_hasRightTree_16 : decode cX2_hasRightTree 16 = .ok (.getfield 23, 3) := by decide +kernel
theorem dX2_hasRightTree_19 : decode cX2_hasRightTree 19 = .ok (.if_icmp .ge 19, 3) := by decide +kernel
theorem dX2_hasRightTree_22 : decode cX2_hasRightTree 22 = .ok (.iload_n 2, 1) := by decide +kernel
theorem dX2_hasRightTree_23 : decode cX2_hasRightTree 23 = .ok (.ifCond .le 15, 3) := by decide +kernel
theorem dX2_hasRightTree_26 : decode cX2_hasRightTree 26 = .ok (.aload_n 0, 1) := by decide +kernel
theorem dX2_hasRightTree_27 : decode cX2_hasRightTree 27 = .ok (.iload_n 2, 1) := by decide +kernel
theorem dX2_hasRightTree_28 : decode cX2_hasRightTree 28 = .ok (.invokevirtual 48, 3) := by decide +kernel
theorem dX2_hasRightTree_31 : decode cX2_hasRightTree 31 = .ok (.istore_n 2, 1) := by decide +kernel
theorem dX2_hasRightTree_32 : decode cX2_hasRightTree 32 = .ok (.iinc 3 1, 3) := by decide +kernel
theorem dX2_hasRightTree_35 : decode cX2_hasRightTree 35 = .ok (.goto (-21), 3) := by decide +kernel
theorem dX2_hasRightTree_38 : decode cX2_hasRightTree 38 = .ok (.iload_n 2, 1) := by decide +kernel
theorem dX2_hasRightTree_39 : decode cX2_hasRightTree 39 = .ok (.ifCond .eq 5, 3) := by decide +kernel
theorem dX2_hasRightTree_42 : decode cX2_hasRightTree 42 = .ok (.iconst 0, 1) := by decide +kernel
theorem dX2_hasRightTree_43 : decode cX2_hasRightTree 43 = .ok (.ireturn, 1) := by decide +kernel
theorem dX2_hasRightTree_44 : decode cX2_hasRightTree 44 = .ok (.iinc 1 1, 3) := by decide +kernel
theorem dX2_hasRightTree_47 : decode cX2_hasRightTree 47 = .ok (.goto (-45), 3) := by decide +kernel
theorem dX2_hasRightTree_50 : decode cX2_hasRightTree 50 = .ok (.iconst 1, 1) := by decide +kernel
theorem dX2_hasRightTree_51 : decode cX2_hasRightTree 51 = .ok (.ireturn, 1) := by decide +kernel
theorem dX3_init_0 : decode cX3_init 0 = .ok (.aload_n 0, 1) := by decide +kernel
theorem dX3_init_1 : decode cX3_init 1 = .ok (.invokespecial 3, 3) := by decide +kernel
theorem dX3_init_4 : decode cX3_init 4 = .ok (.aload_n 0, 1) := by decide +kernel
theorem dX3_init_5 : decode cX3_init 5 = .ok (.bipush 7, 2) := by decide +kernel
theorem dX3_init_7 : decode cX3_init 7 = .ok (.bipush 7, 2) := by decide +kernel
theorem dX3_init_9 : decode cX3_init 9 = .ok (.multianewarray 9 2, 4) := by decide +kernel
theorem dX3_init_13 : decode cX3_init 13 = .ok (.putfield 11, 3) := by decide +kernel
theorem dX3_init_16 : decode cX3_init 16 = .ok (.aload_n 0, 1) := by decide +kernel
theorem dX3_init_17 : decode cX3_init 17 = .ok (.bipush 7, 2) := by decide +kernel
theorem dX3_init_19 : decode cX3_init 19 = .ok (.bipush 7, 2) := by decide +kernel
theorem dX3_init_21 : decode cX3_init 21 = .ok (.multianewarray 9 2, 4) := by decide +kernel
theorem dX3_init_25 : decode cX3_init 25 = .ok (.putfield 16, 3) := by decide +kernel
theorem dX3_init_28 : decode cX3_init 28 = .ok (.aload_n 0, 1) := by decide +kernel
theorem dX3_init_29 : decode cX3_init 29 = .ok (.bipush 7, 2) := by decide +kernel
theorem dX3_init_31 : decode cX3_init 31 = .ok (.bipush 7, 2) := by decide +kernel
theorem dX3_init_33 : decode cX3_init 33 = .ok (.multianewarray 9 2, 4) := by decide +kernel
theorem dX3_init_37 : decode cX3_init 37 = .ok (.putfield 19, 3) := by decide +kernel
theorem dX3_init_40 : decode cX3_init 40 = .ok (.aload_n 0, 1) := by decide +kernel
theorem dX3_init_41 : decode cX3_init 41 = .ok (.bipush 7, 2) := by decide +kernel
theorem dX3_init_43 : decode cX3_init 43 = .ok (.bipush 7, 2) := by decide +kernel
theorem dX3_init_45 : decode cX3_init 45 = .ok (.multianewarray 9 2, 4) := by decide +kernel
theorem dX3_init_49 : decode cX3_init 49 = .ok (.putfield 22, 3) := by decide +kernel
theorem dX3_init_52 : decode cX3_init 52 = .ok (.return_, 1) := by decide +kernel
set_option maxRecDepth 20000 in
theorem ggX3_greatest_X0_size : GoodIn wsX3_greatest wsX0_size := goodIn_r _ [12, 13, 44, 45] (by decide +kernel) (by decide +kernel)
set_option maxRecDepth 20000 in
theorem gX3_greatest_X0_size : GoodIn wsX3_greatest (wsV RX3 25 RX0 yX0_size wsX0_size) := goodIn_app (goodIn_of _ (by decide +kernel)) ggX3_greatest_X0_size
set_option maxRecDepth 20000 in
theorem ggX3_greatest_X3_fillOpen : GoodIn wsX3_greatest wsX3_fillOpen := goodIn_r _ [18, 7, 5, 6, 19, 20, 3, 21, 22, 23, 24, 25, 26, 27, 28, 17, 29, 30, 31, 32, 11, 33, 34, 35, 40, 41, 42, 43, 44, 45] (by decide +kernel) (by decide +kernel)
set_option maxRecDepth 20000 in
theorem gX3_greatest_X3_fillOpen : GoodIn wsX3_greatest (wsV RX3 37 RX3 yX3_fillOpen wsX3_fillOpen) := goodIn_app (goodIn_of _ (by decide +kernel)) ggX3_greatest_X3_fillOpen
set_option maxRecDepth 20000 in
theorem ggX3_greatest_X3_fillWhole : GoodIn wsX3_greatest wsX3_fillWhole := goodIn_r _ [39, 7, 22, 5, 19, 20, 3, 21, 6, 23, 24, 25, 26, 27, 28, 17, 29, 40, 41, 42, 43] (by decide +kernel) (by decide +kernel)
set_option maxRecDepth 20000 in
theorem gX3_greatest_X3_fillWhole : GoodIn wsX3_greatest (wsV RX3 41 RX3 yX3_fillWhole wsX3_fillWhole) := goodIn_app (goodIn_of _ (by decide +kernel)) ggX3_greatest_X3_fillWhole
theorem dX3_greatest_0 : decode cX3_greatest 0 = .ok (.aload_n 1, 1) := by decide +kernel
theorem dX3_greatest_1 : decode cX3_greatest 1 = .ok (.invokevirtual 25, 3) := by decide +kernel
theorem dX3_greatest_4 : decode cX3_greatest 4 = .ok (.bipush 6, 2) := by decide +kernel
theorem dX3_greatest_6 : decode cX3_greatest 6 = .ok (.invokestatic 31, 3) := by decide +kernel
theorem dX3_greatest_9 : decode cX3_greatest 9 = .ok (.istore_n 2, 1) := by decide +kernel
theorem dX3_greatest_10 : decode cX3_greatest 10 = .ok (.iconst 0, 1) := by decide +kernel
theorem dX3_greatest_11 : decode cX3_greatest 11 = .ok (.istore_n 3, 1) := by decide +kernel
theorem dX3_greatest_12 : decode cX3_greatest 12 = .ok (.iload_n 3, 1) := by decide +kernel
theorem dX3_greatest_13 : decode cX3_greatest 13 = .ok (.iload_n 2, 1) := by decide +kernel
theorem dX3_greatest_14 : decode cX3_greatest 14 = .ok (.if_icmp .gt 27, 3) := by decide +kernel
theorem dX3_greatest_17 : decode cX3_greatest 17 = .ok (.aload_n 0, 1) := by decide +kernel
theorem dX3_greatest_18 : decode cX3_greatest 18 = .ok (.getfield 11, 3) := by decide +kernel
theorem dX3_greatest_21 : decode cX3_greatest 21 = .ok (.iload_n 3, 1) := by decide +kernel
theorem dX3_greatest_22 : decode cX3_greatest 22 = .ok (.aaload, 1) := by decide +kernel
theorem dX3_greatest_23 : decode cX3_greatest 23 = .ok (.iload_n 3, 1) := by decide +kernel
theorem dX3_greatest_24 : decode cX3_greatest 24 = .ok (.lconst 0, 1) := by decide +kernel
theorem dX3_greatest_25 : decode cX3_greatest 25 = .ok (.lastore, 1) := by decide +kernel
theorem dX3_greatest_26 : decode cX3_greatest 26 = .ok (.aload_n 0, 1) := by decide +kernel
theorem dX3_greatest_27 : decode cX3_greatest 27 = .ok (.getfield 16, 3) := by decide +kernel
theorem dX3_greatest_30 : decode cX3_greatest 30 = .ok (.iload_n 3, 1) := by decide +kernel
theorem dX3_greatest_31 : decode cX3_greatest 31 = .ok (.aaload, 1) := by decide +kernel
theorem dX3_greatest_32 : decode cX3_greatest 32 = .ok (.iload_n 3, 1) := by decide +kernel
theorem dX3_greatest_33 : decode cX3_greatest 33 = .ok (.lconst 0, 1) := by decide +kernel
theorem dX3_greatest_34 : decode cX3_greatest 34 = .ok (.lastore, 1) := by decide +kernel
theorem dX3_greatest_35 : decode cX3_greatest 35 = .ok (.iinc 3 1, 3) := by decide +kernel
theorem dX3_greatest_38 : decode cX3_greatest 38 = .ok (.goto (-26), 3) := by decide +kernel
theorem dX3_greatest_41 : decode cX3_greatest 41 = .ok (.iconst 1, 1) := by decide +kernel
theorem dX3_greatest_42 : decode cX3_greatest 42 = .ok (.istore_n 3, 1) := by decide +kernel
theorem dX3_greatest_43 : decode cX3_greatest 43 = .ok (.iload_n 3, 1) := by decide +kernel
theorem dX3_greatest_44 : decode cX3_greatest 44 = .ok (.iload_n 2, 1) := by decide +kernel
theorem dX3_greatest_45 : decode cX3_greatest 45 = .ok (.if_icmp .gt 47, 3) := by decide +kernel
theorem dX3_greatest_48 : decode cX3_greatest 48 = .ok (.iconst 0, 1) := by decide +kernel
theorem dX3_greatest_49 : decode cX3_greatest 49 = .ok (.istore 4, 2) := by decide +kernel
theorem dX3_greatest_51 : decode cX3_greatest 51 = .ok (.iload 4, 2) := by decide +kernel
theorem dX3_greatest_53 : decode cX3_greatest 53 = .ok (.iload_n 3, 1) := by decide +kernel
theorem dX3_greatest_54 : decode cX3_greatest 54 = .ok (.iadd, 1) := by decide +kernel
theorem dX3_greatest_55 : decode cX3_greatest 55 = .ok (.iload_n 2, 1) := by decide +kernel
theorem dX3_greatest_56 : decode cX3_greatest 56 = .ok (.if_icmp .gt 30, 3) := by decide +kernel
theorem dX3_greatest_59 : decode cX3_greatest 59 = .ok (.aload_n 0, 1) := by decide +kernel
theorem dX3_greatest_60 : decode cX3_greatest 60 = .ok (.aload_n 1, 1) := by decide +kernel
theorem dX3_greatest_61 : decode cX3_greatest 61 = .ok (.iload 4, 2) := by decide +kernel
theorem dX3_greatest_63 : decode cX3_greatest 63 = .ok (.iload 4, 2) := by decide +kernel
theorem dX3_greatest_65 : decode cX3_greatest 65 = .ok (.iload_n 3, 1) := by decide +kernel
theorem dX3_greatest_66 : decode cX3_greatest 66 = .ok (.iadd, 1) := by decide +kernel
theorem dX3_greatest_67 : decode cX3_greatest 67 = .ok (.invokevirtual 37, 3) := by decide +kernel
theorem dX3_greatest_70 : decode cX3_greatest 70 = .ok (.aload_n 0, 1) := by decide +kernel
theorem dX3_greatest_71 : decode cX3_greatest 71 = .ok (.iload 4, 2) := by decide +kernel
theorem dX3_greatest_73 : decode cX3_greatest 73 = .ok (.iload 4, 2) := by decide +kernel
theorem dX3_greatest_75 : decode cX3_greatest 75 = .ok (.iload_n 3, 1) := by decide +kernel
theorem dX3_greatest_76 : decode cX3_greatest 76 = .ok (.iadd, 1) := by decide +kernel
theorem dX3_greatest_77 : decode cX3_greatest 77 = .ok (.invokevirtual 41, 3) := by decide +kernel
theorem dX3_greatest_80 : decode cX3_greatest 80 = .ok (.iinc 4 1, 3) := by decide +kernel
theorem dX3_greatest_83 : decode cX3_greatest 83 = .ok (.goto (-32), 3) := by decide +kernel
theorem dX3_greatest_86 : decode cX3_greatest 86 = .ok (.iinc 3 1, 3) := by decide +kernel
theorem dX3_greatest_89 : decode cX3_greatest 89 = .ok (.goto (-46), 3) := by decide +kernel
theorem dX3_greatest_92 : decode cX3_greatest 92 = .ok (.iload_n 2, 1) := by decide +kernel
theorem dX3_greatest_93 : decode cX3_greatest 93 = .ok (.ifCond .lt 14, 3) := by decide +kernel
theorem dX3_greatest_96 : decode cX3_greatest 96 = .ok (.aload_n 0, 1) := by decide +kernel
theorem dX3_greatest_97 : decode cX3_greatest 97 = .ok (.getfield 11, 3) := by decide +kernel
theorem dX3_greatest_100 : decode cX3_greatest 100 = .ok (.iconst 0, 1) := by decide +kernel
theorem dX3_greatest_101 : decode cX3_greatest 101 = .ok (.aaload, 1) := by decide +kernel
theorem dX3_greatest_102 : decode cX3_greatest 102 = .ok (.iload_n 2, 1) := by decide +kernel
theorem dX3_greatest_103 : decode cX3_greatest 103 = .ok (.laload, 1) := by decide +kernel
theorem dX3_greatest_104 : decode cX3_greatest 104 = .ok (.goto 6, 3) := by decide +kernel
theorem dX3_greatest_107 : decode cX3_greatest 107 = .ok (.ldc2_w 45, 3) := by decide +kernel
theorem dX3_greatest_110 : decode cX3_greatest 110 = .ok (.lreturn, 1) := by decide +kernel
set_option maxRecDepth 20000 in
theorem ggX3_fillOpen_X6_isPlace : GoodIn wsX3_fillOpen wsX6_isPlace := goodIn_r _ [12] (by decide +kernel) (by decide +kernel)
set_option maxRecDepth 20000 in
theorem gX3_fillOpen_X6_isPlace_n47 : GoodIn wsX3_fillOpen (wsX6_isPlace) := ggX3_fillOpen_X6_isPlace
set_option maxRecDepth 20000 in
theorem ggX3_fillOpen_X3_join : GoodIn wsX3_fillOpen wsX3_join := goodIn_r _ [16, 1] (by decide +kernel) (by decide +kernel)
set_option maxRecDepth 20000 in
theorem gX3_fillOpen_X3_join : GoodIn wsX3_fillOpen (va_wsS RX3 51 yX3_join wsX3_join) := goodIn_app (goodIn_of _ (by decide +kernel)) ggX3_fillOpen_X3_join
set_option maxRecDepth 20000 in
theorem ggX3_fillOpen_X0_get : GoodIn wsX3_fillOpen wsX0_get := goodIn_r _ [21, 22, 23, 10, 11, 12, 28, 29] (by decide +kernel) (by decide +kernel)
set_option maxRecDepth 20000 in
theorem gX3_fillOpen_X0_get : GoodIn wsX3_fillOpen (wsV RX3 58 RX0 yX0_get wsX0_get) := goodIn_app (goodIn_of _ (by decide +kernel)) ggX3_fillOpen_X0_get
theorem dX3_fillOpen_0 : decode cX3_fillOpen 0 = .ok (.iload_n 2, 1) := by decide +kernel
theorem dX3_fillOpen_1 : decode cX3_fillOpen 1 = .ok (.invokestatic 47, 3) := by decide +kernel
theorem dX3_fillOpen_4 : decode cX3_fillOpen 4 = .ok (.ifCond .eq 10, 3) := by decide +kernel
theorem dX3_fillOpen_7 : decode cX3_fillOpen 7 = .ok (.iload_n 3, 1) := by decide +kernel
theorem dX3_fillOpen_8 : decode cX3_fillOpen 8 = .ok (.invokestatic 47, 3) := by decide +kernel
theorem dX3_fillOpen_11 : decode cX3_fillOpen 11 = .ok (.ifCond .ne 4, 3) := by decide +kernel
theorem dX3_fillOpen_14 : decode cX3_fillOpen 14 = .ok (.return_, 1) := by decide +kernel
theorem dX3_fillOpen_15 : decode cX3_fillOpen 15 = .ok (.ldc2_w 45, 3) := by decide +kernel
theorem dX3_fillOpen_18 : decode cX3_fillOpen 18 = .ok (.lstore 4, 2) := by decide +kernel
theorem dX3_fillOpen_20 : decode cX3_fillOpen 20 = .ok (.iload_n 2, 1) := by decide +kernel
theorem dX3_fillOpen_21 : decode cX3_fillOpen 21 = .ok (.istore 6, 2) := by decide +kernel
theorem dX3_fillOpen_23 : decode cX3_fillOpen 23 = .ok (.iload 6, 2) := by decide +kernel
theorem dX3_fillOpen_25 : decode cX3_fillOpen 25 = .ok (.iload_n 3, 1) := by decide +kernel
theorem dX3_fillOpen_26 : decode cX3_fillOpen 26 = .ok (.if_icmp .ge 39, 3) := by decide +kernel
theorem dX3_fillOpen_29 : decode cX3_fillOpen 29 = .ok (.lload 4, 2) := by decide +kernel
theorem dX3_fillOpen_31 : decode cX3_fillOpen 31 = .ok (.aload_n 0, 1) := by decide +kernel
theorem dX3_fillOpen_32 : decode cX3_fillOpen 32 = .ok (.getfield 11, 3) := by decide +kernel
theorem dX3_fillOpen_35 : decode cX3_fillOpen 35 = .ok (.iload_n 2, 1) := by decide +kernel
theorem dX3_fillOpen_36 : decode cX3_fillOpen 36 = .ok (.aaload, 1) := by decide +kernel
theorem dX3_fillOpen_37 : decode cX3_fillOpen 37 = .ok (.iload 6, 2) := by decide +kernel
theorem dX3_fillOpen_39 : decode cX3_fillOpen 39 = .ok (.laload, 1) := by decide +kernel
theorem dX3_fillOpen_40 : decode cX3_fillOpen 40 = .ok (.aload_n 0, 1) := by decide +kernel
theorem dX3_fillOpen_41 : decode cX3_fillOpen 41 = .ok (.getfield 16, 3) := by decide +kernel
theorem dX3_fillOpen_44 : decode cX3_fillOpen 44 = .ok (.iload 6, 2) := by decide +kernel
theorem dX3_fillOpen_46 : decode cX3_fillOpen 46 = .ok (.iconst 1, 1) := by decide +kernel
theorem dX3_fillOpen_47 : decode cX3_fillOpen 47 = .ok (.iadd, 1) := by decide +kernel
theorem dX3_fillOpen_48 : decode cX3_fillOpen 48 = .ok (.aaload, 1) := by decide +kernel
theorem dX3_fillOpen_49 : decode cX3_fillOpen 49 = .ok (.iload_n 3, 1) := by decide +kernel
theorem dX3_fillOpen_50 : decode cX3_fillOpen 50 = .ok (.laload, 1) := by decide +kernel
theorem dX3_fillOpen_51 : decode cX3_fillOpen 51 = .ok (.invokestatic 51, 3) := by decide +kernel
theorem dX3_fillOpen_54 : decode cX3_fillOpen 54 = .ok (.invokestatic 55, 3) := by decide +kernel
theorem dX3_fillOpen_57 : decode cX3_fillOpen 57 = .ok (.lstore 4, 2) := by decide +kernel
theorem dX3_fillOpen_59 : decode cX3_fillOpen 59 = .ok (.iinc 6 1, 3) := by decide +kernel
theorem dX3_fillOpen_62 : decode cX3_fillOpen 62 = .ok (.goto (-39), 3) := by decide +kernel
theorem dX3_fillOpen_65 : decode cX3_fillOpen 65 = .ok (.aload_n 0, 1) := by decide +kernel
theorem dX3_fillOpen_66 : decode cX3_fillOpen 66 = .ok (.getfield 19, 3) := by decide +kernel
theorem dX3_fillOpen_69 : decode cX3_fillOpen 69 = .ok (.iload_n 2, 1) := by decide +kernel
theorem dX3_fillOpen_70 : decode cX3_fillOpen 70 = .ok (.aaload, 1) := by decide +kernel
theorem dX3_fillOpen_71 : decode cX3_fillOpen 71 = .ok (.iload_n 3, 1) := by decide +kernel
theorem dX3_fillOpen_72 : decode cX3_fillOpen 72 = .ok (.lload 4, 2) := by decide +kernel
theorem dX3_fillOpen_74 : decode cX3_fillOpen 74 = .ok (.aload_n 1, 1) := by decide +kernel
theorem dX3_fillOpen_75 : decode cX3_fillOpen 75 = .ok (.iload_n 2, 1) := by decide +kernel
theorem dX3_fillOpen_76 : decode cX3_fillOpen 76 = .ok (.iload_n 3, 1) := by decide +kernel
theorem dX3_fillOpen_77 : decode cX3_fillOpen 77 = .ok (.invokevirtual 58, 3) := by decide +kernel
theorem dX3_fillOpen_80 : decode cX3_fillOpen 80 = .ok (.invokestatic 51, 3) := by decide +kernel
theorem dX3_fillOpen_83 : decode cX3_fillOpen 83 = .ok (.lastore, 1) := by decide +kernel
theorem dX3_fillOpen_84 : decode cX3_fillOpen 84 = .ok (.aload_n 0, 1) := by decide +kernel
theorem dX3_fillOpen_85 : decode cX3_fillOpen 85 = .ok (.getfield 22, 3) := by decide +kernel
theorem dX3_fillOpen_88 : decode cX3_fillOpen 88 = .ok (.iload_n 2, 1) := by decide +kernel
theorem dX3_fillOpen_89 : decode cX3_fillOpen 89 = .ok (.aaload, 1) := by decide +kernel
theorem dX3_fillOpen_90 : decode cX3_fillOpen 90 = .ok (.iload_n 3, 1) := by decide +kernel
theorem dX3_fillOpen_91 : decode cX3_fillOpen 91 = .ok (.lload 4, 2) := by decide +kernel
theorem dX3_fillOpen_93 : decode cX3_fillOpen 93 = .ok (.aload_n 1, 1) := by decide +kernel
theorem dX3_fillOpen_94 : decode cX3_fillOpen 94 = .ok (.iload_n 3, 1) := by decide +kernel
theorem dX3_fillOpen_95 : decode cX3_fillOpen 95 = .ok (.iload_n 2, 1) := by decide +kernel
theorem dX3_fillOpen_96 : decode cX3_fillOpen 96 = .ok (.invokevirtual 58, 3) := by decide +kernel
theorem dX3_fillOpen_99 : decode cX3_fillOpen 99 = .ok (.invokestatic 51, 3) := by decide +kernel
theorem dX3_fillOpen_102 : decode cX3_fillOpen 102 = .ok (.lastore, 1) := by decide +kernel
theorem dX3_fillOpen_103 : decode cX3_fillOpen 103 = .ok (.return_, 1) := by decide +kernel
set_option maxRecDepth 20000 in
theorem ggX3_fillWhole_X6_isPlace : GoodIn wsX3_fillWhole wsX6_isPlace := goodIn_r _ [12] (by decide +kernel) (by decide +kernel)
set_option maxRecDepth 20000 in
theorem gX3_fillWhole_X6_isPlace_n47 : GoodIn wsX3_fillWhole (wsX6_isPlace) := ggX3_fillWhole_X6_isPlace
set_option maxRecDepth 20000 in
theorem ggX3_fillWhole_X3_join : GoodIn wsX3_fillWhole wsX3_join := goodIn_r _ [16, 1] (by decide +kernel) (by decide +kernel)
set_option maxRecDepth 20000 in
theorem gX3_fillWhole_X3_join : GoodIn wsX3_fillWhole (va_wsS RX3 51 yX3_join wsX3_join) := goodIn_app (goodIn_of _ (by decide +kernel)) ggX3_fillWhole_X3_join
theorem dX3_fillWhole_0 : decode cX3_fillWhole 0 = .ok (.iload_n 1, 1) := by decide +kernel
theorem dX3_fillWhole_1 : decode cX3_fillWhole 1 = .ok (.invokestatic 47, 3) := by decide +kernel
theorem dX3_fillWhole_4 : decode cX3_fillWhole 4 = .ok (.ifCond .eq 10, 3) := by decide +kernel
theorem dX3_fillWhole_7 : decode cX3_fillWhole 7 = .ok (.iload_n 2, 1) := by decide +kernel
theorem dX3_fillWhole_8 : decode cX3_fillWhole 8 = .ok (.invokestatic 47, 3) := by decide +kernel
theorem dX3_fillWhole_11 : decode cX3_fillWhole 11 = .ok (.ifCond .ne 4, 3) := by decide +kernel
theorem dX3_fillWhole_14 : decode cX3_fillWhole 14 = .ok (.return_, 1) := by decide +kernel
theorem dX3_fillWhole_15 : decode cX3_fillWhole 15 = .ok (.ldc2_w 45, 3) := by decide +kernel
theorem dX3_fillWhole_18 : decode cX3_fillWhole 18 = .ok (.lstore_n 3, 1) := by decide +kernel
theorem dX3_fillWhole_19 : decode cX3_fillWhole 19 = .ok (.ldc2_w 45, 3) := by decide +kernel
theorem dX3_fillWhole_22 : decode cX3_fillWhole 22 = .ok (.lstore 5, 2) := by decide +kernel
theorem dX3_fillWhole_24 : decode cX3_fillWhole 24 = .ok (.iload_n 1, 1) := by decide +kernel
theorem dX3_fillWhole_25 : decode cX3_fillWhole 25 = .ok (.istore 7, 2) := by decide +kernel
theorem dX3_fillWhole_27 : decode cX3_fillWhole 27 = .ok (.iload 7, 2) := by decide +kernel
theorem dX3_fillWhole_29 : decode cX3_fillWhole 29 = .ok (.iload_n 2, 1) := by decide +kernel
theorem dX3_fillWhole_30 : decode cX3_fillWhole 30 = .ok (.if_icmp .ge 67, 3) := by decide +kernel
theorem dX3_fillWhole_33 : decode cX3_fillWhole 33 = .ok (.lload_n 3, 1) := by decide +kernel
theorem dX3_fillWhole_34 : decode cX3_fillWhole 34 = .ok (.aload_n 0, 1) := by decide +kernel
theorem dX3_fillWhole_35 : decode cX3_fillWhole 35 = .ok (.getfield 19, 3) := by decide +kernel
theorem dX3_fillWhole_38 : decode cX3_fillWhole 38 = .ok (.iload_n 1, 1) := by decide +kernel
theorem dX3_fillWhole_39 : decode cX3_fillWhole 39 = .ok (.aaload, 1) := by decide +kernel
theorem dX3_fillWhole_40 : decode cX3_fillWhole 40 = .ok (.iload 7, 2) := by decide +kernel
theorem dX3_fillWhole_42 : decode cX3_fillWhole 42 = .ok (.iconst 1, 1) := by decide +kernel
theorem dX3_fillWhole_43 : decode cX3_fillWhole 43 = .ok (.iadd, 1) := by decide +kernel
theorem dX3_fillWhole_44 : decode cX3_fillWhole 44 = .ok (.laload, 1) := by decide +kernel
theorem dX3_fillWhole_45 : decode cX3_fillWhole 45 = .ok (.aload_n 0, 1) := by decide +kernel
theorem dX3_fillWhole_46 : decode cX3_fillWhole 46 = .ok (.getfield 11, 3) := by decide +kernel
theorem dX3_fillWhole_49 : decode cX3_fillWhole 49 = .ok (.iload 7, 2) := by decide +kernel
theorem dX3_fillWhole_51 : decode cX3_fillWhole 51 = .ok (.iconst 1, 1) := by decide +kernel
theorem dX3_fillWhole_52 : decode cX3_fillWhole 52 = .ok (.iadd, 1) := by decide +kernel
theorem dX3_fillWhole_53 : decode cX3_fillWhole 53 = .ok (.aaload, 1) := by decide +kernel
theorem dX3_fillWhole_54 : decode cX3_fillWhole 54 = .ok (.iload_n 2, 1) := by decide +kernel
theorem dX3_fillWhole_55 : decode cX3_fillWhole 55 = .ok (.laload, 1) := by decide +kernel
theorem dX3_fillWhole_56 : decode cX3_fillWhole 56 = .ok (.invokestatic 51, 3) := by decide +kernel
theorem dX3_fillWhole_59 : decode cX3_fillWhole 59 = .ok (.invokestatic 55, 3) := by decide +kernel
theorem dX3_fillWhole_62 : decode cX3_fillWhole 62 = .ok (.lstore_n 3, 1) := by decide +kernel
theorem dX3_fillWhole_63 : decode cX3_fillWhole 63 = .ok (.lload 5, 2) := by decide +kernel
theorem dX3_fillWhole_65 : decode cX3_fillWhole 65 = .ok (.aload_n 0, 1) := by decide +kernel
theorem dX3_fillWhole_66 : decode cX3_fillWhole 66 = .ok (.getfield 16, 3) := by decide +kernel
theorem dX3_fillWhole_69 : decode cX3_fillWhole 69 = .ok (.iload_n 1, 1) := by decide +kernel
theorem dX3_fillWhole_70 : decode cX3_fillWhole 70 = .ok (.aaload, 1) := by decide +kernel
theorem dX3_fillWhole_71 : decode cX3_fillWhole 71 = .ok (.iload 7, 2) := by decide +kernel
theorem dX3_fillWhole_73 : decode cX3_fillWhole 73 = .ok (.laload, 1) := by decide +kernel
theorem dX3_fillWhole_74 : decode cX3_fillWhole 74 = .ok (.aload_n 0, 1) := by decide +kernel
theorem dX3_fillWhole_75 : decode cX3_fillWhole 75 = .ok (.getfield 22, 3) := by decide +kernel
theorem dX3_fillWhole_78 : decode cX3_fillWhole 78 = .ok (.iload 7, 2) := by decide +kernel
theorem dX3_fillWhole_80 : decode cX3_fillWhole 80 = .ok (.aaload, 1) := by decide +kernel
theorem dX3_fillWhole_81 : decode cX3_fillWhole 81 = .ok (.iload_n 2, 1) := by decide +kernel
theorem dX3_fillWhole_82 : decode cX3_fillWhole 82 = .ok (.laload, 1) := by decide +kernel
theorem dX3_fillWhole_83 : decode cX3_fillWhole 83 = .ok (.invokestatic 51, 3) := by decide +kernel
theorem dX3_fillWhole_86 : decode cX3_fillWhole 86 = .ok (.invokestatic 55, 3) := by decide +kernel
theorem dX3_fillWhole_89 : decode cX3_fillWhole 89 = .ok (.lstore 5, 2) := by decide +kernel
theorem dX3_fillWhole_91 : decode cX3_fillWhole 91 = .ok (.iinc 7 1, 3) := by decide +kernel
theorem dX3_fillWhole_94 : decode cX3_fillWhole 94 = .ok (.goto (-67), 3) := by decide +kernel
theorem dX3_fillWhole_97 : decode cX3_fillWhole 97 = .ok (.aload_n 0, 1) := by decide +kernel
theorem dX3_fillWhole_98 : decode cX3_fillWhole 98 = .ok (.getfield 11, 3) := by decide +kernel
theorem dX3_fillWhole_101 : decode cX3_fillWhole 101 = .ok (.iload_n 1, 1) := by decide +kernel
theorem dX3_fillWhole_102 : decode cX3_fillWhole 102 = .ok (.aaload, 1) := by decide +kernel
theorem dX3_fillWhole_103 : decode cX3_fillWhole 103 = .ok (.iload_n 2, 1) := by decide +kernel
theorem dX3_fillWhole_104 : decode cX3_fillWhole 104 = .ok (.lload_n 3, 1) := by decide +kernel
theorem dX3_fillWhole_105 : decode cX3_fillWhole 105 = .ok (.lastore, 1) := by decide +kernel
theorem dX3_fillWhole_106 : decode cX3_fillWhole 106 = .ok (.aload_n 0, 1) := by decide +kernel
theorem dX3_fillWhole_107 : decode cX3_fillWhole 107 = .ok (.getfield 16, 3) := by decide +kernel
theorem dX3_fillWhole_110 : decode cX3_fillWhole 110 = .ok (.iload_n 1, 1) := by decide +kernel
theorem dX3_fillWhole_111 : decode cX3_fillWhole 111 = .ok (.aaload, 1) := by decide +kernel
theorem dX3_fillWhole_112 : decode cX3_fillWhole 112 = .ok (.iload_n 2, 1) := by decide +kernel
theorem dX3_fillWhole_113 : decode cX3_fillWhole 113 = .ok (.lload 5, 2) := by decide +kernel
theorem dX3_fillWhole_115 : decode cX3_fillWhole 115 = .ok (.lastore, 1) := by decide +kernel
theorem dX3_fillWhole_116 : decode cX3_fillWhole 116 = .ok (.return_, 1) := by decide +kernel
theorem dX3_join_0 : decode cX3_join 0 = .ok (.lload_n 0, 1) := by decide +kernel
theorem dX3_join_1 : decode cX3_join 1 = .ok (.ldc2_w 45, 3) := by decide +kernel
theorem dX3_join_4 : decode cX3_join 4 = .ok (.lcmp, 1) := by decide +kernel
theorem dX3_join_5 : decode cX3_join 5 = .ok (.ifCond .eq 11, 3) := by decide +kernel
theorem dX3_join_8 : decode cX3_join 8 = .ok (.lload_n 2, 1) := by decide +kernel
theorem dX3_join_9 : decode cX3_join 9 = .ok (.ldc2_w 45, 3) := by decide +kernel
theorem dX3_join_12 : decode cX3_join 12 = .ok (.lcmp, 1) := by decide +kernel
theorem dX3_join_13 : decode cX3_join 13 = .ok (.ifCond .ne 9, 3) := by decide +kernel
theorem dX3_join_16 : decode cX3_join 16 = .ok (.ldc2_w 45, 3) := by decide +kernel
theorem dX3_join_19 : decode cX3_join 19 = .ok (.goto 6, 3) := by decide +kernel
theorem dX3_join_22 : decode cX3_join 22 = .ok (.lload_n 0, 1) := by decide +kernel
theorem dX3_join_23 : decode cX3_join 23 = .ok (.lload_n 2, 1) := by decide +kernel
theorem dX3_join_24 : decode cX3_join 24 = .ok (.ladd, 1) := by decide +kernel
theorem dX3_join_25 : decode cX3_join 25 = .ok (.lreturn, 1) := by decide +kernel
theorem dX4_init_0 : decode cX4_init 0 = .ok (.aload_n 0, 1) := by decide +kernel
theorem dX4_init_1 : decode cX4_init 1 = .ok (.invokespecial 3, 3) := by decide +kernel
theorem dX4_init_4 : decode cX4_init 4 = .ok (.aload_n 0, 1) := by decide +kernel
theorem dX4_init_5 : decode cX4_init 5 = .ok (.sipush 16807, 3) := by decide +kernel
theorem dX4_init_8 : decode cX4_init 8 = .ok (.newarray .long, 2) := by decide +kernel
theorem dX4_init_10 : decode cX4_init 10 = .ok (.putfield 9, 3) := by decide +kernel
theorem dX4_init_13 : decode cX4_init 13 = .ok (.aload_n 0, 1) := by decide +kernel
theorem dX4_init_14 : decode cX4_init 14 = .ok (.bipush 7, 2) := by decide +kernel
theorem dX4_init_16 : decode cX4_init 16 = .ok (.newarray .int, 2) := by decide +kernel
theorem dX4_init_18 : decode cX4_init 18 = .ok (.putfield 15, 3) := by decide +kernel
theorem dX4_init_21 : decode cX4_init 21 = .ok (.aload_n 0, 1) := by decide +kernel
theorem dX4_init_22 : decode cX4_init 22 = .ok (.iconst 0, 1) := by decide +kernel
theorem dX4_init_23 : decode cX4_init 23 = .ok (.putfield 19, 3) := by decide +kernel
theorem dX4_init_26 : decode cX4_init 26 = .ok (.return_, 1) := by decide +kernel
set_option maxRecDepth 20000 in
theorem ggX4_run_X4_giveHeads : GoodIn wsX4_run wsX4_giveHeads := goodIn_r _ [5, 6, 7, 8, 9, 10, 11, 12, 13, 14, 15, 16, 4, 17, 1, 18, 19, 20, 21, 22, 23, 24, 25, 26, 27, 28, 29, 30, 31, 32, 33, 34, 35, 36, 37, 38, 39, 40, 41, 42, 43, 44, 2, 3, 45, 46, 47, 48, 49] (by decide +kernel) (by decide +kernel)
set_option maxRecDepth 20000 in
theorem gX4_run_X4_giveHeads : GoodIn wsX4_run (va_wsS RX4 23 yX4_giveHeads wsX4_giveHeads) := goodIn_app (goodIn_of _ (by decide +kernel)) ggX4_run_X4_giveHeads
theorem dX4_run_0 : decode cX4_run 0 = .ok (.aload_n 0, 1) := by decide +kernel
theorem dX4_run_1 : decode cX4_run 1 = .ok (.iconst 0, 1) := by decide +kernel
theorem dX4_run_2 : decode cX4_run 2 = .ok (.putfield 19, 3) := by decide +kernel
theorem dX4_run_5 : decode cX4_run 5 = .ok (.aload_n 0, 1) := by decide +kernel
theorem dX4_run_6 : decode cX4_run 6 = .ok (.aload_n 1, 1) := by decide +kernel
theorem dX4_run_7 : decode cX4_run 7 = .ok (.iload_n 2, 1) := by decide +kernel
theorem dX4_run_8 : decode cX4_run 8 = .ok (.iconst 1, 1) := by decide +kernel
theorem dX4_run_9 : decode cX4_run 9 = .ok (.lconst 0, 1) := by decide +kernel
theorem dX4_run_10 : decode cX4_run 10 = .ok (.invokestatic 23, 3) := by decide +kernel
theorem dX4_run_13 : decode cX4_run 13 = .ok (.return_, 1) := by decide +kernel
theorem dX4_size_0 : decode cX4_size 0 = .ok (.aload_n 0, 1) := by decide +kernel
theorem dX4_size_1 : decode cX4_size 1 = .ok (.getfield 19, 3) := by decide +kernel
theorem dX4_size_4 : decode cX4_size 4 = .ok (.ireturn, 1) := by decide +kernel
theorem dX4_greatest_0 : decode cX4_greatest 0 = .ok (.ldc2_w 27, 3) := by decide +kernel
theorem dX4_greatest_3 : decode cX4_greatest 3 = .ok (.lstore_n 1, 1) := by decide +kernel
theorem dX4_greatest_4 : decode cX4_greatest 4 = .ok (.iconst 0, 1) := by decide +kernel
theorem dX4_greatest_5 : decode cX4_greatest 5 = .ok (.istore_n 3, 1) := by decide +kernel
theorem dX4_greatest_6 : decode cX4_greatest 6 = .ok (.iload_n 3, 1) := by decide +kernel
theorem dX4_greatest_7 : decode cX4_greatest 7 = .ok (.aload_n 0, 1) := by decide +kernel
theorem dX4_greatest_8 : decode cX4_greatest 8 = .ok (.getfield 19, 3) := by decide +kernel
theorem dX4_greatest_11 : decode cX4_greatest 11 = .ok (.if_icmp .ge 29, 3) := by decide +kernel
theorem dX4_greatest_14 : decode cX4_greatest 14 = .ok (.iload_n 3, 1) := by decide +kernel
theorem dX4_greatest_15 : decode cX4_greatest 15 = .ok (.aload_n 0, 1) := by decide +kernel
theorem dX4_greatest_16 : decode cX4_greatest 16 = .ok (.getfield 9, 3) := by decide +kernel
theorem dX4_greatest_19 : decode cX4_greatest 19 = .ok (.arraylength, 1) := by decide +kernel
theorem dX4_greatest_20 : decode cX4_greatest 20 = .ok (.if_icmp .ge 20, 3) := by decide +kernel
theorem dX4_greatest_23 : decode cX4_greatest 23 = .ok (.lload_n 1, 1) := by decide +kernel
theorem dX4_greatest_24 : decode cX4_greatest 24 = .ok (.aload_n 0, 1) := by decide +kernel
theorem dX4_greatest_25 : decode cX4_greatest 25 = .ok (.getfield 9, 3) := by decide +kernel
theorem dX4_greatest_28 : decode cX4_greatest 28 = .ok (.iload_n 3, 1) := by decide +kernel
theorem dX4_greatest_29 : decode cX4_greatest 29 = .ok (.laload, 1) := by decide +kernel
theorem dX4_greatest_30 : decode cX4_greatest 30 = .ok (.invokestatic 29, 3) := by decide +kernel
theorem dX4_greatest_33 : decode cX4_greatest 33 = .ok (.lstore_n 1, 1) := by decide +kernel
theorem dX4_greatest_34 : decode cX4_greatest 34 = .ok (.iinc 3 1, 3) := by decide +kernel
theorem dX4_greatest_37 : decode cX4_greatest 37 = .ok (.goto (-31), 3) := by decide +kernel
theorem dX4_greatest_40 : decode cX4_greatest 40 = .ok (.lload_n 1, 1) := by decide +kernel
theorem dX4_greatest_41 : decode cX4_greatest 41 = .ok (.lreturn, 1) := by decide +kernel
set_option maxRecDepth 20000 in
theorem ggX4_ofRank_X4_greatest : GoodIn wsX4_ofRank wsX4_greatest := goodIn_r _ [6, 7, 8, 9, 10, 11, 12, 13, 25, 26, 27] (by decide +kernel) (by decide +kernel)
set_option maxRecDepth 20000 in
theorem gX4_ofRank_X4_greatest : GoodIn wsX4_ofRank (wsV RX4 35 RX4 yX4_greatest wsX4_greatest) := goodIn_app (goodIn_of _ (by decide +kernel)) ggX4_ofRank_X4_greatest
set_option maxRecDepth 20000 in
theorem ggX4_ofRank_X4_least : GoodIn wsX4_ofRank wsX4_least := goodIn_r _ [17, 8, 9, 18, 19, 12, 20, 25, 26, 27] (by decide +kernel) (by decide +kernel)
set_option maxRecDepth 20000 in
theorem gX4_ofRank_X4_least : GoodIn wsX4_ofRank (wsV RX4 39 RX4 yX4_least wsX4_least) := goodIn_app (goodIn_of _ (by decide +kernel)) ggX4_ofRank_X4_least
set_option maxRecDepth 20000 in
theorem ggX4_ofRank_X4_countAbove : GoodIn wsX4_ofRank wsX4_countAbove := goodIn_r _ [24, 8, 9, 25, 26, 27] (by decide +kernel) (by decide +kernel)
set_option maxRecDepth 20000 in
theorem gX4_ofRank_X4_countAbove : GoodIn wsX4_ofRank (wsV RX4 45 RX4 yX4_countAbove wsX4_countAbove) := goodIn_app (goodIn_of _ (by decide +kernel)) ggX4_ofRank_X4_countAbove
theorem dX4_ofRank_0 : decode cX4_ofRank 0 = .ok (.aload_n 0, 1) := by decide +kernel
theorem dX4_ofRank_1 : decode cX4_ofRank 1 = .ok (.invokevirtual 35, 3) := by decide +kernel
theorem dX4_ofRank_4 : decode cX4_ofRank 4 = .ok (.lstore_n 2, 1) := by decide +kernel
theorem dX4_ofRank_5 : decode cX4_ofRank 5 = .ok (.aload_n 0, 1) := by decide +kernel
theorem dX4_ofRank_6 : decode cX4_ofRank 6 = .ok (.lload_n 2, 1) := by decide +kernel
theorem dX4_ofRank_7 : decode cX4_ofRank 7 = .ok (.invokevirtual 39, 3) := by decide +kernel
theorem dX4_ofRank_10 : decode cX4_ofRank 10 = .ok (.lstore 4, 2) := by decide +kernel
theorem dX4_ofRank_12 : decode cX4_ofRank 12 = .ok (.iconst 0, 1) := by decide +kernel
theorem dX4_ofRank_13 : decode cX4_ofRank 13 = .ok (.istore 6, 2) := by decide +kernel
theorem dX4_ofRank_15 : decode cX4_ofRank 15 = .ok (.iload 6, 2) := by decide +kernel
theorem dX4_ofRank_17 : decode cX4_ofRank 17 = .ok (.bipush 64, 2) := by decide +kernel
theorem dX4_ofRank_19 : decode cX4_ofRank 19 = .ok (.if_icmp .ge 51, 3) := by decide +kernel
theorem dX4_ofRank_22 : decode cX4_ofRank 22 = .ok (.lload 4, 2) := by decide +kernel
theorem dX4_ofRank_24 : decode cX4_ofRank 24 = .ok (.lload_n 2, 1) := by decide +kernel
theorem dX4_ofRank_25 : decode cX4_ofRank 25 = .ok (.lcmp, 1) := by decide +kernel
theorem dX4_ofRank_26 : decode cX4_ofRank 26 = .ok (.ifCond .ge 44, 3) := by decide +kernel
theorem dX4_ofRank_29 : decode cX4_ofRank 29 = .ok (.lload 4, 2) := by decide +kernel
theorem dX4_ofRank_31 : decode cX4_ofRank 31 = .ok (.lload_n 2, 1) := by decide +kernel
theorem dX4_ofRank_32 : decode cX4_ofRank 32 = .ok (.lload 4, 2) := by decide +kernel
theorem dX4_ofRank_34 : decode cX4_ofRank 34 = .ok (.lsub, 1) := by decide +kernel
theorem dX4_ofRank_35 : decode cX4_ofRank 35 = .ok (.ldc2_w 43, 3) := by decide +kernel
theorem dX4_ofRank_38 : decode cX4_ofRank 38 = .ok (.ldiv, 1) := by decide +kernel
theorem dX4_ofRank_39 : decode cX4_ofRank 39 = .ok (.ladd, 1) := by decide +kernel
theorem dX4_ofRank_40 : decode cX4_ofRank 40 = .ok (.lstore 7, 2) := by decide +kernel
theorem dX4_ofRank_42 : decode cX4_ofRank 42 = .ok (.aload_n 0, 1) := by decide +kernel
theorem dX4_ofRank_43 : decode cX4_ofRank 43 = .ok (.lload 7, 2) := by decide +kernel
theorem dX4_ofRank_45 : decode cX4_ofRank 45 = .ok (.invokevirtual 45, 3) := by decide +kernel
theorem dX4_ofRank_48 : decode cX4_ofRank 48 = .ok (.iload_n 1, 1) := by decide +kernel
theorem dX4_ofRank_49 : decode cX4_ofRank 49 = .ok (.if_icmp .le 12, 3) := by decide +kernel
theorem dX4_ofRank_52 : decode cX4_ofRank 52 = .ok (.lload 7, 2) := by decide +kernel
theorem dX4_ofRank_54 : decode cX4_ofRank 54 = .ok (.lconst 1, 1) := by decide +kernel
theorem dX4_ofRank_55 : decode cX4_ofRank 55 = .ok (.ladd, 1) := by decide +kernel
theorem dX4_ofRank_56 : decode cX4_ofRank 56 = .ok (.lstore 4, 2) := by decide +kernel
theorem dX4_ofRank_58 : decode cX4_ofRank 58 = .ok (.goto 6, 3) := by decide +kernel
theorem dX4_ofRank_61 : decode cX4_ofRank 61 = .ok (.lload 7, 2) := by decide +kernel
theorem dX4_ofRank_63 : decode cX4_ofRank 63 = .ok (.lstore_n 2, 1) := by decide +kernel
theorem dX4_ofRank_64 : decode cX4_ofRank 64 = .ok (.iinc 6 1, 3) := by decide +kernel
theorem dX4_ofRank_67 : decode cX4_ofRank 67 = .ok (.goto (-52), 3) := by decide +kernel
theorem dX4_ofRank_70 : decode cX4_ofRank 70 = .ok (.lload 4, 2) := by decide +kernel
theorem dX4_ofRank_72 : decode cX4_ofRank 72 = .ok (.lreturn, 1) := by decide +kernel
theorem dX4_least_0 : decode cX4_least 0 = .ok (.lload_n 1, 1) := by decide +kernel
theorem dX4_least_1 : decode cX4_least 1 = .ok (.lstore_n 3, 1) := by decide +kernel
theorem dX4_least_2 : decode cX4_least 2 = .ok (.iconst 0, 1) := by decide +kernel
theorem dX4_least_3 : decode cX4_least 3 = .ok (.istore 5, 2) := by decide +kernel
theorem dX4_least_5 : decode cX4_least 5 = .ok (.iload 5, 2) := by decide +kernel
theorem dX4_least_7 : decode cX4_least 7 = .ok (.aload_n 0, 1) := by decide +kernel
theorem dX4_least_8 : decode cX4_least 8 = .ok (.getfield 19, 3) := by decide +kernel
theorem dX4_least_11 : decode cX4_least 11 = .ok (.if_icmp .ge 31, 3) := by decide +kernel
theorem dX4_least_14 : decode cX4_least 14 = .ok (.iload 5, 2) := by decide +kernel
theorem dX4_least_16 : decode cX4_least 16 = .ok (.aload_n 0, 1) := by decide +kernel
theorem dX4_least_17 : decode cX4_least 17 = .ok (.getfield 9, 3) := by decide +kernel
theorem dX4_least_20 : decode cX4_least 20 = .ok (.arraylength, 1) := by decide +kernel
theorem dX4_least_21 : decode cX4_least 21 = .ok (.if_icmp .ge 21, 3) := by decide +kernel
theorem dX4_least_24 : decode cX4_least 24 = .ok (.lload_n 3, 1) := by decide +kernel
theorem dX4_least_25 : decode cX4_least 25 = .ok (.aload_n 0, 1) := by decide +kernel
theorem dX4_least_26 : decode cX4_least 26 = .ok (.getfield 9, 3) := by decide +kernel
theorem dX4_least_29 : decode cX4_least 29 = .ok (.iload 5, 2) := by decide +kernel
theorem dX4_least_31 : decode cX4_least 31 = .ok (.laload, 1) := by decide +kernel
theorem dX4_least_32 : decode cX4_least 32 = .ok (.invokestatic 49, 3) := by decide +kernel
theorem dX4_least_35 : decode cX4_least 35 = .ok (.lstore_n 3, 1) := by decide +kernel
theorem dX4_least_36 : decode cX4_least 36 = .ok (.iinc 5 1, 3) := by decide +kernel
theorem dX4_least_39 : decode cX4_least 39 = .ok (.goto (-34), 3) := by decide +kernel
theorem dX4_least_42 : decode cX4_least 42 = .ok (.lload_n 3, 1) := by decide +kernel
theorem dX4_least_43 : decode cX4_least 43 = .ok (.lreturn, 1) := by decide +kernel
theorem dX4_countAbove_0 : decode cX4_countAbove 0 = .ok (.iconst 0, 1) := by decide +kernel
theorem dX4_countAbove_1 : decode cX4_countAbove 1 = .ok (.istore_n 3, 1) := by decide +kernel
theorem dX4_countAbove_2 : decode cX4_countAbove 2 = .ok (.iconst 0, 1) := by decide +kernel
theorem dX4_countAbove_3 : decode cX4_countAbove 3 = .ok (.istore 4, 2) := by decide +kernel
theorem dX4_countAbove_5 : decode cX4_countAbove 5 = .ok (.iload 4, 2) := by decide +kernel
theorem dX4_countAbove_7 : decode cX4_countAbove 7 = .ok (.aload_n 0, 1) := by decide +kernel
theorem dX4_countAbove_8 : decode cX4_countAbove 8 = .ok (.getfield 19, 3) := by decide +kernel
theorem dX4_countAbove_11 : decode cX4_countAbove 11 = .ok (.if_icmp .ge 34, 3) := by decide +kernel
theorem dX4_countAbove_14 : decode cX4_countAbove 14 = .ok (.iload 4, 2) := by decide +kernel
theorem dX4_countAbove_16 : decode cX4_countAbove 16 = .ok (.aload_n 0, 1) := by decide +kernel
theorem dX4_countAbove_17 : decode cX4_countAbove 17 = .ok (.getfield 9, 3) := by decide +kernel
theorem dX4_countAbove_20 : decode cX4_countAbove 20 = .ok (.arraylength, 1) := by decide +kernel
theorem dX4_countAbove_21 : decode cX4_countAbove 21 = .ok (.if_icmp .ge 24, 3) := by decide +kernel
theorem dX4_countAbove_24 : decode cX4_countAbove 24 = .ok (.aload_n 0, 1) := by decide +kernel
theorem dX4_countAbove_25 : decode cX4_countAbove 25 = .ok (.getfield 9, 3) := by decide +kernel
theorem dX4_countAbove_28 : decode cX4_countAbove 28 = .ok (.iload 4, 2) := by decide +kernel
theorem dX4_countAbove_30 : decode cX4_countAbove 30 = .ok (.laload, 1) := by decide +kernel
theorem dX4_countAbove_31 : decode cX4_countAbove 31 = .ok (.lload_n 1, 1) := by decide +kernel
theorem dX4_countAbove_32 : decode cX4_countAbove 32 = .ok (.lcmp, 1) := by decide +kernel
theorem dX4_countAbove_33 : decode cX4_countAbove 33 = .ok (.ifCond .le 6, 3) := by decide +kernel
theorem dX4_countAbove_36 : decode cX4_countAbove 36 = .ok (.iinc 3 1, 3) := by decide +kernel
theorem dX4_countAbove_39 : decode cX4_countAbove 39 = .ok (.iinc 4 1, 3) := by decide +kernel
theorem dX4_countAbove_42 : decode cX4_countAbove 42 = .ok (.goto (-37), 3) := by decide +kernel
theorem dX4_countAbove_45 : decode cX4_countAbove 45 = .ok (.iload_n 3, 1) := by decide +kernel
theorem dX4_countAbove_46 : decode cX4_countAbove 46 = .ok (.ireturn, 1) := by decide +kernel
set_option maxRecDepth 20000 in
theorem ggX4_giveHeads_X0_size : GoodIn wsX4_giveHeads wsX0_size := goodIn_r _ [7, 8, 47, 48] (by decide +kernel) (by decide +kernel)
set_option maxRecDepth 20000 in
theorem gX4_giveHeads_X0_size : GoodIn wsX4_giveHeads (wsV RX4 52 RX0 yX0_size wsX0_size) := goodIn_app (goodIn_of _ (by decide +kernel)) ggX4_giveHeads_X0_size
set_option maxRecDepth 20000 in
theorem ggX4_giveHeads_X4_note : GoodIn wsX4_giveHeads wsX4_note := goodIn_r _ [13, 14, 15, 44, 45, 46] (by decide +kernel) (by decide +kernel)
set_option maxRecDepth 20000 in
theorem gX4_giveHeads_X4_note : GoodIn wsX4_giveHeads (wsV RX4 58 RX4 yX4_note wsX4_note) := goodIn_app (goodIn_of _ (by decide +kernel)) ggX4_giveHeads_X4_note
set_option maxRecDepth 20000 in
theorem ggX4_giveHeads_X0_get : GoodIn wsX4_giveHeads wsX0_get := goodIn_r _ [19, 20, 21, 22, 23, 24, 47, 48] (by decide +kernel) (by decide +kernel)
set_option maxRecDepth 20000 in
theorem gX4_giveHeads_X0_get : GoodIn wsX4_giveHeads (wsV RX4 62 RX0 yX0_get wsX0_get) := goodIn_app (goodIn_of _ (by decide +kernel)) ggX4_giveHeads_X0_get
set_option maxRecDepth 20000 in
theorem ggX4_giveHeads_X4_closesCircle : GoodIn wsX4_giveHeads wsX4_closesCircle := goodIn_r _ [28, 2, 44, 45, 46] (by decide +kernel) (by decide +kernel)
set_option maxRecDepth 20000 in
theorem gX4_giveHeads_X4_closesCircle : GoodIn wsX4_giveHeads (wsV RX4 66 RX4 yX4_closesCircle wsX4_closesCircle) := goodIn_app (goodIn_of _ (by decide +kernel)) ggX4_giveHeads_X4_closesCircle
set_option maxRecDepth 20000 in
theorem ggX4_giveHeads_X4_crossesEarlier : GoodIn wsX4_giveHeads wsX4_crossesEarlier := goodIn_r _ [32, 2, 33, 23, 34, 35, 36, 37, 38, 39, 40, 41, 44, 45, 46] (by decide +kernel) (by decide +kernel)
set_option maxRecDepth 20000 in
theorem gX4_giveHeads_X4_crossesEarlier : GoodIn wsX4_giveHeads (wsV RX4 70 RX4 yX4_crossesEarlier wsX4_crossesEarlier) := goodIn_app (goodIn_of _ (by decide +kernel)) ggX4_giveHeads_X4_crossesEarlier
set_option maxRecDepth 20000 in
theorem ggX4_giveHeads_X4_giveHeads : GoodIn wsX4_giveHeads wsX4_giveHeads := goodIn_r _ [0, 1, 2, 3, 4, 5, 6, 7, 8, 9, 10, 11, 12, 13, 14, 15, 16, 17, 18, 19, 20, 21, 22, 23, 24, 25, 26, 27, 28, 29, 30, 31, 32, 33, 34, 35, 36, 37, 38, 39, 40, 41, 42, 43, 44, 45, 46, 47, 48] (by decide +kernel) (by decide +kernel)
set_option maxRecDepth 20000 in
theorem gX4_giveHeads_X4_giveHeads : GoodIn wsX4_giveHeads (va_wsS RX4 23 yX4_giveHeads wsX4_giveHeads) := goodIn_app (goodIn_of _ (by decide +kernel)) ggX4_giveHeads_X4_giveHeads
theorem dX4_giveHeads_0 : decode cX4_giveHeads 0 = .ok (.iload_n 3, 1) := by decide +kernel
theorem dX4_giveHeads_1 : decode cX4_giveHeads 1 = .ok (.aload_n 1, 1) := by decide +kernel
theorem dX4_giveHeads_2 : decode cX4_giveHeads 2 = .ok (.invokevirtual 52, 3) := by decide +kernel
theorem dX4_giveHeads_5 : decode cX4_giveHeads 5 = .ok (.if_icmp .gt 9, 3) := by decide +kernel
theorem dX4_giveHeads_8 : decode cX4_giveHeads 8 = .ok (.iload_n 3, 1) := by decide +kernel
theorem dX4_giveHeads_9 : decode cX4_giveHeads 9 = .ok (.bipush 6, 2) := by decide +kernel
theorem dX4_giveHeads_11 : decode cX4_giveHeads 11 = .ok (.if_icmp .le 10, 3) := by decide +kernel
theorem dX4_giveHeads_14 : decode cX4_giveHeads 14 = .ok (.aload_n 0, 1) := by decide +kernel
theorem dX4_giveHeads_15 : decode cX4_giveHeads 15 = .ok (.lload 4, 2) := by decide +kernel
theorem dX4_giveHeads_17 : decode cX4_giveHeads 17 = .ok (.invokevirtual 58, 3) := by decide +kernel
theorem dX4_giveHeads_20 : decode cX4_giveHeads 20 = .ok (.return_, 1) := by decide +kernel
theorem dX4_giveHeads_21 : decode cX4_giveHeads 21 = .ok (.iconst 0, 1) := by decide +kernel
theorem dX4_giveHeads_22 : decode cX4_giveHeads 22 = .ok (.istore 6, 2) := by decide +kernel
theorem dX4_giveHeads_24 : decode cX4_giveHeads 24 = .ok (.iload 6, 2) := by decide +kernel
theorem dX4_giveHeads_26 : decode cX4_giveHeads 26 = .ok (.aload_n 1, 1) := by decide +kernel
theorem dX4_giveHeads_27 : decode cX4_giveHeads 27 = .ok (.invokevirtual 52, 3) := by decide +kernel
theorem dX4_giveHeads_30 : decode cX4_giveHeads 30 = .ok (.if_icmp .gt 73, 3) := by decide +kernel
theorem dX4_giveHeads_33 : decode cX4_giveHeads 33 = .ok (.aload_n 1, 1) := by decide +kernel
theorem dX4_giveHeads_34 : decode cX4_giveHeads 34 = .ok (.iload 6, 2) := by decide +kernel
theorem dX4_giveHeads_36 : decode cX4_giveHeads 36 = .ok (.iload_n 3, 1) := by decide +kernel
theorem dX4_giveHeads_37 : decode cX4_giveHeads 37 = .ok (.invokevirtual 62, 3) := by decide +kernel
theorem dX4_giveHeads_40 : decode cX4_giveHeads 40 = .ok (.lstore 7, 2) := by decide +kernel
theorem dX4_giveHeads_42 : decode cX4_giveHeads 42 = .ok (.lload 7, 2) := by decide +kernel
theorem dX4_giveHeads_44 : decode cX4_giveHeads 44 = .ok (.ldc2_w 27, 3) := by decide +kernel
theorem dX4_giveHeads_47 : decode cX4_giveHeads 47 = .ok (.lcmp, 1) := by decide +kernel
theorem dX4_giveHeads_48 : decode cX4_giveHeads 48 = .ok (.ifCond .eq 49, 3) := by decide +kernel
theorem dX4_giveHeads_51 : decode cX4_giveHeads 51 = .ok (.aload_n 0, 1) := by decide +kernel
theorem dX4_giveHeads_52 : decode cX4_giveHeads 52 = .ok (.iload 6, 2) := by decide +kernel
theorem dX4_giveHeads_54 : decode cX4_giveHeads 54 = .ok (.iload_n 3, 1) := by decide +kernel
theorem dX4_giveHeads_55 : decode cX4_giveHeads 55 = .ok (.invokevirtual 66, 3) := by decide +kernel
theorem dX4_giveHeads_58 : decode cX4_giveHeads 58 = .ok (.ifCond .ne 39, 3) := by decide +kernel
theorem dX4_giveHeads_61 : decode cX4_giveHeads 61 = .ok (.iload_n 2, 1) := by decide +kernel
theorem dX4_giveHeads_62 : decode cX4_giveHeads 62 = .ok (.ifCond .ne 13, 3) := by decide +kernel
theorem dX4_giveHeads_65 : decode cX4_giveHeads 65 = .ok (.aload_n 0, 1) := by decide +kernel
theorem dX4_giveHeads_66 : decode cX4_giveHeads 66 = .ok (.iload 6, 2) := by decide +kernel
theorem dX4_giveHeads_68 : decode cX4_giveHeads 68 = .ok (.iload_n 3, 1) := by decide +kernel
theorem dX4_giveHeads_69 : decode cX4_giveHeads 69 = .ok (.invokevirtual 70, 3) := by decide +kernel
theorem dX4_giveHeads_72 : decode cX4_giveHeads 72 = .ok (.ifCond .ne 25, 3) := by decide +kernel
theorem dX4_giveHeads_75 : decode cX4_giveHeads 75 = .ok (.aload_n 0, 1) := by decide +kernel
theorem dX4_giveHeads_76 : decode cX4_giveHeads 76 = .ok (.getfield 15, 3) := by decide +kernel
theorem dX4_giveHeads_79 : decode cX4_giveHeads 79 = .ok (.iload_n 3, 1) := by decide +kernel
theorem dX4_giveHeads_80 : decode cX4_giveHeads 80 = .ok (.iload 6, 2) := by decide +kernel
theorem dX4_giveHeads_82 : decode cX4_giveHeads 82 = .ok (.iastore, 1) := by decide +kernel
theorem dX4_giveHeads_83 : decode cX4_giveHeads 83 = .ok (.aload_n 0, 1) := by decide +kernel
theorem dX4_giveHeads_84 : decode cX4_giveHeads 84 = .ok (.aload_n 1, 1) := by decide +kernel
theorem dX4_giveHeads_85 : decode cX4_giveHeads 85 = .ok (.iload_n 2, 1) := by decide +kernel
theorem dX4_giveHeads_86 : decode cX4_giveHeads 86 = .ok (.iload_n 3, 1) := by decide +kernel
theorem dX4_giveHeads_87 : decode cX4_giveHeads 87 = .ok (.iconst 1, 1) := by decide +kernel
theorem dX4_giveHeads_88 : decode cX4_giveHeads 88 = .ok (.iadd, 1) := by decide +kernel
theorem dX4_giveHeads_89 : decode cX4_giveHeads 89 = .ok (.lload 4, 2) := by decide +kernel
theorem dX4_giveHeads_91 : decode cX4_giveHeads 91 = .ok (.lload 7, 2) := by decide +kernel
theorem dX4_giveHeads_93 : decode cX4_giveHeads 93 = .ok (.ladd, 1) := by decide +kernel
theorem dX4_giveHeads_94 : decode cX4_giveHeads 94 = .ok (.invokestatic 23, 3) := by decide +kernel
theorem dX4_giveHeads_97 : decode cX4_giveHeads 97 = .ok (.iinc 6 1, 3) := by decide +kernel
theorem dX4_giveHeads_100 : decode cX4_giveHeads 100 = .ok (.goto (-76), 3) := by decide +kernel
theorem dX4_giveHeads_103 : decode cX4_giveHeads 103 = .ok (.return_, 1) := by decide +kernel
theorem dX4_note_0 : decode cX4_note 0 = .ok (.aload_n 0, 1) := by decide +kernel
theorem dX4_note_1 : decode cX4_note 1 = .ok (.getfield 19, 3) := by decide +kernel
theorem dX4_note_4 : decode cX4_note 4 = .ok (.ifCond .lt 35, 3) := by decide +kernel
theorem dX4_note_7 : decode cX4_note 7 = .ok (.aload_n 0, 1) := by decide +kernel
theorem dX4_note_8 : decode cX4_note 8 = .ok (.getfield 19, 3) := by decide +kernel
theorem dX4_note_11 : decode cX4_note 11 = .ok (.aload_n 0, 1) := by decide +kernel
theorem dX4_note_12 : decode cX4_note 12 = .ok (.getfield 9, 3) := by decide +kernel
theorem dX4_note_15 : decode cX4_note 15 = .ok (.arraylength, 1) := by decide +kernel
theorem dX4_note_16 : decode cX4_note 16 = .ok (.if_icmp .ge 23, 3) := by decide +kernel
theorem dX4_note_19 : decode cX4_note 19 = .ok (.aload_n 0, 1) := by decide +kernel
theorem dX4_note_20 : decode cX4_note 20 = .ok (.getfield 9, 3) := by decide +kernel
theorem dX4_note_23 : decode cX4_note 23 = .ok (.aload_n 0, 1) := by decide +kernel
theorem dX4_note_24 : decode cX4_note 24 = .ok (.getfield 19, 3) := by decide +kernel
theorem dX4_note_27 : decode cX4_note 27 = .ok (.lload_n 1, 1) := by decide +kernel
theorem dX4_note_28 : decode cX4_note 28 = .ok (.lastore, 1) := by decide +kernel
theorem dX4_note_29 : decode cX4_note 29 = .ok (.aload_n 0, 1) := by decide +kernel
theorem dX4_note_30 : decode cX4_note 30 = .ok (.dup, 1) := by decide +kernel
theorem dX4_note_31 : decode cX4_note 31 = .ok (.getfield 19, 3) := by decide +kernel
theorem dX4_note_34 : decode cX4_note 34 = .ok (.iconst 1, 1) := by decide +kernel
theorem dX4_note_35 : decode cX4_note 35 = .ok (.iadd, 1) := by decide +kernel
theorem dX4_note_36 : decode cX4_note 36 = .ok (.putfield 19, 3) := by decide +kernel
theorem dX4_note_39 : decode cX4_note 39 = .ok (.return_, 1) := by decide +kernel
theorem dX4_closesCircle_0 : decode cX4_closesCircle 0 = .ok (.iload_n 1, 1) := by decide +kernel
theorem dX4_closesCircle_1 : decode cX4_closesCircle 1 = .ok (.istore_n 3, 1) := by decide +kernel
theorem dX4_closesCircle_2 : decode cX4_closesCircle 2 = .ok (.iconst 0, 1) := by decide +kernel
theorem dX4_closesCircle_3 : decode cX4_closesCircle 3 = .ok (.istore 4, 2) := by decide +kernel
theorem dX4_closesCircle_5 : decode cX4_closesCircle 5 = .ok (.iload 4, 2) := by decide +kernel
theorem dX4_closesCircle_7 : decode cX4_closesCircle 7 = .ok (.bipush 7, 2) := by decide +kernel
theorem dX4_closesCircle_9 : decode cX4_closesCircle 9 = .ok (.if_icmp .ge 38, 3) := by decide +kernel
theorem dX4_closesCircle_12 : decode cX4_closesCircle 12 = .ok (.iload_n 3, 1) := by decide +kernel
theorem dX4_closesCircle_13 : decode cX4_closesCircle 13 = .ok (.ifCond .le 34, 3) := by decide +kernel
theorem dX4_closesCircle_16 : decode cX4_closesCircle 16 = .ok (.iload_n 3, 1) := by decide +kernel
theorem dX4_closesCircle_17 : decode cX4_closesCircle 17 = .ok (.iload_n 2, 1) := by decide +kernel
theorem dX4_closesCircle_18 : decode cX4_closesCircle 18 = .ok (.if_icmp .ge 29, 3) := by decide +kernel
theorem dX4_closesCircle_21 : decode cX4_closesCircle 21 = .ok (.iload_n 3, 1) := by decide +kernel
theorem dX4_closesCircle_22 : decode cX4_closesCircle 22 = .ok (.aload_n 0, 1) := by decide +kernel
theorem dX4_closesCircle_23 : decode cX4_closesCircle 23 = .ok (.getfield 15, 3) := by decide +kernel
theorem dX4_closesCircle_26 : decode cX4_closesCircle 26 = .ok (.arraylength, 1) := by decide +kernel
theorem dX4_closesCircle_27 : decode cX4_closesCircle 27 = .ok (.if_icmp .ge 12, 3) := by decide +kernel
theorem dX4_closesCircle_30 : decode cX4_closesCircle 30 = .ok (.aload_n 0, 1) := by decide +kernel
theorem dX4_closesCircle_31 : decode cX4_closesCircle 31 = .ok (.getfield 15, 3) := by decide +kernel
theorem dX4_closesCircle_34 : decode cX4_closesCircle 34 = .ok (.iload_n 3, 1) := by decide +kernel
theorem dX4_closesCircle_35 : decode cX4_closesCircle 35 = .ok (.iaload, 1) := by decide +kernel
theorem dX4_closesCircle_36 : decode cX4_closesCircle 36 = .ok (.goto 4, 3) := by decide +kernel
theorem dX4_closesCircle_39 : decode cX4_closesCircle 39 = .ok (.iconst 0, 1) := by decide +kernel
theorem dX4_closesCircle_40 : decode cX4_closesCircle 40 = .ok (.istore_n 3, 1) := by decide +kernel
theorem dX4_closesCircle_41 : decode cX4_closesCircle 41 = .ok (.iinc 4 1, 3) := by decide +kernel
theorem dX4_closesCircle_44 : decode cX4_closesCircle 44 = .ok (.goto (-39), 3) := by decide +kernel
theorem dX4_closesCircle_47 : decode cX4_closesCircle 47 = .ok (.iload_n 3, 1) := by decide +kernel
theorem dX4_closesCircle_48 : decode cX4_closesCircle 48 = .ok (.iload_n 2, 1) := by decide +kernel
theorem dX4_closesCircle_49 : decode cX4_closesCircle 49 = .ok (.if_icmp .ne 7, 3) := by decide +kernel
theorem dX4_closesCircle_52 : decode cX4_closesCircle 52 = .ok (.iconst 1, 1) := by decide +kernel
theorem dX4_closesCircle_53 : decode cX4_closesCircle 53 = .ok (.goto 4, 3) := by decide +kernel
theorem dX4_closesCircle_56 : decode cX4_closesCircle 56 = .ok (.iconst 0, 1) := by decide +kernel
theorem dX4_closesCircle_57 : decode cX4_closesCircle 57 = .ok (.ireturn, 1) := by decide +kernel
set_option maxRecDepth 20000 in
theorem ggX4_crossesEarlier_X6_doCross : GoodIn wsX4_crossesEarlier wsX6_doCross := goodIn_r _ [4, 5, 6, 7, 8, 9, 10, 11] (by decide +kernel) (by decide +kernel)
set_option maxRecDepth 20000 in
theorem gX4_crossesEarlier_X6_doCross_n73 : GoodIn wsX4_crossesEarlier (wsX6_doCross) := ggX4_crossesEarlier_X6_doCross
theorem dX4_crossesEarlier_0 : decode cX4_crossesEarlier 0 = .ok (.iconst 1, 1) := by decide +kernel
theorem dX4_crossesEarlier_1 : decode cX4_crossesEarlier 1 = .ok (.istore_n 3, 1) := by decide +kernel
theorem dX4_crossesEarlier_2 : decode cX4_crossesEarlier 2 = .ok (.iload_n 3, 1) := by decide +kernel
theorem dX4_crossesEarlier_3 : decode cX4_crossesEarlier 3 = .ok (.iload_n 2, 1) := by decide +kernel
theorem dX4_crossesEarlier_4 : decode cX4_crossesEarlier 4 = .ok (.if_icmp .ge 35, 3) := by decide +kernel
theorem dX4_crossesEarlier_7 : decode cX4_crossesEarlier 7 = .ok (.iload_n 3, 1) := by decide +kernel
theorem dX4_crossesEarlier_8 : decode cX4_crossesEarlier 8 = .ok (.aload_n 0, 1) := by decide +kernel
theorem dX4_crossesEarlier_9 : decode cX4_crossesEarlier 9 = .ok (.getfield 15, 3) := by decide +kernel
theorem dX4_crossesEarlier_12 : decode cX4_crossesEarlier 12 = .ok (.arraylength, 1) := by decide +kernel
theorem dX4_crossesEarlier_13 : decode cX4_crossesEarlier 13 = .ok (.if_icmp .ge 26, 3) := by decide +kernel
theorem dX4_crossesEarlier_16 : decode cX4_crossesEarlier 16 = .ok (.iload_n 1, 1) := by decide +kernel
theorem dX4_crossesEarlier_17 : decode cX4_crossesEarlier 17 = .ok (.iload_n 2, 1) := by decide +kernel
theorem dX4_crossesEarlier_18 : decode cX4_crossesEarlier 18 = .ok (.aload_n 0, 1) := by decide +kernel
theorem dX4_crossesEarlier_19 : decode cX4_crossesEarlier 19 = .ok (.getfield 15, 3) := by decide +kernel
theorem dX4_crossesEarlier_22 : decode cX4_crossesEarlier 22 = .ok (.iload_n 3, 1) := by decide +kernel
theorem dX4_crossesEarlier_23 : decode cX4_crossesEarlier 23 = .ok (.iaload, 1) := by decide +kernel
theorem dX4_crossesEarlier_24 : decode cX4_crossesEarlier 24 = .ok (.iload_n 3, 1) := by decide +kernel
theorem dX4_crossesEarlier_25 : decode cX4_crossesEarlier 25 = .ok (.invokestatic 73, 3) := by decide +kernel
theorem dX4_crossesEarlier_28 : decode cX4_crossesEarlier 28 = .ok (.ifCond .eq 5, 3) := by decide +kernel
theorem dX4_crossesEarlier_31 : decode cX4_crossesEarlier 31 = .ok (.iconst 1, 1) := by decide +kernel
theorem dX4_crossesEarlier_32 : decode cX4_crossesEarlier 32 = .ok (.ireturn, 1) := by decide +kernel
theorem dX4_crossesEarlier_33 : decode cX4_crossesEarlier 33 = .ok (.iinc 3 1, 3) := by decide +kernel
theorem dX4_crossesEarlier_36 : decode cX4_crossesEarlier 36 = .ok (.goto (-34), 3) := by decide +kernel
theorem dX4_crossesEarlier_39 : decode cX4_crossesEarlier 39 = .ok (.iconst 0, 1) := by decide +kernel
theorem dX4_crossesEarlier_40 : decode cX4_crossesEarlier 40 = .ok (.ireturn, 1) := by decide +kernel
theorem dX5_init_0 : decode cX5_init 0 = .ok (.aload_n 0, 1) := by decide +kernel
theorem dX5_init_1 : decode cX5_init 1 = .ok (.invokespecial 3, 3) := by decide +kernel
theorem dX5_init_4 : decode cX5_init 4 = .ok (.aload_n 0, 1) := by decide +kernel
theorem dX5_init_5 : decode cX5_init 5 = .ok (.bipush 28, 2) := by decide +kernel
theorem dX5_init_7 : decode cX5_init 7 = .ok (.newarray .int, 2) := by decide +kernel
theorem dX5_init_9 : decode cX5_init 9 = .ok (.putfield 9, 3) := by decide +kernel
theorem dX5_init_12 : decode cX5_init 12 = .ok (.aload_n 0, 1) := by decide +kernel
theorem dX5_init_13 : decode cX5_init 13 = .ok (.bipush 28, 2) := by decide +kernel
theorem dX5_init_15 : decode cX5_init 15 = .ok (.newarray .long, 2) := by decide +kernel
theorem dX5_init_17 : decode cX5_init 17 = .ok (.putfield 15, 3) := by decide +kernel
theorem dX5_init_20 : decode cX5_init 20 = .ok (.aload_n 0, 1) := by decide +kernel
theorem dX5_init_21 : decode cX5_init 21 = .ok (.iconst 0, 1) := by decide +kernel
theorem dX5_init_22 : decode cX5_init 22 = .ok (.putfield 19, 3) := by decide +kernel
theorem dX5_init_25 : decode cX5_init 25 = .ok (.aload_n 0, 1) := by decide +kernel
theorem dX5_init_26 : decode cX5_init 26 = .ok (.bipush 20, 2) := by decide +kernel
theorem dX5_init_28 : decode cX5_init 28 = .ok (.bipush 28, 2) := by decide +kernel
theorem dX5_init_30 : decode cX5_init 30 = .ok (.multianewarray 23 2, 4) := by decide +kernel
theorem dX5_init_34 : decode cX5_init 34 = .ok (.putfield 25, 3) := by decide +kernel
theorem dX5_init_37 : decode cX5_init 37 = .ok (.aload_n 0, 1) := by decide +kernel
theorem dX5_init_38 : decode cX5_init 38 = .ok (.bipush 20, 2) := by decide +kernel
theorem dX5_init_40 : decode cX5_init 40 = .ok (.bipush 28, 2) := by decide +kernel
theorem dX5_init_42 : decode cX5_init 42 = .ok (.multianewarray 28 2, 4) := by decide +kernel
theorem dX5_init_46 : decode cX5_init 46 = .ok (.putfield 30, 3) := by decide +kernel
theorem dX5_init_49 : decode cX5_init 49 = .ok (.aload_n 0, 1) := by decide +kernel
theorem dX5_init_50 : decode cX5_init 50 = .ok (.bipush 20, 2) := by decide +kernel
theorem dX5_init_52 : decode cX5_init 52 = .ok (.newarray .int, 2) := by decide +kernel
theorem dX5_init_54 : decode cX5_init 54 = .ok (.putfield 33, 3) := by decide +kernel
theorem dX5_init_57 : decode cX5_init 57 = .ok (.aload_n 0, 1) := by decide +kernel
theorem dX5_init_58 : decode cX5_init 58 = .ok (.iconst 0, 1) := by decide +kernel
theorem dX5_init_59 : decode cX5_init 59 = .ok (.putfield 36, 3) := by decide +kernel
theorem dX5_init_62 : decode cX5_init 62 = .ok (.aload_n 0, 1) := by decide +kernel
theorem dX5_init_63 : decode cX5_init 63 = .ok (.iconst 0, 1) := by decide +kernel
theorem dX5_init_64 : decode cX5_init 64 = .ok (.putfield 39, 3) := by decide +kernel
theorem dX5_init_67 : decode cX5_init 67 = .ok (.return_, 1) := by decide +kernel
set_option maxRecDepth 20000 in
theorem ggX5_get_X5_isFeature : GoodIn wsX5_get wsX5_isFeature := goodIn_r _ [5] (by decide +kernel) (by decide +kernel)
set_option maxRecDepth 20000 in
theorem gX5_get_X5_isFeature : GoodIn wsX5_get (va_wsS RX5 42 yX5_isFeature wsX5_isFeature) := goodIn_app (goodIn_of _ (by decide +kernel)) ggX5_get_X5_isFeature
theorem dX5_get_0 : decode cX5_get 0 = .ok (.iload_n 1, 1) := by decide +kernel
theorem dX5_get_1 : decode cX5_get 1 = .ok (.invokestatic 42, 3) := by decide +kernel
theorem dX5_get_4 : decode cX5_get 4 = .ok (.ifCond .eq 12, 3) := by decide +kernel
theorem dX5_get_7 : decode cX5_get 7 = .ok (.aload_n 0, 1) := by decide +kernel
theorem dX5_get_8 : decode cX5_get 8 = .ok (.getfield 9, 3) := by decide +kernel
theorem dX5_get_11 : decode cX5_get 11 = .ok (.iload_n 1, 1) := by decide +kernel
theorem dX5_get_12 : decode cX5_get 12 = .ok (.iaload, 1) := by decide +kernel
theorem dX5_get_13 : decode cX5_get 13 = .ok (.goto 4, 3) := by decide +kernel
theorem dX5_get_16 : decode cX5_get 16 = .ok (.iconst 0, 1) := by decide +kernel
theorem dX5_get_17 : decode cX5_get 17 = .ok (.ireturn, 1) := by decide +kernel
set_option maxRecDepth 20000 in
theorem ggX5_put_X5_isFeature : GoodIn wsX5_put wsX5_isFeature := goodIn_r _ [5] (by decide +kernel) (by decide +kernel)
set_option maxRecDepth 20000 in
theorem gX5_put_X5_isFeature : GoodIn wsX5_put (va_wsS RX5 42 yX5_isFeature wsX5_isFeature) := goodIn_app (goodIn_of _ (by decide +kernel)) ggX5_put_X5_isFeature
theorem dX5_put_0 : decode cX5_put 0 = .ok (.iload_n 1, 1) := by decide +kernel
theorem dX5_put_1 : decode cX5_put 1 = .ok (.invokestatic 42, 3) := by decide +kernel
theorem dX5_put_4 : decode cX5_put 4 = .ok (.ifCond .eq 10, 3) := by decide +kernel
theorem dX5_put_7 : decode cX5_put 7 = .ok (.aload_n 0, 1) := by decide +kernel
theorem dX5_put_8 : decode cX5_put 8 = .ok (.getfield 9, 3) := by decide +kernel
theorem dX5_put_11 : decode cX5_put 11 = .ok (.iload_n 1, 1) := by decide +kernel
theorem dX5_put_12 : decode cX5_put 12 = .ok (.iload_n 2, 1) := by decide +kernel
theorem dX5_put_13 : decode cX5_put 13 = .ok (.iastore, 1) := by decide +kernel
theorem dX5_put_14 : decode cX5_put 14 = .ok (.return_, 1) := by decide +kernel
set_option maxRecDepth 20000 in
theorem ggX5_ofArc_X2_byKinds : GoodIn wsX5_ofArc wsX2_byKinds := goodIn_r _ [5, 6, 7, 8, 4, 9, 10, 11, 12, 13, 32, 33, 34, 35] (by decide +kernel) (by decide +kernel)
set_option maxRecDepth 20000 in
theorem gX5_ofArc_X2_byKinds : GoodIn wsX5_ofArc (wsV RX5 46 RX2 yX2_byKinds wsX2_byKinds) := goodIn_app (goodIn_of _ (by decide +kernel)) ggX5_ofArc_X2_byKinds
set_option maxRecDepth 20000 in
theorem ggX5_ofArc_X5_get : GoodIn wsX5_ofArc wsX5_get := goodIn_r _ [18, 19, 20, 21, 17, 22, 36, 37, 38, 39, 40, 41, 42, 43] (by decide +kernel) (by decide +kernel)
set_option maxRecDepth 20000 in
theorem gX5_ofArc_X5_get : GoodIn wsX5_ofArc (wsV RX5 52 RX5 yX5_get wsX5_get) := goodIn_app (goodIn_of _ (by decide +kernel)) ggX5_ofArc_X5_get
set_option maxRecDepth 20000 in
theorem ggX5_ofArc_X6_byDistance : GoodIn wsX5_ofArc wsX6_byDistance := goodIn_r _ [24, 25, 26, 27, 28, 29, 30, 31] (by decide +kernel) (by decide +kernel)
set_option maxRecDepth 20000 in
theorem gX5_ofArc_X6_byDistance_n56 : GoodIn wsX5_ofArc (wsX6_byDistance) := ggX5_ofArc_X6_byDistance
theorem dX5_ofArc_0 : decode cX5_ofArc 0 = .ok (.aload_n 0, 1) := by decide +kernel
theorem dX5_ofArc_1 : decode cX5_ofArc 1 = .ok (.aload_n 1, 1) := by decide +kernel
theorem dX5_ofArc_2 : decode cX5_ofArc 2 = .ok (.iload_n 2, 1) := by decide +kernel
theorem dX5_ofArc_3 : decode cX5_ofArc 3 = .ok (.iload_n 3, 1) := by decide +kernel
theorem dX5_ofArc_4 : decode cX5_ofArc 4 = .ok (.invokevirtual 46, 3) := by decide +kernel
theorem dX5_ofArc_7 : decode cX5_ofArc 7 = .ok (.invokevirtual 52, 3) := by decide +kernel
theorem dX5_ofArc_10 : decode cX5_ofArc 10 = .ok (.aload_n 0, 1) := by decide +kernel
theorem dX5_ofArc_11 : decode cX5_ofArc 11 = .ok (.iload_n 2, 1) := by decide +kernel
theorem dX5_ofArc_12 : decode cX5_ofArc 12 = .ok (.iload_n 3, 1) := by decide +kernel
theorem dX5_ofArc_13 : decode cX5_ofArc 13 = .ok (.invokestatic 56, 3) := by decide +kernel
theorem dX5_ofArc_16 : decode cX5_ofArc 16 = .ok (.invokevirtual 52, 3) := by decide +kernel
theorem dX5_ofArc_19 : decode cX5_ofArc 19 = .ok (.iadd, 1) := by decide +kernel
theorem dX5_ofArc_20 : decode cX5_ofArc 20 = .ok (.ireturn, 1) := by decide +kernel
set_option maxRecDepth 20000 in
theorem ggX5_addToArc_X2_byKinds : GoodIn wsX5_addToArc wsX2_byKinds := goodIn_r _ [5, 6, 7, 8, 4, 9, 10, 11, 12, 13, 36, 37, 38, 39] (by decide +kernel) (by decide +kernel)
set_option maxRecDepth 20000 in
theorem gX5_addToArc_X2_byKinds : GoodIn wsX5_addToArc (wsV RX5 46 RX2 yX2_byKinds wsX2_byKinds) := goodIn_app (goodIn_of _ (by decide +kernel)) ggX5_addToArc_X2_byKinds
set_option maxRecDepth 20000 in
theorem ggX5_addToArc_X6_byDistance : GoodIn wsX5_addToArc wsX6_byDistance := goodIn_r _ [15, 16, 17, 18, 19, 20, 21, 22] (by decide +kernel) (by decide +kernel)
set_option maxRecDepth 20000 in
theorem gX5_addToArc_X6_byDistance_n56 : GoodIn wsX5_addToArc (wsX6_byDistance) := ggX5_addToArc_X6_byDistance
set_option maxRecDepth 20000 in
theorem ggX5_addToArc_X5_get : GoodIn wsX5_addToArc wsX5_get := goodIn_r _ [27, 28, 29, 30, 26, 31, 40, 41, 42, 43, 44, 45, 46, 47] (by decide +kernel) (by decide +kernel)
set_option maxRecDepth 20000 in
theorem gX5_addToArc_X5_get : GoodIn wsX5_addToArc (wsV RX5 52 RX5 yX5_get wsX5_get) := goodIn_app (goodIn_of _ (by decide +kernel)) ggX5_addToArc_X5_get
set_option maxRecDepth 20000 in
theorem ggX5_addToArc_X5_put : GoodIn wsX5_addToArc wsX5_put := goodIn_r _ [35, 28, 29, 30, 26, 31, 40, 41, 42, 43, 44, 45, 46, 47] (by decide +kernel) (by decide +kernel)
set_option maxRecDepth 20000 in
theorem gX5_addToArc_X5_put : GoodIn wsX5_addToArc (wsV RX5 59 RX5 yX5_put wsX5_put) := goodIn_app (goodIn_of _ (by decide +kernel)) ggX5_addToArc_X5_put
theorem dX5_addToArc_0 : decode cX5_addToArc 0 = .ok (.aload_n 1, 1) := by decide +kernel
theorem dX5_addToArc_1 : decode cX5_addToArc 1 = .ok (.iload_n 2, 1) := by decide +kernel
theorem dX5_addToArc_2 : decode cX5_addToArc 2 = .ok (.iload_n 3, 1) := by decide +kernel
theorem dX5_addToArc_3 : decode cX5_addToArc 3 = .ok (.invokevirtual 46, 3) := by decide +kernel
theorem dX5_addToArc_6 : decode cX5_addToArc 6 = .ok (.istore 5, 2) := by decide +kernel
theorem dX5_addToArc_8 : decode cX5_addToArc 8 = .ok (.iload_n 2, 1) := by decide +kernel
theorem dX5_addToArc_9 : decode cX5_addToArc 9 = .ok (.iload_n 3, 1) := by decide +kernel
theorem dX5_addToArc_10 : decode cX5_addToArc 10 = .ok (.invokestatic 56, 3) := by decide +kernel
theorem dX5_addToArc_13 : decode cX5_addToArc 13 = .ok (.istore 6, 2) := by decide +kernel
theorem dX5_addToArc_15 : decode cX5_addToArc 15 = .ok (.aload_n 0, 1) := by decide +kernel
theorem dX5_addToArc_16 : decode cX5_addToArc 16 = .ok (.iload 5, 2) := by decide +kernel
theorem dX5_addToArc_18 : decode cX5_addToArc 18 = .ok (.aload_n 0, 1) := by decide +kernel
theorem dX5_addToArc_19 : decode cX5_addToArc 19 = .ok (.iload 5, 2) := by decide +kernel
theorem dX5_addToArc_21 : decode cX5_addToArc 21 = .ok (.invokevirtual 52, 3) := by decide +kernel
theorem dX5_addToArc_24 : decode cX5_addToArc 24 = .ok (.iload 4, 2) := by decide +kernel
theorem dX5_addToArc_26 : decode cX5_addToArc 26 = .ok (.iadd, 1) := by decide +kernel
theorem dX5_addToArc_27 : decode cX5_addToArc 27 = .ok (.invokevirtual 59, 3) := by decide +kernel
theorem dX5_addToArc_30 : decode cX5_addToArc 30 = .ok (.aload_n 0, 1) := by decide +kernel
theorem dX5_addToArc_31 : decode cX5_addToArc 31 = .ok (.iload 6, 2) := by decide +kernel
theorem dX5_addToArc_33 : decode cX5_addToArc 33 = .ok (.aload_n 0, 1) := by decide +kernel
theorem dX5_addToArc_34 : decode cX5_addToArc 34 = .ok (.iload 6, 2) := by decide +kernel
theorem dX5_addToArc_36 : decode cX5_addToArc 36 = .ok (.invokevirtual 52, 3) := by decide +kernel
theorem dX5_addToArc_39 : decode cX5_addToArc 39 = .ok (.iload 4, 2) := by decide +kernel
theorem dX5_addToArc_41 : decode cX5_addToArc 41 = .ok (.iadd, 1) := by decide +kernel
theorem dX5_addToArc_42 : decode cX5_addToArc 42 = .ok (.invokevirtual 59, 3) := by decide +kernel
theorem dX5_addToArc_45 : decode cX5_addToArc 45 = .ok (.return_, 1) := by decide +kernel
theorem dX5_endStep_0 : decode cX5_endStep 0 = .ok (.iconst 0, 1) := by decide +kernel
theorem dX5_endStep_1 : decode cX5_endStep 1 = .ok (.istore_n 1, 1) := by decide +kernel
theorem dX5_endStep_2 : decode cX5_endStep 2 = .ok (.iload_n 1, 1) := by decide +kernel
theorem dX5_endStep_3 : decode cX5_endStep 3 = .ok (.bipush 28, 2) := by decide +kernel
theorem dX5_endStep_5 : decode cX5_endStep 5 = .ok (.if_icmp .ge 25, 3) := by decide +kernel
theorem dX5_endStep_8 : decode cX5_endStep 8 = .ok (.aload_n 0, 1) := by decide +kernel
theorem dX5_endStep_9 : decode cX5_endStep 9 = .ok (.getfield 15, 3) := by decide +kernel
theorem dX5_endStep_12 : decode cX5_endStep 12 = .ok (.iload_n 1, 1) := by decide +kernel
theorem dX5_endStep_13 : decode cX5_endStep 13 = .ok (.dup2, 1) := by decide +kernel
theorem dX5_endStep_14 : decode cX5_endStep 14 = .ok (.laload, 1) := by decide +kernel
theorem dX5_endStep_15 : decode cX5_endStep 15 = .ok (.aload_n 0, 1) := by decide +kernel
theorem dX5_endStep_16 : decode cX5_endStep 16 = .ok (.getfield 9, 3) := by decide +kernel
theorem dX5_endStep_19 : decode cX5_endStep 19 = .ok (.iload_n 1, 1) := by decide +kernel
theorem dX5_endStep_20 : decode cX5_endStep 20 = .ok (.iaload, 1) := by decide +kernel
theorem dX5_endStep_21 : decode cX5_endStep 21 = .ok (.i2l, 1) := by decide +kernel
theorem dX5_endStep_22 : decode cX5_endStep 22 = .ok (.ladd, 1) := by decide +kernel
theorem dX5_endStep_23 : decode cX5_endStep 23 = .ok (.lastore, 1) := by decide +kernel
theorem dX5_endStep_24 : decode cX5_endStep 24 = .ok (.iinc 1 1, 3) := by decide +kernel
theorem dX5_endStep_27 : decode cX5_endStep 27 = .ok (.goto (-25), 3) := by decide +kernel
theorem dX5_endStep_30 : decode cX5_endStep 30 = .ok (.aload_n 0, 1) := by decide +kernel
theorem dX5_endStep_31 : decode cX5_endStep 31 = .ok (.dup, 1) := by decide +kernel
theorem dX5_endStep_32 : decode cX5_endStep 32 = .ok (.getfield 19, 3) := by decide +kernel
theorem dX5_endStep_35 : decode cX5_endStep 35 = .ok (.iconst 1, 1) := by decide +kernel
theorem dX5_endStep_36 : decode cX5_endStep 36 = .ok (.iadd, 1) := by decide +kernel
theorem dX5_endStep_37 : decode cX5_endStep 37 = .ok (.putfield 19, 3) := by decide +kernel
theorem dX5_endStep_40 : decode cX5_endStep 40 = .ok (.return_, 1) := by decide +kernel
theorem dX5_stepCount_0 : decode cX5_stepCount 0 = .ok (.aload_n 0, 1) := by decide +kernel
theorem dX5_stepCount_1 : decode cX5_stepCount 1 = .ok (.getfield 19, 3) := by decide +kernel
theorem dX5_stepCount_4 : decode cX5_stepCount 4 = .ok (.ireturn, 1) := by decide +kernel
set_option maxRecDepth 20000 in
theorem ggX5_averageOf_X5_isFeature : GoodIn wsX5_averageOf wsX5_isFeature := goodIn_r _ [6] (by decide +kernel) (by decide +kernel)
set_option maxRecDepth 20000 in
theorem gX5_averageOf_X5_isFeature : GoodIn wsX5_averageOf (va_wsS RX5 42 yX5_isFeature wsX5_isFeature) := goodIn_app (goodIn_of _ (by decide +kernel)) ggX5_averageOf_X5_isFeature
theorem dX5_averageOf_0 : decode cX5_averageOf 0 = .ok (.aload_n 0, 1) := by decide +kernel
theorem dX5_averageOf_1 : decode cX5_averageOf 1 = .ok (.getfield 19, 3) := by decide +kernel
theorem dX5_averageOf_4 : decode cX5_averageOf 4 = .ok (.ifCond .eq 10, 3) := by decide +kernel
theorem dX5_averageOf_7 : decode cX5_averageOf 7 = .ok (.iload_n 1, 1) := by decide +kernel
theorem dX5_averageOf_8 : decode cX5_averageOf 8 = .ok (.invokestatic 42, 3) := by decide +kernel
theorem dX5_averageOf_11 : decode cX5_averageOf 11 = .ok (.ifCond .ne 5, 3) := by decide +kernel
theorem dX5_averageOf_14 : decode cX5_averageOf 14 = .ok (.dconst 0, 1) := by decide +kernel
theorem dX5_averageOf_15 : decode cX5_averageOf 15 = .ok (.dreturn, 1) := by decide +kernel
theorem dX5_averageOf_16 : decode cX5_averageOf 16 = .ok (.aload_n 0, 1) := by decide +kernel
theorem dX5_averageOf_17 : decode cX5_averageOf 17 = .ok (.getfield 15, 3) := by decide +kernel
theorem dX5_averageOf_20 : decode cX5_averageOf 20 = .ok (.iload_n 1, 1) := by decide +kernel
theorem dX5_averageOf_21 : decode cX5_averageOf 21 = .ok (.laload, 1) := by decide +kernel
theorem dX5_averageOf_22 : decode cX5_averageOf 22 = .ok (.l2d, 1) := by decide +kernel
theorem dX5_averageOf_23 : decode cX5_averageOf 23 = .ok (.aload_n 0, 1) := by decide +kernel
theorem dX5_averageOf_24 : decode cX5_averageOf 24 = .ok (.getfield 19, 3) := by decide +kernel
theorem dX5_averageOf_27 : decode cX5_averageOf 27 = .ok (.i2d, 1) := by decide +kernel
theorem dX5_averageOf_28 : decode cX5_averageOf 28 = .ok (.ddiv, 1) := by decide +kernel
theorem dX5_averageOf_29 : decode cX5_averageOf 29 = .ok (.dreturn, 1) := by decide +kernel
theorem dX5_keptCount_0 : decode cX5_keptCount 0 = .ok (.aload_n 0, 1) := by decide +kernel
theorem dX5_keptCount_1 : decode cX5_keptCount 1 = .ok (.getfield 36, 3) := by decide +kernel
theorem dX5_keptCount_4 : decode cX5_keptCount 4 = .ok (.ireturn, 1) := by decide +kernel
set_option maxRecDepth 20000 in
theorem ggX5_keep_X5_isRow : GoodIn wsX5_keep wsX5_isRow := goodIn_r _ [20] (by decide +kernel) (by decide +kernel)
set_option maxRecDepth 20000 in
theorem gX5_keep_X5_isRow : GoodIn wsX5_keep (va_wsS RX5 63 yX5_isRow wsX5_isRow) := goodIn_app (goodIn_of _ (by decide +kernel)) ggX5_keep_X5_isRow
theorem dX5_keep_0 : decode cX5_keep 0 = .ok (.aload_n 0, 1) := by decide +kernel
theorem dX5_keep_1 : decode cX5_keep 1 = .ok (.getfield 39, 3) := by decide +kernel
theorem dX5_keep_4 : decode cX5_keep 4 = .ok (.invokestatic 63, 3) := by decide +kernel
theorem dX5_keep_7 : decode cX5_keep 7 = .ok (.ifCond .ne 4, 3) := by decide +kernel
theorem dX5_keep_10 : decode cX5_keep 10 = .ok (.return_, 1) := by decide +kernel
theorem dX5_keep_11 : decode cX5_keep 11 = .ok (.aload_n 0, 1) := by decide +kernel
theorem dX5_keep_12 : decode cX5_keep 12 = .ok (.getfield 9, 3) := by decide +kernel
theorem dX5_keep_15 : decode cX5_keep 15 = .ok (.iconst 0, 1) := by decide +kernel
theorem dX5_keep_16 : decode cX5_keep 16 = .ok (.aload_n 0, 1) := by decide +kernel
theorem dX5_keep_17 : decode cX5_keep 17 = .ok (.getfield 25, 3) := by decide +kernel
theorem dX5_keep_20 : decode cX5_keep 20 = .ok (.aload_n 0, 1) := by decide +kernel
theorem dX5_keep_21 : decode cX5_keep 21 = .ok (.getfield 39, 3) := by decide +kernel
theorem dX5_keep_24 : decode cX5_keep 24 = .ok (.aaload, 1) := by decide +kernel
theorem dX5_keep_25 : decode cX5_keep 25 = .ok (.iconst 0, 1) := by decide +kernel
theorem dX5_keep_26 : decode cX5_keep 26 = .ok (.bipush 28, 2) := by decide +kernel
theorem dX5_keep_28 : decode cX5_keep 28 = .ok (.invokestatic 66, 3) := by decide +kernel
theorem dX5_keep_31 : decode cX5_keep 31 = .ok (.aload_n 0, 1) := by decide +kernel
theorem dX5_keep_32 : decode cX5_keep 32 = .ok (.getfield 15, 3) := by decide +kernel
theorem dX5_keep_35 : decode cX5_keep 35 = .ok (.iconst 0, 1) := by decide +kernel
theorem dX5_keep_36 : decode cX5_keep 36 = .ok (.aload_n 0, 1) := by decide +kernel
theorem dX5_keep_37 : decode cX5_keep 37 = .ok (.getfield 30, 3) := by decide +kernel
theorem dX5_keep_40 : decode cX5_keep 40 = .ok (.aload_n 0, 1) := by decide +kernel
theorem dX5_keep_41 : decode cX5_keep 41 = .ok (.getfield 39, 3) := by decide +kernel
theorem dX5_keep_44 : decode cX5_keep 44 = .ok (.aaload, 1) := by decide +kernel
theorem dX5_keep_45 : decode cX5_keep 45 = .ok (.iconst 0, 1) := by decide +kernel
theorem dX5_keep_46 : decode cX5_keep 46 = .ok (.bipush 28, 2) := by decide +kernel
theorem dX5_keep_48 : decode cX5_keep 48 = .ok (.invokestatic 66, 3) := by decide +kernel
theorem dX5_keep_51 : decode cX5_keep 51 = .ok (.aload_n 0, 1) := by decide +kernel
theorem dX5_keep_52 : decode cX5_keep 52 = .ok (.getfield 33, 3) := by decide +kernel
theorem dX5_keep_55 : decode cX5_keep 55 = .ok (.aload_n 0, 1) := by decide +kernel
theorem dX5_keep_56 : decode cX5_keep 56 = .ok (.getfield 39, 3) := by decide +kernel
theorem dX5_keep_59 : decode cX5_keep 59 = .ok (.aload_n 0, 1) := by decide +kernel
theorem dX5_keep_60 : decode cX5_keep 60 = .ok (.getfield 19, 3) := by decide +kernel
theorem dX5_keep_63 : decode cX5_keep 63 = .ok (.iastore, 1) := by decide +kernel
theorem dX5_keep_64 : decode cX5_keep 64 = .ok (.aload_n 0, 1) := by decide +kernel
theorem dX5_keep_65 : decode cX5_keep 65 = .ok (.aload_n 0, 1) := by decide +kernel
theorem dX5_keep_66 : decode cX5_keep 66 = .ok (.getfield 39, 3) := by decide +kernel
theorem dX5_keep_69 : decode cX5_keep 69 = .ok (.iconst 1, 1) := by decide +kernel
theorem dX5_keep_70 : decode cX5_keep 70 = .ok (.iadd, 1) := by decide +kernel
theorem dX5_keep_71 : decode cX5_keep 71 = .ok (.bipush 20, 2) := by decide +kernel
theorem dX5_keep_73 : decode cX5_keep 73 = .ok (.if_icmp .ge 12, 3) := by decide +kernel
theorem dX5_keep_76 : decode cX5_keep 76 = .ok (.aload_n 0, 1) := by decide +kernel
theorem dX5_keep_77 : decode cX5_keep 77 = .ok (.getfield 39, 3) := by decide +kernel
theorem dX5_keep_80 : decode cX5_keep 80 = .ok (.iconst 1, 1) := by decide +kernel
theorem dX5_keep_81 : decode cX5_keep 81 = .ok (.iadd, 1) := by decide +kernel
theorem dX5_keep_82 : decode cX5_keep 82 = .ok (.goto 4, 3) := by decide +kernel
theorem dX5_keep_85 : decode cX5_keep 85 = .ok (.iconst 0, 1) := by decide +kernel
theorem dX5_keep_86 : decode cX5_keep 86 = .ok (.putfield 39, 3) := by decide +kernel
theorem dX5_keep_89 : decode cX5_keep 89 = .ok (.aload_n 0, 1) := by decide +kernel
theorem dX5_keep_90 : decode cX5_keep 90 = .ok (.aload_n 0, 1) := by decide +kernel
theorem dX5_keep_91 : decode cX5_keep 91 = .ok (.getfield 36, 3) := by decide +kernel
theorem dX5_keep_94 : decode cX5_keep 94 = .ok (.iconst 1, 1) := by decide +kernel
theorem dX5_keep_95 : decode cX5_keep 95 = .ok (.iadd, 1) := by decide +kernel
theorem dX5_keep_96 : decode cX5_keep 96 = .ok (.bipush 20, 2) := by decide +kernel
theorem dX5_keep_98 : decode cX5_keep 98 = .ok (.invokestatic 72, 3) := by decide +kernel
theorem dX5_keep_101 : decode cX5_keep 101 = .ok (.putfield 36, 3) := by decide +kernel
theorem dX5_keep_104 : decode cX5_keep 104 = .ok (.return_, 1) := by decide +kernel
set_option maxRecDepth 20000 in
theorem ggX5_takeBack_X5_isRow : GoodIn wsX5_takeBack wsX5_isRow := goodIn_r _ [16] (by decide +kernel) (by decide +kernel)
set_option maxRecDepth 20000 in
theorem gX5_takeBack_X5_isRow : GoodIn wsX5_takeBack (va_wsS RX5 63 yX5_isRow wsX5_isRow) := goodIn_app (goodIn_of _ (by decide +kernel)) ggX5_takeBack_X5_isRow
theorem dX5_takeBack_0 : decode cX5_takeBack 0 = .ok (.aload_n 0, 1) := by decide +kernel
theorem dX5_takeBack_1 : decode cX5_takeBack 1 = .ok (.getfield 39, 3) := by decide +kernel
theorem dX5_takeBack_4 : decode cX5_takeBack 4 = .ok (.ifCond .le 12, 3) := by decide +kernel
theorem dX5_takeBack_7 : decode cX5_takeBack 7 = .ok (.aload_n 0, 1) := by decide +kernel
theorem dX5_takeBack_8 : decode cX5_takeBack 8 = .ok (.getfield 39, 3) := by decide +kernel
theorem dX5_takeBack_11 : decode cX5_takeBack 11 = .ok (.iconst 1, 1) := by decide +kernel
theorem dX5_takeBack_12 : decode cX5_takeBack 12 = .ok (.isub, 1) := by decide +kernel
theorem dX5_takeBack_13 : decode cX5_takeBack 13 = .ok (.goto 5, 3) := by decide +kernel
theorem dX5_takeBack_16 : decode cX5_takeBack 16 = .ok (.bipush 19, 2) := by decide +kernel
theorem dX5_takeBack_18 : decode cX5_takeBack 18 = .ok (.istore_n 1, 1) := by decide +kernel
theorem dX5_takeBack_19 : decode cX5_takeBack 19 = .ok (.aload_n 0, 1) := by decide +kernel
theorem dX5_takeBack_20 : decode cX5_takeBack 20 = .ok (.getfield 36, 3) := by decide +kernel
theorem dX5_takeBack_23 : decode cX5_takeBack 23 = .ok (.ifCond .le 10, 3) := by decide +kernel
theorem dX5_takeBack_26 : decode cX5_takeBack 26 = .ok (.iload_n 1, 1) := by decide +kernel
theorem dX5_takeBack_27 : decode cX5_takeBack 27 = .ok (.invokestatic 63, 3) := by decide +kernel
theorem dX5_takeBack_30 : decode cX5_takeBack 30 = .ok (.ifCond .ne 4, 3) := by decide +kernel
theorem dX5_takeBack_33 : decode cX5_takeBack 33 = .ok (.return_, 1) := by decide +kernel
theorem dX5_takeBack_34 : decode cX5_takeBack 34 = .ok (.aload_n 0, 1) := by decide +kernel
theorem dX5_takeBack_35 : decode cX5_takeBack 35 = .ok (.getfield 25, 3) := by decide +kernel
theorem dX5_takeBack_38 : decode cX5_takeBack 38 = .ok (.iload_n 1, 1) := by decide +kernel
theorem dX5_takeBack_39 : decode cX5_takeBack 39 = .ok (.aaload, 1) := by decide +kernel
theorem dX5_takeBack_40 : decode cX5_takeBack 40 = .ok (.iconst 0, 1) := by decide +kernel
theorem dX5_takeBack_41 : decode cX5_takeBack 41 = .ok (.aload_n 0, 1) := by decide +kernel
theorem dX5_takeBack_42 : decode cX5_takeBack 42 = .ok (.getfield 9, 3) := by decide +kernel
theorem dX5_takeBack_45 : decode cX5_takeBack 45 = .ok (.iconst 0, 1) := by decide +kernel
theorem dX5_takeBack_46 : decode cX5_takeBack 46 = .ok (.bipush 28, 2) := by decide +kernel
theorem dX5_takeBack_48 : decode cX5_takeBack 48 = .ok (.invokestatic 66, 3) := by decide +kernel
theorem dX5_takeBack_51 : decode cX5_takeBack 51 = .ok (.aload_n 0, 1) := by decide +kernel
theorem dX5_takeBack_52 : decode cX5_takeBack 52 = .ok (.getfield 30, 3) := by decide +kernel
theorem dX5_takeBack_55 : decode cX5_takeBack 55 = .ok (.iload_n 1, 1) := by decide +kernel
theorem dX5_takeBack_56 : decode cX5_takeBack 56 = .ok (.aaload, 1) := by decide +kernel
theorem dX5_takeBack_57 : decode cX5_takeBack 57 = .ok (.iconst 0, 1) := by decide +kernel
theorem dX5_takeBack_58 : decode cX5_takeBack 58 = .ok (.aload_n 0, 1) := by decide +kernel
theorem dX5_takeBack_59 : decode cX5_takeBack 59 = .ok (.getfield 15, 3) := by decide +kernel
theorem dX5_takeBack_62 : decode cX5_takeBack 62 = .ok (.iconst 0, 1) := by decide +kernel
theorem dX5_takeBack_63 : decode cX5_takeBack 63 = .ok (.bipush 28, 2) := by decide +kernel
theorem dX5_takeBack_65 : decode cX5_takeBack 65 = .ok (.invokestatic 66, 3) := by decide +kernel
theorem dX5_takeBack_68 : decode cX5_takeBack 68 = .ok (.aload_n 0, 1) := by decide +kernel
theorem dX5_takeBack_69 : decode cX5_takeBack 69 = .ok (.aload_n 0, 1) := by decide +kernel
theorem dX5_takeBack_70 : decode cX5_takeBack 70 = .ok (.getfield 33, 3) := by decide +kernel
theorem dX5_takeBack_73 : decode cX5_takeBack 73 = .ok (.iload_n 1, 1) := by decide +kernel
theorem dX5_takeBack_74 : decode cX5_takeBack 74 = .ok (.iaload, 1) := by decide +kernel
theorem dX5_takeBack_75 : decode cX5_takeBack 75 = .ok (.putfield 19, 3) := by decide +kernel
theorem dX5_takeBack_78 : decode cX5_takeBack 78 = .ok (.aload_n 0, 1) := by decide +kernel
theorem dX5_takeBack_79 : decode cX5_takeBack 79 = .ok (.iload_n 1, 1) := by decide +kernel
theorem dX5_takeBack_80 : decode cX5_takeBack 80 = .ok (.putfield 39, 3) := by decide +kernel
theorem dX5_takeBack_83 : decode cX5_takeBack 83 = .ok (.aload_n 0, 1) := by decide +kernel
theorem dX5_takeBack_84 : decode cX5_takeBack 84 = .ok (.dup, 1) := by decide +kernel
theorem dX5_takeBack_85 : decode cX5_takeBack 85 = .ok (.getfield 36, 3) := by decide +kernel
theorem dX5_takeBack_88 : decode cX5_takeBack 88 = .ok (.iconst 1, 1) := by decide +kernel
theorem dX5_takeBack_89 : decode cX5_takeBack 89 = .ok (.isub, 1) := by decide +kernel
theorem dX5_takeBack_90 : decode cX5_takeBack 90 = .ok (.putfield 36, 3) := by decide +kernel
theorem dX5_takeBack_93 : decode cX5_takeBack 93 = .ok (.return_, 1) := by decide +kernel
theorem dX5_isFeature_0 : decode cX5_isFeature 0 = .ok (.iload_n 0, 1) := by decide +kernel
theorem dX5_isFeature_1 : decode cX5_isFeature 1 = .ok (.ifCond .lt 13, 3) := by decide +kernel
theorem dX5_isFeature_4 : decode cX5_isFeature 4 = .ok (.iload_n 0, 1) := by decide +kernel
theorem dX5_isFeature_5 : decode cX5_isFeature 5 = .ok (.bipush 28, 2) := by decide +kernel
theorem dX5_isFeature_7 : decode cX5_isFeature 7 = .ok (.if_icmp .ge 7, 3) := by decide +kernel
theorem dX5_isFeature_10 : decode cX5_isFeature 10 = .ok (.iconst 1, 1) := by decide +kernel
theorem dX5_isFeature_11 : decode cX5_isFeature 11 = .ok (.goto 4, 3) := by decide +kernel
theorem dX5_isFeature_14 : decode cX5_isFeature 14 = .ok (.iconst 0, 1) := by decide +kernel
theorem dX5_isFeature_15 : decode cX5_isFeature 15 = .ok (.ireturn, 1) := by decide +kernel
theorem dX5_isRow_0 : decode cX5_isRow 0 = .ok (.iload_n 0, 1) := by decide +kernel
theorem dX5_isRow_1 : decode cX5_isRow 1 = .ok (.ifCond .lt 13, 3) := by decide +kernel
theorem dX5_isRow_4 : decode cX5_isRow 4 = .ok (.iload_n 0, 1) := by decide +kernel
theorem dX5_isRow_5 : decode cX5_isRow 5 = .ok (.bipush 20, 2) := by decide +kernel
theorem dX5_isRow_7 : decode cX5_isRow 7 = .ok (.if_icmp .ge 7, 3) := by decide +kernel
theorem dX5_isRow_10 : decode cX5_isRow 10 = .ok (.iconst 1, 1) := by decide +kernel
theorem dX5_isRow_11 : decode cX5_isRow 11 = .ok (.goto 4, 3) := by decide +kernel
theorem dX5_isRow_14 : decode cX5_isRow 14 = .ok (.iconst 0, 1) := by decide +kernel
theorem dX5_isRow_15 : decode cX5_isRow 15 = .ok (.ireturn, 1) := by decide +kernel
theorem dJ9_floorMod_f86c9_0 : decode cJ9_floorMod_f86c9 0 = .ok (.lload_n 0, 1) := by decide +kernel
theorem dJ9_floorMod_f86c9_1 : decode cJ9_floorMod_f86c9 1 = .ok (.lload_n 2, 1) := by decide +kernel
theorem dJ9_floorMod_f86c9_2 : decode cJ9_floorMod_f86c9 2 = .ok (.lrem, 1) := by decide +kernel
theorem dJ9_floorMod_f86c9_3 : decode cJ9_floorMod_f86c9 3 = .ok (.lstore 4, 2) := by decide +kernel
theorem dJ9_floorMod_f86c9_5 : decode cJ9_floorMod_f86c9 5 = .ok (.lload_n 0, 1) := by decide +kernel
theorem dJ9_floorMod_f86c9_6 : decode cJ9_floorMod_f86c9 6 = .ok (.lload_n 2, 1) := by decide +kernel
theorem dJ9_floorMod_f86c9_7 : decode cJ9_floorMod_f86c9 7 = .ok (.lxor, 1) := by decide +kernel
theorem dJ9_floorMod_f86c9_8 : decode cJ9_floorMod_f86c9 8 = .ok (.lconst 0, 1) := by decide +kernel
theorem dJ9_floorMod_f86c9_9 : decode cJ9_floorMod_f86c9 9 = .ok (.lcmp, 1) := by decide +kernel
theorem dJ9_floorMod_f86c9_10 : decode cJ9_floorMod_f86c9 10 = .ok (.ifCond .ge 15, 3) := by decide +kernel
theorem dJ9_floorMod_f86c9_13 : decode cJ9_floorMod_f86c9 13 = .ok (.lload 4, 2) := by decide +kernel
theorem dJ9_floorMod_f86c9_15 : decode cJ9_floorMod_f86c9 15 = .ok (.lconst 0, 1) := by decide +kernel
theorem dJ9_floorMod_f86c9_16 : decode cJ9_floorMod_f86c9 16 = .ok (.lcmp, 1) := by decide +kernel
theorem dJ9_floorMod_f86c9_17 : decode cJ9_floorMod_f86c9 17 = .ok (.ifCond .eq 8, 3) := by decide +kernel
theorem dJ9_floorMod_f86c9_20 : decode cJ9_floorMod_f86c9 20 = .ok (.lload 4, 2) := by decide +kernel
theorem dJ9_floorMod_f86c9_22 : decode cJ9_floorMod_f86c9 22 = .ok (.lload_n 2, 1) := by decide +kernel
theorem dJ9_floorMod_f86c9_23 : decode cJ9_floorMod_f86c9 23 = .ok (.ladd, 1) := by decide +kernel
theorem dJ9_floorMod_f86c9_24 : decode cJ9_floorMod_f86c9 24 = .ok (.lreturn, 1) := by decide +kernel
theorem dJ9_floorMod_f86c9_25 : decode cJ9_floorMod_f86c9 25 = .ok (.lload 4, 2) := by decide +kernel
theorem dJ9_floorMod_f86c9_27 : decode cJ9_floorMod_f86c9 27 = .ok (.lreturn, 1) := by decide +kernel
theorem dJ9_abs_0f7a4_0 : decode cJ9_abs_0f7a4 0 = .ok (.iload_n 0, 1) := by decide +kernel
theorem dJ9_abs_0f7a4_1 : decode cJ9_abs_0f7a4 1 = .ok (.ifCond .ge 8, 3) := by decide +kernel
theorem dJ9_abs_0f7a4_4 : decode cJ9_abs_0f7a4 4 = .ok (.iload_n 0, 1) := by decide +kernel
theorem dJ9_abs_0f7a4_5 : decode cJ9_abs_0f7a4 5 = .ok (.ineg, 1) := by decide +kernel
theorem dJ9_abs_0f7a4_6 : decode cJ9_abs_0f7a4 6 = .ok (.goto 4, 3) := by decide +kernel
theorem dJ9_abs_0f7a4_9 : decode cJ9_abs_0f7a4 9 = .ok (.iload_n 0, 1) := by decide +kernel
theorem dJ9_abs_0f7a4_10 : decode cJ9_abs_0f7a4 10 = .ok (.ireturn, 1) := by decide +kernel
theorem dJ9_max_7cf53_0 : decode cJ9_max_7cf53 0 = .ok (.iload_n 0, 1) := by decide +kernel
theorem dJ9_max_7cf53_1 : decode cJ9_max_7cf53 1 = .ok (.iload_n 1, 1) := by decide +kernel
theorem dJ9_max_7cf53_2 : decode cJ9_max_7cf53 2 = .ok (.if_icmp .lt 7, 3) := by decide +kernel
theorem dJ9_max_7cf53_5 : decode cJ9_max_7cf53 5 = .ok (.iload_n 0, 1) := by decide +kernel
theorem dJ9_max_7cf53_6 : decode cJ9_max_7cf53 6 = .ok (.goto 4, 3) := by decide +kernel
theorem dJ9_max_7cf53_9 : decode cJ9_max_7cf53 9 = .ok (.iload_n 1, 1) := by decide +kernel
theorem dJ9_max_7cf53_10 : decode cJ9_max_7cf53 10 = .ok (.ireturn, 1) := by decide +kernel
theorem dJ9_max_f86c9_0 : decode cJ9_max_f86c9 0 = .ok (.lload_n 0, 1) := by decide +kernel
theorem dJ9_max_f86c9_1 : decode cJ9_max_f86c9 1 = .ok (.lload_n 2, 1) := by decide +kernel
theorem dJ9_max_f86c9_2 : decode cJ9_max_f86c9 2 = .ok (.lcmp, 1) := by decide +kernel
theorem dJ9_max_f86c9_3 : decode cJ9_max_f86c9 3 = .ok (.ifCond .lt 7, 3) := by decide +kernel
theorem dJ9_max_f86c9_6 : decode cJ9_max_f86c9 6 = .ok (.lload_n 0, 1) := by decide +kernel
theorem dJ9_max_f86c9_7 : decode cJ9_max_f86c9 7 = .ok (.goto 4, 3) := by decide +kernel
theorem dJ9_max_f86c9_10 : decode cJ9_max_f86c9 10 = .ok (.lload_n 2, 1) := by decide +kernel
theorem dJ9_max_f86c9_11 : decode cJ9_max_f86c9 11 = .ok (.lreturn, 1) := by decide +kernel
theorem dJ9_min_7cf53_0 : decode cJ9_min_7cf53 0 = .ok (.iload_n 0, 1) := by decide +kernel
theorem dJ9_min_7cf53_1 : decode cJ9_min_7cf53 1 = .ok (.iload_n 1, 1) := by decide +kernel
theorem dJ9_min_7cf53_2 : decode cJ9_min_7cf53 2 = .ok (.if_icmp .gt 7, 3) := by decide +kernel
theorem dJ9_min_7cf53_5 : decode cJ9_min_7cf53 5 = .ok (.iload_n 0, 1) := by decide +kernel
theorem dJ9_min_7cf53_6 : decode cJ9_min_7cf53 6 = .ok (.goto 4, 3) := by decide +kernel
theorem dJ9_min_7cf53_9 : decode cJ9_min_7cf53 9 = .ok (.iload_n 1, 1) := by decide +kernel
theorem dJ9_min_7cf53_10 : decode cJ9_min_7cf53 10 = .ok (.ireturn, 1) := by decide +kernel
theorem dJ9_min_f86c9_0 : decode cJ9_min_f86c9 0 = .ok (.lload_n 0, 1) := by decide +kernel
theorem dJ9_min_f86c9_1 : decode cJ9_min_f86c9 1 = .ok (.lload_n 2, 1) := by decide +kernel
theorem dJ9_min_f86c9_2 : decode cJ9_min_f86c9 2 = .ok (.lcmp, 1) := by decide +kernel
theorem dJ9_min_f86c9_3 : decode cJ9_min_f86c9 3 = .ok (.ifCond .gt 7, 3) := by decide +kernel
theorem dJ9_min_f86c9_6 : decode cJ9_min_f86c9 6 = .ok (.lload_n 0, 1) := by decide +kernel
theorem dJ9_min_f86c9_7 : decode cJ9_min_f86c9 7 = .ok (.goto 4, 3) := by decide +kernel
theorem dJ9_min_f86c9_10 : decode cJ9_min_f86c9 10 = .ok (.lload_n 2, 1) := by decide +kernel
theorem dJ9_min_f86c9_11 : decode cJ9_min_f86c9 11 = .ok (.lreturn, 1) := by decide +kernel
theorem dJ7_fill_d0a16_0 : decode cJ7_fill_d0a16 0 = .ok (.iconst 0, 1) := by decide +kernel
theorem dJ7_fill_d0a16_1 : decode cJ7_fill_d0a16 1 = .ok (.istore_n 3, 1) := by decide +kernel
theorem dJ7_fill_d0a16_2 : decode cJ7_fill_d0a16 2 = .ok (.aload_n 0, 1) := by decide +kernel
theorem dJ7_fill_d0a16_3 : decode cJ7_fill_d0a16 3 = .ok (.arraylength, 1) := by decide +kernel
theorem dJ7_fill_d0a16_4 : decode cJ7_fill_d0a16 4 = .ok (.istore 4, 2) := by decide +kernel
theorem dJ7_fill_d0a16_6 : decode cJ7_fill_d0a16 6 = .ok (.iload_n 3, 1) := by decide +kernel
theorem dJ7_fill_d0a16_7 : decode cJ7_fill_d0a16 7 = .ok (.iload 4, 2) := by decide +kernel
theorem dJ7_fill_d0a16_9 : decode cJ7_fill_d0a16 9 = .ok (.if_icmp .ge 13, 3) := by decide +kernel
theorem dJ7_fill_d0a16_12 : decode cJ7_fill_d0a16 12 = .ok (.aload_n 0, 1) := by decide +kernel
theorem dJ7_fill_d0a16_13 : decode cJ7_fill_d0a16 13 = .ok (.iload_n 3, 1) := by decide +kernel
theorem dJ7_fill_d0a16_14 : decode cJ7_fill_d0a16 14 = .ok (.lload_n 1, 1) := by decide +kernel
theorem dJ7_fill_d0a16_15 : decode cJ7_fill_d0a16 15 = .ok (.lastore, 1) := by decide +kernel
theorem dJ7_fill_d0a16_16 : decode cJ7_fill_d0a16 16 = .ok (.iinc 3 1, 3) := by decide +kernel
theorem dJ7_fill_d0a16_19 : decode cJ7_fill_d0a16 19 = .ok (.goto (-13), 3) := by decide +kernel
theorem dJ7_fill_d0a16_22 : decode cJ7_fill_d0a16 22 = .ok (.return_, 1) := by decide +kernel
theorem dJ7_fill_53178_0 : decode cJ7_fill_53178 0 = .ok (.iconst 0, 1) := by decide +kernel
theorem dJ7_fill_53178_1 : decode cJ7_fill_53178 1 = .ok (.istore_n 2, 1) := by decide +kernel
theorem dJ7_fill_53178_2 : decode cJ7_fill_53178 2 = .ok (.aload_n 0, 1) := by decide +kernel
theorem dJ7_fill_53178_3 : decode cJ7_fill_53178 3 = .ok (.arraylength, 1) := by decide +kernel
theorem dJ7_fill_53178_4 : decode cJ7_fill_53178 4 = .ok (.istore_n 3, 1) := by decide +kernel
theorem dJ7_fill_53178_5 : decode cJ7_fill_53178 5 = .ok (.iload_n 2, 1) := by decide +kernel
theorem dJ7_fill_53178_6 : decode cJ7_fill_53178 6 = .ok (.iload_n 3, 1) := by decide +kernel
theorem dJ7_fill_53178_7 : decode cJ7_fill_53178 7 = .ok (.if_icmp .ge 13, 3) := by decide +kernel
theorem dJ7_fill_53178_10 : decode cJ7_fill_53178 10 = .ok (.aload_n 0, 1) := by decide +kernel
theorem dJ7_fill_53178_11 : decode cJ7_fill_53178 11 = .ok (.iload_n 2, 1) := by decide +kernel
theorem dJ7_fill_53178_12 : decode cJ7_fill_53178 12 = .ok (.iload_n 1, 1) := by decide +kernel
theorem dJ7_fill_53178_13 : decode cJ7_fill_53178 13 = .ok (.iastore, 1) := by decide +kernel
theorem dJ7_fill_53178_14 : decode cJ7_fill_53178 14 = .ok (.iinc 2 1, 3) := by decide +kernel
theorem dJ7_fill_53178_17 : decode cJ7_fill_53178 17 = .ok (.goto (-12), 3) := by decide +kernel
theorem dJ7_fill_53178_20 : decode cJ7_fill_53178 20 = .ok (.return_, 1) := by decide +kernel
end
section
set_option maxRecDepth 20000 in
theorem ggX6_init_X5_init : GoodIn wsX6_init wsX5_init := goodIn_r _ [28, 29, 2, 3, 30, 31, 32, 33, 34, 35, 36, 37, 38, 39, 40, 41, 78, 79, 80, 81, 82, 83, 84, 85] (by decide +kernel) (by decide +kernel)
set_option maxRecDepth 20000 in
theorem gX6_init_X5_init_n21 : GoodIn wsX6_init (wsX5_init) := ggX6_init_X5_init
set_option maxRecDepth 20000 in
theorem ggX6_init_X0_init : GoodIn wsX6_init wsX0_init := goodIn_r _ [43, 44, 2, 3, 45, 32, 46, 47, 86, 87] (by decide +kernel) (by decide +kernel)
set_option maxRecDepth 20000 in
theorem gX6_init_X0_init_n28 : GoodIn wsX6_init (wsX0_init) := ggX6_init_X0_init
set_option maxRecDepth 20000 in
theorem ggX6_init_X3_init : GoodIn wsX6_init wsX3_init := goodIn_r _ [49, 50, 2, 3, 51, 32, 52, 53, 54, 55, 88, 89, 90, 91] (by decide +kernel) (by decide +kernel)
set_option maxRecDepth 20000 in
theorem gX6_init_X3_init_n35 : GoodIn wsX6_init (wsX3_init) := ggX6_init_X3_init
set_option maxRecDepth 20000 in
theorem ggX6_init_X1_init : GoodIn wsX6_init wsX1_init := goodIn_r _ [57, 58, 2, 3, 59, 32, 60, 61, 30, 62, 63, 64, 92, 93, 94, 95, 96] (by decide +kernel) (by decide +kernel)
set_option maxRecDepth 20000 in
theorem gX6_init_X1_init_n42 : GoodIn wsX6_init (wsX1_init) := ggX6_init_X1_init
set_option maxRecDepth 20000 in
theorem ggX6_init_X4_init : GoodIn wsX6_init wsX4_init := goodIn_r _ [66, 67, 2, 3, 32, 68, 30, 69, 70, 97, 98, 99] (by decide +kernel) (by decide +kernel)
set_option maxRecDepth 20000 in
theorem gX6_init_X4_init_n49 : GoodIn wsX6_init (wsX4_init) := ggX6_init_X4_init
theorem dX6_init_0 : decode cX6_init 0 = .ok (.aload_n 0, 1) := by decide +kernel
theorem dX6_init_1 : decode cX6_init 1 = .ok (.invokespecial 3, 3) := by decide +kernel
theorem dX6_init_4 : decode cX6_init 4 = .ok (.aload_n 0, 1) := by decide +kernel
theorem dX6_init_5 : decode cX6_init 5 = .ok (.iconst 5, 1) := by decide +kernel
theorem dX6_init_6 : decode cX6_init 6 = .ok (.anewarray 9, 3) := by decide +kernel
theorem dX6_init_9 : decode cX6_init 9 = .ok (.putfield 11, 3) := by decide +kernel
theorem dX6_init_12 : decode cX6_init 12 = .ok (.aload_n 0, 1) := by decide +kernel
theorem dX6_init_13 : decode cX6_init 13 = .ok (.iconst 0, 1) := by decide +kernel
theorem dX6_init_14 : decode cX6_init 14 = .ok (.putfield 15, 3) := by decide +kernel
theorem dX6_init_17 : decode cX6_init 17 = .ok (.aload_n 0, 1) := by decide +kernel
theorem dX6_init_18 : decode cX6_init 18 = .ok (.new 19, 3) := by decide +kernel
theorem dX6_init_21 : decode cX6_init 21 = .ok (.dup, 1) := by decide +kernel
theorem dX6_init_22 : decode cX6_init 22 = .ok (.invokespecial 21, 3) := by decide +kernel
theorem dX6_init_25 : decode cX6_init 25 = .ok (.putfield 22, 3) := by decide +kernel
theorem dX6_init_28 : decode cX6_init 28 = .ok (.aload_n 0, 1) := by decide +kernel
theorem dX6_init_29 : decode cX6_init 29 = .ok (.new 26, 3) := by decide +kernel
theorem dX6_init_32 : decode cX6_init 32 = .ok (.dup, 1) := by decide +kernel
theorem dX6_init_33 : decode cX6_init 33 = .ok (.invokespecial 28, 3) := by decide +kernel
theorem dX6_init_36 : decode cX6_init 36 = .ok (.putfield 29, 3) := by decide +kernel
theorem dX6_init_39 : decode cX6_init 39 = .ok (.aload_n 0, 1) := by decide +kernel
theorem dX6_init_40 : decode cX6_init 40 = .ok (.new 33, 3) := by decide +kernel
theorem dX6_init_43 : decode cX6_init 43 = .ok (.dup, 1) := by decide +kernel
theorem dX6_init_44 : decode cX6_init 44 = .ok (.invokespecial 35, 3) := by decide +kernel
theorem dX6_init_47 : decode cX6_init 47 = .ok (.putfield 36, 3) := by decide +kernel
theorem dX6_init_50 : decode cX6_init 50 = .ok (.aload_n 0, 1) := by decide +kernel
theorem dX6_init_51 : decode cX6_init 51 = .ok (.new 40, 3) := by decide +kernel
theorem dX6_init_54 : decode cX6_init 54 = .ok (.dup, 1) := by decide +kernel
theorem dX6_init_55 : decode cX6_init 55 = .ok (.invokespecial 42, 3) := by decide +kernel
theorem dX6_init_58 : decode cX6_init 58 = .ok (.putfield 43, 3) := by decide +kernel
theorem dX6_init_61 : decode cX6_init 61 = .ok (.aload_n 0, 1) := by decide +kernel
theorem dX6_init_62 : decode cX6_init 62 = .ok (.new 47, 3) := by decide +kernel
theorem dX6_init_65 : decode cX6_init 65 = .ok (.dup, 1) := by decide +kernel
theorem dX6_init_66 : decode cX6_init 66 = .ok (.invokespecial 49, 3) := by decide +kernel
theorem dX6_init_69 : decode cX6_init 69 = .ok (.putfield 50, 3) := by decide +kernel
theorem dX6_init_72 : decode cX6_init 72 = .ok (.return_, 1) := by decide +kernel
set_option maxRecDepth 20000 in
theorem ggX6_addSentence_X2_init : GoodIn wsX6_addSentence wsX2_init := goodIn_r _ [10, 11, 12, 13, 14, 15, 16, 17, 18, 19, 20, 21, 22, 23, 31, 32, 33, 34] (by decide +kernel) (by decide +kernel)
set_option maxRecDepth 20000 in
theorem gX6_addSentence_X2_init : GoodIn wsX6_addSentence (wsX2_init) := ggX6_addSentence_X2_init
theorem dX6_addSentence_0 : decode cX6_addSentence 0 = .ok (.aload_n 0, 1) := by decide +kernel
theorem dX6_addSentence_1 : decode cX6_addSentence 1 = .ok (.getfield 15, 3) := by decide +kernel
theorem dX6_addSentence_4 : decode cX6_addSentence 4 = .ok (.ifCond .lt 15, 3) := by decide +kernel
theorem dX6_addSentence_7 : decode cX6_addSentence 7 = .ok (.aload_n 0, 1) := by decide +kernel
theorem dX6_addSentence_8 : decode cX6_addSentence 8 = .ok (.getfield 15, 3) := by decide +kernel
theorem dX6_addSentence_11 : decode cX6_addSentence 11 = .ok (.aload_n 0, 1) := by decide +kernel
theorem dX6_addSentence_12 : decode cX6_addSentence 12 = .ok (.getfield 11, 3) := by decide +kernel
theorem dX6_addSentence_15 : decode cX6_addSentence 15 = .ok (.arraylength, 1) := by decide +kernel
theorem dX6_addSentence_16 : decode cX6_addSentence 16 = .ok (.if_icmp .lt 13, 3) := by decide +kernel
theorem dX6_addSentence_19 : decode cX6_addSentence 19 = .ok (.new 54, 3) := by decide +kernel
theorem dX6_addSentence_22 : decode cX6_addSentence 22 = .ok (.dup, 1) := by decide +kernel
theorem dX6_addSentence_23 : decode cX6_addSentence 23 = .ok (.ldc 56, 2) := by decide +kernel
theorem dX6_addSentence_25 : decode cX6_addSentence 25 = .ok (.invokespecial 58, 3) := by decide +kernel
theorem dX6_addSentence_28 : decode cX6_addSentence 28 = .ok (.athrow, 1) := by decide +kernel
theorem dX6_addSentence_29 : decode cX6_addSentence 29 = .ok (.aload_n 0, 1) := by decide +kernel
theorem dX6_addSentence_30 : decode cX6_addSentence 30 = .ok (.getfield 11, 3) := by decide +kernel
theorem dX6_addSentence_33 : decode cX6_addSentence 33 = .ok (.aload_n 0, 1) := by decide +kernel
theorem dX6_addSentence_34 : decode cX6_addSentence 34 = .ok (.getfield 15, 3) := by decide +kernel
theorem dX6_addSentence_37 : decode cX6_addSentence 37 = .ok (.new 9, 3) := by decide +kernel
theorem dX6_addSentence_40 : decode cX6_addSentence 40 = .ok (.dup, 1) := by decide +kernel
theorem dX6_addSentence_41 : decode cX6_addSentence 41 = .ok (.invokespecial 61, 3) := by decide +kernel
theorem dX6_addSentence_44 : decode cX6_addSentence 44 = .ok (.aastore, 1) := by decide +kernel
theorem dX6_addSentence_45 : decode cX6_addSentence 45 = .ok (.aload_n 0, 1) := by decide +kernel
theorem dX6_addSentence_46 : decode cX6_addSentence 46 = .ok (.dup, 1) := by decide +kernel
theorem dX6_addSentence_47 : decode cX6_addSentence 47 = .ok (.getfield 15, 3) := by decide +kernel
theorem dX6_addSentence_50 : decode cX6_addSentence 50 = .ok (.iconst 1, 1) := by decide +kernel
theorem dX6_addSentence_51 : decode cX6_addSentence 51 = .ok (.iadd, 1) := by decide +kernel
theorem dX6_addSentence_52 : decode cX6_addSentence 52 = .ok (.putfield 15, 3) := by decide +kernel
theorem dX6_addSentence_55 : decode cX6_addSentence 55 = .ok (.aload_n 0, 1) := by decide +kernel
theorem dX6_addSentence_56 : decode cX6_addSentence 56 = .ok (.getfield 15, 3) := by decide +kernel
theorem dX6_addSentence_59 : decode cX6_addSentence 59 = .ok (.iconst 1, 1) := by decide +kernel
theorem dX6_addSentence_60 : decode cX6_addSentence 60 = .ok (.isub, 1) := by decide +kernel
theorem dX6_addSentence_61 : decode cX6_addSentence 61 = .ok (.ireturn, 1) := by decide +kernel
set_option maxRecDepth 20000 in
theorem ggX6_addWord_X6_find : GoodIn wsX6_addWord wsX6_find := goodIn_ca (goodIn_r _ [9, 10, 11, 12, 24, 25, 26, 27, 28, 29, 30] (by decide +kernel) (by decide +kernel)) (goodIn_sub (fun _ h => List.mem_cons_of_mem _ (List.mem_append_right _ h)) (by decide +kernel))
set_option maxRecDepth 20000 in
theorem gX6_addWord_X6_find : GoodIn wsX6_addWord (wsV RX6 62 RX6 yX6_find wsX6_find) := goodIn_app (goodIn_of _ (by decide +kernel)) ggX6_addWord_X6_find
set_option maxRecDepth 20000 in
theorem ggX6_addWord_X2_size : GoodIn wsX6_addWord wsX2_size := goodIn_r _ [17, 18, 31, 32, 33, 34] (by decide +kernel) (by decide +kernel)
set_option maxRecDepth 20000 in
theorem gX6_addWord_X2_size : GoodIn wsX6_addWord (wsV RX6 71 RX2 yX2_size wsX2_size) := goodIn_app (goodIn_of _ (by decide +kernel)) ggX6_addWord_X2_size
set_option maxRecDepth 20000 in
theorem ggX6_addWord_X2_append : GoodIn wsX6_addWord wsX2_append := goodIn_r _ [22, 18, 23, 31, 32, 33, 34] (by decide +kernel) (by decide +kernel)
set_option maxRecDepth 20000 in
theorem gX6_addWord_X2_append : GoodIn wsX6_addWord (wsV RX6 77 RX2 yX2_append wsX2_append) := goodIn_app (goodIn_of _ (by decide +kernel)) ggX6_addWord_X2_append
theorem dX6_addWord_0 : decode cX6_addWord 0 = .ok (.aload_n 0, 1) := by decide +kernel
theorem dX6_addWord_1 : decode cX6_addWord 1 = .ok (.iload_n 1, 1) := by decide +kernel
theorem dX6_addWord_2 : decode cX6_addWord 2 = .ok (.invokevirtual 62, 3) := by decide +kernel
theorem dX6_addWord_5 : decode cX6_addWord 5 = .ok (.astore_n 3, 1) := by decide +kernel
theorem dX6_addWord_6 : decode cX6_addWord 6 = .ok (.iload_n 2, 1) := by decide +kernel
theorem dX6_addWord_7 : decode cX6_addWord 7 = .ok (.ifCond .lt 8, 3) := by decide +kernel
theorem dX6_addWord_10 : decode cX6_addWord 10 = .ok (.iload_n 2, 1) := by decide +kernel
theorem dX6_addWord_11 : decode cX6_addWord 11 = .ok (.iconst 4, 1) := by decide +kernel
theorem dX6_addWord_12 : decode cX6_addWord 12 = .ok (.if_icmp .lt 13, 3) := by decide +kernel
theorem dX6_addWord_15 : decode cX6_addWord 15 = .ok (.new 66, 3) := by decide +kernel
theorem dX6_addWord_18 : decode cX6_addWord 18 = .ok (.dup, 1) := by decide +kernel
theorem dX6_addWord_19 : decode cX6_addWord 19 = .ok (.ldc 68, 2) := by decide +kernel
theorem dX6_addWord_21 : decode cX6_addWord 21 = .ok (.invokespecial 70, 3) := by decide +kernel
theorem dX6_addWord_24 : decode cX6_addWord 24 = .ok (.athrow, 1) := by decide +kernel
theorem dX6_addWord_25 : decode cX6_addWord 25 = .ok (.aload_n 3, 1) := by decide +kernel
theorem dX6_addWord_26 : decode cX6_addWord 26 = .ok (.invokevirtual 71, 3) := by decide +kernel
theorem dX6_addWord_29 : decode cX6_addWord 29 = .ok (.bipush 6, 2) := by decide +kernel
theorem dX6_addWord_31 : decode cX6_addWord 31 = .ok (.if_icmp .lt 13, 3) := by decide +kernel
theorem dX6_addWord_34 : decode cX6_addWord 34 = .ok (.new 54, 3) := by decide +kernel
theorem dX6_addWord_37 : decode cX6_addWord 37 = .ok (.dup, 1) := by decide +kernel
theorem dX6_addWord_38 : decode cX6_addWord 38 = .ok (.ldc 75, 2) := by decide +kernel
theorem dX6_addWord_40 : decode cX6_addWord 40 = .ok (.invokespecial 58, 3) := by decide +kernel
theorem dX6_addWord_43 : decode cX6_addWord 43 = .ok (.athrow, 1) := by decide +kernel
theorem dX6_addWord_44 : decode cX6_addWord 44 = .ok (.aload_n 3, 1) := by decide +kernel
theorem dX6_addWord_45 : decode cX6_addWord 45 = .ok (.iload_n 2, 1) := by decide +kernel
theorem dX6_addWord_46 : decode cX6_addWord 46 = .ok (.invokevirtual 77, 3) := by decide +kernel
theorem dX6_addWord_49 : decode cX6_addWord 49 = .ok (.aload_n 3, 1) := by decide +kernel
theorem dX6_addWord_50 : decode cX6_addWord 50 = .ok (.invokevirtual 71, 3) := by decide +kernel
theorem dX6_addWord_53 : decode cX6_addWord 53 = .ok (.ireturn, 1) := by decide +kernel
theorem dX6_sentences_0 : decode cX6_sentences 0 = .ok (.aload_n 0, 1) := by decide +kernel
theorem dX6_sentences_1 : decode cX6_sentences 1 = .ok (.getfield 15, 3) := by decide +kernel
theorem dX6_sentences_4 : decode cX6_sentences 4 = .ok (.ireturn, 1) := by decide +kernel
set_option maxRecDepth 20000 in
theorem ggX6_words_X6_find : GoodIn wsX6_words wsX6_find := goodIn_ca (goodIn_r _ [5, 6, 7, 8, 15, 16, 17, 18, 19, 20, 21] (by decide +kernel) (by decide +kernel)) (goodIn_sub (fun _ h => List.mem_cons_of_mem _ (List.mem_append_right _ h)) (by decide +kernel))
set_option maxRecDepth 20000 in
theorem gX6_words_X6_find : GoodIn wsX6_words (wsV RX6 62 RX6 yX6_find wsX6_find) := goodIn_app (goodIn_of _ (by decide +kernel)) ggX6_words_X6_find
set_option maxRecDepth 20000 in
theorem ggX6_words_X2_size : GoodIn wsX6_words wsX2_size := goodIn_r _ [13, 14, 22, 23, 24, 25] (by decide +kernel) (by decide +kernel)
set_option maxRecDepth 20000 in
theorem gX6_words_X2_size : GoodIn wsX6_words (wsV RX6 71 RX2 yX2_size wsX2_size) := goodIn_app (goodIn_of _ (by decide +kernel)) ggX6_words_X2_size
theorem dX6_words_0 : decode cX6_words 0 = .ok (.aload_n 0, 1) := by decide +kernel
theorem dX6_words_1 : decode cX6_words 1 = .ok (.iload_n 1, 1) := by decide +kernel
theorem dX6_words_2 : decode cX6_words 2 = .ok (.invokevirtual 62, 3) := by decide +kernel
theorem dX6_words_5 : decode cX6_words 5 = .ok (.invokevirtual 71, 3) := by decide +kernel
theorem dX6_words_8 : decode cX6_words 8 = .ok (.ireturn, 1) := by decide +kernel
set_option maxRecDepth 20000 in
theorem ggX6_kind_X6_find : GoodIn wsX6_kind wsX6_find := goodIn_ca (goodIn_r _ [5, 6, 7, 8, 25, 26, 27, 28, 29, 30, 31] (by decide +kernel) (by decide +kernel)) (goodIn_sub (fun _ h => List.mem_cons_of_mem _ (List.mem_append_right _ h)) (by decide +kernel))
set_option maxRecDepth 20000 in
theorem gX6_kind_X6_find : GoodIn wsX6_kind (wsV RX6 62 RX6 yX6_find wsX6_find) := goodIn_app (goodIn_of _ (by decide +kernel)) ggX6_kind_X6_find
set_option maxRecDepth 20000 in
theorem ggX6_kind_X6_checkWord : GoodIn wsX6_kind wsX6_checkWord := goodIn_ca (goodIn_r _ [11, 6, 7, 12, 13, 14, 15, 16, 17, 32, 33, 34, 35] (by decide +kernel) (by decide +kernel)) (goodIn_sub (fun _ h => List.mem_cons_of_mem _ (List.mem_append_right _ h)) (by decide +kernel))
set_option maxRecDepth 20000 in
theorem gX6_kind_X6_checkWord : GoodIn wsX6_kind (va_wsS RX6 81 yX6_checkWord wsX6_checkWord) := goodIn_app (goodIn_of _ (by decide +kernel)) ggX6_kind_X6_checkWord
set_option maxRecDepth 20000 in
theorem ggX6_kind_X2_kindAt : GoodIn wsX6_kind wsX2_kindAt := goodIn_r _ [21, 22, 23, 4, 24, 32, 33, 34, 35] (by decide +kernel) (by decide +kernel)
set_option maxRecDepth 20000 in
theorem gX6_kind_X2_kindAt : GoodIn wsX6_kind (wsV RX6 85 RX2 yX2_kindAt wsX2_kindAt) := goodIn_app (goodIn_of _ (by decide +kernel)) ggX6_kind_X2_kindAt
theorem dX6_kind_0 : decode cX6_kind 0 = .ok (.aload_n 0, 1) := by decide +kernel
theorem dX6_kind_1 : decode cX6_kind 1 = .ok (.iload_n 1, 1) := by decide +kernel
theorem dX6_kind_2 : decode cX6_kind 2 = .ok (.invokevirtual 62, 3) := by decide +kernel
theorem dX6_kind_5 : decode cX6_kind 5 = .ok (.astore_n 3, 1) := by decide +kernel
theorem dX6_kind_6 : decode cX6_kind 6 = .ok (.aload_n 3, 1) := by decide +kernel
theorem dX6_kind_7 : decode cX6_kind 7 = .ok (.iload_n 2, 1) := by decide +kernel
theorem dX6_kind_8 : decode cX6_kind 8 = .ok (.invokestatic 81, 3) := by decide +kernel
theorem dX6_kind_11 : decode cX6_kind 11 = .ok (.aload_n 3, 1) := by decide +kernel
theorem dX6_kind_12 : decode cX6_kind 12 = .ok (.iload_n 2, 1) := by decide +kernel
theorem dX6_kind_13 : decode cX6_kind 13 = .ok (.invokevirtual 85, 3) := by decide +kernel
theorem dX6_kind_16 : decode cX6_kind 16 = .ok (.ireturn, 1) := by decide +kernel
set_option maxRecDepth 20000 in
theorem ggX6_setWeight_X6_checkFeature : GoodIn wsX6_setWeight wsX6_checkFeature := goodIn_ca (goodIn_r _ [7, 8, 9] (by decide +kernel) (by decide +kernel)) (goodIn_sub (fun _ h => List.mem_cons_of_mem _ (List.mem_append_right _ h)) (by decide +kernel))
set_option maxRecDepth 20000 in
theorem gX6_setWeight_X6_checkFeature : GoodIn wsX6_setWeight (va_wsS RX6 89 yX6_checkFeature wsX6_checkFeature) := goodIn_app (goodIn_of _ (by decide +kernel)) ggX6_setWeight_X6_checkFeature
set_option maxRecDepth 20000 in
theorem ggX6_setWeight_X5_get : GoodIn wsX6_setWeight wsX5_get := goodIn_r _ [14, 15, 16, 17, 13, 18, 52, 53, 54, 55, 56, 57, 58, 59] (by decide +kernel) (by decide +kernel)
set_option maxRecDepth 20000 in
theorem gX6_setWeight_X5_get : GoodIn wsX6_setWeight (wsV RX6 94 RX5 yX5_get wsX5_get) := goodIn_app (goodIn_of _ (by decide +kernel)) ggX6_setWeight_X5_get
set_option maxRecDepth 20000 in
theorem ggX6_setWeight_X5_keep : GoodIn wsX6_setWeight wsX5_keep := goodIn_r _ [22, 23, 15, 24, 25, 26, 27, 28, 29, 30, 31, 32, 33, 34, 35, 36, 37, 38, 39, 13, 40, 52, 53, 54, 55, 56, 57, 58, 59] (by decide +kernel) (by decide +kernel)
set_option maxRecDepth 20000 in
theorem gX6_setWeight_X5_keep : GoodIn wsX6_setWeight (wsV RX6 97 RX5 yX5_keep wsX5_keep) := goodIn_app (goodIn_of _ (by decide +kernel)) ggX6_setWeight_X5_keep
set_option maxRecDepth 20000 in
theorem ggX6_setWeight_X5_put : GoodIn wsX6_setWeight wsX5_put := goodIn_r _ [44, 15, 16, 17, 13, 18, 52, 53, 54, 55, 56, 57, 58, 59] (by decide +kernel) (by decide +kernel)
set_option maxRecDepth 20000 in
theorem gX6_setWeight_X5_put : GoodIn wsX6_setWeight (wsV RX6 100 RX5 yX5_put wsX5_put) := goodIn_app (goodIn_of _ (by decide +kernel)) ggX6_setWeight_X5_put
theorem dX6_setWeight_0 : decode cX6_setWeight 0 = .ok (.iload_n 1, 1) := by decide +kernel
theorem dX6_setWeight_1 : decode cX6_setWeight 1 = .ok (.invokestatic 89, 3) := by decide +kernel
theorem dX6_setWeight_4 : decode cX6_setWeight 4 = .ok (.iload_n 2, 1) := by decide +kernel
theorem dX6_setWeight_5 : decode cX6_setWeight 5 = .ok (.bipush (-100), 2) := by decide +kernel
theorem dX6_setWeight_7 : decode cX6_setWeight 7 = .ok (.if_icmp .lt 9, 3) := by decide +kernel
theorem dX6_setWeight_10 : decode cX6_setWeight 10 = .ok (.iload_n 2, 1) := by decide +kernel
theorem dX6_setWeight_11 : decode cX6_setWeight 11 = .ok (.bipush 100, 2) := by decide +kernel
theorem dX6_setWeight_13 : decode cX6_setWeight 13 = .ok (.if_icmp .le 13, 3) := by decide +kernel
theorem dX6_setWeight_16 : decode cX6_setWeight 16 = .ok (.new 66, 3) := by decide +kernel
theorem dX6_setWeight_19 : decode cX6_setWeight 19 = .ok (.dup, 1) := by decide +kernel
theorem dX6_setWeight_20 : decode cX6_setWeight 20 = .ok (.ldc 92, 2) := by decide +kernel
theorem dX6_setWeight_22 : decode cX6_setWeight 22 = .ok (.invokespecial 70, 3) := by decide +kernel
theorem dX6_setWeight_25 : decode cX6_setWeight 25 = .ok (.athrow, 1) := by decide +kernel
theorem dX6_setWeight_26 : decode cX6_setWeight 26 = .ok (.aload_n 0, 1) := by decide +kernel
theorem dX6_setWeight_27 : decode cX6_setWeight 27 = .ok (.getfield 22, 3) := by decide +kernel
theorem dX6_setWeight_30 : decode cX6_setWeight 30 = .ok (.iload_n 1, 1) := by decide +kernel
theorem dX6_setWeight_31 : decode cX6_setWeight 31 = .ok (.invokevirtual 94, 3) := by decide +kernel
theorem dX6_setWeight_34 : decode cX6_setWeight 34 = .ok (.istore_n 3, 1) := by decide +kernel
theorem dX6_setWeight_35 : decode cX6_setWeight 35 = .ok (.aload_n 0, 1) := by decide +kernel
theorem dX6_setWeight_36 : decode cX6_setWeight 36 = .ok (.getfield 22, 3) := by decide +kernel
theorem dX6_setWeight_39 : decode cX6_setWeight 39 = .ok (.invokevirtual 97, 3) := by decide +kernel
theorem dX6_setWeight_42 : decode cX6_setWeight 42 = .ok (.aload_n 0, 1) := by decide +kernel
theorem dX6_setWeight_43 : decode cX6_setWeight 43 = .ok (.getfield 22, 3) := by decide +kernel
theorem dX6_setWeight_46 : decode cX6_setWeight 46 = .ok (.iload_n 1, 1) := by decide +kernel
theorem dX6_setWeight_47 : decode cX6_setWeight 47 = .ok (.iload_n 2, 1) := by decide +kernel
theorem dX6_setWeight_48 : decode cX6_setWeight 48 = .ok (.invokevirtual 100, 3) := by decide +kernel
theorem dX6_setWeight_51 : decode cX6_setWeight 51 = .ok (.iload_n 3, 1) := by decide +kernel
theorem dX6_setWeight_52 : decode cX6_setWeight 52 = .ok (.ireturn, 1) := by decide +kernel
set_option maxRecDepth 20000 in
theorem ggX6_weight_X6_checkFeature : GoodIn wsX6_weight wsX6_checkFeature := goodIn_ca (goodIn_r _ [5, 6, 7] (by decide +kernel) (by decide +kernel)) (goodIn_sub (fun _ h => List.mem_cons_of_mem _ (List.mem_append_right _ h)) (by decide +kernel))
set_option maxRecDepth 20000 in
theorem gX6_weight_X6_checkFeature : GoodIn wsX6_weight (va_wsS RX6 89 yX6_checkFeature wsX6_checkFeature) := goodIn_app (goodIn_of _ (by decide +kernel)) ggX6_weight_X6_checkFeature
set_option maxRecDepth 20000 in
theorem ggX6_weight_X5_get : GoodIn wsX6_weight wsX5_get := goodIn_r _ [12, 13, 14, 15, 11, 16, 24, 25, 26, 27, 28, 29, 30, 31] (by decide +kernel) (by decide +kernel)
set_option maxRecDepth 20000 in
theorem gX6_weight_X5_get : GoodIn wsX6_weight (wsV RX6 94 RX5 yX5_get wsX5_get) := goodIn_app (goodIn_of _ (by decide +kernel)) ggX6_weight_X5_get
theorem dX6_weight_0 : decode cX6_weight 0 = .ok (.iload_n 1, 1) := by decide +kernel
theorem dX6_weight_1 : decode cX6_weight 1 = .ok (.invokestatic 89, 3) := by decide +kernel
theorem dX6_weight_4 : decode cX6_weight 4 = .ok (.aload_n 0, 1) := by decide +kernel
theorem dX6_weight_5 : decode cX6_weight 5 = .ok (.getfield 22, 3) := by decide +kernel
theorem dX6_weight_8 : decode cX6_weight 8 = .ok (.iload_n 1, 1) := by decide +kernel
theorem dX6_weight_9 : decode cX6_weight 9 = .ok (.invokevirtual 94, 3) := by decide +kernel
theorem dX6_weight_12 : decode cX6_weight 12 = .ok (.ireturn, 1) := by decide +kernel
set_option maxRecDepth 20000 in
theorem ggX6_feature_X6_find : GoodIn wsX6_feature wsX6_find := goodIn_ca (goodIn_r _ [5, 6, 7, 8, 44, 45, 46, 47, 48, 49, 50] (by decide +kernel) (by decide +kernel)) (goodIn_sub (fun _ h => List.mem_cons_of_mem _ (List.mem_append_left _ (List.mem_append_right _ h))) (by decide +kernel))
set_option maxRecDepth 20000 in
theorem gX6_feature_X6_find : GoodIn wsX6_feature (wsV RX6 62 RX6 yX6_find wsX6_find) := goodIn_app (goodIn_of _ (by decide +kernel)) ggX6_feature_X6_find
set_option maxRecDepth 20000 in
theorem ggX6_feature_X6_checkArc : GoodIn wsX6_feature wsX6_checkArc := goodIn_ca (goodIn_ca (goodIn_r _ [11, 6, 7, 12, 13, 14, 15, 16, 17, 18, 19, 20, 21, 4, 22, 51, 52, 53, 54] (by decide +kernel) (by decide +kernel)) (goodIn_sub (fun _ h => List.mem_cons_of_mem _ (List.mem_append_left _ (List.mem_append_right _ h))) (by decide +kernel))) (goodIn_sub (fun _ h => List.mem_cons_of_mem _ (List.mem_append_right _ h)) (by decide +kernel))
set_option maxRecDepth 20000 in
theorem gX6_feature_X6_checkArc : GoodIn wsX6_feature (va_wsS RX6 104 yX6_checkArc wsX6_checkArc) := goodIn_app (goodIn_of _ (by decide +kernel)) ggX6_feature_X6_checkArc
set_option maxRecDepth 20000 in
theorem ggX6_feature_X6_byDistance : GoodIn wsX6_feature wsX6_byDistance := goodIn_r _ [25, 26, 27, 28, 29, 30, 31, 32] (by decide +kernel) (by decide +kernel)
set_option maxRecDepth 20000 in
theorem gX6_feature_X6_byDistance : GoodIn wsX6_feature (va_wsS RX6 108 yX6_byDistance wsX6_byDistance) := goodIn_app (goodIn_of _ (by decide +kernel)) ggX6_feature_X6_byDistance
set_option maxRecDepth 20000 in
theorem ggX6_feature_X2_byKinds : GoodIn wsX6_feature wsX2_byKinds := goodIn_r _ [36, 37, 38, 39, 17, 40, 41, 42, 4, 43, 51, 52, 53, 54] (by decide +kernel) (by decide +kernel)
set_option maxRecDepth 20000 in
theorem gX6_feature_X2_byKinds : GoodIn wsX6_feature (wsV RX6 112 RX2 yX2_byKinds wsX2_byKinds) := goodIn_app (goodIn_of _ (by decide +kernel)) ggX6_feature_X2_byKinds
theorem dX6_feature_0 : decode cX6_feature 0 = .ok (.aload_n 0, 1) := by decide +kernel
theorem dX6_feature_1 : decode cX6_feature 1 = .ok (.iload_n 1, 1) := by decide +kernel
theorem dX6_feature_2 : decode cX6_feature 2 = .ok (.invokevirtual 62, 3) := by decide +kernel
theorem dX6_feature_5 : decode cX6_feature 5 = .ok (.astore 5, 2) := by decide +kernel
theorem dX6_feature_7 : decode cX6_feature 7 = .ok (.aload 5, 2) := by decide +kernel
theorem dX6_feature_9 : decode cX6_feature 9 = .ok (.iload_n 2, 1) := by decide +kernel
theorem dX6_feature_10 : decode cX6_feature 10 = .ok (.iload_n 3, 1) := by decide +kernel
theorem dX6_feature_11 : decode cX6_feature 11 = .ok (.invokestatic 104, 3) := by decide +kernel
theorem dX6_feature_14 : decode cX6_feature 14 = .ok (.iload 4, 2) := by decide +kernel
theorem dX6_feature_16 : decode cX6_feature 16 = .ok (.ifCond .eq 11, 3) := by decide +kernel
theorem dX6_feature_19 : decode cX6_feature 19 = .ok (.iload_n 2, 1) := by decide +kernel
theorem dX6_feature_20 : decode cX6_feature 20 = .ok (.iload_n 3, 1) := by decide +kernel
theorem dX6_feature_21 : decode cX6_feature 21 = .ok (.invokestatic 108, 3) := by decide +kernel
theorem dX6_feature_24 : decode cX6_feature 24 = .ok (.goto 10, 3) := by decide +kernel
theorem dX6_feature_27 : decode cX6_feature 27 = .ok (.aload 5, 2) := by decide +kernel
theorem dX6_feature_29 : decode cX6_feature 29 = .ok (.iload_n 2, 1) := by decide +kernel
theorem dX6_feature_30 : decode cX6_feature 30 = .ok (.iload_n 3, 1) := by decide +kernel
theorem dX6_feature_31 : decode cX6_feature 31 = .ok (.invokevirtual 112, 3) := by decide +kernel
theorem dX6_feature_34 : decode cX6_feature 34 = .ok (.ireturn, 1) := by decide +kernel
set_option maxRecDepth 20000 in
theorem ggX6_score_X6_find : GoodIn wsX6_score wsX6_find := goodIn_ca (goodIn_r _ [6, 7, 8, 9, 57, 58, 59, 60, 61, 62, 63] (by decide +kernel) (by decide +kernel)) (goodIn_sub (fun _ h => List.mem_cons_of_mem _ (List.mem_append_left _ (List.mem_append_right _ h))) (by decide +kernel))
set_option maxRecDepth 20000 in
theorem gX6_score_X6_find : GoodIn wsX6_score (wsV RX6 62 RX6 yX6_find wsX6_find) := goodIn_app (goodIn_of _ (by decide +kernel)) ggX6_score_X6_find
set_option maxRecDepth 20000 in
theorem ggX6_score_X6_checkArc : GoodIn wsX6_score wsX6_checkArc := goodIn_ca (goodIn_ca (goodIn_r _ [12, 7, 8, 13, 14, 15, 16, 17, 18, 19, 20, 21, 22, 5, 23, 64, 65, 66, 67] (by decide +kernel) (by decide +kernel)) (goodIn_sub (fun _ h => List.mem_cons_of_mem _ (List.mem_append_left _ (List.mem_append_right _ h))) (by decide +kernel))) (goodIn_sub (fun _ h => List.mem_cons_of_mem _ (List.mem_append_right _ h)) (by decide +kernel))
set_option maxRecDepth 20000 in
theorem gX6_score_X6_checkArc : GoodIn wsX6_score (va_wsS RX6 104 yX6_checkArc wsX6_checkArc) := goodIn_app (goodIn_of _ (by decide +kernel)) ggX6_score_X6_checkArc
set_option maxRecDepth 20000 in
theorem ggX6_score_X5_ofArc : GoodIn wsX6_score wsX5_ofArc := goodIn_r _ [28, 29, 30, 31, 18, 32, 33, 34, 35, 36, 37, 38, 5, 39, 40, 41, 42, 27, 43, 44, 45, 46, 47, 48, 49, 50, 51, 52, 53, 54, 55, 56, 64, 65, 66, 67, 68, 69, 70, 71, 72, 73, 74, 75] (by decide +kernel) (by decide +kernel)
set_option maxRecDepth 20000 in
theorem gX6_score_X5_ofArc : GoodIn wsX6_score (wsV RX6 115 RX5 yX5_ofArc wsX5_ofArc) := goodIn_app (goodIn_of _ (by decide +kernel)) ggX6_score_X5_ofArc
theorem dX6_score_0 : decode cX6_score 0 = .ok (.aload_n 0, 1) := by decide +kernel
theorem dX6_score_1 : decode cX6_score 1 = .ok (.iload_n 1, 1) := by decide +kernel
theorem dX6_score_2 : decode cX6_score 2 = .ok (.invokevirtual 62, 3) := by decide +kernel
theorem dX6_score_5 : decode cX6_score 5 = .ok (.astore 4, 2) := by decide +kernel
theorem dX6_score_7 : decode cX6_score 7 = .ok (.aload 4, 2) := by decide +kernel
theorem dX6_score_9 : decode cX6_score 9 = .ok (.iload_n 2, 1) := by decide +kernel
theorem dX6_score_10 : decode cX6_score 10 = .ok (.iload_n 3, 1) := by decide +kernel
theorem dX6_score_11 : decode cX6_score 11 = .ok (.invokestatic 104, 3) := by decide +kernel
theorem dX6_score_14 : decode cX6_score 14 = .ok (.aload_n 0, 1) := by decide +kernel
theorem dX6_score_15 : decode cX6_score 15 = .ok (.getfield 22, 3) := by decide +kernel
theorem dX6_score_18 : decode cX6_score 18 = .ok (.aload 4, 2) := by decide +kernel
theorem dX6_score_20 : decode cX6_score 20 = .ok (.iload_n 2, 1) := by decide +kernel
theorem dX6_score_21 : decode cX6_score 21 = .ok (.iload_n 3, 1) := by decide +kernel
theorem dX6_score_22 : decode cX6_score 22 = .ok (.invokevirtual 115, 3) := by decide +kernel
theorem dX6_score_25 : decode cX6_score 25 = .ok (.ireturn, 1) := by decide +kernel
set_option maxRecDepth 20000 in
theorem ggX6_mark_X6_find : GoodIn wsX6_mark wsX6_find := goodIn_ca (goodIn_r _ [9, 10, 11, 12, 40, 41, 42, 43, 44, 45, 46] (by decide +kernel) (by decide +kernel)) (goodIn_sub (fun _ h => List.mem_cons_of_mem _ (List.mem_append_right _ h)) (by decide +kernel))
set_option maxRecDepth 20000 in
theorem gX6_mark_X6_find : GoodIn wsX6_mark (wsV RX6 62 RX6 yX6_find wsX6_find) := goodIn_app (goodIn_of _ (by decide +kernel)) ggX6_mark_X6_find
set_option maxRecDepth 20000 in
theorem ggX6_mark_X6_checkArc : GoodIn wsX6_mark wsX6_checkArc := goodIn_ca (goodIn_ca (goodIn_r _ [15, 10, 11, 1, 2, 16, 17, 18, 19, 20, 21, 22, 23, 8, 24, 47, 48, 49, 50] (by decide +kernel) (by decide +kernel)) (goodIn_sub (fun _ h => List.mem_cons_of_mem _ (List.mem_append_right _ h)) (by decide +kernel))) (goodIn_sub (fun _ h => List.mem_cons_of_mem _ (List.mem_append_left _ (List.mem_append_left _ (List.mem_append_right _ h)))) (by decide +kernel))
set_option maxRecDepth 20000 in
theorem gX6_mark_X6_checkArc : GoodIn wsX6_mark (va_wsS RX6 104 yX6_checkArc wsX6_checkArc) := goodIn_app (goodIn_of _ (by decide +kernel)) ggX6_mark_X6_checkArc
set_option maxRecDepth 20000 in
theorem ggX6_mark_X2_forcedHead : GoodIn wsX6_mark wsX2_forcedHead := goodIn_r _ [28, 21, 29, 30, 31, 19, 32, 33, 34, 8, 35, 47, 48, 49, 50] (by decide +kernel) (by decide +kernel)
set_option maxRecDepth 20000 in
theorem gX6_mark_X2_forcedHead : GoodIn wsX6_mark (wsV RX6 121 RX2 yX2_forcedHead wsX2_forcedHead) := goodIn_app (goodIn_of _ (by decide +kernel)) ggX6_mark_X2_forcedHead
set_option maxRecDepth 20000 in
theorem ggX6_mark_X2_changeMark : GoodIn wsX6_mark wsX2_changeMark := goodIn_r _ [39, 33, 29, 30, 31, 19, 32, 34, 8, 35, 47, 48, 49, 50] (by decide +kernel) (by decide +kernel)
set_option maxRecDepth 20000 in
theorem gX6_mark_X2_changeMark : GoodIn wsX6_mark (wsV RX6 126 RX2 yX2_changeMark wsX2_changeMark) := goodIn_app (goodIn_of _ (by decide +kernel)) ggX6_mark_X2_changeMark
theorem dX6_mark_0 : decode cX6_mark 0 = .ok (.aload_n 0, 1) := by decide +kernel
theorem dX6_mark_1 : decode cX6_mark 1 = .ok (.iload_n 1, 1) := by decide +kernel
theorem dX6_mark_2 : decode cX6_mark 2 = .ok (.invokevirtual 62, 3) := by decide +kernel
theorem dX6_mark_5 : decode cX6_mark 5 = .ok (.astore 5, 2) := by decide +kernel
theorem dX6_mark_7 : decode cX6_mark 7 = .ok (.aload 5, 2) := by decide +kernel
theorem dX6_mark_9 : decode cX6_mark 9 = .ok (.iload_n 2, 1) := by decide +kernel
theorem dX6_mark_10 : decode cX6_mark 10 = .ok (.iload_n 3, 1) := by decide +kernel
theorem dX6_mark_11 : decode cX6_mark 11 = .ok (.invokestatic 104, 3) := by decide +kernel
theorem dX6_mark_14 : decode cX6_mark 14 = .ok (.iload 4, 2) := by decide +kernel
theorem dX6_mark_16 : decode cX6_mark 16 = .ok (.ifCond .eq 25, 3) := by decide +kernel
theorem dX6_mark_19 : decode cX6_mark 19 = .ok (.iload 4, 2) := by decide +kernel
theorem dX6_mark_21 : decode cX6_mark 21 = .ok (.iconst 1, 1) := by decide +kernel
theorem dX6_mark_22 : decode cX6_mark 22 = .ok (.if_icmp .eq 19, 3) := by decide +kernel
theorem dX6_mark_25 : decode cX6_mark 25 = .ok (.iload 4, 2) := by decide +kernel
theorem dX6_mark_27 : decode cX6_mark 27 = .ok (.iconst 2, 1) := by decide +kernel
theorem dX6_mark_28 : decode cX6_mark 28 = .ok (.if_icmp .eq 13, 3) := by decide +kernel
theorem dX6_mark_31 : decode cX6_mark 31 = .ok (.new 66, 3) := by decide +kernel
theorem dX6_mark_34 : decode cX6_mark 34 = .ok (.dup, 1) := by decide +kernel
theorem dX6_mark_35 : decode cX6_mark 35 = .ok (.ldc 119, 2) := by decide +kernel
theorem dX6_mark_37 : decode cX6_mark 37 = .ok (.invokespecial 70, 3) := by decide +kernel
theorem dX6_mark_40 : decode cX6_mark 40 = .ok (.athrow, 1) := by decide +kernel
theorem dX6_mark_41 : decode cX6_mark 41 = .ok (.aload 5, 2) := by decide +kernel
theorem dX6_mark_43 : decode cX6_mark 43 = .ok (.iload_n 3, 1) := by decide +kernel
theorem dX6_mark_44 : decode cX6_mark 44 = .ok (.invokevirtual 121, 3) := by decide +kernel
theorem dX6_mark_47 : decode cX6_mark 47 = .ok (.istore 6, 2) := by decide +kernel
theorem dX6_mark_49 : decode cX6_mark 49 = .ok (.iload 4, 2) := by decide +kernel
theorem dX6_mark_51 : decode cX6_mark 51 = .ok (.iconst 1, 1) := by decide +kernel
theorem dX6_mark_52 : decode cX6_mark 52 = .ok (.if_icmp .ne 25, 3) := by decide +kernel
theorem dX6_mark_55 : decode cX6_mark 55 = .ok (.iload 6, 2) := by decide +kernel
theorem dX6_mark_57 : decode cX6_mark 57 = .ok (.iconst (-1), 1) := by decide +kernel
theorem dX6_mark_58 : decode cX6_mark 58 = .ok (.if_icmp .eq 19, 3) := by decide +kernel
theorem dX6_mark_61 : decode cX6_mark 61 = .ok (.iload 6, 2) := by decide +kernel
theorem dX6_mark_63 : decode cX6_mark 63 = .ok (.iload_n 2, 1) := by decide +kernel
theorem dX6_mark_64 : decode cX6_mark 64 = .ok (.if_icmp .eq 13, 3) := by decide +kernel
theorem dX6_mark_67 : decode cX6_mark 67 = .ok (.new 54, 3) := by decide +kernel
theorem dX6_mark_70 : decode cX6_mark 70 = .ok (.dup, 1) := by decide +kernel
theorem dX6_mark_71 : decode cX6_mark 71 = .ok (.ldc 124, 2) := by decide +kernel
theorem dX6_mark_73 : decode cX6_mark 73 = .ok (.invokespecial 58, 3) := by decide +kernel
theorem dX6_mark_76 : decode cX6_mark 76 = .ok (.athrow, 1) := by decide +kernel
theorem dX6_mark_77 : decode cX6_mark 77 = .ok (.aload 5, 2) := by decide +kernel
theorem dX6_mark_79 : decode cX6_mark 79 = .ok (.iload_n 2, 1) := by decide +kernel
theorem dX6_mark_80 : decode cX6_mark 80 = .ok (.iload_n 3, 1) := by decide +kernel
theorem dX6_mark_81 : decode cX6_mark 81 = .ok (.iload 4, 2) := by decide +kernel
theorem dX6_mark_83 : decode cX6_mark 83 = .ok (.invokevirtual 126, 3) := by decide +kernel
theorem dX6_mark_86 : decode cX6_mark 86 = .ok (.ireturn, 1) := by decide +kernel
set_option maxRecDepth 20000 in
theorem ggX6_trees_X6_find : GoodIn wsX6_trees wsX6_find := goodIn_ca (goodIn_r _ [5, 6, 7, 8, 119, 120, 121, 122, 123, 124, 125] (by decide +kernel) (by decide +kernel)) (goodIn_sub (fun _ h => List.mem_cons_of_mem _ (List.mem_append_right _ h)) (by decide +kernel))
set_option maxRecDepth 20000 in
theorem gX6_trees_X6_find : GoodIn wsX6_trees (wsV RX6 62 RX6 yX6_find wsX6_find) := goodIn_app (goodIn_of _ (by decide +kernel)) ggX6_trees_X6_find
set_option maxRecDepth 20000 in
theorem ggX6_trees_X6_tryAll : GoodIn wsX6_trees wsX6_tryAll := goodIn_r _ [12, 13, 14, 15, 16, 17, 18, 19, 20, 21, 22, 23, 24, 25, 26, 27, 28, 29, 30, 31, 32, 33, 34, 35, 36, 37, 38, 39, 40, 41, 42, 43, 44, 4, 45, 46, 47, 48, 49, 50, 51, 52, 53, 54, 55, 56, 57, 58, 59, 60, 61, 62, 63, 64, 65, 66, 67, 68, 69, 70, 71, 72, 73, 74, 75, 76, 77, 78, 79, 80, 81, 82, 83, 84, 85, 86, 87, 88, 89, 90, 91, 92, 93, 94, 95, 96, 97, 98, 99, 100, 101, 102, 103, 104, 105, 106, 107, 108, 109, 110, 111, 112, 113, 114, 119, 120, 121, 122, 123, 124, 125, 126, 127, 128, 129, 130, 131, 132, 133, 134, 135, 136, 137, 138, 139, 140, 141, 142] (by decide +kernel) (by decide +kernel)
set_option maxRecDepth 20000 in
theorem gX6_trees_X6_tryAll : GoodIn wsX6_trees (wsV RX6 130 RX6 yX6_tryAll wsX6_tryAll) := goodIn_app (goodIn_of _ (by decide +kernel)) ggX6_trees_X6_tryAll
set_option maxRecDepth 20000 in
theorem ggX6_trees_X4_size : GoodIn wsX6_trees wsX4_size := goodIn_r _ [118, 83, 140, 141, 142] (by decide +kernel) (by decide +kernel)
set_option maxRecDepth 20000 in
theorem gX6_trees_X4_size : GoodIn wsX6_trees (wsV RX6 134 RX4 yX4_size wsX4_size) := goodIn_app (goodIn_of _ (by decide +kernel)) ggX6_trees_X4_size
theorem dX6_trees_0 : decode cX6_trees 0 = .ok (.aload_n 0, 1) := by decide +kernel
theorem dX6_trees_1 : decode cX6_trees 1 = .ok (.aload_n 0, 1) := by decide +kernel
theorem dX6_trees_2 : decode cX6_trees 2 = .ok (.iload_n 1, 1) := by decide +kernel
theorem dX6_trees_3 : decode cX6_trees 3 = .ok (.invokevirtual 62, 3) := by decide +kernel
theorem dX6_trees_6 : decode cX6_trees 6 = .ok (.iload_n 2, 1) := by decide +kernel
theorem dX6_trees_7 : decode cX6_trees 7 = .ok (.invokevirtual 130, 3) := by decide +kernel
theorem dX6_trees_10 : decode cX6_trees 10 = .ok (.invokevirtual 134, 3) := by decide +kernel
theorem dX6_trees_13 : decode cX6_trees 13 = .ok (.ireturn, 1) := by decide +kernel
set_option maxRecDepth 20000 in
theorem ggX6_best_X6_find : GoodIn wsX6_best wsX6_find := goodIn_ca (goodIn_r _ [5, 6, 7, 8, 178, 179, 180, 181, 182, 183, 184] (by decide +kernel) (by decide +kernel)) (goodIn_sub (fun _ h => List.mem_cons_of_mem _ (List.mem_append_left _ (List.mem_append_right _ h))) (by decide +kernel))
set_option maxRecDepth 20000 in
theorem gX6_best_X6_find : GoodIn wsX6_best (wsV RX6 62 RX6 yX6_find wsX6_find) := goodIn_app (goodIn_of _ (by decide +kernel)) ggX6_best_X6_find
set_option maxRecDepth 20000 in
theorem ggX6_best_X6_bestKey : GoodIn wsX6_best wsX6_bestKey := goodIn_ca (goodIn_r _ [12, 13, 14, 15, 16, 17, 18, 19, 20, 21, 22, 23, 24, 25, 26, 27, 28, 29, 30, 31, 32, 33, 34, 35, 36, 37, 38, 39, 40, 41, 42, 43, 44, 45, 4, 46, 47, 48, 49, 50, 51, 52, 53, 54, 55, 56, 57, 58, 59, 60, 61, 62, 63, 64, 65, 66, 67, 68, 69, 70, 71, 72, 73, 74, 75, 76, 77, 78, 79, 80, 81, 82, 83, 84, 85, 86, 87, 88, 89, 90, 91, 92, 93, 94, 95, 96, 97, 98, 99, 100, 101, 102, 103, 104, 105, 106, 107, 108, 109, 110, 111, 112, 113, 114, 115, 116, 117, 118, 119, 120, 121, 122, 123, 124, 125, 126, 127, 128, 129, 130, 131, 132, 133, 134, 135, 136, 137, 138, 139, 140, 141, 142, 143, 144, 145, 146, 147, 148, 149, 150, 151, 152, 153, 154, 155, 156, 157, 158, 159, 160, 161, 162, 163, 164, 165, 166, 178, 179, 180, 181, 182, 183, 184, 185, 186, 187, 188, 189, 190, 191, 192, 193, 194, 195, 196, 197, 198, 199, 200, 201, 202, 203, 204, 205, 206, 207] (by decide +kernel) (by decide +kernel)) (goodIn_sub (fun _ h => List.mem_cons_of_mem _ (List.mem_append_right _ h)) (by decide +kernel))
set_option maxRecDepth 20000 in
theorem gX6_best_X6_bestKey : GoodIn wsX6_best (wsV RX6 135 RX6 yX6_bestKey wsX6_bestKey) := goodIn_app (goodIn_of _ (by decide +kernel)) ggX6_best_X6_bestKey
set_option maxRecDepth 20000 in
theorem ggX6_best_X6_scoreIn : GoodIn wsX6_best wsX6_scoreIn := goodIn_r _ [169, 170, 171, 172, 4, 173, 174, 175, 176, 177] (by decide +kernel) (by decide +kernel)
set_option maxRecDepth 20000 in
theorem gX6_best_X6_scoreIn : GoodIn wsX6_best (va_wsS RX6 139 yX6_scoreIn wsX6_scoreIn) := goodIn_app (goodIn_of _ (by decide +kernel)) ggX6_best_X6_scoreIn
theorem dX6_best_0 : decode cX6_best 0 = .ok (.aload_n 0, 1) := by decide +kernel
theorem dX6_best_1 : decode cX6_best 1 = .ok (.aload_n 0, 1) := by decide +kernel
theorem dX6_best_2 : decode cX6_best 2 = .ok (.iload_n 1, 1) := by decide +kernel
theorem dX6_best_3 : decode cX6_best 3 = .ok (.invokevirtual 62, 3) := by decide +kernel
theorem dX6_best_6 : decode cX6_best 6 = .ok (.iload_n 2, 1) := by decide +kernel
theorem dX6_best_7 : decode cX6_best 7 = .ok (.invokevirtual 135, 3) := by decide +kernel
theorem dX6_best_10 : decode cX6_best 10 = .ok (.invokestatic 139, 3) := by decide +kernel
theorem dX6_best_13 : decode cX6_best 13 = .ok (.ireturn, 1) := by decide +kernel
set_option maxRecDepth 20000 in
theorem ggX6_bestByTrying_X6_find : GoodIn wsX6_bestByTrying wsX6_find := goodIn_ca (goodIn_r _ [5, 6, 7, 8, 139, 140, 141, 142, 143, 144, 145] (by decide +kernel) (by decide +kernel)) (goodIn_sub (fun _ h => List.mem_cons_of_mem _ (List.mem_append_left _ (List.mem_append_right _ h))) (by decide +kernel))
set_option maxRecDepth 20000 in
theorem gX6_bestByTrying_X6_find : GoodIn wsX6_bestByTrying (wsV RX6 62 RX6 yX6_find wsX6_find) := goodIn_app (goodIn_of _ (by decide +kernel)) ggX6_bestByTrying_X6_find
set_option maxRecDepth 20000 in
theorem ggX6_bestByTrying_X6_tryAll : GoodIn wsX6_bestByTrying wsX6_tryAll := goodIn_r _ [12, 13, 14, 15, 16, 17, 18, 19, 20, 21, 22, 23, 24, 25, 26, 27, 28, 29, 30, 31, 32, 33, 34, 35, 36, 37, 38, 39, 40, 41, 42, 43, 44, 4, 45, 46, 47, 48, 49, 50, 51, 52, 53, 54, 55, 56, 57, 58, 59, 60, 61, 62, 63, 64, 65, 66, 67, 68, 69, 70, 71, 72, 73, 74, 75, 76, 77, 78, 79, 80, 81, 82, 83, 84, 85, 86, 87, 88, 89, 90, 91, 92, 93, 94, 95, 96, 97, 98, 99, 100, 101, 102, 103, 104, 105, 106, 107, 108, 109, 110, 111, 112, 113, 114, 139, 140, 141, 142, 143, 144, 145, 146, 147, 148, 149, 150, 151, 152, 153, 154, 155, 156, 157, 158, 159, 160, 161, 162] (by decide +kernel) (by decide +kernel)
set_option maxRecDepth 20000 in
theorem gX6_bestByTrying_X6_tryAll : GoodIn wsX6_bestByTrying (wsV RX6 130 RX6 yX6_tryAll wsX6_tryAll) := goodIn_app (goodIn_of _ (by decide +kernel)) ggX6_bestByTrying_X6_tryAll
set_option maxRecDepth 20000 in
theorem ggX6_bestByTrying_X4_greatest : GoodIn wsX6_bestByTrying wsX4_greatest := goodIn_r _ [118, 87, 83, 97, 119, 120, 23, 121, 160, 161, 162] (by decide +kernel) (by decide +kernel)
set_option maxRecDepth 20000 in
theorem gX6_bestByTrying_X4_greatest : GoodIn wsX6_bestByTrying (wsV RX6 143 RX4 yX4_greatest wsX4_greatest) := goodIn_app (goodIn_of _ (by decide +kernel)) ggX6_bestByTrying_X4_greatest
set_option maxRecDepth 20000 in
theorem ggX6_bestByTrying_X6_checkTree : GoodIn wsX6_bestByTrying wsX6_checkTree := goodIn_ca (goodIn_r _ [124, 125, 126, 127] (by decide +kernel) (by decide +kernel)) (goodIn_sub (fun _ h => List.mem_cons_of_mem _ (List.mem_append_right _ h)) (by decide +kernel))
set_option maxRecDepth 20000 in
theorem gX6_bestByTrying_X6_checkTree : GoodIn wsX6_bestByTrying (va_wsS RX6 147 yX6_checkTree wsX6_checkTree) := goodIn_app (goodIn_of _ (by decide +kernel)) ggX6_bestByTrying_X6_checkTree
set_option maxRecDepth 20000 in
theorem ggX6_bestByTrying_X6_scoreIn : GoodIn wsX6_bestByTrying wsX6_scoreIn := goodIn_r _ [130, 131, 132, 133, 4, 134, 135, 136, 137, 138] (by decide +kernel) (by decide +kernel)
set_option maxRecDepth 20000 in
theorem gX6_bestByTrying_X6_scoreIn : GoodIn wsX6_bestByTrying (va_wsS RX6 139 yX6_scoreIn wsX6_scoreIn) := goodIn_app (goodIn_of _ (by decide +kernel)) ggX6_bestByTrying_X6_scoreIn
theorem dX6_bestByTrying_0 : decode cX6_bestByTrying 0 = .ok (.aload_n 0, 1) := by decide +kernel
theorem dX6_bestByTrying_1 : decode cX6_bestByTrying 1 = .ok (.aload_n 0, 1) := by decide +kernel
theorem dX6_bestByTrying_2 : decode cX6_bestByTrying 2 = .ok (.iload_n 1, 1) := by decide +kernel
theorem dX6_bestByTrying_3 : decode cX6_bestByTrying 3 = .ok (.invokevirtual 62, 3) := by decide +kernel
theorem dX6_bestByTrying_6 : decode cX6_bestByTrying 6 = .ok (.iload_n 2, 1) := by decide +kernel
theorem dX6_bestByTrying_7 : decode cX6_bestByTrying 7 = .ok (.invokevirtual 130, 3) := by decide +kernel
theorem dX6_bestByTrying_10 : decode cX6_bestByTrying 10 = .ok (.invokevirtual 143, 3) := by decide +kernel
theorem dX6_bestByTrying_13 : decode cX6_bestByTrying 13 = .ok (.lstore_n 3, 1) := by decide +kernel
theorem dX6_bestByTrying_14 : decode cX6_bestByTrying 14 = .ok (.lload_n 3, 1) := by decide +kernel
theorem dX6_bestByTrying_15 : decode cX6_bestByTrying 15 = .ok (.invokestatic 147, 3) := by decide +kernel
theorem dX6_bestByTrying_18 : decode cX6_bestByTrying 18 = .ok (.lload_n 3, 1) := by decide +kernel
theorem dX6_bestByTrying_19 : decode cX6_bestByTrying 19 = .ok (.invokestatic 139, 3) := by decide +kernel
theorem dX6_bestByTrying_22 : decode cX6_bestByTrying 22 = .ok (.ireturn, 1) := by decide +kernel
set_option maxRecDepth 20000 in
theorem ggX6_head_X6_find : GoodIn wsX6_head wsX6_find := goodIn_ca (goodIn_r _ [5, 6, 7, 8, 183, 184, 185, 186, 187, 188, 189] (by decide +kernel) (by decide +kernel)) (goodIn_sub (fun _ h => List.mem_cons_of_mem _ (List.mem_append_left _ (List.mem_append_right _ h))) (by decide +kernel))
set_option maxRecDepth 20000 in
theorem gX6_head_X6_find : GoodIn wsX6_head (wsV RX6 62 RX6 yX6_find wsX6_find) := goodIn_app (goodIn_of _ (by decide +kernel)) ggX6_head_X6_find
set_option maxRecDepth 20000 in
theorem ggX6_head_X6_checkWord : GoodIn wsX6_head wsX6_checkWord := goodIn_ca (goodIn_r _ [11, 6, 7, 12, 13, 14, 15, 16, 17, 190, 191, 192, 193] (by decide +kernel) (by decide +kernel)) (goodIn_sub (fun _ h => List.mem_cons_of_mem _ (List.mem_append_left _ (List.mem_append_right _ h))) (by decide +kernel))
set_option maxRecDepth 20000 in
theorem gX6_head_X6_checkWord : GoodIn wsX6_head (va_wsS RX6 81 yX6_checkWord wsX6_checkWord) := goodIn_app (goodIn_of _ (by decide +kernel)) ggX6_head_X6_checkWord
set_option maxRecDepth 20000 in
theorem ggX6_head_X6_bestKey : GoodIn wsX6_head wsX6_bestKey := goodIn_ca (goodIn_r _ [21, 22, 23, 24, 25, 26, 27, 28, 29, 30, 31, 32, 33, 34, 35, 36, 37, 38, 39, 13, 14, 15, 16, 17, 40, 41, 42, 43, 44, 45, 46, 47, 48, 49, 4, 50, 51, 52, 53, 54, 55, 56, 57, 58, 59, 60, 61, 62, 63, 64, 65, 66, 67, 68, 69, 70, 71, 72, 73, 74, 75, 76, 77, 78, 79, 80, 81, 82, 83, 84, 85, 86, 87, 88, 89, 90, 91, 92, 93, 94, 95, 96, 97, 98, 99, 100, 101, 102, 103, 104, 105, 106, 107, 108, 109, 110, 111, 112, 113, 114, 115, 116, 117, 118, 119, 120, 121, 122, 123, 124, 125, 126, 127, 128, 129, 130, 131, 132, 133, 134, 135, 136, 137, 138, 139, 140, 141, 142, 143, 144, 145, 146, 147, 148, 149, 150, 151, 152, 153, 154, 155, 156, 157, 158, 159, 160, 161, 162, 163, 164, 165, 166, 167, 168, 169, 170, 183, 184, 185, 186, 187, 188, 189, 194, 195, 190, 191, 192, 193, 196, 197, 198, 199, 200, 201, 202, 203, 204, 205, 206, 207, 208, 209, 210, 211, 212] (by decide +kernel) (by decide +kernel)) (goodIn_sub (fun _ h => List.mem_cons_of_mem _ (List.mem_append_right _ h)) (by decide +kernel))
set_option maxRecDepth 20000 in
theorem gX6_head_X6_bestKey : GoodIn wsX6_head (wsV RX6 135 RX6 yX6_bestKey wsX6_bestKey) := goodIn_app (goodIn_of _ (by decide +kernel)) ggX6_head_X6_bestKey
set_option maxRecDepth 20000 in
theorem ggX6_head_X6_headIn : GoodIn wsX6_head wsX6_headIn := goodIn_r _ [173, 174, 175, 176, 4, 177, 178, 179, 180, 181, 182] (by decide +kernel) (by decide +kernel)
set_option maxRecDepth 20000 in
theorem gX6_head_X6_headIn : GoodIn wsX6_head (va_wsS RX6 151 yX6_headIn wsX6_headIn) := goodIn_app (goodIn_of _ (by decide +kernel)) ggX6_head_X6_headIn
theorem dX6_head_0 : decode cX6_head 0 = .ok (.aload_n 0, 1) := by decide +kernel
theorem dX6_head_1 : decode cX6_head 1 = .ok (.iload_n 1, 1) := by decide +kernel
theorem dX6_head_2 : decode cX6_head 2 = .ok (.invokevirtual 62, 3) := by decide +kernel
theorem dX6_head_5 : decode cX6_head 5 = .ok (.astore 4, 2) := by decide +kernel
theorem dX6_head_7 : decode cX6_head 7 = .ok (.aload 4, 2) := by decide +kernel
theorem dX6_head_9 : decode cX6_head 9 = .ok (.iload_n 3, 1) := by decide +kernel
theorem dX6_head_10 : decode cX6_head 10 = .ok (.invokestatic 81, 3) := by decide +kernel
theorem dX6_head_13 : decode cX6_head 13 = .ok (.aload_n 0, 1) := by decide +kernel
theorem dX6_head_14 : decode cX6_head 14 = .ok (.aload 4, 2) := by decide +kernel
theorem dX6_head_16 : decode cX6_head 16 = .ok (.iload_n 2, 1) := by decide +kernel
theorem dX6_head_17 : decode cX6_head 17 = .ok (.invokevirtual 135, 3) := by decide +kernel
theorem dX6_head_20 : decode cX6_head 20 = .ok (.iload_n 3, 1) := by decide +kernel
theorem dX6_head_21 : decode cX6_head 21 = .ok (.invokestatic 151, 3) := by decide +kernel
theorem dX6_head_24 : decode cX6_head 24 = .ok (.ireturn, 1) := by decide +kernel
set_option maxRecDepth 20000 in
theorem ggX6_crossings_X6_find : GoodIn wsX6_crossings wsX6_find := goodIn_ca (goodIn_r _ [5, 6, 7, 8, 186, 187, 188, 189, 190, 191, 192] (by decide +kernel) (by decide +kernel)) (goodIn_sub (fun _ h => List.mem_cons_of_mem _ (List.mem_append_left _ (List.mem_append_right _ h))) (by decide +kernel))
set_option maxRecDepth 20000 in
theorem gX6_crossings_X6_find : GoodIn wsX6_crossings (wsV RX6 62 RX6 yX6_find wsX6_find) := goodIn_app (goodIn_of _ (by decide +kernel)) ggX6_crossings_X6_find
set_option maxRecDepth 20000 in
theorem ggX6_crossings_X6_bestKey : GoodIn wsX6_crossings wsX6_bestKey := goodIn_ca (goodIn_r _ [12, 13, 14, 15, 16, 17, 18, 19, 20, 21, 22, 23, 24, 25, 26, 27, 28, 29, 30, 31, 32, 33, 34, 35, 36, 37, 38, 39, 40, 41, 42, 43, 44, 45, 4, 46, 47, 48, 49, 50, 51, 52, 53, 54, 55, 56, 57, 58, 59, 60, 61, 62, 63, 64, 65, 66, 67, 68, 69, 70, 71, 72, 73, 74, 75, 76, 77, 78, 79, 80, 81, 82, 83, 84, 85, 86, 87, 88, 89, 90, 91, 92, 93, 94, 95, 96, 97, 98, 99, 100, 101, 102, 103, 104, 105, 106, 107, 108, 109, 110, 111, 112, 113, 114, 115, 116, 117, 118, 119, 120, 121, 122, 123, 124, 125, 126, 127, 128, 129, 130, 131, 132, 133, 134, 135, 136, 137, 138, 139, 140, 141, 142, 143, 144, 145, 146, 147, 148, 149, 150, 151, 152, 153, 154, 155, 156, 157, 158, 159, 160, 161, 162, 163, 164, 165, 166, 186, 187, 188, 189, 190, 191, 192, 193, 194, 195, 196, 197, 198, 199, 200, 201, 202, 203, 204, 205, 206, 207, 208, 209, 210, 211, 212, 213, 214, 215] (by decide +kernel) (by decide +kernel)) (goodIn_sub (fun _ h => List.mem_cons_of_mem _ (List.mem_append_right _ h)) (by decide +kernel))
set_option maxRecDepth 20000 in
theorem gX6_crossings_X6_bestKey : GoodIn wsX6_crossings (wsV RX6 135 RX6 yX6_bestKey wsX6_bestKey) := goodIn_app (goodIn_of _ (by decide +kernel)) ggX6_crossings_X6_bestKey
set_option maxRecDepth 20000 in
theorem ggX6_crossings_X2_size : GoodIn wsX6_crossings wsX2_size := goodIn_r _ [34, 35, 195, 196, 197, 198] (by decide +kernel) (by decide +kernel)
set_option maxRecDepth 20000 in
theorem gX6_crossings_X2_size : GoodIn wsX6_crossings (wsV RX6 71 RX2 yX2_size wsX2_size) := goodIn_app (goodIn_of _ (by decide +kernel)) ggX6_crossings_X2_size
set_option maxRecDepth 20000 in
theorem ggX6_crossings_X6_headIn : GoodIn wsX6_crossings wsX6_headIn := goodIn_r _ [170, 171, 172, 173, 4, 174, 175, 176, 177, 178, 179] (by decide +kernel) (by decide +kernel)
set_option maxRecDepth 20000 in
theorem gX6_crossings_X6_headIn : GoodIn wsX6_crossings (va_wsS RX6 151 yX6_headIn wsX6_headIn) := goodIn_app (goodIn_of _ (by decide +kernel)) ggX6_crossings_X6_headIn
set_option maxRecDepth 20000 in
theorem ggX6_crossings_X6_doCross : GoodIn wsX6_crossings wsX6_doCross := goodIn_r _ [182, 78, 23, 24, 25, 183, 184, 185] (by decide +kernel) (by decide +kernel)
set_option maxRecDepth 20000 in
theorem gX6_crossings_X6_doCross : GoodIn wsX6_crossings (va_wsS RX6 155 yX6_doCross wsX6_doCross) := goodIn_app (goodIn_of _ (by decide +kernel)) ggX6_crossings_X6_doCross
theorem dX6_crossings_0 : decode cX6_crossings 0 = .ok (.aload_n 0, 1) := by decide +kernel
theorem dX6_crossings_1 : decode cX6_crossings 1 = .ok (.iload_n 1, 1) := by decide +kernel
theorem dX6_crossings_2 : decode cX6_crossings 2 = .ok (.invokevirtual 62, 3) := by decide +kernel
theorem dX6_crossings_5 : decode cX6_crossings 5 = .ok (.astore_n 2, 1) := by decide +kernel
theorem dX6_crossings_6 : decode cX6_crossings 6 = .ok (.aload_n 0, 1) := by decide +kernel
theorem dX6_crossings_7 : decode cX6_crossings 7 = .ok (.aload_n 2, 1) := by decide +kernel
theorem dX6_crossings_8 : decode cX6_crossings 8 = .ok (.iconst 1, 1) := by decide +kernel
theorem dX6_crossings_9 : decode cX6_crossings 9 = .ok (.invokevirtual 135, 3) := by decide +kernel
theorem dX6_crossings_12 : decode cX6_crossings 12 = .ok (.lstore_n 3, 1) := by decide +kernel
theorem dX6_crossings_13 : decode cX6_crossings 13 = .ok (.iconst 0, 1) := by decide +kernel
theorem dX6_crossings_14 : decode cX6_crossings 14 = .ok (.istore 5, 2) := by decide +kernel
theorem dX6_crossings_16 : decode cX6_crossings 16 = .ok (.iconst 2, 1) := by decide +kernel
theorem dX6_crossings_17 : decode cX6_crossings 17 = .ok (.istore 6, 2) := by decide +kernel
theorem dX6_crossings_19 : decode cX6_crossings 19 = .ok (.iload 6, 2) := by decide +kernel
theorem dX6_crossings_21 : decode cX6_crossings 21 = .ok (.aload_n 2, 1) := by decide +kernel
theorem dX6_crossings_22 : decode cX6_crossings 22 = .ok (.invokevirtual 71, 3) := by decide +kernel
theorem dX6_crossings_25 : decode cX6_crossings 25 = .ok (.if_icmp .gt 50, 3) := by decide +kernel
theorem dX6_crossings_28 : decode cX6_crossings 28 = .ok (.iconst 1, 1) := by decide +kernel
theorem dX6_crossings_29 : decode cX6_crossings 29 = .ok (.istore 7, 2) := by decide +kernel
theorem dX6_crossings_31 : decode cX6_crossings 31 = .ok (.iload 7, 2) := by decide +kernel
theorem dX6_crossings_33 : decode cX6_crossings 33 = .ok (.iload 6, 2) := by decide +kernel
theorem dX6_crossings_35 : decode cX6_crossings 35 = .ok (.if_icmp .ge 34, 3) := by decide +kernel
theorem dX6_crossings_38 : decode cX6_crossings 38 = .ok (.lload_n 3, 1) := by decide +kernel
theorem dX6_crossings_39 : decode cX6_crossings 39 = .ok (.iload 6, 2) := by decide +kernel
theorem dX6_crossings_41 : decode cX6_crossings 41 = .ok (.invokestatic 151, 3) := by decide +kernel
theorem dX6_crossings_44 : decode cX6_crossings 44 = .ok (.iload 6, 2) := by decide +kernel
theorem dX6_crossings_46 : decode cX6_crossings 46 = .ok (.lload_n 3, 1) := by decide +kernel
theorem dX6_crossings_47 : decode cX6_crossings 47 = .ok (.iload 7, 2) := by decide +kernel
theorem dX6_crossings_49 : decode cX6_crossings 49 = .ok (.invokestatic 151, 3) := by decide +kernel
theorem dX6_crossings_52 : decode cX6_crossings 52 = .ok (.iload 7, 2) := by decide +kernel
theorem dX6_crossings_54 : decode cX6_crossings 54 = .ok (.invokestatic 155, 3) := by decide +kernel
theorem dX6_crossings_57 : decode cX6_crossings 57 = .ok (.ifCond .eq 6, 3) := by decide +kernel
theorem dX6_crossings_60 : decode cX6_crossings 60 = .ok (.iinc 5 1, 3) := by decide +kernel
theorem dX6_crossings_63 : decode cX6_crossings 63 = .ok (.iinc 7 1, 3) := by decide +kernel
theorem dX6_crossings_66 : decode cX6_crossings 66 = .ok (.goto (-35), 3) := by decide +kernel
theorem dX6_crossings_69 : decode cX6_crossings 69 = .ok (.iinc 6 1, 3) := by decide +kernel
theorem dX6_crossings_72 : decode cX6_crossings 72 = .ok (.goto (-53), 3) := by decide +kernel
theorem dX6_crossings_75 : decode cX6_crossings 75 = .ok (.iload 5, 2) := by decide +kernel
theorem dX6_crossings_77 : decode cX6_crossings 77 = .ok (.ireturn, 1) := by decide +kernel
set_option maxRecDepth 20000 in
theorem ggX6_ranked_X6_find : GoodIn wsX6_ranked wsX6_find := goodIn_ca (goodIn_r _ [5, 6, 7, 8, 157, 158, 159, 160, 161, 162, 163] (by decide +kernel) (by decide +kernel)) (goodIn_sub (fun _ h => List.mem_cons_of_mem _ (List.mem_append_right _ h)) (by decide +kernel))
set_option maxRecDepth 20000 in
theorem gX6_ranked_X6_find : GoodIn wsX6_ranked (wsV RX6 62 RX6 yX6_find wsX6_find) := goodIn_app (goodIn_of _ (by decide +kernel)) ggX6_ranked_X6_find
set_option maxRecDepth 20000 in
theorem ggX6_ranked_X6_rankedKey : GoodIn wsX6_ranked wsX6_rankedKey := goodIn_ca (goodIn_r _ [12, 6, 7, 13, 14, 15, 4, 16, 17, 18, 19, 20, 21, 22, 23, 24, 25, 26, 27, 28, 29, 30, 31, 32, 33, 34, 35, 36, 37, 38, 39, 40, 41, 42, 43, 44, 45, 46, 47, 48, 49, 50, 51, 52, 53, 54, 55, 56, 57, 58, 59, 60, 61, 62, 63, 64, 65, 66, 67, 68, 69, 70, 71, 72, 73, 74, 75, 76, 77, 78, 79, 80, 81, 82, 83, 84, 85, 86, 87, 88, 89, 90, 91, 92, 93, 94, 95, 96, 97, 98, 99, 100, 101, 102, 103, 104, 105, 106, 107, 108, 109, 110, 111, 112, 113, 114, 115, 116, 117, 118, 119, 120, 121, 122, 123, 124, 125, 126, 127, 128, 129, 130, 131, 132, 133, 134, 135, 136, 137, 138, 139, 140, 141, 142, 143, 144, 145, 157, 158, 159, 160, 161, 162, 163, 164, 165, 166, 167, 168, 169, 170, 171, 172, 173, 174, 175, 176, 177, 178, 179, 180] (by decide +kernel) (by decide +kernel)) (goodIn_sub (fun _ h => List.mem_cons_of_mem _ (List.mem_append_right _ h)) (by decide +kernel))
set_option maxRecDepth 20000 in
theorem gX6_ranked_X6_rankedKey : GoodIn wsX6_ranked (wsV RX6 159 RX6 yX6_rankedKey wsX6_rankedKey) := goodIn_app (goodIn_of _ (by decide +kernel)) ggX6_ranked_X6_rankedKey
set_option maxRecDepth 20000 in
theorem ggX6_ranked_X6_scoreIn : GoodIn wsX6_ranked wsX6_scoreIn := goodIn_r _ [148, 149, 150, 151, 4, 152, 153, 154, 155, 156] (by decide +kernel) (by decide +kernel)
set_option maxRecDepth 20000 in
theorem gX6_ranked_X6_scoreIn : GoodIn wsX6_ranked (va_wsS RX6 139 yX6_scoreIn wsX6_scoreIn) := goodIn_app (goodIn_of _ (by decide +kernel)) ggX6_ranked_X6_scoreIn
theorem dX6_ranked_0 : decode cX6_ranked 0 = .ok (.aload_n 0, 1) := by decide +kernel
theorem dX6_ranked_1 : decode cX6_ranked 1 = .ok (.aload_n 0, 1) := by decide +kernel
theorem dX6_ranked_2 : decode cX6_ranked 2 = .ok (.iload_n 1, 1) := by decide +kernel
theorem dX6_ranked_3 : decode cX6_ranked 3 = .ok (.invokevirtual 62, 3) := by decide +kernel
theorem dX6_ranked_6 : decode cX6_ranked 6 = .ok (.iload_n 2, 1) := by decide +kernel
theorem dX6_ranked_7 : decode cX6_ranked 7 = .ok (.iload_n 3, 1) := by decide +kernel
theorem dX6_ranked_8 : decode cX6_ranked 8 = .ok (.invokevirtual 159, 3) := by decide +kernel
theorem dX6_ranked_11 : decode cX6_ranked 11 = .ok (.invokestatic 139, 3) := by decide +kernel
theorem dX6_ranked_14 : decode cX6_ranked 14 = .ok (.ireturn, 1) := by decide +kernel
set_option maxRecDepth 20000 in
theorem ggX6_rankedHead_X6_find : GoodIn wsX6_rankedHead wsX6_find := goodIn_ca (goodIn_r _ [5, 6, 7, 8, 162, 163, 164, 165, 166, 167, 168] (by decide +kernel) (by decide +kernel)) (goodIn_sub (fun _ h => List.mem_cons_of_mem _ (List.mem_append_right _ h)) (by decide +kernel))
set_option maxRecDepth 20000 in
theorem gX6_rankedHead_X6_find : GoodIn wsX6_rankedHead (wsV RX6 62 RX6 yX6_find wsX6_find) := goodIn_app (goodIn_of _ (by decide +kernel)) ggX6_rankedHead_X6_find
set_option maxRecDepth 20000 in
theorem ggX6_rankedHead_X6_checkWord : GoodIn wsX6_rankedHead wsX6_checkWord := goodIn_ca (goodIn_r _ [11, 6, 7, 12, 13, 14, 15, 16, 17, 169, 170, 171, 172] (by decide +kernel) (by decide +kernel)) (goodIn_sub (fun _ h => List.mem_cons_of_mem _ (List.mem_append_right _ h)) (by decide +kernel))
set_option maxRecDepth 20000 in
theorem gX6_rankedHead_X6_checkWord : GoodIn wsX6_rankedHead (va_wsS RX6 81 yX6_checkWord wsX6_checkWord) := goodIn_app (goodIn_of _ (by decide +kernel)) ggX6_rankedHead_X6_checkWord
set_option maxRecDepth 20000 in
theorem ggX6_rankedHead_X6_rankedKey : GoodIn wsX6_rankedHead wsX6_rankedKey := goodIn_ca (goodIn_r _ [21, 6, 7, 22, 23, 24, 4, 25, 26, 27, 28, 29, 30, 31, 32, 33, 34, 35, 36, 37, 38, 39, 40, 41, 42, 13, 14, 15, 16, 17, 43, 44, 45, 46, 47, 48, 49, 50, 51, 52, 53, 54, 55, 56, 57, 58, 59, 60, 61, 62, 63, 64, 65, 66, 67, 68, 69, 70, 71, 72, 73, 74, 75, 76, 77, 78, 79, 80, 81, 82, 83, 84, 85, 86, 87, 88, 89, 90, 91, 92, 93, 94, 95, 96, 97, 98, 99, 100, 101, 102, 103, 104, 105, 106, 107, 108, 109, 110, 111, 112, 113, 114, 115, 116, 117, 118, 119, 120, 121, 122, 123, 124, 125, 126, 127, 128, 129, 130, 131, 132, 133, 134, 135, 136, 137, 138, 139, 140, 141, 142, 143, 144, 145, 146, 147, 148, 149, 162, 163, 164, 165, 166, 167, 168, 173, 174, 169, 170, 171, 172, 175, 176, 177, 178, 179, 180, 181, 182, 183, 184, 185] (by decide +kernel) (by decide +kernel)) (goodIn_sub (fun _ h => List.mem_cons_of_mem _ (List.mem_append_right _ h)) (by decide +kernel))
set_option maxRecDepth 20000 in
theorem gX6_rankedHead_X6_rankedKey : GoodIn wsX6_rankedHead (wsV RX6 159 RX6 yX6_rankedKey wsX6_rankedKey) := goodIn_app (goodIn_of _ (by decide +kernel)) ggX6_rankedHead_X6_rankedKey
set_option maxRecDepth 20000 in
theorem ggX6_rankedHead_X6_headIn : GoodIn wsX6_rankedHead wsX6_headIn := goodIn_r _ [152, 153, 154, 155, 4, 156, 157, 158, 159, 160, 161] (by decide +kernel) (by decide +kernel)
set_option maxRecDepth 20000 in
theorem gX6_rankedHead_X6_headIn : GoodIn wsX6_rankedHead (va_wsS RX6 151 yX6_headIn wsX6_headIn) := goodIn_app (goodIn_of _ (by decide +kernel)) ggX6_rankedHead_X6_headIn
theorem dX6_rankedHead_0 : decode cX6_rankedHead 0 = .ok (.aload_n 0, 1) := by decide +kernel
theorem dX6_rankedHead_1 : decode cX6_rankedHead 1 = .ok (.iload_n 1, 1) := by decide +kernel
theorem dX6_rankedHead_2 : decode cX6_rankedHead 2 = .ok (.invokevirtual 62, 3) := by decide +kernel
theorem dX6_rankedHead_5 : decode cX6_rankedHead 5 = .ok (.astore 5, 2) := by decide +kernel
theorem dX6_rankedHead_7 : decode cX6_rankedHead 7 = .ok (.aload 5, 2) := by decide +kernel
theorem dX6_rankedHead_9 : decode cX6_rankedHead 9 = .ok (.iload 4, 2) := by decide +kernel
theorem dX6_rankedHead_11 : decode cX6_rankedHead 11 = .ok (.invokestatic 81, 3) := by decide +kernel
theorem dX6_rankedHead_14 : decode cX6_rankedHead 14 = .ok (.aload_n 0, 1) := by decide +kernel
theorem dX6_rankedHead_15 : decode cX6_rankedHead 15 = .ok (.aload 5, 2) := by decide +kernel
theorem dX6_rankedHead_17 : decode cX6_rankedHead 17 = .ok (.iload_n 2, 1) := by decide +kernel
theorem dX6_rankedHead_18 : decode cX6_rankedHead 18 = .ok (.iload_n 3, 1) := by decide +kernel
theorem dX6_rankedHead_19 : decode cX6_rankedHead 19 = .ok (.invokevirtual 159, 3) := by decide +kernel
theorem dX6_rankedHead_22 : decode cX6_rankedHead 22 = .ok (.iload 4, 2) := by decide +kernel
theorem dX6_rankedHead_24 : decode cX6_rankedHead 24 = .ok (.invokestatic 151, 3) := by decide +kernel
theorem dX6_rankedHead_27 : decode cX6_rankedHead 27 = .ok (.ireturn, 1) := by decide +kernel
set_option maxRecDepth 20000 in
theorem ggX6_correct_X6_find : GoodIn wsX6_correct wsX6_find := goodIn_ca (goodIn_r _ [5, 6, 7, 8, 34, 35, 36, 37, 38, 39, 40] (by decide +kernel) (by decide +kernel)) (goodIn_sub (fun _ h => List.mem_cons_of_mem _ (List.mem_append_left _ (List.mem_append_right _ h))) (by decide +kernel))
set_option maxRecDepth 20000 in
theorem gX6_correct_X6_find : GoodIn wsX6_correct (wsV RX6 62 RX6 yX6_find wsX6_find) := goodIn_app (goodIn_of _ (by decide +kernel)) ggX6_correct_X6_find
set_option maxRecDepth 20000 in
theorem ggX6_correct_X6_checkArc : GoodIn wsX6_correct wsX6_checkArc := goodIn_ca (goodIn_ca (goodIn_r _ [11, 6, 7, 12, 13, 14, 15, 16, 17, 18, 19, 20, 21, 4, 22, 41, 42, 43, 44] (by decide +kernel) (by decide +kernel)) (goodIn_sub (fun _ h => List.mem_cons_of_mem _ (List.mem_append_left _ (List.mem_append_right _ h))) (by decide +kernel))) (goodIn_sub (fun _ h => List.mem_cons_of_mem _ (List.mem_append_right _ h)) (by decide +kernel))
set_option maxRecDepth 20000 in
theorem gX6_correct_X6_checkArc : GoodIn wsX6_correct (va_wsS RX6 104 yX6_checkArc wsX6_checkArc) := goodIn_app (goodIn_of _ (by decide +kernel)) ggX6_correct_X6_checkArc
set_option maxRecDepth 20000 in
theorem ggX6_correct_X2_changeRightHead : GoodIn wsX6_correct wsX2_changeRightHead := goodIn_r _ [26, 27, 28, 29, 30, 17, 31, 32, 4, 33, 41, 42, 43, 44] (by decide +kernel) (by decide +kernel)
set_option maxRecDepth 20000 in
theorem gX6_correct_X2_changeRightHead : GoodIn wsX6_correct (wsV RX6 163 RX2 yX2_changeRightHead wsX2_changeRightHead) := goodIn_app (goodIn_of _ (by decide +kernel)) ggX6_correct_X2_changeRightHead
theorem dX6_correct_0 : decode cX6_correct 0 = .ok (.aload_n 0, 1) := by decide +kernel
theorem dX6_correct_1 : decode cX6_correct 1 = .ok (.iload_n 1, 1) := by decide +kernel
theorem dX6_correct_2 : decode cX6_correct 2 = .ok (.invokevirtual 62, 3) := by decide +kernel
theorem dX6_correct_5 : decode cX6_correct 5 = .ok (.astore 4, 2) := by decide +kernel
theorem dX6_correct_7 : decode cX6_correct 7 = .ok (.aload 4, 2) := by decide +kernel
theorem dX6_correct_9 : decode cX6_correct 9 = .ok (.iload_n 2, 1) := by decide +kernel
theorem dX6_correct_10 : decode cX6_correct 10 = .ok (.iload_n 3, 1) := by decide +kernel
theorem dX6_correct_11 : decode cX6_correct 11 = .ok (.invokestatic 104, 3) := by decide +kernel
theorem dX6_correct_14 : decode cX6_correct 14 = .ok (.aload 4, 2) := by decide +kernel
theorem dX6_correct_16 : decode cX6_correct 16 = .ok (.iload_n 2, 1) := by decide +kernel
theorem dX6_correct_17 : decode cX6_correct 17 = .ok (.iload_n 3, 1) := by decide +kernel
theorem dX6_correct_18 : decode cX6_correct 18 = .ok (.invokevirtual 163, 3) := by decide +kernel
theorem dX6_correct_21 : decode cX6_correct 21 = .ok (.ireturn, 1) := by decide +kernel
set_option maxRecDepth 20000 in
theorem ggX6_matched_X6_find : GoodIn wsX6_matched wsX6_find := goodIn_ca (goodIn_r _ [5, 6, 7, 8, 185, 186, 187, 188, 189, 190, 191] (by decide +kernel) (by decide +kernel)) (goodIn_sub (fun _ h => List.mem_cons_of_mem _ (List.mem_append_left _ (List.mem_append_right _ h))) (by decide +kernel))
set_option maxRecDepth 20000 in
theorem gX6_matched_X6_find : GoodIn wsX6_matched (wsV RX6 62 RX6 yX6_find wsX6_find) := goodIn_app (goodIn_of _ (by decide +kernel)) ggX6_matched_X6_find
set_option maxRecDepth 20000 in
theorem ggX6_matched_X6_bestKey : GoodIn wsX6_matched wsX6_bestKey := goodIn_ca (goodIn_r _ [12, 13, 14, 15, 16, 17, 18, 19, 20, 21, 22, 23, 24, 25, 26, 27, 28, 29, 30, 31, 32, 33, 34, 35, 36, 37, 38, 39, 40, 41, 42, 43, 44, 45, 4, 46, 47, 48, 49, 50, 51, 52, 53, 54, 55, 56, 57, 58, 59, 60, 61, 62, 63, 64, 65, 66, 67, 68, 69, 70, 71, 72, 73, 74, 75, 76, 77, 78, 79, 80, 81, 82, 83, 84, 85, 86, 87, 88, 89, 90, 91, 92, 93, 94, 95, 96, 97, 98, 99, 100, 101, 102, 103, 104, 105, 106, 107, 108, 109, 110, 111, 112, 113, 114, 115, 116, 117, 118, 119, 120, 121, 122, 123, 124, 125, 126, 127, 128, 129, 130, 131, 132, 133, 134, 135, 136, 137, 138, 139, 140, 141, 142, 143, 144, 145, 146, 147, 148, 149, 150, 151, 152, 153, 154, 155, 156, 157, 158, 159, 160, 161, 162, 163, 164, 165, 166, 185, 186, 187, 188, 189, 190, 191, 192, 193, 194, 195, 196, 197, 198, 199, 200, 201, 202, 203, 204, 205, 206, 207, 208, 209, 210, 211, 212, 213, 214] (by decide +kernel) (by decide +kernel)) (goodIn_sub (fun _ h => List.mem_cons_of_mem _ (List.mem_append_right _ h)) (by decide +kernel))
set_option maxRecDepth 20000 in
theorem gX6_matched_X6_bestKey : GoodIn wsX6_matched (wsV RX6 135 RX6 yX6_bestKey wsX6_bestKey) := goodIn_app (goodIn_of _ (by decide +kernel)) ggX6_matched_X6_bestKey
set_option maxRecDepth 20000 in
theorem ggX6_matched_X2_size : GoodIn wsX6_matched wsX2_size := goodIn_r _ [34, 35, 194, 195, 196, 197] (by decide +kernel) (by decide +kernel)
set_option maxRecDepth 20000 in
theorem gX6_matched_X2_size : GoodIn wsX6_matched (wsV RX6 71 RX2 yX2_size wsX2_size) := goodIn_app (goodIn_of _ (by decide +kernel)) ggX6_matched_X2_size
set_option maxRecDepth 20000 in
theorem ggX6_matched_X2_rightHead : GoodIn wsX6_matched wsX2_rightHead := goodIn_r _ [171, 172, 45, 4, 46, 194, 195, 196, 197] (by decide +kernel) (by decide +kernel)
set_option maxRecDepth 20000 in
theorem gX6_matched_X2_rightHead : GoodIn wsX6_matched (wsV RX6 166 RX2 yX2_rightHead wsX2_rightHead) := goodIn_app (goodIn_of _ (by decide +kernel)) ggX6_matched_X2_rightHead
set_option maxRecDepth 20000 in
theorem ggX6_matched_X6_headIn : GoodIn wsX6_matched wsX6_headIn := goodIn_r _ [175, 176, 177, 178, 4, 179, 180, 181, 182, 183, 184] (by decide +kernel) (by decide +kernel)
set_option maxRecDepth 20000 in
theorem gX6_matched_X6_headIn : GoodIn wsX6_matched (va_wsS RX6 151 yX6_headIn wsX6_headIn) := goodIn_app (goodIn_of _ (by decide +kernel)) ggX6_matched_X6_headIn
theorem dX6_matched_0 : decode cX6_matched 0 = .ok (.aload_n 0, 1) := by decide +kernel
theorem dX6_matched_1 : decode cX6_matched 1 = .ok (.iload_n 1, 1) := by decide +kernel
theorem dX6_matched_2 : decode cX6_matched 2 = .ok (.invokevirtual 62, 3) := by decide +kernel
theorem dX6_matched_5 : decode cX6_matched 5 = .ok (.astore_n 2, 1) := by decide +kernel
theorem dX6_matched_6 : decode cX6_matched 6 = .ok (.aload_n 0, 1) := by decide +kernel
theorem dX6_matched_7 : decode cX6_matched 7 = .ok (.aload_n 2, 1) := by decide +kernel
theorem dX6_matched_8 : decode cX6_matched 8 = .ok (.iconst 1, 1) := by decide +kernel
theorem dX6_matched_9 : decode cX6_matched 9 = .ok (.invokevirtual 135, 3) := by decide +kernel
theorem dX6_matched_12 : decode cX6_matched 12 = .ok (.lstore_n 3, 1) := by decide +kernel
theorem dX6_matched_13 : decode cX6_matched 13 = .ok (.iconst 0, 1) := by decide +kernel
theorem dX6_matched_14 : decode cX6_matched 14 = .ok (.istore 5, 2) := by decide +kernel
theorem dX6_matched_16 : decode cX6_matched 16 = .ok (.iconst 1, 1) := by decide +kernel
theorem dX6_matched_17 : decode cX6_matched 17 = .ok (.istore 6, 2) := by decide +kernel
theorem dX6_matched_19 : decode cX6_matched 19 = .ok (.iload 6, 2) := by decide +kernel
theorem dX6_matched_21 : decode cX6_matched 21 = .ok (.aload_n 2, 1) := by decide +kernel
theorem dX6_matched_22 : decode cX6_matched 22 = .ok (.invokevirtual 71, 3) := by decide +kernel
theorem dX6_matched_25 : decode cX6_matched 25 = .ok (.if_icmp .gt 27, 3) := by decide +kernel
theorem dX6_matched_28 : decode cX6_matched 28 = .ok (.aload_n 2, 1) := by decide +kernel
theorem dX6_matched_29 : decode cX6_matched 29 = .ok (.iload 6, 2) := by decide +kernel
theorem dX6_matched_31 : decode cX6_matched 31 = .ok (.invokevirtual 166, 3) := by decide +kernel
theorem dX6_matched_34 : decode cX6_matched 34 = .ok (.lload_n 3, 1) := by decide +kernel
theorem dX6_matched_35 : decode cX6_matched 35 = .ok (.iload 6, 2) := by decide +kernel
theorem dX6_matched_37 : decode cX6_matched 37 = .ok (.invokestatic 151, 3) := by decide +kernel
theorem dX6_matched_40 : decode cX6_matched 40 = .ok (.if_icmp .ne 6, 3) := by decide +kernel
theorem dX6_matched_43 : decode cX6_matched 43 = .ok (.iinc 5 1, 3) := by decide +kernel
theorem dX6_matched_46 : decode cX6_matched 46 = .ok (.iinc 6 1, 3) := by decide +kernel
theorem dX6_matched_49 : decode cX6_matched 49 = .ok (.goto (-30), 3) := by decide +kernel
theorem dX6_matched_52 : decode cX6_matched 52 = .ok (.iload 5, 2) := by decide +kernel
theorem dX6_matched_54 : decode cX6_matched 54 = .ok (.ireturn, 1) := by decide +kernel
set_option maxRecDepth 20000 in
theorem ggX6_mend_X6_find : GoodIn wsX6_mend wsX6_find := goodIn_ca (goodIn_r _ [8, 9, 10, 11, 221, 222, 223, 224, 225, 226, 227] (by decide +kernel) (by decide +kernel)) (goodIn_sub (fun _ h => List.mem_cons_of_mem _ (List.mem_append_right _ h)) (by decide +kernel))
set_option maxRecDepth 20000 in
theorem gX6_mend_X6_find : GoodIn wsX6_mend (wsV RX6 62 RX6 yX6_find wsX6_find) := goodIn_app (goodIn_of _ (by decide +kernel)) ggX6_mend_X6_find
set_option maxRecDepth 20000 in
theorem ggX6_mend_X2_hasRightTree : GoodIn wsX6_mend wsX2_hasRightTree := goodIn_r _ [16, 17, 18, 19, 20, 15, 21, 22, 23, 7, 24, 228, 229, 230, 231] (by decide +kernel) (by decide +kernel)
set_option maxRecDepth 20000 in
theorem gX6_mend_X2_hasRightTree : GoodIn wsX6_mend (wsV RX6 169 RX2 yX2_hasRightTree wsX2_hasRightTree) := goodIn_app (goodIn_of _ (by decide +kernel)) ggX6_mend_X2_hasRightTree
set_option maxRecDepth 20000 in
theorem ggX6_mend_X6_bestKey : GoodIn wsX6_mend wsX6_bestKey := goodIn_ca (goodIn_r _ [28, 29, 3, 30, 31, 32, 33, 34, 35, 36, 37, 38, 39, 40, 41, 42, 43, 44, 45, 46, 47, 15, 48, 17, 49, 50, 51, 52, 53, 54, 55, 56, 57, 23, 7, 24, 58, 59, 60, 61, 62, 63, 64, 65, 66, 67, 68, 69, 70, 71, 72, 73, 74, 75, 76, 77, 78, 79, 80, 81, 82, 83, 84, 85, 86, 87, 88, 89, 90, 91, 92, 93, 94, 95, 96, 97, 98, 99, 100, 101, 102, 103, 104, 105, 106, 107, 108, 109, 110, 111, 112, 113, 114, 115, 116, 117, 118, 119, 120, 121, 122, 123, 124, 125, 126, 127, 128, 129, 130, 131, 132, 133, 134, 135, 136, 137, 138, 139, 140, 141, 142, 143, 144, 145, 146, 147, 148, 149, 150, 151, 152, 153, 154, 155, 156, 157, 158, 159, 160, 161, 162, 163, 164, 165, 166, 167, 168, 169, 170, 171, 172, 173, 174, 1, 2, 175, 221, 222, 223, 224, 225, 226, 227, 232, 233, 228, 229, 230, 231, 234, 235, 236, 237, 238, 239, 240, 241, 242, 243, 244, 245, 246, 247, 248, 249, 250] (by decide +kernel) (by decide +kernel)) (goodIn_sub (fun _ h => List.mem_cons_of_mem _ (List.mem_append_left _ (List.mem_append_right _ h))) (by decide +kernel))
set_option maxRecDepth 20000 in
theorem gX6_mend_X6_bestKey : GoodIn wsX6_mend (wsV RX6 135 RX6 yX6_bestKey wsX6_bestKey) := goodIn_app (goodIn_of _ (by decide +kernel)) ggX6_mend_X6_bestKey
set_option maxRecDepth 20000 in
theorem ggX6_mend_X5_keep : GoodIn wsX6_mend wsX5_keep := goodIn_r _ [179, 180, 80, 181, 182, 183, 184, 185, 186, 187, 188, 189, 190, 191, 38, 39, 40, 192, 193, 65, 194, 234, 235, 236, 237, 238, 239, 240, 241] (by decide +kernel) (by decide +kernel)
set_option maxRecDepth 20000 in
theorem gX6_mend_X5_keep : GoodIn wsX6_mend (wsV RX6 97 RX5 yX5_keep wsX5_keep) := goodIn_app (goodIn_of _ (by decide +kernel)) ggX6_mend_X5_keep
set_option maxRecDepth 20000 in
theorem ggX6_mend_X2_size : GoodIn wsX6_mend wsX2_size := goodIn_r _ [48, 17, 228, 229, 230, 231] (by decide +kernel) (by decide +kernel)
set_option maxRecDepth 20000 in
theorem gX6_mend_X2_size : GoodIn wsX6_mend (wsV RX6 71 RX2 yX2_size wsX2_size) := goodIn_app (goodIn_of _ (by decide +kernel)) ggX6_mend_X2_size
set_option maxRecDepth 20000 in
theorem ggX6_mend_X2_rightHead : GoodIn wsX6_mend wsX2_rightHead := goodIn_r _ [21, 22, 23, 7, 24, 228, 229, 230, 231] (by decide +kernel) (by decide +kernel)
set_option maxRecDepth 20000 in
theorem gX6_mend_X2_rightHead : GoodIn wsX6_mend (wsV RX6 166 RX2 yX2_rightHead wsX2_rightHead) := goodIn_app (goodIn_of _ (by decide +kernel)) ggX6_mend_X2_rightHead
set_option maxRecDepth 20000 in
theorem ggX6_mend_X6_headIn : GoodIn wsX6_mend wsX6_headIn := goodIn_r _ [199, 200, 201, 202, 7, 203, 204, 205, 206, 207, 208] (by decide +kernel) (by decide +kernel)
set_option maxRecDepth 20000 in
theorem gX6_mend_X6_headIn : GoodIn wsX6_mend (va_wsS RX6 151 yX6_headIn wsX6_headIn) := goodIn_app (goodIn_of _ (by decide +kernel)) ggX6_mend_X6_headIn
set_option maxRecDepth 20000 in
theorem ggX6_mend_X5_addToArc : GoodIn wsX6_mend wsX5_addToArc := goodIn_r _ [212, 67, 68, 69, 15, 70, 71, 72, 73, 74, 75, 23, 7, 24, 84, 85, 86, 87, 39, 88, 89, 38, 40, 76, 77, 78, 65, 79, 80, 81, 82, 83, 213, 214, 215, 216, 228, 229, 230, 231, 234, 235, 236, 237, 238, 239, 240, 241] (by decide +kernel) (by decide +kernel)
set_option maxRecDepth 20000 in
theorem gX6_mend_X5_addToArc : GoodIn wsX6_mend (wsV RX6 175 RX5 yX5_addToArc wsX5_addToArc) := goodIn_app (goodIn_of _ (by decide +kernel)) ggX6_mend_X5_addToArc
set_option maxRecDepth 20000 in
theorem ggX6_mend_X5_endStep : GoodIn wsX6_mend wsX5_endStep := goodIn_r _ [220, 186, 80, 189, 234, 235, 236, 237, 238, 239, 240, 241] (by decide +kernel) (by decide +kernel)
set_option maxRecDepth 20000 in
theorem gX6_mend_X5_endStep : GoodIn wsX6_mend (wsV RX6 179 RX5 yX5_endStep wsX5_endStep) := goodIn_app (goodIn_of _ (by decide +kernel)) ggX6_mend_X5_endStep
theorem dX6_mend_0 : decode cX6_mend 0 = .ok (.aload_n 0, 1) := by decide +kernel
theorem dX6_mend_1 : decode cX6_mend 1 = .ok (.iload_n 1, 1) := by decide +kernel
theorem dX6_mend_2 : decode cX6_mend 2 = .ok (.invokevirtual 62, 3) := by decide +kernel
theorem dX6_mend_5 : decode cX6_mend 5 = .ok (.astore_n 2, 1) := by decide +kernel
theorem dX6_mend_6 : decode cX6_mend 6 = .ok (.aload_n 2, 1) := by decide +kernel
theorem dX6_mend_7 : decode cX6_mend 7 = .ok (.invokevirtual 169, 3) := by decide +kernel
theorem dX6_mend_10 : decode cX6_mend 10 = .ok (.ifCond .ne 13, 3) := by decide +kernel
theorem dX6_mend_13 : decode cX6_mend 13 = .ok (.new 54, 3) := by decide +kernel
theorem dX6_mend_16 : decode cX6_mend 16 = .ok (.dup, 1) := by decide +kernel
theorem dX6_mend_17 : decode cX6_mend 17 = .ok (.ldc 173, 2) := by decide +kernel
theorem dX6_mend_19 : decode cX6_mend 19 = .ok (.invokespecial 58, 3) := by decide +kernel
theorem dX6_mend_22 : decode cX6_mend 22 = .ok (.athrow, 1) := by decide +kernel
theorem dX6_mend_23 : decode cX6_mend 23 = .ok (.aload_n 0, 1) := by decide +kernel
theorem dX6_mend_24 : decode cX6_mend 24 = .ok (.aload_n 2, 1) := by decide +kernel
theorem dX6_mend_25 : decode cX6_mend 25 = .ok (.iconst 1, 1) := by decide +kernel
theorem dX6_mend_26 : decode cX6_mend 26 = .ok (.invokevirtual 135, 3) := by decide +kernel
theorem dX6_mend_29 : decode cX6_mend 29 = .ok (.lstore_n 3, 1) := by decide +kernel
theorem dX6_mend_30 : decode cX6_mend 30 = .ok (.aload_n 0, 1) := by decide +kernel
theorem dX6_mend_31 : decode cX6_mend 31 = .ok (.getfield 22, 3) := by decide +kernel
theorem dX6_mend_34 : decode cX6_mend 34 = .ok (.invokevirtual 97, 3) := by decide +kernel
theorem dX6_mend_37 : decode cX6_mend 37 = .ok (.iconst 0, 1) := by decide +kernel
theorem dX6_mend_38 : decode cX6_mend 38 = .ok (.istore 5, 2) := by decide +kernel
theorem dX6_mend_40 : decode cX6_mend 40 = .ok (.iconst 1, 1) := by decide +kernel
theorem dX6_mend_41 : decode cX6_mend 41 = .ok (.istore 6, 2) := by decide +kernel
theorem dX6_mend_43 : decode cX6_mend 43 = .ok (.iload 6, 2) := by decide +kernel
theorem dX6_mend_45 : decode cX6_mend 45 = .ok (.aload_n 2, 1) := by decide +kernel
theorem dX6_mend_46 : decode cX6_mend 46 = .ok (.invokevirtual 71, 3) := by decide +kernel
theorem dX6_mend_49 : decode cX6_mend 49 = .ok (.if_icmp .gt 61, 3) := by decide +kernel
theorem dX6_mend_52 : decode cX6_mend 52 = .ok (.aload_n 2, 1) := by decide +kernel
theorem dX6_mend_53 : decode cX6_mend 53 = .ok (.iload 6, 2) := by decide +kernel
theorem dX6_mend_55 : decode cX6_mend 55 = .ok (.invokevirtual 166, 3) := by decide +kernel
theorem dX6_mend_58 : decode cX6_mend 58 = .ok (.istore 7, 2) := by decide +kernel
theorem dX6_mend_60 : decode cX6_mend 60 = .ok (.lload_n 3, 1) := by decide +kernel
theorem dX6_mend_61 : decode cX6_mend 61 = .ok (.iload 6, 2) := by decide +kernel
theorem dX6_mend_63 : decode cX6_mend 63 = .ok (.invokestatic 151, 3) := by decide +kernel
theorem dX6_mend_66 : decode cX6_mend 66 = .ok (.istore 8, 2) := by decide +kernel
theorem dX6_mend_68 : decode cX6_mend 68 = .ok (.iload 7, 2) := by decide +kernel
theorem dX6_mend_70 : decode cX6_mend 70 = .ok (.iload 8, 2) := by decide +kernel
theorem dX6_mend_72 : decode cX6_mend 72 = .ok (.if_icmp .eq 32, 3) := by decide +kernel
theorem dX6_mend_75 : decode cX6_mend 75 = .ok (.iinc 5 1, 3) := by decide +kernel
theorem dX6_mend_78 : decode cX6_mend 78 = .ok (.aload_n 0, 1) := by decide +kernel
theorem dX6_mend_79 : decode cX6_mend 79 = .ok (.getfield 22, 3) := by decide +kernel
theorem dX6_mend_82 : decode cX6_mend 82 = .ok (.aload_n 2, 1) := by decide +kernel
theorem dX6_mend_83 : decode cX6_mend 83 = .ok (.iload 7, 2) := by decide +kernel
theorem dX6_mend_85 : decode cX6_mend 85 = .ok (.iload 6, 2) := by decide +kernel
theorem dX6_mend_87 : decode cX6_mend 87 = .ok (.iconst 1, 1) := by decide +kernel
theorem dX6_mend_88 : decode cX6_mend 88 = .ok (.invokevirtual 175, 3) := by decide +kernel
theorem dX6_mend_91 : decode cX6_mend 91 = .ok (.aload_n 0, 1) := by decide +kernel
theorem dX6_mend_92 : decode cX6_mend 92 = .ok (.getfield 22, 3) := by decide +kernel
theorem dX6_mend_95 : decode cX6_mend 95 = .ok (.aload_n 2, 1) := by decide +kernel
theorem dX6_mend_96 : decode cX6_mend 96 = .ok (.iload 8, 2) := by decide +kernel
theorem dX6_mend_98 : decode cX6_mend 98 = .ok (.iload 6, 2) := by decide +kernel
theorem dX6_mend_100 : decode cX6_mend 100 = .ok (.iconst (-1), 1) := by decide +kernel
theorem dX6_mend_101 : decode cX6_mend 101 = .ok (.invokevirtual 175, 3) := by decide +kernel
theorem dX6_mend_104 : decode cX6_mend 104 = .ok (.iinc 6 1, 3) := by decide +kernel
theorem dX6_mend_107 : decode cX6_mend 107 = .ok (.goto (-64), 3) := by decide +kernel
theorem dX6_mend_110 : decode cX6_mend 110 = .ok (.aload_n 0, 1) := by decide +kernel
theorem dX6_mend_111 : decode cX6_mend 111 = .ok (.getfield 22, 3) := by decide +kernel
theorem dX6_mend_114 : decode cX6_mend 114 = .ok (.invokevirtual 179, 3) := by decide +kernel
theorem dX6_mend_117 : decode cX6_mend 117 = .ok (.iload 5, 2) := by decide +kernel
theorem dX6_mend_119 : decode cX6_mend 119 = .ok (.ireturn, 1) := by decide +kernel
set_option maxRecDepth 20000 in
theorem ggX6_steps_X5_stepCount : GoodIn wsX6_steps wsX5_stepCount := goodIn_r _ [6, 7, 15, 16, 17, 18, 19, 20, 21, 22] (by decide +kernel) (by decide +kernel)
set_option maxRecDepth 20000 in
theorem gX6_steps_X5_stepCount : GoodIn wsX6_steps (wsV RX6 182 RX5 yX5_stepCount wsX5_stepCount) := goodIn_app (goodIn_of _ (by decide +kernel)) ggX6_steps_X5_stepCount
theorem dX6_steps_0 : decode cX6_steps 0 = .ok (.aload_n 0, 1) := by decide +kernel
theorem dX6_steps_1 : decode cX6_steps 1 = .ok (.getfield 22, 3) := by decide +kernel
theorem dX6_steps_4 : decode cX6_steps 4 = .ok (.invokevirtual 182, 3) := by decide +kernel
theorem dX6_steps_7 : decode cX6_steps 7 = .ok (.ireturn, 1) := by decide +kernel
set_option maxRecDepth 20000 in
theorem ggX6_average_X6_checkFeature : GoodIn wsX6_average wsX6_checkFeature := goodIn_ca (goodIn_r _ [5, 6, 7] (by decide +kernel) (by decide +kernel)) (goodIn_sub (fun _ h => List.mem_cons_of_mem _ (List.mem_append_right _ h)) (by decide +kernel))
set_option maxRecDepth 20000 in
theorem gX6_average_X6_checkFeature : GoodIn wsX6_average (va_wsS RX6 89 yX6_checkFeature wsX6_checkFeature) := goodIn_app (goodIn_of _ (by decide +kernel)) ggX6_average_X6_checkFeature
set_option maxRecDepth 20000 in
theorem ggX6_average_X5_averageOf : GoodIn wsX6_average wsX5_averageOf := goodIn_r _ [12, 13, 14, 15, 16, 11, 17, 25, 26, 27, 28, 29, 30, 31, 32] (by decide +kernel) (by decide +kernel)
set_option maxRecDepth 20000 in
theorem gX6_average_X5_averageOf : GoodIn wsX6_average (wsV RX6 185 RX5 yX5_averageOf wsX5_averageOf) := goodIn_app (goodIn_of _ (by decide +kernel)) ggX6_average_X5_averageOf
theorem dX6_average_0 : decode cX6_average 0 = .ok (.iload_n 1, 1) := by decide +kernel
theorem dX6_average_1 : decode cX6_average 1 = .ok (.invokestatic 89, 3) := by decide +kernel
theorem dX6_average_4 : decode cX6_average 4 = .ok (.aload_n 0, 1) := by decide +kernel
theorem dX6_average_5 : decode cX6_average 5 = .ok (.getfield 22, 3) := by decide +kernel
theorem dX6_average_8 : decode cX6_average 8 = .ok (.iload_n 1, 1) := by decide +kernel
theorem dX6_average_9 : decode cX6_average 9 = .ok (.invokevirtual 185, 3) := by decide +kernel
theorem dX6_average_12 : decode cX6_average 12 = .ok (.dreturn, 1) := by decide +kernel
set_option maxRecDepth 20000 in
theorem ggX6_rollBack_X5_keptCount : GoodIn wsX6_rollBack wsX5_keptCount := goodIn_r _ [8, 9, 35, 36, 37, 38, 39, 40, 41, 42] (by decide +kernel) (by decide +kernel)
set_option maxRecDepth 20000 in
theorem gX6_rollBack_X5_keptCount : GoodIn wsX6_rollBack (wsV RX6 189 RX5 yX5_keptCount wsX5_keptCount) := goodIn_app (goodIn_of _ (by decide +kernel)) ggX6_rollBack_X5_keptCount
set_option maxRecDepth 20000 in
theorem ggX6_rollBack_X5_takeBack : GoodIn wsX6_rollBack wsX5_takeBack := goodIn_r _ [13, 14, 9, 15, 16, 17, 18, 19, 20, 21, 22, 23, 24, 25, 26, 7, 27, 35, 36, 37, 38, 39, 40, 41, 42] (by decide +kernel) (by decide +kernel)
set_option maxRecDepth 20000 in
theorem gX6_rollBack_X5_takeBack : GoodIn wsX6_rollBack (wsV RX6 194 RX5 yX5_takeBack wsX5_takeBack) := goodIn_app (goodIn_of _ (by decide +kernel)) ggX6_rollBack_X5_takeBack
theorem dX6_rollBack_0 : decode cX6_rollBack 0 = .ok (.aload_n 0, 1) := by decide +kernel
theorem dX6_rollBack_1 : decode cX6_rollBack 1 = .ok (.getfield 22, 3) := by decide +kernel
theorem dX6_rollBack_4 : decode cX6_rollBack 4 = .ok (.invokevirtual 189, 3) := by decide +kernel
theorem dX6_rollBack_7 : decode cX6_rollBack 7 = .ok (.ifCond .gt 13, 3) := by decide +kernel
theorem dX6_rollBack_10 : decode cX6_rollBack 10 = .ok (.new 54, 3) := by decide +kernel
theorem dX6_rollBack_13 : decode cX6_rollBack 13 = .ok (.dup, 1) := by decide +kernel
theorem dX6_rollBack_14 : decode cX6_rollBack 14 = .ok (.ldc 192, 2) := by decide +kernel
theorem dX6_rollBack_16 : decode cX6_rollBack 16 = .ok (.invokespecial 58, 3) := by decide +kernel
theorem dX6_rollBack_19 : decode cX6_rollBack 19 = .ok (.athrow, 1) := by decide +kernel
theorem dX6_rollBack_20 : decode cX6_rollBack 20 = .ok (.aload_n 0, 1) := by decide +kernel
theorem dX6_rollBack_21 : decode cX6_rollBack 21 = .ok (.getfield 22, 3) := by decide +kernel
theorem dX6_rollBack_24 : decode cX6_rollBack 24 = .ok (.invokevirtual 194, 3) := by decide +kernel
theorem dX6_rollBack_27 : decode cX6_rollBack 27 = .ok (.aload_n 0, 1) := by decide +kernel
theorem dX6_rollBack_28 : decode cX6_rollBack 28 = .ok (.getfield 22, 3) := by decide +kernel
theorem dX6_rollBack_31 : decode cX6_rollBack 31 = .ok (.invokevirtual 189, 3) := by decide +kernel
theorem dX6_rollBack_34 : decode cX6_rollBack 34 = .ok (.ireturn, 1) := by decide +kernel
theorem dX6_find_0 : decode cX6_find 0 = .ok (.iload_n 1, 1) := by decide +kernel
theorem dX6_find_1 : decode cX6_find 1 = .ok (.ifCond .lt 12, 3) := by decide +kernel
theorem dX6_find_4 : decode cX6_find 4 = .ok (.iload_n 1, 1) := by decide +kernel
theorem dX6_find_5 : decode cX6_find 5 = .ok (.aload_n 0, 1) := by decide +kernel
theorem dX6_find_6 : decode cX6_find 6 = .ok (.getfield 11, 3) := by decide +kernel
theorem dX6_find_9 : decode cX6_find 9 = .ok (.arraylength, 1) := by decide +kernel
theorem dX6_find_10 : decode cX6_find 10 = .ok (.if_icmp .lt 13, 3) := by decide +kernel
theorem dX6_find_13 : decode cX6_find 13 = .ok (.new 197, 3) := by decide +kernel
theorem dX6_find_16 : decode cX6_find 16 = .ok (.dup, 1) := by decide +kernel
theorem dX6_find_17 : decode cX6_find 17 = .ok (.ldc 199, 2) := by decide +kernel
theorem dX6_find_19 : decode cX6_find 19 = .ok (.invokespecial 201, 3) := by decide +kernel
theorem dX6_find_22 : decode cX6_find 22 = .ok (.athrow, 1) := by decide +kernel
theorem dX6_find_23 : decode cX6_find 23 = .ok (.aload_n 0, 1) := by decide +kernel
theorem dX6_find_24 : decode cX6_find 24 = .ok (.getfield 11, 3) := by decide +kernel
theorem dX6_find_27 : decode cX6_find 27 = .ok (.iload_n 1, 1) := by decide +kernel
theorem dX6_find_28 : decode cX6_find 28 = .ok (.aaload, 1) := by decide +kernel
theorem dX6_find_29 : decode cX6_find 29 = .ok (.astore_n 2, 1) := by decide +kernel
theorem dX6_find_30 : decode cX6_find 30 = .ok (.aload_n 2, 1) := by decide +kernel
theorem dX6_find_31 : decode cX6_find 31 = .ok (.ifnonnull 13, 3) := by decide +kernel
theorem dX6_find_34 : decode cX6_find 34 = .ok (.new 197, 3) := by decide +kernel
theorem dX6_find_37 : decode cX6_find 37 = .ok (.dup, 1) := by decide +kernel
theorem dX6_find_38 : decode cX6_find 38 = .ok (.ldc 199, 2) := by decide +kernel
theorem dX6_find_40 : decode cX6_find 40 = .ok (.invokespecial 201, 3) := by decide +kernel
theorem dX6_find_43 : decode cX6_find 43 = .ok (.athrow, 1) := by decide +kernel
theorem dX6_find_44 : decode cX6_find 44 = .ok (.aload_n 2, 1) := by decide +kernel
theorem dX6_find_45 : decode cX6_find 45 = .ok (.areturn, 1) := by decide +kernel
set_option maxRecDepth 20000 in
theorem ggX6_checkWord_X2_size : GoodIn wsX6_checkWord wsX2_size := goodIn_r _ [7, 8, 9, 10, 11, 12] (by decide +kernel) (by decide +kernel)
set_option maxRecDepth 20000 in
theorem gX6_checkWord_X2_size : GoodIn wsX6_checkWord (wsV RX6 71 RX2 yX2_size wsX2_size) := goodIn_app (goodIn_of _ (by decide +kernel)) ggX6_checkWord_X2_size
theorem dX6_checkWord_0 : decode cX6_checkWord 0 = .ok (.iload_n 1, 1) := by decide +kernel
theorem dX6_checkWord_1 : decode cX6_checkWord 1 = .ok (.iconst 1, 1) := by decide +kernel
theorem dX6_checkWord_2 : decode cX6_checkWord 2 = .ok (.if_icmp .lt 11, 3) := by decide +kernel
theorem dX6_checkWord_5 : decode cX6_checkWord 5 = .ok (.iload_n 1, 1) := by decide +kernel
theorem dX6_checkWord_6 : decode cX6_checkWord 6 = .ok (.aload_n 0, 1) := by decide +kernel
theorem dX6_checkWord_7 : decode cX6_checkWord 7 = .ok (.invokevirtual 71, 3) := by decide +kernel
theorem dX6_checkWord_10 : decode cX6_checkWord 10 = .ok (.if_icmp .le 13, 3) := by decide +kernel
theorem dX6_checkWord_13 : decode cX6_checkWord 13 = .ok (.new 197, 3) := by decide +kernel
theorem dX6_checkWord_16 : decode cX6_checkWord 16 = .ok (.dup, 1) := by decide +kernel
theorem dX6_checkWord_17 : decode cX6_checkWord 17 = .ok (.ldc 202, 2) := by decide +kernel
theorem dX6_checkWord_19 : decode cX6_checkWord 19 = .ok (.invokespecial 201, 3) := by decide +kernel
theorem dX6_checkWord_22 : decode cX6_checkWord 22 = .ok (.athrow, 1) := by decide +kernel
theorem dX6_checkWord_23 : decode cX6_checkWord 23 = .ok (.return_, 1) := by decide +kernel
set_option maxRecDepth 20000 in
theorem ggX6_checkArc_X2_size : GoodIn wsX6_checkArc wsX2_size := goodIn_r _ [9, 10, 15, 16, 17, 18] (by decide +kernel) (by decide +kernel)
set_option maxRecDepth 20000 in
theorem gX6_checkArc_X2_size : GoodIn wsX6_checkArc (wsV RX6 71 RX2 yX2_size wsX2_size) := goodIn_app (goodIn_of _ (by decide +kernel)) ggX6_checkArc_X2_size
set_option maxRecDepth 20000 in
theorem ggX6_checkArc_X6_checkWord : GoodIn wsX6_checkArc wsX6_checkWord := goodIn_ca (goodIn_r _ [14, 1, 2, 5, 6, 7, 8, 9, 10, 15, 16, 17, 18] (by decide +kernel) (by decide +kernel)) (goodIn_sub (fun _ h => List.mem_cons_of_mem _ (List.mem_append_left _ (List.mem_append_right _ h))) (by decide +kernel))
set_option maxRecDepth 20000 in
theorem gX6_checkArc_X6_checkWord : GoodIn wsX6_checkArc (va_wsS RX6 81 yX6_checkWord wsX6_checkWord) := goodIn_app (goodIn_of _ (by decide +kernel)) ggX6_checkArc_X6_checkWord
theorem dX6_checkArc_0 : decode cX6_checkArc 0 = .ok (.iload_n 1, 1) := by decide +kernel
theorem dX6_checkArc_1 : decode cX6_checkArc 1 = .ok (.ifCond .lt 11, 3) := by decide +kernel
theorem dX6_checkArc_4 : decode cX6_checkArc 4 = .ok (.iload_n 1, 1) := by decide +kernel
theorem dX6_checkArc_5 : decode cX6_checkArc 5 = .ok (.aload_n 0, 1) := by decide +kernel
theorem dX6_checkArc_6 : decode cX6_checkArc 6 = .ok (.invokevirtual 71, 3) := by decide +kernel
theorem dX6_checkArc_9 : decode cX6_checkArc 9 = .ok (.if_icmp .le 13, 3) := by decide +kernel
theorem dX6_checkArc_12 : decode cX6_checkArc 12 = .ok (.new 197, 3) := by decide +kernel
theorem dX6_checkArc_15 : decode cX6_checkArc 15 = .ok (.dup, 1) := by decide +kernel
theorem dX6_checkArc_16 : decode cX6_checkArc 16 = .ok (.ldc 204, 2) := by decide +kernel
theorem dX6_checkArc_18 : decode cX6_checkArc 18 = .ok (.invokespecial 201, 3) := by decide +kernel
theorem dX6_checkArc_21 : decode cX6_checkArc 21 = .ok (.athrow, 1) := by decide +kernel
theorem dX6_checkArc_22 : decode cX6_checkArc 22 = .ok (.aload_n 0, 1) := by decide +kernel
theorem dX6_checkArc_23 : decode cX6_checkArc 23 = .ok (.iload_n 2, 1) := by decide +kernel
theorem dX6_checkArc_24 : decode cX6_checkArc 24 = .ok (.invokestatic 81, 3) := by decide +kernel
theorem dX6_checkArc_27 : decode cX6_checkArc 27 = .ok (.iload_n 1, 1) := by decide +kernel
theorem dX6_checkArc_28 : decode cX6_checkArc 28 = .ok (.iload_n 2, 1) := by decide +kernel
theorem dX6_checkArc_29 : decode cX6_checkArc 29 = .ok (.if_icmp .ne 13, 3) := by decide +kernel
theorem dX6_checkArc_32 : decode cX6_checkArc 32 = .ok (.new 66, 3) := by decide +kernel
theorem dX6_checkArc_35 : decode cX6_checkArc 35 = .ok (.dup, 1) := by decide +kernel
theorem dX6_checkArc_36 : decode cX6_checkArc 36 = .ok (.ldc 206, 2) := by decide +kernel
theorem dX6_checkArc_38 : decode cX6_checkArc 38 = .ok (.invokespecial 70, 3) := by decide +kernel
theorem dX6_checkArc_41 : decode cX6_checkArc 41 = .ok (.athrow, 1) := by decide +kernel
theorem dX6_checkArc_42 : decode cX6_checkArc 42 = .ok (.return_, 1) := by decide +kernel
theorem dX6_checkFeature_0 : decode cX6_checkFeature 0 = .ok (.iload_n 0, 1) := by decide +kernel
theorem dX6_checkFeature_1 : decode cX6_checkFeature 1 = .ok (.ifCond .lt 9, 3) := by decide +kernel
theorem dX6_checkFeature_4 : decode cX6_checkFeature 4 = .ok (.iload_n 0, 1) := by decide +kernel
theorem dX6_checkFeature_5 : decode cX6_checkFeature 5 = .ok (.bipush 28, 2) := by decide +kernel
theorem dX6_checkFeature_7 : decode cX6_checkFeature 7 = .ok (.if_icmp .lt 13, 3) := by decide +kernel
theorem dX6_checkFeature_10 : decode cX6_checkFeature 10 = .ok (.new 197, 3) := by decide +kernel
theorem dX6_checkFeature_13 : decode cX6_checkFeature 13 = .ok (.dup, 1) := by decide +kernel
theorem dX6_checkFeature_14 : decode cX6_checkFeature 14 = .ok (.ldc 208, 2) := by decide +kernel
theorem dX6_checkFeature_16 : decode cX6_checkFeature 16 = .ok (.invokespecial 201, 3) := by decide +kernel
theorem dX6_checkFeature_19 : decode cX6_checkFeature 19 = .ok (.athrow, 1) := by decide +kernel
theorem dX6_checkFeature_20 : decode cX6_checkFeature 20 = .ok (.return_, 1) := by decide +kernel
theorem dX6_checkTree_0 : decode cX6_checkTree 0 = .ok (.lload_n 0, 1) := by decide +kernel
theorem dX6_checkTree_1 : decode cX6_checkTree 1 = .ok (.ldc2_w 210, 3) := by decide +kernel
theorem dX6_checkTree_4 : decode cX6_checkTree 4 = .ok (.lcmp, 1) := by decide +kernel
theorem dX6_checkTree_5 : decode cX6_checkTree 5 = .ok (.ifCond .ne 13, 3) := by decide +kernel
theorem dX6_checkTree_8 : decode cX6_checkTree 8 = .ok (.new 54, 3) := by decide +kernel
theorem dX6_checkTree_11 : decode cX6_checkTree 11 = .ok (.dup, 1) := by decide +kernel
theorem dX6_checkTree_12 : decode cX6_checkTree 12 = .ok (.ldc 212, 2) := by decide +kernel
theorem dX6_checkTree_14 : decode cX6_checkTree 14 = .ok (.invokespecial 58, 3) := by decide +kernel
theorem dX6_checkTree_17 : decode cX6_checkTree 17 = .ok (.athrow, 1) := by decide +kernel
theorem dX6_checkTree_18 : decode cX6_checkTree 18 = .ok (.return_, 1) := by decide +kernel
set_option maxRecDepth 20000 in
theorem ggX6_tryAll_X0_fill : GoodIn wsX6_tryAll wsX0_fill := goodIn_r _ [8, 9, 10, 11, 12, 13, 14, 15, 16, 17, 18, 19, 20, 21, 22, 23, 24, 25, 26, 27, 28, 29, 30, 31, 32, 33, 34, 35, 36, 37, 38, 39, 40, 41, 42, 43, 44, 45, 46, 47, 48, 49, 50, 51, 52, 53, 54, 55, 56, 57, 58, 59, 60, 61, 62, 63, 64, 65, 66, 111, 112, 113, 114, 115, 116, 117, 118, 119, 120, 121, 122, 123, 124] (by decide +kernel) (by decide +kernel)
set_option maxRecDepth 20000 in
theorem gX6_tryAll_X0_fill : GoodIn wsX6_tryAll (wsV RX6 214 RX0 yX0_fill wsX0_fill) := goodIn_app (goodIn_of _ (by decide +kernel)) ggX6_tryAll_X0_fill
set_option maxRecDepth 20000 in
theorem ggX6_tryAll_X4_run : GoodIn wsX6_tryAll wsX4_run := goodIn_r _ [71, 72, 73, 74, 70, 75, 76, 77, 78, 79, 80, 7, 81, 13, 82, 83, 84, 85, 86, 87, 88, 89, 90, 14, 15, 32, 33, 34, 91, 92, 93, 94, 95, 96, 97, 98, 99, 100, 66, 10, 11, 12, 101, 102, 103, 125, 126, 127, 111, 112] (by decide +kernel) (by decide +kernel)
set_option maxRecDepth 20000 in
theorem gX6_tryAll_X4_run : GoodIn wsX6_tryAll (wsV RX6 218 RX4 yX4_run wsX4_run) := goodIn_app (goodIn_of _ (by decide +kernel)) ggX6_tryAll_X4_run
theorem dX6_tryAll_0 : decode cX6_tryAll 0 = .ok (.aload_n 0, 1) := by decide +kernel
theorem dX6_tryAll_1 : decode cX6_tryAll 1 = .ok (.getfield 29, 3) := by decide +kernel
theorem dX6_tryAll_4 : decode cX6_tryAll 4 = .ok (.aload_n 1, 1) := by decide +kernel
theorem dX6_tryAll_5 : decode cX6_tryAll 5 = .ok (.aload_n 0, 1) := by decide +kernel
theorem dX6_tryAll_6 : decode cX6_tryAll 6 = .ok (.getfield 22, 3) := by decide +kernel
theorem dX6_tryAll_9 : decode cX6_tryAll 9 = .ok (.invokevirtual 214, 3) := by decide +kernel
theorem dX6_tryAll_12 : decode cX6_tryAll 12 = .ok (.aload_n 0, 1) := by decide +kernel
theorem dX6_tryAll_13 : decode cX6_tryAll 13 = .ok (.getfield 50, 3) := by decide +kernel
theorem dX6_tryAll_16 : decode cX6_tryAll 16 = .ok (.aload_n 0, 1) := by decide +kernel
theorem dX6_tryAll_17 : decode cX6_tryAll 17 = .ok (.getfield 29, 3) := by decide +kernel
theorem dX6_tryAll_20 : decode cX6_tryAll 20 = .ok (.iload_n 2, 1) := by decide +kernel
theorem dX6_tryAll_21 : decode cX6_tryAll 21 = .ok (.invokevirtual 218, 3) := by decide +kernel
theorem dX6_tryAll_24 : decode cX6_tryAll 24 = .ok (.aload_n 0, 1) := by decide +kernel
theorem dX6_tryAll_25 : decode cX6_tryAll 25 = .ok (.getfield 50, 3) := by decide +kernel
theorem dX6_tryAll_28 : decode cX6_tryAll 28 = .ok (.areturn, 1) := by decide +kernel
set_option maxRecDepth 20000 in
theorem ggX6_bestKey_X0_fill : GoodIn wsX6_bestKey wsX0_fill := goodIn_r _ [9, 10, 11, 12, 13, 14, 15, 16, 17, 18, 19, 20, 21, 22, 23, 24, 25, 26, 27, 28, 29, 30, 31, 32, 33, 34, 35, 36, 37, 38, 39, 40, 41, 42, 43, 44, 45, 46, 47, 48, 49, 50, 51, 52, 53, 54, 55, 56, 57, 58, 59, 60, 61, 62, 63, 64, 65, 66, 67, 163, 164, 165, 166, 167, 168, 169, 170, 171, 172, 173, 174, 175, 176] (by decide +kernel) (by decide +kernel)
set_option maxRecDepth 20000 in
theorem gX6_bestKey_X0_fill : GoodIn wsX6_bestKey (wsV RX6 214 RX0 yX0_fill wsX0_fill) := goodIn_app (goodIn_of _ (by decide +kernel)) ggX6_bestKey_X0_fill
set_option maxRecDepth 20000 in
theorem ggX6_bestKey_X1_greatest : GoodIn wsX6_bestKey wsX1_greatest := goodIn_r _ [72, 73, 11, 12, 13, 74, 75, 76, 77, 78, 79, 8, 80, 14, 81, 82, 83, 84, 15, 16, 33, 34, 35, 85, 86, 87, 71, 88, 89, 90, 91, 92, 93, 94, 95, 96, 97, 98, 99, 100, 101, 102, 103, 104, 105, 106, 107, 108, 109, 110, 111, 112, 113, 114, 115, 116, 117, 118, 119, 120, 121, 122, 177, 178, 179, 180, 181, 163, 164] (by decide +kernel) (by decide +kernel)
set_option maxRecDepth 20000 in
theorem gX6_bestKey_X1_greatest : GoodIn wsX6_bestKey (wsV RX6 222 RX1 yX1_greatest wsX1_greatest) := goodIn_app (goodIn_of _ (by decide +kernel)) ggX6_bestKey_X1_greatest
set_option maxRecDepth 20000 in
theorem ggX6_bestKey_X3_greatest : GoodIn wsX6_bestKey wsX3_greatest := goodIn_r _ [127, 128, 11, 12, 13, 129, 130, 131, 132, 78, 79, 8, 80, 14, 133, 134, 135, 126, 136, 137, 138, 139, 140, 141, 33, 34, 35, 142, 143, 144, 145, 82, 83, 84, 15, 16, 146, 147, 148, 149, 182, 183, 184, 185, 163, 164] (by decide +kernel) (by decide +kernel)
set_option maxRecDepth 20000 in
theorem gX6_bestKey_X3_greatest : GoodIn wsX6_bestKey (wsV RX6 225 RX3 yX3_greatest wsX3_greatest) := goodIn_app (goodIn_of _ (by decide +kernel)) ggX6_bestKey_X3_greatest
set_option maxRecDepth 20000 in
theorem ggX6_bestKey_X6_checkTree : GoodIn wsX6_bestKey wsX6_checkTree := goodIn_ca (goodIn_r _ [152, 153, 154, 155] (by decide +kernel) (by decide +kernel)) (goodIn_sub (fun _ h => List.mem_cons_of_mem _ (List.mem_append_right _ h)) (by decide +kernel))
set_option maxRecDepth 20000 in
theorem gX6_bestKey_X6_checkTree : GoodIn wsX6_bestKey (va_wsS RX6 147 yX6_checkTree wsX6_checkTree) := goodIn_app (goodIn_of _ (by decide +kernel)) ggX6_bestKey_X6_checkTree
theorem dX6_bestKey_0 : decode cX6_bestKey 0 = .ok (.aload_n 0, 1) := by decide +kernel
theorem dX6_bestKey_1 : decode cX6_bestKey 1 = .ok (.getfield 29, 3) := by decide +kernel
theorem dX6_bestKey_4 : decode cX6_bestKey 4 = .ok (.aload_n 1, 1) := by decide +kernel
theorem dX6_bestKey_5 : decode cX6_bestKey 5 = .ok (.aload_n 0, 1) := by decide +kernel
theorem dX6_bestKey_6 : decode cX6_bestKey 6 = .ok (.getfield 22, 3) := by decide +kernel
theorem dX6_bestKey_9 : decode cX6_bestKey 9 = .ok (.invokevirtual 214, 3) := by decide +kernel
theorem dX6_bestKey_12 : decode cX6_bestKey 12 = .ok (.iload_n 2, 1) := by decide +kernel
theorem dX6_bestKey_13 : decode cX6_bestKey 13 = .ok (.ifCond .eq 17, 3) := by decide +kernel
theorem dX6_bestKey_16 : decode cX6_bestKey 16 = .ok (.aload_n 0, 1) := by decide +kernel
theorem dX6_bestKey_17 : decode cX6_bestKey 17 = .ok (.getfield 43, 3) := by decide +kernel
theorem dX6_bestKey_20 : decode cX6_bestKey 20 = .ok (.aload_n 0, 1) := by decide +kernel
theorem dX6_bestKey_21 : decode cX6_bestKey 21 = .ok (.getfield 29, 3) := by decide +kernel
theorem dX6_bestKey_24 : decode cX6_bestKey 24 = .ok (.invokevirtual 222, 3) := by decide +kernel
theorem dX6_bestKey_27 : decode cX6_bestKey 27 = .ok (.goto 14, 3) := by decide +kernel
theorem dX6_bestKey_30 : decode cX6_bestKey 30 = .ok (.aload_n 0, 1) := by decide +kernel
theorem dX6_bestKey_31 : decode cX6_bestKey 31 = .ok (.getfield 36, 3) := by decide +kernel
theorem dX6_bestKey_34 : decode cX6_bestKey 34 = .ok (.aload_n 0, 1) := by decide +kernel
theorem dX6_bestKey_35 : decode cX6_bestKey 35 = .ok (.getfield 29, 3) := by decide +kernel
theorem dX6_bestKey_38 : decode cX6_bestKey 38 = .ok (.invokevirtual 225, 3) := by decide +kernel
theorem dX6_bestKey_41 : decode cX6_bestKey 41 = .ok (.lstore_n 3, 1) := by decide +kernel
theorem dX6_bestKey_42 : decode cX6_bestKey 42 = .ok (.lload_n 3, 1) := by decide +kernel
theorem dX6_bestKey_43 : decode cX6_bestKey 43 = .ok (.invokestatic 147, 3) := by decide +kernel
theorem dX6_bestKey_46 : decode cX6_bestKey 46 = .ok (.lload_n 3, 1) := by decide +kernel
theorem dX6_bestKey_47 : decode cX6_bestKey 47 = .ok (.lreturn, 1) := by decide +kernel
set_option maxRecDepth 20000 in
theorem ggX6_rankedKey_X6_tryAll : GoodIn wsX6_rankedKey wsX6_tryAll := goodIn_r _ [7, 8, 9, 10, 11, 12, 13, 14, 15, 16, 17, 18, 19, 20, 21, 22, 23, 24, 25, 26, 27, 28, 29, 30, 31, 32, 33, 34, 35, 36, 37, 38, 39, 6, 40, 41, 42, 43, 44, 45, 46, 47, 48, 49, 50, 51, 52, 53, 54, 55, 56, 57, 58, 59, 60, 61, 62, 63, 64, 65, 66, 67, 68, 69, 70, 71, 72, 73, 74, 75, 76, 77, 78, 79, 80, 81, 82, 83, 84, 85, 86, 87, 88, 89, 90, 91, 92, 93, 94, 95, 96, 97, 98, 99, 100, 101, 102, 103, 104, 105, 106, 107, 108, 109, 137, 138, 139, 140, 141, 142, 143, 144, 145, 146, 147, 148, 149, 150, 151, 152, 153, 154, 155, 156, 157, 158, 159, 160] (by decide +kernel) (by decide +kernel)
set_option maxRecDepth 20000 in
theorem gX6_rankedKey_X6_tryAll : GoodIn wsX6_rankedKey (wsV RX6 130 RX6 yX6_tryAll wsX6_tryAll) := goodIn_app (goodIn_of _ (by decide +kernel)) ggX6_rankedKey_X6_tryAll
set_option maxRecDepth 20000 in
theorem ggX6_rankedKey_X4_size : GoodIn wsX6_rankedKey wsX4_size := goodIn_r _ [113, 78, 158, 159, 160] (by decide +kernel) (by decide +kernel)
set_option maxRecDepth 20000 in
theorem gX6_rankedKey_X4_size : GoodIn wsX6_rankedKey (wsV RX6 134 RX4 yX4_size wsX4_size) := goodIn_app (goodIn_of _ (by decide +kernel)) ggX6_rankedKey_X4_size
set_option maxRecDepth 20000 in
theorem ggX6_rankedKey_X4_ofRank : GoodIn wsX6_rankedKey wsX4_ofRank := goodIn_r _ [117, 118, 119, 120, 121, 76, 122, 82, 78, 92, 123, 124, 18, 125, 126, 127, 128, 129, 130, 131, 132, 133, 134, 135, 136, 158, 159, 160] (by decide +kernel) (by decide +kernel)
set_option maxRecDepth 20000 in
theorem gX6_rankedKey_X4_ofRank : GoodIn wsX6_rankedKey (wsV RX6 228 RX4 yX4_ofRank wsX4_ofRank) := goodIn_app (goodIn_of _ (by decide +kernel)) ggX6_rankedKey_X4_ofRank
theorem dX6_rankedKey_0 : decode cX6_rankedKey 0 = .ok (.aload_n 0, 1) := by decide +kernel
theorem dX6_rankedKey_1 : decode cX6_rankedKey 1 = .ok (.aload_n 1, 1) := by decide +kernel
theorem dX6_rankedKey_2 : decode cX6_rankedKey 2 = .ok (.iload_n 2, 1) := by decide +kernel
theorem dX6_rankedKey_3 : decode cX6_rankedKey 3 = .ok (.invokevirtual 130, 3) := by decide +kernel
theorem dX6_rankedKey_6 : decode cX6_rankedKey 6 = .ok (.astore 4, 2) := by decide +kernel
theorem dX6_rankedKey_8 : decode cX6_rankedKey 8 = .ok (.iload_n 3, 1) := by decide +kernel
theorem dX6_rankedKey_9 : decode cX6_rankedKey 9 = .ok (.ifCond .lt 12, 3) := by decide +kernel
theorem dX6_rankedKey_12 : decode cX6_rankedKey 12 = .ok (.iload_n 3, 1) := by decide +kernel
theorem dX6_rankedKey_13 : decode cX6_rankedKey 13 = .ok (.aload 4, 2) := by decide +kernel
theorem dX6_rankedKey_15 : decode cX6_rankedKey 15 = .ok (.invokevirtual 134, 3) := by decide +kernel
theorem dX6_rankedKey_18 : decode cX6_rankedKey 18 = .ok (.if_icmp .lt 13, 3) := by decide +kernel
theorem dX6_rankedKey_21 : decode cX6_rankedKey 21 = .ok (.new 197, 3) := by decide +kernel
theorem dX6_rankedKey_24 : decode cX6_rankedKey 24 = .ok (.dup, 1) := by decide +kernel
theorem dX6_rankedKey_25 : decode cX6_rankedKey 25 = .ok (.ldc 226, 2) := by decide +kernel
theorem dX6_rankedKey_27 : decode cX6_rankedKey 27 = .ok (.invokespecial 201, 3) := by decide +kernel
theorem dX6_rankedKey_30 : decode cX6_rankedKey 30 = .ok (.athrow, 1) := by decide +kernel
theorem dX6_rankedKey_31 : decode cX6_rankedKey 31 = .ok (.aload 4, 2) := by decide +kernel
theorem dX6_rankedKey_33 : decode cX6_rankedKey 33 = .ok (.iload_n 3, 1) := by decide +kernel
theorem dX6_rankedKey_34 : decode cX6_rankedKey 34 = .ok (.invokevirtual 228, 3) := by decide +kernel
theorem dX6_rankedKey_37 : decode cX6_rankedKey 37 = .ok (.lreturn, 1) := by decide +kernel
set_option maxRecDepth 20000 in
theorem ggX6_rowOfHeads_J9_floorMod_f86c9 : GoodIn wsX6_rowOfHeads wsJ9_floorMod_f86c9 := goodIn_r _ [5] (by decide +kernel) (by decide +kernel)
set_option maxRecDepth 20000 in
theorem gX6_rowOfHeads_J9_floorMod_f86c9 : GoodIn wsX6_rowOfHeads (va_wsS RX6 234 yJ9_floorMod_f86c9 wsJ9_floorMod_f86c9) := goodIn_app (goodIn_of _ (by decide +kernel)) ggX6_rowOfHeads_J9_floorMod_f86c9
theorem dX6_rowOfHeads_0 : decode cX6_rowOfHeads 0 = .ok (.lload_n 0, 1) := by decide +kernel
theorem dX6_rowOfHeads_1 : decode cX6_rowOfHeads 1 = .ok (.lneg, 1) := by decide +kernel
theorem dX6_rowOfHeads_2 : decode cX6_rowOfHeads 2 = .ok (.ldc2_w 232, 3) := by decide +kernel
theorem dX6_rowOfHeads_5 : decode cX6_rowOfHeads 5 = .ok (.invokestatic 234, 3) := by decide +kernel
theorem dX6_rowOfHeads_8 : decode cX6_rowOfHeads 8 = .ok (.lreturn, 1) := by decide +kernel
set_option maxRecDepth 20000 in
theorem ggX6_scoreIn_X6_rowOfHeads : GoodIn wsX6_scoreIn wsX6_rowOfHeads := goodIn_r _ [5, 1, 6, 7, 8, 9] (by decide +kernel) (by decide +kernel)
set_option maxRecDepth 20000 in
theorem gX6_scoreIn_X6_rowOfHeads : GoodIn wsX6_scoreIn (va_wsS RX6 240 yX6_rowOfHeads wsX6_rowOfHeads) := goodIn_app (goodIn_of _ (by decide +kernel)) ggX6_scoreIn_X6_rowOfHeads
theorem dX6_scoreIn_0 : decode cX6_scoreIn 0 = .ok (.lload_n 0, 1) := by decide +kernel
theorem dX6_scoreIn_1 : decode cX6_scoreIn 1 = .ok (.lload_n 0, 1) := by decide +kernel
theorem dX6_scoreIn_2 : decode cX6_scoreIn 2 = .ok (.invokestatic 240, 3) := by decide +kernel
theorem dX6_scoreIn_5 : decode cX6_scoreIn 5 = .ok (.ladd, 1) := by decide +kernel
theorem dX6_scoreIn_6 : decode cX6_scoreIn 6 = .ok (.ldc2_w 232, 3) := by decide +kernel
theorem dX6_scoreIn_9 : decode cX6_scoreIn 9 = .ok (.ldiv, 1) := by decide +kernel
theorem dX6_scoreIn_10 : decode cX6_scoreIn 10 = .ok (.l2i, 1) := by decide +kernel
theorem dX6_scoreIn_11 : decode cX6_scoreIn 11 = .ok (.ireturn, 1) := by decide +kernel
set_option maxRecDepth 20000 in
theorem ggX6_headIn_X6_rowOfHeads : GoodIn wsX6_headIn wsX6_rowOfHeads := goodIn_r _ [5, 6, 7, 8, 9, 10] (by decide +kernel) (by decide +kernel)
set_option maxRecDepth 20000 in
theorem gX6_headIn_X6_rowOfHeads : GoodIn wsX6_headIn (va_wsS RX6 240 yX6_rowOfHeads wsX6_rowOfHeads) := goodIn_app (goodIn_of _ (by decide +kernel)) ggX6_headIn_X6_rowOfHeads
theorem dX6_headIn_0 : decode cX6_headIn 0 = .ok (.lload_n 0, 1) := by decide +kernel
theorem dX6_headIn_1 : decode cX6_headIn 1 = .ok (.invokestatic 240, 3) := by decide +kernel
theorem dX6_headIn_4 : decode cX6_headIn 4 = .ok (.lstore_n 3, 1) := by decide +kernel
theorem dX6_headIn_5 : decode cX6_headIn 5 = .ok (.bipush 6, 2) := by decide +kernel
theorem dX6_headIn_7 : decode cX6_headIn 7 = .ok (.istore 5, 2) := by decide +kernel
theorem dX6_headIn_9 : decode cX6_headIn 9 = .ok (.iload 5, 2) := by decide +kernel
theorem dX6_headIn_11 : decode cX6_headIn 11 = .ok (.iload_n 2, 1) := by decide +kernel
theorem dX6_headIn_12 : decode cX6_headIn 12 = .ok (.if_icmp .le 15, 3) := by decide +kernel
theorem dX6_headIn_15 : decode cX6_headIn 15 = .ok (.lload_n 3, 1) := by decide +kernel
theorem dX6_headIn_16 : decode cX6_headIn 16 = .ok (.ldc2_w 244, 3) := by decide +kernel
theorem dX6_headIn_19 : decode cX6_headIn 19 = .ok (.ldiv, 1) := by decide +kernel
theorem dX6_headIn_20 : decode cX6_headIn 20 = .ok (.lstore_n 3, 1) := by decide +kernel
theorem dX6_headIn_21 : decode cX6_headIn 21 = .ok (.iinc 5 (-1), 3) := by decide +kernel
theorem dX6_headIn_24 : decode cX6_headIn 24 = .ok (.goto (-15), 3) := by decide +kernel
theorem dX6_headIn_27 : decode cX6_headIn 27 = .ok (.lload_n 3, 1) := by decide +kernel
theorem dX6_headIn_28 : decode cX6_headIn 28 = .ok (.ldc2_w 244, 3) := by decide +kernel
theorem dX6_headIn_31 : decode cX6_headIn 31 = .ok (.lrem, 1) := by decide +kernel
theorem dX6_headIn_32 : decode cX6_headIn 32 = .ok (.l2i, 1) := by decide +kernel
theorem dX6_headIn_33 : decode cX6_headIn 33 = .ok (.ireturn, 1) := by decide +kernel
theorem dX6_byDistance_0 : decode cX6_byDistance 0 = .ok (.iload_n 0, 1) := by decide +kernel
theorem dX6_byDistance_1 : decode cX6_byDistance 1 = .ok (.iload_n 1, 1) := by decide +kernel
theorem dX6_byDistance_2 : decode cX6_byDistance 2 = .ok (.isub, 1) := by decide +kernel
theorem dX6_byDistance_3 : decode cX6_byDistance 3 = .ok (.invokestatic 246, 3) := by decide +kernel
theorem dX6_byDistance_6 : decode cX6_byDistance 6 = .ok (.istore_n 2, 1) := by decide +kernel
theorem dX6_byDistance_7 : decode cX6_byDistance 7 = .ok (.bipush 20, 2) := by decide +kernel
theorem dX6_byDistance_9 : decode cX6_byDistance 9 = .ok (.iconst 2, 1) := by decide +kernel
theorem dX6_byDistance_10 : decode cX6_byDistance 10 = .ok (.iconst 4, 1) := by decide +kernel
theorem dX6_byDistance_11 : decode cX6_byDistance 11 = .ok (.iload_n 2, 1) := by decide +kernel
theorem dX6_byDistance_12 : decode cX6_byDistance 12 = .ok (.invokestatic 249, 3) := by decide +kernel
theorem dX6_byDistance_15 : decode cX6_byDistance 15 = .ok (.imul, 1) := by decide +kernel
theorem dX6_byDistance_16 : decode cX6_byDistance 16 = .ok (.iadd, 1) := by decide +kernel
theorem dX6_byDistance_17 : decode cX6_byDistance 17 = .ok (.iconst 2, 1) := by decide +kernel
theorem dX6_byDistance_18 : decode cX6_byDistance 18 = .ok (.isub, 1) := by decide +kernel
theorem dX6_byDistance_19 : decode cX6_byDistance 19 = .ok (.iload_n 0, 1) := by decide +kernel
theorem dX6_byDistance_20 : decode cX6_byDistance 20 = .ok (.iload_n 1, 1) := by decide +kernel
theorem dX6_byDistance_21 : decode cX6_byDistance 21 = .ok (.if_icmp .le 7, 3) := by decide +kernel
theorem dX6_byDistance_24 : decode cX6_byDistance 24 = .ok (.iconst 1, 1) := by decide +kernel
theorem dX6_byDistance_25 : decode cX6_byDistance 25 = .ok (.goto 4, 3) := by decide +kernel
theorem dX6_byDistance_28 : decode cX6_byDistance 28 = .ok (.iconst 0, 1) := by decide +kernel
theorem dX6_byDistance_29 : decode cX6_byDistance 29 = .ok (.iadd, 1) := by decide +kernel
theorem dX6_byDistance_30 : decode cX6_byDistance 30 = .ok (.ireturn, 1) := by decide +kernel
theorem dX6_doCross_0 : decode cX6_doCross 0 = .ok (.iload_n 0, 1) := by decide +kernel
theorem dX6_doCross_1 : decode cX6_doCross 1 = .ok (.iload_n 1, 1) := by decide +kernel
theorem dX6_doCross_2 : decode cX6_doCross 2 = .ok (.invokestatic 249, 3) := by decide +kernel
theorem dX6_doCross_5 : decode cX6_doCross 5 = .ok (.istore 4, 2) := by decide +kernel
theorem dX6_doCross_7 : decode cX6_doCross 7 = .ok (.iload_n 0, 1) := by decide +kernel
theorem dX6_doCross_8 : decode cX6_doCross 8 = .ok (.iload_n 1, 1) := by decide +kernel
theorem dX6_doCross_9 : decode cX6_doCross 9 = .ok (.invokestatic 252, 3) := by decide +kernel
theorem dX6_doCross_12 : decode cX6_doCross 12 = .ok (.istore 5, 2) := by decide +kernel
theorem dX6_doCross_14 : decode cX6_doCross 14 = .ok (.iload_n 2, 1) := by decide +kernel
theorem dX6_doCross_15 : decode cX6_doCross 15 = .ok (.iload_n 3, 1) := by decide +kernel
theorem dX6_doCross_16 : decode cX6_doCross 16 = .ok (.invokestatic 249, 3) := by decide +kernel
theorem dX6_doCross_19 : decode cX6_doCross 19 = .ok (.istore 6, 2) := by decide +kernel
theorem dX6_doCross_21 : decode cX6_doCross 21 = .ok (.iload_n 2, 1) := by decide +kernel
theorem dX6_doCross_22 : decode cX6_doCross 22 = .ok (.iload_n 3, 1) := by decide +kernel
theorem dX6_doCross_23 : decode cX6_doCross 23 = .ok (.invokestatic 252, 3) := by decide +kernel
theorem dX6_doCross_26 : decode cX6_doCross 26 = .ok (.istore 7, 2) := by decide +kernel
theorem dX6_doCross_28 : decode cX6_doCross 28 = .ok (.iload 4, 2) := by decide +kernel
theorem dX6_doCross_30 : decode cX6_doCross 30 = .ok (.iload 6, 2) := by decide +kernel
theorem dX6_doCross_32 : decode cX6_doCross 32 = .ok (.if_icmp .ge 17, 3) := by decide +kernel
theorem dX6_doCross_35 : decode cX6_doCross 35 = .ok (.iload 6, 2) := by decide +kernel
theorem dX6_doCross_37 : decode cX6_doCross 37 = .ok (.iload 5, 2) := by decide +kernel
theorem dX6_doCross_39 : decode cX6_doCross 39 = .ok (.if_icmp .ge 10, 3) := by decide +kernel
theorem dX6_doCross_42 : decode cX6_doCross 42 = .ok (.iload 5, 2) := by decide +kernel
theorem dX6_doCross_44 : decode cX6_doCross 44 = .ok (.iload 7, 2) := by decide +kernel
theorem dX6_doCross_46 : decode cX6_doCross 46 = .ok (.if_icmp .lt 24, 3) := by decide +kernel
theorem dX6_doCross_49 : decode cX6_doCross 49 = .ok (.iload 6, 2) := by decide +kernel
theorem dX6_doCross_51 : decode cX6_doCross 51 = .ok (.iload 4, 2) := by decide +kernel
theorem dX6_doCross_53 : decode cX6_doCross 53 = .ok (.if_icmp .ge 21, 3) := by decide +kernel
theorem dX6_doCross_56 : decode cX6_doCross 56 = .ok (.iload 4, 2) := by decide +kernel
theorem dX6_doCross_58 : decode cX6_doCross 58 = .ok (.iload 7, 2) := by decide +kernel
theorem dX6_doCross_60 : decode cX6_doCross 60 = .ok (.if_icmp .ge 14, 3) := by decide +kernel
theorem dX6_doCross_63 : decode cX6_doCross 63 = .ok (.iload 7, 2) := by decide +kernel
theorem dX6_doCross_65 : decode cX6_doCross 65 = .ok (.iload 5, 2) := by decide +kernel
theorem dX6_doCross_67 : decode cX6_doCross 67 = .ok (.if_icmp .ge 7, 3) := by decide +kernel
theorem dX6_doCross_70 : decode cX6_doCross 70 = .ok (.iconst 1, 1) := by decide +kernel
theorem dX6_doCross_71 : decode cX6_doCross 71 = .ok (.goto 4, 3) := by decide +kernel
theorem dX6_doCross_74 : decode cX6_doCross 74 = .ok (.iconst 0, 1) := by decide +kernel
theorem dX6_doCross_75 : decode cX6_doCross 75 = .ok (.ireturn, 1) := by decide +kernel
theorem dX6_isPlace_0 : decode cX6_isPlace 0 = .ok (.iload_n 0, 1) := by decide +kernel
theorem dX6_isPlace_1 : decode cX6_isPlace 1 = .ok (.ifCond .lt 13, 3) := by decide +kernel
theorem dX6_isPlace_4 : decode cX6_isPlace 4 = .ok (.iload_n 0, 1) := by decide +kernel
theorem dX6_isPlace_5 : decode cX6_isPlace 5 = .ok (.bipush 7, 2) := by decide +kernel
theorem dX6_isPlace_7 : decode cX6_isPlace 7 = .ok (.if_icmp .ge 7, 3) := by decide +kernel
theorem dX6_isPlace_10 : decode cX6_isPlace 10 = .ok (.iconst 1, 1) := by decide +kernel
theorem dX6_isPlace_11 : decode cX6_isPlace 11 = .ok (.goto 4, 3) := by decide +kernel
theorem dX6_isPlace_14 : decode cX6_isPlace 14 = .ok (.iconst 0, 1) := by decide +kernel
theorem dX6_isPlace_15 : decode cX6_isPlace 15 = .ok (.ireturn, 1) := by decide +kernel
end
section
theorem dX7_init_0 : decode cX7_init 0 = .ok (.aload_n 0, 1) := by decide +kernel
theorem dX7_init_1 : decode cX7_init 1 = .ok (.invokespecial 1, 3) := by decide +kernel
theorem dX7_init_4 : decode cX7_init 4 = .ok (.aload_n 0, 1) := by decide +kernel
theorem dX7_init_5 : decode cX7_init 5 = .ok (.iconst 5, 1) := by decide +kernel
theorem dX7_init_6 : decode cX7_init 6 = .ok (.newarray .int, 2) := by decide +kernel
theorem dX7_init_8 : decode cX7_init 8 = .ok (.putfield 7, 3) := by decide +kernel
theorem dX7_init_11 : decode cX7_init 11 = .ok (.aload_n 0, 1) := by decide +kernel
theorem dX7_init_12 : decode cX7_init 12 = .ok (.bipush 35, 2) := by decide +kernel
theorem dX7_init_14 : decode cX7_init 14 = .ok (.newarray .int, 2) := by decide +kernel
theorem dX7_init_16 : decode cX7_init 16 = .ok (.putfield 13, 3) := by decide +kernel
theorem dX7_init_19 : decode cX7_init 19 = .ok (.aload_n 0, 1) := by decide +kernel
theorem dX7_init_20 : decode cX7_init 20 = .ok (.sipush 245, 3) := by decide +kernel
theorem dX7_init_23 : decode cX7_init 23 = .ok (.newarray .int, 2) := by decide +kernel
theorem dX7_init_25 : decode cX7_init 25 = .ok (.putfield 16, 3) := by decide +kernel
theorem dX7_init_28 : decode cX7_init 28 = .ok (.aload_n 0, 1) := by decide +kernel
theorem dX7_init_29 : decode cX7_init 29 = .ok (.bipush 35, 2) := by decide +kernel
theorem dX7_init_31 : decode cX7_init 31 = .ok (.newarray .int, 2) := by decide +kernel
theorem dX7_init_33 : decode cX7_init 33 = .ok (.putfield 19, 3) := by decide +kernel
theorem dX7_init_36 : decode cX7_init 36 = .ok (.aload_n 0, 1) := by decide +kernel
theorem dX7_init_37 : decode cX7_init 37 = .ok (.bipush 28, 2) := by decide +kernel
theorem dX7_init_39 : decode cX7_init 39 = .ok (.newarray .int, 2) := by decide +kernel
theorem dX7_init_41 : decode cX7_init 41 = .ok (.putfield 22, 3) := by decide +kernel
theorem dX7_init_44 : decode cX7_init 44 = .ok (.aload_n 0, 1) := by decide +kernel
theorem dX7_init_45 : decode cX7_init 45 = .ok (.bipush 28, 2) := by decide +kernel
theorem dX7_init_47 : decode cX7_init 47 = .ok (.newarray .long, 2) := by decide +kernel
theorem dX7_init_49 : decode cX7_init 49 = .ok (.putfield 25, 3) := by decide +kernel
theorem dX7_init_52 : decode cX7_init 52 = .ok (.aload_n 0, 1) := by decide +kernel
theorem dX7_init_53 : decode cX7_init 53 = .ok (.bipush 20, 2) := by decide +kernel
theorem dX7_init_55 : decode cX7_init 55 = .ok (.newarray .int, 2) := by decide +kernel
theorem dX7_init_57 : decode cX7_init 57 = .ok (.putfield 29, 3) := by decide +kernel
theorem dX7_init_60 : decode cX7_init 60 = .ok (.aload_n 0, 1) := by decide +kernel
theorem dX7_init_61 : decode cX7_init 61 = .ok (.sipush 560, 3) := by decide +kernel
theorem dX7_init_64 : decode cX7_init 64 = .ok (.newarray .int, 2) := by decide +kernel
theorem dX7_init_66 : decode cX7_init 66 = .ok (.putfield 32, 3) := by decide +kernel
theorem dX7_init_69 : decode cX7_init 69 = .ok (.aload_n 0, 1) := by decide +kernel
theorem dX7_init_70 : decode cX7_init 70 = .ok (.sipush 16807, 3) := by decide +kernel
theorem dX7_init_73 : decode cX7_init 73 = .ok (.newarray .long, 2) := by decide +kernel
theorem dX7_init_75 : decode cX7_init 75 = .ok (.putfield 35, 3) := by decide +kernel
theorem dX7_init_78 : decode cX7_init 78 = .ok (.aload_n 0, 1) := by decide +kernel
theorem dX7_init_79 : decode cX7_init 79 = .ok (.iconst (-1), 1) := by decide +kernel
theorem dX7_init_80 : decode cX7_init 80 = .ok (.putfield 38, 3) := by decide +kernel
theorem dX7_init_83 : decode cX7_init 83 = .ok (.aload_n 0, 1) := by decide +kernel
theorem dX7_init_84 : decode cX7_init 84 = .ok (.bipush 10, 2) := by decide +kernel
theorem dX7_init_86 : decode cX7_init 86 = .ok (.newarray .long, 2) := by decide +kernel
theorem dX7_init_88 : decode cX7_init 88 = .ok (.putfield 42, 3) := by decide +kernel
theorem dX7_init_91 : decode cX7_init 91 = .ok (.aload_n 0, 1) := by decide +kernel
theorem dX7_init_92 : decode cX7_init 92 = .ok (.bipush 10, 2) := by decide +kernel
theorem dX7_init_94 : decode cX7_init 94 = .ok (.newarray .int, 2) := by decide +kernel
theorem dX7_init_96 : decode cX7_init 96 = .ok (.putfield 45, 3) := by decide +kernel
theorem dX7_init_99 : decode cX7_init 99 = .ok (.aload_n 0, 1) := by decide +kernel
theorem dX7_init_100 : decode cX7_init 100 = .ok (.bipush 10, 2) := by decide +kernel
theorem dX7_init_102 : decode cX7_init 102 = .ok (.newarray .boolean, 2) := by decide +kernel
theorem dX7_init_104 : decode cX7_init 104 = .ok (.putfield 48, 3) := by decide +kernel
theorem dX7_init_107 : decode cX7_init 107 = .ok (.aload_n 0, 1) := by decide +kernel
theorem dX7_init_108 : decode cX7_init 108 = .ok (.bipush 7, 2) := by decide +kernel
theorem dX7_init_110 : decode cX7_init 110 = .ok (.newarray .int, 2) := by decide +kernel
theorem dX7_init_112 : decode cX7_init 112 = .ok (.putfield 52, 3) := by decide +kernel
theorem dX7_init_115 : decode cX7_init 115 = .ok (.return_, 1) := by decide +kernel
theorem dX7_thrown_0 : decode cX7_thrown 0 = .ok (.aload_n 0, 1) := by decide +kernel
theorem dX7_thrown_1 : decode cX7_thrown 1 = .ok (.getfield 55, 3) := by decide +kernel
theorem dX7_thrown_4 : decode cX7_thrown 4 = .ok (.ireturn, 1) := by decide +kernel
theorem dX7_fails_0 : decode cX7_fails 0 = .ok (.aload_n 0, 1) := by decide +kernel
theorem dX7_fails_1 : decode cX7_fails 1 = .ok (.iload_n 1, 1) := by decide +kernel
theorem dX7_fails_2 : decode cX7_fails 2 = .ok (.putfield 55, 3) := by decide +kernel
theorem dX7_fails_5 : decode cX7_fails 5 = .ok (.iconst 0, 1) := by decide +kernel
theorem dX7_fails_6 : decode cX7_fails 6 = .ok (.ireturn, 1) := by decide +kernel
theorem dX7_asks_0 : decode cX7_asks 0 = .ok (.aload_n 0, 1) := by decide +kernel
theorem dX7_asks_1 : decode cX7_asks 1 = .ok (.iload_n 1, 1) := by decide +kernel
theorem dX7_asks_2 : decode cX7_asks 2 = .ok (.ifCond .eq 7, 3) := by decide +kernel
theorem dX7_asks_5 : decode cX7_asks 5 = .ok (.iconst 0, 1) := by decide +kernel
theorem dX7_asks_6 : decode cX7_asks 6 = .ok (.goto 4, 3) := by decide +kernel
theorem dX7_asks_9 : decode cX7_asks 9 = .ok (.iconst 1, 1) := by decide +kernel
theorem dX7_asks_10 : decode cX7_asks 10 = .ok (.putfield 55, 3) := by decide +kernel
theorem dX7_asks_13 : decode cX7_asks 13 = .ok (.iload_n 1, 1) := by decide +kernel
theorem dX7_asks_14 : decode cX7_asks 14 = .ok (.ireturn, 1) := by decide +kernel
theorem dX7_changed_0 : decode cX7_changed 0 = .ok (.aload_n 0, 1) := by decide +kernel
theorem dX7_changed_1 : decode cX7_changed 1 = .ok (.iconst (-1), 1) := by decide +kernel
theorem dX7_changed_2 : decode cX7_changed 2 = .ok (.putfield 38, 3) := by decide +kernel
theorem dX7_changed_5 : decode cX7_changed 5 = .ok (.iconst 0, 1) := by decide +kernel
theorem dX7_changed_6 : decode cX7_changed 6 = .ok (.istore_n 1, 1) := by decide +kernel
theorem dX7_changed_7 : decode cX7_changed 7 = .ok (.iload_n 1, 1) := by decide +kernel
theorem dX7_changed_8 : decode cX7_changed 8 = .ok (.bipush 10, 2) := by decide +kernel
theorem dX7_changed_10 : decode cX7_changed 10 = .ok (.if_icmp .ge 16, 3) := by decide +kernel
theorem dX7_changed_13 : decode cX7_changed 13 = .ok (.aload_n 0, 1) := by decide +kernel
theorem dX7_changed_14 : decode cX7_changed 14 = .ok (.getfield 48, 3) := by decide +kernel
theorem dX7_changed_17 : decode cX7_changed 17 = .ok (.iload_n 1, 1) := by decide +kernel
theorem dX7_changed_18 : decode cX7_changed 18 = .ok (.iconst 0, 1) := by decide +kernel
theorem dX7_changed_19 : decode cX7_changed 19 = .ok (.bastore, 1) := by decide +kernel
theorem dX7_changed_20 : decode cX7_changed 20 = .ok (.iinc 1 1, 3) := by decide +kernel
theorem dX7_changed_23 : decode cX7_changed 23 = .ok (.goto (-16), 3) := by decide +kernel
theorem dX7_changed_26 : decode cX7_changed 26 = .ok (.return_, 1) := by decide +kernel
theorem dX7_isSentence_0 : decode cX7_isSentence 0 = .ok (.iload_n 1, 1) := by decide +kernel
theorem dX7_isSentence_1 : decode cX7_isSentence 1 = .ok (.ifCond .lt 15, 3) := by decide +kernel
theorem dX7_isSentence_4 : decode cX7_isSentence 4 = .ok (.iload_n 1, 1) := by decide +kernel
theorem dX7_isSentence_5 : decode cX7_isSentence 5 = .ok (.aload_n 0, 1) := by decide +kernel
theorem dX7_isSentence_6 : decode cX7_isSentence 6 = .ok (.getfield 58, 3) := by decide +kernel
theorem dX7_isSentence_9 : decode cX7_isSentence 9 = .ok (.if_icmp .ge 7, 3) := by decide +kernel
theorem dX7_isSentence_12 : decode cX7_isSentence 12 = .ok (.iconst 1, 1) := by decide +kernel
theorem dX7_isSentence_13 : decode cX7_isSentence 13 = .ok (.goto 4, 3) := by decide +kernel
theorem dX7_isSentence_16 : decode cX7_isSentence 16 = .ok (.iconst 0, 1) := by decide +kernel
theorem dX7_isSentence_17 : decode cX7_isSentence 17 = .ok (.ireturn, 1) := by decide +kernel
set_option maxRecDepth 20000 in
theorem ggX7_isWord_X7_isSentence : GoodIn wsX7_isWord wsX7_isSentence := goodIn_r _ [6, 7, 8, 9, 10, 11, 12, 13, 14, 15, 16, 17, 18, 19, 20, 21, 22, 23, 24, 25, 26, 27] (by decide +kernel) (by decide +kernel)
set_option maxRecDepth 20000 in
theorem gX7_isWord_X7_isSentence : GoodIn wsX7_isWord (wsV RX7 61 RX7 yX7_isSentence wsX7_isSentence) := goodIn_app (goodIn_of _ (by decide +kernel)) ggX7_isWord_X7_isSentence
theorem dX7_isWord_0 : decode cX7_isWord 0 = .ok (.aload_n 0, 1) := by decide +kernel
theorem dX7_isWord_1 : decode cX7_isWord 1 = .ok (.iload_n 1, 1) := by decide +kernel
theorem dX7_isWord_2 : decode cX7_isWord 2 = .ok (.invokevirtual 61, 3) := by decide +kernel
theorem dX7_isWord_5 : decode cX7_isWord 5 = .ok (.ifCond .eq 21, 3) := by decide +kernel
theorem dX7_isWord_8 : decode cX7_isWord 8 = .ok (.iload_n 2, 1) := by decide +kernel
theorem dX7_isWord_9 : decode cX7_isWord 9 = .ok (.ifCond .le 17, 3) := by decide +kernel
theorem dX7_isWord_12 : decode cX7_isWord 12 = .ok (.iload_n 2, 1) := by decide +kernel
theorem dX7_isWord_13 : decode cX7_isWord 13 = .ok (.aload_n 0, 1) := by decide +kernel
theorem dX7_isWord_14 : decode cX7_isWord 14 = .ok (.getfield 7, 3) := by decide +kernel
theorem dX7_isWord_17 : decode cX7_isWord 17 = .ok (.iload_n 1, 1) := by decide +kernel
theorem dX7_isWord_18 : decode cX7_isWord 18 = .ok (.iaload, 1) := by decide +kernel
theorem dX7_isWord_19 : decode cX7_isWord 19 = .ok (.if_icmp .gt 7, 3) := by decide +kernel
theorem dX7_isWord_22 : decode cX7_isWord 22 = .ok (.iconst 1, 1) := by decide +kernel
theorem dX7_isWord_23 : decode cX7_isWord 23 = .ok (.goto 4, 3) := by decide +kernel
theorem dX7_isWord_26 : decode cX7_isWord 26 = .ok (.iconst 0, 1) := by decide +kernel
theorem dX7_isWord_27 : decode cX7_isWord 27 = .ok (.ireturn, 1) := by decide +kernel
set_option maxRecDepth 20000 in
theorem ggX7_isPlace_X7_isSentence : GoodIn wsX7_isPlace wsX7_isSentence := goodIn_r _ [6, 7, 8, 9, 10, 11, 12, 13, 14, 15, 16, 17, 18, 19, 20, 21, 22, 23, 24, 25, 26, 27] (by decide +kernel) (by decide +kernel)
set_option maxRecDepth 20000 in
theorem gX7_isPlace_X7_isSentence : GoodIn wsX7_isPlace (wsV RX7 61 RX7 yX7_isSentence wsX7_isSentence) := goodIn_app (goodIn_of _ (by decide +kernel)) ggX7_isPlace_X7_isSentence
theorem dX7_isPlace_0 : decode cX7_isPlace 0 = .ok (.aload_n 0, 1) := by decide +kernel
theorem dX7_isPlace_1 : decode cX7_isPlace 1 = .ok (.iload_n 1, 1) := by decide +kernel
theorem dX7_isPlace_2 : decode cX7_isPlace 2 = .ok (.invokevirtual 61, 3) := by decide +kernel
theorem dX7_isPlace_5 : decode cX7_isPlace 5 = .ok (.ifCond .eq 21, 3) := by decide +kernel
theorem dX7_isPlace_8 : decode cX7_isPlace 8 = .ok (.iload_n 2, 1) := by decide +kernel
theorem dX7_isPlace_9 : decode cX7_isPlace 9 = .ok (.ifCond .lt 17, 3) := by decide +kernel
theorem dX7_isPlace_12 : decode cX7_isPlace 12 = .ok (.iload_n 2, 1) := by decide +kernel
theorem dX7_isPlace_13 : decode cX7_isPlace 13 = .ok (.aload_n 0, 1) := by decide +kernel
theorem dX7_isPlace_14 : decode cX7_isPlace 14 = .ok (.getfield 7, 3) := by decide +kernel
theorem dX7_isPlace_17 : decode cX7_isPlace 17 = .ok (.iload_n 1, 1) := by decide +kernel
theorem dX7_isPlace_18 : decode cX7_isPlace 18 = .ok (.iaload, 1) := by decide +kernel
theorem dX7_isPlace_19 : decode cX7_isPlace 19 = .ok (.if_icmp .gt 7, 3) := by decide +kernel
theorem dX7_isPlace_22 : decode cX7_isPlace 22 = .ok (.iconst 1, 1) := by decide +kernel
theorem dX7_isPlace_23 : decode cX7_isPlace 23 = .ok (.goto 4, 3) := by decide +kernel
theorem dX7_isPlace_26 : decode cX7_isPlace 26 = .ok (.iconst 0, 1) := by decide +kernel
theorem dX7_isPlace_27 : decode cX7_isPlace 27 = .ok (.ireturn, 1) := by decide +kernel
set_option maxRecDepth 20000 in
theorem ggX7_addSentence_X7_asks : GoodIn wsX7_addSentence wsX7_asks := goodIn_r _ [6, 7, 8, 9, 10, 11, 12, 13, 14, 15, 16, 17, 18, 19, 20, 21, 22, 23, 24, 25, 26, 27] (by decide +kernel) (by decide +kernel)
set_option maxRecDepth 20000 in
theorem gX7_addSentence_X7_asks : GoodIn wsX7_addSentence (wsV RX7 65 RX7 yX7_asks wsX7_asks) := goodIn_app (goodIn_of _ (by decide +kernel)) ggX7_addSentence_X7_asks
theorem dX7_addSentence_0 : decode cX7_addSentence 0 = .ok (.aload_n 0, 1) := by decide +kernel
theorem dX7_addSentence_1 : decode cX7_addSentence 1 = .ok (.aload_n 0, 1) := by decide +kernel
theorem dX7_addSentence_2 : decode cX7_addSentence 2 = .ok (.getfield 58, 3) := by decide +kernel
theorem dX7_addSentence_5 : decode cX7_addSentence 5 = .ok (.iconst 5, 1) := by decide +kernel
theorem dX7_addSentence_6 : decode cX7_addSentence 6 = .ok (.if_icmp .ge 7, 3) := by decide +kernel
theorem dX7_addSentence_9 : decode cX7_addSentence 9 = .ok (.iconst 1, 1) := by decide +kernel
theorem dX7_addSentence_10 : decode cX7_addSentence 10 = .ok (.goto 4, 3) := by decide +kernel
theorem dX7_addSentence_13 : decode cX7_addSentence 13 = .ok (.iconst 0, 1) := by decide +kernel
theorem dX7_addSentence_14 : decode cX7_addSentence 14 = .ok (.invokevirtual 65, 3) := by decide +kernel
theorem dX7_addSentence_17 : decode cX7_addSentence 17 = .ok (.ifCond .ne 5, 3) := by decide +kernel
theorem dX7_addSentence_20 : decode cX7_addSentence 20 = .ok (.iconst 0, 1) := by decide +kernel
theorem dX7_addSentence_21 : decode cX7_addSentence 21 = .ok (.ireturn, 1) := by decide +kernel
theorem dX7_addSentence_22 : decode cX7_addSentence 22 = .ok (.aload_n 0, 1) := by decide +kernel
theorem dX7_addSentence_23 : decode cX7_addSentence 23 = .ok (.dup, 1) := by decide +kernel
theorem dX7_addSentence_24 : decode cX7_addSentence 24 = .ok (.getfield 58, 3) := by decide +kernel
theorem dX7_addSentence_27 : decode cX7_addSentence 27 = .ok (.iconst 1, 1) := by decide +kernel
theorem dX7_addSentence_28 : decode cX7_addSentence 28 = .ok (.iadd, 1) := by decide +kernel
theorem dX7_addSentence_29 : decode cX7_addSentence 29 = .ok (.putfield 58, 3) := by decide +kernel
theorem dX7_addSentence_32 : decode cX7_addSentence 32 = .ok (.aload_n 0, 1) := by decide +kernel
theorem dX7_addSentence_33 : decode cX7_addSentence 33 = .ok (.getfield 58, 3) := by decide +kernel
theorem dX7_addSentence_36 : decode cX7_addSentence 36 = .ok (.iconst 1, 1) := by decide +kernel
theorem dX7_addSentence_37 : decode cX7_addSentence 37 = .ok (.isub, 1) := by decide +kernel
theorem dX7_addSentence_38 : decode cX7_addSentence 38 = .ok (.ireturn, 1) := by decide +kernel
set_option maxRecDepth 20000 in
theorem ggX7_addWord_X7_isSentence : GoodIn wsX7_addWord wsX7_isSentence := goodIn_r _ [8, 9, 25, 26, 27, 28, 29, 30, 31, 32, 33, 34, 35, 36, 37, 38, 39, 40, 41, 42, 43, 44] (by decide +kernel) (by decide +kernel)
set_option maxRecDepth 20000 in
theorem gX7_addWord_X7_isSentence : GoodIn wsX7_addWord (wsV RX7 61 RX7 yX7_isSentence wsX7_isSentence) := goodIn_app (goodIn_of _ (by decide +kernel)) ggX7_addWord_X7_isSentence
set_option maxRecDepth 20000 in
theorem ggX7_addWord_X7_asks : GoodIn wsX7_addWord wsX7_asks := goodIn_r _ [13, 14, 25, 26, 27, 28, 29, 30, 31, 32, 33, 34, 35, 36, 37, 38, 39, 40, 41, 42, 43, 44] (by decide +kernel) (by decide +kernel)
set_option maxRecDepth 20000 in
theorem gX7_addWord_X7_asks : GoodIn wsX7_addWord (wsV RX7 65 RX7 yX7_asks wsX7_asks) := goodIn_app (goodIn_of _ (by decide +kernel)) ggX7_addWord_X7_asks
set_option maxRecDepth 20000 in
theorem ggX7_addWord_X7_fails : GoodIn wsX7_addWord wsX7_fails := goodIn_r _ [18, 14, 25, 26, 27, 28, 29, 30, 31, 32, 33, 34, 35, 36, 37, 38, 39, 40, 41, 42, 43, 44] (by decide +kernel) (by decide +kernel)
set_option maxRecDepth 20000 in
theorem gX7_addWord_X7_fails : GoodIn wsX7_addWord (wsV RX7 69 RX7 yX7_fails wsX7_fails) := goodIn_app (goodIn_of _ (by decide +kernel)) ggX7_addWord_X7_fails
set_option maxRecDepth 20000 in
theorem ggX7_addWord_X7_changed : GoodIn wsX7_addWord wsX7_changed := goodIn_r _ [22, 23, 24, 25, 26, 27, 28, 29, 30, 31, 32, 33, 34, 35, 36, 37, 38, 39, 40, 41, 42, 43, 44] (by decide +kernel) (by decide +kernel)
set_option maxRecDepth 20000 in
theorem gX7_addWord_X7_changed : GoodIn wsX7_addWord (wsV RX7 73 RX7 yX7_changed wsX7_changed) := goodIn_app (goodIn_of _ (by decide +kernel)) ggX7_addWord_X7_changed
theorem dX7_addWord_0 : decode cX7_addWord 0 = .ok (.aload_n 0, 1) := by decide +kernel
theorem dX7_addWord_1 : decode cX7_addWord 1 = .ok (.aload_n 0, 1) := by decide +kernel
theorem dX7_addWord_2 : decode cX7_addWord 2 = .ok (.iload_n 1, 1) := by decide +kernel
theorem dX7_addWord_3 : decode cX7_addWord 3 = .ok (.invokevirtual 61, 3) := by decide +kernel
theorem dX7_addWord_6 : decode cX7_addWord 6 = .ok (.invokevirtual 65, 3) := by decide +kernel
theorem dX7_addWord_9 : decode cX7_addWord 9 = .ok (.ifCond .ne 5, 3) := by decide +kernel
theorem dX7_addWord_12 : decode cX7_addWord 12 = .ok (.iconst 0, 1) := by decide +kernel
theorem dX7_addWord_13 : decode cX7_addWord 13 = .ok (.ireturn, 1) := by decide +kernel
theorem dX7_addWord_14 : decode cX7_addWord 14 = .ok (.iload_n 2, 1) := by decide +kernel
theorem dX7_addWord_15 : decode cX7_addWord 15 = .ok (.ifCond .lt 8, 3) := by decide +kernel
theorem dX7_addWord_18 : decode cX7_addWord 18 = .ok (.iload_n 2, 1) := by decide +kernel
theorem dX7_addWord_19 : decode cX7_addWord 19 = .ok (.iconst 3, 1) := by decide +kernel
theorem dX7_addWord_20 : decode cX7_addWord 20 = .ok (.if_icmp .le 9, 3) := by decide +kernel
theorem dX7_addWord_23 : decode cX7_addWord 23 = .ok (.aload_n 0, 1) := by decide +kernel
theorem dX7_addWord_24 : decode cX7_addWord 24 = .ok (.iconst 2, 1) := by decide +kernel
theorem dX7_addWord_25 : decode cX7_addWord 25 = .ok (.invokevirtual 69, 3) := by decide +kernel
theorem dX7_addWord_28 : decode cX7_addWord 28 = .ok (.ireturn, 1) := by decide +kernel
theorem dX7_addWord_29 : decode cX7_addWord 29 = .ok (.aload_n 0, 1) := by decide +kernel
theorem dX7_addWord_30 : decode cX7_addWord 30 = .ok (.getfield 7, 3) := by decide +kernel
theorem dX7_addWord_33 : decode cX7_addWord 33 = .ok (.iload_n 1, 1) := by decide +kernel
theorem dX7_addWord_34 : decode cX7_addWord 34 = .ok (.iaload, 1) := by decide +kernel
theorem dX7_addWord_35 : decode cX7_addWord 35 = .ok (.bipush 6, 2) := by decide +kernel
theorem dX7_addWord_37 : decode cX7_addWord 37 = .ok (.if_icmp .ne 9, 3) := by decide +kernel
theorem dX7_addWord_40 : decode cX7_addWord 40 = .ok (.aload_n 0, 1) := by decide +kernel
theorem dX7_addWord_41 : decode cX7_addWord 41 = .ok (.iconst 3, 1) := by decide +kernel
theorem dX7_addWord_42 : decode cX7_addWord 42 = .ok (.invokevirtual 69, 3) := by decide +kernel
theorem dX7_addWord_45 : decode cX7_addWord 45 = .ok (.ireturn, 1) := by decide +kernel
theorem dX7_addWord_46 : decode cX7_addWord 46 = .ok (.aload_n 0, 1) := by decide +kernel
theorem dX7_addWord_47 : decode cX7_addWord 47 = .ok (.getfield 7, 3) := by decide +kernel
theorem dX7_addWord_50 : decode cX7_addWord 50 = .ok (.iload_n 1, 1) := by decide +kernel
theorem dX7_addWord_51 : decode cX7_addWord 51 = .ok (.dup2, 1) := by decide +kernel
theorem dX7_addWord_52 : decode cX7_addWord 52 = .ok (.iaload, 1) := by decide +kernel
theorem dX7_addWord_53 : decode cX7_addWord 53 = .ok (.iconst 1, 1) := by decide +kernel
theorem dX7_addWord_54 : decode cX7_addWord 54 = .ok (.iadd, 1) := by decide +kernel
theorem dX7_addWord_55 : decode cX7_addWord 55 = .ok (.iastore, 1) := by decide +kernel
theorem dX7_addWord_56 : decode cX7_addWord 56 = .ok (.aload_n 0, 1) := by decide +kernel
theorem dX7_addWord_57 : decode cX7_addWord 57 = .ok (.getfield 13, 3) := by decide +kernel
theorem dX7_addWord_60 : decode cX7_addWord 60 = .ok (.bipush 7, 2) := by decide +kernel
theorem dX7_addWord_62 : decode cX7_addWord 62 = .ok (.iload_n 1, 1) := by decide +kernel
theorem dX7_addWord_63 : decode cX7_addWord 63 = .ok (.imul, 1) := by decide +kernel
theorem dX7_addWord_64 : decode cX7_addWord 64 = .ok (.aload_n 0, 1) := by decide +kernel
theorem dX7_addWord_65 : decode cX7_addWord 65 = .ok (.getfield 7, 3) := by decide +kernel
theorem dX7_addWord_68 : decode cX7_addWord 68 = .ok (.iload_n 1, 1) := by decide +kernel
theorem dX7_addWord_69 : decode cX7_addWord 69 = .ok (.iaload, 1) := by decide +kernel
theorem dX7_addWord_70 : decode cX7_addWord 70 = .ok (.iadd, 1) := by decide +kernel
theorem dX7_addWord_71 : decode cX7_addWord 71 = .ok (.iload_n 2, 1) := by decide +kernel
theorem dX7_addWord_72 : decode cX7_addWord 72 = .ok (.iastore, 1) := by decide +kernel
theorem dX7_addWord_73 : decode cX7_addWord 73 = .ok (.aload_n 0, 1) := by decide +kernel
theorem dX7_addWord_74 : decode cX7_addWord 74 = .ok (.getfield 19, 3) := by decide +kernel
theorem dX7_addWord_77 : decode cX7_addWord 77 = .ok (.bipush 7, 2) := by decide +kernel
theorem dX7_addWord_79 : decode cX7_addWord 79 = .ok (.iload_n 1, 1) := by decide +kernel
theorem dX7_addWord_80 : decode cX7_addWord 80 = .ok (.imul, 1) := by decide +kernel
theorem dX7_addWord_81 : decode cX7_addWord 81 = .ok (.aload_n 0, 1) := by decide +kernel
theorem dX7_addWord_82 : decode cX7_addWord 82 = .ok (.getfield 7, 3) := by decide +kernel
theorem dX7_addWord_85 : decode cX7_addWord 85 = .ok (.iload_n 1, 1) := by decide +kernel
theorem dX7_addWord_86 : decode cX7_addWord 86 = .ok (.iaload, 1) := by decide +kernel
theorem dX7_addWord_87 : decode cX7_addWord 87 = .ok (.iadd, 1) := by decide +kernel
theorem dX7_addWord_88 : decode cX7_addWord 88 = .ok (.iconst (-1), 1) := by decide +kernel
theorem dX7_addWord_89 : decode cX7_addWord 89 = .ok (.iastore, 1) := by decide +kernel
theorem dX7_addWord_90 : decode cX7_addWord 90 = .ok (.aload_n 0, 1) := by decide +kernel
theorem dX7_addWord_91 : decode cX7_addWord 91 = .ok (.invokevirtual 73, 3) := by decide +kernel
theorem dX7_addWord_94 : decode cX7_addWord 94 = .ok (.aload_n 0, 1) := by decide +kernel
theorem dX7_addWord_95 : decode cX7_addWord 95 = .ok (.getfield 7, 3) := by decide +kernel
theorem dX7_addWord_98 : decode cX7_addWord 98 = .ok (.iload_n 1, 1) := by decide +kernel
theorem dX7_addWord_99 : decode cX7_addWord 99 = .ok (.iaload, 1) := by decide +kernel
theorem dX7_addWord_100 : decode cX7_addWord 100 = .ok (.ireturn, 1) := by decide +kernel
theorem dX7_sentences_0 : decode cX7_sentences 0 = .ok (.aload_n 0, 1) := by decide +kernel
theorem dX7_sentences_1 : decode cX7_sentences 1 = .ok (.iconst 0, 1) := by decide +kernel
theorem dX7_sentences_2 : decode cX7_sentences 2 = .ok (.putfield 55, 3) := by decide +kernel
theorem dX7_sentences_5 : decode cX7_sentences 5 = .ok (.aload_n 0, 1) := by decide +kernel
theorem dX7_sentences_6 : decode cX7_sentences 6 = .ok (.getfield 58, 3) := by decide +kernel
theorem dX7_sentences_9 : decode cX7_sentences 9 = .ok (.ireturn, 1) := by decide +kernel
set_option maxRecDepth 20000 in
theorem ggX7_words_X7_isSentence : GoodIn wsX7_words wsX7_isSentence := goodIn_r _ [6, 7, 13, 14, 15, 16, 17, 18, 19, 20, 21, 22, 23, 24, 25, 26, 27, 28, 29, 30, 31, 32] (by decide +kernel) (by decide +kernel)
set_option maxRecDepth 20000 in
theorem gX7_words_X7_isSentence : GoodIn wsX7_words (wsV RX7 61 RX7 yX7_isSentence wsX7_isSentence) := goodIn_app (goodIn_of _ (by decide +kernel)) ggX7_words_X7_isSentence
set_option maxRecDepth 20000 in
theorem ggX7_words_X7_asks : GoodIn wsX7_words wsX7_asks := goodIn_r _ [11, 12, 13, 14, 15, 16, 17, 18, 19, 20, 21, 22, 23, 24, 25, 26, 27, 28, 29, 30, 31, 32] (by decide +kernel) (by decide +kernel)
set_option maxRecDepth 20000 in
theorem gX7_words_X7_asks : GoodIn wsX7_words (wsV RX7 65 RX7 yX7_asks wsX7_asks) := goodIn_app (goodIn_of _ (by decide +kernel)) ggX7_words_X7_asks
theorem dX7_words_0 : decode cX7_words 0 = .ok (.aload_n 0, 1) := by decide +kernel
theorem dX7_words_1 : decode cX7_words 1 = .ok (.aload_n 0, 1) := by decide +kernel
theorem dX7_words_2 : decode cX7_words 2 = .ok (.iload_n 1, 1) := by decide +kernel
theorem dX7_words_3 : decode cX7_words 3 = .ok (.invokevirtual 61, 3) := by decide +kernel
theorem dX7_words_6 : decode cX7_words 6 = .ok (.invokevirtual 65, 3) := by decide +kernel
theorem dX7_words_9 : decode cX7_words 9 = .ok (.ifCond .eq 12, 3) := by decide +kernel
theorem dX7_words_12 : decode cX7_words 12 = .ok (.aload_n 0, 1) := by decide +kernel
theorem dX7_words_13 : decode cX7_words 13 = .ok (.getfield 7, 3) := by decide +kernel
theorem dX7_words_16 : decode cX7_words 16 = .ok (.iload_n 1, 1) := by decide +kernel
theorem dX7_words_17 : decode cX7_words 17 = .ok (.iaload, 1) := by decide +kernel
theorem dX7_words_18 : decode cX7_words 18 = .ok (.goto 4, 3) := by decide +kernel
theorem dX7_words_21 : decode cX7_words 21 = .ok (.iconst 0, 1) := by decide +kernel
theorem dX7_words_22 : decode cX7_words 22 = .ok (.ireturn, 1) := by decide +kernel
set_option maxRecDepth 20000 in
theorem ggX7_kind_X7_isWord : GoodIn wsX7_kind wsX7_isWord := goodIn_r _ [6, 7, 8, 9, 10, 5, 11, 12, 18, 19, 20, 21, 22, 23, 24, 25, 26, 27, 28, 29, 30, 31, 32, 33, 34, 35, 36, 37] (by decide +kernel) (by decide +kernel)
set_option maxRecDepth 20000 in
theorem gX7_kind_X7_isWord : GoodIn wsX7_kind (wsV RX7 76 RX7 yX7_isWord wsX7_isWord) := goodIn_app (goodIn_of _ (by decide +kernel)) ggX7_kind_X7_isWord
set_option maxRecDepth 20000 in
theorem ggX7_kind_X7_asks : GoodIn wsX7_kind wsX7_asks := goodIn_r _ [16, 17, 18, 19, 20, 21, 22, 23, 24, 25, 26, 27, 28, 29, 30, 31, 32, 33, 34, 35, 36, 37] (by decide +kernel) (by decide +kernel)
set_option maxRecDepth 20000 in
theorem gX7_kind_X7_asks : GoodIn wsX7_kind (wsV RX7 65 RX7 yX7_asks wsX7_asks) := goodIn_app (goodIn_of _ (by decide +kernel)) ggX7_kind_X7_asks
theorem dX7_kind_0 : decode cX7_kind 0 = .ok (.aload_n 0, 1) := by decide +kernel
theorem dX7_kind_1 : decode cX7_kind 1 = .ok (.aload_n 0, 1) := by decide +kernel
theorem dX7_kind_2 : decode cX7_kind 2 = .ok (.iload_n 1, 1) := by decide +kernel
theorem dX7_kind_3 : decode cX7_kind 3 = .ok (.iload_n 2, 1) := by decide +kernel
theorem dX7_kind_4 : decode cX7_kind 4 = .ok (.invokevirtual 76, 3) := by decide +kernel
theorem dX7_kind_7 : decode cX7_kind 7 = .ok (.invokevirtual 65, 3) := by decide +kernel
theorem dX7_kind_10 : decode cX7_kind 10 = .ok (.ifCond .eq 17, 3) := by decide +kernel
theorem dX7_kind_13 : decode cX7_kind 13 = .ok (.aload_n 0, 1) := by decide +kernel
theorem dX7_kind_14 : decode cX7_kind 14 = .ok (.getfield 13, 3) := by decide +kernel
theorem dX7_kind_17 : decode cX7_kind 17 = .ok (.bipush 7, 2) := by decide +kernel
theorem dX7_kind_19 : decode cX7_kind 19 = .ok (.iload_n 1, 1) := by decide +kernel
theorem dX7_kind_20 : decode cX7_kind 20 = .ok (.imul, 1) := by decide +kernel
theorem dX7_kind_21 : decode cX7_kind 21 = .ok (.iload_n 2, 1) := by decide +kernel
theorem dX7_kind_22 : decode cX7_kind 22 = .ok (.iadd, 1) := by decide +kernel
theorem dX7_kind_23 : decode cX7_kind 23 = .ok (.iaload, 1) := by decide +kernel
theorem dX7_kind_24 : decode cX7_kind 24 = .ok (.goto 4, 3) := by decide +kernel
theorem dX7_kind_27 : decode cX7_kind 27 = .ok (.iconst 0, 1) := by decide +kernel
theorem dX7_kind_28 : decode cX7_kind 28 = .ok (.ireturn, 1) := by decide +kernel
theorem dX7_remembers_0 : decode cX7_remembers 0 = .ok (.aload_n 0, 1) := by decide +kernel
theorem dX7_remembers_1 : decode cX7_remembers 1 = .ok (.getfield 80, 3) := by decide +kernel
theorem dX7_remembers_4 : decode cX7_remembers 4 = .ok (.aload_n 0, 1) := by decide +kernel
theorem dX7_remembers_5 : decode cX7_remembers 5 = .ok (.getfield 83, 3) := by decide +kernel
theorem dX7_remembers_8 : decode cX7_remembers 8 = .ok (.iadd, 1) := by decide +kernel
theorem dX7_remembers_9 : decode cX7_remembers 9 = .ok (.bipush 20, 2) := by decide +kernel
theorem dX7_remembers_11 : decode cX7_remembers 11 = .ok (.irem, 1) := by decide +kernel
theorem dX7_remembers_12 : decode cX7_remembers 12 = .ok (.istore_n 2, 1) := by decide +kernel
theorem dX7_remembers_13 : decode cX7_remembers 13 = .ok (.aload_n 0, 1) := by decide +kernel
theorem dX7_remembers_14 : decode cX7_remembers 14 = .ok (.getfield 29, 3) := by decide +kernel
theorem dX7_remembers_17 : decode cX7_remembers 17 = .ok (.iload_n 2, 1) := by decide +kernel
theorem dX7_remembers_18 : decode cX7_remembers 18 = .ok (.iload_n 1, 1) := by decide +kernel
theorem dX7_remembers_19 : decode cX7_remembers 19 = .ok (.iastore, 1) := by decide +kernel
theorem dX7_remembers_20 : decode cX7_remembers 20 = .ok (.iconst 0, 1) := by decide +kernel
theorem dX7_remembers_21 : decode cX7_remembers 21 = .ok (.istore_n 3, 1) := by decide +kernel
theorem dX7_remembers_22 : decode cX7_remembers 22 = .ok (.iload_n 3, 1) := by decide +kernel
theorem dX7_remembers_23 : decode cX7_remembers 23 = .ok (.bipush 28, 2) := by decide +kernel
theorem dX7_remembers_25 : decode cX7_remembers 25 = .ok (.if_icmp .ge 26, 3) := by decide +kernel
theorem dX7_remembers_28 : decode cX7_remembers 28 = .ok (.aload_n 0, 1) := by decide +kernel
theorem dX7_remembers_29 : decode cX7_remembers 29 = .ok (.getfield 32, 3) := by decide +kernel
theorem dX7_remembers_32 : decode cX7_remembers 32 = .ok (.bipush 28, 2) := by decide +kernel
theorem dX7_remembers_34 : decode cX7_remembers 34 = .ok (.iload_n 2, 1) := by decide +kernel
theorem dX7_remembers_35 : decode cX7_remembers 35 = .ok (.imul, 1) := by decide +kernel
theorem dX7_remembers_36 : decode cX7_remembers 36 = .ok (.iload_n 3, 1) := by decide +kernel
theorem dX7_remembers_37 : decode cX7_remembers 37 = .ok (.iadd, 1) := by decide +kernel
theorem dX7_remembers_38 : decode cX7_remembers 38 = .ok (.aload_n 0, 1) := by decide +kernel
theorem dX7_remembers_39 : decode cX7_remembers 39 = .ok (.getfield 22, 3) := by decide +kernel
theorem dX7_remembers_42 : decode cX7_remembers 42 = .ok (.iload_n 3, 1) := by decide +kernel
theorem dX7_remembers_43 : decode cX7_remembers 43 = .ok (.iaload, 1) := by decide +kernel
theorem dX7_remembers_44 : decode cX7_remembers 44 = .ok (.iastore, 1) := by decide +kernel
theorem dX7_remembers_45 : decode cX7_remembers 45 = .ok (.iinc 3 1, 3) := by decide +kernel
theorem dX7_remembers_48 : decode cX7_remembers 48 = .ok (.goto (-26), 3) := by decide +kernel
theorem dX7_remembers_51 : decode cX7_remembers 51 = .ok (.aload_n 0, 1) := by decide +kernel
theorem dX7_remembers_52 : decode cX7_remembers 52 = .ok (.aload_n 0, 1) := by decide +kernel
theorem dX7_remembers_53 : decode cX7_remembers 53 = .ok (.getfield 83, 3) := by decide +kernel
theorem dX7_remembers_56 : decode cX7_remembers 56 = .ok (.bipush 20, 2) := by decide +kernel
theorem dX7_remembers_58 : decode cX7_remembers 58 = .ok (.if_icmp .ge 10, 3) := by decide +kernel
theorem dX7_remembers_61 : decode cX7_remembers 61 = .ok (.aload_n 0, 1) := by decide +kernel
theorem dX7_remembers_62 : decode cX7_remembers 62 = .ok (.getfield 80, 3) := by decide +kernel
theorem dX7_remembers_65 : decode cX7_remembers 65 = .ok (.goto 12, 3) := by decide +kernel
theorem dX7_remembers_68 : decode cX7_remembers 68 = .ok (.aload_n 0, 1) := by decide +kernel
theorem dX7_remembers_69 : decode cX7_remembers 69 = .ok (.getfield 80, 3) := by decide +kernel
theorem dX7_remembers_72 : decode cX7_remembers 72 = .ok (.iconst 1, 1) := by decide +kernel
theorem dX7_remembers_73 : decode cX7_remembers 73 = .ok (.iadd, 1) := by decide +kernel
theorem dX7_remembers_74 : decode cX7_remembers 74 = .ok (.bipush 20, 2) := by decide +kernel
theorem dX7_remembers_76 : decode cX7_remembers 76 = .ok (.irem, 1) := by decide +kernel
theorem dX7_remembers_77 : decode cX7_remembers 77 = .ok (.putfield 80, 3) := by decide +kernel
theorem dX7_remembers_80 : decode cX7_remembers 80 = .ok (.aload_n 0, 1) := by decide +kernel
theorem dX7_remembers_81 : decode cX7_remembers 81 = .ok (.dup, 1) := by decide +kernel
theorem dX7_remembers_82 : decode cX7_remembers 82 = .ok (.getfield 83, 3) := by decide +kernel
theorem dX7_remembers_85 : decode cX7_remembers 85 = .ok (.aload_n 0, 1) := by decide +kernel
theorem dX7_remembers_86 : decode cX7_remembers 86 = .ok (.getfield 83, 3) := by decide +kernel
theorem dX7_remembers_89 : decode cX7_remembers 89 = .ok (.bipush 20, 2) := by decide +kernel
theorem dX7_remembers_91 : decode cX7_remembers 91 = .ok (.if_icmp .ge 7, 3) := by decide +kernel
theorem dX7_remembers_94 : decode cX7_remembers 94 = .ok (.iconst 1, 1) := by decide +kernel
theorem dX7_remembers_95 : decode cX7_remembers 95 = .ok (.goto 4, 3) := by decide +kernel
theorem dX7_remembers_98 : decode cX7_remembers 98 = .ok (.iconst 0, 1) := by decide +kernel
theorem dX7_remembers_99 : decode cX7_remembers 99 = .ok (.iadd, 1) := by decide +kernel
theorem dX7_remembers_100 : decode cX7_remembers 100 = .ok (.putfield 83, 3) := by decide +kernel
theorem dX7_remembers_103 : decode cX7_remembers 103 = .ok (.return_, 1) := by decide +kernel
set_option maxRecDepth 20000 in
theorem ggX7_setWeight_X7_asks : GoodIn wsX7_setWeight wsX7_asks := goodIn_r _ [6, 7, 26, 27, 28, 29, 30, 31, 32, 33, 34, 35, 36, 37, 38, 39, 40, 41, 42, 43, 44, 45] (by decide +kernel) (by decide +kernel)
set_option maxRecDepth 20000 in
theorem gX7_setWeight_X7_asks : GoodIn wsX7_setWeight (wsV RX7 65 RX7 yX7_asks wsX7_asks) := goodIn_app (goodIn_of _ (by decide +kernel)) ggX7_setWeight_X7_asks
set_option maxRecDepth 20000 in
theorem ggX7_setWeight_X7_fails : GoodIn wsX7_setWeight wsX7_fails := goodIn_r _ [11, 7, 26, 27, 28, 29, 30, 31, 32, 33, 34, 35, 36, 37, 38, 39, 40, 41, 42, 43, 44, 45] (by decide +kernel) (by decide +kernel)
set_option maxRecDepth 20000 in
theorem gX7_setWeight_X7_fails : GoodIn wsX7_setWeight (wsV RX7 69 RX7 yX7_fails wsX7_fails) := goodIn_app (goodIn_of _ (by decide +kernel)) ggX7_setWeight_X7_fails
set_option maxRecDepth 20000 in
theorem ggX7_setWeight_X7_remembers : GoodIn wsX7_setWeight wsX7_remembers := goodIn_r _ [15, 16, 17, 18, 19, 1, 26, 27, 28, 29, 30, 31, 32, 33, 34, 35, 36, 37, 38, 39, 40, 41, 42, 43, 44, 45] (by decide +kernel) (by decide +kernel)
set_option maxRecDepth 20000 in
theorem gX7_setWeight_X7_remembers : GoodIn wsX7_setWeight (wsV RX7 86 RX7 yX7_remembers wsX7_remembers) := goodIn_app (goodIn_of _ (by decide +kernel)) ggX7_setWeight_X7_remembers
set_option maxRecDepth 20000 in
theorem ggX7_setWeight_X7_changed : GoodIn wsX7_setWeight wsX7_changed := goodIn_r _ [23, 24, 25, 26, 27, 28, 29, 30, 31, 32, 33, 34, 35, 36, 37, 38, 39, 40, 41, 42, 43, 44, 45] (by decide +kernel) (by decide +kernel)
set_option maxRecDepth 20000 in
theorem gX7_setWeight_X7_changed : GoodIn wsX7_setWeight (wsV RX7 73 RX7 yX7_changed wsX7_changed) := goodIn_app (goodIn_of _ (by decide +kernel)) ggX7_setWeight_X7_changed
theorem dX7_setWeight_0 : decode cX7_setWeight 0 = .ok (.aload_n 0, 1) := by decide +kernel
theorem dX7_setWeight_1 : decode cX7_setWeight 1 = .ok (.iload_n 1, 1) := by decide +kernel
theorem dX7_setWeight_2 : decode cX7_setWeight 2 = .ok (.ifCond .lt 13, 3) := by decide +kernel
theorem dX7_setWeight_5 : decode cX7_setWeight 5 = .ok (.iload_n 1, 1) := by decide +kernel
theorem dX7_setWeight_6 : decode cX7_setWeight 6 = .ok (.bipush 28, 2) := by decide +kernel
theorem dX7_setWeight_8 : decode cX7_setWeight 8 = .ok (.if_icmp .ge 7, 3) := by decide +kernel
theorem dX7_setWeight_11 : decode cX7_setWeight 11 = .ok (.iconst 1, 1) := by decide +kernel
theorem dX7_setWeight_12 : decode cX7_setWeight 12 = .ok (.goto 4, 3) := by decide +kernel
theorem dX7_setWeight_15 : decode cX7_setWeight 15 = .ok (.iconst 0, 1) := by decide +kernel
theorem dX7_setWeight_16 : decode cX7_setWeight 16 = .ok (.invokevirtual 65, 3) := by decide +kernel
theorem dX7_setWeight_19 : decode cX7_setWeight 19 = .ok (.ifCond .ne 5, 3) := by decide +kernel
theorem dX7_setWeight_22 : decode cX7_setWeight 22 = .ok (.iconst 0, 1) := by decide +kernel
theorem dX7_setWeight_23 : decode cX7_setWeight 23 = .ok (.ireturn, 1) := by decide +kernel
theorem dX7_setWeight_24 : decode cX7_setWeight 24 = .ok (.iload_n 2, 1) := by decide +kernel
theorem dX7_setWeight_25 : decode cX7_setWeight 25 = .ok (.bipush (-100), 2) := by decide +kernel
theorem dX7_setWeight_27 : decode cX7_setWeight 27 = .ok (.if_icmp .lt 9, 3) := by decide +kernel
theorem dX7_setWeight_30 : decode cX7_setWeight 30 = .ok (.iload_n 2, 1) := by decide +kernel
theorem dX7_setWeight_31 : decode cX7_setWeight 31 = .ok (.bipush 100, 2) := by decide +kernel
theorem dX7_setWeight_33 : decode cX7_setWeight 33 = .ok (.if_icmp .le 9, 3) := by decide +kernel
theorem dX7_setWeight_36 : decode cX7_setWeight 36 = .ok (.aload_n 0, 1) := by decide +kernel
theorem dX7_setWeight_37 : decode cX7_setWeight 37 = .ok (.iconst 2, 1) := by decide +kernel
theorem dX7_setWeight_38 : decode cX7_setWeight 38 = .ok (.invokevirtual 69, 3) := by decide +kernel
theorem dX7_setWeight_41 : decode cX7_setWeight 41 = .ok (.ireturn, 1) := by decide +kernel
theorem dX7_setWeight_42 : decode cX7_setWeight 42 = .ok (.aload_n 0, 1) := by decide +kernel
theorem dX7_setWeight_43 : decode cX7_setWeight 43 = .ok (.iload_n 1, 1) := by decide +kernel
theorem dX7_setWeight_44 : decode cX7_setWeight 44 = .ok (.invokevirtual 86, 3) := by decide +kernel
theorem dX7_setWeight_47 : decode cX7_setWeight 47 = .ok (.aload_n 0, 1) := by decide +kernel
theorem dX7_setWeight_48 : decode cX7_setWeight 48 = .ok (.getfield 22, 3) := by decide +kernel
theorem dX7_setWeight_51 : decode cX7_setWeight 51 = .ok (.iload_n 1, 1) := by decide +kernel
theorem dX7_setWeight_52 : decode cX7_setWeight 52 = .ok (.iaload, 1) := by decide +kernel
theorem dX7_setWeight_53 : decode cX7_setWeight 53 = .ok (.istore_n 3, 1) := by decide +kernel
theorem dX7_setWeight_54 : decode cX7_setWeight 54 = .ok (.aload_n 0, 1) := by decide +kernel
theorem dX7_setWeight_55 : decode cX7_setWeight 55 = .ok (.getfield 22, 3) := by decide +kernel
theorem dX7_setWeight_58 : decode cX7_setWeight 58 = .ok (.iload_n 1, 1) := by decide +kernel
theorem dX7_setWeight_59 : decode cX7_setWeight 59 = .ok (.iload_n 2, 1) := by decide +kernel
theorem dX7_setWeight_60 : decode cX7_setWeight 60 = .ok (.iastore, 1) := by decide +kernel
theorem dX7_setWeight_61 : decode cX7_setWeight 61 = .ok (.aload_n 0, 1) := by decide +kernel
theorem dX7_setWeight_62 : decode cX7_setWeight 62 = .ok (.invokevirtual 73, 3) := by decide +kernel
theorem dX7_setWeight_65 : decode cX7_setWeight 65 = .ok (.iload_n 3, 1) := by decide +kernel
theorem dX7_setWeight_66 : decode cX7_setWeight 66 = .ok (.ireturn, 1) := by decide +kernel
set_option maxRecDepth 20000 in
theorem ggX7_weight_X7_asks : GoodIn wsX7_weight wsX7_asks := goodIn_r _ [6, 7, 8, 9, 10, 11, 12, 13, 14, 15, 16, 17, 18, 19, 20, 21, 22, 23, 24, 25, 26, 27] (by decide +kernel) (by decide +kernel)
set_option maxRecDepth 20000 in
theorem gX7_weight_X7_asks : GoodIn wsX7_weight (wsV RX7 65 RX7 yX7_asks wsX7_asks) := goodIn_app (goodIn_of _ (by decide +kernel)) ggX7_weight_X7_asks
theorem dX7_weight_0 : decode cX7_weight 0 = .ok (.aload_n 0, 1) := by decide +kernel
theorem dX7_weight_1 : decode cX7_weight 1 = .ok (.iload_n 1, 1) := by decide +kernel
theorem dX7_weight_2 : decode cX7_weight 2 = .ok (.ifCond .lt 13, 3) := by decide +kernel
theorem dX7_weight_5 : decode cX7_weight 5 = .ok (.iload_n 1, 1) := by decide +kernel
theorem dX7_weight_6 : decode cX7_weight 6 = .ok (.bipush 28, 2) := by decide +kernel
theorem dX7_weight_8 : decode cX7_weight 8 = .ok (.if_icmp .ge 7, 3) := by decide +kernel
theorem dX7_weight_11 : decode cX7_weight 11 = .ok (.iconst 1, 1) := by decide +kernel
theorem dX7_weight_12 : decode cX7_weight 12 = .ok (.goto 4, 3) := by decide +kernel
theorem dX7_weight_15 : decode cX7_weight 15 = .ok (.iconst 0, 1) := by decide +kernel
theorem dX7_weight_16 : decode cX7_weight 16 = .ok (.invokevirtual 65, 3) := by decide +kernel
theorem dX7_weight_19 : decode cX7_weight 19 = .ok (.ifCond .eq 12, 3) := by decide +kernel
theorem dX7_weight_22 : decode cX7_weight 22 = .ok (.aload_n 0, 1) := by decide +kernel
theorem dX7_weight_23 : decode cX7_weight 23 = .ok (.getfield 22, 3) := by decide +kernel
theorem dX7_weight_26 : decode cX7_weight 26 = .ok (.iload_n 1, 1) := by decide +kernel
theorem dX7_weight_27 : decode cX7_weight 27 = .ok (.iaload, 1) := by decide +kernel
theorem dX7_weight_28 : decode cX7_weight 28 = .ok (.goto 4, 3) := by decide +kernel
theorem dX7_weight_31 : decode cX7_weight 31 = .ok (.iconst 0, 1) := by decide +kernel
theorem dX7_weight_32 : decode cX7_weight 32 = .ok (.ireturn, 1) := by decide +kernel
theorem dX7_byKind_0 : decode cX7_byKind 0 = .ok (.iconst 4, 1) := by decide +kernel
theorem dX7_byKind_1 : decode cX7_byKind 1 = .ok (.iload_n 2, 1) := by decide +kernel
theorem dX7_byKind_2 : decode cX7_byKind 2 = .ok (.ifCond .ne 7, 3) := by decide +kernel
theorem dX7_byKind_5 : decode cX7_byKind 5 = .ok (.iconst 4, 1) := by decide +kernel
theorem dX7_byKind_6 : decode cX7_byKind 6 = .ok (.goto 14, 3) := by decide +kernel
theorem dX7_byKind_9 : decode cX7_byKind 9 = .ok (.aload_n 0, 1) := by decide +kernel
theorem dX7_byKind_10 : decode cX7_byKind 10 = .ok (.getfield 13, 3) := by decide +kernel
theorem dX7_byKind_13 : decode cX7_byKind 13 = .ok (.bipush 7, 2) := by decide +kernel
theorem dX7_byKind_15 : decode cX7_byKind 15 = .ok (.iload_n 1, 1) := by decide +kernel
theorem dX7_byKind_16 : decode cX7_byKind 16 = .ok (.imul, 1) := by decide +kernel
theorem dX7_byKind_17 : decode cX7_byKind 17 = .ok (.iload_n 2, 1) := by decide +kernel
theorem dX7_byKind_18 : decode cX7_byKind 18 = .ok (.iadd, 1) := by decide +kernel
theorem dX7_byKind_19 : decode cX7_byKind 19 = .ok (.iaload, 1) := by decide +kernel
theorem dX7_byKind_20 : decode cX7_byKind 20 = .ok (.imul, 1) := by decide +kernel
theorem dX7_byKind_21 : decode cX7_byKind 21 = .ok (.aload_n 0, 1) := by decide +kernel
theorem dX7_byKind_22 : decode cX7_byKind 22 = .ok (.getfield 13, 3) := by decide +kernel
theorem dX7_byKind_25 : decode cX7_byKind 25 = .ok (.bipush 7, 2) := by decide +kernel
theorem dX7_byKind_27 : decode cX7_byKind 27 = .ok (.iload_n 1, 1) := by decide +kernel
theorem dX7_byKind_28 : decode cX7_byKind 28 = .ok (.imul, 1) := by decide +kernel
theorem dX7_byKind_29 : decode cX7_byKind 29 = .ok (.iload_n 3, 1) := by decide +kernel
theorem dX7_byKind_30 : decode cX7_byKind 30 = .ok (.iadd, 1) := by decide +kernel
theorem dX7_byKind_31 : decode cX7_byKind 31 = .ok (.iaload, 1) := by decide +kernel
theorem dX7_byKind_32 : decode cX7_byKind 32 = .ok (.iadd, 1) := by decide +kernel
theorem dX7_byKind_33 : decode cX7_byKind 33 = .ok (.ireturn, 1) := by decide +kernel
theorem dX7_byDistance_0 : decode cX7_byDistance 0 = .ok (.iload_n 0, 1) := by decide +kernel
theorem dX7_byDistance_1 : decode cX7_byDistance 1 = .ok (.iload_n 1, 1) := by decide +kernel
theorem dX7_byDistance_2 : decode cX7_byDistance 2 = .ok (.if_icmp .le 9, 3) := by decide +kernel
theorem dX7_byDistance_5 : decode cX7_byDistance 5 = .ok (.iload_n 0, 1) := by decide +kernel
theorem dX7_byDistance_6 : decode cX7_byDistance 6 = .ok (.iload_n 1, 1) := by decide +kernel
theorem dX7_byDistance_7 : decode cX7_byDistance 7 = .ok (.isub, 1) := by decide +kernel
theorem dX7_byDistance_8 : decode cX7_byDistance 8 = .ok (.goto 6, 3) := by decide +kernel
theorem dX7_byDistance_11 : decode cX7_byDistance 11 = .ok (.iload_n 1, 1) := by decide +kernel
theorem dX7_byDistance_12 : decode cX7_byDistance 12 = .ok (.iload_n 0, 1) := by decide +kernel
theorem dX7_byDistance_13 : decode cX7_byDistance 13 = .ok (.isub, 1) := by decide +kernel
theorem dX7_byDistance_14 : decode cX7_byDistance 14 = .ok (.istore_n 2, 1) := by decide +kernel
theorem dX7_byDistance_15 : decode cX7_byDistance 15 = .ok (.bipush 18, 2) := by decide +kernel
theorem dX7_byDistance_17 : decode cX7_byDistance 17 = .ok (.iconst 2, 1) := by decide +kernel
theorem dX7_byDistance_18 : decode cX7_byDistance 18 = .ok (.iload_n 2, 1) := by decide +kernel
theorem dX7_byDistance_19 : decode cX7_byDistance 19 = .ok (.iconst 4, 1) := by decide +kernel
theorem dX7_byDistance_20 : decode cX7_byDistance 20 = .ok (.if_icmp .ge 7, 3) := by decide +kernel
theorem dX7_byDistance_23 : decode cX7_byDistance 23 = .ok (.iload_n 2, 1) := by decide +kernel
theorem dX7_byDistance_24 : decode cX7_byDistance 24 = .ok (.goto 4, 3) := by decide +kernel
theorem dX7_byDistance_27 : decode cX7_byDistance 27 = .ok (.iconst 4, 1) := by decide +kernel
theorem dX7_byDistance_28 : decode cX7_byDistance 28 = .ok (.imul, 1) := by decide +kernel
theorem dX7_byDistance_29 : decode cX7_byDistance 29 = .ok (.iadd, 1) := by decide +kernel
theorem dX7_byDistance_30 : decode cX7_byDistance 30 = .ok (.iload_n 0, 1) := by decide +kernel
theorem dX7_byDistance_31 : decode cX7_byDistance 31 = .ok (.iload_n 1, 1) := by decide +kernel
theorem dX7_byDistance_32 : decode cX7_byDistance 32 = .ok (.if_icmp .le 7, 3) := by decide +kernel
theorem dX7_byDistance_35 : decode cX7_byDistance 35 = .ok (.iconst 1, 1) := by decide +kernel
theorem dX7_byDistance_36 : decode cX7_byDistance 36 = .ok (.goto 4, 3) := by decide +kernel
theorem dX7_byDistance_39 : decode cX7_byDistance 39 = .ok (.iconst 0, 1) := by decide +kernel
theorem dX7_byDistance_40 : decode cX7_byDistance 40 = .ok (.iadd, 1) := by decide +kernel
theorem dX7_byDistance_41 : decode cX7_byDistance 41 = .ok (.ireturn, 1) := by decide +kernel
set_option maxRecDepth 20000 in
theorem ggX7_scoreOf_X7_byKind : GoodIn wsX7_scoreOf wsX7_byKind := goodIn_r _ [6, 7, 11, 12, 13, 14, 15, 16, 17, 18, 19, 20, 21, 22, 23, 24, 25, 26, 27, 28, 29, 30] (by decide +kernel) (by decide +kernel)
set_option maxRecDepth 20000 in
theorem gX7_scoreOf_X7_byKind : GoodIn wsX7_scoreOf (wsV RX7 90 RX7 yX7_byKind wsX7_byKind) := goodIn_app (goodIn_of _ (by decide +kernel)) ggX7_scoreOf_X7_byKind
set_option maxRecDepth 20000 in
theorem ggX7_scoreOf_X7_byDistance : GoodIn wsX7_scoreOf wsX7_byDistance := goodIn_r _ [10] (by decide +kernel) (by decide +kernel)
set_option maxRecDepth 20000 in
theorem gX7_scoreOf_X7_byDistance : GoodIn wsX7_scoreOf (va_wsS RX7 94 yX7_byDistance wsX7_byDistance) := goodIn_app (goodIn_of _ (by decide +kernel)) ggX7_scoreOf_X7_byDistance
theorem dX7_scoreOf_0 : decode cX7_scoreOf 0 = .ok (.aload_n 0, 1) := by decide +kernel
theorem dX7_scoreOf_1 : decode cX7_scoreOf 1 = .ok (.getfield 22, 3) := by decide +kernel
theorem dX7_scoreOf_4 : decode cX7_scoreOf 4 = .ok (.aload_n 0, 1) := by decide +kernel
theorem dX7_scoreOf_5 : decode cX7_scoreOf 5 = .ok (.iload_n 1, 1) := by decide +kernel
theorem dX7_scoreOf_6 : decode cX7_scoreOf 6 = .ok (.iload_n 2, 1) := by decide +kernel
theorem dX7_scoreOf_7 : decode cX7_scoreOf 7 = .ok (.iload_n 3, 1) := by decide +kernel
theorem dX7_scoreOf_8 : decode cX7_scoreOf 8 = .ok (.invokevirtual 90, 3) := by decide +kernel
theorem dX7_scoreOf_11 : decode cX7_scoreOf 11 = .ok (.iaload, 1) := by decide +kernel
theorem dX7_scoreOf_12 : decode cX7_scoreOf 12 = .ok (.aload_n 0, 1) := by decide +kernel
theorem dX7_scoreOf_13 : decode cX7_scoreOf 13 = .ok (.getfield 22, 3) := by decide +kernel
theorem dX7_scoreOf_16 : decode cX7_scoreOf 16 = .ok (.iload_n 2, 1) := by decide +kernel
theorem dX7_scoreOf_17 : decode cX7_scoreOf 17 = .ok (.iload_n 3, 1) := by decide +kernel
theorem dX7_scoreOf_18 : decode cX7_scoreOf 18 = .ok (.invokestatic 94, 3) := by decide +kernel
theorem dX7_scoreOf_21 : decode cX7_scoreOf 21 = .ok (.iaload, 1) := by decide +kernel
theorem dX7_scoreOf_22 : decode cX7_scoreOf 22 = .ok (.iadd, 1) := by decide +kernel
theorem dX7_scoreOf_23 : decode cX7_scoreOf 23 = .ok (.ireturn, 1) := by decide +kernel
set_option maxRecDepth 20000 in
theorem ggX7_asksArc_X7_isPlace : GoodIn wsX7_asksArc wsX7_isPlace := goodIn_r _ [6, 7, 8, 9, 10, 5, 11, 12, 17, 18, 19, 20, 21, 22, 23, 24, 25, 26, 27, 28, 29, 30, 31, 32, 33, 34, 35, 36] (by decide +kernel) (by decide +kernel)
set_option maxRecDepth 20000 in
theorem gX7_asksArc_X7_isPlace : GoodIn wsX7_asksArc (wsV RX7 98 RX7 yX7_isPlace wsX7_isPlace) := goodIn_app (goodIn_of _ (by decide +kernel)) ggX7_asksArc_X7_isPlace
set_option maxRecDepth 20000 in
theorem ggX7_asksArc_X7_isWord : GoodIn wsX7_asksArc wsX7_isWord := goodIn_r _ [16, 7, 8, 9, 10, 5, 11, 12, 17, 18, 19, 20, 21, 22, 23, 24, 25, 26, 27, 28, 29, 30, 31, 32, 33, 34, 35, 36] (by decide +kernel) (by decide +kernel)
set_option maxRecDepth 20000 in
theorem gX7_asksArc_X7_isWord : GoodIn wsX7_asksArc (wsV RX7 76 RX7 yX7_isWord wsX7_isWord) := goodIn_app (goodIn_of _ (by decide +kernel)) ggX7_asksArc_X7_isWord
theorem dX7_asksArc_0 : decode cX7_asksArc 0 = .ok (.aload_n 0, 1) := by decide +kernel
theorem dX7_asksArc_1 : decode cX7_asksArc 1 = .ok (.aload_n 0, 1) := by decide +kernel
theorem dX7_asksArc_2 : decode cX7_asksArc 2 = .ok (.iload_n 1, 1) := by decide +kernel
theorem dX7_asksArc_3 : decode cX7_asksArc 3 = .ok (.iload_n 2, 1) := by decide +kernel
theorem dX7_asksArc_4 : decode cX7_asksArc 4 = .ok (.invokevirtual 98, 3) := by decide +kernel
theorem dX7_asksArc_7 : decode cX7_asksArc 7 = .ok (.ifCond .eq 12, 3) := by decide +kernel
theorem dX7_asksArc_10 : decode cX7_asksArc 10 = .ok (.aload_n 0, 1) := by decide +kernel
theorem dX7_asksArc_11 : decode cX7_asksArc 11 = .ok (.iload_n 1, 1) := by decide +kernel
theorem dX7_asksArc_12 : decode cX7_asksArc 12 = .ok (.iload_n 3, 1) := by decide +kernel
theorem dX7_asksArc_13 : decode cX7_asksArc 13 = .ok (.invokevirtual 76, 3) := by decide +kernel
theorem dX7_asksArc_16 : decode cX7_asksArc 16 = .ok (.ifCond .ne 7, 3) := by decide +kernel
theorem dX7_asksArc_19 : decode cX7_asksArc 19 = .ok (.iconst 1, 1) := by decide +kernel
theorem dX7_asksArc_20 : decode cX7_asksArc 20 = .ok (.goto 13, 3) := by decide +kernel
theorem dX7_asksArc_23 : decode cX7_asksArc 23 = .ok (.iload_n 2, 1) := by decide +kernel
theorem dX7_asksArc_24 : decode cX7_asksArc 24 = .ok (.iload_n 3, 1) := by decide +kernel
theorem dX7_asksArc_25 : decode cX7_asksArc 25 = .ok (.if_icmp .ne 7, 3) := by decide +kernel
theorem dX7_asksArc_28 : decode cX7_asksArc 28 = .ok (.iconst 2, 1) := by decide +kernel
theorem dX7_asksArc_29 : decode cX7_asksArc 29 = .ok (.goto 4, 3) := by decide +kernel
theorem dX7_asksArc_32 : decode cX7_asksArc 32 = .ok (.iconst 0, 1) := by decide +kernel
theorem dX7_asksArc_33 : decode cX7_asksArc 33 = .ok (.putfield 55, 3) := by decide +kernel
theorem dX7_asksArc_36 : decode cX7_asksArc 36 = .ok (.aload_n 0, 1) := by decide +kernel
theorem dX7_asksArc_37 : decode cX7_asksArc 37 = .ok (.getfield 55, 3) := by decide +kernel
theorem dX7_asksArc_40 : decode cX7_asksArc 40 = .ok (.ifCond .ne 7, 3) := by decide +kernel
theorem dX7_asksArc_43 : decode cX7_asksArc 43 = .ok (.iconst 1, 1) := by decide +kernel
theorem dX7_asksArc_44 : decode cX7_asksArc 44 = .ok (.goto 4, 3) := by decide +kernel
theorem dX7_asksArc_47 : decode cX7_asksArc 47 = .ok (.iconst 0, 1) := by decide +kernel
theorem dX7_asksArc_48 : decode cX7_asksArc 48 = .ok (.ireturn, 1) := by decide +kernel
set_option maxRecDepth 20000 in
theorem ggX7_feature_X7_asksArc : GoodIn wsX7_feature wsX7_asksArc := goodIn_r _ [5, 6, 7, 8, 9, 4, 10, 11, 12, 13, 14, 15, 16, 17, 18, 19, 20, 29, 30, 31, 32, 33, 34, 35, 36, 37, 38, 39, 40, 41, 42, 43, 44, 45, 46, 47, 48] (by decide +kernel) (by decide +kernel)
set_option maxRecDepth 20000 in
theorem gX7_feature_X7_asksArc : GoodIn wsX7_feature (wsV RX7 101 RX7 yX7_asksArc wsX7_asksArc) := goodIn_app (goodIn_of _ (by decide +kernel)) ggX7_feature_X7_asksArc
set_option maxRecDepth 20000 in
theorem ggX7_feature_X7_byDistance : GoodIn wsX7_feature wsX7_byDistance := goodIn_r _ [23] (by decide +kernel) (by decide +kernel)
set_option maxRecDepth 20000 in
theorem gX7_feature_X7_byDistance : GoodIn wsX7_feature (va_wsS RX7 94 yX7_byDistance wsX7_byDistance) := goodIn_app (goodIn_of _ (by decide +kernel)) ggX7_feature_X7_byDistance
set_option maxRecDepth 20000 in
theorem ggX7_feature_X7_byKind : GoodIn wsX7_feature wsX7_byKind := goodIn_r _ [27, 28, 29, 30, 31, 32, 33, 34, 35, 36, 37, 38, 39, 40, 41, 42, 43, 44, 45, 46, 47, 48] (by decide +kernel) (by decide +kernel)
set_option maxRecDepth 20000 in
theorem gX7_feature_X7_byKind : GoodIn wsX7_feature (wsV RX7 90 RX7 yX7_byKind wsX7_byKind) := goodIn_app (goodIn_of _ (by decide +kernel)) ggX7_feature_X7_byKind
theorem dX7_feature_0 : decode cX7_feature 0 = .ok (.aload_n 0, 1) := by decide +kernel
theorem dX7_feature_1 : decode cX7_feature 1 = .ok (.iload_n 1, 1) := by decide +kernel
theorem dX7_feature_2 : decode cX7_feature 2 = .ok (.iload_n 2, 1) := by decide +kernel
theorem dX7_feature_3 : decode cX7_feature 3 = .ok (.iload_n 3, 1) := by decide +kernel
theorem dX7_feature_4 : decode cX7_feature 4 = .ok (.invokevirtual 101, 3) := by decide +kernel
theorem dX7_feature_7 : decode cX7_feature 7 = .ok (.ifCond .ne 7, 3) := by decide +kernel
theorem dX7_feature_10 : decode cX7_feature 10 = .ok (.iconst 0, 1) := by decide +kernel
theorem dX7_feature_11 : decode cX7_feature 11 = .ok (.goto 23, 3) := by decide +kernel
theorem dX7_feature_14 : decode cX7_feature 14 = .ok (.iload 4, 2) := by decide +kernel
theorem dX7_feature_16 : decode cX7_feature 16 = .ok (.ifCond .eq 11, 3) := by decide +kernel
theorem dX7_feature_19 : decode cX7_feature 19 = .ok (.iload_n 2, 1) := by decide +kernel
theorem dX7_feature_20 : decode cX7_feature 20 = .ok (.iload_n 3, 1) := by decide +kernel
theorem dX7_feature_21 : decode cX7_feature 21 = .ok (.invokestatic 94, 3) := by decide +kernel
theorem dX7_feature_24 : decode cX7_feature 24 = .ok (.goto 10, 3) := by decide +kernel
theorem dX7_feature_27 : decode cX7_feature 27 = .ok (.aload_n 0, 1) := by decide +kernel
theorem dX7_feature_28 : decode cX7_feature 28 = .ok (.iload_n 1, 1) := by decide +kernel
theorem dX7_feature_29 : decode cX7_feature 29 = .ok (.iload_n 2, 1) := by decide +kernel
theorem dX7_feature_30 : decode cX7_feature 30 = .ok (.iload_n 3, 1) := by decide +kernel
theorem dX7_feature_31 : decode cX7_feature 31 = .ok (.invokevirtual 90, 3) := by decide +kernel
theorem dX7_feature_34 : decode cX7_feature 34 = .ok (.ireturn, 1) := by decide +kernel
set_option maxRecDepth 20000 in
theorem ggX7_score_X7_asksArc : GoodIn wsX7_score wsX7_asksArc := goodIn_r _ [5, 6, 7, 8, 9, 4, 10, 11, 12, 13, 14, 15, 16, 17, 18, 19, 20, 34, 35, 36, 37, 38, 39, 40, 41, 42, 43, 44, 45, 46, 47, 48, 49, 50, 51, 52, 53] (by decide +kernel) (by decide +kernel)
set_option maxRecDepth 20000 in
theorem gX7_score_X7_asksArc : GoodIn wsX7_score (wsV RX7 101 RX7 yX7_asksArc wsX7_asksArc) := goodIn_app (goodIn_of _ (by decide +kernel)) ggX7_score_X7_asksArc
set_option maxRecDepth 20000 in
theorem ggX7_score_X7_scoreOf : GoodIn wsX7_score wsX7_scoreOf := goodIn_r _ [24, 25, 26, 27, 28, 4, 29, 30, 31, 32, 33, 34, 35, 36, 37, 38, 39, 40, 41, 42, 43, 44, 45, 46, 47, 48, 49, 50, 51, 52, 53] (by decide +kernel) (by decide +kernel)
set_option maxRecDepth 20000 in
theorem gX7_score_X7_scoreOf : GoodIn wsX7_score (wsV RX7 105 RX7 yX7_scoreOf wsX7_scoreOf) := goodIn_app (goodIn_of _ (by decide +kernel)) ggX7_score_X7_scoreOf
theorem dX7_score_0 : decode cX7_score 0 = .ok (.aload_n 0, 1) := by decide +kernel
theorem dX7_score_1 : decode cX7_score 1 = .ok (.iload_n 1, 1) := by decide +kernel
theorem dX7_score_2 : decode cX7_score 2 = .ok (.iload_n 2, 1) := by decide +kernel
theorem dX7_score_3 : decode cX7_score 3 = .ok (.iload_n 3, 1) := by decide +kernel
theorem dX7_score_4 : decode cX7_score 4 = .ok (.invokevirtual 101, 3) := by decide +kernel
theorem dX7_score_7 : decode cX7_score 7 = .ok (.ifCond .eq 13, 3) := by decide +kernel
theorem dX7_score_10 : decode cX7_score 10 = .ok (.aload_n 0, 1) := by decide +kernel
theorem dX7_score_11 : decode cX7_score 11 = .ok (.iload_n 1, 1) := by decide +kernel
theorem dX7_score_12 : decode cX7_score 12 = .ok (.iload_n 2, 1) := by decide +kernel
theorem dX7_score_13 : decode cX7_score 13 = .ok (.iload_n 3, 1) := by decide +kernel
theorem dX7_score_14 : decode cX7_score 14 = .ok (.invokevirtual 105, 3) := by decide +kernel
theorem dX7_score_17 : decode cX7_score 17 = .ok (.goto 4, 3) := by decide +kernel
theorem dX7_score_20 : decode cX7_score 20 = .ok (.iconst 0, 1) := by decide +kernel
theorem dX7_score_21 : decode cX7_score 21 = .ok (.ireturn, 1) := by decide +kernel
theorem dX7_arc_0 : decode cX7_arc 0 = .ok (.bipush 49, 2) := by decide +kernel
theorem dX7_arc_2 : decode cX7_arc 2 = .ok (.iload_n 1, 1) := by decide +kernel
theorem dX7_arc_3 : decode cX7_arc 3 = .ok (.imul, 1) := by decide +kernel
theorem dX7_arc_4 : decode cX7_arc 4 = .ok (.bipush 7, 2) := by decide +kernel
theorem dX7_arc_6 : decode cX7_arc 6 = .ok (.iload_n 3, 1) := by decide +kernel
theorem dX7_arc_7 : decode cX7_arc 7 = .ok (.imul, 1) := by decide +kernel
theorem dX7_arc_8 : decode cX7_arc 8 = .ok (.iadd, 1) := by decide +kernel
theorem dX7_arc_9 : decode cX7_arc 9 = .ok (.iload_n 2, 1) := by decide +kernel
theorem dX7_arc_10 : decode cX7_arc 10 = .ok (.iadd, 1) := by decide +kernel
theorem dX7_arc_11 : decode cX7_arc 11 = .ok (.ireturn, 1) := by decide +kernel
set_option maxRecDepth 20000 in
theorem ggX7_mark_X7_asksArc : GoodIn wsX7_mark wsX7_asksArc := goodIn_r _ [6, 7, 8, 9, 10, 5, 11, 12, 13, 14, 15, 16, 17, 18, 19, 20, 21, 36, 37, 38, 39, 40, 41, 42, 43, 44, 45, 46, 47, 48, 49, 50, 51, 52, 53, 54, 55] (by decide +kernel) (by decide +kernel)
set_option maxRecDepth 20000 in
theorem gX7_mark_X7_asksArc : GoodIn wsX7_mark (wsV RX7 101 RX7 yX7_asksArc wsX7_asksArc) := goodIn_app (goodIn_of _ (by decide +kernel)) ggX7_mark_X7_asksArc
set_option maxRecDepth 20000 in
theorem ggX7_mark_X7_fails : GoodIn wsX7_mark wsX7_fails := goodIn_r _ [25, 7, 36, 37, 38, 39, 40, 41, 42, 43, 44, 45, 46, 47, 48, 49, 50, 51, 52, 53, 54, 55] (by decide +kernel) (by decide +kernel)
set_option maxRecDepth 20000 in
theorem gX7_mark_X7_fails : GoodIn wsX7_mark (wsV RX7 69 RX7 yX7_fails wsX7_fails) := goodIn_app (goodIn_of _ (by decide +kernel)) ggX7_mark_X7_fails
set_option maxRecDepth 20000 in
theorem ggX7_mark_X7_arc : GoodIn wsX7_mark wsX7_arc := goodIn_r _ [29] (by decide +kernel) (by decide +kernel)
set_option maxRecDepth 20000 in
theorem gX7_mark_X7_arc : GoodIn wsX7_mark (wsV RX7 108 RX7 yX7_arc wsX7_arc) := goodIn_app (goodIn_of _ (by decide +kernel)) ggX7_mark_X7_arc
set_option maxRecDepth 20000 in
theorem ggX7_mark_X7_changed : GoodIn wsX7_mark wsX7_changed := goodIn_r _ [33, 34, 35, 36, 37, 38, 39, 40, 41, 42, 43, 44, 45, 46, 47, 48, 49, 50, 51, 52, 53, 54, 55] (by decide +kernel) (by decide +kernel)
set_option maxRecDepth 20000 in
theorem gX7_mark_X7_changed : GoodIn wsX7_mark (wsV RX7 73 RX7 yX7_changed wsX7_changed) := goodIn_app (goodIn_of _ (by decide +kernel)) ggX7_mark_X7_changed
theorem dX7_mark_0 : decode cX7_mark 0 = .ok (.aload_n 0, 1) := by decide +kernel
theorem dX7_mark_1 : decode cX7_mark 1 = .ok (.iload_n 1, 1) := by decide +kernel
theorem dX7_mark_2 : decode cX7_mark 2 = .ok (.iload_n 2, 1) := by decide +kernel
theorem dX7_mark_3 : decode cX7_mark 3 = .ok (.iload_n 3, 1) := by decide +kernel
theorem dX7_mark_4 : decode cX7_mark 4 = .ok (.invokevirtual 101, 3) := by decide +kernel
theorem dX7_mark_7 : decode cX7_mark 7 = .ok (.ifCond .ne 5, 3) := by decide +kernel
theorem dX7_mark_10 : decode cX7_mark 10 = .ok (.iconst 0, 1) := by decide +kernel
theorem dX7_mark_11 : decode cX7_mark 11 = .ok (.ireturn, 1) := by decide +kernel
theorem dX7_mark_12 : decode cX7_mark 12 = .ok (.iload 4, 2) := by decide +kernel
theorem dX7_mark_14 : decode cX7_mark 14 = .ok (.ifCond .lt 9, 3) := by decide +kernel
theorem dX7_mark_17 : decode cX7_mark 17 = .ok (.iload 4, 2) := by decide +kernel
theorem dX7_mark_19 : decode cX7_mark 19 = .ok (.iconst 2, 1) := by decide +kernel
theorem dX7_mark_20 : decode cX7_mark 20 = .ok (.if_icmp .le 9, 3) := by decide +kernel
theorem dX7_mark_23 : decode cX7_mark 23 = .ok (.aload_n 0, 1) := by decide +kernel
theorem dX7_mark_24 : decode cX7_mark 24 = .ok (.iconst 2, 1) := by decide +kernel
theorem dX7_mark_25 : decode cX7_mark 25 = .ok (.invokevirtual 69, 3) := by decide +kernel
theorem dX7_mark_28 : decode cX7_mark 28 = .ok (.ireturn, 1) := by decide +kernel
theorem dX7_mark_29 : decode cX7_mark 29 = .ok (.iconst 0, 1) := by decide +kernel
theorem dX7_mark_30 : decode cX7_mark 30 = .ok (.istore 5, 2) := by decide +kernel
theorem dX7_mark_32 : decode cX7_mark 32 = .ok (.iconst 0, 1) := by decide +kernel
theorem dX7_mark_33 : decode cX7_mark 33 = .ok (.istore 6, 2) := by decide +kernel
theorem dX7_mark_35 : decode cX7_mark 35 = .ok (.iload 6, 2) := by decide +kernel
theorem dX7_mark_37 : decode cX7_mark 37 = .ok (.bipush 6, 2) := by decide +kernel
theorem dX7_mark_39 : decode cX7_mark 39 = .ok (.if_icmp .gt 44, 3) := by decide +kernel
theorem dX7_mark_42 : decode cX7_mark 42 = .ok (.iload 5, 2) := by decide +kernel
theorem dX7_mark_44 : decode cX7_mark 44 = .ok (.ifCond .ne 26, 3) := by decide +kernel
theorem dX7_mark_47 : decode cX7_mark 47 = .ok (.iload 6, 2) := by decide +kernel
theorem dX7_mark_49 : decode cX7_mark 49 = .ok (.iload_n 2, 1) := by decide +kernel
theorem dX7_mark_50 : decode cX7_mark 50 = .ok (.if_icmp .eq 24, 3) := by decide +kernel
theorem dX7_mark_53 : decode cX7_mark 53 = .ok (.aload_n 0, 1) := by decide +kernel
theorem dX7_mark_54 : decode cX7_mark 54 = .ok (.getfield 16, 3) := by decide +kernel
theorem dX7_mark_57 : decode cX7_mark 57 = .ok (.aload_n 0, 1) := by decide +kernel
theorem dX7_mark_58 : decode cX7_mark 58 = .ok (.iload_n 1, 1) := by decide +kernel
theorem dX7_mark_59 : decode cX7_mark 59 = .ok (.iload 6, 2) := by decide +kernel
theorem dX7_mark_61 : decode cX7_mark 61 = .ok (.iload_n 3, 1) := by decide +kernel
theorem dX7_mark_62 : decode cX7_mark 62 = .ok (.invokevirtual 108, 3) := by decide +kernel
theorem dX7_mark_65 : decode cX7_mark 65 = .ok (.iaload, 1) := by decide +kernel
theorem dX7_mark_66 : decode cX7_mark 66 = .ok (.iconst 1, 1) := by decide +kernel
theorem dX7_mark_67 : decode cX7_mark 67 = .ok (.if_icmp .ne 7, 3) := by decide +kernel
theorem dX7_mark_70 : decode cX7_mark 70 = .ok (.iconst 1, 1) := by decide +kernel
theorem dX7_mark_71 : decode cX7_mark 71 = .ok (.goto 4, 3) := by decide +kernel
theorem dX7_mark_74 : decode cX7_mark 74 = .ok (.iconst 0, 1) := by decide +kernel
theorem dX7_mark_75 : decode cX7_mark 75 = .ok (.istore 5, 2) := by decide +kernel
theorem dX7_mark_77 : decode cX7_mark 77 = .ok (.iinc 6 1, 3) := by decide +kernel
theorem dX7_mark_80 : decode cX7_mark 80 = .ok (.goto (-45), 3) := by decide +kernel
theorem dX7_mark_83 : decode cX7_mark 83 = .ok (.iload 4, 2) := by decide +kernel
theorem dX7_mark_85 : decode cX7_mark 85 = .ok (.iconst 1, 1) := by decide +kernel
theorem dX7_mark_86 : decode cX7_mark 86 = .ok (.if_icmp .ne 14, 3) := by decide +kernel
theorem dX7_mark_89 : decode cX7_mark 89 = .ok (.iload 5, 2) := by decide +kernel
theorem dX7_mark_91 : decode cX7_mark 91 = .ok (.ifCond .eq 9, 3) := by decide +kernel
theorem dX7_mark_94 : decode cX7_mark 94 = .ok (.aload_n 0, 1) := by decide +kernel
theorem dX7_mark_95 : decode cX7_mark 95 = .ok (.iconst 3, 1) := by decide +kernel
theorem dX7_mark_96 : decode cX7_mark 96 = .ok (.invokevirtual 69, 3) := by decide +kernel
theorem dX7_mark_99 : decode cX7_mark 99 = .ok (.ireturn, 1) := by decide +kernel
theorem dX7_mark_100 : decode cX7_mark 100 = .ok (.aload_n 0, 1) := by decide +kernel
theorem dX7_mark_101 : decode cX7_mark 101 = .ok (.getfield 16, 3) := by decide +kernel
theorem dX7_mark_104 : decode cX7_mark 104 = .ok (.aload_n 0, 1) := by decide +kernel
theorem dX7_mark_105 : decode cX7_mark 105 = .ok (.iload_n 1, 1) := by decide +kernel
theorem dX7_mark_106 : decode cX7_mark 106 = .ok (.iload_n 2, 1) := by decide +kernel
theorem dX7_mark_107 : decode cX7_mark 107 = .ok (.iload_n 3, 1) := by decide +kernel
theorem dX7_mark_108 : decode cX7_mark 108 = .ok (.invokevirtual 108, 3) := by decide +kernel
theorem dX7_mark_111 : decode cX7_mark 111 = .ok (.iaload, 1) := by decide +kernel
theorem dX7_mark_112 : decode cX7_mark 112 = .ok (.istore 6, 2) := by decide +kernel
theorem dX7_mark_114 : decode cX7_mark 114 = .ok (.aload_n 0, 1) := by decide +kernel
theorem dX7_mark_115 : decode cX7_mark 115 = .ok (.getfield 16, 3) := by decide +kernel
theorem dX7_mark_118 : decode cX7_mark 118 = .ok (.aload_n 0, 1) := by decide +kernel
theorem dX7_mark_119 : decode cX7_mark 119 = .ok (.iload_n 1, 1) := by decide +kernel
theorem dX7_mark_120 : decode cX7_mark 120 = .ok (.iload_n 2, 1) := by decide +kernel
theorem dX7_mark_121 : decode cX7_mark 121 = .ok (.iload_n 3, 1) := by decide +kernel
theorem dX7_mark_122 : decode cX7_mark 122 = .ok (.invokevirtual 108, 3) := by decide +kernel
theorem dX7_mark_125 : decode cX7_mark 125 = .ok (.iload 4, 2) := by decide +kernel
theorem dX7_mark_127 : decode cX7_mark 127 = .ok (.iastore, 1) := by decide +kernel
theorem dX7_mark_128 : decode cX7_mark 128 = .ok (.aload_n 0, 1) := by decide +kernel
theorem dX7_mark_129 : decode cX7_mark 129 = .ok (.invokevirtual 73, 3) := by decide +kernel
theorem dX7_mark_132 : decode cX7_mark 132 = .ok (.iload 6, 2) := by decide +kernel
theorem dX7_mark_134 : decode cX7_mark 134 = .ok (.ireturn, 1) := by decide +kernel
theorem dX7_isBetween_0 : decode cX7_isBetween 0 = .ok (.iload_n 1, 1) := by decide +kernel
theorem dX7_isBetween_1 : decode cX7_isBetween 1 = .ok (.iload_n 2, 1) := by decide +kernel
theorem dX7_isBetween_2 : decode cX7_isBetween 2 = .ok (.if_icmp .ge 21, 3) := by decide +kernel
theorem dX7_isBetween_5 : decode cX7_isBetween 5 = .ok (.iload_n 0, 1) := by decide +kernel
theorem dX7_isBetween_6 : decode cX7_isBetween 6 = .ok (.iload_n 1, 1) := by decide +kernel
theorem dX7_isBetween_7 : decode cX7_isBetween 7 = .ok (.if_icmp .le 12, 3) := by decide +kernel
theorem dX7_isBetween_10 : decode cX7_isBetween 10 = .ok (.iload_n 0, 1) := by decide +kernel
theorem dX7_isBetween_11 : decode cX7_isBetween 11 = .ok (.iload_n 2, 1) := by decide +kernel
theorem dX7_isBetween_12 : decode cX7_isBetween 12 = .ok (.if_icmp .ge 7, 3) := by decide +kernel
theorem dX7_isBetween_15 : decode cX7_isBetween 15 = .ok (.iconst 1, 1) := by decide +kernel
theorem dX7_isBetween_16 : decode cX7_isBetween 16 = .ok (.goto 22, 3) := by decide +kernel
theorem dX7_isBetween_19 : decode cX7_isBetween 19 = .ok (.iconst 0, 1) := by decide +kernel
theorem dX7_isBetween_20 : decode cX7_isBetween 20 = .ok (.goto 18, 3) := by decide +kernel
theorem dX7_isBetween_23 : decode cX7_isBetween 23 = .ok (.iload_n 0, 1) := by decide +kernel
theorem dX7_isBetween_24 : decode cX7_isBetween 24 = .ok (.iload_n 2, 1) := by decide +kernel
theorem dX7_isBetween_25 : decode cX7_isBetween 25 = .ok (.if_icmp .le 12, 3) := by decide +kernel
theorem dX7_isBetween_28 : decode cX7_isBetween 28 = .ok (.iload_n 0, 1) := by decide +kernel
theorem dX7_isBetween_29 : decode cX7_isBetween 29 = .ok (.iload_n 1, 1) := by decide +kernel
theorem dX7_isBetween_30 : decode cX7_isBetween 30 = .ok (.if_icmp .ge 7, 3) := by decide +kernel
theorem dX7_isBetween_33 : decode cX7_isBetween 33 = .ok (.iconst 1, 1) := by decide +kernel
theorem dX7_isBetween_34 : decode cX7_isBetween 34 = .ok (.goto 4, 3) := by decide +kernel
theorem dX7_isBetween_37 : decode cX7_isBetween 37 = .ok (.iconst 0, 1) := by decide +kernel
theorem dX7_isBetween_38 : decode cX7_isBetween 38 = .ok (.ireturn, 1) := by decide +kernel
theorem dX7_isBeyond_0 : decode cX7_isBeyond 0 = .ok (.iload_n 1, 1) := by decide +kernel
theorem dX7_isBeyond_1 : decode cX7_isBeyond 1 = .ok (.iload_n 2, 1) := by decide +kernel
theorem dX7_isBeyond_2 : decode cX7_isBeyond 2 = .ok (.if_icmp .ge 21, 3) := by decide +kernel
theorem dX7_isBeyond_5 : decode cX7_isBeyond 5 = .ok (.iload_n 0, 1) := by decide +kernel
theorem dX7_isBeyond_6 : decode cX7_isBeyond 6 = .ok (.iload_n 1, 1) := by decide +kernel
theorem dX7_isBeyond_7 : decode cX7_isBeyond 7 = .ok (.if_icmp .lt 8, 3) := by decide +kernel
theorem dX7_isBeyond_10 : decode cX7_isBeyond 10 = .ok (.iload_n 0, 1) := by decide +kernel
theorem dX7_isBeyond_11 : decode cX7_isBeyond 11 = .ok (.iload_n 2, 1) := by decide +kernel
theorem dX7_isBeyond_12 : decode cX7_isBeyond 12 = .ok (.if_icmp .le 7, 3) := by decide +kernel
theorem dX7_isBeyond_15 : decode cX7_isBeyond 15 = .ok (.iconst 1, 1) := by decide +kernel
theorem dX7_isBeyond_16 : decode cX7_isBeyond 16 = .ok (.goto 22, 3) := by decide +kernel
theorem dX7_isBeyond_19 : decode cX7_isBeyond 19 = .ok (.iconst 0, 1) := by decide +kernel
theorem dX7_isBeyond_20 : decode cX7_isBeyond 20 = .ok (.goto 18, 3) := by decide +kernel
theorem dX7_isBeyond_23 : decode cX7_isBeyond 23 = .ok (.iload_n 0, 1) := by decide +kernel
theorem dX7_isBeyond_24 : decode cX7_isBeyond 24 = .ok (.iload_n 2, 1) := by decide +kernel
theorem dX7_isBeyond_25 : decode cX7_isBeyond 25 = .ok (.if_icmp .lt 8, 3) := by decide +kernel
theorem dX7_isBeyond_28 : decode cX7_isBeyond 28 = .ok (.iload_n 0, 1) := by decide +kernel
theorem dX7_isBeyond_29 : decode cX7_isBeyond 29 = .ok (.iload_n 1, 1) := by decide +kernel
theorem dX7_isBeyond_30 : decode cX7_isBeyond 30 = .ok (.if_icmp .le 7, 3) := by decide +kernel
theorem dX7_isBeyond_33 : decode cX7_isBeyond 33 = .ok (.iconst 1, 1) := by decide +kernel
theorem dX7_isBeyond_34 : decode cX7_isBeyond 34 = .ok (.goto 4, 3) := by decide +kernel
theorem dX7_isBeyond_37 : decode cX7_isBeyond 37 = .ok (.iconst 0, 1) := by decide +kernel
theorem dX7_isBeyond_38 : decode cX7_isBeyond 38 = .ok (.ireturn, 1) := by decide +kernel
set_option maxRecDepth 20000 in
theorem ggX7_doCross_X7_isBetween : GoodIn wsX7_doCross wsX7_isBetween := goodIn_r _ [5] (by decide +kernel) (by decide +kernel)
set_option maxRecDepth 20000 in
theorem gX7_doCross_X7_isBetween : GoodIn wsX7_doCross (va_wsS RX7 111 yX7_isBetween wsX7_isBetween) := goodIn_app (goodIn_of _ (by decide +kernel)) ggX7_doCross_X7_isBetween
set_option maxRecDepth 20000 in
theorem ggX7_doCross_X7_isBeyond : GoodIn wsX7_doCross wsX7_isBeyond := goodIn_r _ [8] (by decide +kernel) (by decide +kernel)
set_option maxRecDepth 20000 in
theorem gX7_doCross_X7_isBeyond : GoodIn wsX7_doCross (va_wsS RX7 114 yX7_isBeyond wsX7_isBeyond) := goodIn_app (goodIn_of _ (by decide +kernel)) ggX7_doCross_X7_isBeyond
theorem dX7_doCross_0 : decode cX7_doCross 0 = .ok (.aload_n 0, 1) := by decide +kernel
theorem dX7_doCross_1 : decode cX7_doCross 1 = .ok (.getfield 52, 3) := by decide +kernel
theorem dX7_doCross_4 : decode cX7_doCross 4 = .ok (.iload_n 2, 1) := by decide +kernel
theorem dX7_doCross_5 : decode cX7_doCross 5 = .ok (.iaload, 1) := by decide +kernel
theorem dX7_doCross_6 : decode cX7_doCross 6 = .ok (.istore_n 3, 1) := by decide +kernel
theorem dX7_doCross_7 : decode cX7_doCross 7 = .ok (.iload_n 1, 1) := by decide +kernel
theorem dX7_doCross_8 : decode cX7_doCross 8 = .ok (.iload_n 3, 1) := by decide +kernel
theorem dX7_doCross_9 : decode cX7_doCross 9 = .ok (.iload_n 2, 1) := by decide +kernel
theorem dX7_doCross_10 : decode cX7_doCross 10 = .ok (.invokestatic 111, 3) := by decide +kernel
theorem dX7_doCross_13 : decode cX7_doCross 13 = .ok (.ifCond .eq 17, 3) := by decide +kernel
theorem dX7_doCross_16 : decode cX7_doCross 16 = .ok (.aload_n 0, 1) := by decide +kernel
theorem dX7_doCross_17 : decode cX7_doCross 17 = .ok (.getfield 52, 3) := by decide +kernel
theorem dX7_doCross_20 : decode cX7_doCross 20 = .ok (.iload_n 1, 1) := by decide +kernel
theorem dX7_doCross_21 : decode cX7_doCross 21 = .ok (.iaload, 1) := by decide +kernel
theorem dX7_doCross_22 : decode cX7_doCross 22 = .ok (.iload_n 3, 1) := by decide +kernel
theorem dX7_doCross_23 : decode cX7_doCross 23 = .ok (.iload_n 2, 1) := by decide +kernel
theorem dX7_doCross_24 : decode cX7_doCross 24 = .ok (.invokestatic 114, 3) := by decide +kernel
theorem dX7_doCross_27 : decode cX7_doCross 27 = .ok (.ifCond .ne 26, 3) := by decide +kernel
theorem dX7_doCross_30 : decode cX7_doCross 30 = .ok (.aload_n 0, 1) := by decide +kernel
theorem dX7_doCross_31 : decode cX7_doCross 31 = .ok (.getfield 52, 3) := by decide +kernel
theorem dX7_doCross_34 : decode cX7_doCross 34 = .ok (.iload_n 1, 1) := by decide +kernel
theorem dX7_doCross_35 : decode cX7_doCross 35 = .ok (.iaload, 1) := by decide +kernel
theorem dX7_doCross_36 : decode cX7_doCross 36 = .ok (.iload_n 3, 1) := by decide +kernel
theorem dX7_doCross_37 : decode cX7_doCross 37 = .ok (.iload_n 2, 1) := by decide +kernel
theorem dX7_doCross_38 : decode cX7_doCross 38 = .ok (.invokestatic 111, 3) := by decide +kernel
theorem dX7_doCross_41 : decode cX7_doCross 41 = .ok (.ifCond .eq 16, 3) := by decide +kernel
theorem dX7_doCross_44 : decode cX7_doCross 44 = .ok (.iload_n 1, 1) := by decide +kernel
theorem dX7_doCross_45 : decode cX7_doCross 45 = .ok (.iload_n 3, 1) := by decide +kernel
theorem dX7_doCross_46 : decode cX7_doCross 46 = .ok (.iload_n 2, 1) := by decide +kernel
theorem dX7_doCross_47 : decode cX7_doCross 47 = .ok (.invokestatic 114, 3) := by decide +kernel
theorem dX7_doCross_50 : decode cX7_doCross 50 = .ok (.ifCond .eq 7, 3) := by decide +kernel
theorem dX7_doCross_53 : decode cX7_doCross 53 = .ok (.iconst 1, 1) := by decide +kernel
theorem dX7_doCross_54 : decode cX7_doCross 54 = .ok (.goto 4, 3) := by decide +kernel
theorem dX7_doCross_57 : decode cX7_doCross 57 = .ok (.iconst 0, 1) := by decide +kernel
theorem dX7_doCross_58 : decode cX7_doCross 58 = .ok (.ireturn, 1) := by decide +kernel
set_option maxRecDepth 20000 in
theorem ggX7_may_X7_arc : GoodIn wsX7_may wsX7_arc := goodIn_r _ [8] (by decide +kernel) (by decide +kernel)
set_option maxRecDepth 20000 in
theorem gX7_may_X7_arc : GoodIn wsX7_may (wsV RX7 108 RX7 yX7_arc wsX7_arc) := goodIn_app (goodIn_of _ (by decide +kernel)) ggX7_may_X7_arc
set_option maxRecDepth 20000 in
theorem ggX7_may_X7_doCross : GoodIn wsX7_may wsX7_doCross := goodIn_r _ [12, 1, 13, 14, 7, 15, 16, 17, 18, 19, 20, 21, 22, 23, 24, 25, 26, 27, 28, 29, 30, 31, 32, 33, 34, 35, 36, 37, 38] (by decide +kernel) (by decide +kernel)
set_option maxRecDepth 20000 in
theorem gX7_may_X7_doCross : GoodIn wsX7_may (wsV RX7 117 RX7 yX7_doCross wsX7_doCross) := goodIn_app (goodIn_of _ (by decide +kernel)) ggX7_may_X7_doCross
theorem dX7_may_0 : decode cX7_may 0 = .ok (.aload_n 0, 1) := by decide +kernel
theorem dX7_may_1 : decode cX7_may 1 = .ok (.getfield 52, 3) := by decide +kernel
theorem dX7_may_4 : decode cX7_may 4 = .ok (.iload_n 2, 1) := by decide +kernel
theorem dX7_may_5 : decode cX7_may 5 = .ok (.iaload, 1) := by decide +kernel
theorem dX7_may_6 : decode cX7_may 6 = .ok (.istore 4, 2) := by decide +kernel
theorem dX7_may_8 : decode cX7_may 8 = .ok (.iload 4, 2) := by decide +kernel
theorem dX7_may_10 : decode cX7_may 10 = .ok (.iload_n 2, 1) := by decide +kernel
theorem dX7_may_11 : decode cX7_may 11 = .ok (.if_icmp .eq 24, 3) := by decide +kernel
theorem dX7_may_14 : decode cX7_may 14 = .ok (.aload_n 0, 1) := by decide +kernel
theorem dX7_may_15 : decode cX7_may 15 = .ok (.getfield 16, 3) := by decide +kernel
theorem dX7_may_18 : decode cX7_may 18 = .ok (.aload_n 0, 1) := by decide +kernel
theorem dX7_may_19 : decode cX7_may 19 = .ok (.iload_n 1, 1) := by decide +kernel
theorem dX7_may_20 : decode cX7_may 20 = .ok (.iload 4, 2) := by decide +kernel
theorem dX7_may_22 : decode cX7_may 22 = .ok (.iload_n 2, 1) := by decide +kernel
theorem dX7_may_23 : decode cX7_may 23 = .ok (.invokevirtual 108, 3) := by decide +kernel
theorem dX7_may_26 : decode cX7_may 26 = .ok (.iaload, 1) := by decide +kernel
theorem dX7_may_27 : decode cX7_may 27 = .ok (.iconst 2, 1) := by decide +kernel
theorem dX7_may_28 : decode cX7_may 28 = .ok (.if_icmp .eq 7, 3) := by decide +kernel
theorem dX7_may_31 : decode cX7_may 31 = .ok (.iconst 1, 1) := by decide +kernel
theorem dX7_may_32 : decode cX7_may 32 = .ok (.goto 4, 3) := by decide +kernel
theorem dX7_may_35 : decode cX7_may 35 = .ok (.iconst 0, 1) := by decide +kernel
theorem dX7_may_36 : decode cX7_may 36 = .ok (.istore 5, 2) := by decide +kernel
theorem dX7_may_38 : decode cX7_may 38 = .ok (.iconst 0, 1) := by decide +kernel
theorem dX7_may_39 : decode cX7_may 39 = .ok (.istore 6, 2) := by decide +kernel
theorem dX7_may_41 : decode cX7_may 41 = .ok (.iload 6, 2) := by decide +kernel
theorem dX7_may_43 : decode cX7_may 43 = .ok (.aload_n 0, 1) := by decide +kernel
theorem dX7_may_44 : decode cX7_may 44 = .ok (.getfield 7, 3) := by decide +kernel
theorem dX7_may_47 : decode cX7_may 47 = .ok (.iload_n 1, 1) := by decide +kernel
theorem dX7_may_48 : decode cX7_may 48 = .ok (.iaload, 1) := by decide +kernel
theorem dX7_may_49 : decode cX7_may 49 = .ok (.if_icmp .gt 45, 3) := by decide +kernel
theorem dX7_may_52 : decode cX7_may 52 = .ok (.iload 5, 2) := by decide +kernel
theorem dX7_may_54 : decode cX7_may 54 = .ok (.ifCond .eq 31, 3) := by decide +kernel
theorem dX7_may_57 : decode cX7_may 57 = .ok (.iload 6, 2) := by decide +kernel
theorem dX7_may_59 : decode cX7_may 59 = .ok (.iload 4, 2) := by decide +kernel
theorem dX7_may_61 : decode cX7_may 61 = .ok (.if_icmp .eq 20, 3) := by decide +kernel
theorem dX7_may_64 : decode cX7_may 64 = .ok (.aload_n 0, 1) := by decide +kernel
theorem dX7_may_65 : decode cX7_may 65 = .ok (.getfield 16, 3) := by decide +kernel
theorem dX7_may_68 : decode cX7_may 68 = .ok (.aload_n 0, 1) := by decide +kernel
theorem dX7_may_69 : decode cX7_may 69 = .ok (.iload_n 1, 1) := by decide +kernel
theorem dX7_may_70 : decode cX7_may 70 = .ok (.iload 6, 2) := by decide +kernel
theorem dX7_may_72 : decode cX7_may 72 = .ok (.iload_n 2, 1) := by decide +kernel
theorem dX7_may_73 : decode cX7_may 73 = .ok (.invokevirtual 108, 3) := by decide +kernel
theorem dX7_may_76 : decode cX7_may 76 = .ok (.iaload, 1) := by decide +kernel
theorem dX7_may_77 : decode cX7_may 77 = .ok (.iconst 1, 1) := by decide +kernel
theorem dX7_may_78 : decode cX7_may 78 = .ok (.if_icmp .eq 7, 3) := by decide +kernel
theorem dX7_may_81 : decode cX7_may 81 = .ok (.iconst 1, 1) := by decide +kernel
theorem dX7_may_82 : decode cX7_may 82 = .ok (.goto 4, 3) := by decide +kernel
theorem dX7_may_85 : decode cX7_may 85 = .ok (.iconst 0, 1) := by decide +kernel
theorem dX7_may_86 : decode cX7_may 86 = .ok (.istore 5, 2) := by decide +kernel
theorem dX7_may_88 : decode cX7_may 88 = .ok (.iinc 6 1, 3) := by decide +kernel
theorem dX7_may_91 : decode cX7_may 91 = .ok (.goto (-50), 3) := by decide +kernel
theorem dX7_may_94 : decode cX7_may 94 = .ok (.iload 4, 2) := by decide +kernel
theorem dX7_may_96 : decode cX7_may 96 = .ok (.istore 6, 2) := by decide +kernel
theorem dX7_may_98 : decode cX7_may 98 = .ok (.iload 5, 2) := by decide +kernel
theorem dX7_may_100 : decode cX7_may 100 = .ok (.ifCond .eq 26, 3) := by decide +kernel
theorem dX7_may_103 : decode cX7_may 103 = .ok (.iload 6, 2) := by decide +kernel
theorem dX7_may_105 : decode cX7_may 105 = .ok (.ifCond .le 21, 3) := by decide +kernel
theorem dX7_may_108 : decode cX7_may 108 = .ok (.iload 6, 2) := by decide +kernel
theorem dX7_may_110 : decode cX7_may 110 = .ok (.iload_n 2, 1) := by decide +kernel
theorem dX7_may_111 : decode cX7_may 111 = .ok (.if_icmp .ge 15, 3) := by decide +kernel
theorem dX7_may_114 : decode cX7_may 114 = .ok (.aload_n 0, 1) := by decide +kernel
theorem dX7_may_115 : decode cX7_may 115 = .ok (.getfield 52, 3) := by decide +kernel
theorem dX7_may_118 : decode cX7_may 118 = .ok (.iload 6, 2) := by decide +kernel
theorem dX7_may_120 : decode cX7_may 120 = .ok (.iaload, 1) := by decide +kernel
theorem dX7_may_121 : decode cX7_may 121 = .ok (.istore 6, 2) := by decide +kernel
theorem dX7_may_123 : decode cX7_may 123 = .ok (.goto (-25), 3) := by decide +kernel
theorem dX7_may_126 : decode cX7_may 126 = .ok (.iload 5, 2) := by decide +kernel
theorem dX7_may_128 : decode cX7_may 128 = .ok (.ifCond .eq 13, 3) := by decide +kernel
theorem dX7_may_131 : decode cX7_may 131 = .ok (.iload 6, 2) := by decide +kernel
theorem dX7_may_133 : decode cX7_may 133 = .ok (.iload_n 2, 1) := by decide +kernel
theorem dX7_may_134 : decode cX7_may 134 = .ok (.if_icmp .eq 7, 3) := by decide +kernel
theorem dX7_may_137 : decode cX7_may 137 = .ok (.iconst 1, 1) := by decide +kernel
theorem dX7_may_138 : decode cX7_may 138 = .ok (.goto 4, 3) := by decide +kernel
theorem dX7_may_141 : decode cX7_may 141 = .ok (.iconst 0, 1) := by decide +kernel
theorem dX7_may_142 : decode cX7_may 142 = .ok (.istore 5, 2) := by decide +kernel
theorem dX7_may_144 : decode cX7_may 144 = .ok (.iconst 1, 1) := by decide +kernel
theorem dX7_may_145 : decode cX7_may 145 = .ok (.istore 7, 2) := by decide +kernel
theorem dX7_may_147 : decode cX7_may 147 = .ok (.iload 7, 2) := by decide +kernel
theorem dX7_may_149 : decode cX7_may 149 = .ok (.iload_n 2, 1) := by decide +kernel
theorem dX7_may_150 : decode cX7_may 150 = .ok (.if_icmp .ge 35, 3) := by decide +kernel
theorem dX7_may_153 : decode cX7_may 153 = .ok (.iload 5, 2) := by decide +kernel
theorem dX7_may_155 : decode cX7_may 155 = .ok (.ifCond .eq 30, 3) := by decide +kernel
theorem dX7_may_158 : decode cX7_may 158 = .ok (.iload_n 3, 1) := by decide +kernel
theorem dX7_may_159 : decode cX7_may 159 = .ok (.ifCond .ne 26, 3) := by decide +kernel
theorem dX7_may_162 : decode cX7_may 162 = .ok (.aload_n 0, 1) := by decide +kernel
theorem dX7_may_163 : decode cX7_may 163 = .ok (.iload_n 2, 1) := by decide +kernel
theorem dX7_may_164 : decode cX7_may 164 = .ok (.iload 7, 2) := by decide +kernel
theorem dX7_may_166 : decode cX7_may 166 = .ok (.invokevirtual 117, 3) := by decide +kernel
theorem dX7_may_169 : decode cX7_may 169 = .ok (.ifCond .ne 7, 3) := by decide +kernel
theorem dX7_may_172 : decode cX7_may 172 = .ok (.iconst 1, 1) := by decide +kernel
theorem dX7_may_173 : decode cX7_may 173 = .ok (.goto 4, 3) := by decide +kernel
theorem dX7_may_176 : decode cX7_may 176 = .ok (.iconst 0, 1) := by decide +kernel
theorem dX7_may_177 : decode cX7_may 177 = .ok (.istore 5, 2) := by decide +kernel
theorem dX7_may_179 : decode cX7_may 179 = .ok (.iinc 7 1, 3) := by decide +kernel
theorem dX7_may_182 : decode cX7_may 182 = .ok (.goto (-35), 3) := by decide +kernel
theorem dX7_may_185 : decode cX7_may 185 = .ok (.iload 5, 2) := by decide +kernel
theorem dX7_may_187 : decode cX7_may 187 = .ok (.ireturn, 1) := by decide +kernel
set_option maxRecDepth 20000 in
theorem ggX7_keyOf_X7_scoreOf : GoodIn wsX7_keyOf wsX7_scoreOf := goodIn_r _ [8, 9, 10, 11, 12, 7, 13, 14, 15, 16, 17, 18, 19, 20, 21, 22, 23, 24, 25, 26, 27, 28, 29, 30, 31, 32, 33, 34, 35, 36, 37] (by decide +kernel) (by decide +kernel)
set_option maxRecDepth 20000 in
theorem gX7_keyOf_X7_scoreOf : GoodIn wsX7_keyOf (wsV RX7 105 RX7 yX7_scoreOf wsX7_scoreOf) := goodIn_app (goodIn_of _ (by decide +kernel)) ggX7_keyOf_X7_scoreOf
theorem dX7_keyOf_0 : decode cX7_keyOf 0 = .ok (.iconst 0, 1) := by decide +kernel
theorem dX7_keyOf_1 : decode cX7_keyOf 1 = .ok (.istore_n 2, 1) := by decide +kernel
theorem dX7_keyOf_2 : decode cX7_keyOf 2 = .ok (.iconst 0, 1) := by decide +kernel
theorem dX7_keyOf_3 : decode cX7_keyOf 3 = .ok (.istore_n 3, 1) := by decide +kernel
theorem dX7_keyOf_4 : decode cX7_keyOf 4 = .ok (.iconst 1, 1) := by decide +kernel
theorem dX7_keyOf_5 : decode cX7_keyOf 5 = .ok (.istore 4, 2) := by decide +kernel
theorem dX7_keyOf_7 : decode cX7_keyOf 7 = .ok (.iload 4, 2) := by decide +kernel
theorem dX7_keyOf_9 : decode cX7_keyOf 9 = .ok (.aload_n 0, 1) := by decide +kernel
theorem dX7_keyOf_10 : decode cX7_keyOf 10 = .ok (.getfield 7, 3) := by decide +kernel
theorem dX7_keyOf_13 : decode cX7_keyOf 13 = .ok (.iload_n 1, 1) := by decide +kernel
theorem dX7_keyOf_14 : decode cX7_keyOf 14 = .ok (.iaload, 1) := by decide +kernel
theorem dX7_keyOf_15 : decode cX7_keyOf 15 = .ok (.if_icmp .gt 39, 3) := by decide +kernel
theorem dX7_keyOf_18 : decode cX7_keyOf 18 = .ok (.iload_n 2, 1) := by decide +kernel
theorem dX7_keyOf_19 : decode cX7_keyOf 19 = .ok (.aload_n 0, 1) := by decide +kernel
theorem dX7_keyOf_20 : decode cX7_keyOf 20 = .ok (.iload_n 1, 1) := by decide +kernel
theorem dX7_keyOf_21 : decode cX7_keyOf 21 = .ok (.aload_n 0, 1) := by decide +kernel
theorem dX7_keyOf_22 : decode cX7_keyOf 22 = .ok (.getfield 52, 3) := by decide +kernel
theorem dX7_keyOf_25 : decode cX7_keyOf 25 = .ok (.iload 4, 2) := by decide +kernel
theorem dX7_keyOf_27 : decode cX7_keyOf 27 = .ok (.iaload, 1) := by decide +kernel
theorem dX7_keyOf_28 : decode cX7_keyOf 28 = .ok (.iload 4, 2) := by decide +kernel
theorem dX7_keyOf_30 : decode cX7_keyOf 30 = .ok (.invokevirtual 105, 3) := by decide +kernel
theorem dX7_keyOf_33 : decode cX7_keyOf 33 = .ok (.iadd, 1) := by decide +kernel
theorem dX7_keyOf_34 : decode cX7_keyOf 34 = .ok (.istore_n 2, 1) := by decide +kernel
theorem dX7_keyOf_35 : decode cX7_keyOf 35 = .ok (.bipush 8, 2) := by decide +kernel
theorem dX7_keyOf_37 : decode cX7_keyOf 37 = .ok (.iload_n 3, 1) := by decide +kernel
theorem dX7_keyOf_38 : decode cX7_keyOf 38 = .ok (.imul, 1) := by decide +kernel
theorem dX7_keyOf_39 : decode cX7_keyOf 39 = .ok (.aload_n 0, 1) := by decide +kernel
theorem dX7_keyOf_40 : decode cX7_keyOf 40 = .ok (.getfield 52, 3) := by decide +kernel
theorem dX7_keyOf_43 : decode cX7_keyOf 43 = .ok (.iload 4, 2) := by decide +kernel
theorem dX7_keyOf_45 : decode cX7_keyOf 45 = .ok (.iaload, 1) := by decide +kernel
theorem dX7_keyOf_46 : decode cX7_keyOf 46 = .ok (.iadd, 1) := by decide +kernel
theorem dX7_keyOf_47 : decode cX7_keyOf 47 = .ok (.istore_n 3, 1) := by decide +kernel
theorem dX7_keyOf_48 : decode cX7_keyOf 48 = .ok (.iinc 4 1, 3) := by decide +kernel
theorem dX7_keyOf_51 : decode cX7_keyOf 51 = .ok (.goto (-44), 3) := by decide +kernel
theorem dX7_keyOf_54 : decode cX7_keyOf 54 = .ok (.ldc 120, 2) := by decide +kernel
theorem dX7_keyOf_56 : decode cX7_keyOf 56 = .ok (.iload_n 2, 1) := by decide +kernel
theorem dX7_keyOf_57 : decode cX7_keyOf 57 = .ok (.isub, 1) := by decide +kernel
theorem dX7_keyOf_58 : decode cX7_keyOf 58 = .ok (.i2l, 1) := by decide +kernel
theorem dX7_keyOf_59 : decode cX7_keyOf 59 = .ok (.bipush 18, 2) := by decide +kernel
theorem dX7_keyOf_61 : decode cX7_keyOf 61 = .ok (.lshl, 1) := by decide +kernel
theorem dX7_keyOf_62 : decode cX7_keyOf 62 = .ok (.iload_n 3, 1) := by decide +kernel
theorem dX7_keyOf_63 : decode cX7_keyOf 63 = .ok (.i2l, 1) := by decide +kernel
theorem dX7_keyOf_64 : decode cX7_keyOf 64 = .ok (.ladd, 1) := by decide +kernel
theorem dX7_keyOf_65 : decode cX7_keyOf 65 = .ok (.lreturn, 1) := by decide +kernel
set_option maxRecDepth 20000 in
theorem ggX7_walks_X7_keyOf : GoodIn wsX7_walks wsX7_keyOf := goodIn_r _ [13, 1, 4, 14, 15, 16, 17, 12, 18, 19, 20, 21, 22, 23, 24, 25, 26, 27, 47, 48, 49, 50, 51, 52, 53, 54, 55, 56, 57, 58, 59, 60, 61, 62, 63, 64, 65, 66] (by decide +kernel) (by decide +kernel)
set_option maxRecDepth 20000 in
theorem gX7_walks_X7_keyOf : GoodIn wsX7_walks (wsV RX7 126 RX7 yX7_keyOf wsX7_keyOf) := goodIn_app (goodIn_of _ (by decide +kernel)) ggX7_walks_X7_keyOf
set_option maxRecDepth 20000 in
theorem ggX7_walks_X7_may : GoodIn wsX7_walks wsX7_may := goodIn_r _ [31, 4, 32, 1, 33, 34, 35, 12, 36, 37, 38, 39, 40, 41, 42, 43, 44, 45, 46, 47, 48, 49, 50, 51, 52, 53, 54, 55, 56, 57, 58, 59, 60, 61, 62, 63, 64, 65, 66] (by decide +kernel) (by decide +kernel)
set_option maxRecDepth 20000 in
theorem gX7_walks_X7_may : GoodIn wsX7_walks (wsV RX7 130 RX7 yX7_may wsX7_may) := goodIn_app (goodIn_of _ (by decide +kernel)) ggX7_walks_X7_may
theorem dX7_walks_0 : decode cX7_walks 0 = .ok (.aload_n 0, 1) := by decide +kernel
theorem dX7_walks_1 : decode cX7_walks 1 = .ok (.getfield 7, 3) := by decide +kernel
theorem dX7_walks_4 : decode cX7_walks 4 = .ok (.iload_n 1, 1) := by decide +kernel
theorem dX7_walks_5 : decode cX7_walks 5 = .ok (.iaload, 1) := by decide +kernel
theorem dX7_walks_6 : decode cX7_walks 6 = .ok (.istore 4, 2) := by decide +kernel
theorem dX7_walks_8 : decode cX7_walks 8 = .ok (.iconst 2, 1) := by decide +kernel
theorem dX7_walks_9 : decode cX7_walks 9 = .ok (.iload_n 1, 1) := by decide +kernel
theorem dX7_walks_10 : decode cX7_walks 10 = .ok (.imul, 1) := by decide +kernel
theorem dX7_walks_11 : decode cX7_walks 11 = .ok (.iload_n 2, 1) := by decide +kernel
theorem dX7_walks_12 : decode cX7_walks 12 = .ok (.ifCond .eq 7, 3) := by decide +kernel
theorem dX7_walks_15 : decode cX7_walks 15 = .ok (.iconst 1, 1) := by decide +kernel
theorem dX7_walks_16 : decode cX7_walks 16 = .ok (.goto 4, 3) := by decide +kernel
theorem dX7_walks_19 : decode cX7_walks 19 = .ok (.iconst 0, 1) := by decide +kernel
theorem dX7_walks_20 : decode cX7_walks 20 = .ok (.iadd, 1) := by decide +kernel
theorem dX7_walks_21 : decode cX7_walks 21 = .ok (.istore 5, 2) := by decide +kernel
theorem dX7_walks_23 : decode cX7_walks 23 = .ok (.ldc2_w 121, 3) := by decide +kernel
theorem dX7_walks_26 : decode cX7_walks 26 = .ok (.lstore 6, 2) := by decide +kernel
theorem dX7_walks_28 : decode cX7_walks 28 = .ok (.aload_n 0, 1) := by decide +kernel
theorem dX7_walks_29 : decode cX7_walks 29 = .ok (.iconst 0, 1) := by decide +kernel
theorem dX7_walks_30 : decode cX7_walks 30 = .ok (.putfield 123, 3) := by decide +kernel
theorem dX7_walks_33 : decode cX7_walks 33 = .ok (.iconst 1, 1) := by decide +kernel
theorem dX7_walks_34 : decode cX7_walks 34 = .ok (.istore 8, 2) := by decide +kernel
theorem dX7_walks_36 : decode cX7_walks 36 = .ok (.aload_n 0, 1) := by decide +kernel
theorem dX7_walks_37 : decode cX7_walks 37 = .ok (.getfield 52, 3) := by decide +kernel
theorem dX7_walks_40 : decode cX7_walks 40 = .ok (.iconst 1, 1) := by decide +kernel
theorem dX7_walks_41 : decode cX7_walks 41 = .ok (.iconst (-1), 1) := by decide +kernel
theorem dX7_walks_42 : decode cX7_walks 42 = .ok (.iastore, 1) := by decide +kernel
theorem dX7_walks_43 : decode cX7_walks 43 = .ok (.iload 8, 2) := by decide +kernel
theorem dX7_walks_45 : decode cX7_walks 45 = .ok (.ifCond .le 130, 3) := by decide +kernel
theorem dX7_walks_48 : decode cX7_walks 48 = .ok (.iload 8, 2) := by decide +kernel
theorem dX7_walks_50 : decode cX7_walks 50 = .ok (.iload 4, 2) := by decide +kernel
theorem dX7_walks_52 : decode cX7_walks 52 = .ok (.if_icmp .le 58, 3) := by decide +kernel
theorem dX7_walks_55 : decode cX7_walks 55 = .ok (.aload_n 0, 1) := by decide +kernel
theorem dX7_walks_56 : decode cX7_walks 56 = .ok (.iload_n 1, 1) := by decide +kernel
theorem dX7_walks_57 : decode cX7_walks 57 = .ok (.invokevirtual 126, 3) := by decide +kernel
theorem dX7_walks_60 : decode cX7_walks 60 = .ok (.lstore 9, 2) := by decide +kernel
theorem dX7_walks_62 : decode cX7_walks 62 = .ok (.lload 9, 2) := by decide +kernel
theorem dX7_walks_64 : decode cX7_walks 64 = .ok (.lload 6, 2) := by decide +kernel
theorem dX7_walks_66 : decode cX7_walks 66 = .ok (.lcmp, 1) := by decide +kernel
theorem dX7_walks_67 : decode cX7_walks 67 = .ok (.ifCond .ge 8, 3) := by decide +kernel
theorem dX7_walks_70 : decode cX7_walks 70 = .ok (.lload 9, 2) := by decide +kernel
theorem dX7_walks_72 : decode cX7_walks 72 = .ok (.goto 5, 3) := by decide +kernel
theorem dX7_walks_75 : decode cX7_walks 75 = .ok (.lload 6, 2) := by decide +kernel
theorem dX7_walks_77 : decode cX7_walks 77 = .ok (.lstore 6, 2) := by decide +kernel
theorem dX7_walks_79 : decode cX7_walks 79 = .ok (.iload_n 3, 1) := by decide +kernel
theorem dX7_walks_80 : decode cX7_walks 80 = .ok (.ifCond .eq 14, 3) := by decide +kernel
theorem dX7_walks_83 : decode cX7_walks 83 = .ok (.aload_n 0, 1) := by decide +kernel
theorem dX7_walks_84 : decode cX7_walks 84 = .ok (.getfield 35, 3) := by decide +kernel
theorem dX7_walks_87 : decode cX7_walks 87 = .ok (.aload_n 0, 1) := by decide +kernel
theorem dX7_walks_88 : decode cX7_walks 88 = .ok (.getfield 123, 3) := by decide +kernel
theorem dX7_walks_91 : decode cX7_walks 91 = .ok (.lload 9, 2) := by decide +kernel
theorem dX7_walks_93 : decode cX7_walks 93 = .ok (.lastore, 1) := by decide +kernel
theorem dX7_walks_94 : decode cX7_walks 94 = .ok (.aload_n 0, 1) := by decide +kernel
theorem dX7_walks_95 : decode cX7_walks 95 = .ok (.dup, 1) := by decide +kernel
theorem dX7_walks_96 : decode cX7_walks 96 = .ok (.getfield 123, 3) := by decide +kernel
theorem dX7_walks_99 : decode cX7_walks 99 = .ok (.iconst 1, 1) := by decide +kernel
theorem dX7_walks_100 : decode cX7_walks 100 = .ok (.iadd, 1) := by decide +kernel
theorem dX7_walks_101 : decode cX7_walks 101 = .ok (.putfield 123, 3) := by decide +kernel
theorem dX7_walks_104 : decode cX7_walks 104 = .ok (.iinc 8 (-1), 3) := by decide +kernel
theorem dX7_walks_107 : decode cX7_walks 107 = .ok (.goto (-64), 3) := by decide +kernel
theorem dX7_walks_110 : decode cX7_walks 110 = .ok (.aload_n 0, 1) := by decide +kernel
theorem dX7_walks_111 : decode cX7_walks 111 = .ok (.getfield 52, 3) := by decide +kernel
theorem dX7_walks_114 : decode cX7_walks 114 = .ok (.iload 8, 2) := by decide +kernel
theorem dX7_walks_116 : decode cX7_walks 116 = .ok (.dup2, 1) := by decide +kernel
theorem dX7_walks_117 : decode cX7_walks 117 = .ok (.iaload, 1) := by decide +kernel
theorem dX7_walks_118 : decode cX7_walks 118 = .ok (.iconst 1, 1) := by decide +kernel
theorem dX7_walks_119 : decode cX7_walks 119 = .ok (.iadd, 1) := by decide +kernel
theorem dX7_walks_120 : decode cX7_walks 120 = .ok (.iastore, 1) := by decide +kernel
theorem dX7_walks_121 : decode cX7_walks 121 = .ok (.aload_n 0, 1) := by decide +kernel
theorem dX7_walks_122 : decode cX7_walks 122 = .ok (.getfield 52, 3) := by decide +kernel
theorem dX7_walks_125 : decode cX7_walks 125 = .ok (.iload 8, 2) := by decide +kernel
theorem dX7_walks_127 : decode cX7_walks 127 = .ok (.iaload, 1) := by decide +kernel
theorem dX7_walks_128 : decode cX7_walks 128 = .ok (.iload 4, 2) := by decide +kernel
theorem dX7_walks_130 : decode cX7_walks 130 = .ok (.if_icmp .le 9, 3) := by decide +kernel
theorem dX7_walks_133 : decode cX7_walks 133 = .ok (.iinc 8 (-1), 3) := by decide +kernel
theorem dX7_walks_136 : decode cX7_walks 136 = .ok (.goto (-93), 3) := by decide +kernel
theorem dX7_walks_139 : decode cX7_walks 139 = .ok (.aload_n 0, 1) := by decide +kernel
theorem dX7_walks_140 : decode cX7_walks 140 = .ok (.iload_n 1, 1) := by decide +kernel
theorem dX7_walks_141 : decode cX7_walks 141 = .ok (.iload 8, 2) := by decide +kernel
theorem dX7_walks_143 : decode cX7_walks 143 = .ok (.iload_n 2, 1) := by decide +kernel
theorem dX7_walks_144 : decode cX7_walks 144 = .ok (.invokevirtual 130, 3) := by decide +kernel
theorem dX7_walks_147 : decode cX7_walks 147 = .ok (.ifCond .eq (-104), 3) := by decide +kernel
theorem dX7_walks_150 : decode cX7_walks 150 = .ok (.iinc 8 1, 3) := by decide +kernel
theorem dX7_walks_153 : decode cX7_walks 153 = .ok (.aload_n 0, 1) := by decide +kernel
theorem dX7_walks_154 : decode cX7_walks 154 = .ok (.getfield 52, 3) := by decide +kernel
theorem dX7_walks_157 : decode cX7_walks 157 = .ok (.iload 8, 2) := by decide +kernel
theorem dX7_walks_159 : decode cX7_walks 159 = .ok (.bipush 7, 2) := by decide +kernel
theorem dX7_walks_161 : decode cX7_walks 161 = .ok (.if_icmp .ge 8, 3) := by decide +kernel
theorem dX7_walks_164 : decode cX7_walks 164 = .ok (.iload 8, 2) := by decide +kernel
theorem dX7_walks_166 : decode cX7_walks 166 = .ok (.goto 4, 3) := by decide +kernel
theorem dX7_walks_169 : decode cX7_walks 169 = .ok (.iconst 0, 1) := by decide +kernel
theorem dX7_walks_170 : decode cX7_walks 170 = .ok (.iconst (-1), 1) := by decide +kernel
theorem dX7_walks_171 : decode cX7_walks 171 = .ok (.iastore, 1) := by decide +kernel
theorem dX7_walks_172 : decode cX7_walks 172 = .ok (.goto (-129), 3) := by decide +kernel
theorem dX7_walks_175 : decode cX7_walks 175 = .ok (.aload_n 0, 1) := by decide +kernel
theorem dX7_walks_176 : decode cX7_walks 176 = .ok (.getfield 42, 3) := by decide +kernel
theorem dX7_walks_179 : decode cX7_walks 179 = .ok (.iload 5, 2) := by decide +kernel
theorem dX7_walks_181 : decode cX7_walks 181 = .ok (.lload 6, 2) := by decide +kernel
theorem dX7_walks_183 : decode cX7_walks 183 = .ok (.lastore, 1) := by decide +kernel
theorem dX7_walks_184 : decode cX7_walks 184 = .ok (.aload_n 0, 1) := by decide +kernel
theorem dX7_walks_185 : decode cX7_walks 185 = .ok (.getfield 45, 3) := by decide +kernel
theorem dX7_walks_188 : decode cX7_walks 188 = .ok (.iload 5, 2) := by decide +kernel
theorem dX7_walks_190 : decode cX7_walks 190 = .ok (.aload_n 0, 1) := by decide +kernel
theorem dX7_walks_191 : decode cX7_walks 191 = .ok (.getfield 123, 3) := by decide +kernel
theorem dX7_walks_194 : decode cX7_walks 194 = .ok (.iastore, 1) := by decide +kernel
theorem dX7_walks_195 : decode cX7_walks 195 = .ok (.aload_n 0, 1) := by decide +kernel
theorem dX7_walks_196 : decode cX7_walks 196 = .ok (.getfield 48, 3) := by decide +kernel
theorem dX7_walks_199 : decode cX7_walks 199 = .ok (.iload 5, 2) := by decide +kernel
theorem dX7_walks_201 : decode cX7_walks 201 = .ok (.iconst 1, 1) := by decide +kernel
theorem dX7_walks_202 : decode cX7_walks 202 = .ok (.bastore, 1) := by decide +kernel
theorem dX7_walks_203 : decode cX7_walks 203 = .ok (.return_, 1) := by decide +kernel
set_option maxRecDepth 20000 in
theorem ggX7_finds_X7_walks : GoodIn wsX7_finds wsX7_walks := goodIn_r _ [7, 8, 9, 10, 11, 12, 13, 14, 1, 15, 16, 17, 6, 18, 19, 20, 21, 22, 23, 24, 25, 26, 27, 28, 29, 30, 31, 32, 33, 34, 35, 36, 37, 38, 39, 40, 41, 42, 43, 44, 45, 46, 47, 48, 49, 50, 51, 52, 53, 54, 55, 56, 57, 58, 59, 60, 61, 62, 63, 64, 65, 66, 67, 68, 69, 70, 71] (by decide +kernel) (by decide +kernel)
set_option maxRecDepth 20000 in
theorem gX7_finds_X7_walks : GoodIn wsX7_finds (wsV RX7 134 RX7 yX7_walks wsX7_walks) := goodIn_app (goodIn_of _ (by decide +kernel)) ggX7_finds_X7_walks
theorem dX7_finds_0 : decode cX7_finds 0 = .ok (.iconst 2, 1) := by decide +kernel
theorem dX7_finds_1 : decode cX7_finds 1 = .ok (.iload_n 1, 1) := by decide +kernel
theorem dX7_finds_2 : decode cX7_finds 2 = .ok (.imul, 1) := by decide +kernel
theorem dX7_finds_3 : decode cX7_finds 3 = .ok (.iload_n 2, 1) := by decide +kernel
theorem dX7_finds_4 : decode cX7_finds 4 = .ok (.ifCond .eq 7, 3) := by decide +kernel
theorem dX7_finds_7 : decode cX7_finds 7 = .ok (.iconst 1, 1) := by decide +kernel
theorem dX7_finds_8 : decode cX7_finds 8 = .ok (.goto 4, 3) := by decide +kernel
theorem dX7_finds_11 : decode cX7_finds 11 = .ok (.iconst 0, 1) := by decide +kernel
theorem dX7_finds_12 : decode cX7_finds 12 = .ok (.iadd, 1) := by decide +kernel
theorem dX7_finds_13 : decode cX7_finds 13 = .ok (.istore_n 3, 1) := by decide +kernel
theorem dX7_finds_14 : decode cX7_finds 14 = .ok (.aload_n 0, 1) := by decide +kernel
theorem dX7_finds_15 : decode cX7_finds 15 = .ok (.getfield 48, 3) := by decide +kernel
theorem dX7_finds_18 : decode cX7_finds 18 = .ok (.iload_n 3, 1) := by decide +kernel
theorem dX7_finds_19 : decode cX7_finds 19 = .ok (.baload, 1) := by decide +kernel
theorem dX7_finds_20 : decode cX7_finds 20 = .ok (.ifCond .ne 15, 3) := by decide +kernel
theorem dX7_finds_23 : decode cX7_finds 23 = .ok (.aload_n 0, 1) := by decide +kernel
theorem dX7_finds_24 : decode cX7_finds 24 = .ok (.iconst (-1), 1) := by decide +kernel
theorem dX7_finds_25 : decode cX7_finds 25 = .ok (.putfield 38, 3) := by decide +kernel
theorem dX7_finds_28 : decode cX7_finds 28 = .ok (.aload_n 0, 1) := by decide +kernel
theorem dX7_finds_29 : decode cX7_finds 29 = .ok (.iload_n 1, 1) := by decide +kernel
theorem dX7_finds_30 : decode cX7_finds 30 = .ok (.iload_n 2, 1) := by decide +kernel
theorem dX7_finds_31 : decode cX7_finds 31 = .ok (.iconst 0, 1) := by decide +kernel
theorem dX7_finds_32 : decode cX7_finds 32 = .ok (.invokevirtual 134, 3) := by decide +kernel
theorem dX7_finds_35 : decode cX7_finds 35 = .ok (.iload_n 3, 1) := by decide +kernel
theorem dX7_finds_36 : decode cX7_finds 36 = .ok (.ireturn, 1) := by decide +kernel
theorem dX7_sinks_0 : decode cX7_sinks 0 = .ok (.iload_n 1, 1) := by decide +kernel
theorem dX7_sinks_1 : decode cX7_sinks 1 = .ok (.istore_n 3, 1) := by decide +kernel
theorem dX7_sinks_2 : decode cX7_sinks 2 = .ok (.aload_n 0, 1) := by decide +kernel
theorem dX7_sinks_3 : decode cX7_sinks 3 = .ok (.getfield 35, 3) := by decide +kernel
theorem dX7_sinks_6 : decode cX7_sinks 6 = .ok (.iload_n 3, 1) := by decide +kernel
theorem dX7_sinks_7 : decode cX7_sinks 7 = .ok (.laload, 1) := by decide +kernel
theorem dX7_sinks_8 : decode cX7_sinks 8 = .ok (.lstore 4, 2) := by decide +kernel
theorem dX7_sinks_10 : decode cX7_sinks 10 = .ok (.iconst 0, 1) := by decide +kernel
theorem dX7_sinks_11 : decode cX7_sinks 11 = .ok (.istore 6, 2) := by decide +kernel
theorem dX7_sinks_13 : decode cX7_sinks 13 = .ok (.iload 6, 2) := by decide +kernel
theorem dX7_sinks_15 : decode cX7_sinks 15 = .ok (.ifCond .ne 102, 3) := by decide +kernel
theorem dX7_sinks_18 : decode cX7_sinks 18 = .ok (.iconst 2, 1) := by decide +kernel
theorem dX7_sinks_19 : decode cX7_sinks 19 = .ok (.iload_n 3, 1) := by decide +kernel
theorem dX7_sinks_20 : decode cX7_sinks 20 = .ok (.imul, 1) := by decide +kernel
theorem dX7_sinks_21 : decode cX7_sinks 21 = .ok (.iconst 1, 1) := by decide +kernel
theorem dX7_sinks_22 : decode cX7_sinks 22 = .ok (.iadd, 1) := by decide +kernel
theorem dX7_sinks_23 : decode cX7_sinks 23 = .ok (.iload_n 2, 1) := by decide +kernel
theorem dX7_sinks_24 : decode cX7_sinks 24 = .ok (.if_icmp .ge 93, 3) := by decide +kernel
theorem dX7_sinks_27 : decode cX7_sinks 27 = .ok (.iconst 2, 1) := by decide +kernel
theorem dX7_sinks_28 : decode cX7_sinks 28 = .ok (.iload_n 3, 1) := by decide +kernel
theorem dX7_sinks_29 : decode cX7_sinks 29 = .ok (.imul, 1) := by decide +kernel
theorem dX7_sinks_30 : decode cX7_sinks 30 = .ok (.iconst 1, 1) := by decide +kernel
theorem dX7_sinks_31 : decode cX7_sinks 31 = .ok (.iadd, 1) := by decide +kernel
theorem dX7_sinks_32 : decode cX7_sinks 32 = .ok (.istore 7, 2) := by decide +kernel
theorem dX7_sinks_34 : decode cX7_sinks 34 = .ok (.iload 7, 2) := by decide +kernel
theorem dX7_sinks_36 : decode cX7_sinks 36 = .ok (.iconst 1, 1) := by decide +kernel
theorem dX7_sinks_37 : decode cX7_sinks 37 = .ok (.iadd, 1) := by decide +kernel
theorem dX7_sinks_38 : decode cX7_sinks 38 = .ok (.iload_n 2, 1) := by decide +kernel
theorem dX7_sinks_39 : decode cX7_sinks 39 = .ok (.if_icmp .ge 30, 3) := by decide +kernel
theorem dX7_sinks_42 : decode cX7_sinks 42 = .ok (.aload_n 0, 1) := by decide +kernel
theorem dX7_sinks_43 : decode cX7_sinks 43 = .ok (.getfield 35, 3) := by decide +kernel
theorem dX7_sinks_46 : decode cX7_sinks 46 = .ok (.iload 7, 2) := by decide +kernel
theorem dX7_sinks_48 : decode cX7_sinks 48 = .ok (.iconst 1, 1) := by decide +kernel
theorem dX7_sinks_49 : decode cX7_sinks 49 = .ok (.iadd, 1) := by decide +kernel
theorem dX7_sinks_50 : decode cX7_sinks 50 = .ok (.laload, 1) := by decide +kernel
theorem dX7_sinks_51 : decode cX7_sinks 51 = .ok (.aload_n 0, 1) := by decide +kernel
theorem dX7_sinks_52 : decode cX7_sinks 52 = .ok (.getfield 35, 3) := by decide +kernel
theorem dX7_sinks_55 : decode cX7_sinks 55 = .ok (.iload 7, 2) := by decide +kernel
theorem dX7_sinks_57 : decode cX7_sinks 57 = .ok (.laload, 1) := by decide +kernel
theorem dX7_sinks_58 : decode cX7_sinks 58 = .ok (.lcmp, 1) := by decide +kernel
theorem dX7_sinks_59 : decode cX7_sinks 59 = .ok (.ifCond .le 10, 3) := by decide +kernel
theorem dX7_sinks_62 : decode cX7_sinks 62 = .ok (.iload 7, 2) := by decide +kernel
theorem dX7_sinks_64 : decode cX7_sinks 64 = .ok (.iconst 1, 1) := by decide +kernel
theorem dX7_sinks_65 : decode cX7_sinks 65 = .ok (.iadd, 1) := by decide +kernel
theorem dX7_sinks_66 : decode cX7_sinks 66 = .ok (.goto 5, 3) := by decide +kernel
theorem dX7_sinks_69 : decode cX7_sinks 69 = .ok (.iload 7, 2) := by decide +kernel
theorem dX7_sinks_71 : decode cX7_sinks 71 = .ok (.istore 7, 2) := by decide +kernel
theorem dX7_sinks_73 : decode cX7_sinks 73 = .ok (.aload_n 0, 1) := by decide +kernel
theorem dX7_sinks_74 : decode cX7_sinks 74 = .ok (.getfield 35, 3) := by decide +kernel
theorem dX7_sinks_77 : decode cX7_sinks 77 = .ok (.iload 7, 2) := by decide +kernel
theorem dX7_sinks_79 : decode cX7_sinks 79 = .ok (.laload, 1) := by decide +kernel
theorem dX7_sinks_80 : decode cX7_sinks 80 = .ok (.lload 4, 2) := by decide +kernel
theorem dX7_sinks_82 : decode cX7_sinks 82 = .ok (.lcmp, 1) := by decide +kernel
theorem dX7_sinks_83 : decode cX7_sinks 83 = .ok (.ifCond .gt 7, 3) := by decide +kernel
theorem dX7_sinks_86 : decode cX7_sinks 86 = .ok (.iconst 1, 1) := by decide +kernel
theorem dX7_sinks_87 : decode cX7_sinks 87 = .ok (.goto 4, 3) := by decide +kernel
theorem dX7_sinks_90 : decode cX7_sinks 90 = .ok (.iconst 0, 1) := by decide +kernel
theorem dX7_sinks_91 : decode cX7_sinks 91 = .ok (.istore 6, 2) := by decide +kernel
theorem dX7_sinks_93 : decode cX7_sinks 93 = .ok (.iload 6, 2) := by decide +kernel
theorem dX7_sinks_95 : decode cX7_sinks 95 = .ok (.ifCond .ne 19, 3) := by decide +kernel
theorem dX7_sinks_98 : decode cX7_sinks 98 = .ok (.aload_n 0, 1) := by decide +kernel
theorem dX7_sinks_99 : decode cX7_sinks 99 = .ok (.getfield 35, 3) := by decide +kernel
theorem dX7_sinks_102 : decode cX7_sinks 102 = .ok (.iload_n 3, 1) := by decide +kernel
theorem dX7_sinks_103 : decode cX7_sinks 103 = .ok (.aload_n 0, 1) := by decide +kernel
theorem dX7_sinks_104 : decode cX7_sinks 104 = .ok (.getfield 35, 3) := by decide +kernel
theorem dX7_sinks_107 : decode cX7_sinks 107 = .ok (.iload 7, 2) := by decide +kernel
theorem dX7_sinks_109 : decode cX7_sinks 109 = .ok (.laload, 1) := by decide +kernel
theorem dX7_sinks_110 : decode cX7_sinks 110 = .ok (.lastore, 1) := by decide +kernel
theorem dX7_sinks_111 : decode cX7_sinks 111 = .ok (.iload 7, 2) := by decide +kernel
theorem dX7_sinks_113 : decode cX7_sinks 113 = .ok (.istore_n 3, 1) := by decide +kernel
theorem dX7_sinks_114 : decode cX7_sinks 114 = .ok (.goto (-101), 3) := by decide +kernel
theorem dX7_sinks_117 : decode cX7_sinks 117 = .ok (.aload_n 0, 1) := by decide +kernel
theorem dX7_sinks_118 : decode cX7_sinks 118 = .ok (.getfield 35, 3) := by decide +kernel
theorem dX7_sinks_121 : decode cX7_sinks 121 = .ok (.iload_n 3, 1) := by decide +kernel
theorem dX7_sinks_122 : decode cX7_sinks 122 = .ok (.lload 4, 2) := by decide +kernel
theorem dX7_sinks_124 : decode cX7_sinks 124 = .ok (.lastore, 1) := by decide +kernel
theorem dX7_sinks_125 : decode cX7_sinks 125 = .ok (.return_, 1) := by decide +kernel
set_option maxRecDepth 20000 in
theorem ggX7_lists_X7_walks : GoodIn wsX7_lists wsX7_walks := goodIn_r _ [8, 9, 10, 2, 11, 3, 12, 13, 14, 15, 16, 17, 7, 18, 19, 20, 21, 22, 23, 24, 25, 26, 27, 28, 29, 30, 31, 32, 33, 34, 35, 36, 37, 38, 39, 40, 41, 42, 43, 44, 45, 46, 47, 48, 49, 50, 51, 56, 57, 58, 59, 60, 61, 62, 63, 64, 65, 66, 67, 68, 69, 70, 71, 72, 73, 74, 75] (by decide +kernel) (by decide +kernel)
set_option maxRecDepth 20000 in
theorem gX7_lists_X7_walks : GoodIn wsX7_lists (wsV RX7 134 RX7 yX7_walks wsX7_walks) := goodIn_app (goodIn_of _ (by decide +kernel)) ggX7_lists_X7_walks
set_option maxRecDepth 20000 in
theorem ggX7_lists_X7_sinks : GoodIn wsX7_lists wsX7_sinks := goodIn_r _ [55, 3, 56, 57, 58, 59, 60, 61, 62, 63, 64, 65, 66, 67, 68, 69, 70, 71, 72, 73, 74, 75] (by decide +kernel) (by decide +kernel)
set_option maxRecDepth 20000 in
theorem gX7_lists_X7_sinks : GoodIn wsX7_lists (wsV RX7 138 RX7 yX7_sinks wsX7_sinks) := goodIn_app (goodIn_of _ (by decide +kernel)) ggX7_lists_X7_sinks
theorem dX7_lists_0 : decode cX7_lists 0 = .ok (.iconst 2, 1) := by decide +kernel
theorem dX7_lists_1 : decode cX7_lists 1 = .ok (.iload_n 1, 1) := by decide +kernel
theorem dX7_lists_2 : decode cX7_lists 2 = .ok (.imul, 1) := by decide +kernel
theorem dX7_lists_3 : decode cX7_lists 3 = .ok (.iload_n 2, 1) := by decide +kernel
theorem dX7_lists_4 : decode cX7_lists 4 = .ok (.ifCond .eq 7, 3) := by decide +kernel
theorem dX7_lists_7 : decode cX7_lists 7 = .ok (.iconst 1, 1) := by decide +kernel
theorem dX7_lists_8 : decode cX7_lists 8 = .ok (.goto 4, 3) := by decide +kernel
theorem dX7_lists_11 : decode cX7_lists 11 = .ok (.iconst 0, 1) := by decide +kernel
theorem dX7_lists_12 : decode cX7_lists 12 = .ok (.iadd, 1) := by decide +kernel
theorem dX7_lists_13 : decode cX7_lists 13 = .ok (.istore_n 3, 1) := by decide +kernel
theorem dX7_lists_14 : decode cX7_lists 14 = .ok (.aload_n 0, 1) := by decide +kernel
theorem dX7_lists_15 : decode cX7_lists 15 = .ok (.getfield 38, 3) := by decide +kernel
theorem dX7_lists_18 : decode cX7_lists 18 = .ok (.iload_n 3, 1) := by decide +kernel
theorem dX7_lists_19 : decode cX7_lists 19 = .ok (.if_icmp .ne 4, 3) := by decide +kernel
theorem dX7_lists_22 : decode cX7_lists 22 = .ok (.return_, 1) := by decide +kernel
theorem dX7_lists_23 : decode cX7_lists 23 = .ok (.aload_n 0, 1) := by decide +kernel
theorem dX7_lists_24 : decode cX7_lists 24 = .ok (.iload_n 1, 1) := by decide +kernel
theorem dX7_lists_25 : decode cX7_lists 25 = .ok (.iload_n 2, 1) := by decide +kernel
theorem dX7_lists_26 : decode cX7_lists 26 = .ok (.iconst 1, 1) := by decide +kernel
theorem dX7_lists_27 : decode cX7_lists 27 = .ok (.invokevirtual 134, 3) := by decide +kernel
theorem dX7_lists_30 : decode cX7_lists 30 = .ok (.aload_n 0, 1) := by decide +kernel
theorem dX7_lists_31 : decode cX7_lists 31 = .ok (.iload_n 3, 1) := by decide +kernel
theorem dX7_lists_32 : decode cX7_lists 32 = .ok (.putfield 38, 3) := by decide +kernel
theorem dX7_lists_35 : decode cX7_lists 35 = .ok (.aload_n 0, 1) := by decide +kernel
theorem dX7_lists_36 : decode cX7_lists 36 = .ok (.getfield 123, 3) := by decide +kernel
theorem dX7_lists_39 : decode cX7_lists 39 = .ok (.iconst 2, 1) := by decide +kernel
theorem dX7_lists_40 : decode cX7_lists 40 = .ok (.idiv, 1) := by decide +kernel
theorem dX7_lists_41 : decode cX7_lists 41 = .ok (.iconst 1, 1) := by decide +kernel
theorem dX7_lists_42 : decode cX7_lists 42 = .ok (.isub, 1) := by decide +kernel
theorem dX7_lists_43 : decode cX7_lists 43 = .ok (.istore 4, 2) := by decide +kernel
theorem dX7_lists_45 : decode cX7_lists 45 = .ok (.iload 4, 2) := by decide +kernel
theorem dX7_lists_47 : decode cX7_lists 47 = .ok (.ifCond .lt 19, 3) := by decide +kernel
theorem dX7_lists_50 : decode cX7_lists 50 = .ok (.aload_n 0, 1) := by decide +kernel
theorem dX7_lists_51 : decode cX7_lists 51 = .ok (.iload 4, 2) := by decide +kernel
theorem dX7_lists_53 : decode cX7_lists 53 = .ok (.aload_n 0, 1) := by decide +kernel
theorem dX7_lists_54 : decode cX7_lists 54 = .ok (.getfield 123, 3) := by decide +kernel
theorem dX7_lists_57 : decode cX7_lists 57 = .ok (.invokevirtual 138, 3) := by decide +kernel
theorem dX7_lists_60 : decode cX7_lists 60 = .ok (.iinc 4 (-1), 3) := by decide +kernel
theorem dX7_lists_63 : decode cX7_lists 63 = .ok (.goto (-18), 3) := by decide +kernel
theorem dX7_lists_66 : decode cX7_lists 66 = .ok (.aload_n 0, 1) := by decide +kernel
theorem dX7_lists_67 : decode cX7_lists 67 = .ok (.getfield 123, 3) := by decide +kernel
theorem dX7_lists_70 : decode cX7_lists 70 = .ok (.iconst 1, 1) := by decide +kernel
theorem dX7_lists_71 : decode cX7_lists 71 = .ok (.isub, 1) := by decide +kernel
theorem dX7_lists_72 : decode cX7_lists 72 = .ok (.istore 4, 2) := by decide +kernel
theorem dX7_lists_74 : decode cX7_lists 74 = .ok (.iload 4, 2) := by decide +kernel
theorem dX7_lists_76 : decode cX7_lists 76 = .ok (.ifCond .le 46, 3) := by decide +kernel
theorem dX7_lists_79 : decode cX7_lists 79 = .ok (.aload_n 0, 1) := by decide +kernel
theorem dX7_lists_80 : decode cX7_lists 80 = .ok (.getfield 35, 3) := by decide +kernel
theorem dX7_lists_83 : decode cX7_lists 83 = .ok (.iload 4, 2) := by decide +kernel
theorem dX7_lists_85 : decode cX7_lists 85 = .ok (.laload, 1) := by decide +kernel
theorem dX7_lists_86 : decode cX7_lists 86 = .ok (.lstore 5, 2) := by decide +kernel
theorem dX7_lists_88 : decode cX7_lists 88 = .ok (.aload_n 0, 1) := by decide +kernel
theorem dX7_lists_89 : decode cX7_lists 89 = .ok (.getfield 35, 3) := by decide +kernel
theorem dX7_lists_92 : decode cX7_lists 92 = .ok (.iload 4, 2) := by decide +kernel
theorem dX7_lists_94 : decode cX7_lists 94 = .ok (.aload_n 0, 1) := by decide +kernel
theorem dX7_lists_95 : decode cX7_lists 95 = .ok (.getfield 35, 3) := by decide +kernel
theorem dX7_lists_98 : decode cX7_lists 98 = .ok (.iconst 0, 1) := by decide +kernel
theorem dX7_lists_99 : decode cX7_lists 99 = .ok (.laload, 1) := by decide +kernel
theorem dX7_lists_100 : decode cX7_lists 100 = .ok (.lastore, 1) := by decide +kernel
theorem dX7_lists_101 : decode cX7_lists 101 = .ok (.aload_n 0, 1) := by decide +kernel
theorem dX7_lists_102 : decode cX7_lists 102 = .ok (.getfield 35, 3) := by decide +kernel
theorem dX7_lists_105 : decode cX7_lists 105 = .ok (.iconst 0, 1) := by decide +kernel
theorem dX7_lists_106 : decode cX7_lists 106 = .ok (.lload 5, 2) := by decide +kernel
theorem dX7_lists_108 : decode cX7_lists 108 = .ok (.lastore, 1) := by decide +kernel
theorem dX7_lists_109 : decode cX7_lists 109 = .ok (.aload_n 0, 1) := by decide +kernel
theorem dX7_lists_110 : decode cX7_lists 110 = .ok (.iconst 0, 1) := by decide +kernel
theorem dX7_lists_111 : decode cX7_lists 111 = .ok (.iload 4, 2) := by decide +kernel
theorem dX7_lists_113 : decode cX7_lists 113 = .ok (.invokevirtual 138, 3) := by decide +kernel
theorem dX7_lists_116 : decode cX7_lists 116 = .ok (.iinc 4 (-1), 3) := by decide +kernel
theorem dX7_lists_119 : decode cX7_lists 119 = .ok (.goto (-45), 3) := by decide +kernel
theorem dX7_lists_122 : decode cX7_lists 122 = .ok (.return_, 1) := by decide +kernel
theorem dX7_scoreIn_0 : decode cX7_scoreIn 0 = .ok (.ldc 120, 2) := by decide +kernel
theorem dX7_scoreIn_2 : decode cX7_scoreIn 2 = .ok (.lload_n 1, 1) := by decide +kernel
theorem dX7_scoreIn_3 : decode cX7_scoreIn 3 = .ok (.bipush 18, 2) := by decide +kernel
theorem dX7_scoreIn_5 : decode cX7_scoreIn 5 = .ok (.lshr, 1) := by decide +kernel
theorem dX7_scoreIn_6 : decode cX7_scoreIn 6 = .ok (.l2i, 1) := by decide +kernel
theorem dX7_scoreIn_7 : decode cX7_scoreIn 7 = .ok (.isub, 1) := by decide +kernel
theorem dX7_scoreIn_8 : decode cX7_scoreIn 8 = .ok (.ireturn, 1) := by decide +kernel
theorem dX7_headIn_0 : decode cX7_headIn 0 = .ok (.lload_n 2, 1) := by decide +kernel
theorem dX7_headIn_1 : decode cX7_headIn 1 = .ok (.iconst 3, 1) := by decide +kernel
theorem dX7_headIn_2 : decode cX7_headIn 2 = .ok (.aload_n 0, 1) := by decide +kernel
theorem dX7_headIn_3 : decode cX7_headIn 3 = .ok (.getfield 7, 3) := by decide +kernel
theorem dX7_headIn_6 : decode cX7_headIn 6 = .ok (.iload_n 1, 1) := by decide +kernel
theorem dX7_headIn_7 : decode cX7_headIn 7 = .ok (.iaload, 1) := by decide +kernel
theorem dX7_headIn_8 : decode cX7_headIn 8 = .ok (.iload 4, 2) := by decide +kernel
theorem dX7_headIn_10 : decode cX7_headIn 10 = .ok (.isub, 1) := by decide +kernel
theorem dX7_headIn_11 : decode cX7_headIn 11 = .ok (.imul, 1) := by decide +kernel
theorem dX7_headIn_12 : decode cX7_headIn 12 = .ok (.lshr, 1) := by decide +kernel
theorem dX7_headIn_13 : decode cX7_headIn 13 = .ok (.ldc2_w 142, 3) := by decide +kernel
theorem dX7_headIn_16 : decode cX7_headIn 16 = .ok (.land, 1) := by decide +kernel
theorem dX7_headIn_17 : decode cX7_headIn 17 = .ok (.l2i, 1) := by decide +kernel
theorem dX7_headIn_18 : decode cX7_headIn 18 = .ok (.ireturn, 1) := by decide +kernel
set_option maxRecDepth 20000 in
theorem ggX7_trees_X7_isSentence : GoodIn wsX7_trees wsX7_isSentence := goodIn_r _ [6, 7, 66, 67, 68, 69, 70, 71, 72, 73, 74, 75, 76, 77, 78, 79, 80, 81, 82, 83, 84, 85] (by decide +kernel) (by decide +kernel)
set_option maxRecDepth 20000 in
theorem gX7_trees_X7_isSentence : GoodIn wsX7_trees (wsV RX7 61 RX7 yX7_isSentence wsX7_isSentence) := goodIn_app (goodIn_of _ (by decide +kernel)) ggX7_trees_X7_isSentence
set_option maxRecDepth 20000 in
theorem ggX7_trees_X7_asks : GoodIn wsX7_trees wsX7_asks := goodIn_r _ [11, 12, 66, 67, 68, 69, 70, 71, 72, 73, 74, 75, 76, 77, 78, 79, 80, 81, 82, 83, 84, 85] (by decide +kernel) (by decide +kernel)
set_option maxRecDepth 20000 in
theorem gX7_trees_X7_asks : GoodIn wsX7_trees (wsV RX7 65 RX7 yX7_asks wsX7_asks) := goodIn_app (goodIn_of _ (by decide +kernel)) ggX7_trees_X7_asks
set_option maxRecDepth 20000 in
theorem ggX7_trees_X7_finds : GoodIn wsX7_trees wsX7_finds := goodIn_r _ [16, 17, 18, 19, 20, 21, 5, 22, 23, 24, 25, 26, 27, 28, 1, 29, 30, 31, 32, 33, 34, 35, 36, 37, 38, 39, 40, 41, 42, 43, 44, 45, 46, 47, 48, 49, 50, 51, 52, 53, 54, 55, 56, 57, 58, 59, 60, 61, 62, 63, 64, 65, 66, 67, 68, 69, 70, 71, 72, 73, 74, 75, 76, 77, 78, 79, 80, 81, 82, 83, 84, 85] (by decide +kernel) (by decide +kernel)
set_option maxRecDepth 20000 in
theorem gX7_trees_X7_finds : GoodIn wsX7_trees (wsV RX7 144 RX7 yX7_finds wsX7_finds) := goodIn_app (goodIn_of _ (by decide +kernel)) ggX7_trees_X7_finds
theorem dX7_trees_0 : decode cX7_trees 0 = .ok (.aload_n 0, 1) := by decide +kernel
theorem dX7_trees_1 : decode cX7_trees 1 = .ok (.aload_n 0, 1) := by decide +kernel
theorem dX7_trees_2 : decode cX7_trees 2 = .ok (.iload_n 1, 1) := by decide +kernel
theorem dX7_trees_3 : decode cX7_trees 3 = .ok (.invokevirtual 61, 3) := by decide +kernel
theorem dX7_trees_6 : decode cX7_trees 6 = .ok (.invokevirtual 65, 3) := by decide +kernel
theorem dX7_trees_9 : decode cX7_trees 9 = .ok (.ifCond .eq 17, 3) := by decide +kernel
theorem dX7_trees_12 : decode cX7_trees 12 = .ok (.aload_n 0, 1) := by decide +kernel
theorem dX7_trees_13 : decode cX7_trees 13 = .ok (.getfield 45, 3) := by decide +kernel
theorem dX7_trees_16 : decode cX7_trees 16 = .ok (.aload_n 0, 1) := by decide +kernel
theorem dX7_trees_17 : decode cX7_trees 17 = .ok (.iload_n 1, 1) := by decide +kernel
theorem dX7_trees_18 : decode cX7_trees 18 = .ok (.iload_n 2, 1) := by decide +kernel
theorem dX7_trees_19 : decode cX7_trees 19 = .ok (.invokevirtual 144, 3) := by decide +kernel
theorem dX7_trees_22 : decode cX7_trees 22 = .ok (.iaload, 1) := by decide +kernel
theorem dX7_trees_23 : decode cX7_trees 23 = .ok (.goto 4, 3) := by decide +kernel
theorem dX7_trees_26 : decode cX7_trees 26 = .ok (.iconst 0, 1) := by decide +kernel
theorem dX7_trees_27 : decode cX7_trees 27 = .ok (.ireturn, 1) := by decide +kernel
set_option maxRecDepth 20000 in
theorem ggX7_asksTree_X7_isSentence : GoodIn wsX7_asksTree wsX7_isSentence := goodIn_r _ [7, 8, 66, 67, 68, 69, 70, 71, 72, 73, 74, 75, 76, 77, 78, 79, 80, 81, 82, 83, 84, 85] (by decide +kernel) (by decide +kernel)
set_option maxRecDepth 20000 in
theorem gX7_asksTree_X7_isSentence : GoodIn wsX7_asksTree (wsV RX7 61 RX7 yX7_isSentence wsX7_isSentence) := goodIn_app (goodIn_of _ (by decide +kernel)) ggX7_asksTree_X7_isSentence
set_option maxRecDepth 20000 in
theorem ggX7_asksTree_X7_asks : GoodIn wsX7_asksTree wsX7_asks := goodIn_r _ [12, 2, 66, 67, 68, 69, 70, 71, 72, 73, 74, 75, 76, 77, 78, 79, 80, 81, 82, 83, 84, 85] (by decide +kernel) (by decide +kernel)
set_option maxRecDepth 20000 in
theorem gX7_asksTree_X7_asks : GoodIn wsX7_asksTree (wsV RX7 65 RX7 yX7_asks wsX7_asks) := goodIn_app (goodIn_of _ (by decide +kernel)) ggX7_asksTree_X7_asks
set_option maxRecDepth 20000 in
theorem ggX7_asksTree_X7_finds : GoodIn wsX7_asksTree wsX7_finds := goodIn_r _ [16, 17, 18, 19, 20, 21, 6, 22, 23, 24, 25, 26, 27, 28, 1, 29, 30, 31, 32, 33, 34, 35, 36, 37, 38, 39, 40, 41, 42, 43, 44, 45, 46, 47, 48, 49, 50, 51, 52, 53, 54, 55, 56, 57, 58, 59, 60, 61, 62, 63, 64, 65, 66, 67, 68, 69, 70, 71, 72, 73, 74, 75, 76, 77, 78, 79, 80, 81, 82, 83, 84, 85] (by decide +kernel) (by decide +kernel)
set_option maxRecDepth 20000 in
theorem gX7_asksTree_X7_finds : GoodIn wsX7_asksTree (wsV RX7 144 RX7 yX7_finds wsX7_finds) := goodIn_app (goodIn_of _ (by decide +kernel)) ggX7_asksTree_X7_finds
theorem dX7_asksTree_0 : decode cX7_asksTree 0 = .ok (.aload_n 0, 1) := by decide +kernel
theorem dX7_asksTree_1 : decode cX7_asksTree 1 = .ok (.aload_n 0, 1) := by decide +kernel
theorem dX7_asksTree_2 : decode cX7_asksTree 2 = .ok (.iload_n 1, 1) := by decide +kernel
theorem dX7_asksTree_3 : decode cX7_asksTree 3 = .ok (.invokevirtual 61, 3) := by decide +kernel
theorem dX7_asksTree_6 : decode cX7_asksTree 6 = .ok (.invokevirtual 65, 3) := by decide +kernel
theorem dX7_asksTree_9 : decode cX7_asksTree 9 = .ok (.ifCond .ne 5, 3) := by decide +kernel
theorem dX7_asksTree_12 : decode cX7_asksTree 12 = .ok (.iconst 0, 1) := by decide +kernel
theorem dX7_asksTree_13 : decode cX7_asksTree 13 = .ok (.ireturn, 1) := by decide +kernel
theorem dX7_asksTree_14 : decode cX7_asksTree 14 = .ok (.aload_n 0, 1) := by decide +kernel
theorem dX7_asksTree_15 : decode cX7_asksTree 15 = .ok (.aload_n 0, 1) := by decide +kernel
theorem dX7_asksTree_16 : decode cX7_asksTree 16 = .ok (.getfield 45, 3) := by decide +kernel
theorem dX7_asksTree_19 : decode cX7_asksTree 19 = .ok (.aload_n 0, 1) := by decide +kernel
theorem dX7_asksTree_20 : decode cX7_asksTree 20 = .ok (.iload_n 1, 1) := by decide +kernel
theorem dX7_asksTree_21 : decode cX7_asksTree 21 = .ok (.iload_n 2, 1) := by decide +kernel
theorem dX7_asksTree_22 : decode cX7_asksTree 22 = .ok (.invokevirtual 144, 3) := by decide +kernel
theorem dX7_asksTree_25 : decode cX7_asksTree 25 = .ok (.iaload, 1) := by decide +kernel
theorem dX7_asksTree_26 : decode cX7_asksTree 26 = .ok (.ifCond .ne 7, 3) := by decide +kernel
theorem dX7_asksTree_29 : decode cX7_asksTree 29 = .ok (.iconst 2, 1) := by decide +kernel
theorem dX7_asksTree_30 : decode cX7_asksTree 30 = .ok (.goto 4, 3) := by decide +kernel
theorem dX7_asksTree_33 : decode cX7_asksTree 33 = .ok (.iconst 0, 1) := by decide +kernel
theorem dX7_asksTree_34 : decode cX7_asksTree 34 = .ok (.putfield 55, 3) := by decide +kernel
theorem dX7_asksTree_37 : decode cX7_asksTree 37 = .ok (.aload_n 0, 1) := by decide +kernel
theorem dX7_asksTree_38 : decode cX7_asksTree 38 = .ok (.getfield 55, 3) := by decide +kernel
theorem dX7_asksTree_41 : decode cX7_asksTree 41 = .ok (.ifCond .ne 7, 3) := by decide +kernel
theorem dX7_asksTree_44 : decode cX7_asksTree 44 = .ok (.iconst 1, 1) := by decide +kernel
theorem dX7_asksTree_45 : decode cX7_asksTree 45 = .ok (.goto 4, 3) := by decide +kernel
theorem dX7_asksTree_48 : decode cX7_asksTree 48 = .ok (.iconst 0, 1) := by decide +kernel
theorem dX7_asksTree_49 : decode cX7_asksTree 49 = .ok (.ireturn, 1) := by decide +kernel
set_option maxRecDepth 20000 in
theorem ggX7_best_X7_asksTree : GoodIn wsX7_best wsX7_asksTree := goodIn_r _ [6, 7, 8, 9, 10, 11, 5, 12, 13, 14, 15, 16, 17, 18, 19, 20, 21, 22, 23, 24, 25, 26, 27, 28, 29, 30, 31, 32, 1, 33, 34, 35, 36, 37, 38, 39, 40, 41, 42, 43, 44, 45, 46, 47, 48, 49, 50, 51, 52, 53, 54, 55, 56, 57, 58, 59, 60, 61, 62, 63, 64, 65, 66, 67, 68, 69, 74, 75, 76, 77, 78, 79, 80, 81, 82, 83, 84, 85, 86, 87, 88, 89, 90, 91, 92, 93] (by decide +kernel) (by decide +kernel)
set_option maxRecDepth 20000 in
theorem gX7_best_X7_asksTree : GoodIn wsX7_best (wsV RX7 148 RX7 yX7_asksTree wsX7_asksTree) := goodIn_app (goodIn_of _ (by decide +kernel)) ggX7_best_X7_asksTree
set_option maxRecDepth 20000 in
theorem ggX7_best_X7_finds : GoodIn wsX7_best wsX7_finds := goodIn_r _ [21, 22, 23, 24, 25, 26, 5, 27, 28, 29, 30, 31, 32, 1, 7, 33, 34, 35, 36, 37, 38, 39, 40, 41, 42, 43, 44, 45, 46, 47, 48, 49, 50, 51, 52, 53, 54, 55, 56, 57, 58, 59, 60, 61, 62, 63, 64, 65, 66, 67, 68, 69, 74, 75, 76, 77, 78, 79, 80, 81, 82, 83, 84, 85, 86, 87, 88, 89, 90, 91, 92, 93] (by decide +kernel) (by decide +kernel)
set_option maxRecDepth 20000 in
theorem gX7_best_X7_finds : GoodIn wsX7_best (wsV RX7 144 RX7 yX7_finds wsX7_finds) := goodIn_app (goodIn_of _ (by decide +kernel)) ggX7_best_X7_finds
set_option maxRecDepth 20000 in
theorem ggX7_best_X7_scoreIn : GoodIn wsX7_best wsX7_scoreIn := goodIn_r _ [73, 37] (by decide +kernel) (by decide +kernel)
set_option maxRecDepth 20000 in
theorem gX7_best_X7_scoreIn : GoodIn wsX7_best (wsV RX7 152 RX7 yX7_scoreIn wsX7_scoreIn) := goodIn_app (goodIn_of _ (by decide +kernel)) ggX7_best_X7_scoreIn
theorem dX7_best_0 : decode cX7_best 0 = .ok (.aload_n 0, 1) := by decide +kernel
theorem dX7_best_1 : decode cX7_best 1 = .ok (.iload_n 1, 1) := by decide +kernel
theorem dX7_best_2 : decode cX7_best 2 = .ok (.iload_n 2, 1) := by decide +kernel
theorem dX7_best_3 : decode cX7_best 3 = .ok (.invokevirtual 148, 3) := by decide +kernel
theorem dX7_best_6 : decode cX7_best 6 = .ok (.ifCond .eq 21, 3) := by decide +kernel
theorem dX7_best_9 : decode cX7_best 9 = .ok (.aload_n 0, 1) := by decide +kernel
theorem dX7_best_10 : decode cX7_best 10 = .ok (.aload_n 0, 1) := by decide +kernel
theorem dX7_best_11 : decode cX7_best 11 = .ok (.getfield 42, 3) := by decide +kernel
theorem dX7_best_14 : decode cX7_best 14 = .ok (.aload_n 0, 1) := by decide +kernel
theorem dX7_best_15 : decode cX7_best 15 = .ok (.iload_n 1, 1) := by decide +kernel
theorem dX7_best_16 : decode cX7_best 16 = .ok (.iload_n 2, 1) := by decide +kernel
theorem dX7_best_17 : decode cX7_best 17 = .ok (.invokevirtual 144, 3) := by decide +kernel
theorem dX7_best_20 : decode cX7_best 20 = .ok (.laload, 1) := by decide +kernel
theorem dX7_best_21 : decode cX7_best 21 = .ok (.invokevirtual 152, 3) := by decide +kernel
theorem dX7_best_24 : decode cX7_best 24 = .ok (.goto 4, 3) := by decide +kernel
theorem dX7_best_27 : decode cX7_best 27 = .ok (.iconst 0, 1) := by decide +kernel
theorem dX7_best_28 : decode cX7_best 28 = .ok (.ireturn, 1) := by decide +kernel
set_option maxRecDepth 20000 in
theorem ggX7_bestByTrying_X7_asksTree : GoodIn wsX7_bestByTrying wsX7_asksTree := goodIn_r _ [6, 7, 8, 9, 10, 11, 5, 12, 13, 14, 15, 16, 17, 18, 19, 20, 21, 22, 23, 24, 25, 26, 27, 28, 29, 30, 31, 32, 1, 33, 34, 35, 36, 37, 38, 39, 40, 41, 42, 43, 44, 45, 46, 47, 48, 49, 50, 51, 52, 53, 54, 55, 56, 57, 58, 59, 60, 61, 62, 63, 64, 65, 66, 67, 68, 69, 74, 75, 76, 77, 78, 79, 80, 81, 82, 83, 84, 85, 86, 87, 88, 89, 90, 91, 92, 93] (by decide +kernel) (by decide +kernel)
set_option maxRecDepth 20000 in
theorem gX7_bestByTrying_X7_asksTree : GoodIn wsX7_bestByTrying (wsV RX7 148 RX7 yX7_asksTree wsX7_asksTree) := goodIn_app (goodIn_of _ (by decide +kernel)) ggX7_bestByTrying_X7_asksTree
set_option maxRecDepth 20000 in
theorem ggX7_bestByTrying_X7_finds : GoodIn wsX7_bestByTrying wsX7_finds := goodIn_r _ [21, 22, 23, 24, 25, 26, 5, 27, 28, 29, 30, 31, 32, 1, 7, 33, 34, 35, 36, 37, 38, 39, 40, 41, 42, 43, 44, 45, 46, 47, 48, 49, 50, 51, 52, 53, 54, 55, 56, 57, 58, 59, 60, 61, 62, 63, 64, 65, 66, 67, 68, 69, 74, 75, 76, 77, 78, 79, 80, 81, 82, 83, 84, 85, 86, 87, 88, 89, 90, 91, 92, 93] (by decide +kernel) (by decide +kernel)
set_option maxRecDepth 20000 in
theorem gX7_bestByTrying_X7_finds : GoodIn wsX7_bestByTrying (wsV RX7 144 RX7 yX7_finds wsX7_finds) := goodIn_app (goodIn_of _ (by decide +kernel)) ggX7_bestByTrying_X7_finds
set_option maxRecDepth 20000 in
theorem ggX7_bestByTrying_X7_scoreIn : GoodIn wsX7_bestByTrying wsX7_scoreIn := goodIn_r _ [73, 37] (by decide +kernel) (by decide +kernel)
set_option maxRecDepth 20000 in
theorem gX7_bestByTrying_X7_scoreIn : GoodIn wsX7_bestByTrying (wsV RX7 152 RX7 yX7_scoreIn wsX7_scoreIn) := goodIn_app (goodIn_of _ (by decide +kernel)) ggX7_bestByTrying_X7_scoreIn
theorem dX7_bestByTrying_0 : decode cX7_bestByTrying 0 = .ok (.aload_n 0, 1) := by decide +kernel
theorem dX7_bestByTrying_1 : decode cX7_bestByTrying 1 = .ok (.iload_n 1, 1) := by decide +kernel
theorem dX7_bestByTrying_2 : decode cX7_bestByTrying 2 = .ok (.iload_n 2, 1) := by decide +kernel
theorem dX7_bestByTrying_3 : decode cX7_bestByTrying 3 = .ok (.invokevirtual 148, 3) := by decide +kernel
theorem dX7_bestByTrying_6 : decode cX7_bestByTrying 6 = .ok (.ifCond .eq 21, 3) := by decide +kernel
theorem dX7_bestByTrying_9 : decode cX7_bestByTrying 9 = .ok (.aload_n 0, 1) := by decide +kernel
theorem dX7_bestByTrying_10 : decode cX7_bestByTrying 10 = .ok (.aload_n 0, 1) := by decide +kernel
theorem dX7_bestByTrying_11 : decode cX7_bestByTrying 11 = .ok (.getfield 42, 3) := by decide +kernel
theorem dX7_bestByTrying_14 : decode cX7_bestByTrying 14 = .ok (.aload_n 0, 1) := by decide +kernel
theorem dX7_bestByTrying_15 : decode cX7_bestByTrying 15 = .ok (.iload_n 1, 1) := by decide +kernel
theorem dX7_bestByTrying_16 : decode cX7_bestByTrying 16 = .ok (.iload_n 2, 1) := by decide +kernel
theorem dX7_bestByTrying_17 : decode cX7_bestByTrying 17 = .ok (.invokevirtual 144, 3) := by decide +kernel
theorem dX7_bestByTrying_20 : decode cX7_bestByTrying 20 = .ok (.laload, 1) := by decide +kernel
theorem dX7_bestByTrying_21 : decode cX7_bestByTrying 21 = .ok (.invokevirtual 152, 3) := by decide +kernel
theorem dX7_bestByTrying_24 : decode cX7_bestByTrying 24 = .ok (.goto 4, 3) := by decide +kernel
theorem dX7_bestByTrying_27 : decode cX7_bestByTrying 27 = .ok (.iconst 0, 1) := by decide +kernel
theorem dX7_bestByTrying_28 : decode cX7_bestByTrying 28 = .ok (.ireturn, 1) := by decide +kernel
set_option maxRecDepth 20000 in
theorem ggX7_head_X7_isWord : GoodIn wsX7_head wsX7_isWord := goodIn_r _ [6, 7, 8, 9, 10, 5, 11, 12, 79, 80, 81, 82, 83, 84, 85, 86, 87, 88, 89, 90, 91, 92, 93, 94, 95, 96, 97, 98] (by decide +kernel) (by decide +kernel)
set_option maxRecDepth 20000 in
theorem gX7_head_X7_isWord : GoodIn wsX7_head (wsV RX7 76 RX7 yX7_isWord wsX7_isWord) := goodIn_app (goodIn_of _ (by decide +kernel)) ggX7_head_X7_isWord
set_option maxRecDepth 20000 in
theorem ggX7_head_X7_asks : GoodIn wsX7_head wsX7_asks := goodIn_r _ [16, 17, 79, 80, 81, 82, 83, 84, 85, 86, 87, 88, 89, 90, 91, 92, 93, 94, 95, 96, 97, 98] (by decide +kernel) (by decide +kernel)
set_option maxRecDepth 20000 in
theorem gX7_head_X7_asks : GoodIn wsX7_head (wsV RX7 65 RX7 yX7_asks wsX7_asks) := goodIn_app (goodIn_of _ (by decide +kernel)) ggX7_head_X7_asks
set_option maxRecDepth 20000 in
theorem ggX7_head_X7_asksTree : GoodIn wsX7_head wsX7_asksTree := goodIn_r _ [21, 22, 17, 8, 9, 10, 5, 11, 12, 13, 14, 15, 16, 23, 24, 25, 26, 27, 28, 29, 30, 31, 32, 7, 33, 34, 35, 36, 1, 37, 38, 39, 40, 41, 42, 43, 44, 45, 46, 47, 48, 49, 50, 51, 52, 53, 54, 55, 56, 57, 58, 59, 60, 61, 62, 63, 64, 65, 66, 67, 68, 69, 70, 71, 72, 73, 79, 80, 81, 82, 83, 84, 85, 86, 87, 88, 89, 90, 91, 92, 93, 94, 95, 96, 97, 98] (by decide +kernel) (by decide +kernel)
set_option maxRecDepth 20000 in
theorem gX7_head_X7_asksTree : GoodIn wsX7_head (wsV RX7 148 RX7 yX7_asksTree wsX7_asksTree) := goodIn_app (goodIn_of _ (by decide +kernel)) ggX7_head_X7_asksTree
set_option maxRecDepth 20000 in
theorem ggX7_head_X7_finds : GoodIn wsX7_head wsX7_finds := goodIn_r _ [26, 27, 28, 29, 30, 31, 5, 32, 7, 33, 34, 35, 36, 1, 22, 37, 38, 39, 40, 41, 42, 43, 44, 45, 46, 47, 48, 49, 50, 51, 52, 53, 54, 55, 56, 57, 58, 59, 60, 61, 62, 63, 64, 65, 66, 67, 68, 69, 70, 71, 72, 73, 79, 80, 81, 82, 83, 84, 85, 86, 87, 88, 89, 90, 91, 92, 93, 94, 95, 96, 97, 98] (by decide +kernel) (by decide +kernel)
set_option maxRecDepth 20000 in
theorem gX7_head_X7_finds : GoodIn wsX7_head (wsV RX7 144 RX7 yX7_finds wsX7_finds) := goodIn_app (goodIn_of _ (by decide +kernel)) ggX7_head_X7_finds
set_option maxRecDepth 20000 in
theorem ggX7_head_X7_headIn : GoodIn wsX7_head wsX7_headIn := goodIn_r _ [77, 7, 78, 79, 80, 81, 82, 83, 84, 85, 86, 87, 88, 89, 90, 91, 92, 93, 94, 95, 96, 97, 98] (by decide +kernel) (by decide +kernel)
set_option maxRecDepth 20000 in
theorem gX7_head_X7_headIn : GoodIn wsX7_head (wsV RX7 156 RX7 yX7_headIn wsX7_headIn) := goodIn_app (goodIn_of _ (by decide +kernel)) ggX7_head_X7_headIn
theorem dX7_head_0 : decode cX7_head 0 = .ok (.aload_n 0, 1) := by decide +kernel
theorem dX7_head_1 : decode cX7_head 1 = .ok (.aload_n 0, 1) := by decide +kernel
theorem dX7_head_2 : decode cX7_head 2 = .ok (.iload_n 1, 1) := by decide +kernel
theorem dX7_head_3 : decode cX7_head 3 = .ok (.iload_n 3, 1) := by decide +kernel
theorem dX7_head_4 : decode cX7_head 4 = .ok (.invokevirtual 76, 3) := by decide +kernel
theorem dX7_head_7 : decode cX7_head 7 = .ok (.invokevirtual 65, 3) := by decide +kernel
theorem dX7_head_10 : decode cX7_head 10 = .ok (.ifCond .ne 5, 3) := by decide +kernel
theorem dX7_head_13 : decode cX7_head 13 = .ok (.iconst 0, 1) := by decide +kernel
theorem dX7_head_14 : decode cX7_head 14 = .ok (.ireturn, 1) := by decide +kernel
theorem dX7_head_15 : decode cX7_head 15 = .ok (.aload_n 0, 1) := by decide +kernel
theorem dX7_head_16 : decode cX7_head 16 = .ok (.iload_n 1, 1) := by decide +kernel
theorem dX7_head_17 : decode cX7_head 17 = .ok (.iload_n 2, 1) := by decide +kernel
theorem dX7_head_18 : decode cX7_head 18 = .ok (.invokevirtual 148, 3) := by decide +kernel
theorem dX7_head_21 : decode cX7_head 21 = .ok (.ifCond .eq 23, 3) := by decide +kernel
theorem dX7_head_24 : decode cX7_head 24 = .ok (.aload_n 0, 1) := by decide +kernel
theorem dX7_head_25 : decode cX7_head 25 = .ok (.iload_n 1, 1) := by decide +kernel
theorem dX7_head_26 : decode cX7_head 26 = .ok (.aload_n 0, 1) := by decide +kernel
theorem dX7_head_27 : decode cX7_head 27 = .ok (.getfield 42, 3) := by decide +kernel
theorem dX7_head_30 : decode cX7_head 30 = .ok (.aload_n 0, 1) := by decide +kernel
theorem dX7_head_31 : decode cX7_head 31 = .ok (.iload_n 1, 1) := by decide +kernel
theorem dX7_head_32 : decode cX7_head 32 = .ok (.iload_n 2, 1) := by decide +kernel
theorem dX7_head_33 : decode cX7_head 33 = .ok (.invokevirtual 144, 3) := by decide +kernel
theorem dX7_head_36 : decode cX7_head 36 = .ok (.laload, 1) := by decide +kernel
theorem dX7_head_37 : decode cX7_head 37 = .ok (.iload_n 3, 1) := by decide +kernel
theorem dX7_head_38 : decode cX7_head 38 = .ok (.invokevirtual 156, 3) := by decide +kernel
theorem dX7_head_41 : decode cX7_head 41 = .ok (.goto 4, 3) := by decide +kernel
theorem dX7_head_44 : decode cX7_head 44 = .ok (.iconst 0, 1) := by decide +kernel
theorem dX7_head_45 : decode cX7_head 45 = .ok (.ireturn, 1) := by decide +kernel
set_option maxRecDepth 20000 in
theorem ggX7_crossings_X7_asksTree : GoodIn wsX7_crossings wsX7_asksTree := goodIn_r _ [8, 9, 10, 11, 12, 13, 7, 14, 15, 16, 17, 18, 19, 20, 21, 22, 23, 24, 25, 26, 27, 28, 29, 2, 30, 31, 3, 32, 1, 33, 34, 35, 36, 37, 38, 39, 40, 41, 42, 43, 44, 45, 46, 47, 48, 49, 50, 51, 52, 53, 54, 55, 56, 57, 58, 59, 60, 61, 62, 63, 64, 65, 66, 67, 68, 69, 75, 76, 77, 78, 79, 80, 81, 82, 83, 84, 85, 86, 87, 88, 89, 90, 91, 92, 93, 94] (by decide +kernel) (by decide +kernel)
set_option maxRecDepth 20000 in
theorem gX7_crossings_X7_asksTree : GoodIn wsX7_crossings (wsV RX7 148 RX7 yX7_asksTree wsX7_asksTree) := goodIn_app (goodIn_of _ (by decide +kernel)) ggX7_crossings_X7_asksTree
set_option maxRecDepth 20000 in
theorem ggX7_crossings_X7_finds : GoodIn wsX7_crossings wsX7_finds := goodIn_r _ [23, 24, 25, 26, 27, 28, 7, 29, 2, 30, 31, 3, 32, 1, 9, 33, 34, 35, 36, 37, 38, 39, 40, 41, 42, 43, 44, 45, 46, 47, 48, 49, 50, 51, 52, 53, 54, 55, 56, 57, 58, 59, 60, 61, 62, 63, 64, 65, 66, 67, 68, 69, 75, 76, 77, 78, 79, 80, 81, 82, 83, 84, 85, 86, 87, 88, 89, 90, 91, 92, 93, 94] (by decide +kernel) (by decide +kernel)
set_option maxRecDepth 20000 in
theorem gX7_crossings_X7_finds : GoodIn wsX7_crossings (wsV RX7 144 RX7 yX7_finds wsX7_finds) := goodIn_app (goodIn_of _ (by decide +kernel)) ggX7_crossings_X7_finds
set_option maxRecDepth 20000 in
theorem ggX7_crossings_X7_headIn : GoodIn wsX7_crossings wsX7_headIn := goodIn_r _ [73, 2, 74, 75, 76, 77, 78, 79, 80, 81, 82, 83, 84, 85, 86, 87, 88, 89, 90, 91, 92, 93, 94] (by decide +kernel) (by decide +kernel)
set_option maxRecDepth 20000 in
theorem gX7_crossings_X7_headIn : GoodIn wsX7_crossings (wsV RX7 156 RX7 yX7_headIn wsX7_headIn) := goodIn_app (goodIn_of _ (by decide +kernel)) ggX7_crossings_X7_headIn
set_option maxRecDepth 20000 in
theorem ggX7_crossings_X7_doCross : GoodIn wsX7_crossings wsX7_doCross := goodIn_r _ [63, 3, 64, 65, 7, 66, 67, 68, 69, 75, 76, 77, 78, 79, 80, 81, 82, 83, 84, 85, 86, 87, 88, 89, 90, 91, 92, 93, 94] (by decide +kernel) (by decide +kernel)
set_option maxRecDepth 20000 in
theorem gX7_crossings_X7_doCross : GoodIn wsX7_crossings (wsV RX7 117 RX7 yX7_doCross wsX7_doCross) := goodIn_app (goodIn_of _ (by decide +kernel)) ggX7_crossings_X7_doCross
theorem dX7_crossings_0 : decode cX7_crossings 0 = .ok (.aload_n 0, 1) := by decide +kernel
theorem dX7_crossings_1 : decode cX7_crossings 1 = .ok (.iload_n 1, 1) := by decide +kernel
theorem dX7_crossings_2 : decode cX7_crossings 2 = .ok (.iconst 1, 1) := by decide +kernel
theorem dX7_crossings_3 : decode cX7_crossings 3 = .ok (.invokevirtual 148, 3) := by decide +kernel
theorem dX7_crossings_6 : decode cX7_crossings 6 = .ok (.ifCond .ne 5, 3) := by decide +kernel
theorem dX7_crossings_9 : decode cX7_crossings 9 = .ok (.iconst 0, 1) := by decide +kernel
theorem dX7_crossings_10 : decode cX7_crossings 10 = .ok (.ireturn, 1) := by decide +kernel
theorem dX7_crossings_11 : decode cX7_crossings 11 = .ok (.aload_n 0, 1) := by decide +kernel
theorem dX7_crossings_12 : decode cX7_crossings 12 = .ok (.getfield 42, 3) := by decide +kernel
theorem dX7_crossings_15 : decode cX7_crossings 15 = .ok (.aload_n 0, 1) := by decide +kernel
theorem dX7_crossings_16 : decode cX7_crossings 16 = .ok (.iload_n 1, 1) := by decide +kernel
theorem dX7_crossings_17 : decode cX7_crossings 17 = .ok (.iconst 1, 1) := by decide +kernel
theorem dX7_crossings_18 : decode cX7_crossings 18 = .ok (.invokevirtual 144, 3) := by decide +kernel
theorem dX7_crossings_21 : decode cX7_crossings 21 = .ok (.laload, 1) := by decide +kernel
theorem dX7_crossings_22 : decode cX7_crossings 22 = .ok (.lstore_n 2, 1) := by decide +kernel
theorem dX7_crossings_23 : decode cX7_crossings 23 = .ok (.iconst 1, 1) := by decide +kernel
theorem dX7_crossings_24 : decode cX7_crossings 24 = .ok (.istore 4, 2) := by decide +kernel
theorem dX7_crossings_26 : decode cX7_crossings 26 = .ok (.iload 4, 2) := by decide +kernel
theorem dX7_crossings_28 : decode cX7_crossings 28 = .ok (.aload_n 0, 1) := by decide +kernel
theorem dX7_crossings_29 : decode cX7_crossings 29 = .ok (.getfield 7, 3) := by decide +kernel
theorem dX7_crossings_32 : decode cX7_crossings 32 = .ok (.iload_n 1, 1) := by decide +kernel
theorem dX7_crossings_33 : decode cX7_crossings 33 = .ok (.iaload, 1) := by decide +kernel
theorem dX7_crossings_34 : decode cX7_crossings 34 = .ok (.if_icmp .gt 24, 3) := by decide +kernel
theorem dX7_crossings_37 : decode cX7_crossings 37 = .ok (.aload_n 0, 1) := by decide +kernel
theorem dX7_crossings_38 : decode cX7_crossings 38 = .ok (.getfield 52, 3) := by decide +kernel
theorem dX7_crossings_41 : decode cX7_crossings 41 = .ok (.iload 4, 2) := by decide +kernel
theorem dX7_crossings_43 : decode cX7_crossings 43 = .ok (.aload_n 0, 1) := by decide +kernel
theorem dX7_crossings_44 : decode cX7_crossings 44 = .ok (.iload_n 1, 1) := by decide +kernel
theorem dX7_crossings_45 : decode cX7_crossings 45 = .ok (.lload_n 2, 1) := by decide +kernel
theorem dX7_crossings_46 : decode cX7_crossings 46 = .ok (.iload 4, 2) := by decide +kernel
theorem dX7_crossings_48 : decode cX7_crossings 48 = .ok (.invokevirtual 156, 3) := by decide +kernel
theorem dX7_crossings_51 : decode cX7_crossings 51 = .ok (.iastore, 1) := by decide +kernel
theorem dX7_crossings_52 : decode cX7_crossings 52 = .ok (.iinc 4 1, 3) := by decide +kernel
theorem dX7_crossings_55 : decode cX7_crossings 55 = .ok (.goto (-29), 3) := by decide +kernel
theorem dX7_crossings_58 : decode cX7_crossings 58 = .ok (.iconst 0, 1) := by decide +kernel
theorem dX7_crossings_59 : decode cX7_crossings 59 = .ok (.istore 4, 2) := by decide +kernel
theorem dX7_crossings_61 : decode cX7_crossings 61 = .ok (.iconst 1, 1) := by decide +kernel
theorem dX7_crossings_62 : decode cX7_crossings 62 = .ok (.istore 5, 2) := by decide +kernel
theorem dX7_crossings_64 : decode cX7_crossings 64 = .ok (.iload 5, 2) := by decide +kernel
theorem dX7_crossings_66 : decode cX7_crossings 66 = .ok (.aload_n 0, 1) := by decide +kernel
theorem dX7_crossings_67 : decode cX7_crossings 67 = .ok (.getfield 7, 3) := by decide +kernel
theorem dX7_crossings_70 : decode cX7_crossings 70 = .ok (.iload_n 1, 1) := by decide +kernel
theorem dX7_crossings_71 : decode cX7_crossings 71 = .ok (.iaload, 1) := by decide +kernel
theorem dX7_crossings_72 : decode cX7_crossings 72 = .ok (.if_icmp .gt 46, 3) := by decide +kernel
theorem dX7_crossings_75 : decode cX7_crossings 75 = .ok (.iconst 1, 1) := by decide +kernel
theorem dX7_crossings_76 : decode cX7_crossings 76 = .ok (.istore 6, 2) := by decide +kernel
theorem dX7_crossings_78 : decode cX7_crossings 78 = .ok (.iload 6, 2) := by decide +kernel
theorem dX7_crossings_80 : decode cX7_crossings 80 = .ok (.iload 5, 2) := by decide +kernel
theorem dX7_crossings_82 : decode cX7_crossings 82 = .ok (.if_icmp .ge 30, 3) := by decide +kernel
theorem dX7_crossings_85 : decode cX7_crossings 85 = .ok (.iload 4, 2) := by decide +kernel
theorem dX7_crossings_87 : decode cX7_crossings 87 = .ok (.aload_n 0, 1) := by decide +kernel
theorem dX7_crossings_88 : decode cX7_crossings 88 = .ok (.iload 5, 2) := by decide +kernel
theorem dX7_crossings_90 : decode cX7_crossings 90 = .ok (.iload 6, 2) := by decide +kernel
theorem dX7_crossings_92 : decode cX7_crossings 92 = .ok (.invokevirtual 117, 3) := by decide +kernel
theorem dX7_crossings_95 : decode cX7_crossings 95 = .ok (.ifCond .eq 7, 3) := by decide +kernel
theorem dX7_crossings_98 : decode cX7_crossings 98 = .ok (.iconst 1, 1) := by decide +kernel
theorem dX7_crossings_99 : decode cX7_crossings 99 = .ok (.goto 4, 3) := by decide +kernel
theorem dX7_crossings_102 : decode cX7_crossings 102 = .ok (.iconst 0, 1) := by decide +kernel
theorem dX7_crossings_103 : decode cX7_crossings 103 = .ok (.iadd, 1) := by decide +kernel
theorem dX7_crossings_104 : decode cX7_crossings 104 = .ok (.istore 4, 2) := by decide +kernel
theorem dX7_crossings_106 : decode cX7_crossings 106 = .ok (.iinc 6 1, 3) := by decide +kernel
theorem dX7_crossings_109 : decode cX7_crossings 109 = .ok (.goto (-31), 3) := by decide +kernel
theorem dX7_crossings_112 : decode cX7_crossings 112 = .ok (.iinc 5 1, 3) := by decide +kernel
theorem dX7_crossings_115 : decode cX7_crossings 115 = .ok (.goto (-51), 3) := by decide +kernel
theorem dX7_crossings_118 : decode cX7_crossings 118 = .ok (.iload 4, 2) := by decide +kernel
theorem dX7_crossings_120 : decode cX7_crossings 120 = .ok (.ireturn, 1) := by decide +kernel
set_option maxRecDepth 20000 in
theorem ggX7_asksRank_X7_isSentence : GoodIn wsX7_asksRank wsX7_isSentence := goodIn_r _ [6, 7, 74, 75, 76, 77, 78, 79, 80, 81, 82, 83, 84, 85, 86, 87, 88, 89, 90, 91, 92, 93] (by decide +kernel) (by decide +kernel)
set_option maxRecDepth 20000 in
theorem gX7_asksRank_X7_isSentence : GoodIn wsX7_asksRank (wsV RX7 61 RX7 yX7_isSentence wsX7_isSentence) := goodIn_app (goodIn_of _ (by decide +kernel)) ggX7_asksRank_X7_isSentence
set_option maxRecDepth 20000 in
theorem ggX7_asksRank_X7_finds : GoodIn wsX7_asksRank wsX7_finds := goodIn_r _ [11, 12, 13, 14, 15, 16, 5, 17, 18, 19, 20, 21, 22, 23, 1, 24, 25, 26, 27, 28, 29, 30, 31, 32, 33, 34, 35, 36, 37, 38, 39, 40, 41, 42, 43, 44, 45, 46, 47, 48, 49, 50, 51, 52, 53, 54, 55, 56, 57, 58, 59, 60, 74, 75, 76, 77, 78, 79, 80, 81, 82, 83, 84, 85, 86, 87, 88, 89, 90, 91, 92, 93] (by decide +kernel) (by decide +kernel)
set_option maxRecDepth 20000 in
theorem gX7_asksRank_X7_finds : GoodIn wsX7_asksRank (wsV RX7 144 RX7 yX7_finds wsX7_finds) := goodIn_app (goodIn_of _ (by decide +kernel)) ggX7_asksRank_X7_finds
set_option maxRecDepth 20000 in
theorem ggX7_asksRank_X7_lists : GoodIn wsX7_asksRank wsX7_lists := goodIn_r _ [64, 13, 20, 22, 14, 15, 16, 5, 17, 18, 19, 21, 23, 1, 12, 24, 25, 26, 27, 28, 29, 30, 31, 32, 33, 34, 35, 36, 37, 38, 39, 40, 41, 42, 43, 44, 45, 46, 47, 48, 49, 50, 51, 52, 53, 54, 55, 56, 57, 58, 59, 60, 65, 66, 67, 68, 74, 75, 76, 77, 78, 79, 80, 81, 82, 83, 84, 85, 86, 87, 88, 89, 90, 91, 92, 93] (by decide +kernel) (by decide +kernel)
set_option maxRecDepth 20000 in
theorem gX7_asksRank_X7_lists : GoodIn wsX7_asksRank (wsV RX7 160 RX7 yX7_lists wsX7_lists) := goodIn_app (goodIn_of _ (by decide +kernel)) ggX7_asksRank_X7_lists
set_option maxRecDepth 20000 in
theorem ggX7_asksRank_X7_asks : GoodIn wsX7_asksRank wsX7_asks := goodIn_r _ [72, 73, 74, 75, 76, 77, 78, 79, 80, 81, 82, 83, 84, 85, 86, 87, 88, 89, 90, 91, 92, 93] (by decide +kernel) (by decide +kernel)
set_option maxRecDepth 20000 in
theorem gX7_asksRank_X7_asks : GoodIn wsX7_asksRank (wsV RX7 65 RX7 yX7_asks wsX7_asks) := goodIn_app (goodIn_of _ (by decide +kernel)) ggX7_asksRank_X7_asks
theorem dX7_asksRank_0 : decode cX7_asksRank 0 = .ok (.aload_n 0, 1) := by decide +kernel
theorem dX7_asksRank_1 : decode cX7_asksRank 1 = .ok (.iload_n 1, 1) := by decide +kernel
theorem dX7_asksRank_2 : decode cX7_asksRank 2 = .ok (.invokevirtual 61, 3) := by decide +kernel
theorem dX7_asksRank_5 : decode cX7_asksRank 5 = .ok (.ifCond .eq 31, 3) := by decide +kernel
theorem dX7_asksRank_8 : decode cX7_asksRank 8 = .ok (.iload 4, 2) := by decide +kernel
theorem dX7_asksRank_10 : decode cX7_asksRank 10 = .ok (.ifCond .eq 26, 3) := by decide +kernel
theorem dX7_asksRank_13 : decode cX7_asksRank 13 = .ok (.iload_n 3, 1) := by decide +kernel
theorem dX7_asksRank_14 : decode cX7_asksRank 14 = .ok (.ifCond .lt 22, 3) := by decide +kernel
theorem dX7_asksRank_17 : decode cX7_asksRank 17 = .ok (.iload_n 3, 1) := by decide +kernel
theorem dX7_asksRank_18 : decode cX7_asksRank 18 = .ok (.aload_n 0, 1) := by decide +kernel
theorem dX7_asksRank_19 : decode cX7_asksRank 19 = .ok (.getfield 45, 3) := by decide +kernel
theorem dX7_asksRank_22 : decode cX7_asksRank 22 = .ok (.aload_n 0, 1) := by decide +kernel
theorem dX7_asksRank_23 : decode cX7_asksRank 23 = .ok (.iload_n 1, 1) := by decide +kernel
theorem dX7_asksRank_24 : decode cX7_asksRank 24 = .ok (.iload_n 2, 1) := by decide +kernel
theorem dX7_asksRank_25 : decode cX7_asksRank 25 = .ok (.invokevirtual 144, 3) := by decide +kernel
theorem dX7_asksRank_28 : decode cX7_asksRank 28 = .ok (.iaload, 1) := by decide +kernel
theorem dX7_asksRank_29 : decode cX7_asksRank 29 = .ok (.if_icmp .ge 7, 3) := by decide +kernel
theorem dX7_asksRank_32 : decode cX7_asksRank 32 = .ok (.iconst 1, 1) := by decide +kernel
theorem dX7_asksRank_33 : decode cX7_asksRank 33 = .ok (.goto 4, 3) := by decide +kernel
theorem dX7_asksRank_36 : decode cX7_asksRank 36 = .ok (.iconst 0, 1) := by decide +kernel
theorem dX7_asksRank_37 : decode cX7_asksRank 37 = .ok (.istore 5, 2) := by decide +kernel
theorem dX7_asksRank_39 : decode cX7_asksRank 39 = .ok (.iload 5, 2) := by decide +kernel
theorem dX7_asksRank_41 : decode cX7_asksRank 41 = .ok (.ifCond .eq 9, 3) := by decide +kernel
theorem dX7_asksRank_44 : decode cX7_asksRank 44 = .ok (.aload_n 0, 1) := by decide +kernel
theorem dX7_asksRank_45 : decode cX7_asksRank 45 = .ok (.iload_n 1, 1) := by decide +kernel
theorem dX7_asksRank_46 : decode cX7_asksRank 46 = .ok (.iload_n 2, 1) := by decide +kernel
theorem dX7_asksRank_47 : decode cX7_asksRank 47 = .ok (.invokevirtual 160, 3) := by decide +kernel
theorem dX7_asksRank_50 : decode cX7_asksRank 50 = .ok (.aload_n 0, 1) := by decide +kernel
theorem dX7_asksRank_51 : decode cX7_asksRank 51 = .ok (.iload 5, 2) := by decide +kernel
theorem dX7_asksRank_53 : decode cX7_asksRank 53 = .ok (.invokevirtual 65, 3) := by decide +kernel
theorem dX7_asksRank_56 : decode cX7_asksRank 56 = .ok (.ireturn, 1) := by decide +kernel
set_option maxRecDepth 20000 in
theorem ggX7_ranked_X7_asksRank : GoodIn wsX7_ranked wsX7_asksRank := goodIn_r _ [6, 7, 8, 9, 10, 5, 11, 12, 13, 14, 15, 16, 17, 18, 19, 20, 21, 22, 23, 24, 25, 26, 1, 27, 28, 29, 30, 31, 32, 33, 34, 35, 36, 37, 38, 39, 40, 41, 42, 43, 44, 45, 46, 47, 48, 49, 50, 51, 52, 53, 54, 55, 56, 57, 58, 59, 60, 61, 62, 63, 64, 65, 66, 67, 68, 69, 70, 71, 72, 73, 74, 75, 76, 77, 82, 83, 84, 85, 86, 87, 88, 89, 90, 91, 92, 93, 94, 95, 96, 97, 98, 99, 100, 101] (by decide +kernel) (by decide +kernel)
set_option maxRecDepth 20000 in
theorem gX7_ranked_X7_asksRank : GoodIn wsX7_ranked (wsV RX7 164 RX7 yX7_asksRank wsX7_asksRank) := goodIn_app (goodIn_of _ (by decide +kernel)) ggX7_ranked_X7_asksRank
set_option maxRecDepth 20000 in
theorem ggX7_ranked_X7_scoreIn : GoodIn wsX7_ranked wsX7_scoreIn := goodIn_r _ [81, 32] (by decide +kernel) (by decide +kernel)
set_option maxRecDepth 20000 in
theorem gX7_ranked_X7_scoreIn : GoodIn wsX7_ranked (wsV RX7 152 RX7 yX7_scoreIn wsX7_scoreIn) := goodIn_app (goodIn_of _ (by decide +kernel)) ggX7_ranked_X7_scoreIn
theorem dX7_ranked_0 : decode cX7_ranked 0 = .ok (.aload_n 0, 1) := by decide +kernel
theorem dX7_ranked_1 : decode cX7_ranked 1 = .ok (.iload_n 1, 1) := by decide +kernel
theorem dX7_ranked_2 : decode cX7_ranked 2 = .ok (.iload_n 2, 1) := by decide +kernel
theorem dX7_ranked_3 : decode cX7_ranked 3 = .ok (.iload_n 3, 1) := by decide +kernel
theorem dX7_ranked_4 : decode cX7_ranked 4 = .ok (.iconst 1, 1) := by decide +kernel
theorem dX7_ranked_5 : decode cX7_ranked 5 = .ok (.invokevirtual 164, 3) := by decide +kernel
theorem dX7_ranked_8 : decode cX7_ranked 8 = .ok (.ifCond .eq 16, 3) := by decide +kernel
theorem dX7_ranked_11 : decode cX7_ranked 11 = .ok (.aload_n 0, 1) := by decide +kernel
theorem dX7_ranked_12 : decode cX7_ranked 12 = .ok (.aload_n 0, 1) := by decide +kernel
theorem dX7_ranked_13 : decode cX7_ranked 13 = .ok (.getfield 35, 3) := by decide +kernel
theorem dX7_ranked_16 : decode cX7_ranked 16 = .ok (.iload_n 3, 1) := by decide +kernel
theorem dX7_ranked_17 : decode cX7_ranked 17 = .ok (.laload, 1) := by decide +kernel
theorem dX7_ranked_18 : decode cX7_ranked 18 = .ok (.invokevirtual 152, 3) := by decide +kernel
theorem dX7_ranked_21 : decode cX7_ranked 21 = .ok (.goto 4, 3) := by decide +kernel
theorem dX7_ranked_24 : decode cX7_ranked 24 = .ok (.iconst 0, 1) := by decide +kernel
theorem dX7_ranked_25 : decode cX7_ranked 25 = .ok (.ireturn, 1) := by decide +kernel
set_option maxRecDepth 20000 in
theorem ggX7_rankedHead_X7_isWord : GoodIn wsX7_rankedHead wsX7_isWord := goodIn_r _ [6, 7, 8, 9, 10, 5, 11, 12, 87, 88, 89, 90, 91, 92, 93, 94, 95, 96, 97, 98, 99, 100, 101, 102, 103, 104, 105, 106] (by decide +kernel) (by decide +kernel)
set_option maxRecDepth 20000 in
theorem gX7_rankedHead_X7_isWord : GoodIn wsX7_rankedHead (wsV RX7 76 RX7 yX7_isWord wsX7_isWord) := goodIn_app (goodIn_of _ (by decide +kernel)) ggX7_rankedHead_X7_isWord
set_option maxRecDepth 20000 in
theorem ggX7_rankedHead_X7_asksRank : GoodIn wsX7_rankedHead wsX7_asksRank := goodIn_r _ [16, 17, 8, 9, 10, 5, 11, 12, 18, 19, 20, 21, 22, 23, 24, 25, 26, 27, 7, 28, 29, 30, 1, 31, 32, 33, 34, 35, 36, 37, 38, 39, 40, 41, 42, 43, 44, 45, 46, 47, 48, 49, 50, 51, 52, 53, 54, 55, 56, 57, 58, 59, 60, 61, 62, 63, 64, 65, 66, 67, 68, 69, 70, 71, 72, 73, 74, 75, 76, 77, 78, 79, 80, 81, 87, 88, 89, 90, 91, 92, 93, 94, 95, 96, 97, 98, 99, 100, 101, 102, 103, 104, 105, 106] (by decide +kernel) (by decide +kernel)
set_option maxRecDepth 20000 in
theorem gX7_rankedHead_X7_asksRank : GoodIn wsX7_rankedHead (wsV RX7 164 RX7 yX7_asksRank wsX7_asksRank) := goodIn_app (goodIn_of _ (by decide +kernel)) ggX7_rankedHead_X7_asksRank
set_option maxRecDepth 20000 in
theorem ggX7_rankedHead_X7_headIn : GoodIn wsX7_rankedHead wsX7_headIn := goodIn_r _ [85, 7, 86, 87, 88, 89, 90, 91, 92, 93, 94, 95, 96, 97, 98, 99, 100, 101, 102, 103, 104, 105, 106] (by decide +kernel) (by decide +kernel)
set_option maxRecDepth 20000 in
theorem gX7_rankedHead_X7_headIn : GoodIn wsX7_rankedHead (wsV RX7 156 RX7 yX7_headIn wsX7_headIn) := goodIn_app (goodIn_of _ (by decide +kernel)) ggX7_rankedHead_X7_headIn
theorem dX7_rankedHead_0 : decode cX7_rankedHead 0 = .ok (.aload_n 0, 1) := by decide +kernel
theorem dX7_rankedHead_1 : decode cX7_rankedHead 1 = .ok (.iload_n 1, 1) := by decide +kernel
theorem dX7_rankedHead_2 : decode cX7_rankedHead 2 = .ok (.iload_n 2, 1) := by decide +kernel
theorem dX7_rankedHead_3 : decode cX7_rankedHead 3 = .ok (.iload_n 3, 1) := by decide +kernel
theorem dX7_rankedHead_4 : decode cX7_rankedHead 4 = .ok (.aload_n 0, 1) := by decide +kernel
theorem dX7_rankedHead_5 : decode cX7_rankedHead 5 = .ok (.iload_n 1, 1) := by decide +kernel
theorem dX7_rankedHead_6 : decode cX7_rankedHead 6 = .ok (.iload 4, 2) := by decide +kernel
theorem dX7_rankedHead_8 : decode cX7_rankedHead 8 = .ok (.invokevirtual 76, 3) := by decide +kernel
theorem dX7_rankedHead_11 : decode cX7_rankedHead 11 = .ok (.invokevirtual 164, 3) := by decide +kernel
theorem dX7_rankedHead_14 : decode cX7_rankedHead 14 = .ok (.ifCond .eq 19, 3) := by decide +kernel
theorem dX7_rankedHead_17 : decode cX7_rankedHead 17 = .ok (.aload_n 0, 1) := by decide +kernel
theorem dX7_rankedHead_18 : decode cX7_rankedHead 18 = .ok (.iload_n 1, 1) := by decide +kernel
theorem dX7_rankedHead_19 : decode cX7_rankedHead 19 = .ok (.aload_n 0, 1) := by decide +kernel
theorem dX7_rankedHead_20 : decode cX7_rankedHead 20 = .ok (.getfield 35, 3) := by decide +kernel
theorem dX7_rankedHead_23 : decode cX7_rankedHead 23 = .ok (.iload_n 3, 1) := by decide +kernel
theorem dX7_rankedHead_24 : decode cX7_rankedHead 24 = .ok (.laload, 1) := by decide +kernel
theorem dX7_rankedHead_25 : decode cX7_rankedHead 25 = .ok (.iload 4, 2) := by decide +kernel
theorem dX7_rankedHead_27 : decode cX7_rankedHead 27 = .ok (.invokevirtual 156, 3) := by decide +kernel
theorem dX7_rankedHead_30 : decode cX7_rankedHead 30 = .ok (.goto 4, 3) := by decide +kernel
theorem dX7_rankedHead_33 : decode cX7_rankedHead 33 = .ok (.iconst 0, 1) := by decide +kernel
theorem dX7_rankedHead_34 : decode cX7_rankedHead 34 = .ok (.ireturn, 1) := by decide +kernel
set_option maxRecDepth 20000 in
theorem ggX7_correct_X7_asksArc : GoodIn wsX7_correct wsX7_asksArc := goodIn_r _ [6, 7, 8, 9, 10, 5, 11, 12, 13, 14, 15, 16, 17, 18, 19, 20, 21, 22, 23, 24, 25, 26, 27, 28, 29, 30, 31, 32, 33, 34, 35, 36, 37, 38, 39, 40, 41] (by decide +kernel) (by decide +kernel)
set_option maxRecDepth 20000 in
theorem gX7_correct_X7_asksArc : GoodIn wsX7_correct (wsV RX7 101 RX7 yX7_asksArc wsX7_asksArc) := goodIn_app (goodIn_of _ (by decide +kernel)) ggX7_correct_X7_asksArc
theorem dX7_correct_0 : decode cX7_correct 0 = .ok (.aload_n 0, 1) := by decide +kernel
theorem dX7_correct_1 : decode cX7_correct 1 = .ok (.iload_n 1, 1) := by decide +kernel
theorem dX7_correct_2 : decode cX7_correct 2 = .ok (.iload_n 2, 1) := by decide +kernel
theorem dX7_correct_3 : decode cX7_correct 3 = .ok (.iload_n 3, 1) := by decide +kernel
theorem dX7_correct_4 : decode cX7_correct 4 = .ok (.invokevirtual 101, 3) := by decide +kernel
theorem dX7_correct_7 : decode cX7_correct 7 = .ok (.ifCond .ne 5, 3) := by decide +kernel
theorem dX7_correct_10 : decode cX7_correct 10 = .ok (.iconst 0, 1) := by decide +kernel
theorem dX7_correct_11 : decode cX7_correct 11 = .ok (.ireturn, 1) := by decide +kernel
theorem dX7_correct_12 : decode cX7_correct 12 = .ok (.aload_n 0, 1) := by decide +kernel
theorem dX7_correct_13 : decode cX7_correct 13 = .ok (.getfield 19, 3) := by decide +kernel
theorem dX7_correct_16 : decode cX7_correct 16 = .ok (.bipush 7, 2) := by decide +kernel
theorem dX7_correct_18 : decode cX7_correct 18 = .ok (.iload_n 1, 1) := by decide +kernel
theorem dX7_correct_19 : decode cX7_correct 19 = .ok (.imul, 1) := by decide +kernel
theorem dX7_correct_20 : decode cX7_correct 20 = .ok (.iload_n 3, 1) := by decide +kernel
theorem dX7_correct_21 : decode cX7_correct 21 = .ok (.iadd, 1) := by decide +kernel
theorem dX7_correct_22 : decode cX7_correct 22 = .ok (.iaload, 1) := by decide +kernel
theorem dX7_correct_23 : decode cX7_correct 23 = .ok (.istore 4, 2) := by decide +kernel
theorem dX7_correct_25 : decode cX7_correct 25 = .ok (.aload_n 0, 1) := by decide +kernel
theorem dX7_correct_26 : decode cX7_correct 26 = .ok (.getfield 19, 3) := by decide +kernel
theorem dX7_correct_29 : decode cX7_correct 29 = .ok (.bipush 7, 2) := by decide +kernel
theorem dX7_correct_31 : decode cX7_correct 31 = .ok (.iload_n 1, 1) := by decide +kernel
theorem dX7_correct_32 : decode cX7_correct 32 = .ok (.imul, 1) := by decide +kernel
theorem dX7_correct_33 : decode cX7_correct 33 = .ok (.iload_n 3, 1) := by decide +kernel
theorem dX7_correct_34 : decode cX7_correct 34 = .ok (.iadd, 1) := by decide +kernel
theorem dX7_correct_35 : decode cX7_correct 35 = .ok (.iload_n 2, 1) := by decide +kernel
theorem dX7_correct_36 : decode cX7_correct 36 = .ok (.iastore, 1) := by decide +kernel
theorem dX7_correct_37 : decode cX7_correct 37 = .ok (.iload 4, 2) := by decide +kernel
theorem dX7_correct_39 : decode cX7_correct 39 = .ok (.ireturn, 1) := by decide +kernel
set_option maxRecDepth 20000 in
theorem ggX7_matched_X7_asksTree : GoodIn wsX7_matched wsX7_asksTree := goodIn_r _ [8, 9, 10, 11, 12, 13, 7, 14, 15, 16, 17, 18, 19, 20, 21, 22, 23, 24, 25, 26, 27, 28, 29, 2, 30, 31, 32, 33, 1, 34, 35, 36, 37, 38, 39, 40, 41, 42, 43, 44, 45, 46, 47, 48, 49, 50, 51, 52, 53, 54, 55, 56, 57, 58, 59, 60, 61, 62, 63, 64, 65, 66, 67, 68, 69, 70, 76, 77, 78, 79, 80, 81, 82, 83, 84, 85, 86, 87, 88, 89, 90, 91, 92, 93, 94, 95] (by decide +kernel) (by decide +kernel)
set_option maxRecDepth 20000 in
theorem gX7_matched_X7_asksTree : GoodIn wsX7_matched (wsV RX7 148 RX7 yX7_asksTree wsX7_asksTree) := goodIn_app (goodIn_of _ (by decide +kernel)) ggX7_matched_X7_asksTree
set_option maxRecDepth 20000 in
theorem ggX7_matched_X7_finds : GoodIn wsX7_matched wsX7_finds := goodIn_r _ [23, 24, 25, 26, 27, 28, 7, 29, 2, 30, 31, 32, 33, 1, 9, 34, 35, 36, 37, 38, 39, 40, 41, 42, 43, 44, 45, 46, 47, 48, 49, 50, 51, 52, 53, 54, 55, 56, 57, 58, 59, 60, 61, 62, 63, 64, 65, 66, 67, 68, 69, 70, 76, 77, 78, 79, 80, 81, 82, 83, 84, 85, 86, 87, 88, 89, 90, 91, 92, 93, 94, 95] (by decide +kernel) (by decide +kernel)
set_option maxRecDepth 20000 in
theorem gX7_matched_X7_finds : GoodIn wsX7_matched (wsV RX7 144 RX7 yX7_finds wsX7_finds) := goodIn_app (goodIn_of _ (by decide +kernel)) ggX7_matched_X7_finds
set_option maxRecDepth 20000 in
theorem ggX7_matched_X7_headIn : GoodIn wsX7_matched wsX7_headIn := goodIn_r _ [74, 2, 75, 76, 77, 78, 79, 80, 81, 82, 83, 84, 85, 86, 87, 88, 89, 90, 91, 92, 93, 94, 95] (by decide +kernel) (by decide +kernel)
set_option maxRecDepth 20000 in
theorem gX7_matched_X7_headIn : GoodIn wsX7_matched (wsV RX7 156 RX7 yX7_headIn wsX7_headIn) := goodIn_app (goodIn_of _ (by decide +kernel)) ggX7_matched_X7_headIn
theorem dX7_matched_0 : decode cX7_matched 0 = .ok (.aload_n 0, 1) := by decide +kernel
theorem dX7_matched_1 : decode cX7_matched 1 = .ok (.iload_n 1, 1) := by decide +kernel
theorem dX7_matched_2 : decode cX7_matched 2 = .ok (.iconst 1, 1) := by decide +kernel
theorem dX7_matched_3 : decode cX7_matched 3 = .ok (.invokevirtual 148, 3) := by decide +kernel
theorem dX7_matched_6 : decode cX7_matched 6 = .ok (.ifCond .ne 5, 3) := by decide +kernel
theorem dX7_matched_9 : decode cX7_matched 9 = .ok (.iconst 0, 1) := by decide +kernel
theorem dX7_matched_10 : decode cX7_matched 10 = .ok (.ireturn, 1) := by decide +kernel
theorem dX7_matched_11 : decode cX7_matched 11 = .ok (.aload_n 0, 1) := by decide +kernel
theorem dX7_matched_12 : decode cX7_matched 12 = .ok (.getfield 42, 3) := by decide +kernel
theorem dX7_matched_15 : decode cX7_matched 15 = .ok (.aload_n 0, 1) := by decide +kernel
theorem dX7_matched_16 : decode cX7_matched 16 = .ok (.iload_n 1, 1) := by decide +kernel
theorem dX7_matched_17 : decode cX7_matched 17 = .ok (.iconst 1, 1) := by decide +kernel
theorem dX7_matched_18 : decode cX7_matched 18 = .ok (.invokevirtual 144, 3) := by decide +kernel
theorem dX7_matched_21 : decode cX7_matched 21 = .ok (.laload, 1) := by decide +kernel
theorem dX7_matched_22 : decode cX7_matched 22 = .ok (.lstore_n 2, 1) := by decide +kernel
theorem dX7_matched_23 : decode cX7_matched 23 = .ok (.iconst 0, 1) := by decide +kernel
theorem dX7_matched_24 : decode cX7_matched 24 = .ok (.istore 4, 2) := by decide +kernel
theorem dX7_matched_26 : decode cX7_matched 26 = .ok (.iconst 1, 1) := by decide +kernel
theorem dX7_matched_27 : decode cX7_matched 27 = .ok (.istore 5, 2) := by decide +kernel
theorem dX7_matched_29 : decode cX7_matched 29 = .ok (.iload 5, 2) := by decide +kernel
theorem dX7_matched_31 : decode cX7_matched 31 = .ok (.aload_n 0, 1) := by decide +kernel
theorem dX7_matched_32 : decode cX7_matched 32 = .ok (.getfield 7, 3) := by decide +kernel
theorem dX7_matched_35 : decode cX7_matched 35 = .ok (.iload_n 1, 1) := by decide +kernel
theorem dX7_matched_36 : decode cX7_matched 36 = .ok (.iaload, 1) := by decide +kernel
theorem dX7_matched_37 : decode cX7_matched 37 = .ok (.if_icmp .gt 42, 3) := by decide +kernel
theorem dX7_matched_40 : decode cX7_matched 40 = .ok (.iload 4, 2) := by decide +kernel
theorem dX7_matched_42 : decode cX7_matched 42 = .ok (.aload_n 0, 1) := by decide +kernel
theorem dX7_matched_43 : decode cX7_matched 43 = .ok (.getfield 19, 3) := by decide +kernel
theorem dX7_matched_46 : decode cX7_matched 46 = .ok (.bipush 7, 2) := by decide +kernel
theorem dX7_matched_48 : decode cX7_matched 48 = .ok (.iload_n 1, 1) := by decide +kernel
theorem dX7_matched_49 : decode cX7_matched 49 = .ok (.imul, 1) := by decide +kernel
theorem dX7_matched_50 : decode cX7_matched 50 = .ok (.iload 5, 2) := by decide +kernel
theorem dX7_matched_52 : decode cX7_matched 52 = .ok (.iadd, 1) := by decide +kernel
theorem dX7_matched_53 : decode cX7_matched 53 = .ok (.iaload, 1) := by decide +kernel
theorem dX7_matched_54 : decode cX7_matched 54 = .ok (.aload_n 0, 1) := by decide +kernel
theorem dX7_matched_55 : decode cX7_matched 55 = .ok (.iload_n 1, 1) := by decide +kernel
theorem dX7_matched_56 : decode cX7_matched 56 = .ok (.lload_n 2, 1) := by decide +kernel
theorem dX7_matched_57 : decode cX7_matched 57 = .ok (.iload 5, 2) := by decide +kernel
theorem dX7_matched_59 : decode cX7_matched 59 = .ok (.invokevirtual 156, 3) := by decide +kernel
theorem dX7_matched_62 : decode cX7_matched 62 = .ok (.if_icmp .ne 7, 3) := by decide +kernel
theorem dX7_matched_65 : decode cX7_matched 65 = .ok (.iconst 1, 1) := by decide +kernel
theorem dX7_matched_66 : decode cX7_matched 66 = .ok (.goto 4, 3) := by decide +kernel
theorem dX7_matched_69 : decode cX7_matched 69 = .ok (.iconst 0, 1) := by decide +kernel
theorem dX7_matched_70 : decode cX7_matched 70 = .ok (.iadd, 1) := by decide +kernel
theorem dX7_matched_71 : decode cX7_matched 71 = .ok (.istore 4, 2) := by decide +kernel
theorem dX7_matched_73 : decode cX7_matched 73 = .ok (.iinc 5 1, 3) := by decide +kernel
theorem dX7_matched_76 : decode cX7_matched 76 = .ok (.goto (-47), 3) := by decide +kernel
theorem dX7_matched_79 : decode cX7_matched 79 = .ok (.iload 4, 2) := by decide +kernel
theorem dX7_matched_81 : decode cX7_matched 81 = .ok (.ireturn, 1) := by decide +kernel
theorem dX7_isRight_0 : decode cX7_isRight 0 = .ok (.iconst 1, 1) := by decide +kernel
theorem dX7_isRight_1 : decode cX7_isRight 1 = .ok (.istore_n 2, 1) := by decide +kernel
theorem dX7_isRight_2 : decode cX7_isRight 2 = .ok (.iconst 1, 1) := by decide +kernel
theorem dX7_isRight_3 : decode cX7_isRight 3 = .ok (.istore_n 3, 1) := by decide +kernel
theorem dX7_isRight_4 : decode cX7_isRight 4 = .ok (.iload_n 3, 1) := by decide +kernel
theorem dX7_isRight_5 : decode cX7_isRight 5 = .ok (.aload_n 0, 1) := by decide +kernel
theorem dX7_isRight_6 : decode cX7_isRight 6 = .ok (.getfield 7, 3) := by decide +kernel
theorem dX7_isRight_9 : decode cX7_isRight 9 = .ok (.iload_n 1, 1) := by decide +kernel
theorem dX7_isRight_10 : decode cX7_isRight 10 = .ok (.iaload, 1) := by decide +kernel
theorem dX7_isRight_11 : decode cX7_isRight 11 = .ok (.if_icmp .gt 62, 3) := by decide +kernel
theorem dX7_isRight_14 : decode cX7_isRight 14 = .ok (.iload_n 3, 1) := by decide +kernel
theorem dX7_isRight_15 : decode cX7_isRight 15 = .ok (.istore 4, 2) := by decide +kernel
theorem dX7_isRight_17 : decode cX7_isRight 17 = .ok (.iconst 0, 1) := by decide +kernel
theorem dX7_isRight_18 : decode cX7_isRight 18 = .ok (.istore 5, 2) := by decide +kernel
theorem dX7_isRight_20 : decode cX7_isRight 20 = .ok (.iload 5, 2) := by decide +kernel
theorem dX7_isRight_22 : decode cX7_isRight 22 = .ok (.bipush 6, 2) := by decide +kernel
theorem dX7_isRight_24 : decode cX7_isRight 24 = .ok (.if_icmp .ge 28, 3) := by decide +kernel
theorem dX7_isRight_27 : decode cX7_isRight 27 = .ok (.iload 4, 2) := by decide +kernel
theorem dX7_isRight_29 : decode cX7_isRight 29 = .ok (.ifCond .le 23, 3) := by decide +kernel
theorem dX7_isRight_32 : decode cX7_isRight 32 = .ok (.aload_n 0, 1) := by decide +kernel
theorem dX7_isRight_33 : decode cX7_isRight 33 = .ok (.getfield 19, 3) := by decide +kernel
theorem dX7_isRight_36 : decode cX7_isRight 36 = .ok (.bipush 7, 2) := by decide +kernel
theorem dX7_isRight_38 : decode cX7_isRight 38 = .ok (.iload_n 1, 1) := by decide +kernel
theorem dX7_isRight_39 : decode cX7_isRight 39 = .ok (.imul, 1) := by decide +kernel
theorem dX7_isRight_40 : decode cX7_isRight 40 = .ok (.iload 4, 2) := by decide +kernel
theorem dX7_isRight_42 : decode cX7_isRight 42 = .ok (.iadd, 1) := by decide +kernel
theorem dX7_isRight_43 : decode cX7_isRight 43 = .ok (.iaload, 1) := by decide +kernel
theorem dX7_isRight_44 : decode cX7_isRight 44 = .ok (.istore 4, 2) := by decide +kernel
theorem dX7_isRight_46 : decode cX7_isRight 46 = .ok (.iinc 5 1, 3) := by decide +kernel
theorem dX7_isRight_49 : decode cX7_isRight 49 = .ok (.goto (-29), 3) := by decide +kernel
theorem dX7_isRight_52 : decode cX7_isRight 52 = .ok (.iload_n 2, 1) := by decide +kernel
theorem dX7_isRight_53 : decode cX7_isRight 53 = .ok (.ifCond .eq 12, 3) := by decide +kernel
theorem dX7_isRight_56 : decode cX7_isRight 56 = .ok (.iload 4, 2) := by decide +kernel
theorem dX7_isRight_58 : decode cX7_isRight 58 = .ok (.ifCond .ne 7, 3) := by decide +kernel
theorem dX7_isRight_61 : decode cX7_isRight 61 = .ok (.iconst 1, 1) := by decide +kernel
theorem dX7_isRight_62 : decode cX7_isRight 62 = .ok (.goto 4, 3) := by decide +kernel
theorem dX7_isRight_65 : decode cX7_isRight 65 = .ok (.iconst 0, 1) := by decide +kernel
theorem dX7_isRight_66 : decode cX7_isRight 66 = .ok (.istore_n 2, 1) := by decide +kernel
theorem dX7_isRight_67 : decode cX7_isRight 67 = .ok (.iinc 3 1, 3) := by decide +kernel
theorem dX7_isRight_70 : decode cX7_isRight 70 = .ok (.goto (-66), 3) := by decide +kernel
theorem dX7_isRight_73 : decode cX7_isRight 73 = .ok (.iload_n 2, 1) := by decide +kernel
theorem dX7_isRight_74 : decode cX7_isRight 74 = .ok (.ireturn, 1) := by decide +kernel
set_option maxRecDepth 20000 in
theorem ggX7_adds_X7_byKind : GoodIn wsX7_adds wsX7_byKind := goodIn_r _ [6, 7, 11, 12, 13, 14, 15, 16, 17, 18, 19, 20, 21, 22, 23, 24, 25, 26, 27, 28, 29, 30] (by decide +kernel) (by decide +kernel)
set_option maxRecDepth 20000 in
theorem gX7_adds_X7_byKind : GoodIn wsX7_adds (wsV RX7 90 RX7 yX7_byKind wsX7_byKind) := goodIn_app (goodIn_of _ (by decide +kernel)) ggX7_adds_X7_byKind
set_option maxRecDepth 20000 in
theorem ggX7_adds_X7_byDistance : GoodIn wsX7_adds wsX7_byDistance := goodIn_r _ [10] (by decide +kernel) (by decide +kernel)
set_option maxRecDepth 20000 in
theorem gX7_adds_X7_byDistance : GoodIn wsX7_adds (va_wsS RX7 94 yX7_byDistance wsX7_byDistance) := goodIn_app (goodIn_of _ (by decide +kernel)) ggX7_adds_X7_byDistance
theorem dX7_adds_0 : decode cX7_adds 0 = .ok (.aload_n 0, 1) := by decide +kernel
theorem dX7_adds_1 : decode cX7_adds 1 = .ok (.getfield 22, 3) := by decide +kernel
theorem dX7_adds_4 : decode cX7_adds 4 = .ok (.aload_n 0, 1) := by decide +kernel
theorem dX7_adds_5 : decode cX7_adds 5 = .ok (.iload_n 1, 1) := by decide +kernel
theorem dX7_adds_6 : decode cX7_adds 6 = .ok (.iload_n 2, 1) := by decide +kernel
theorem dX7_adds_7 : decode cX7_adds 7 = .ok (.iload_n 3, 1) := by decide +kernel
theorem dX7_adds_8 : decode cX7_adds 8 = .ok (.invokevirtual 90, 3) := by decide +kernel
theorem dX7_adds_11 : decode cX7_adds 11 = .ok (.dup2, 1) := by decide +kernel
theorem dX7_adds_12 : decode cX7_adds 12 = .ok (.iaload, 1) := by decide +kernel
theorem dX7_adds_13 : decode cX7_adds 13 = .ok (.iload 4, 2) := by decide +kernel
theorem dX7_adds_15 : decode cX7_adds 15 = .ok (.iadd, 1) := by decide +kernel
theorem dX7_adds_16 : decode cX7_adds 16 = .ok (.iastore, 1) := by decide +kernel
theorem dX7_adds_17 : decode cX7_adds 17 = .ok (.aload_n 0, 1) := by decide +kernel
theorem dX7_adds_18 : decode cX7_adds 18 = .ok (.getfield 22, 3) := by decide +kernel
theorem dX7_adds_21 : decode cX7_adds 21 = .ok (.iload_n 2, 1) := by decide +kernel
theorem dX7_adds_22 : decode cX7_adds 22 = .ok (.iload_n 3, 1) := by decide +kernel
theorem dX7_adds_23 : decode cX7_adds 23 = .ok (.invokestatic 94, 3) := by decide +kernel
theorem dX7_adds_26 : decode cX7_adds 26 = .ok (.dup2, 1) := by decide +kernel
theorem dX7_adds_27 : decode cX7_adds 27 = .ok (.iaload, 1) := by decide +kernel
theorem dX7_adds_28 : decode cX7_adds 28 = .ok (.iload 4, 2) := by decide +kernel
theorem dX7_adds_30 : decode cX7_adds 30 = .ok (.iadd, 1) := by decide +kernel
theorem dX7_adds_31 : decode cX7_adds 31 = .ok (.iastore, 1) := by decide +kernel
theorem dX7_adds_32 : decode cX7_adds 32 = .ok (.return_, 1) := by decide +kernel
set_option maxRecDepth 20000 in
theorem ggX7_mend_X7_isSentence : GoodIn wsX7_mend wsX7_isSentence := goodIn_r _ [12, 13, 98, 99, 100, 101, 102, 103, 104, 105, 106, 107, 108, 109, 110, 111, 112, 113, 114, 115, 116, 117] (by decide +kernel) (by decide +kernel)
set_option maxRecDepth 20000 in
theorem gX7_mend_X7_isSentence : GoodIn wsX7_mend (wsV RX7 61 RX7 yX7_isSentence wsX7_isSentence) := goodIn_app (goodIn_of _ (by decide +kernel)) ggX7_mend_X7_isSentence
set_option maxRecDepth 20000 in
theorem ggX7_mend_X7_asks : GoodIn wsX7_mend wsX7_asks := goodIn_r _ [17, 18, 98, 99, 100, 101, 102, 103, 104, 105, 106, 107, 108, 109, 110, 111, 112, 113, 114, 115, 116, 117] (by decide +kernel) (by decide +kernel)
set_option maxRecDepth 20000 in
theorem gX7_mend_X7_asks : GoodIn wsX7_mend (wsV RX7 65 RX7 yX7_asks wsX7_asks) := goodIn_app (goodIn_of _ (by decide +kernel)) ggX7_mend_X7_asks
set_option maxRecDepth 20000 in
theorem ggX7_mend_X7_isRight : GoodIn wsX7_mend wsX7_isRight := goodIn_r _ [22, 3, 4, 98, 99, 100, 101, 102, 103, 104, 105, 106, 107, 108, 109, 110, 111, 112, 113, 114, 115, 116, 117] (by decide +kernel) (by decide +kernel)
set_option maxRecDepth 20000 in
theorem gX7_mend_X7_isRight : GoodIn wsX7_mend (wsV RX7 168 RX7 yX7_isRight wsX7_isRight) := goodIn_app (goodIn_of _ (by decide +kernel)) ggX7_mend_X7_isRight
set_option maxRecDepth 20000 in
theorem ggX7_mend_X7_finds : GoodIn wsX7_mend wsX7_finds := goodIn_r _ [26, 27, 28, 29, 30, 31, 11, 32, 3, 33, 34, 35, 36, 2, 1, 37, 38, 39, 40, 41, 42, 43, 44, 45, 7, 46, 47, 48, 49, 50, 51, 52, 53, 54, 55, 56, 57, 58, 59, 60, 61, 62, 63, 64, 65, 66, 67, 68, 69, 70, 71, 72, 98, 99, 100, 101, 102, 103, 104, 105, 106, 107, 108, 109, 110, 111, 112, 113, 114, 115, 116, 117] (by decide +kernel) (by decide +kernel)
set_option maxRecDepth 20000 in
theorem gX7_mend_X7_finds : GoodIn wsX7_mend (wsV RX7 144 RX7 yX7_finds wsX7_finds) := goodIn_app (goodIn_of _ (by decide +kernel)) ggX7_mend_X7_finds
set_option maxRecDepth 20000 in
theorem ggX7_mend_X7_fails : GoodIn wsX7_mend wsX7_fails := goodIn_r _ [76, 18, 98, 99, 100, 101, 102, 103, 104, 105, 106, 107, 108, 109, 110, 111, 112, 113, 114, 115, 116, 117] (by decide +kernel) (by decide +kernel)
set_option maxRecDepth 20000 in
theorem gX7_mend_X7_fails : GoodIn wsX7_mend (wsV RX7 69 RX7 yX7_fails wsX7_fails) := goodIn_app (goodIn_of _ (by decide +kernel)) ggX7_mend_X7_fails
set_option maxRecDepth 20000 in
theorem ggX7_mend_X7_remembers : GoodIn wsX7_mend wsX7_remembers := goodIn_r _ [80, 81, 82, 83, 84, 7, 98, 99, 100, 101, 102, 103, 104, 105, 106, 107, 108, 109, 110, 111, 112, 113, 114, 115, 116, 117] (by decide +kernel) (by decide +kernel)
set_option maxRecDepth 20000 in
theorem gX7_mend_X7_remembers : GoodIn wsX7_mend (wsV RX7 86 RX7 yX7_remembers wsX7_remembers) := goodIn_app (goodIn_of _ (by decide +kernel)) ggX7_mend_X7_remembers
set_option maxRecDepth 20000 in
theorem ggX7_mend_X7_headIn : GoodIn wsX7_mend wsX7_headIn := goodIn_r _ [88, 3, 89, 98, 99, 100, 101, 102, 103, 104, 105, 106, 107, 108, 109, 110, 111, 112, 113, 114, 115, 116, 117] (by decide +kernel) (by decide +kernel)
set_option maxRecDepth 20000 in
theorem gX7_mend_X7_headIn : GoodIn wsX7_mend (wsV RX7 156 RX7 yX7_headIn wsX7_headIn) := goodIn_app (goodIn_of _ (by decide +kernel)) ggX7_mend_X7_headIn
set_option maxRecDepth 20000 in
theorem ggX7_mend_X7_adds : GoodIn wsX7_mend wsX7_adds := goodIn_r _ [93, 7, 46, 47, 48, 11, 49, 50, 51, 52, 53, 98, 99, 100, 101, 102, 103, 104, 105, 106, 107, 108, 109, 110, 111, 112, 113, 114, 115, 116, 117] (by decide +kernel) (by decide +kernel)
set_option maxRecDepth 20000 in
theorem gX7_mend_X7_adds : GoodIn wsX7_mend (wsV RX7 171 RX7 yX7_adds wsX7_adds) := goodIn_app (goodIn_of _ (by decide +kernel)) ggX7_mend_X7_adds
set_option maxRecDepth 20000 in
theorem ggX7_mend_X7_changed : GoodIn wsX7_mend wsX7_changed := goodIn_r _ [97, 28, 27, 98, 99, 100, 101, 102, 103, 104, 105, 106, 107, 108, 109, 110, 111, 112, 113, 114, 115, 116, 117] (by decide +kernel) (by decide +kernel)
set_option maxRecDepth 20000 in
theorem gX7_mend_X7_changed : GoodIn wsX7_mend (wsV RX7 73 RX7 yX7_changed wsX7_changed) := goodIn_app (goodIn_of _ (by decide +kernel)) ggX7_mend_X7_changed
theorem dX7_mend_0 : decode cX7_mend 0 = .ok (.aload_n 0, 1) := by decide +kernel
theorem dX7_mend_1 : decode cX7_mend 1 = .ok (.aload_n 0, 1) := by decide +kernel
theorem dX7_mend_2 : decode cX7_mend 2 = .ok (.iload_n 1, 1) := by decide +kernel
theorem dX7_mend_3 : decode cX7_mend 3 = .ok (.invokevirtual 61, 3) := by decide +kernel
theorem dX7_mend_6 : decode cX7_mend 6 = .ok (.invokevirtual 65, 3) := by decide +kernel
theorem dX7_mend_9 : decode cX7_mend 9 = .ok (.ifCond .ne 5, 3) := by decide +kernel
theorem dX7_mend_12 : decode cX7_mend 12 = .ok (.iconst 0, 1) := by decide +kernel
theorem dX7_mend_13 : decode cX7_mend 13 = .ok (.ireturn, 1) := by decide +kernel
theorem dX7_mend_14 : decode cX7_mend 14 = .ok (.aload_n 0, 1) := by decide +kernel
theorem dX7_mend_15 : decode cX7_mend 15 = .ok (.iload_n 1, 1) := by decide +kernel
theorem dX7_mend_16 : decode cX7_mend 16 = .ok (.invokevirtual 168, 3) := by decide +kernel
theorem dX7_mend_19 : decode cX7_mend 19 = .ok (.ifCond .eq 17, 3) := by decide +kernel
theorem dX7_mend_22 : decode cX7_mend 22 = .ok (.aload_n 0, 1) := by decide +kernel
theorem dX7_mend_23 : decode cX7_mend 23 = .ok (.getfield 45, 3) := by decide +kernel
theorem dX7_mend_26 : decode cX7_mend 26 = .ok (.aload_n 0, 1) := by decide +kernel
theorem dX7_mend_27 : decode cX7_mend 27 = .ok (.iload_n 1, 1) := by decide +kernel
theorem dX7_mend_28 : decode cX7_mend 28 = .ok (.iconst 1, 1) := by decide +kernel
theorem dX7_mend_29 : decode cX7_mend 29 = .ok (.invokevirtual 144, 3) := by decide +kernel
theorem dX7_mend_32 : decode cX7_mend 32 = .ok (.iaload, 1) := by decide +kernel
theorem dX7_mend_33 : decode cX7_mend 33 = .ok (.ifCond .ne 9, 3) := by decide +kernel
theorem dX7_mend_36 : decode cX7_mend 36 = .ok (.aload_n 0, 1) := by decide +kernel
theorem dX7_mend_37 : decode cX7_mend 37 = .ok (.iconst 2, 1) := by decide +kernel
theorem dX7_mend_38 : decode cX7_mend 38 = .ok (.invokevirtual 69, 3) := by decide +kernel
theorem dX7_mend_41 : decode cX7_mend 41 = .ok (.ireturn, 1) := by decide +kernel
theorem dX7_mend_42 : decode cX7_mend 42 = .ok (.aload_n 0, 1) := by decide +kernel
theorem dX7_mend_43 : decode cX7_mend 43 = .ok (.getfield 42, 3) := by decide +kernel
theorem dX7_mend_46 : decode cX7_mend 46 = .ok (.aload_n 0, 1) := by decide +kernel
theorem dX7_mend_47 : decode cX7_mend 47 = .ok (.iload_n 1, 1) := by decide +kernel
theorem dX7_mend_48 : decode cX7_mend 48 = .ok (.iconst 1, 1) := by decide +kernel
theorem dX7_mend_49 : decode cX7_mend 49 = .ok (.invokevirtual 144, 3) := by decide +kernel
theorem dX7_mend_52 : decode cX7_mend 52 = .ok (.laload, 1) := by decide +kernel
theorem dX7_mend_53 : decode cX7_mend 53 = .ok (.lstore_n 2, 1) := by decide +kernel
theorem dX7_mend_54 : decode cX7_mend 54 = .ok (.aload_n 0, 1) := by decide +kernel
theorem dX7_mend_55 : decode cX7_mend 55 = .ok (.iconst (-1), 1) := by decide +kernel
theorem dX7_mend_56 : decode cX7_mend 56 = .ok (.invokevirtual 86, 3) := by decide +kernel
theorem dX7_mend_59 : decode cX7_mend 59 = .ok (.iconst 0, 1) := by decide +kernel
theorem dX7_mend_60 : decode cX7_mend 60 = .ok (.istore 4, 2) := by decide +kernel
theorem dX7_mend_62 : decode cX7_mend 62 = .ok (.iconst 1, 1) := by decide +kernel
theorem dX7_mend_63 : decode cX7_mend 63 = .ok (.istore 5, 2) := by decide +kernel
theorem dX7_mend_65 : decode cX7_mend 65 = .ok (.iload 5, 2) := by decide +kernel
theorem dX7_mend_67 : decode cX7_mend 67 = .ok (.aload_n 0, 1) := by decide +kernel
theorem dX7_mend_68 : decode cX7_mend 68 = .ok (.getfield 7, 3) := by decide +kernel
theorem dX7_mend_71 : decode cX7_mend 71 = .ok (.iload_n 1, 1) := by decide +kernel
theorem dX7_mend_72 : decode cX7_mend 72 = .ok (.iaload, 1) := by decide +kernel
theorem dX7_mend_73 : decode cX7_mend 73 = .ok (.if_icmp .gt 63, 3) := by decide +kernel
theorem dX7_mend_76 : decode cX7_mend 76 = .ok (.aload_n 0, 1) := by decide +kernel
theorem dX7_mend_77 : decode cX7_mend 77 = .ok (.getfield 19, 3) := by decide +kernel
theorem dX7_mend_80 : decode cX7_mend 80 = .ok (.bipush 7, 2) := by decide +kernel
theorem dX7_mend_82 : decode cX7_mend 82 = .ok (.iload_n 1, 1) := by decide +kernel
theorem dX7_mend_83 : decode cX7_mend 83 = .ok (.imul, 1) := by decide +kernel
theorem dX7_mend_84 : decode cX7_mend 84 = .ok (.iload 5, 2) := by decide +kernel
theorem dX7_mend_86 : decode cX7_mend 86 = .ok (.iadd, 1) := by decide +kernel
theorem dX7_mend_87 : decode cX7_mend 87 = .ok (.iaload, 1) := by decide +kernel
theorem dX7_mend_88 : decode cX7_mend 88 = .ok (.istore 6, 2) := by decide +kernel
theorem dX7_mend_90 : decode cX7_mend 90 = .ok (.aload_n 0, 1) := by decide +kernel
theorem dX7_mend_91 : decode cX7_mend 91 = .ok (.iload_n 1, 1) := by decide +kernel
theorem dX7_mend_92 : decode cX7_mend 92 = .ok (.lload_n 2, 1) := by decide +kernel
theorem dX7_mend_93 : decode cX7_mend 93 = .ok (.iload 5, 2) := by decide +kernel
theorem dX7_mend_95 : decode cX7_mend 95 = .ok (.invokevirtual 156, 3) := by decide +kernel
theorem dX7_mend_98 : decode cX7_mend 98 = .ok (.istore 7, 2) := by decide +kernel
theorem dX7_mend_100 : decode cX7_mend 100 = .ok (.iload 6, 2) := by decide +kernel
theorem dX7_mend_102 : decode cX7_mend 102 = .ok (.iload 7, 2) := by decide +kernel
theorem dX7_mend_104 : decode cX7_mend 104 = .ok (.if_icmp .eq 26, 3) := by decide +kernel
theorem dX7_mend_107 : decode cX7_mend 107 = .ok (.aload_n 0, 1) := by decide +kernel
theorem dX7_mend_108 : decode cX7_mend 108 = .ok (.iload_n 1, 1) := by decide +kernel
theorem dX7_mend_109 : decode cX7_mend 109 = .ok (.iload 6, 2) := by decide +kernel
theorem dX7_mend_111 : decode cX7_mend 111 = .ok (.iload 5, 2) := by decide +kernel
theorem dX7_mend_113 : decode cX7_mend 113 = .ok (.iconst 1, 1) := by decide +kernel
theorem dX7_mend_114 : decode cX7_mend 114 = .ok (.invokevirtual 171, 3) := by decide +kernel
theorem dX7_mend_117 : decode cX7_mend 117 = .ok (.aload_n 0, 1) := by decide +kernel
theorem dX7_mend_118 : decode cX7_mend 118 = .ok (.iload_n 1, 1) := by decide +kernel
theorem dX7_mend_119 : decode cX7_mend 119 = .ok (.iload 7, 2) := by decide +kernel
theorem dX7_mend_121 : decode cX7_mend 121 = .ok (.iload 5, 2) := by decide +kernel
theorem dX7_mend_123 : decode cX7_mend 123 = .ok (.iconst (-1), 1) := by decide +kernel
theorem dX7_mend_124 : decode cX7_mend 124 = .ok (.invokevirtual 171, 3) := by decide +kernel
theorem dX7_mend_127 : decode cX7_mend 127 = .ok (.iinc 4 1, 3) := by decide +kernel
theorem dX7_mend_130 : decode cX7_mend 130 = .ok (.iinc 5 1, 3) := by decide +kernel
theorem dX7_mend_133 : decode cX7_mend 133 = .ok (.goto (-68), 3) := by decide +kernel
theorem dX7_mend_136 : decode cX7_mend 136 = .ok (.aload_n 0, 1) := by decide +kernel
theorem dX7_mend_137 : decode cX7_mend 137 = .ok (.dup, 1) := by decide +kernel
theorem dX7_mend_138 : decode cX7_mend 138 = .ok (.getfield 175, 3) := by decide +kernel
theorem dX7_mend_141 : decode cX7_mend 141 = .ok (.iconst 1, 1) := by decide +kernel
theorem dX7_mend_142 : decode cX7_mend 142 = .ok (.iadd, 1) := by decide +kernel
theorem dX7_mend_143 : decode cX7_mend 143 = .ok (.putfield 175, 3) := by decide +kernel
theorem dX7_mend_146 : decode cX7_mend 146 = .ok (.iconst 0, 1) := by decide +kernel
theorem dX7_mend_147 : decode cX7_mend 147 = .ok (.istore 5, 2) := by decide +kernel
theorem dX7_mend_149 : decode cX7_mend 149 = .ok (.iload 5, 2) := by decide +kernel
theorem dX7_mend_151 : decode cX7_mend 151 = .ok (.bipush 28, 2) := by decide +kernel
theorem dX7_mend_153 : decode cX7_mend 153 = .ok (.if_icmp .ge 27, 3) := by decide +kernel
theorem dX7_mend_156 : decode cX7_mend 156 = .ok (.aload_n 0, 1) := by decide +kernel
theorem dX7_mend_157 : decode cX7_mend 157 = .ok (.getfield 25, 3) := by decide +kernel
theorem dX7_mend_160 : decode cX7_mend 160 = .ok (.iload 5, 2) := by decide +kernel
theorem dX7_mend_162 : decode cX7_mend 162 = .ok (.dup2, 1) := by decide +kernel
theorem dX7_mend_163 : decode cX7_mend 163 = .ok (.laload, 1) := by decide +kernel
theorem dX7_mend_164 : decode cX7_mend 164 = .ok (.aload_n 0, 1) := by decide +kernel
theorem dX7_mend_165 : decode cX7_mend 165 = .ok (.getfield 22, 3) := by decide +kernel
theorem dX7_mend_168 : decode cX7_mend 168 = .ok (.iload 5, 2) := by decide +kernel
theorem dX7_mend_170 : decode cX7_mend 170 = .ok (.iaload, 1) := by decide +kernel
theorem dX7_mend_171 : decode cX7_mend 171 = .ok (.i2l, 1) := by decide +kernel
theorem dX7_mend_172 : decode cX7_mend 172 = .ok (.ladd, 1) := by decide +kernel
theorem dX7_mend_173 : decode cX7_mend 173 = .ok (.lastore, 1) := by decide +kernel
theorem dX7_mend_174 : decode cX7_mend 174 = .ok (.iinc 5 1, 3) := by decide +kernel
theorem dX7_mend_177 : decode cX7_mend 177 = .ok (.goto (-28), 3) := by decide +kernel
theorem dX7_mend_180 : decode cX7_mend 180 = .ok (.aload_n 0, 1) := by decide +kernel
theorem dX7_mend_181 : decode cX7_mend 181 = .ok (.invokevirtual 73, 3) := by decide +kernel
theorem dX7_mend_184 : decode cX7_mend 184 = .ok (.iload 4, 2) := by decide +kernel
theorem dX7_mend_186 : decode cX7_mend 186 = .ok (.ireturn, 1) := by decide +kernel
theorem dX7_steps_0 : decode cX7_steps 0 = .ok (.aload_n 0, 1) := by decide +kernel
theorem dX7_steps_1 : decode cX7_steps 1 = .ok (.iconst 0, 1) := by decide +kernel
theorem dX7_steps_2 : decode cX7_steps 2 = .ok (.putfield 55, 3) := by decide +kernel
theorem dX7_steps_5 : decode cX7_steps 5 = .ok (.aload_n 0, 1) := by decide +kernel
theorem dX7_steps_6 : decode cX7_steps 6 = .ok (.getfield 175, 3) := by decide +kernel
theorem dX7_steps_9 : decode cX7_steps 9 = .ok (.ireturn, 1) := by decide +kernel
set_option maxRecDepth 20000 in
theorem ggX7_average_X7_asks : GoodIn wsX7_average wsX7_asks := goodIn_r _ [7, 8, 9, 10, 11, 12, 13, 14, 15, 16, 17, 18, 19, 20, 21, 22, 23, 24, 25, 26, 27, 28] (by decide +kernel) (by decide +kernel)
set_option maxRecDepth 20000 in
theorem gX7_average_X7_asks : GoodIn wsX7_average (wsV RX7 65 RX7 yX7_asks wsX7_asks) := goodIn_app (goodIn_of _ (by decide +kernel)) ggX7_average_X7_asks
theorem dX7_average_0 : decode cX7_average 0 = .ok (.aload_n 0, 1) := by decide +kernel
theorem dX7_average_1 : decode cX7_average 1 = .ok (.iload_n 1, 1) := by decide +kernel
theorem dX7_average_2 : decode cX7_average 2 = .ok (.ifCond .lt 13, 3) := by decide +kernel
theorem dX7_average_5 : decode cX7_average 5 = .ok (.iload_n 1, 1) := by decide +kernel
theorem dX7_average_6 : decode cX7_average 6 = .ok (.bipush 28, 2) := by decide +kernel
theorem dX7_average_8 : decode cX7_average 8 = .ok (.if_icmp .ge 7, 3) := by decide +kernel
theorem dX7_average_11 : decode cX7_average 11 = .ok (.iconst 1, 1) := by decide +kernel
theorem dX7_average_12 : decode cX7_average 12 = .ok (.goto 4, 3) := by decide +kernel
theorem dX7_average_15 : decode cX7_average 15 = .ok (.iconst 0, 1) := by decide +kernel
theorem dX7_average_16 : decode cX7_average 16 = .ok (.invokevirtual 65, 3) := by decide +kernel
theorem dX7_average_19 : decode cX7_average 19 = .ok (.ifCond .eq 10, 3) := by decide +kernel
theorem dX7_average_22 : decode cX7_average 22 = .ok (.aload_n 0, 1) := by decide +kernel
theorem dX7_average_23 : decode cX7_average 23 = .ok (.getfield 175, 3) := by decide +kernel
theorem dX7_average_26 : decode cX7_average 26 = .ok (.ifCond .ne 7, 3) := by decide +kernel
theorem dX7_average_29 : decode cX7_average 29 = .ok (.dconst 0, 1) := by decide +kernel
theorem dX7_average_30 : decode cX7_average 30 = .ok (.goto 16, 3) := by decide +kernel
theorem dX7_average_33 : decode cX7_average 33 = .ok (.aload_n 0, 1) := by decide +kernel
theorem dX7_average_34 : decode cX7_average 34 = .ok (.getfield 25, 3) := by decide +kernel
theorem dX7_average_37 : decode cX7_average 37 = .ok (.iload_n 1, 1) := by decide +kernel
theorem dX7_average_38 : decode cX7_average 38 = .ok (.laload, 1) := by decide +kernel
theorem dX7_average_39 : decode cX7_average 39 = .ok (.l2d, 1) := by decide +kernel
theorem dX7_average_40 : decode cX7_average 40 = .ok (.aload_n 0, 1) := by decide +kernel
theorem dX7_average_41 : decode cX7_average 41 = .ok (.getfield 175, 3) := by decide +kernel
theorem dX7_average_44 : decode cX7_average 44 = .ok (.i2d, 1) := by decide +kernel
theorem dX7_average_45 : decode cX7_average 45 = .ok (.ddiv, 1) := by decide +kernel
theorem dX7_average_46 : decode cX7_average 46 = .ok (.dreturn, 1) := by decide +kernel
set_option maxRecDepth 20000 in
theorem ggX7_rollBack_X7_asks : GoodIn wsX7_rollBack wsX7_asks := goodIn_r _ [12, 13, 20, 21, 22, 23, 24, 25, 26, 27, 28, 29, 30, 31, 32, 33, 34, 35, 36, 37, 38, 39] (by decide +kernel) (by decide +kernel)
set_option maxRecDepth 20000 in
theorem gX7_rollBack_X7_asks : GoodIn wsX7_rollBack (wsV RX7 65 RX7 yX7_asks wsX7_asks) := goodIn_app (goodIn_of _ (by decide +kernel)) ggX7_rollBack_X7_asks
set_option maxRecDepth 20000 in
theorem ggX7_rollBack_X7_changed : GoodIn wsX7_rollBack wsX7_changed := goodIn_r _ [17, 18, 19, 20, 21, 22, 23, 24, 25, 26, 27, 28, 29, 30, 31, 32, 33, 34, 35, 36, 37, 38, 39] (by decide +kernel) (by decide +kernel)
set_option maxRecDepth 20000 in
theorem gX7_rollBack_X7_changed : GoodIn wsX7_rollBack (wsV RX7 73 RX7 yX7_changed wsX7_changed) := goodIn_app (goodIn_of _ (by decide +kernel)) ggX7_rollBack_X7_changed
theorem dX7_rollBack_0 : decode cX7_rollBack 0 = .ok (.aload_n 0, 1) := by decide +kernel
theorem dX7_rollBack_1 : decode cX7_rollBack 1 = .ok (.aload_n 0, 1) := by decide +kernel
theorem dX7_rollBack_2 : decode cX7_rollBack 2 = .ok (.getfield 83, 3) := by decide +kernel
theorem dX7_rollBack_5 : decode cX7_rollBack 5 = .ok (.ifCond .le 7, 3) := by decide +kernel
theorem dX7_rollBack_8 : decode cX7_rollBack 8 = .ok (.iconst 1, 1) := by decide +kernel
theorem dX7_rollBack_9 : decode cX7_rollBack 9 = .ok (.goto 4, 3) := by decide +kernel
theorem dX7_rollBack_12 : decode cX7_rollBack 12 = .ok (.iconst 0, 1) := by decide +kernel
theorem dX7_rollBack_13 : decode cX7_rollBack 13 = .ok (.invokevirtual 65, 3) := by decide +kernel
theorem dX7_rollBack_16 : decode cX7_rollBack 16 = .ok (.ifCond .ne 5, 3) := by decide +kernel
theorem dX7_rollBack_19 : decode cX7_rollBack 19 = .ok (.iconst 0, 1) := by decide +kernel
theorem dX7_rollBack_20 : decode cX7_rollBack 20 = .ok (.ireturn, 1) := by decide +kernel
theorem dX7_rollBack_21 : decode cX7_rollBack 21 = .ok (.aload_n 0, 1) := by decide +kernel
theorem dX7_rollBack_22 : decode cX7_rollBack 22 = .ok (.dup, 1) := by decide +kernel
theorem dX7_rollBack_23 : decode cX7_rollBack 23 = .ok (.getfield 83, 3) := by decide +kernel
theorem dX7_rollBack_26 : decode cX7_rollBack 26 = .ok (.iconst 1, 1) := by decide +kernel
theorem dX7_rollBack_27 : decode cX7_rollBack 27 = .ok (.isub, 1) := by decide +kernel
theorem dX7_rollBack_28 : decode cX7_rollBack 28 = .ok (.putfield 83, 3) := by decide +kernel
theorem dX7_rollBack_31 : decode cX7_rollBack 31 = .ok (.aload_n 0, 1) := by decide +kernel
theorem dX7_rollBack_32 : decode cX7_rollBack 32 = .ok (.getfield 80, 3) := by decide +kernel
theorem dX7_rollBack_35 : decode cX7_rollBack 35 = .ok (.aload_n 0, 1) := by decide +kernel
theorem dX7_rollBack_36 : decode cX7_rollBack 36 = .ok (.getfield 83, 3) := by decide +kernel
theorem dX7_rollBack_39 : decode cX7_rollBack 39 = .ok (.iadd, 1) := by decide +kernel
theorem dX7_rollBack_40 : decode cX7_rollBack 40 = .ok (.bipush 20, 2) := by decide +kernel
theorem dX7_rollBack_42 : decode cX7_rollBack 42 = .ok (.irem, 1) := by decide +kernel
theorem dX7_rollBack_43 : decode cX7_rollBack 43 = .ok (.istore_n 1, 1) := by decide +kernel
theorem dX7_rollBack_44 : decode cX7_rollBack 44 = .ok (.aload_n 0, 1) := by decide +kernel
theorem dX7_rollBack_45 : decode cX7_rollBack 45 = .ok (.getfield 29, 3) := by decide +kernel
theorem dX7_rollBack_48 : decode cX7_rollBack 48 = .ok (.iload_n 1, 1) := by decide +kernel
theorem dX7_rollBack_49 : decode cX7_rollBack 49 = .ok (.iaload, 1) := by decide +kernel
theorem dX7_rollBack_50 : decode cX7_rollBack 50 = .ok (.iconst (-1), 1) := by decide +kernel
theorem dX7_rollBack_51 : decode cX7_rollBack 51 = .ok (.if_icmp .ne 7, 3) := by decide +kernel
theorem dX7_rollBack_54 : decode cX7_rollBack 54 = .ok (.iconst 1, 1) := by decide +kernel
theorem dX7_rollBack_55 : decode cX7_rollBack 55 = .ok (.goto 4, 3) := by decide +kernel
theorem dX7_rollBack_58 : decode cX7_rollBack 58 = .ok (.iconst 0, 1) := by decide +kernel
theorem dX7_rollBack_59 : decode cX7_rollBack 59 = .ok (.istore_n 2, 1) := by decide +kernel
theorem dX7_rollBack_60 : decode cX7_rollBack 60 = .ok (.iconst 0, 1) := by decide +kernel
theorem dX7_rollBack_61 : decode cX7_rollBack 61 = .ok (.istore_n 3, 1) := by decide +kernel
theorem dX7_rollBack_62 : decode cX7_rollBack 62 = .ok (.iload_n 3, 1) := by decide +kernel
theorem dX7_rollBack_63 : decode cX7_rollBack 63 = .ok (.bipush 28, 2) := by decide +kernel
theorem dX7_rollBack_65 : decode cX7_rollBack 65 = .ok (.if_icmp .ge 50, 3) := by decide +kernel
theorem dX7_rollBack_68 : decode cX7_rollBack 68 = .ok (.aload_n 0, 1) := by decide +kernel
theorem dX7_rollBack_69 : decode cX7_rollBack 69 = .ok (.getfield 25, 3) := by decide +kernel
theorem dX7_rollBack_72 : decode cX7_rollBack 72 = .ok (.iload_n 3, 1) := by decide +kernel
theorem dX7_rollBack_73 : decode cX7_rollBack 73 = .ok (.dup2, 1) := by decide +kernel
theorem dX7_rollBack_74 : decode cX7_rollBack 74 = .ok (.laload, 1) := by decide +kernel
theorem dX7_rollBack_75 : decode cX7_rollBack 75 = .ok (.iload_n 2, 1) := by decide +kernel
theorem dX7_rollBack_76 : decode cX7_rollBack 76 = .ok (.ifCond .eq 13, 3) := by decide +kernel
theorem dX7_rollBack_79 : decode cX7_rollBack 79 = .ok (.aload_n 0, 1) := by decide +kernel
theorem dX7_rollBack_80 : decode cX7_rollBack 80 = .ok (.getfield 22, 3) := by decide +kernel
theorem dX7_rollBack_83 : decode cX7_rollBack 83 = .ok (.iload_n 3, 1) := by decide +kernel
theorem dX7_rollBack_84 : decode cX7_rollBack 84 = .ok (.iaload, 1) := by decide +kernel
theorem dX7_rollBack_85 : decode cX7_rollBack 85 = .ok (.i2l, 1) := by decide +kernel
theorem dX7_rollBack_86 : decode cX7_rollBack 86 = .ok (.goto 4, 3) := by decide +kernel
theorem dX7_rollBack_89 : decode cX7_rollBack 89 = .ok (.lconst 0, 1) := by decide +kernel
theorem dX7_rollBack_90 : decode cX7_rollBack 90 = .ok (.lsub, 1) := by decide +kernel
theorem dX7_rollBack_91 : decode cX7_rollBack 91 = .ok (.lastore, 1) := by decide +kernel
theorem dX7_rollBack_92 : decode cX7_rollBack 92 = .ok (.aload_n 0, 1) := by decide +kernel
theorem dX7_rollBack_93 : decode cX7_rollBack 93 = .ok (.getfield 22, 3) := by decide +kernel
theorem dX7_rollBack_96 : decode cX7_rollBack 96 = .ok (.iload_n 3, 1) := by decide +kernel
theorem dX7_rollBack_97 : decode cX7_rollBack 97 = .ok (.aload_n 0, 1) := by decide +kernel
theorem dX7_rollBack_98 : decode cX7_rollBack 98 = .ok (.getfield 32, 3) := by decide +kernel
theorem dX7_rollBack_101 : decode cX7_rollBack 101 = .ok (.bipush 28, 2) := by decide +kernel
theorem dX7_rollBack_103 : decode cX7_rollBack 103 = .ok (.iload_n 1, 1) := by decide +kernel
theorem dX7_rollBack_104 : decode cX7_rollBack 104 = .ok (.imul, 1) := by decide +kernel
theorem dX7_rollBack_105 : decode cX7_rollBack 105 = .ok (.iload_n 3, 1) := by decide +kernel
theorem dX7_rollBack_106 : decode cX7_rollBack 106 = .ok (.iadd, 1) := by decide +kernel
theorem dX7_rollBack_107 : decode cX7_rollBack 107 = .ok (.iaload, 1) := by decide +kernel
theorem dX7_rollBack_108 : decode cX7_rollBack 108 = .ok (.iastore, 1) := by decide +kernel
theorem dX7_rollBack_109 : decode cX7_rollBack 109 = .ok (.iinc 3 1, 3) := by decide +kernel
theorem dX7_rollBack_112 : decode cX7_rollBack 112 = .ok (.goto (-50), 3) := by decide +kernel
theorem dX7_rollBack_115 : decode cX7_rollBack 115 = .ok (.aload_n 0, 1) := by decide +kernel
theorem dX7_rollBack_116 : decode cX7_rollBack 116 = .ok (.dup, 1) := by decide +kernel
theorem dX7_rollBack_117 : decode cX7_rollBack 117 = .ok (.getfield 175, 3) := by decide +kernel
theorem dX7_rollBack_120 : decode cX7_rollBack 120 = .ok (.iload_n 2, 1) := by decide +kernel
theorem dX7_rollBack_121 : decode cX7_rollBack 121 = .ok (.ifCond .eq 7, 3) := by decide +kernel
theorem dX7_rollBack_124 : decode cX7_rollBack 124 = .ok (.iconst 1, 1) := by decide +kernel
theorem dX7_rollBack_125 : decode cX7_rollBack 125 = .ok (.goto 4, 3) := by decide +kernel
theorem dX7_rollBack_128 : decode cX7_rollBack 128 = .ok (.iconst 0, 1) := by decide +kernel
theorem dX7_rollBack_129 : decode cX7_rollBack 129 = .ok (.isub, 1) := by decide +kernel
theorem dX7_rollBack_130 : decode cX7_rollBack 130 = .ok (.putfield 175, 3) := by decide +kernel
theorem dX7_rollBack_133 : decode cX7_rollBack 133 = .ok (.aload_n 0, 1) := by decide +kernel
theorem dX7_rollBack_134 : decode cX7_rollBack 134 = .ok (.invokevirtual 73, 3) := by decide +kernel
theorem dX7_rollBack_137 : decode cX7_rollBack 137 = .ok (.aload_n 0, 1) := by decide +kernel
theorem dX7_rollBack_138 : decode cX7_rollBack 138 = .ok (.getfield 83, 3) := by decide +kernel
theorem dX7_rollBack_141 : decode cX7_rollBack 141 = .ok (.ireturn, 1) := by decide +kernel
end
section
/-! THE MEMORY OF A RUN AS FUNCTIONS, and the rows over it. ZM: int slots, long slots, references, doubles, by address and place (a field's place in its class, an array's index). K: the kind of each address (0: not ours; c + 1: an object of class c of vwCl; 11 int[], 12 long[], 13 boolean[], 14 Sentence[], 15 int[][], 16 long[][], 17 double[]); len: arrays' lengths. -/
abbrev ZM : Type := (Nat → Nat → Int32) × (Nat → Nat → Int64) × (Nat → Nat → Option Nat) × (Nat → Nat → UInt64)
def zI (M : ZM) (a k : Nat) : Int32 := M.1 a k
def zJ (M : ZM) (a k : Nat) : Int64 := M.2.1 a k
def zR (M : ZM) (a k : Nat) : Option Nat := M.2.2.1 a k
def zD (M : ZM) (a k : Nat) : UInt64 := M.2.2.2 a k
def zup {α : Type} (f : Nat → Nat → α) (a k : Nat) (v : α) : Nat → Nat → α := fun b j => if b = a ∧ j = k then v else f b j
def zsI (M : ZM) (a k : Nat) (v : Int32) : ZM := (zup M.1 a k v, M.2)
def zsJ (M : ZM) (a k : Nat) (v : Int64) : ZM := (M.1, zup M.2.1 a k v, M.2.2)
def zsR (M : ZM) (a k : Nat) (v : Option Nat) : ZM := (M.1, M.2.1, zup M.2.2.1 a k v, M.2.2.2)
def zsD (M : ZM) (a k : Nat) (v : UInt64) : ZM := (M.1, M.2.1, M.2.2.1, zup M.2.2.2 a k v)
/-- which fields of a class hold ints (the others hold references) -/
def ztl : Nat → List Bool
  | 0 => [false, true]
  | 1 => [false, false, false, false, true]
  | 2 => [false, false, false, true]
  | 3 => [false, false, false, false]
  | 4 => [false, false, true]
  | 5 => [false, false, true, false, false, false, true, true]
  | 6 => [false, true, false, false, false, false, false]
  | 7 => [true, false, false, false, false, false, false, true, true, true, false, false, false, true, true, false, false, false, false, true]
  | _ => []
def zfv (ad : Nat → Nat) (M : ZM) (a k : Nat) : Bool → Value
  | true => .int (zI M a k)
  | false => va_rf ((zR M a k).map ad)
def zfl (ad : Nat → Nat) (M : ZM) (a : Nat) : Nat → List Bool → List Value
  | _, [] => []
  | k, t :: ts => zfv ad M a k t :: zfl ad M a (k + 1) ts
def zent (cy : Nat → ClassId) (ad : Nat → Nat) (K len : Nat → Nat) (M : ZM) (a : Nat) : va_E :=
  if K a ≤ 8 then .inr (K a - 1, zfl ad M a 0 (ztl (K a - 1)))
  else if K a = 11 then .inl (cy 0, len a, .inl (zI M a))
  else if K a = 12 then .inl (cy 1, len a, .inr (.inl (zJ M a)))
  else if K a = 13 then .inl (cy 2, len a, .inl (zI M a))
  else if K a = 17 then .inl (cy 6, len a, .inr (.inr (.inr (.inl (zD M a)))))
  else .inl (cy (K a - 11), len a, .inr (.inr (.inr (.inr (fun j => (zR M a j).map ad)))))
def ztys (cy : Nat → ClassId) : List (ClassId × FieldType) := [(cy 0, .int), (cy 1, .long), (cy 2, .boolean), (cy 3, .object "ArcLight$Sentence"), (cy 4, .array .int), (cy 5, .array .long), (cy 6, .double)]
def zSh (ad : Nat → Nat) (L : List Nat) (K : Nat → Nat) : Prop := L.Nodup ∧ (∀ a, K a ≠ 0 → a ∈ L) ∧ ∀ a ∈ L, ∀ b ∈ L, ad a = ad b → a = b
/-- the pool: what stands at the address of each place -/
def zpl (ad : Nat → Nat) (L : List Nat) (E : Nat → va_E) : va_W := L.map (fun r => (ad r, E r))
def zWd (D : va_G) (cy : Nat → ClassId) (ad : Nat → Nat) (L : List Nat) (K len : Nat → Nat) (M : ZM) (H : Heap) : Prop := va_P D vwCl (zpl ad L (zent cy ad K len M)) H
def zA (ad : Nat → Nat) (L : List Nat) (sz : Nat) : Nat → Prop := fun q => (∃ a ∈ L, q = ad a) ∨ sz ≤ q
/-- an index into an array of kind t -/
def zok (K len : Nat → Nat) (a t : Nat) (i : Int32) : Bool := K a == t && (!decide (i < 0) && decide (i.toNatClampNeg < len a))
/-- go on if b holds -/
def zg {α : Type} (b : Bool) (x : Option α) : Option α := bif b then x else none
theorem zg_some {α : Type} {b : Bool} {x : Option α} {r : α} (h : zg b x = some r) : b = true ∧ x = some r := by
  cases b with
  | true => exact ⟨rfl, h⟩
  | false => cases h
theorem zg_t {α : Type} {b : Bool} {x : Option α} (h : b = true) : zg b x = x := by subst h; rfl
theorem zb_some {α β : Type} {x : Option α} {f : α → Option β} {r : β} (h : x.bind f = some r) : ∃ q, x = some q ∧ f q = some r := by
  cases x with
  | none => cases h
  | some q => exact ⟨q, rfl, h⟩
theorem zip {α : Type} {c : Prop} [Decidable c] {a b : Option α} {r : α} (hc : c) (h : (if c then a else b) = some r) : a = some r := by rw [if_pos hc] at h; exact h
theorem zin {α : Type} {c : Prop} [Decidable c] {a b : Option α} {r : α} (hc : ¬ c) (h : (if c then a else b) = some r) : b = some r := by rw [if_neg hc] at h; exact h
def zbp {α β γ : Type} (x : Option (α × β)) (f : α → β → Option γ) : Option γ := x.bind fun q => f q.1 q.2
theorem zbp_some {α β γ : Type} {x : Option (α × β)} {f : α → β → Option γ} {r : γ} (h : zbp x f = some r) : ∃ a b, x = some (a, b) ∧ f a b = some r := by
  cases x with
  | none => cases h
  | some q => exact ⟨q.1, q.2, rfl, h⟩
theorem zne_of {α : Type} [BEq α] [LawfulBEq α] {x y : α} (h : (!(x == y)) = true) : ¬ x = y := by
  intro e
  subst e
  simp at h
theorem zok_in {K len : Nat → Nat} {a t : Nat} {i : Int32} (h : zok K len a t i = true) : K a = t ∧ vp_in i (len a) := by
  simp only [zok, Bool.and_eq_true, beq_iff_eq, Bool.not_eq_true', decide_eq_false_iff_not, decide_eq_true_eq] at h
  exact ⟨h.1, fun q => q.elim h.2.1 (fun q => by omega)⟩
theorem zK_of {K : Nat → Nat} {a t : Nat} (h : (K a == t) = true) : K a = t := beq_iff_eq.mp h
theorem zent_obj {cy : Nat → ClassId} {ad : Nat → Nat} {K len : Nat → Nat} {M : ZM} {a ci : Nat} (h : K a = ci + 1) (h8 : ci < 8) : zent cy ad K len M a = .inr (ci, zfl ad M a 0 (ztl ci)) := by
  unfold zent
  rw [if_pos (by omega), h]
  rfl
theorem zent_I {cy : Nat → ClassId} {ad : Nat → Nat} {K len : Nat → Nat} {M : ZM} {a : Nat} (h : K a = 11) : zent cy ad K len M a = .inl (cy 0, len a, .inl (zI M a)) := by simp [zent, h]
theorem zent_J {cy : Nat → ClassId} {ad : Nat → Nat} {K len : Nat → Nat} {M : ZM} {a : Nat} (h : K a = 12) : zent cy ad K len M a = .inl (cy 1, len a, .inr (.inl (zJ M a))) := by simp [zent, h]
theorem zent_Z {cy : Nat → ClassId} {ad : Nat → Nat} {K len : Nat → Nat} {M : ZM} {a : Nat} (h : K a = 13) : zent cy ad K len M a = .inl (cy 2, len a, .inl (zI M a)) := by simp [zent, h]
theorem zent_D {cy : Nat → ClassId} {ad : Nat → Nat} {K len : Nat → Nat} {M : ZM} {a : Nat} (h : K a = 17) : zent cy ad K len M a = .inl (cy 6, len a, .inr (.inr (.inr (.inl (zD M a))))) := by simp [zent, h]
theorem zent_S {cy : Nat → ClassId} {ad : Nat → Nat} {K len : Nat → Nat} {M : ZM} {a : Nat} (h : K a = 14) : zent cy ad K len M a = .inl (cy 3, len a, .inr (.inr (.inr (.inr (fun j => (zR M a j).map ad))))) := by simp [zent, h]
theorem zent_II {cy : Nat → ClassId} {ad : Nat → Nat} {K len : Nat → Nat} {M : ZM} {a : Nat} (h : K a = 15) : zent cy ad K len M a = .inl (cy 4, len a, .inr (.inr (.inr (.inr (fun j => (zR M a j).map ad))))) := by simp [zent, h]
theorem zent_JJ {cy : Nat → ClassId} {ad : Nat → Nat} {K len : Nat → Nat} {M : ZM} {a : Nat} (h : K a = 16) : zent cy ad K len M a = .inl (cy 5, len a, .inr (.inr (.inr (.inr (fun j => (zR M a j).map ad))))) := by simp [zent, h]
theorem zfl_congr {ad : Nat → Nat} {M M' : ZM} {a : Nat} (h1 : ∀ j, zI M a j = zI M' a j) (h3 : ∀ j, zR M a j = zR M' a j) : ∀ (ts : List Bool) (k : Nat), zfl ad M a k ts = zfl ad M' a k ts
  | [], _ => rfl
  | t :: ts, k => by
    show zfv ad M a k t :: _ = zfv ad M' a k t :: _
    rw [zfl_congr h1 h3 ts (k + 1)]
    cases t <;> simp [zfv, h1, h3]
theorem zent_congr {cy : Nat → ClassId} {ad : Nat → Nat} {K len : Nat → Nat} {M M' : ZM} {a : Nat} (h1 : ∀ j, zI M a j = zI M' a j) (h2 : ∀ j, zJ M a j = zJ M' a j) (h3 : ∀ j, zR M a j = zR M' a j) (h4 : ∀ j, zD M a j = zD M' a j) : zent cy ad K len M a = zent cy ad K len M' a := by
  unfold zent
  rw [zfl_congr h1 h3, show zI M a = zI M' a from funext h1, show zJ M a = zJ M' a from funext h2, show (fun j => (zR M a j).map ad) = (fun j => (zR M' a j).map ad) from funext fun j => by rw [h3 j], show zD M a = zD M' a from funext h4]
theorem zfl_far {ad : Nat → Nat} {M M' : ZM} {a : Nat} {n : Nat} (h1 : ∀ j, n ≤ j → zI M a j = zI M' a j) (h3 : ∀ j, n ≤ j → zR M a j = zR M' a j) : ∀ (ts : List Bool) (k : Nat), n ≤ k → zfl ad M a k ts = zfl ad M' a k ts
  | [], _, _ => rfl
  | t :: ts, k, hk => by
    show zfv ad M a k t :: _ = zfv ad M' a k t :: _
    rw [zfl_far h1 h3 ts (k + 1) (by omega)]
    cases t <;> simp [zfv, h1 k hk, h3 k hk]
theorem zfl_set {ad : Nat → Nat} {M M' : ZM} {a k : Nat} {v : Value} (h1 : ∀ j, j ≠ k → zI M a j = zI M' a j) (h3 : ∀ j, j ≠ k → zR M a j = zR M' a j) : ∀ (ts : List Bool) (o i : Nat) (t : Bool), o + i = k → ts[i]? = some t → zfv ad M' a k t = v → (zfl ad M a o ts).set i v = zfl ad M' a o ts
  | [], _, _, _, _, h, _ => by cases h
  | t0 :: ts, o, 0, t, ho, h, hv => by
    have e : t0 = t := Option.some.inj h
    subst e
    have e2 : o = k := by omega
    subst e2
    show v :: zfl ad M a (o + 1) ts = zfv ad M' a o t0 :: zfl ad M' a (o + 1) ts
    rw [hv, zfl_far (n := o + 1) (fun j hj => h1 j (by omega)) (fun j hj => h3 j (by omega)) ts (o + 1) (Nat.le_refl _)]
  | t0 :: ts, o, i + 1, t, ho, h, hv => by
    show zfv ad M a o t0 :: (zfl ad M a (o + 1) ts).set i v = zfv ad M' a o t0 :: zfl ad M' a (o + 1) ts
    rw [zfl_set h1 h3 ts (o + 1) i t (by omega) h hv]
    cases t0 <;> simp [zfv, h1 o (by omega), h3 o (by omega)]
theorem zup_self {α : Type} {f : Nat → Nat → α} {a k : Nat} {v : α} : zup f a k v a k = v := if_pos ⟨rfl, rfl⟩
theorem zup_ne {α : Type} {f : Nat → Nat → α} {a k b j : Nat} {v : α} (h : ¬ (b = a ∧ j = k)) : zup f a k v b j = f b j := if_neg h
theorem zup_at {cy : Nat → ClassId} {ad : Nat → Nat} {K len : Nat → Nat} {M M' : ZM} {a : Nat} {e : va_E} (he : e = zent cy ad K len M' a) (h : ∀ b, b ≠ a → (∀ j, zI M b j = zI M' b j) ∧ (∀ j, zJ M b j = zJ M' b j) ∧ (∀ j, zR M b j = zR M' b j) ∧ (∀ j, zD M b j = zD M' b j)) : ∀ b, va_up (zent cy ad K len M) a e b = zent cy ad K len M' b := by
  intro b
  by_cases hb : b = a
  · subst hb
    rw [va_up_self]
    exact he
  · rw [va_up_ne _ _ hb]
    obtain ⟨h1, h2, h3, h4⟩ := h b hb
    exact zent_congr h1 h2 h3 h4
theorem zfar_I {M : ZM} {a k : Nat} {v : Int32} : ∀ b, b ≠ a → (∀ j, zI M b j = zI (zsI M a k v) b j) ∧ (∀ j, zJ M b j = zJ (zsI M a k v) b j) ∧ (∀ j, zR M b j = zR (zsI M a k v) b j) ∧ (∀ j, zD M b j = zD (zsI M a k v) b j) := fun b hb => ⟨fun j => (zup_ne (fun h => hb h.1)).symm, fun _ => rfl, fun _ => rfl, fun _ => rfl⟩
theorem zfar_J {M : ZM} {a k : Nat} {v : Int64} : ∀ b, b ≠ a → (∀ j, zI M b j = zI (zsJ M a k v) b j) ∧ (∀ j, zJ M b j = zJ (zsJ M a k v) b j) ∧ (∀ j, zR M b j = zR (zsJ M a k v) b j) ∧ (∀ j, zD M b j = zD (zsJ M a k v) b j) := fun b hb => ⟨fun _ => rfl, fun j => (zup_ne (fun h => hb h.1)).symm, fun _ => rfl, fun _ => rfl⟩
theorem zfar_R {M : ZM} {a k : Nat} {v : Option Nat} : ∀ b, b ≠ a → (∀ j, zI M b j = zI (zsR M a k v) b j) ∧ (∀ j, zJ M b j = zJ (zsR M a k v) b j) ∧ (∀ j, zR M b j = zR (zsR M a k v) b j) ∧ (∀ j, zD M b j = zD (zsR M a k v) b j) := fun b hb => ⟨fun _ => rfl, fun _ => rfl, fun j => (zup_ne (fun h => hb h.1)).symm, fun _ => rfl⟩
theorem zfar_D {M : ZM} {a k : Nat} {v : UInt64} : ∀ b, b ≠ a → (∀ j, zI M b j = zI (zsD M a k v) b j) ∧ (∀ j, zJ M b j = zJ (zsD M a k v) b j) ∧ (∀ j, zR M b j = zR (zsD M a k v) b j) ∧ (∀ j, zD M b j = zD (zsD M a k v) b j) := fun b hb => ⟨fun _ => rfl, fun _ => rfl, fun _ => rfl, fun j => (zup_ne (fun h => hb h.1)).symm⟩
theorem zpl_D {ad : Nat → Nat} {L : List Nat} {K : Nat → Nat} {sz : Nat} (hL : zSh ad L K) (f : Nat → va_E) : va_D (zA ad L sz) (zpl ad L f) := by
  have key : ∀ (k : Nat) (q : Nat × va_E), (zpl ad L f)[k]? = some q → ∃ r, L[k]? = some r ∧ q.1 = ad r := by
    intro k q h
    simp only [zpl, List.getElem?_map] at h
    cases hk : L[k]? with
    | none => rw [hk] at h; cases h
    | some b => rw [hk] at h; cases h; exact ⟨b, rfl, rfl⟩
  refine ⟨fun i j p q hi hj e => ?_, fun k q hk => ?_⟩
  · obtain ⟨r1, h1, e1⟩ := key i p hi
    obtain ⟨r2, h2, e2⟩ := key j q hj
    have h3 : r1 = r2 := hL.2.2 r1 (List.mem_of_getElem? h1) r2 (List.mem_of_getElem? h2) (e1.symm.trans (e.trans e2))
    subst h3
    exact (List.getElem?_inj (List.getElem?_eq_some_iff.mp h1).1 hL.1).mp (h1.trans h2.symm)
  · obtain ⟨r, h1, e1⟩ := key k q hk
    exact Or.inl ⟨r, List.mem_of_getElem? h1, e1⟩
theorem zpl_get {ad : Nat → Nat} {L : List Nat} {E : Nat → va_E} {a : Nat} (h : a ∈ L) : ∃ k : Nat, L[k]? = some a ∧ (zpl ad L E)[k]? = some (ad a, E a) := by
  obtain ⟨k, hk⟩ := List.getElem?_of_mem h
  exact ⟨k, hk, by simp [zpl, hk]⟩
theorem zpl_set {ad : Nat → Nat} {L : List Nat} {E : Nat → va_E} {a k : Nat} {e : va_E} (hn : L.Nodup) (hk : L[k]? = some a) : (zpl ad L E).set k (ad a, e) = zpl ad L (va_up E a e) := by
  have hl : k < L.length := (List.getElem?_eq_some_iff.mp hk).1
  apply List.ext_getElem?
  intro j
  by_cases hj : j = k
  · subst hj
    rw [List.getElem?_set_self (by simp [zpl, hl])]
    simp [zpl, hk, va_up]
  · rw [List.getElem?_set_ne (Ne.symm hj)]
    simp only [zpl, List.getElem?_map]
    cases hb : L[j]? with
    | none => rfl
    | some b =>
      have hba : b ≠ a := by
        intro hab
        subst hab
        exact hj ((List.getElem?_inj (List.getElem?_eq_some_iff.mp hb).1 hn).mp (hb.trans hk.symm))
      simp [va_up, hba]
theorem zpl_congr {ad : Nat → Nat} {L : List Nat} {f g : Nat → va_E} (h : ∀ a, f a = g a) : zpl ad L f = zpl ad L g := by
  unfold zpl
  exact List.map_congr_left (fun a _ => by rw [h a])
/-- the nest mates' links that the methods use -/
def znw : List Cond := [.methodLinkNest RX6 21 yX5_init "ArcLight", .methodLinkNest RX6 28 yX0_init "ArcLight", .methodLinkNest RX6 35 yX3_init "ArcLight", .methodLinkNest RX6 42 yX1_init "ArcLight", .methodLinkNest RX6 49 yX4_init "ArcLight", .methodLinkNest RX0 50 yX6_isPlace "ArcLight", .methodLinkNest RX1 67 yX6_isPlace "ArcLight", .methodLinkNest RX2 33 yX6_isPlace "ArcLight", .methodLinkNest RX3 47 yX6_isPlace "ArcLight", .methodLinkNest RX4 73 yX6_doCross "ArcLight", .methodLinkNest RX5 56 yX6_byDistance "ArcLight", .fieldLinkNest RX0 46 "ArcLight" "HEAD_VALUES" "[J" "ArcLight", .castable "java/lang/IndexOutOfBoundsException" "java/lang/IndexOutOfBoundsException", .castable "java/lang/IllegalArgumentException" "java/lang/IllegalArgumentException", .castable "java/lang/IllegalStateException" "java/lang/IllegalStateException", .declares (Bundle.initS "java/lang/RuntimeException"), .declares (Bundle.initS "java/lang/Exception"), .declares (Bundle.initS Bundle.tN)]
/-- the static row HEAD_VALUES -/
def zhv (j : Nat) : Int64 := [0, 16807, 2401, 343, 49, 7, 1].getD j 0
/-- the texts of the exceptions, by their places in ArcLight's pool -/
def zstr : List (Nat × String) := [(56, "no more sentences can be added"), (68, "the kind is out of range"), (75, "no more words can be added"), (92, "the weight is out of range"), (119, "the mark is out of range"), (124, "another arc to the word is forced"), (173, "the right heads are not all told, or make no tree"), (192, "nothing can be rolled back"), (199, "there is no such sentence"), (202, "there is no such word"), (204, "there is no such head"), (206, "head and word are the same"), (208, "there is no such feature"), (212, "there is no such tree"), (226, "there are not so many trees")]
/-- which exceptions are not which -/
def zncl : List (String × String) := [("java/lang/IndexOutOfBoundsException", "java/lang/IllegalArgumentException"), ("java/lang/IndexOutOfBoundsException", "java/lang/IllegalStateException"), ("java/lang/IllegalArgumentException", "java/lang/IndexOutOfBoundsException"), ("java/lang/IllegalArgumentException", "java/lang/IllegalStateException"), ("java/lang/IllegalStateException", "java/lang/IndexOutOfBoundsException"), ("java/lang/IllegalStateException", "java/lang/IllegalArgumentException")]
def zEnv (A : Nat → Prop) (U : State) (H : Heap) : Prop :=
  (∀ w ∈ znw, va_Nw w U) ∧ vx_Zq Bundle.tN "UNASSIGNED_STACK" Bundle.steD A U H ∧ vx_Zq Bundle.tN "SUPPRESSED_SENTINEL" Bundle.listD A U H ∧ (∀ q ∈ zstr, ∃ a, vk_R RX6 q.1 q.2 a U) ∧ (∀ q ∈ zncl, va_Nc q.1 q.2 U) ∧ (va_AO "ArcLight$Sentence" U ∧ va_AOA .int U ∧ va_AOA .long U) ∧ ∃ t, va_Z "ArcLight" "HEAD_VALUES" "[J" (.ref t) A U H ∧ va_T .long t 7 (fun j => .long (zhv j)) A U H
theorem zAOA_moved {t : FieldType} {u U : State} (hvm : u.vm.Alike U.vm) (h : va_AOA t u) : va_AOA t U := over_moved (a := #[]) (a' := #[]) hvm h
theorem zNw_warmD {x : MethodName} {s U : State} (hW : s.WarmedH U.vm) (hZ : va_Nw (.declares x) s) : va_Nw (.declares x) U := va_tabs rfl (rfl : (s.setVm U.vm).vm = U.vm) (by rw [Cond.declares_setVm hW.alike]; exact hZ)
theorem znw_tab : ∀ w ∈ znw, w.onTables = true := by decide +kernel
theorem znw_use {args : Array Value} {s : State} (h : ∀ w ∈ znw, va_Nw w s) : ∀ w ∈ znw, w.before args s = true := fun w hw => va_Nw.use (znw_tab w hw) (h w hw)
theorem znw_warm {s U : State} (hW : s.WarmedH U.vm) (h : ∀ w ∈ znw, va_Nw w s) : ∀ w ∈ znw, va_Nw w U := by
  intro w hw
  have h1 := h w hw
  simp only [znw, List.mem_cons, List.not_mem_nil, or_false] at hw
  rcases hw with rfl | rfl | rfl | rfl | rfl | rfl | rfl | rfl | rfl | rfl | rfl | rfl | rfl | rfl | rfl | rfl | rfl | rfl <;> first | exact va_Nw.warmM hW h1 | exact va_Nw.warmF hW h1 | exact va_Nw.warmC hW h1 | exact zNw_warmD hW h1
theorem zEnv.next {A A1 : Nat → Prop} {s U : State} {H : Heap} {locs : List Loc} (h : zEnv A s s.heap) (hW : s.WarmedH U.vm) (hS : va_S A s.heap H locs) (hA : ∀ q, A1 q → A q) : zEnv A1 U H := by
  obtain ⟨h1, h2, h3, h6, h7, h8, t, h4, h5⟩ := h
  have hk : ∀ a : Nat, a < s.heap.size → ¬ A a → H[a]? = s.heap[a]? := hS.2.1
  exact ⟨znw_warm hW h1, ((h2.kept hk).moved hW.alike).narrow hA, ((h3.kept hk).moved hW.alike).narrow hA, (fun q hq => (h6 q hq).elim fun a ha => ⟨a, vk_R.warm hW ha⟩), (fun q hq => (h7 q hq).moved hW.alike), ⟨va_AO.moved hW.alike h8.1, zAOA_moved hW.alike h8.2.1, zAOA_moved hW.alike h8.2.2⟩, t, ((h4.kept hk).moved hW.alike).narrow hA, ((h5.kept hk).moved hW.alike).narrow hA⟩
theorem zEnv.same {A : Nat → Prop} {u U : State} {H : Heap} (h : zEnv A u H) (hvm : u.vm = U.vm) : zEnv A U H := by
  have ha : u.vm.Alike U.vm := by rw [hvm]; exact Vm.Alike.refl _
  obtain ⟨h1, h2, h3, h6, h7, h8, t, h4, h5⟩ := h
  refine ⟨fun w hw => ?_, h2.moved ha, h3.moved ha, (fun q hq => (h6 q hq).elim fun a h9 => ⟨a, vk_R.same hvm.symm h9⟩), (fun q hq => (h7 q hq).moved ha), ⟨va_AO.moved ha h8.1, zAOA_moved ha h8.2.1, zAOA_moved ha h8.2.2⟩, t, h4.moved ha, h5.moved ha⟩
  have h9 := h1 w hw
  exact va_Nw.same (znw_tab w hw) hvm h9
/-- a method's start: the arguments, the heap's size, the memory, the tables, what stands outside -/
def zPre (D : va_G) (cy : Nat → ClassId) (ad : Nat → Nat) (L : List Nat) (K len : Nat → Nat) (sz : Nat) (av : List Value) (M : ZM) : Array Value → State → Prop := va_Pc av (fun U => U.heap.size = sz ∧ zWd D cy ad L K len M U.heap ∧ va_K D vwCl (ztys cy) U ∧ zEnv (zA ad L sz) U U.heap)
theorem zPre_blind {D : va_G} {cy : Nat → ClassId} {ad : Nat → Nat} {L : List Nat} {K len : Nat → Nat} {sz : Nat} {av : List Value} {M : ZM} : FrameBlind (zPre D cy ad L K len sz av M) := fun a U g mk q => ⟨q.1, q.2.1, q.2.2.1, va_K.moved (u := U) (U := U.calling g mk a) (Vm.Alike.refl U.vm) q.2.2.2.1, q.2.2.2.2.same rfl⟩
/-- what holds throughout a body -/
def zCx (p : Program) (s : State) (m : MethodId) (c : Code) (meth : Method) (args : Array Value) (cc : ByteArray) (nL : Nat) (Ts : List Cond) (own : String) (ret : Option FieldType) (D : va_G) (cy : Nat → ClassId) (ad : Nat → Nat) (L : List Nat) (K : Nat → Nat) : Prop :=
  p.tables.exec = Jvm.exec ∧ c.code = cc ∧ meth.sig.returnType = ret ∧ c.maxLocals = nL ∧ s.vm.findClass own = some m.cls ∧ (∀ w ∈ Ts, w.before args s = true) ∧ meth.locks = false ∧ va_K D vwCl (ztys cy) s ∧ zSh ad L K ∧ zEnv (zA ad L s.heap.size) s s.heap
def zQi (D : va_G) (cy : Nat → ClassId) (ad : Nat → Nat) (L : List Nat) (K len : Nat → Nat) (r : Int32) (M : ZM) (sz : Nat) : Array Value → State → Outcome → State → Prop := va_Qi (fun (x : Int32) (_ : Unit) => x = r) (fun _ t => zWd D cy ad L K len M t.heap) (zA ad L sz)
def zQl (D : va_G) (cy : Nat → ClassId) (ad : Nat → Nat) (L : List Nat) (K len : Nat → Nat) (r : Int64) (M : ZM) (sz : Nat) : Array Value → State → Outcome → State → Prop := va_Ql (fun (x : Int64) (_ : Unit) => x = r) (fun _ t => zWd D cy ad L K len M t.heap) (zA ad L sz)
def zQd (D : va_G) (cy : Nat → ClassId) (ad : Nat → Nat) (L : List Nat) (K len : Nat → Nat) (r : UInt64) (M : ZM) (sz : Nat) : Array Value → State → Outcome → State → Prop := va_Qd (fun (x : UInt64) (_ : Unit) => x = r) (fun _ t => zWd D cy ad L K len M t.heap) (zA ad L sz)
def zQr (D : va_G) (cy : Nat → ClassId) (ad : Nat → Nat) (L : List Nat) (K len : Nat → Nat) (r : Nat) (M : ZM) (sz : Nat) : Array Value → State → Outcome → State → Prop := va_Qq (fun (x : Option Nat) (_ : Unit) => x = some (ad r)) (fun _ t => zWd D cy ad L K len M t.heap) (zA ad L sz)
def zQv (D : va_G) (cy : Nat → ClassId) (ad : Nat → Nat) (L : List Nat) (K len : Nat → Nat) (M : ZM) (sz : Nat) : Array Value → State → Outcome → State → Prop := va_Qv (fun (_ : Unit) => True) (fun _ t => zWd D cy ad L K len M t.heap) (zA ad L sz)
section ZR
variable {p : Program} {l : Launch} {e : Env} {R : Room} {s : State} {m : MethodId} {args : Array Value} {below : List Frame} {meth : Method} {c : Code} {H : Heap} {locs : List Loc} {cells slots : Nat} {Q : State → Prop}
variable {cc : ByteArray} {pc : Nat} {ls : Array Slot} {rest : List Value} {D : va_G} {cy : Nat → ClassId} {ad : Nat → Nat} {L : List Nat} {K len : Nat → Nat} {a : Nat} {M : ZM}
theorem z_get (hx : p.tables.exec = Jvm.exec) (hb : c.code = cc) {own C : String} {T : u_T} {N ci index : Nat} {Ts : List Cond} (hts : ∀ w ∈ Ts, w.before args s = true) (hin : ∀ w ∈ u_ws C T N, w ∈ Ts) (hown : s.vm.findClass own = some m.cls) (hK : va_K D vwCl (ztys cy) s) (hL : zSh ad L K) (hW : zWd D cy ad L K len M H) (k : Nat) (hKa : K a = ci + 1) (hc : vwCl[ci]? = some (C, T, N)) (h8 : ci < 8) (hk : k < N) (hf : (T k).1 = C) (hlink : (Cond.fieldLink own index C (T k).2.1 (T k).2.2.1).before args s = true) {v : Value} (hv : (zfl ad M a 0 (ztl ci))[k]? = some v) (hdg : decode cc pc = .ok (.getfield index, 3))
    (kk : W p l e R s m args below meth c H locs cells slots Q (F0 m (pc + 3) ls (v :: rest))) : W p l e R s m args below meth c H locs cells slots Q (F0 m pc ls (.ref (ad a) :: rest)) := by
  obtain ⟨q0, -, he⟩ := zpl_get (E := zent cy ad K len M) (hL.2.1 a (by omega))
  rw [zent_obj hKa h8] at he
  exact va_get hx hb hts hin hown hK (show va_P D vwCl (zpl ad L (zent cy ad K len M)) H from hW) q0 he hc k hk hlink (fun x h => by rw [hf] at h; exact h) hv hdg kk
theorem z_put (hx : p.tables.exec = Jvm.exec) (hb : c.code = cc) {own C : String} {T : u_T} {N ci index : Nat} {Ts : List Cond} (hts : ∀ w ∈ Ts, w.before args s = true) (hin : ∀ w ∈ u_ws C T N, w ∈ Ts) (ty0 : Nat → FieldType) (hty : ∀ k, k < N → parseFieldDescriptor (T k).2.2.1 = some (ty0 k)) (hnm : ∀ a, a < N → ∀ b, b < N → a ≠ b → (T a).2.1 ≠ (T b).2.1) (hown : s.vm.findClass own = some m.cls) (hK : va_K D vwCl (ztys cy) s) (hL : zSh ad L K) (hW : zWd D cy ad L K len M H) (hS : va_S (zA ad L s.heap.size) s.heap H locs) (k : Nat) (hKa : K a = ci + 1) (hc : vwCl[ci]? = some (C, T, N)) (h8 : ci < 8) (hk : k < N) (hf : (T k).1 = C) (hlink : (Cond.fieldLink own index C (T k).2.1 (T k).2.2.1).before args s = true) (hfin : (T k).2.2.2 = false) {ty : FieldType} {v : Value} (hd : parseFieldDescriptor (T k).2.2.1 = some ty) (hn : narrow ty v = v) (hfit : fits ty v = true) (hl : k < (zfl ad M a 0 (ztl ci)).length) (hdg : decode cc pc = .ok (.putfield index, 3)) {M' : ZM}
    (hM : ∀ b, va_up (zent cy ad K len M) a (.inr (ci, (zfl ad M a 0 (ztl ci)).set k v)) b = zent cy ad K len M' b)
    (kk : ∀ (H : Heap) (locs : List Loc), zWd D cy ad L K len M' H → va_S (zA ad L s.heap.size) s.heap H locs → W p l e R s m args below meth c H locs cells slots Q (F0 m (pc + 3) ls rest)) : W p l e R s m args below meth c H locs cells slots Q (F0 m pc ls (v :: .ref (ad a) :: rest)) := by
  have ha : a ∈ L := hL.2.1 a (by omega)
  have hD : va_D (zA ad L s.heap.size) (zpl ad L (zent cy ad K len M)) := zpl_D hL _
  obtain ⟨q0, hq, he⟩ := zpl_get (E := zent cy ad K len M) ha
  have he2 := he
  rw [zent_obj hKa h8] at he2
  refine va_put hx hb hts hin ty0 hty hnm hown hK (show va_P D vwCl (zpl ad L (zent cy ad K len M)) H from hW) hD hS q0 he2 hc k hk hlink (fun x h => by rw [hf] at h; exact h) hfin hd hn hfit hl hdg (fun H1 locs1 hP1 _ hS1 => kk H1 locs1 ?_ hS1)
  rw [zpl_set hL.1 hq] at hP1
  show va_P D vwCl (zpl ad L (zent cy ad K len M')) H1
  rw [← zpl_congr hM]
  exact hP1
theorem zM_I {ci k : Nat} {x : Int32} (hKa : K a = ci + 1) (h8 : ci < 8) (ht : (ztl ci)[k]? = some true) : ∀ b, va_up (zent cy ad K len M) a (.inr (ci, (zfl ad M a 0 (ztl ci)).set k (.int x))) b = zent cy ad K len (zsI M a k x) b := by
  refine zup_at ?_ zfar_I
  rw [zent_obj hKa h8, zfl_set (M := M) (M' := zsI M a k x) (k := k) (fun j hj => (zup_ne (fun h => hj h.2)).symm) (fun _ _ => rfl) (ztl ci) 0 k true (by omega) ht (by show Value.int (zup M.1 a k x a k) = _; rw [zup_self])]
theorem zM_R {ci k : Nat} {x : Nat} (hKa : K a = ci + 1) (h8 : ci < 8) (ht : (ztl ci)[k]? = some false) : ∀ b, va_up (zent cy ad K len M) a (.inr (ci, (zfl ad M a 0 (ztl ci)).set k (.ref (ad x)))) b = zent cy ad K len (zsR M a k (some x)) b := by
  refine zup_at ?_ zfar_R
  rw [zent_obj hKa h8, zfl_set (M := M) (M' := zsR M a k (some x)) (k := k) (fun _ _ => rfl) (fun j hj => (zup_ne (fun h => hj h.2)).symm) (ztl ci) 0 k false (by omega) ht (by show va_rf ((zup M.2.2.1 a k (some x) a k).map ad) = _; rw [zup_self]; rfl)]
theorem z_iald (hx : p.tables.exec = Jvm.exec) (hb : c.code = cc) (hK : va_K D vwCl (ztys cy) s) (hL : zSh ad L K) (hW : zWd D cy ad L K len M H) {i : Int32} (h : zok K len a 11 i = true) (hdg : decode cc pc = .ok (.iaload, 1))
    (kk : W p l e R s m args below meth c H locs cells slots Q (F0 m (pc + 1) ls (.int (zI M a i.toNatClampNeg) :: rest))) : W p l e R s m args below meth c H locs cells slots Q (F0 m pc ls (.int i :: .ref (ad a) :: rest)) := by
  obtain ⟨hKa, hin⟩ := zok_in h
  obtain ⟨q0, -, he⟩ := zpl_get (E := zent cy ad K len M) (hL.2.1 a (by omega))
  rw [zent_I hKa] at he
  exact va_iald hx hb hK (show va_P D vwCl (zpl ad L (zent cy ad K len M)) H from hW) q0 0 he rfl hin hdg kk
theorem z_zald (hx : p.tables.exec = Jvm.exec) (hb : c.code = cc) (hK : va_K D vwCl (ztys cy) s) (hL : zSh ad L K) (hW : zWd D cy ad L K len M H) {i : Int32} (h : zok K len a 13 i = true) (hdg : decode cc pc = .ok (.baload, 1))
    (kk : W p l e R s m args below meth c H locs cells slots Q (F0 m (pc + 1) ls (.int (zI M a i.toNatClampNeg) :: rest))) : W p l e R s m args below meth c H locs cells slots Q (F0 m pc ls (.int i :: .ref (ad a) :: rest)) := by
  obtain ⟨hKa, hin⟩ := zok_in h
  obtain ⟨q0, -, he⟩ := zpl_get (E := zent cy ad K len M) (hL.2.1 a (by omega))
  rw [zent_Z hKa] at he
  exact va_zald hx hb hK (show va_P D vwCl (zpl ad L (zent cy ad K len M)) H from hW) q0 2 he rfl hin hdg kk
theorem z_lald (hx : p.tables.exec = Jvm.exec) (hb : c.code = cc) (hK : va_K D vwCl (ztys cy) s) (hL : zSh ad L K) (hW : zWd D cy ad L K len M H) {i : Int32} (h : zok K len a 12 i = true) (hdg : decode cc pc = .ok (.laload, 1))
    (kk : W p l e R s m args below meth c H locs cells slots Q (F0 m (pc + 1) ls (.long (zJ M a i.toNatClampNeg) :: rest))) : W p l e R s m args below meth c H locs cells slots Q (F0 m pc ls (.int i :: .ref (ad a) :: rest)) := by
  obtain ⟨hKa, hin⟩ := zok_in h
  obtain ⟨q0, -, he⟩ := zpl_get (E := zent cy ad K len M) (hL.2.1 a (by omega))
  rw [zent_J hKa] at he
  exact va_lald hx hb hK (show va_P D vwCl (zpl ad L (zent cy ad K len M)) H from hW) q0 1 he rfl hin hdg kk
theorem z_dald (hx : p.tables.exec = Jvm.exec) (hb : c.code = cc) (hK : va_K D vwCl (ztys cy) s) (hL : zSh ad L K) (hW : zWd D cy ad L K len M H) {i : Int32} (h : zok K len a 17 i = true) (hdg : decode cc pc = .ok (.daload, 1))
    (kk : W p l e R s m args below meth c H locs cells slots Q (F0 m (pc + 1) ls (.double (zD M a i.toNatClampNeg) :: rest))) : W p l e R s m args below meth c H locs cells slots Q (F0 m pc ls (.int i :: .ref (ad a) :: rest)) := by
  obtain ⟨hKa, hin⟩ := zok_in h
  obtain ⟨q0, -, he⟩ := zpl_get (E := zent cy ad K len M) (hL.2.1 a (by omega))
  rw [zent_D hKa] at he
  exact va_dald hx hb hK (show va_P D vwCl (zpl ad L (zent cy ad K len M)) H from hW) q0 6 he rfl hin hdg kk
theorem z_aald (hx : p.tables.exec = Jvm.exec) (hb : c.code = cc) (hK : va_K D vwCl (ztys cy) s) (hL : zSh ad L K) (hW : zWd D cy ad L K len M H) {i : Int32} (t : Nat) (h : zok K len a t i = true) (ht : t = 14 ∨ t = 15 ∨ t = 16) (hdg : decode cc pc = .ok (.aaload, 1))
    (kk : W p l e R s m args below meth c H locs cells slots Q (F0 m (pc + 1) ls (va_rf ((zR M a i.toNatClampNeg).map ad) :: rest))) : W p l e R s m args below meth c H locs cells slots Q (F0 m pc ls (.int i :: .ref (ad a) :: rest)) := by
  obtain ⟨hKa, hin⟩ := zok_in h
  obtain ⟨q0, -, he⟩ := zpl_get (E := zent cy ad K len M) (hL.2.1 a (by omega))
  have hP : va_P D vwCl (zpl ad L (zent cy ad K len M)) H := hW
  have hlt : i.toNatClampNeg < len a := Nat.not_le.mp fun q => hin (Or.inr q)
  rcases ht with rfl | rfl | rfl
  · rw [zent_S hKa] at he
    exact W.aald (v := va_rf ((zR M a i.toNatClampNeg).map ad)) (ty := .object "ArcLight$Sentence") hx hb (hP q0 _ he) ((hK.2 3 (cy 3, .object "ArcLight$Sentence") rfl).1 (len a) (fun j => va_rf ((zR M a j).map ad))) rfl (fun q => by cases q) (by show ¬ (i < 0 ∨ (arrV _ _ _).slots.size ≤ _); rw [arrV_size]; exact hin) (by show (arrV _ _ _).slots[_]? = _; rw [arrV_read _ _ hlt]) rfl rfl hdg kk
  · rw [zent_II hKa] at he
    exact W.aald (v := va_rf ((zR M a i.toNatClampNeg).map ad)) (ty := .array .int) hx hb (hP q0 _ he) ((hK.2 4 (cy 4, .array .int) rfl).1 (len a) (fun j => va_rf ((zR M a j).map ad))) rfl (fun q => by cases q) (by show ¬ (i < 0 ∨ (arrV _ _ _).slots.size ≤ _); rw [arrV_size]; exact hin) (by show (arrV _ _ _).slots[_]? = _; rw [arrV_read _ _ hlt]) rfl rfl hdg kk
  · rw [zent_JJ hKa] at he
    exact W.aald (v := va_rf ((zR M a i.toNatClampNeg).map ad)) (ty := .array .long) hx hb (hP q0 _ he) ((hK.2 5 (cy 5, .array .long) rfl).1 (len a) (fun j => va_rf ((zR M a j).map ad))) rfl (fun q => by cases q) (by show ¬ (i < 0 ∨ (arrV _ _ _).slots.size ≤ _); rw [arrV_size]; exact hin) (by show (arrV _ _ _).slots[_]? = _; rw [arrV_read _ _ hlt]) rfl rfl hdg kk
theorem z_aaldN (hx : p.tables.exec = Jvm.exec) (hb : c.code = cc) (hK : va_K D vwCl (ztys cy) s) (hL : zSh ad L K) (hW : zWd D cy ad L K len M H) {i : Int32} (t : Nat) (h : zok K len a t i = true) (ht : t = 14 ∨ t = 15 ∨ t = 16) (hr : zR M a i.toNatClampNeg = none) (hdg : decode cc pc = .ok (.aaload, 1))
    (kk : W p l e R s m args below meth c H locs cells slots Q (F0 m (pc + 1) ls (.null :: rest))) : W p l e R s m args below meth c H locs cells slots Q (F0 m pc ls (.int i :: .ref (ad a) :: rest)) := by
  refine z_aald hx hb hK hL hW t h ht hdg ?_
  rw [hr]
  exact kk
theorem z_aaldS (hx : p.tables.exec = Jvm.exec) (hb : c.code = cc) (hK : va_K D vwCl (ztys cy) s) (hL : zSh ad L K) (hW : zWd D cy ad L K len M H) {i : Int32} (t : Nat) (h : zok K len a t i = true) (ht : t = 14 ∨ t = 15 ∨ t = 16) {b : Nat} (hr : zR M a i.toNatClampNeg = some b) (hdg : decode cc pc = .ok (.aaload, 1))
    (kk : W p l e R s m args below meth c H locs cells slots Q (F0 m (pc + 1) ls (.ref (ad b) :: rest))) : W p l e R s m args below meth c H locs cells slots Q (F0 m pc ls (.int i :: .ref (ad a) :: rest)) := by
  refine z_aald hx hb hK hL hW t h ht hdg ?_
  rw [hr]
  exact kk
theorem z_alen (hx : p.tables.exec = Jvm.exec) (hb : c.code = cc) (hK : va_K D vwCl (ztys cy) s) (hL : zSh ad L K) (hW : zWd D cy ad L K len M H) (h : (11 ≤ K a && K a ≤ 17) = true) (hdg : decode cc pc = .ok (.arraylength, 1))
    (kk : W p l e R s m args below meth c H locs cells slots Q (F0 m (pc + 1) ls (.int (Int32.ofNat (len a)) :: rest))) : W p l e R s m args below meth c H locs cells slots Q (F0 m pc ls (.ref (ad a) :: rest)) := by
  simp only [Bool.and_eq_true, decide_eq_true_eq] at h
  obtain ⟨q0, -, he⟩ := zpl_get (E := zent cy ad K len M) (hL.2.1 a (by omega))
  have hP : va_P D vwCl (zpl ad L (zent cy ad K len M)) H := hW
  have hc : K a = 11 ∨ K a = 12 ∨ K a = 13 ∨ K a = 14 ∨ K a = 15 ∨ K a = 16 ∨ K a = 17 := by omega
  rcases hc with hKa | hKa | hKa | hKa | hKa | hKa | hKa
  · rw [zent_I hKa] at he
    exact va_alen hx hb hK hP q0 0 he (ty := .int) rfl rfl hdg kk
  · rw [zent_J hKa] at he
    exact va_alen hx hb hK hP q0 1 he (ty := .long) rfl rfl hdg kk
  · rw [zent_Z hKa] at he
    exact va_alen hx hb hK hP q0 2 he (ty := .boolean) rfl rfl hdg kk
  · rw [zent_S hKa] at he
    exact va_alen hx hb hK hP q0 3 he (ty := .object "ArcLight$Sentence") rfl rfl hdg kk
  · rw [zent_II hKa] at he
    exact va_alen hx hb hK hP q0 4 he (ty := .array .int) rfl rfl hdg kk
  · rw [zent_JJ hKa] at he
    exact va_alen hx hb hK hP q0 5 he (ty := .array .long) rfl rfl hdg kk
  · rw [zent_D hKa] at he
    exact va_alen hx hb hK hP q0 6 he (ty := .double) rfl rfl hdg kk
theorem z_iast (hx : p.tables.exec = Jvm.exec) (hb : c.code = cc) (hK : va_K D vwCl (ztys cy) s) (hL : zSh ad L K) (hW : zWd D cy ad L K len M H) (hS : va_S (zA ad L s.heap.size) s.heap H locs) {i x : Int32} (h : zok K len a 11 i = true) (hdg : decode cc pc = .ok (.iastore, 1))
    (kk : ∀ (H : Heap) (locs : List Loc), zWd D cy ad L K len (zsI M a i.toNatClampNeg x) H → va_S (zA ad L s.heap.size) s.heap H locs → W p l e R s m args below meth c H locs cells slots Q (F0 m (pc + 1) ls rest)) : W p l e R s m args below meth c H locs cells slots Q (F0 m pc ls (.int x :: .int i :: .ref (ad a) :: rest)) := by
  obtain ⟨hKa, hin⟩ := zok_in h
  have ha : a ∈ L := hL.2.1 a (by omega)
  have hD : va_D (zA ad L s.heap.size) (zpl ad L (zent cy ad K len M)) := zpl_D hL _
  obtain ⟨q0, hq, he⟩ := zpl_get (E := zent cy ad K len M) ha
  have he2 := he
  rw [zent_I hKa] at he2
  refine va_iast hx hb hK (show va_P D vwCl (zpl ad L (zent cy ad K len M)) H from hW) hD hS q0 0 he2 rfl hin hdg (fun H1 locs1 hP1 _ hS1 => kk H1 locs1 ?_ hS1)
  rw [zpl_set hL.1 hq] at hP1
  show va_P D vwCl (zpl ad L (zent cy ad K len _)) H1
  rw [← zpl_congr (f := va_up (zent cy ad K len M) a (.inl (cy 0, len a, .inl (upd (zI M a) i.toNatClampNeg x)))) (zup_at (by rw [zent_I hKa, show zI (zsI M a i.toNatClampNeg x) a = upd (zI M a) i.toNatClampNeg x from funext fun j => by simp [upd, zI, zsI, zup]]) zfar_I)]
  exact hP1
theorem z_zast (hx : p.tables.exec = Jvm.exec) (hb : c.code = cc) (hK : va_K D vwCl (ztys cy) s) (hL : zSh ad L K) (hW : zWd D cy ad L K len M H) (hS : va_S (zA ad L s.heap.size) s.heap H locs) {i x : Int32} (h : zok K len a 13 i = true) (hn : vp_nar .boolean x = x) (hdg : decode cc pc = .ok (.bastore, 1))
    (kk : ∀ (H : Heap) (locs : List Loc), zWd D cy ad L K len (zsI M a i.toNatClampNeg x) H → va_S (zA ad L s.heap.size) s.heap H locs → W p l e R s m args below meth c H locs cells slots Q (F0 m (pc + 1) ls rest)) : W p l e R s m args below meth c H locs cells slots Q (F0 m pc ls (.int x :: .int i :: .ref (ad a) :: rest)) := by
  obtain ⟨hKa, hin⟩ := zok_in h
  have ha : a ∈ L := hL.2.1 a (by omega)
  have hD : va_D (zA ad L s.heap.size) (zpl ad L (zent cy ad K len M)) := zpl_D hL _
  obtain ⟨q0, hq, he⟩ := zpl_get (E := zent cy ad K len M) ha
  have he2 := he
  rw [zent_Z hKa] at he2
  refine va_zast hx hb hK (show va_P D vwCl (zpl ad L (zent cy ad K len M)) H from hW) hD hS q0 2 he2 rfl hin hdg (fun H1 locs1 hP1 _ hS1 => kk H1 locs1 ?_ hS1)
  rw [zpl_set hL.1 hq, hn] at hP1
  show va_P D vwCl (zpl ad L (zent cy ad K len _)) H1
  rw [← zpl_congr (f := va_up (zent cy ad K len M) a (.inl (cy 2, len a, .inl (upd (zI M a) i.toNatClampNeg x)))) (zup_at (by rw [zent_Z hKa, show zI (zsI M a i.toNatClampNeg x) a = upd (zI M a) i.toNatClampNeg x from funext fun j => by simp [upd, zI, zsI, zup]]) zfar_I)]
  exact hP1
theorem z_last (hx : p.tables.exec = Jvm.exec) (hb : c.code = cc) (hK : va_K D vwCl (ztys cy) s) (hL : zSh ad L K) (hW : zWd D cy ad L K len M H) (hS : va_S (zA ad L s.heap.size) s.heap H locs) {i : Int32} {x : Int64} (h : zok K len a 12 i = true) (hdg : decode cc pc = .ok (.lastore, 1))
    (kk : ∀ (H : Heap) (locs : List Loc), zWd D cy ad L K len (zsJ M a i.toNatClampNeg x) H → va_S (zA ad L s.heap.size) s.heap H locs → W p l e R s m args below meth c H locs cells slots Q (F0 m (pc + 1) ls rest)) : W p l e R s m args below meth c H locs cells slots Q (F0 m pc ls (.long x :: .int i :: .ref (ad a) :: rest)) := by
  obtain ⟨hKa, hin⟩ := zok_in h
  have ha : a ∈ L := hL.2.1 a (by omega)
  have hD : va_D (zA ad L s.heap.size) (zpl ad L (zent cy ad K len M)) := zpl_D hL _
  obtain ⟨q0, hq, he⟩ := zpl_get (E := zent cy ad K len M) ha
  have he2 := he
  rw [zent_J hKa] at he2
  refine va_last hx hb hK (show va_P D vwCl (zpl ad L (zent cy ad K len M)) H from hW) hD hS q0 1 he2 rfl hin hdg (fun H1 locs1 hP1 _ hS1 => kk H1 locs1 ?_ hS1)
  rw [zpl_set hL.1 hq] at hP1
  show va_P D vwCl (zpl ad L (zent cy ad K len _)) H1
  rw [← zpl_congr (f := va_up (zent cy ad K len M) a (.inl (cy 1, len a, .inr (.inl (vp_updL (zJ M a) i.toNatClampNeg x))))) (zup_at (by rw [zent_J hKa, show zJ (zsJ M a i.toNatClampNeg x) a = vp_updL (zJ M a) i.toNatClampNeg x from funext fun j => by simp [vp_updL, zJ, zsJ, zup]]) zfar_J)]
  exact hP1
theorem z_dast (hx : p.tables.exec = Jvm.exec) (hb : c.code = cc) (hK : va_K D vwCl (ztys cy) s) (hL : zSh ad L K) (hW : zWd D cy ad L K len M H) (hS : va_S (zA ad L s.heap.size) s.heap H locs) {i : Int32} {x : UInt64} (h : zok K len a 17 i = true) (hdg : decode cc pc = .ok (.dastore, 1))
    (kk : ∀ (H : Heap) (locs : List Loc), zWd D cy ad L K len (zsD M a i.toNatClampNeg x) H → va_S (zA ad L s.heap.size) s.heap H locs → W p l e R s m args below meth c H locs cells slots Q (F0 m (pc + 1) ls rest)) : W p l e R s m args below meth c H locs cells slots Q (F0 m pc ls (.double x :: .int i :: .ref (ad a) :: rest)) := by
  obtain ⟨hKa, hin⟩ := zok_in h
  have ha : a ∈ L := hL.2.1 a (by omega)
  have hD : va_D (zA ad L s.heap.size) (zpl ad L (zent cy ad K len M)) := zpl_D hL _
  obtain ⟨q0, hq, he⟩ := zpl_get (E := zent cy ad K len M) ha
  have he2 := he
  rw [zent_D hKa] at he2
  refine va_dast hx hb hK (show va_P D vwCl (zpl ad L (zent cy ad K len M)) H from hW) hD hS q0 6 he2 rfl hin hdg (fun H1 locs1 hP1 _ hS1 => kk H1 locs1 ?_ hS1)
  rw [zpl_set hL.1 hq] at hP1
  show va_P D vwCl (zpl ad L (zent cy ad K len _)) H1
  rw [← zpl_congr (f := va_up (zent cy ad K len M) a (.inl (cy 6, len a, .inr (.inr (.inr (.inl (vf_upd (zD M a) i.toNatClampNeg x))))))) (zup_at (by rw [zent_D hKa, show zD (zsD M a i.toNatClampNeg x) a = vf_upd (zD M a) i.toNatClampNeg x from funext fun j => by simp [vf_upd, zD, zsD, zup]]) zfar_D)]
  exact hP1
end ZR
section ZC
variable {p : Program} {l : Launch} {e : Env} {R : Room} {s : State} {m : MethodId} {args : Array Value} {below : List Frame} {meth : Method} {c : Code} {H : Heap} {locs : List Loc} {cells slots : Nat} {Q : State → Prop}
variable {cc : ByteArray} {pc : Nat} {ls : Array Slot} {rest : List Value} {D : va_G} {cy : Nat → ClassId} {ad : Nat → Nat} {L : List Nat} {K len : Nat → Nat} {a : Nat} {M M' : ZM}
theorem zA_mono {sz sz' : Nat} (h : sz ≤ sz') : ∀ q, zA ad L sz' q → zA ad L sz q := fun _ h1 => h1.elim Or.inl (fun h2 => Or.inr (Nat.le_trans h h2))
theorem z_iret (hx : p.tables.exec = Jvm.exec) (hb : c.code = cc) (hr : meth.sig.returnType = some .int) (hlocks : meth.locks = false) (hW : zWd D cy ad L K len M H) (hS : va_S (zA ad L s.heap.size) s.heap H locs) {v r : Int32} (hv : v = r) (hM : M = M') (hdg : decode cc pc = .ok (.ireturn, 1)) : W p l e R s m args below meth c H locs cells slots (MQ below (zQi D cy ad L K len r M' s.heap.size) args s cells slots (zA ad L s.heap.size)) (F0 m pc ls [.int v]) := by
  subst hv; subst hM
  exact W.iret hx hb hr (fun t ht _ => ⟨⟨v, (), rfl, rfl, (congrArg (zWd D cy ad L K len M) ht).mpr hW⟩, hS.F ht⟩) hS.2.2 hdg hlocks
/-- 0 or 1 -/
def zbo (v : Int32) : Bool := v == 0 || v == 1
theorem zbo_nar {v : Int32} (h : zbo v = true) : narrow .boolean (.int v) = .int v := by
  simp only [zbo, Bool.or_eq_true, beq_iff_eq] at h
  rcases h with rfl | rfl <;> decide
theorem z_zret (hx : p.tables.exec = Jvm.exec) (hb : c.code = cc) (hr : meth.sig.returnType = some .boolean) (hlocks : meth.locks = false) (hW : zWd D cy ad L K len M H) (hS : va_S (zA ad L s.heap.size) s.heap H locs) {v r : Int32} (hn : zbo v = true) (hv : v = r) (hM : M = M') (hdg : decode cc pc = .ok (.ireturn, 1)) : W p l e R s m args below meth c H locs cells slots (MQ below (zQi D cy ad L K len r M' s.heap.size) args s cells slots (zA ad L s.heap.size)) (F0 m pc ls [.int v]) := by
  subst hv; subst hM
  exact W.zret hx hb hr (zbo_nar hn) (fun t ht _ => ⟨⟨v, (), rfl, rfl, (congrArg (zWd D cy ad L K len M) ht).mpr hW⟩, hS.F ht⟩) hS.2.2 hdg hlocks
theorem z_lret (hx : p.tables.exec = Jvm.exec) (hb : c.code = cc) (hr : meth.sig.returnType = some .long) (hlocks : meth.locks = false) (hW : zWd D cy ad L K len M H) (hS : va_S (zA ad L s.heap.size) s.heap H locs) {v r : Int64} (hv : v = r) (hM : M = M') (hdg : decode cc pc = .ok (.lreturn, 1)) : W p l e R s m args below meth c H locs cells slots (MQ below (zQl D cy ad L K len r M' s.heap.size) args s cells slots (zA ad L s.heap.size)) (F0 m pc ls [.long v]) := by
  subst hv; subst hM
  exact W.lret hx hb hr (fun t ht _ => ⟨⟨v, (), rfl, rfl, (congrArg (zWd D cy ad L K len M) ht).mpr hW⟩, hS.F ht⟩) hS.2.2 hdg hlocks
theorem z_dret (hx : p.tables.exec = Jvm.exec) (hb : c.code = cc) (hr : meth.sig.returnType = some .double) (hlocks : meth.locks = false) (hW : zWd D cy ad L K len M H) (hS : va_S (zA ad L s.heap.size) s.heap H locs) {v r : UInt64} (hv : v = r) (hM : M = M') (hdg : decode cc pc = .ok (.dreturn, 1)) : W p l e R s m args below meth c H locs cells slots (MQ below (zQd D cy ad L K len r M' s.heap.size) args s cells slots (zA ad L s.heap.size)) (F0 m pc ls [.double v]) := by
  subst hv; subst hM
  exact W.dret hx hb hr (fun t ht _ => ⟨⟨v, (), rfl, rfl, (congrArg (zWd D cy ad L K len M) ht).mpr hW⟩, hS.F ht⟩) hS.2.2 hdg hlocks
theorem z_aret (hx : p.tables.exec = Jvm.exec) (hb : c.code = cc) {C : String} (hr : meth.sig.returnType = some (.object C)) (hlocks : meth.locks = false) (hW : zWd D cy ad L K len M H) (hS : va_S (zA ad L s.heap.size) s.heap H locs) {v r : Nat} (hv : v = r) (hM : M = M') (hdg : decode cc pc = .ok (.areturn, 1)) : W p l e R s m args below meth c H locs cells slots (MQ below (zQr D cy ad L K len r M' s.heap.size) args s cells slots (zA ad L s.heap.size)) (F0 m pc ls [.ref (ad v)]) := by
  subst hv; subst hM
  exact W.aret hx hb hr (Or.inl ⟨_, rfl⟩) (Or.inr ⟨ad v, rfl⟩) (fun t ht _ => ⟨⟨some (ad v), (), rfl, rfl, (congrArg (zWd D cy ad L K len M) ht).mpr hW⟩, hS.F ht⟩) hS.2.2 hdg hlocks
theorem z_vret (hx : p.tables.exec = Jvm.exec) (hb : c.code = cc) (hr : meth.sig.returnType = none) (hlocks : meth.locks = false) (hW : zWd D cy ad L K len M H) (hS : va_S (zA ad L s.heap.size) s.heap H locs) (hM : M = M') (hdg : decode cc pc = .ok (.return_, 1)) : W p l e R s m args below meth c H locs cells slots (MQ below (zQv D cy ad L K len M' s.heap.size) args s cells slots (zA ad L s.heap.size)) (F0 m pc ls []) := by
  subst hM
  exact W.vret hx hb hr (fun t ht _ => ⟨⟨(), rfl, trivial, (congrArg (zWd D cy ad L K len M) ht).mpr hW⟩, hS.F ht⟩) hS.2.2 hdg hlocks
theorem z_calli (hS : va_S (zA ad L s.heap.size) s.heap H locs) {mc ms : Nat} {st0 : List Value} {r : Int32} {av : Array Value} (hr : va_Run p l e R s m args below meth c H locs cells slots mc ms (F0 m pc ls st0) rest (zQi D cy ad L K len r M' H.size av) (zA ad L H.size))
    (kk : ∀ (H : Heap) (locs : List Loc), zWd D cy ad L K len M' H → va_S (zA ad L s.heap.size) s.heap H locs → W p l e R s m args below meth c H locs (cells + mc) (slots + ms) Q (F0 m (pc + 3) ls (.int r :: rest))) : W p l e R s m args below meth c H locs cells slots Q (F0 m pc ls st0) :=
  va_calli hr hS (fun q _ h => zA_mono hS.1 q h) (fun q h => zA_mono hS.1 q h) (fun x _ t H1 locs1 ht _ hp hb _ _ hS1 => by subst hp; subst ht; exact kk _ _ hb hS1)
theorem z_calll (hS : va_S (zA ad L s.heap.size) s.heap H locs) {mc ms : Nat} {st0 : List Value} {r : Int64} {av : Array Value} (hr : va_Run p l e R s m args below meth c H locs cells slots mc ms (F0 m pc ls st0) rest (zQl D cy ad L K len r M' H.size av) (zA ad L H.size))
    (kk : ∀ (H : Heap) (locs : List Loc), zWd D cy ad L K len M' H → va_S (zA ad L s.heap.size) s.heap H locs → W p l e R s m args below meth c H locs (cells + mc) (slots + ms) Q (F0 m (pc + 3) ls (.long r :: rest))) : W p l e R s m args below meth c H locs cells slots Q (F0 m pc ls st0) :=
  va_calll hr hS (fun q _ h => zA_mono hS.1 q h) (fun q h => zA_mono hS.1 q h) (fun x _ t H1 locs1 ht _ hp hb _ _ hS1 => by subst hp; subst ht; exact kk _ _ hb hS1)
theorem z_calld (hS : va_S (zA ad L s.heap.size) s.heap H locs) {mc ms : Nat} {st0 : List Value} {r : UInt64} {av : Array Value} (hr : va_Run p l e R s m args below meth c H locs cells slots mc ms (F0 m pc ls st0) rest (zQd D cy ad L K len r M' H.size av) (zA ad L H.size))
    (kk : ∀ (H : Heap) (locs : List Loc), zWd D cy ad L K len M' H → va_S (zA ad L s.heap.size) s.heap H locs → W p l e R s m args below meth c H locs (cells + mc) (slots + ms) Q (F0 m (pc + 3) ls (.double r :: rest))) : W p l e R s m args below meth c H locs cells slots Q (F0 m pc ls st0) :=
  va_calld hr hS (fun q _ h => zA_mono hS.1 q h) (fun q h => zA_mono hS.1 q h) (fun x _ t H1 locs1 ht _ hp hb _ _ hS1 => by subst hp; subst ht; exact kk _ _ hb hS1)
theorem z_callv (hS : va_S (zA ad L s.heap.size) s.heap H locs) {mc ms : Nat} {st0 : List Value} {av : Array Value} (hr : va_Run p l e R s m args below meth c H locs cells slots mc ms (F0 m pc ls st0) rest (zQv D cy ad L K len M' H.size av) (zA ad L H.size))
    (kk : ∀ (H : Heap) (locs : List Loc), zWd D cy ad L K len M' H → va_S (zA ad L s.heap.size) s.heap H locs → W p l e R s m args below meth c H locs (cells + mc) (slots + ms) Q (F0 m (pc + 3) ls rest)) : W p l e R s m args below meth c H locs cells slots Q (F0 m pc ls st0) :=
  va_callv hr hS (fun q _ h => zA_mono hS.1 q h) (fun q h => zA_mono hS.1 q h) (fun _ t H1 locs1 ht _ _ hb _ _ hS1 => by subst ht; exact kk _ _ hb hS1)
theorem z_callr (hS : va_S (zA ad L s.heap.size) s.heap H locs) {mc ms : Nat} {st0 : List Value} {r : Nat} {av : Array Value} (hr : va_Run p l e R s m args below meth c H locs cells slots mc ms (F0 m pc ls st0) rest (zQr D cy ad L K len r M' H.size av) (zA ad L H.size))
    (kk : ∀ (H : Heap) (locs : List Loc), zWd D cy ad L K len M' H → va_S (zA ad L s.heap.size) s.heap H locs → W p l e R s m args below meth c H locs (cells + mc) (slots + ms) Q (F0 m (pc + 3) ls (.ref (ad r) :: rest))) : W p l e R s m args below meth c H locs cells slots Q (F0 m pc ls st0) :=
  va_callq hr hS (fun q _ h => zA_mono hS.1 q h) (fun q h => zA_mono hS.1 q h) (fun x _ t H1 locs1 ht _ hp hb _ _ hS1 => by subst hp; subst ht; exact kk _ _ hb hS1)
theorem z_preS (hK : va_K D vwCl (ztys cy) s) (hE : zEnv (zA ad L s.heap.size) s s.heap) (hW : zWd D cy ad L K len M H) (hS : va_S (zA ad L s.heap.size) s.heap H locs) (As : List Value) : PreS s H (zPre D cy ad L K len H.size As M) As :=
  ⟨zPre_blind, fun U hU hw => ⟨rfl, by rw [hU], by rw [hU]; exact hW, va_K.moved hw.alike hK, by rw [hU]; exact hE.next hw hS (zA_mono hS.1)⟩⟩
theorem z_preV (hK : va_K D vwCl (ztys cy) s) (hL : zSh ad L K) (hE : zEnv (zA ad L s.heap.size) s s.heap) (hW : zWd D cy ad L K len M H) (hS : va_S (zA ad L s.heap.size) s.heap H locs) {b ci : Nat} {q : vw_C} (hKb : K b = ci + 1) (h8 : ci < 8) (hc : vwCl[ci]? = some q) (As : List Value) : PreV s H q.1 (ad b) (zPre D cy ad L K len H.size (.ref (ad b) :: As) M) As := by
  obtain ⟨q0, -, he⟩ := zpl_get (E := zent cy ad K len M) (hL.2.1 b (by omega))
  rw [zent_obj hKb h8] at he
  exact ⟨zPre_blind, va_recv hK (show va_P D vwCl (zpl ad L (zent cy ad K len M)) H from hW) hc he, fun U hU hw => ⟨rfl, by rw [hU], by rw [hU]; exact hW, va_K.moved hw.alike hK, by rw [hU]; exact hE.next hw hS (zA_mono hS.1)⟩⟩
theorem z_lcmp {x y : Int64} : (lg_cmp x y = 0 ↔ x = y) ∧ (lg_cmp x y < 0 ↔ x < y) ∧ (lg_cmp x y ≤ 0 ↔ x ≤ y) ∧ (0 < lg_cmp x y ↔ y < x) ∧ (0 ≤ lg_cmp x y ↔ y ≤ x) := by
  unfold lg_cmp
  have t := Int64.le_total x y
  by_cases h : x > y
  · rw [if_pos h]
    have h1 : y < x := h
    rw [Int64.lt_iff_toInt_lt] at h1
    simp only [Int64.lt_iff_toInt_lt, Int64.le_iff_toInt_le, ← Int64.toInt_inj]
    refine ⟨⟨fun q => absurd q (by decide), fun q => by omega⟩, ⟨fun q => absurd q (by decide), fun q => by omega⟩, ⟨fun q => absurd q (by decide), fun q => by omega⟩, ⟨fun _ => h1, fun _ => by decide⟩, ⟨fun _ => by omega, fun _ => by decide⟩⟩
  · rw [if_neg h]
    have h1 : ¬ y < x := h
    by_cases h2 : x = y
    · rw [if_pos h2]
      subst h2
      refine ⟨⟨fun _ => rfl, fun _ => rfl⟩, ?_⟩
      simp only [Int64.lt_iff_toInt_lt, Int64.le_iff_toInt_le]
      exact ⟨⟨fun q => absurd q (by decide), fun q => by omega⟩, ⟨fun _ => by omega, fun _ => by decide⟩, ⟨fun q => absurd q (by decide), fun q => by omega⟩, ⟨fun _ => by omega, fun _ => by decide⟩⟩
    · rw [if_neg h2]
      rw [← Int64.toInt_inj] at h2
      rw [Int64.lt_iff_toInt_lt] at h1
      simp only [Int64.lt_iff_toInt_lt, Int64.le_iff_toInt_le, ← Int64.toInt_inj]
      exact ⟨⟨fun q => absurd q (by decide), fun q => by omega⟩, ⟨fun _ => by omega, fun _ => by decide⟩, ⟨fun _ => by omega, fun _ => by decide⟩, ⟨fun q => absurd q (by decide), fun q => by omega⟩, ⟨fun q => absurd q (by decide), fun q => by omega⟩⟩
theorem z_lc_eq (hx : p.tables.exec = Jvm.exec) (hb : c.code = cc) {x y : Int64} {off : Int} {tgt : Nat} (hd0 : decode cc pc = .ok (.lcmp, 1)) (hdg : decode cc (pc + 1) = .ok (.ifCond .eq off, 3)) (ht : ((pc + 1 : Nat) : Int) + off = (tgt : Int))
    (kt : x = y → W p l e R s m args below meth c H locs cells slots Q (F0 m tgt ls rest)) (kf : ¬ x = y → W p l e R s m args below meth c H locs cells slots Q (F0 m (pc + 4) ls rest)) : W p l e R s m args below meth c H locs cells slots Q (F0 m pc ls (.long y :: .long x :: rest)) :=
  W.lcmp hx hb hd0 (lv_if_eq hx hb hdg ht (fun h => kt (z_lcmp.1.mp h)) (fun h => kf (fun q => h (z_lcmp.1.mpr q))))
theorem z_lc_ne (hx : p.tables.exec = Jvm.exec) (hb : c.code = cc) {x y : Int64} {off : Int} {tgt : Nat} (hd0 : decode cc pc = .ok (.lcmp, 1)) (hdg : decode cc (pc + 1) = .ok (.ifCond .ne off, 3)) (ht : ((pc + 1 : Nat) : Int) + off = (tgt : Int))
    (kt : ¬ x = y → W p l e R s m args below meth c H locs cells slots Q (F0 m tgt ls rest)) (kf : x = y → W p l e R s m args below meth c H locs cells slots Q (F0 m (pc + 4) ls rest)) : W p l e R s m args below meth c H locs cells slots Q (F0 m pc ls (.long y :: .long x :: rest)) :=
  W.lcmp hx hb hd0 (lv_if_ne hx hb hdg ht (fun h => kt (fun q => h (z_lcmp.1.mpr q))) (fun h => kf (z_lcmp.1.mp h)))
theorem z_lc_lt (hx : p.tables.exec = Jvm.exec) (hb : c.code = cc) {x y : Int64} {off : Int} {tgt : Nat} (hd0 : decode cc pc = .ok (.lcmp, 1)) (hdg : decode cc (pc + 1) = .ok (.ifCond .lt off, 3)) (ht : ((pc + 1 : Nat) : Int) + off = (tgt : Int))
    (kt : x < y → W p l e R s m args below meth c H locs cells slots Q (F0 m tgt ls rest)) (kf : ¬ x < y → W p l e R s m args below meth c H locs cells slots Q (F0 m (pc + 4) ls rest)) : W p l e R s m args below meth c H locs cells slots Q (F0 m pc ls (.long y :: .long x :: rest)) :=
  W.lcmp hx hb hd0 (lv_if_lt hx hb hdg ht (fun h => kt (z_lcmp.2.1.mp h)) (fun h => kf (fun q => h (z_lcmp.2.1.mpr q))))
theorem z_lc_le (hx : p.tables.exec = Jvm.exec) (hb : c.code = cc) {x y : Int64} {off : Int} {tgt : Nat} (hd0 : decode cc pc = .ok (.lcmp, 1)) (hdg : decode cc (pc + 1) = .ok (.ifCond .le off, 3)) (ht : ((pc + 1 : Nat) : Int) + off = (tgt : Int))
    (kt : x ≤ y → W p l e R s m args below meth c H locs cells slots Q (F0 m tgt ls rest)) (kf : ¬ x ≤ y → W p l e R s m args below meth c H locs cells slots Q (F0 m (pc + 4) ls rest)) : W p l e R s m args below meth c H locs cells slots Q (F0 m pc ls (.long y :: .long x :: rest)) :=
  W.lcmp hx hb hd0 (lv_if_le hx hb hdg ht (fun h => kt (z_lcmp.2.2.1.mp h)) (fun h => kf (fun q => h (z_lcmp.2.2.1.mpr q))))
theorem z_lc_gt (hx : p.tables.exec = Jvm.exec) (hb : c.code = cc) {x y : Int64} {off : Int} {tgt : Nat} (hd0 : decode cc pc = .ok (.lcmp, 1)) (hdg : decode cc (pc + 1) = .ok (.ifCond .gt off, 3)) (ht : ((pc + 1 : Nat) : Int) + off = (tgt : Int))
    (kt : y < x → W p l e R s m args below meth c H locs cells slots Q (F0 m tgt ls rest)) (kf : ¬ y < x → W p l e R s m args below meth c H locs cells slots Q (F0 m (pc + 4) ls rest)) : W p l e R s m args below meth c H locs cells slots Q (F0 m pc ls (.long y :: .long x :: rest)) :=
  W.lcmp hx hb hd0 (lv_if_gt hx hb hdg ht (fun h => kt (z_lcmp.2.2.2.1.mp h)) (fun h => kf (fun q => h (z_lcmp.2.2.2.1.mpr q))))
theorem z_lc_ge (hx : p.tables.exec = Jvm.exec) (hb : c.code = cc) {x y : Int64} {off : Int} {tgt : Nat} (hd0 : decode cc pc = .ok (.lcmp, 1)) (hdg : decode cc (pc + 1) = .ok (.ifCond .ge off, 3)) (ht : ((pc + 1 : Nat) : Int) + off = (tgt : Int))
    (kt : y ≤ x → W p l e R s m args below meth c H locs cells slots Q (F0 m tgt ls rest)) (kf : ¬ y ≤ x → W p l e R s m args below meth c H locs cells slots Q (F0 m (pc + 4) ls rest)) : W p l e R s m args below meth c H locs cells slots Q (F0 m pc ls (.long y :: .long x :: rest)) :=
  W.lcmp hx hb hd0 (lv_if_ge hx hb hdg ht (fun h => kt (z_lcmp.2.2.2.2.mp h)) (fun h => kf (fun q => h (z_lcmp.2.2.2.2.mpr q))))
theorem zhvR {fs : List Value} {k : Nat} {r : Option Nat} {b : Nat} (e : r = some b) (h : fs[k]? = some (va_rf (r.map ad))) : fs[k]? = some (.ref (ad b)) := by subst e; exact h
end ZC
/-- a value gets a name -/
def zl {α β : Type} (x : α) (f : α → β) : β := f x
theorem zl_some {α β : Type} {x : α} {f : α → β} {r : β} (h : zl x f = r) : ∃ y, y = x ∧ f y = r := ⟨x, rfl, h⟩
theorem z_entry {l : Launch} {y : MethodName} {ws ws' : List Cond} {rm : Room} {cc : ByteArray} {nL : Nat} {ret : Option FieldType} {own : String} {D : va_G} {cy : Nat → ClassId} {ad : Nat → Nat} {L : List Nat} {K len : Nat → Nat} {av : List Value} {M : ZM} {Qf : Nat → Array Value → State → Outcome → State → Prop} {mc ms sz : Nat}
    (hy : plainName y.cls = true) (hw : ws = Cond.code y cc nL ret :: ws') (ho : y.cls = own) (hL : zSh ad L K) (hn : (lg_sl av).length ≤ nL)
    (body : ∀ (p : Program) (e : Env) (s : State) (m : MethodId) (args : Array Value) (below : List Frame) (meth : Method) (c : Code), zCx p s m c meth args cc nL ws own ret D cy ad L K → ∀ (H : Heap) (locs : List Loc) (ls : Array Slot), zWd D cy ad L K len M H → va_S (zA ad L s.heap.size) s.heap H locs → lv_has ls nL (lv_args 0 av) → W p l e (headSpec ws rm).room s m args below meth c H locs 0 0 (MQ below (Qf s.heap.size) args s mc ms (zA ad L s.heap.size)) (F0 m 0 ls [])) : Met l y ws rm (zPre D cy ad L K len sz av M) (Qf sz) mc ms (zA ad L sz) := by
  refine Met.ofW (cc := cc) (maxL := nL) (ret := ret) hy hw ?_
  intro p e s m args below meth c s₁ B hml hv
  obtain ⟨rfl, hsz, hW, hK, hE⟩ := hv
  subst hsz
  rw [lg_entry_eq]
  exact body p e s m _ below meth c ⟨B.exec, B.bytes, B.returns, hml, by rw [← ho]; exact findClass_of_methodNamed B.named, atoms_spec (ws := ws) B.pre, B.notSynchronized, hK, hL, hE⟩ s.heap [] _ hW va_S.rf (lv_entry av hn)
/-- as Met.ofW, for a method of a class that the machine's table of natives names, but not this method -/
theorem z_ofWF {l : Launch} {y : MethodName} {ws ws' : List Cond} {rm : Room} {Pc : Array Value → State → Prop} {Qc : Array Value → State → Outcome → State → Prop} {mc ms : Nat} {free : Addr → Prop} {cc : ByteArray} {maxL : Nat} {ret : Option FieldType}
    (hy : plainFor y = true) (hw : ws = Cond.code y cc maxL ret :: ws')
    (body : ∀ p e s m args below meth c s₁, BodyLoose p l y (headSpec ws rm) cc maxL ret e s m args below meth c s₁ → c.maxLocals = maxL → Pc args s →
      W p l e (headSpec ws rm).room s m args below meth c s.heap [] 0 0 (MQ below Qc args s mc ms free) (entryFrame m args maxL)) : Met l y ws rm Pc Qc mc ms free := by
  refine MetFree.of_bodySF (code := cc) (maxLocals := maxL) (ret := ret) hy ?_ ?_
  · intro args s m h hn
    obtain ⟨meth, c, h1, h2, h3, h4, h5, h6, -, -⟩ := Cond.code_spec hn (atoms_spec (ws := ws) h _ (by rw [hw]; exact List.mem_cons_self))
    exact ⟨meth, c, h1, h2, h3, h4, h5, h6⟩
  · intro p e s m args below meth c s₁ B hml hP _
    have hh0 : s₁.heap = s.heap := by rw [B.state]; rfl
    obtain ⟨t, a1, o, b1, b2, b3⟩ := body p e s m args below meth c s₁ B hml hP s₁ hh0 (Stand.of_body B)
    exact ⟨t, o, a1, b1, b2, ⟨b3.1, b3.2⟩⟩
theorem z_entryF {l : Launch} {y : MethodName} {ws ws' : List Cond} {rm : Room} {cc : ByteArray} {nL : Nat} {ret : Option FieldType} {own : String} {D : va_G} {cy : Nat → ClassId} {ad : Nat → Nat} {L : List Nat} {K len : Nat → Nat} {av : List Value} {M : ZM} {Qf : Nat → Array Value → State → Outcome → State → Prop} {mc ms sz : Nat}
    (hy : plainFor y = true) (hw : ws = Cond.code y cc nL ret :: ws') (ho : y.cls = own) (hL : zSh ad L K) (hn : (lg_sl av).length ≤ nL)
    (body : ∀ (p : Program) (e : Env) (s : State) (m : MethodId) (args : Array Value) (below : List Frame) (meth : Method) (c : Code), zCx p s m c meth args cc nL ws own ret D cy ad L K → ∀ (H : Heap) (locs : List Loc) (ls : Array Slot), zWd D cy ad L K len M H → va_S (zA ad L s.heap.size) s.heap H locs → lv_has ls nL (lv_args 0 av) → W p l e (headSpec ws rm).room s m args below meth c H locs 0 0 (MQ below (Qf s.heap.size) args s mc ms (zA ad L s.heap.size)) (F0 m 0 ls [])) : Met l y ws rm (zPre D cy ad L K len sz av M) (Qf sz) mc ms (zA ad L sz) := by
  refine z_ofWF (cc := cc) (maxL := nL) (ret := ret) hy hw ?_
  intro p e s m args below meth c s₁ B hml hv
  obtain ⟨rfl, hsz, hW, hK, hE⟩ := hv
  subst hsz
  rw [lg_entry_eq]
  exact body p e s m _ below meth c ⟨B.exec, B.bytes, B.returns, hml, by rw [← ho]; exact findClass_of_methodNamed B.named, atoms_spec (ws := ws) B.pre, B.notSynchronized, hK, hL, hE⟩ s.heap [] _ hW va_S.rf (lv_entry av hn)
/-- System.arraycopy: may it run, and the memory behind it -/
def zcp (K len : Nat → Nat) (t a0 a : Nat) (sp dp n : Int32) : Bool := K a0 == t && (K a == t && (!decide (sp < 0) && (!decide (dp < 0) && (!decide (n < 0) && (decide (sp.toNatClampNeg + n.toNatClampNeg ≤ len a0) && decide (dp.toNatClampNeg + n.toNatClampNeg ≤ len a))))))
theorem zcp_in {K len : Nat → Nat} {t a0 a : Nat} {sp dp n : Int32} (h : zcp K len t a0 a sp dp n = true) : K a0 = t ∧ K a = t ∧ ¬ sp < 0 ∧ ¬ dp < 0 ∧ ¬ n < 0 ∧ sp.toNatClampNeg + n.toNatClampNeg ≤ len a0 ∧ dp.toNatClampNeg + n.toNatClampNeg ≤ len a := by
  simp only [zcp, Bool.and_eq_true, beq_iff_eq, Bool.not_eq_true', decide_eq_false_iff_not, decide_eq_true_eq] at h
  exact h
def zcI (M : ZM) (a0 a sp dp n : Nat) : ZM := ((fun b j => if b = a ∧ dp ≤ j ∧ j < dp + n then zI M a0 (sp + (j - dp)) else M.1 b j), M.2)
def zcJ (M : ZM) (a0 a sp dp n : Nat) : ZM := (M.1, (fun b j => if b = a ∧ dp ≤ j ∧ j < dp + n then zJ M a0 (sp + (j - dp)) else M.2.1 b j), M.2.2)
section ZP
variable {p : Program} {l : Launch} {e : Env} {R : Room} {s : State} {m : MethodId} {args : Array Value} {below : List Frame} {meth : Method} {c : Code} {H : Heap} {locs : List Loc} {cells slots : Nat} {Q : State → Prop}
variable {cc : ByteArray} {pc : Nat} {ls : Array Slot} {rest : List Value} {D : va_G} {cy : Nat → ClassId} {ad : Nat → Nat} {L : List Nat} {K len : Nat → Nat} {a : Nat} {M : ZM}
theorem z_copyI (hx : p.tables.exec = Jvm.exec) (hb : c.code = cc) (hml : c.maxLocals = ls.size) {own : String} {index : Nat} (hown : s.vm.findClass own = some m.cls) (hlink : (Cond.methodLink own index arraycopyName).before args s = true) (hnat : (Cond.native arraycopyName).before args s = true) (hstat : (Cond.static arraycopyName).before args s = true) (hini : (Cond.initialized "java/lang/System").before args s = true)
    (hK : va_K D vwCl (ztys cy) s) (hL : zSh ad L K) (hW : zWd D cy ad L K len M H) (hS : va_S (zA ad L s.heap.size) s.heap H locs) {a0 : Nat} {sp dp n : Int32} (h : zcp K len 11 a0 a sp dp n = true)
    (hframes : 1 ≤ R.frames) (hlocals : (rest.map fun v => v.category).sum + (nativeFrameWords "java/lang/System" "arraycopy" 5 + 11) ≤ R.locals) (hdg : decode cc pc = .ok (.invokestatic index, 3))
    (kk : ∀ (H : Heap) (locs : List Loc), zWd D cy ad L K len (zcI M a0 a sp.toNatClampNeg dp.toNatClampNeg n.toNatClampNeg) H → va_S (zA ad L s.heap.size) s.heap H locs → W p l e R s m args below meth c H locs cells slots Q (F0 m (pc + 3) ls rest)) : W p l e R s m args below meth c H locs cells slots Q (F0 m pc ls (.int n :: .int dp :: .ref (ad a) :: .int sp :: .ref (ad a0) :: rest)) := by
  obtain ⟨hK0, hKa, h1, h2, h3, h4, h5⟩ := zcp_in h
  have ha : a ∈ L := hL.2.1 a (by omega)
  have hD : va_D (zA ad L s.heap.size) (zpl ad L (zent cy ad K len M)) := zpl_D hL _
  obtain ⟨q1, hq, he1⟩ := zpl_get (E := zent cy ad K len M) ha
  obtain ⟨q0, -, he0⟩ := zpl_get (E := zent cy ad K len M) (hL.2.1 a0 (by omega))
  have he2 := he1
  rw [zent_I hKa] at he2
  rw [zent_I hK0] at he0
  refine va_copyi hx hb hml hown hlink hnat hstat hini hK (show va_P D vwCl (zpl ad L (zent cy ad K len M)) H from hW) hD hS q0 q1 0 0 he0 he2 (ty := .int) rfl rfl rfl h1 h2 h3 h4 h5 (fun _ _ => rfl) hframes hlocals hdg (fun H1 locs1 hP1 _ hS1 => kk H1 locs1 ?_ hS1)
  rw [zpl_set hL.1 hq] at hP1
  show va_P D vwCl (zpl ad L (zent cy ad K len _)) H1
  rw [← zpl_congr (f := va_up (zent cy ad K len M) a (.inl (cy 0, len a, .inl (va_cpy (zI M a0) (zI M a) sp.toNatClampNeg dp.toNatClampNeg n.toNatClampNeg)))) (zup_at (M' := zcI M a0 a sp.toNatClampNeg dp.toNatClampNeg n.toNatClampNeg) (by rw [zent_I hKa, show zI (zcI M a0 a sp.toNatClampNeg dp.toNatClampNeg n.toNatClampNeg) a = va_cpy (zI M a0) (zI M a) sp.toNatClampNeg dp.toNatClampNeg n.toNatClampNeg from funext fun j => by simp [va_cpy, zI, zcI]]) (fun b hb => ⟨fun j => by simp [zI, zcI, hb], fun _ => rfl, fun _ => rfl, fun _ => rfl⟩))]
  exact hP1
theorem z_copyJ (hx : p.tables.exec = Jvm.exec) (hb : c.code = cc) (hml : c.maxLocals = ls.size) {own : String} {index : Nat} (hown : s.vm.findClass own = some m.cls) (hlink : (Cond.methodLink own index arraycopyName).before args s = true) (hnat : (Cond.native arraycopyName).before args s = true) (hstat : (Cond.static arraycopyName).before args s = true) (hini : (Cond.initialized "java/lang/System").before args s = true)
    (hK : va_K D vwCl (ztys cy) s) (hL : zSh ad L K) (hW : zWd D cy ad L K len M H) (hS : va_S (zA ad L s.heap.size) s.heap H locs) {a0 : Nat} {sp dp n : Int32} (h : zcp K len 12 a0 a sp dp n = true)
    (hframes : 1 ≤ R.frames) (hlocals : (rest.map fun v => v.category).sum + (nativeFrameWords "java/lang/System" "arraycopy" 5 + 11) ≤ R.locals) (hdg : decode cc pc = .ok (.invokestatic index, 3))
    (kk : ∀ (H : Heap) (locs : List Loc), zWd D cy ad L K len (zcJ M a0 a sp.toNatClampNeg dp.toNatClampNeg n.toNatClampNeg) H → va_S (zA ad L s.heap.size) s.heap H locs → W p l e R s m args below meth c H locs cells slots Q (F0 m (pc + 3) ls rest)) : W p l e R s m args below meth c H locs cells slots Q (F0 m pc ls (.int n :: .int dp :: .ref (ad a) :: .int sp :: .ref (ad a0) :: rest)) := by
  obtain ⟨hK0, hKa, h1, h2, h3, h4, h5⟩ := zcp_in h
  have ha : a ∈ L := hL.2.1 a (by omega)
  have hD : va_D (zA ad L s.heap.size) (zpl ad L (zent cy ad K len M)) := zpl_D hL _
  obtain ⟨q1, hq, he1⟩ := zpl_get (E := zent cy ad K len M) ha
  obtain ⟨q0, -, he0⟩ := zpl_get (E := zent cy ad K len M) (hL.2.1 a0 (by omega))
  have he2 := he1
  rw [zent_J hKa] at he2
  rw [zent_J hK0] at he0
  refine va_copyl hx hb hml hown hlink hnat hstat hini hK (show va_P D vwCl (zpl ad L (zent cy ad K len M)) H from hW) hD hS q0 q1 1 1 he0 he2 (ty := .long) rfl rfl rfl h1 h2 h3 h4 h5 (fun _ _ => rfl) hframes hlocals hdg (fun H1 locs1 hP1 _ hS1 => kk H1 locs1 ?_ hS1)
  rw [zpl_set hL.1 hq] at hP1
  show va_P D vwCl (zpl ad L (zent cy ad K len _)) H1
  rw [← zpl_congr (f := va_up (zent cy ad K len M) a (.inl (cy 1, len a, .inr (.inl (va_cpy (zJ M a0) (zJ M a) sp.toNatClampNeg dp.toNatClampNeg n.toNatClampNeg))))) (zup_at (M' := zcJ M a0 a sp.toNatClampNeg dp.toNatClampNeg n.toNatClampNeg) (by rw [zent_J hKa, show zJ (zcJ M a0 a sp.toNatClampNeg dp.toNatClampNeg n.toNatClampNeg) a = va_cpy (zJ M a0) (zJ M a) sp.toNatClampNeg dp.toNatClampNeg n.toNatClampNeg from funext fun j => by simp [va_cpy, zJ, zcJ]]) (fun b hb => ⟨fun _ => rfl, fun j => by simp [zJ, zcJ, hb], fun _ => rfl, fun _ => rfl⟩))]
  exact hP1
/-- an index into HEAD_VALUES -/
def zin7 (i : Int32) : Bool := !decide (i < 0) && decide (i.toNatClampNeg < 7)
theorem zin7_in {i : Int32} (h : zin7 i = true) : vp_in i 7 := by
  simp only [zin7, Bool.and_eq_true, Bool.not_eq_true', decide_eq_false_iff_not, decide_eq_true_eq] at h
  exact fun q => q.elim h.1 (fun q => by omega)
end ZP
end
section
/-! METHODS THAT MAY THROW: their outcome is Sum.inl k (the exception zexn k) or Sum.inr r; the memory behind it is told in both cases. -/
def zexn : Nat → String
  | 1 => "java/lang/IndexOutOfBoundsException"
  | 2 => "java/lang/IllegalArgumentException"
  | _ => "java/lang/IllegalStateException"
/-- the other case of an outcome -/
def zx {ρ β : Type} (q : Nat ⊕ ρ) (f : Nat → β) (g : ρ → β) : β := match q with
  | .inl k => f k
  | .inr r => g r
def zvI : Int32 → Option Value := fun r => some (.int r)
def zvJ : Int64 → Option Value := fun r => some (.long r)
def zvR (ad : Nat → Nat) : Nat → Option Value := fun r => some (.ref (ad r))
def zvD : UInt64 → Option Value := fun r => some (.double r)
def zvV : Unit → Option Value := fun _ => none
def zY (D : va_G) (cy : Nat → ClassId) (ad : Nat → Nat) (L : List Nat) (K len : Nat → Nat) {ρ : Type} (vo : ρ → Option Value) (o : Nat ⊕ ρ) (M : ZM) (sz : Nat) : Array Value → State → Outcome → State → Prop := fun _ st oc t =>
  ∃ r, o = .inr r ∧ oc = .returned (vo r) ∧ zWd D cy ad L K len M t.heap ∧ va_F (zA ad L sz) st t
def zX (D : va_G) (cy : Nat → ClassId) (ad : Nat → Nat) (L : List Nat) (K len : Nat → Nat) {ρ : Type} (o : Nat ⊕ ρ) (M : ZM) (sz : Nat) : String → State → State → Prop := fun E st t =>
  ∃ k, o = .inl k ∧ E = zexn k ∧ zWd D cy ad L K len M t.heap ∧ va_F (zA ad L sz) st t
theorem zY_wd {D : va_G} {cy : Nat → ClassId} {ad : Nat → Nat} {L : List Nat} {K len : Nat → Nat} {M : ZM} {H H' : Heap} (hW : zWd D cy ad L K len M H) (h : ∀ q : Nat, q < H.size → H'[q]? = H[q]?) : zWd D cy ad L K len M H' :=
  va_P.kept hW (fun k q hk => h q.1 (hW k q hk).lt)
section ZT
variable {p : Program} {l : Launch} {e : Env} {R : Room} {s : State} {m : MethodId} {args : Array Value} {below : List Frame} {meth : Method} {c : Code} {H : Heap} {locs : List Loc} {cells slots : Nat} {Q : State → Prop}
variable {cc : ByteArray} {pc : Nat} {ls : Array Slot} {rest : List Value} {D : va_G} {cy : Nat → ClassId} {ad : Nat → Nat} {L : List Nat} {K len : Nat → Nat} {a : Nat} {M M' : ZM}
theorem z_xcall (hS : va_S (zA ad L s.heap.size) s.heap H locs) {mc ms : Nat} {st0 : List Value} {ρ : Type} {vo : ρ → Option Value} {o : Nat ⊕ ρ} {av : Array Value} (hr : vx_Run p l e R s m args below meth c H locs cells slots mc ms (F0 m pc ls st0) rest (zY D cy ad L K len vo o M' H.size av) (zX D cy ad L K len o M' H.size) (zA ad L H.size))
    (kx : ∀ k, o = .inl k → ∀ (H : Heap) (locs : List Loc) (q : Addr) (ce : Cell), zWd D cy ad L K len M' H → va_S (zA ad L s.heap.size) s.heap H locs → H[q]? = some ce → ce.vm = .none → s.vm.findClass (zexn k) = some ce.cls → vx_W p l e R s m args below meth c H locs (cells + mc) (slots + ms) Q (F0 m pc ls rest) q)
    (kk : ∀ r, o = .inr r → ∀ (H : Heap) (locs : List Loc), zWd D cy ad L K len M' H → va_S (zA ad L s.heap.size) s.heap H locs → W p l e R s m args below meth c H locs (cells + mc) (slots + ms) Q (F0 m (pc + 3) ls ((vo r).toList ++ rest))) : W p l e R s m args below meth c H locs cells slots Q (F0 m pc ls st0) := by
  intro T hT X
  have hs9 : ∀ (t T' : State) (st₀ : State) (L9 : List Loc), st₀.heap = H → T'.heap = t.heap → va_F (zA ad L H.size) st₀ t → (∀ q ∈ L9, zA ad L H.size q.base) → va_S (zA ad L s.heap.size) s.heap T'.heap (locs ++ L9) := by
    intro t T' st₀ L9 h0 e1 hF hL
    obtain ⟨hz, hk⟩ := hF
    rw [h0] at hz hk
    refine ⟨Nat.le_trans hS.1 (by rw [e1]; exact hz), fun q h1 h2 => ?_, fun q hq => ?_⟩
    · rw [e1, hk q (Nat.lt_of_lt_of_le h1 hS.1) (fun z => h2 (zA_mono hS.1 q z))]
      exact hS.2.1 q h1 h2
    · rcases List.mem_append.mp hq with h | h
      · exact hS.2.2 q h
      · exact zA_mono hS.1 _ (hL q h)
  rcases hr T hT X with ⟨v, st₀, t, T', L9, h0, X', hL, e1, e2, ⟨r, ho, hv, hw, hF⟩, st⟩ | ⟨q, st₀, t, T', L9, E, ce, h0, X', hL, e1, e2, ⟨k, ho, rfl, hw, hF⟩, hce, hcv, hcl, st⟩
  · cases hv
    obtain ⟨t2, a1, b1⟩ := kk r ho T'.heap (locs ++ L9) (by rw [e1]; exact hw) (hs9 t T' st₀ L9 h0 e1 hF hL) T' rfl X'
    exact ⟨t2, st t2 a1, b1⟩
  · obtain ⟨t2, a1, b1⟩ := kx k ho T'.heap (locs ++ L9) q ce (by rw [e1]; exact hw) (hs9 t T' st₀ L9 h0 e1 hF hL) (by rw [e1]; exact hce) hcv hcl T' rfl X'
    exact ⟨t2, st.trans a1, b1⟩
/-- it goes on to the caller -/
theorem z_xout {ρ : Type} {vo : ρ → Option Value} {o : Nat ⊕ ρ} {k mc ms : Nat} {q : Addr} {ce : Cell} (hex : ∀ x ∈ c.exceptionTable.toList, False) (hlocks : meth.locks = false) (ho : o = .inl k) (hM : M = M') (hW : zWd D cy ad L K len M H) (hS : va_S (zA ad L s.heap.size) s.heap H locs) (hcell : H[q]? = some ce) (hv : ce.vm = .none) (hcl : s.vm.findClass (zexn k) = some ce.cls) (hc : cells ≤ mc) (hs : slots ≤ ms) :
    vx_W p l e R s m args below meth c H locs cells slots (vx_MQ below (zY D cy ad L K len vo o M' s.heap.size) (zX D cy ad L K len o M' s.heap.size) args s mc ms (zA ad L s.heap.size)) (F0 m pc ls rest) q := by
  subst hM
  exact vx_out (fun x hx => (hex x hx).elim) hlocks hcell hv hcl (fun t ht _ => ⟨k, ho, rfl, (congrArg (zWd D cy ad L K len M) ht).mpr hW, hS.F ht⟩) hS.2.2 hc hs
theorem z_throw (hx : p.tables.exec = Jvm.exec) (hb : c.code = cc) (hl : l.stackTraces = false) {own : String} {text : String} {names : List String} {ik is ic mc ms k : Nat} {ρ : Type} {vo : ρ → Option Value} {o : Nat ⊕ ρ}
    (hown : s.vm.findClass own = some m.cls) (hcls : Bundle.fit (zexn k) = true) (hnames : ∀ n ∈ names, Bundle.fit n = true)
    (hk : (Cond.classLink own ik (zexn k)).before args s = true) (hini : (Cond.initialized (zexn k)).before args s = true) (hstr : ∃ sa, vk_R own is text sa s) (hat : ∀ w ∈ vx_atS own ic (zexn k) names, w.before args s = true)
    (hgood : ∀ w ∈ Cond.classLink own ik (zexn k) :: Cond.initialized (zexn k) :: vx_atS own ic (zexn k) names, vx_ot w = true)
    (hE : zEnv (zA ad L s.heap.size) s s.heap) (hW : zWd D cy ad L K len M H) (hS : va_S (zA ad L s.heap.size) s.heap H locs) (hsize : ls.size = c.maxLocals)
    (d0 : decode cc pc = .ok (.new ik, 3)) (d3 : decode cc (pc + 3) = .ok (.dup, 1)) (d4 : decode cc (pc + 4) = .ok (.ldc is, 2)) (d6 : decode cc (pc + 6) = .ok (.invokespecial ic, 3)) (d9 : decode cc (pc + 9) = .ok (.athrow, 1))
    (hex : ∀ x ∈ c.exceptionTable.toList, False) (ho : o = .inl k) (hM : M = M')
    (hRframes : names.length + 3 < R.frames) (hRlocals : (rest.map fun v => v.category).sum + (13 * (names.length + 1) + 43) ≤ R.locals) (hRcells : cells + 1 ≤ R.cells) (hRslots : slots + 6 ≤ R.slots) (hlocks : meth.locks = false)
    (hc : cells + 1 ≤ mc) (hs : slots + 6 ≤ ms) :
    W p l e R s m args below meth c H locs cells slots (vx_MQ below (zY D cy ad L K len vo o M' s.heap.size) (zX D cy ad L K len o M' s.heap.size) args s mc ms (zA ad L s.heap.size)) (F0 m pc ls rest) := by
  subst hM
  obtain ⟨sa, hstr⟩ := hstr
  exact vx_throwS hx hb hl hown hcls hnames hk hini hstr hat hgood hE.2.1 hE.2.2.1 hS hsize d0 d3 d4 d6 d9 (fun x hx => (hex x hx).elim) hRframes hRlocals hRcells hRslots hlocks
    (fun t _ hz hkq => ⟨k, ho, rfl, zY_wd hW hkq, ⟨Nat.le_trans hS.1 hz, fun q h1 h2 => by rw [hkq q (Nat.lt_of_lt_of_le h1 hS.1)]; exact hS.2.1 q h1 h2⟩⟩) hS.2.2 hc hs
theorem z_xiret {mc ms : Nat} (hx : p.tables.exec = Jvm.exec) (hb : c.code = cc) (hr : meth.sig.returnType = some .int) (hlocks : meth.locks = false) (hW : zWd D cy ad L K len M H) (hS : va_S (zA ad L s.heap.size) s.heap H locs) {v : Int32} {o : Nat ⊕ Int32} (ho : .inr v = o) (hM : M = M') (hdg : decode cc pc = .ok (.ireturn, 1)) (hc : cells ≤ mc) (hs : slots ≤ ms) : W p l e R s m args below meth c H locs cells slots (vx_MQ below (zY D cy ad L K len zvI o M' s.heap.size) (zX D cy ad L K len o M' s.heap.size) args s mc ms (zA ad L s.heap.size)) (F0 m pc ls [.int v]) := by
  subst ho; subst hM
  exact vx_ret (W.widen hc hs (W.iret hx hb hr (fun t ht _ => ⟨v, rfl, rfl, (congrArg (zWd D cy ad L K len M) ht).mpr hW, hS.F ht⟩) hS.2.2 hdg hlocks))
theorem z_xlret {mc ms : Nat} (hx : p.tables.exec = Jvm.exec) (hb : c.code = cc) (hr : meth.sig.returnType = some .long) (hlocks : meth.locks = false) (hW : zWd D cy ad L K len M H) (hS : va_S (zA ad L s.heap.size) s.heap H locs) {v : Int64} {o : Nat ⊕ Int64} (ho : .inr v = o) (hM : M = M') (hdg : decode cc pc = .ok (.lreturn, 1)) (hc : cells ≤ mc) (hs : slots ≤ ms) : W p l e R s m args below meth c H locs cells slots (vx_MQ below (zY D cy ad L K len zvJ o M' s.heap.size) (zX D cy ad L K len o M' s.heap.size) args s mc ms (zA ad L s.heap.size)) (F0 m pc ls [.long v]) := by
  subst ho; subst hM
  exact vx_ret (W.widen hc hs (W.lret hx hb hr (fun t ht _ => ⟨v, rfl, rfl, (congrArg (zWd D cy ad L K len M) ht).mpr hW, hS.F ht⟩) hS.2.2 hdg hlocks))
theorem z_xdret {mc ms : Nat} (hx : p.tables.exec = Jvm.exec) (hb : c.code = cc) (hr : meth.sig.returnType = some .double) (hlocks : meth.locks = false) (hW : zWd D cy ad L K len M H) (hS : va_S (zA ad L s.heap.size) s.heap H locs) {v : UInt64} {o : Nat ⊕ UInt64} (ho : .inr v = o) (hM : M = M') (hdg : decode cc pc = .ok (.dreturn, 1)) (hc : cells ≤ mc) (hs : slots ≤ ms) : W p l e R s m args below meth c H locs cells slots (vx_MQ below (zY D cy ad L K len zvD o M' s.heap.size) (zX D cy ad L K len o M' s.heap.size) args s mc ms (zA ad L s.heap.size)) (F0 m pc ls [.double v]) := by
  subst ho; subst hM
  exact vx_ret (W.widen hc hs (W.dret hx hb hr (fun t ht _ => ⟨v, rfl, rfl, (congrArg (zWd D cy ad L K len M) ht).mpr hW, hS.F ht⟩) hS.2.2 hdg hlocks))
theorem z_xaret {mc ms : Nat} (hx : p.tables.exec = Jvm.exec) (hb : c.code = cc) {C : String} (hr : meth.sig.returnType = some (.object C)) (hlocks : meth.locks = false) (hW : zWd D cy ad L K len M H) (hS : va_S (zA ad L s.heap.size) s.heap H locs) {v : Nat} {o : Nat ⊕ Nat} (ho : .inr v = o) (hM : M = M') (hdg : decode cc pc = .ok (.areturn, 1)) (hc : cells ≤ mc) (hs : slots ≤ ms) : W p l e R s m args below meth c H locs cells slots (vx_MQ below (zY D cy ad L K len (zvR ad) o M' s.heap.size) (zX D cy ad L K len o M' s.heap.size) args s mc ms (zA ad L s.heap.size)) (F0 m pc ls [.ref (ad v)]) := by
  subst ho; subst hM
  exact vx_ret (W.widen hc hs (W.aret hx hb hr (Or.inl ⟨_, rfl⟩) (Or.inr ⟨ad v, rfl⟩) (fun t ht _ => ⟨v, rfl, rfl, (congrArg (zWd D cy ad L K len M) ht).mpr hW, hS.F ht⟩) hS.2.2 hdg hlocks))
theorem z_xvret {mc ms : Nat} (hx : p.tables.exec = Jvm.exec) (hb : c.code = cc) (hr : meth.sig.returnType = none) (hlocks : meth.locks = false) (hW : zWd D cy ad L K len M H) (hS : va_S (zA ad L s.heap.size) s.heap H locs) {o : Nat ⊕ Unit} (ho : .inr () = o) (hM : M = M') (hdg : decode cc pc = .ok (.return_, 1)) (hc : cells ≤ mc) (hs : slots ≤ ms) : W p l e R s m args below meth c H locs cells slots (vx_MQ below (zY D cy ad L K len zvV o M' s.heap.size) (zX D cy ad L K len o M' s.heap.size) args s mc ms (zA ad L s.heap.size)) (F0 m pc ls []) := by
  subst ho; subst hM
  exact vx_ret (W.widen hc hs (W.vret hx hb hr (fun t ht _ => ⟨(), rfl, rfl, (congrArg (zWd D cy ad L K len M) ht).mpr hW, hS.F ht⟩) hS.2.2 hdg hlocks))
end ZT
/-- as zCx, and: no stack traces; no handlers -/
def zCxX (p : Program) (l : Launch) (s : State) (m : MethodId) (c : Code) (meth : Method) (args : Array Value) (cc : ByteArray) (nL : Nat) (Ts : List Cond) (own : String) (ret : Option FieldType) (D : va_G) (cy : Nat → ClassId) (ad : Nat → Nat) (L : List Nat) (K : Nat → Nat) : Prop :=
  zCx p s m c meth args cc nL Ts own ret D cy ad L K ∧ l.stackTraces = false ∧ ∀ x ∈ c.exceptionTable.toList, False
theorem z_xentry {l : Launch} (hl : l.stackTraces = false) {y : MethodName} {ws ws' : List Cond} {rm : Room} {cc : ByteArray} {nL : Nat} {ret : Option FieldType} {own : String} {D : va_G} {cy : Nat → ClassId} {ad : Nat → Nat} {L : List Nat} {K len : Nat → Nat} {av : List Value} {M : ZM} {Qf : Nat → Array Value → State → Outcome → State → Prop} {Xf : Nat → String → State → State → Prop} {mc ms sz : Nat}
    (hy : plainName y.cls = true) (hw : ws = Cond.code y cc nL ret :: ws') (ho : y.cls = own) (hL : zSh ad L K) (hn : (lg_sl av).length ≤ nL)
    (body : ∀ (p : Program) (e : Env) (s : State) (m : MethodId) (args : Array Value) (below : List Frame) (meth : Method) (c : Code), zCxX p l s m c meth args cc nL ws own ret D cy ad L K → ∀ (H : Heap) (locs : List Loc) (ls : Array Slot), zWd D cy ad L K len M H → va_S (zA ad L s.heap.size) s.heap H locs → lv_has ls nL (lv_args 0 av) → W p l e (headSpec ws rm).room s m args below meth c H locs 0 0 (vx_MQ below (Qf s.heap.size) (Xf s.heap.size) args s mc ms (zA ad L s.heap.size)) (F0 m 0 ls [])) : vx_Met l y ws rm (zPre D cy ad L K len sz av M) (Qf sz) (Xf sz) mc ms (zA ad L sz) := by
  refine vx_ofW (cc := cc) (maxL := nL) (ret := ret) hy hw ?_
  intro p e s m args below meth c s₁ B hml hex hv
  obtain ⟨rfl, hsz, hW, hK, hE⟩ := hv
  subst hsz
  rw [lg_entry_eq]
  exact body p e s m _ below meth c ⟨⟨B.exec, B.bytes, B.returns, hml, by rw [← ho]; exact findClass_of_methodNamed B.named, atoms_spec (ws := ws) B.pre, B.notSynchronized, hK, hL, hE⟩, hl, hex⟩ s.heap [] _ hW va_S.rf (lv_entry av hn)
theorem zx_l {ρ β : Type} {k : Nat} {f : Nat → β} {g : ρ → β} {r : β} (h : zx (.inl k) f g = r) : f k = r := h
theorem zx_r {ρ β : Type} {q : ρ} {f : Nat → β} {g : ρ → β} {r : β} (h : zx (.inr q) f g = r) : g q = r := h
/-- null, or an object -/
def zop {β : Type} (x : Option Nat) (A : β) (B : Nat → β) : β := match x with
  | none => A
  | some b => B b
theorem zop_c {β : Type} {x : Option Nat} {A : β} {B : Nat → β} {r : β} (h : zop x A B = r) : (x = none ∧ A = r) ∨ ∃ b, x = some b ∧ B b = r := by
  cases x with
  | none => exact Or.inl ⟨rfl, h⟩
  | some b => exact Or.inr ⟨b, rfl, h⟩
def znames : List String := ["java/lang/RuntimeException", "java/lang/Exception"]
theorem znames_fit : ∀ n ∈ znames, Bundle.fit n = true := by decide +kernel
theorem zfit1 : Bundle.fit (zexn 1) = true := by decide +kernel
theorem zfit2 : Bundle.fit (zexn 2) = true := by decide +kernel
theorem zfit3 : Bundle.fit (zexn 3) = true := by decide +kernel
section ZV
variable {p : Program} {l : Launch} {e : Env} {R : Room} {s : State} {m : MethodId} {args : Array Value} {below : List Frame} {meth : Method} {c : Code} {H : Heap} {locs : List Loc} {cells slots : Nat} {Q : State → Prop}
variable {cc : ByteArray} {pc : Nat} {ls : Array Slot} {rest : List Value} {D : va_G} {cy : Nat → ClassId} {ad : Nat → Nat} {L : List Nat} {K len : Nat → Nat} {a : Nat} {M M' : ZM}
theorem z_xcalli (hS : va_S (zA ad L s.heap.size) s.heap H locs) {mc ms : Nat} {st0 : List Value} {o : Nat ⊕ Int32} {av : Array Value} (hr : vx_Run p l e R s m args below meth c H locs cells slots mc ms (F0 m pc ls st0) rest (zY D cy ad L K len zvI o M' H.size av) (zX D cy ad L K len o M' H.size) (zA ad L H.size))
    (kx : ∀ k, o = .inl k → ∀ (H : Heap) (locs : List Loc) (q : Addr) (ce : Cell), zWd D cy ad L K len M' H → va_S (zA ad L s.heap.size) s.heap H locs → H[q]? = some ce → ce.vm = .none → s.vm.findClass (zexn k) = some ce.cls → vx_W p l e R s m args below meth c H locs (cells + mc) (slots + ms) Q (F0 m pc ls rest) q)
    (kk : ∀ r, o = .inr r → ∀ (H : Heap) (locs : List Loc), zWd D cy ad L K len M' H → va_S (zA ad L s.heap.size) s.heap H locs → W p l e R s m args below meth c H locs (cells + mc) (slots + ms) Q (F0 m (pc + 3) ls (.int r :: rest))) : W p l e R s m args below meth c H locs cells slots Q (F0 m pc ls st0) :=
  z_xcall hS hr kx (fun r hr H locs hW hS => kk r hr H locs hW hS)
theorem z_xcalll (hS : va_S (zA ad L s.heap.size) s.heap H locs) {mc ms : Nat} {st0 : List Value} {o : Nat ⊕ Int64} {av : Array Value} (hr : vx_Run p l e R s m args below meth c H locs cells slots mc ms (F0 m pc ls st0) rest (zY D cy ad L K len zvJ o M' H.size av) (zX D cy ad L K len o M' H.size) (zA ad L H.size))
    (kx : ∀ k, o = .inl k → ∀ (H : Heap) (locs : List Loc) (q : Addr) (ce : Cell), zWd D cy ad L K len M' H → va_S (zA ad L s.heap.size) s.heap H locs → H[q]? = some ce → ce.vm = .none → s.vm.findClass (zexn k) = some ce.cls → vx_W p l e R s m args below meth c H locs (cells + mc) (slots + ms) Q (F0 m pc ls rest) q)
    (kk : ∀ r, o = .inr r → ∀ (H : Heap) (locs : List Loc), zWd D cy ad L K len M' H → va_S (zA ad L s.heap.size) s.heap H locs → W p l e R s m args below meth c H locs (cells + mc) (slots + ms) Q (F0 m (pc + 3) ls (.long r :: rest))) : W p l e R s m args below meth c H locs cells slots Q (F0 m pc ls st0) :=
  z_xcall hS hr kx (fun r hr H locs hW hS => kk r hr H locs hW hS)
theorem z_xcallr (hS : va_S (zA ad L s.heap.size) s.heap H locs) {mc ms : Nat} {st0 : List Value} {o : Nat ⊕ Nat} {av : Array Value} (hr : vx_Run p l e R s m args below meth c H locs cells slots mc ms (F0 m pc ls st0) rest (zY D cy ad L K len (zvR ad) o M' H.size av) (zX D cy ad L K len o M' H.size) (zA ad L H.size))
    (kx : ∀ k, o = .inl k → ∀ (H : Heap) (locs : List Loc) (q : Addr) (ce : Cell), zWd D cy ad L K len M' H → va_S (zA ad L s.heap.size) s.heap H locs → H[q]? = some ce → ce.vm = .none → s.vm.findClass (zexn k) = some ce.cls → vx_W p l e R s m args below meth c H locs (cells + mc) (slots + ms) Q (F0 m pc ls rest) q)
    (kk : ∀ r, o = .inr r → ∀ (H : Heap) (locs : List Loc), zWd D cy ad L K len M' H → va_S (zA ad L s.heap.size) s.heap H locs → W p l e R s m args below meth c H locs (cells + mc) (slots + ms) Q (F0 m (pc + 3) ls (.ref (ad r) :: rest))) : W p l e R s m args below meth c H locs cells slots Q (F0 m pc ls st0) :=
  z_xcall hS hr kx (fun r hr H locs hW hS => kk r hr H locs hW hS)
theorem z_xcalld (hS : va_S (zA ad L s.heap.size) s.heap H locs) {mc ms : Nat} {st0 : List Value} {o : Nat ⊕ UInt64} {av : Array Value} (hr : vx_Run p l e R s m args below meth c H locs cells slots mc ms (F0 m pc ls st0) rest (zY D cy ad L K len zvD o M' H.size av) (zX D cy ad L K len o M' H.size) (zA ad L H.size))
    (kx : ∀ k, o = .inl k → ∀ (H : Heap) (locs : List Loc) (q : Addr) (ce : Cell), zWd D cy ad L K len M' H → va_S (zA ad L s.heap.size) s.heap H locs → H[q]? = some ce → ce.vm = .none → s.vm.findClass (zexn k) = some ce.cls → vx_W p l e R s m args below meth c H locs (cells + mc) (slots + ms) Q (F0 m pc ls rest) q)
    (kk : ∀ r, o = .inr r → ∀ (H : Heap) (locs : List Loc), zWd D cy ad L K len M' H → va_S (zA ad L s.heap.size) s.heap H locs → W p l e R s m args below meth c H locs (cells + mc) (slots + ms) Q (F0 m (pc + 3) ls (.double r :: rest))) : W p l e R s m args below meth c H locs cells slots Q (F0 m pc ls st0) :=
  z_xcall hS hr kx (fun r hr H locs hW hS => kk r hr H locs hW hS)
theorem z_xcallv (hS : va_S (zA ad L s.heap.size) s.heap H locs) {mc ms : Nat} {st0 : List Value} {o : Nat ⊕ Unit} {av : Array Value} (hr : vx_Run p l e R s m args below meth c H locs cells slots mc ms (F0 m pc ls st0) rest (zY D cy ad L K len zvV o M' H.size av) (zX D cy ad L K len o M' H.size) (zA ad L H.size))
    (kx : ∀ k, o = .inl k → ∀ (H : Heap) (locs : List Loc) (q : Addr) (ce : Cell), zWd D cy ad L K len M' H → va_S (zA ad L s.heap.size) s.heap H locs → H[q]? = some ce → ce.vm = .none → s.vm.findClass (zexn k) = some ce.cls → vx_W p l e R s m args below meth c H locs (cells + mc) (slots + ms) Q (F0 m pc ls rest) q)
    (kk : ∀ r, o = .inr r → ∀ (H : Heap) (locs : List Loc), zWd D cy ad L K len M' H → va_S (zA ad L s.heap.size) s.heap H locs → W p l e R s m args below meth c H locs (cells + mc) (slots + ms) Q (F0 m (pc + 3) ls rest)) : W p l e R s m args below meth c H locs cells slots Q (F0 m pc ls st0) :=
  z_xcall hS hr kx (fun r hr H locs hW hS => kk r hr H locs hW hS)
end ZV
end
section
/-! NEW OBJECTS AND ARRAYS: each takes the next place; its address is the heap's size, which 'ad' says ahead. -/
def zclr (M : ZM) (r : Nat) : ZM := (fun b j => if b = r then 0 else M.1 b j, fun b j => if b = r then 0 else M.2.1 b j, fun b j => if b = r then none else M.2.2.1 b j, fun b j => if b = r then 0 else M.2.2.2 b j)
theorem zclr_far {M : ZM} {r : Nat} : ∀ b, b ≠ r → (∀ j, zI M b j = zI (zclr M r) b j) ∧ (∀ j, zJ M b j = zJ (zclr M r) b j) ∧ (∀ j, zR M b j = zR (zclr M r) b j) ∧ (∀ j, zD M b j = zD (zclr M r) b j) :=
  fun b hb => ⟨fun _ => (if_neg hb).symm, fun _ => (if_neg hb).symm, fun _ => (if_neg hb).symm, fun _ => (if_neg hb).symm⟩
theorem zent_kept {cy : Nat → ClassId} {ad : Nat → Nat} {K len K' len' : Nat → Nat} {M M' : ZM} {a : Nat} (hK : K' a = K a) (hl : len' a = len a) (h : (∀ j, zI M a j = zI M' a j) ∧ (∀ j, zJ M a j = zJ M' a j) ∧ (∀ j, zR M a j = zR M' a j) ∧ (∀ j, zD M a j = zD M' a j)) : zent cy ad K' len' M' a = zent cy ad K len M a := by
  have e := zent_congr (cy := cy) (ad := ad) (K := K) (len := len) h.1 h.2.1 h.2.2.1 h.2.2.2
  rw [e]
  unfold zent
  rw [hK, hl]
theorem z_grow {s : State} {D : va_G} {cy : Nat → ClassId} {ad : Nat → Nat} {L : List Nat} {K len K' len' : Nat → Nat} {M M' : ZM} {H H1 : Heap} {locs : List Loc} {rs : List Nat} (hL : zSh ad L K) (hW : zWd D cy ad L K len M H) (hS : va_S (zA ad L s.heap.size) s.heap H locs) (hn : rs.Nodup) (hi : ∀ a ∈ rs, ∀ b ∈ rs, ad a = ad b → a = b) (hge : ∀ a ∈ rs, H.size ≤ ad a) (hsz : H.size ≤ H1.size) (o1 : ∀ q : Nat, q < H.size → H1[q]? = H[q]?)
    (hold : ∀ a, a ∉ rs → K' a = K a ∧ zent cy ad K' len' M' a = zent cy ad K len M a) (hat : ∀ a ∈ rs, va_at D vwCl (ad a, zent cy ad K' len' M' a) H1) : zSh ad (L ++ rs) K' ∧ zWd D cy ad (L ++ rs) K' len' M' H1 ∧ va_S (zA ad (L ++ rs) s.heap.size) s.heap H1 locs ∧ ∀ a ∈ rs, a ∉ L := by
  have hlt : ∀ a ∈ L, ad a < H.size := fun a ha => by
    obtain ⟨k, -, hk⟩ := zpl_get (ad := ad) (E := zent cy ad K len M) ha
    exact (hW k _ hk).lt
  have hno : ∀ a ∈ rs, a ∉ L := fun a ha hb => by
    have h1 := hge a ha
    have h2 := hlt a hb
    omega
  refine ⟨⟨?_, fun a ha => ?_, fun a ha b hb e => ?_⟩, fun k q hk => ?_, ⟨Nat.le_trans hS.1 hsz, fun q h1 h2 => ?_, fun l hl => ?_⟩, hno⟩
  · exact List.nodup_append.mpr ⟨hL.1, hn, fun a ha b hb e => hno b hb (e ▸ ha)⟩
  · by_cases h : a ∈ rs
    · exact List.mem_append_right _ h
    · exact List.mem_append_left _ (hL.2.1 a (by rw [← (hold a h).1]; exact ha))
  · rcases List.mem_append.mp ha with h1 | h1 <;> rcases List.mem_append.mp hb with h2 | h2
    · exact hL.2.2 a h1 b h2 e
    · have := hlt a h1
      have := hge b h2
      omega
    · have := hlt b h2
      have := hge a h1
      omega
    · exact hi a h1 b h2 e
  · simp only [zpl, List.getElem?_map] at hk
    cases hx : (L ++ rs)[k]? with
    | none => rw [hx] at hk; cases hk
    | some a =>
      rw [hx] at hk
      cases hk
      rcases List.mem_append.mp (List.mem_of_getElem? hx) with h | h
      · have ho := hold a (fun hr => hno a hr h)
        show va_at D vwCl (ad a, zent cy ad K' len' M' a) H1
        rw [ho.2]
        obtain ⟨k2, -, hk2⟩ := zpl_get (ad := ad) (E := zent cy ad K len M) h
        exact (hW k2 _ hk2).kept (o1 _ (hlt a h))
      · exact hat a h
  · rw [o1 q (Nat.lt_of_lt_of_le h1 hS.1)]
    exact hS.2.1 q h1 (fun z => h2 (z.elim (fun ⟨a, ha, e⟩ => Or.inl ⟨a, List.mem_append_left _ ha, e⟩) Or.inr))
  · exact (hS.2.2 l hl).elim (fun ⟨a, ha, e⟩ => Or.inl ⟨a, List.mem_append_left _ ha, e⟩) Or.inr
theorem zRA_cls {s : State} {cA cB : ClassId} {t : FieldType} (h1 : s.vm.findClass ("[" ++ t.toString) = some cA) (h2 : s.vm.findClass ("[" ++ t.toString) = some cB) : cA = cB := Option.some.inj (h1.symm.trans h2)
section ZN
variable {p : Program} {l : Launch} {e : Env} {R : Room} {s : State} {m : MethodId} {args : Array Value} {below : List Frame} {meth : Method} {c : Code} {H : Heap} {locs : List Loc} {cells slots : Nat} {Q : State → Prop}
variable {cc : ByteArray} {pc : Nat} {ls : Array Slot} {rest : List Value} {D : va_G} {cy : Nat → ClassId} {ad : Nat → Nat} {L : List Nat} {K len : Nat → Nat} {M : ZM}
theorem z_new (hx : p.tables.exec = Jvm.exec) (hb : c.code = cc) {own C : String} {T : u_T} {N ci index : Nat} {Ts : List Cond} (hts : ∀ w ∈ Ts, w.before args s = true) (hin : ∀ w ∈ u_ws C T N, w ∈ Ts) (ty : Nat → FieldType) (hty : ∀ k, k < N → parseFieldDescriptor (T k).2.2.1 = some (ty k)) (hown : s.vm.findClass own = some m.cls) (hcl : (Cond.classLink own index C).before args s = true) (hinst : (Cond.instantiable C N).before args s = true) (hini : (Cond.initialized C).before args s = true)
    (hK : va_K D vwCl (ztys cy) s) (hL : zSh ad L K) (hW : zWd D cy ad L K len M H) (hS : va_S (zA ad L s.heap.size) s.heap H locs) (r : Nat) (had : ad r = H.size) (hc : vwCl[ci]? = some (C, T, N)) (h8 : ci < 8) (hfs : ∀ j, j < N → defaultValue (ty j) = vp_V (zfl ad (zclr M r) r 0 (ztl ci)) j) (hcells : cells + 1 ≤ R.cells) (hslots : slots + N ≤ R.slots) (hdg : decode cc pc = .ok (.new index, 3))
    (kk : ∀ (H1 : Heap), H1.size = H.size + 1 → r ∉ L → zSh ad (L ++ [r]) (va_up K r (ci + 1)) → zWd D cy ad (L ++ [r]) (va_up K r (ci + 1)) len (zclr M r) H1 → va_S (zA ad (L ++ [r]) s.heap.size) s.heap H1 locs →
      W p l e R s m args below meth c H1 locs (cells + 1) (slots + N) Q (F0 m (pc + 3) ls (.ref (ad r) :: rest))) : W p l e R s m args below meth c H locs cells slots Q (F0 m pc ls rest) := by
  have hKn := hK.1 ci _ hc
  refine W.newcK hx hb hown hcl hinst hini rfl hdg hcells hslots hKn.2.1 rfl fun H1 kC hkC e1 z1 o1 => ?_
  have G := z_grow (rs := [r]) (K' := va_up K r (ci + 1)) (len' := len) (M' := zclr M r) hL hW hS (List.nodup_cons.mpr ⟨List.not_mem_nil, List.nodup_nil⟩) (fun a ha b hb _ => by rw [List.mem_singleton.mp ha, List.mem_singleton.mp hb]) (fun a ha => by rw [List.mem_singleton.mp ha, had]; exact Nat.le_refl _) (by omega) o1
    (fun a ha => by
      have hne : a ≠ r := fun q => ha (List.mem_singleton.mpr q)
      exact ⟨va_up_ne _ _ hne, zent_kept (va_up_ne _ _ hne) rfl (zclr_far a hne)⟩)
    (fun a ha => by
      rw [List.mem_singleton.mp ha, zent_obj (ci := ci) (va_up_self _ _ _) h8, had]
      exact ⟨_, hc, (u_born ty hts hin hKn hkC e1 hty).to hfs⟩)
  have k2 := kk H1 z1 (G.2.2.2 r (List.mem_singleton.mpr rfl)) G.1 G.2.1 G.2.2.1
  rw [had] at k2
  exact k2
theorem z_newa (hx : p.tables.exec = Jvm.exec) (hb : c.code = cc) {atype : ArrayType} (harr : (Cond.arrayClass (newarray.typeOf atype)).before args s = true) (t : Nat) (hty : (t = 11 ∧ newarray.typeOf atype = .int) ∨ (t = 12 ∧ newarray.typeOf atype = .long) ∨ (t = 13 ∧ newarray.typeOf atype = .boolean) ∨ (t = 17 ∧ newarray.typeOf atype = .double))
    (hK : va_K D vwCl (ztys cy) s) (hL : zSh ad L K) (hW : zWd D cy ad L K len M H) (hS : va_S (zA ad L s.heap.size) s.heap H locs) (r : Nat) (had : ad r = H.size) {n : Int32} {N' : Nat} (hn : ¬ n < 0) (hN : n.toNatClampNeg = N') (hbytes : N' * componentBytes (newarray.typeOf atype) ≤ 536870912) (hcells : cells + 1 ≤ R.cells) (hslots : slots + N' ≤ R.slots) (hdg : decode cc pc = .ok (.newarray atype, 2))
    (kk : ∀ (H1 : Heap), H1.size = H.size + 1 → r ∉ L → zSh ad (L ++ [r]) (va_up K r t) → zWd D cy ad (L ++ [r]) (va_up K r t) (va_up len r N') (zclr M r) H1 → va_S (zA ad (L ++ [r]) s.heap.size) s.heap H1 locs →
      W p l e R s m args below meth c H1 locs (cells + 1) (slots + N') Q (F0 m (pc + 2) ls (.ref (ad r) :: rest))) : W p l e R s m args below meth c H locs cells slots Q (F0 m pc ls (.int n :: rest)) := by
  refine va_newaK hx hb harr rfl hdg rfl hn hN hbytes hcells hslots rfl fun H1 cA e1 z1 o1 hAr hNm => ?_
  have G := z_grow (rs := [r]) (K' := va_up K r t) (len' := va_up len r N') (M' := zclr M r) hL hW hS (List.nodup_cons.mpr ⟨List.not_mem_nil, List.nodup_nil⟩) (fun a ha b hb _ => by rw [List.mem_singleton.mp ha, List.mem_singleton.mp hb]) (fun a ha => by rw [List.mem_singleton.mp ha, had]; exact Nat.le_refl _) (by omega) o1
    (fun a ha => by
      have hne : a ≠ r := fun q => ha (List.mem_singleton.mpr q)
      exact ⟨va_up_ne _ _ hne, zent_kept (va_up_ne _ _ hne) (va_up_ne _ _ hne) (zclr_far a hne)⟩)
    (fun a ha => by
      rw [List.mem_singleton.mp ha, had]
      rcases hty with ⟨rfl, ht⟩ | ⟨rfl, ht⟩ | ⟨rfl, ht⟩ | ⟨rfl, ht⟩
      · rw [zent_I (va_up_self _ _ _), va_up_self]
        rw [ht] at e1 hNm
        have ec : cA = cy 0 := zRA_cls hNm (hK.2 0 (cy 0, .int) rfl).2
        subst ec
        show H1[H.size]? = some (vp_cell (cy 0) (N', .inl (zI (zclr M r) r)))
        rw [e1, show zI (zclr M r) r = (fun _ => 0) from funext fun j => if_pos rfl]
        rfl
      · rw [zent_J (va_up_self _ _ _), va_up_self]
        rw [ht] at e1 hNm
        have ec : cA = cy 1 := zRA_cls hNm (hK.2 1 (cy 1, .long) rfl).2
        subst ec
        show H1[H.size]? = some (vp_cell (cy 1) (N', .inr (.inl (zJ (zclr M r) r))))
        rw [e1, show zJ (zclr M r) r = (fun _ => 0) from funext fun j => if_pos rfl]
        rfl
      · rw [zent_Z (va_up_self _ _ _), va_up_self]
        rw [ht] at e1 hNm
        have ec : cA = cy 2 := zRA_cls hNm (hK.2 2 (cy 2, .boolean) rfl).2
        subst ec
        show H1[H.size]? = some (vp_cell (cy 2) (N', .inl (zI (zclr M r) r)))
        rw [e1, show zI (zclr M r) r = (fun _ => 0) from funext fun j => if_pos rfl]
        rfl
      · rw [zent_D (va_up_self _ _ _), va_up_self]
        rw [ht] at e1 hNm
        have ec : cA = cy 6 := zRA_cls hNm (hK.2 6 (cy 6, .double) rfl).2
        subst ec
        show H1[H.size]? = some (vp_cell (cy 6) (N', .inr (.inr (.inr (.inl (zD (zclr M r) r))))))
        rw [e1, show zD (zclr M r) r = (fun _ => 0) from funext fun j => if_pos rfl]
        rfl)
  have k2 := kk H1 z1 (G.2.2.2 r (List.mem_singleton.mpr rfl)) G.1 G.2.1 G.2.2.1
  rw [had] at k2
  exact k2
theorem z_anew (hx : p.tables.exec = Jvm.exec) (hb : c.code = cc) {own : String} {index : Nat} (hown : s.vm.findClass own = some m.cls) (hclink : (Cond.classLink own index "ArcLight$Sentence").before args s = true) (hover : va_AO "ArcLight$Sentence" s)
    (hK : va_K D vwCl (ztys cy) s) (hL : zSh ad L K) (hW : zWd D cy ad L K len M H) (hS : va_S (zA ad L s.heap.size) s.heap H locs) (r : Nat) (had : ad r = H.size) {n : Int32} {N' : Nat} (hn : ¬ n < 0) (hN : n.toNatClampNeg = N') (hbytes : N' * 4 ≤ 536870912) (hcells : cells + 1 ≤ R.cells) (hslots : slots + N' ≤ R.slots) (hdg : decode cc pc = .ok (.anewarray index, 3))
    (kk : ∀ (H1 : Heap), H1.size = H.size + 1 → r ∉ L → zSh ad (L ++ [r]) (va_up K r 14) → zWd D cy ad (L ++ [r]) (va_up K r 14) (va_up len r N') (zclr M r) H1 → va_S (zA ad (L ++ [r]) s.heap.size) s.heap H1 locs →
      W p l e R s m args below meth c H1 locs (cells + 1) (slots + N') Q (F0 m (pc + 3) ls (.ref (ad r) :: rest))) : W p l e R s m args below meth c H locs cells slots Q (F0 m pc ls (.int n :: rest)) := by
  subst hN
  refine W.anew hx hb hown hclink (va_AO.use hover) rfl hdg rfl hn hbytes hcells hslots fun cA kA comp f1 f2 f3 f4 => ?_
  generalize hH1 : H.push ({ cls := cA, slots := Array.replicate n.toNatClampNeg .null, vm := .none } : Cell) = H1
  have z1 : H1.size = H.size + 1 := by rw [← hH1, Array.size_push]
  have e1 : H1[H.size]? = some (arrV cA n.toNatClampNeg (fun _ => .null)) := by rw [← hH1, Array.getElem?_push_size, ← arrV_new]
  have o1 : ∀ q : Nat, q < H.size → H1[q]? = H[q]? := fun q hq => by rw [← hH1, Array.getElem?_push, if_neg (Nat.ne_of_lt hq)]
  have G := z_grow (rs := [r]) (K' := va_up K r 14) (len' := va_up len r n.toNatClampNeg) (M' := zclr M r) hL hW hS (List.nodup_cons.mpr ⟨List.not_mem_nil, List.nodup_nil⟩) (fun a ha b hb _ => by rw [List.mem_singleton.mp ha, List.mem_singleton.mp hb]) (fun a ha => by rw [List.mem_singleton.mp ha, had]; exact Nat.le_refl _) (by omega) o1
    (fun a ha => by
      have hne : a ≠ r := fun q => ha (List.mem_singleton.mpr q)
      exact ⟨va_up_ne _ _ hne, zent_kept (va_up_ne _ _ hne) (va_up_ne _ _ hne) (zclr_far a hne)⟩)
    (fun a ha => by
      rw [List.mem_singleton.mp ha, had, zent_S (va_up_self _ _ _), va_up_self]
      have hra := (hK.2 3 (cy 3, .object "ArcLight$Sentence") rfl).2
      obtain ⟨kA2, comp2, g1, g2, g3, g4⟩ := hra
      have ec : cA = cy 3 := Option.some.inj (f1.symm.trans g4)
      subst ec
      show H1[H.size]? = some (vp_cell (cy 3) (n.toNatClampNeg, .inr (.inr (.inr (.inr (fun j => (zR (zclr M r) r j).map ad))))))
      rw [e1, show (fun j => (zR (zclr M r) r j).map ad) = (fun _ => none) from funext fun j => by rw [show zR (zclr M r) r j = none from if_pos rfl]; rfl]
      rfl)
  have k2 := kk H1 z1 (G.2.2.2 r (List.mem_singleton.mpr rfl)) G.1 G.2.1 G.2.2.1
  rw [had] at k2
  exact k2
/-- the memory behind new T[n][k]: the outer row at r, the inner ones at r + 1 .. r + n -/
def zmu {α : Type} (f : Nat → α) (r n : Nat) (o i : α) : Nat → α := fun a => if a = r then o else if r < a ∧ a ≤ r + n then i else f a
def zclm (M : ZM) (r n : Nat) : ZM := (fun b j => if r ≤ b ∧ b ≤ r + n then 0 else M.1 b j, fun b j => if r ≤ b ∧ b ≤ r + n then 0 else M.2.1 b j, fun b j => if r ≤ b ∧ b ≤ r + n then (if b = r ∧ j < n then some (r + 1 + j) else none) else M.2.2.1 b j, fun b j => if r ≤ b ∧ b ≤ r + n then 0 else M.2.2.2 b j)
def zrs (r n : Nat) : List Nat := r :: (List.range n).map (fun i => r + 1 + i)
theorem zrs_mem {r n a : Nat} : a ∈ zrs r n ↔ r ≤ a ∧ a ≤ r + n := by
  simp only [zrs, List.mem_cons, List.mem_map, List.mem_range]
  constructor
  · rintro (rfl | ⟨i, hi, rfl⟩) <;> omega
  · intro h
    by_cases e : a = r
    · exact Or.inl e
    · exact Or.inr ⟨a - r - 1, by omega, by omega⟩
theorem zrs_nodup (r n : Nat) : (zrs r n).Nodup := by
  refine List.nodup_cons.mpr ⟨fun h => ?_, ?_⟩
  · obtain ⟨i, -, hi⟩ := List.mem_map.mp h
    omega
  · exact List.Pairwise.map _ (fun a b h => by omega) (List.pairwise_lt_range (n := n))
theorem z_mna (hx : p.tables.exec = Jvm.exec) (hb : c.code = cc) {own : String} {index : Nat} {ty : FieldType} (tt : (ty = .int) ∨ (ty = .long)) (hown : s.vm.findClass own = some m.cls) (hclink : (Cond.classLink own index ("[" ++ (FieldType.array ty).toString)).before args s = true) (hover : va_AOA ty s) (harr : (Cond.arrayClass ty).before args s = true)
    (hK : va_K D vwCl (ztys cy) s) (hL : zSh ad L K) (hW : zWd D cy ad L K len M H) (hS : va_S (zA ad L s.heap.size) s.heap H locs) {n k : Int32} {N' K' : Nat} (hn : ¬ n < 0) (hk : ¬ k < 0) (hN : n.toNatClampNeg = N') (hM : k.toNatClampNeg = K') (r : Nat) (had : ∀ i, i ≤ N' → ad (r + i) = H.size + i)
    (hb1 : N' * 4 ≤ 536870912) (hb2 : K' * componentBytes ty ≤ 536870912) (hb3 : K' ≤ 536870912) (hcells : cells + (1 + N') ≤ R.cells) (hslots : slots + (N' + N' * K') ≤ R.slots) (hdg : decode cc pc = .ok (.multianewarray index 2, 4))
    (kk : ∀ (H1 : Heap), H1.size = H.size + 1 + N' → (∀ a ∈ zrs r N', a ∉ L) → zSh ad (L ++ zrs r N') (zmu K r N' (if ty = .int then 15 else 16) (if ty = .int then 11 else 12)) → zWd D cy ad (L ++ zrs r N') (zmu K r N' (if ty = .int then 15 else 16) (if ty = .int then 11 else 12)) (zmu len r N' N' K') (zclm M r N') H1 → va_S (zA ad (L ++ zrs r N') s.heap.size) s.heap H1 locs →
      W p l e R s m args below meth c H1 locs (cells + 1 + N') (slots + N' + N' * K') Q (F0 m (pc + 4) ls (.ref (ad r) :: rest))) : W p l e R s m args below meth c H locs cells slots Q (F0 m pc ls (.int k :: .int n :: rest)) := by
  subst hN
  subst hM
  intro T hT Xs
  have hdf : fits ty (defaultValue ty) = true := by rcases tt with rfl | rfl <;> rfl
  have hdd : (defaultValue ty).isDefault = true := by rcases tt with rfl | rfl <;> rfl
  obtain ⟨vm₁, cA, comp, -, fA, fC, hO, -, X', step⟩ := Xs.multianewarray2F hx hown hclink (va_AOA.use hover) harr (g := F0 m pc ls (.int k :: .int n :: rest)) rfl (by rw [hb]; exact hdg) rfl hn hk hb1 hb2 hb3 hdf hdd hcells hslots
  generalize hF : Jvm.Free.Multi.fill (T.setVm vm₁) cA comp n.toNatClampNeg k.toNatClampNeg (defaultValue ty) n.toNatClampNeg = F at X' step
  have hTh : (T.setVm vm₁).heap = H := hT
  obtain ⟨f1, f2, -, -⟩ := Jvm.Free.Multi.fill_facts (T.setVm vm₁) cA comp n.toNatClampNeg k.toNatClampNeg (defaultValue ty) n.toNatClampNeg
  rw [hF, hTh] at f1 f2
  have hold : ∀ x : Nat, x < H.size → F.heap[x]? = H[x]? := fun x hx => by
    have := Jvm.Free.Multi.fill_old (T.setVm vm₁) cA comp n.toNatClampNeg k.toNatClampNeg (defaultValue ty) (a := x) (by rw [hTh]; exact hx) n.toNatClampNeg
    rw [hF, hTh] at this
    exact this
  have hrow : ∀ j : Nat, j < n.toNatClampNeg → F.heap[H.size + 1 + j]? = some (Jvm.Free.Multi.innerC comp k.toNatClampNeg (defaultValue ty)) := fun j hj => by
    have := Jvm.Free.Multi.fill_inner (T.setVm vm₁) cA comp n.toNatClampNeg k.toNatClampNeg (defaultValue ty) n.toNatClampNeg j hj
    rw [hF, hTh] at this
    exact this
  have hout : Jvm.Free.Multi.outerC cA n.toNatClampNeg H.size n.toNatClampNeg = vp_cell cA (n.toNatClampNeg, .inr (.inr (.inr (.inr (fun i => if i < n.toNatClampNeg then some (H.size + 1 + i) else none))))) := by
    rw [vp_cell_q]
    exact vr_outer cA n.toNatClampNeg H.size n.toNatClampNeg
  rw [hout] at f2
  have hNn : n.toNatClampNeg = n.toNatClampNeg := rfl
  generalize n.toNatClampNeg = N at *
  generalize k.toNatClampNeg = k9 at *
  have hal : ∀ a ∈ zrs r N, ∃ i, i ≤ N ∧ a = r + i ∧ ad a = H.size + i := fun a ha => by
    have h := zrs_mem.mp ha
    exact ⟨a - r, by omega, by omega, by rw [← had (a - r) (by omega)]; congr 1; omega⟩
  have hzR : (fun j => (zR (zclm M r N) r j).map ad) = (fun j => if j < N then some (H.size + 1 + j) else none) := funext fun j => by
    show Option.map ad (if r ≤ r ∧ r ≤ r + N then (if r = r ∧ j < N then some (r + 1 + j) else none) else M.2.2.1 r j) = _
    rw [if_pos ⟨Nat.le_refl _, by omega⟩]
    by_cases h : j < N
    · rw [if_pos ⟨rfl, h⟩, if_pos h]
      show some (ad (r + 1 + j)) = _
      rw [show r + 1 + j = r + (1 + j) by omega, had (1 + j) (by omega), show H.size + (1 + j) = H.size + 1 + j by omega]
    · rw [if_neg (fun q => h q.2), if_neg h]
      rfl
  have hrowI : ∀ a, r < a → a ≤ r + N → F.heap[ad a]? = some (Jvm.Free.Multi.innerC comp k9 (defaultValue ty)) := fun a h1 h2 => by
    have e1 : ad a = H.size + 1 + (a - r - 1) := by
      have e2 := had (a - r) (by omega)
      rw [show r + (a - r) = a by omega] at e2
      omega
    rw [e1]
    exact hrow _ (by omega)
  have G := z_grow (s := s) (rs := zrs r N) (K' := zmu K r N (if ty = .int then 15 else 16) (if ty = .int then 11 else 12)) (len' := zmu len r N N k9) (M' := zclm M r N) (H1 := F.heap) hL hW hS (zrs_nodup r N)
    (fun a ha b hb e => by
      obtain ⟨i, -, ea, ea2⟩ := hal a ha
      obtain ⟨j, -, eb, eb2⟩ := hal b hb
      omega)
    (fun a ha => by
      obtain ⟨i, -, -, e2⟩ := hal a ha
      omega) (by omega) hold
    (fun a ha => by
      have h9 : ¬ (r ≤ a ∧ a ≤ r + N) := fun q => ha (zrs_mem.mpr q)
      have e1 : zmu K r N (if ty = .int then 15 else 16) (if ty = .int then 11 else 12) a = K a := by
        unfold zmu
        rw [if_neg (by omega), if_neg (by omega)]
      have e2 : zmu len r N N k9 a = len a := by
        unfold zmu
        rw [if_neg (by omega), if_neg (by omega)]
      exact ⟨e1, zent_kept e1 e2 ⟨fun _ => (if_neg h9).symm, fun _ => (if_neg h9).symm, fun _ => (if_neg h9).symm, fun _ => (if_neg h9).symm⟩⟩)
    (fun a ha => by
      have h9 := zrs_mem.mp ha
      by_cases hr9 : a = r
      · subst hr9
        have e0 : ad a = H.size := had 0 (by omega)
        rcases tt with rfl | rfl
        · rw [zent_II (show zmu K a N (if (FieldType.int : FieldType) = .int then 15 else 16) (if (FieldType.int : FieldType) = .int then 11 else 12) a = 15 by simp [zmu]), show zmu len a N N k9 a = N from if_pos rfl, hzR, e0]
          have ec : cA = cy 4 := zRA_cls fA (hK.2 4 (cy 4, .array .int) rfl).2
          subst ec
          exact f2
        · rw [zent_JJ (show zmu K a N (if (FieldType.long : FieldType) = .int then 15 else 16) (if (FieldType.long : FieldType) = .int then 11 else 12) a = 16 by simp [zmu]), show zmu len a N N k9 a = N from if_pos rfl, hzR, e0]
          have ec : cA = cy 5 := zRA_cls fA (hK.2 5 (cy 5, .array .long) rfl).2
          subst ec
          exact f2
      · have hI := hrowI a (by omega) h9.2
        rcases tt with rfl | rfl
        · rw [zent_I (show zmu K r N (if (FieldType.int : FieldType) = .int then 15 else 16) (if (FieldType.int : FieldType) = .int then 11 else 12) a = 11 by
            unfold zmu
            rw [if_neg hr9, if_pos ⟨by omega, h9.2⟩]
            rfl), show zmu len r N N k9 a = k9 by unfold zmu; rw [if_neg hr9, if_pos ⟨by omega, h9.2⟩]]
          have ec : comp = cy 0 := Option.some.inj (fC.symm.trans (hK.2 0 (cy 0, .int) rfl).2)
          subst ec
          show F.heap[ad a]? = some (vp_cell (cy 0) (k9, .inl (zI (zclm M r N) a)))
          rw [hI, show zI (zclm M r N) a = (fun _ => 0) from funext fun j => if_pos h9]
          exact congrArg some (arrV_new (cy 0) k9 (.int 0))
        · rw [zent_J (show zmu K r N (if (FieldType.long : FieldType) = .int then 15 else 16) (if (FieldType.long : FieldType) = .int then 11 else 12) a = 12 by
            unfold zmu
            rw [if_neg hr9, if_pos ⟨by omega, h9.2⟩]
            rfl), show zmu len r N N k9 a = k9 by unfold zmu; rw [if_neg hr9, if_pos ⟨by omega, h9.2⟩]]
          have ec : comp = cy 1 := Option.some.inj (fC.symm.trans (hK.2 1 (cy 1, .long) rfl).2)
          subst ec
          show F.heap[ad a]? = some (vp_cell (cy 1) (k9, .inr (.inl (zJ (zclm M r N) a))))
          rw [hI, show zJ (zclm M r N) a = (fun _ => 0) from funext fun j => if_pos h9]
          exact congrArg some (arrV_new (cy 1) k9 (.long 0)))
  obtain ⟨t, a1, b1⟩ := kk F.heap f1 G.2.2.2 G.1 G.2.1 G.2.2.1 F rfl X'
  refine ⟨t, step t ?_, b1⟩
  have e9 : T.heap.size = H.size := by rw [hT]
  have e8 : ad r = H.size := had 0 (Nat.zero_le _)
  rw [e9, ← e8]
  exact a1
end ZN
theorem zWd_lt {D : va_G} {cy : Nat → ClassId} {ad : Nat → Nat} {L : List Nat} {K len : Nat → Nat} {M : ZM} {H : Heap} (hW : zWd D cy ad L K len M H) {a : Nat} (h : a ∈ L) : ad a < H.size := by
  obtain ⟨k, -, hk⟩ := zpl_get (ad := ad) (E := zent cy ad K len M) h
  exact (hW k _ hk).lt
theorem zA_mem {ad : Nat → Nat} {L L1 : List Nat} {lo k n sz : Nat} (hm : ∀ a, a ∈ L1 ↔ a ∈ L ∨ (lo ≤ a ∧ a < lo + k)) (had : ∀ i, i < n → ad (lo + i) = sz + i) (hk : k ≤ n) : ∀ q, zA ad L1 sz q → zA ad L sz q := by
  intro q h
  rcases h with ⟨a, ha, e⟩ | h
  · rcases (hm a).mp ha with h1 | ⟨h1, h2⟩
    · exact Or.inl ⟨a, h1, e⟩
    · have h3 := had (a - lo) (by omega)
      rw [show lo + (a - lo) = a from by omega] at h3
      exact Or.inr (by omega)
  · exact Or.inr h
theorem zEnv_narrow {A B : Nat → Prop} {U : State} {H : Heap} (h : zEnv A U H) (hA : ∀ q, B q → A q) : zEnv B U H := by
  obtain ⟨h1, h2, h3, h6, h7, h8, t, h4, h5⟩ := h
  exact ⟨h1, h2.narrow hA, h3.narrow hA, h6, h7, h8, t, h4.narrow hA, h5.narrow hA⟩
theorem zmem_0 {L : List Nat} {lo : Nat} : ∀ a, a ∈ L ↔ a ∈ L ∨ (lo ≤ a ∧ a < lo + 0) := fun a => ⟨Or.inl, fun h => h.elim id (fun h => by omega)⟩
theorem zmem_1 {L L1 : List Nat} {lo k : Nat} (hm : ∀ a, a ∈ L1 ↔ a ∈ L ∨ (lo ≤ a ∧ a < lo + k)) : ∀ a, a ∈ L1 ++ [lo + k] ↔ a ∈ L ∨ (lo ≤ a ∧ a < lo + (k + 1)) := by
  intro a
  rw [List.mem_append, List.mem_singleton, hm a]
  constructor
  · rintro ((h | h) | h)
    · exact Or.inl h
    · exact Or.inr (by omega)
    · exact Or.inr (by omega)
  · rintro (h | h)
    · exact Or.inl (Or.inl h)
    · by_cases e : a = lo + k
      · exact Or.inr e
      · exact Or.inl (Or.inr (by omega))
theorem zmem_n {L L1 : List Nat} {lo k n : Nat} (hm : ∀ a, a ∈ L1 ↔ a ∈ L ∨ (lo ≤ a ∧ a < lo + k)) : ∀ a, a ∈ L1 ++ zrs (lo + k) n ↔ a ∈ L ∨ (lo ≤ a ∧ a < lo + (k + 1 + n)) := by
  intro a
  rw [List.mem_append, zrs_mem, hm a]
  constructor
  · rintro ((h | h) | h)
    · exact Or.inl h
    · exact Or.inr (by omega)
    · exact Or.inr (by omega)
  · rintro (h | h)
    · exact Or.inl (Or.inl h)
    · by_cases e : a < lo + k
      · exact Or.inl (Or.inr (by omega))
      · exact Or.inr (by omega)
theorem zmem_c {L L1 L2 : List Nat} {lo k n : Nat} (hm : ∀ a, a ∈ L1 ↔ a ∈ L ∨ (lo ≤ a ∧ a < lo + k)) (h2 : ∀ a, a ∈ L2 ↔ a ∈ L1 ∨ (lo + k ≤ a ∧ a < lo + k + n)) : ∀ a, a ∈ L2 ↔ a ∈ L ∨ (lo ≤ a ∧ a < lo + (k + n)) := by
  intro a
  rw [h2 a, hm a]
  constructor
  · rintro ((h | h) | h)
    · exact Or.inl h
    · exact Or.inr (by omega)
    · exact Or.inr (by omega)
  · rintro (h | h)
    · exact Or.inl (Or.inl h)
    · by_cases e : a < lo + k
      · exact Or.inl (Or.inr (by omega))
      · exact Or.inr (by omega)
/-- a constructor's end: n places from lo on are new -/
def zQn (D : va_G) (cy : Nat → ClassId) (ad : Nat → Nat) (L : List Nat) (lo n : Nat) (K' len' : Nat → Nat) (M' : ZM) (sz : Nat) : Array Value → State → Outcome → State → Prop := fun _ st oc t =>
  oc = .returned none ∧ (∃ L', (∀ a, a ∈ L' ↔ a ∈ L ∨ (lo ≤ a ∧ a < lo + n)) ∧ zSh ad L' K' ∧ zWd D cy ad L' K' len' M' t.heap) ∧ va_F (zA ad L sz) st t
section ZI
variable {p : Program} {l : Launch} {e : Env} {R : Room} {s : State} {m : MethodId} {args : Array Value} {below : List Frame} {meth : Method} {c : Code} {H : Heap} {locs : List Loc} {cells slots : Nat} {Q : State → Prop}
variable {cc : ByteArray} {pc : Nat} {ls : Array Slot} {rest : List Value} {D : va_G} {cy : Nat → ClassId} {ad : Nat → Nat} {L : List Nat} {K len : Nat → Nat} {a : Nat} {M : ZM}
/-- the heap has grown by just as many cells as were made -/
theorem z_size {g : JFrame} (h : s.heap.size + cells ≤ H.size) (kk : H.size = s.heap.size + cells → W p l e R s m args below meth c H locs cells slots Q g) : W p l e R s m args below meth c H locs cells slots Q g := by
  intro T hT X
  refine kk ?_ T hT X
  have h1 : T.heap.size ≤ s.heap.size + cells := X.same.2.2.1
  rw [hT] at h1
  omega
theorem z_putF (hx : p.tables.exec = Jvm.exec) (hb : c.code = cc) {own C : String} {T : u_T} {N ci index : Nat} {Ts : List Cond} (hts : ∀ w ∈ Ts, w.before args s = true) (hin : ∀ w ∈ u_ws C T N, w ∈ Ts) (ty0 : Nat → FieldType) (hty : ∀ k, k < N → parseFieldDescriptor (T k).2.2.1 = some (ty0 k)) (hnm : ∀ a, a < N → ∀ b, b < N → a ≠ b → (T a).2.1 ≠ (T b).2.1) (hown : s.vm.findClass own = some m.cls) (hK : va_K D vwCl (ztys cy) s) (hL : zSh ad L K) (hW : zWd D cy ad L K len M H) (hS : va_S (zA ad L s.heap.size) s.heap H locs) (k : Nat) (hKa : K a = ci + 1) (hc : vwCl[ci]? = some (C, T, N)) (h8 : ci < 8) (hk : k < N) (hf : (T k).1 = C) (hlink : (Cond.fieldLink own index C (T k).2.1 (T k).2.2.1).before args s = true) (hfin : (T k).2.2.2 = true) (hin2 : meth.name = "<init>") (hdecl : (T k).1 = own) {ty : FieldType} {v : Value} (hd : parseFieldDescriptor (T k).2.2.1 = some ty) (hn : narrow ty v = v) (hfit : fits ty v = true) (hl : k < (zfl ad M a 0 (ztl ci)).length) (hdg : decode cc pc = .ok (.putfield index, 3)) {M' : ZM}
    (hM : ∀ b, va_up (zent cy ad K len M) a (.inr (ci, (zfl ad M a 0 (ztl ci)).set k v)) b = zent cy ad K len M' b)
    (kk : ∀ (H : Heap) (locs : List Loc), zWd D cy ad L K len M' H → va_S (zA ad L s.heap.size) s.heap H locs → W p l e R s m args below meth c H locs cells slots Q (F0 m (pc + 3) ls rest)) : W p l e R s m args below meth c H locs cells slots Q (F0 m pc ls (v :: .ref (ad a) :: rest)) := by
  have ha : a ∈ L := hL.2.1 a (by omega)
  have hD : va_D (zA ad L s.heap.size) (zpl ad L (zent cy ad K len M)) := zpl_D hL _
  obtain ⟨q0, hq, he⟩ := zpl_get (E := zent cy ad K len M) ha
  have he2 := he
  rw [zent_obj hKa h8] at he2
  refine va_putF hx hb hts hin ty0 hty hnm hown hK (show va_P D vwCl (zpl ad L (zent cy ad K len M)) H from hW) hD hS q0 he2 hc k hk hlink (fun x h => by rw [hf] at h; exact h) hfin hin2 hdecl hd hn hfit hl hdg (fun H1 locs1 hP1 _ hS1 => kk H1 locs1 ?_ hS1)
  rw [zpl_set hL.1 hq] at hP1
  show va_P D vwCl (zpl ad L (zent cy ad K len M')) H1
  rw [← zpl_congr hM]
  exact hP1
theorem z_nret {lo n : Nat} {L1 : List Nat} {K' len' : Nat → Nat} {M' : ZM} (hx : p.tables.exec = Jvm.exec) (hb : c.code = cc) (hr : meth.sig.returnType = none) (hlocks : meth.locks = false) (hm : ∀ a, a ∈ L1 ↔ a ∈ L ∨ (lo ≤ a ∧ a < lo + n)) (had : ∀ i, i < n → ad (lo + i) = s.heap.size + i) (hL : zSh ad L1 K') (hW : zWd D cy ad L1 K' len' M H) (hS : va_S (zA ad L1 s.heap.size) s.heap H locs) (hM : M = M') (hdg : decode cc pc = .ok (.return_, 1)) : W p l e R s m args below meth c H locs cells slots (MQ below (zQn D cy ad L lo n K' len' M' s.heap.size) args s cells slots (zA ad L s.heap.size)) (F0 m pc ls []) := by
  subst hM
  have hS2 : va_S (zA ad L s.heap.size) s.heap H locs := by
    have hb2 := zA_mem hm had (Nat.le_refl n)
    refine ⟨hS.1, fun q h1 h2 => hS.2.1 q h1 (fun z => h2 (hb2 q z)), fun q hq => hb2 _ (hS.2.2 q hq)⟩
  exact W.vret hx hb hr (fun t ht _ => ⟨rfl, ⟨L1, hm, hL, (congrArg (zWd D cy ad L1 K' len' M) ht).mpr hW⟩, hS2.F ht⟩) hS2.2.2 hdg hlocks
theorem z_calln {lo n : Nat} {K' len' : Nat → Nat} {M' : ZM} (hS : va_S (zA ad L s.heap.size) s.heap H locs) {mc ms : Nat} {st0 : List Value} {av : Array Value} (hr : va_Run p l e R s m args below meth c H locs cells slots mc ms (F0 m pc ls st0) rest (zQn D cy ad L lo n K' len' M' H.size av) (zA ad L H.size))
    (kk : ∀ (L1 : List Nat) (H : Heap) (locs : List Loc), (∀ a, a ∈ L1 ↔ a ∈ L ∨ (lo ≤ a ∧ a < lo + n)) → zSh ad L1 K' → zWd D cy ad L1 K' len' M' H → va_S (zA ad L1 s.heap.size) s.heap H locs → W p l e R s m args below meth c H locs (cells + mc) (slots + ms) Q (F0 m (pc + 3) ls rest)) : W p l e R s m args below meth c H locs cells slots Q (F0 m pc ls st0) := by
  intro T hT X
  obtain ⟨v, st₀, t, T', L9, h0, X', hL9, e1, e2, ⟨hv, ⟨L1, hm, hsh, hw⟩, hz, hk⟩, st⟩ := hr T hT X
  cases hv
  rw [h0] at hz hk
  have hup : ∀ q, zA ad L s.heap.size q → zA ad L1 s.heap.size q := fun q h => h.elim (fun ⟨a, ha, e⟩ => Or.inl ⟨a, (hm a).mpr (Or.inl ha), e⟩) Or.inr
  obtain ⟨t2, a1, b1⟩ := kk L1 T'.heap (locs ++ L9) hm hsh (by rw [e1]; exact hw) ⟨Nat.le_trans hS.1 (by rw [e1]; exact hz), fun q h1 h2 => by
      rw [e1, hk q (Nat.lt_of_lt_of_le h1 hS.1) (fun z => h2 (hup q (zA_mono hS.1 q z)))]
      exact hS.2.1 q h1 (fun z => h2 (hup q z)), fun q hq => by
      rcases List.mem_append.mp hq with h | h
      · exact hup _ (hS.2.2 q h)
      · exact hup _ (zA_mono hS.1 _ (hL9 q h))⟩ T' rfl X'
  exact ⟨t2, st t2 a1, b1⟩
end ZI
theorem z_nentry {l : Launch} {y : MethodName} {ws ws' : List Cond} {rm : Room} {cc : ByteArray} {nL : Nat} {ret : Option FieldType} {own : String} {D : va_G} {cy : Nat → ClassId} {ad : Nat → Nat} {L : List Nat} {K len : Nat → Nat} {av : List Value} {M : ZM} {Qf : Nat → Array Value → State → Outcome → State → Prop} {mc ms sz : Nat}
    (hy : plainName y.cls = true) (hyn : y.name = "<init>") (hw : ws = Cond.code y cc nL ret :: ws') (ho : y.cls = own) (hL : zSh ad L K) (hn : (lg_sl av).length ≤ nL)
    (body : ∀ (p : Program) (e : Env) (s : State) (m : MethodId) (args : Array Value) (below : List Frame) (meth : Method) (c : Code), sz = s.heap.size → meth.name = "<init>" → zCx p s m c meth args cc nL ws own ret D cy ad L K → ∀ (H : Heap) (locs : List Loc) (ls : Array Slot), zWd D cy ad L K len M H → va_S (zA ad L s.heap.size) s.heap H locs → lv_has ls nL (lv_args 0 av) → W p l e (headSpec ws rm).room s m args below meth c H locs 0 0 (MQ below (Qf s.heap.size) args s mc ms (zA ad L s.heap.size)) (F0 m 0 ls [])) : Met l y ws rm (zPre D cy ad L K len sz av M) (Qf sz) mc ms (zA ad L sz) := by
  refine Met.ofW (cc := cc) (maxL := nL) (ret := ret) hy hw ?_
  intro p e s m args below meth c s₁ B hml hv
  obtain ⟨rfl, hsz, hW, hK, hE⟩ := hv
  have hin : meth.name = "<init>" := by rw [← hyn]; exact (name_of_methodNamed B.named B.method).1
  subst hsz
  rw [lg_entry_eq]
  exact body p e s m _ below meth c rfl hin ⟨B.exec, B.bytes, B.returns, hml, by rw [← ho]; exact findClass_of_methodNamed B.named, atoms_spec (ws := ws) B.pre, B.notSynchronized, hK, hL, hE⟩ s.heap [] _ hW va_S.rf (lv_entry av hn)
end
