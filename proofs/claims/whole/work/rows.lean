section
-- ===== PART A: goes FIRST, ahead of the names: the tables' words, and 'selects' of the private methods out of them =====
/-- a private method of a class that the tables say can be made, by its rows of tables_1 -/
def lw_okq (q : MethodName × Nat) : Prop := (q.1.cls ≠ "java/lang/invoke/MethodHandle" ∧ q.1.cls ≠ "java/lang/invoke/VarHandle") ∧ Cond.instantiable q.1.cls q.2 ∈ tables_1 ∧ Cond.privateMethod q.1 ∈ tables_1 ∧ Cond.instanceMethod q.1 ∈ tables_1
theorem lw_p0 : lw_okq (⟨"java/lang/Throwable", "fillInStackTrace", "(I)Ljava/lang/Throwable;"⟩, 6) := ⟨⟨by decide +kernel, by decide +kernel⟩, List.mem_of_getElem? (i := 219) (by decide +kernel), List.mem_of_getElem? (i := 217) (by decide +kernel), List.mem_of_getElem? (i := 218) (by decide +kernel)⟩
theorem lw_p1 : lw_okq (⟨"ArcLight", "find", "(I)LArcLight$Sentence;"⟩, 7) := ⟨⟨by decide +kernel, by decide +kernel⟩, List.mem_of_getElem? (i := 19) (by decide +kernel), List.mem_of_getElem? (i := 280) (by decide +kernel), List.mem_of_getElem? (i := 281) (by decide +kernel)⟩
theorem lw_p2 : lw_okq (⟨"ArcLight", "tryAll", "(LArcLight$Sentence;Z)LArcLight$Trial;"⟩, 7) := ⟨⟨by decide +kernel, by decide +kernel⟩, List.mem_of_getElem? (i := 19) (by decide +kernel), List.mem_of_getElem? (i := 459) (by decide +kernel), List.mem_of_getElem? (i := 460) (by decide +kernel)⟩
theorem lw_p3 : lw_okq (⟨"ArcLight$Trial", "note", "(J)V"⟩, 3) := ⟨⟨by decide +kernel, by decide +kernel⟩, List.mem_of_getElem? (i := 123) (by decide +kernel), List.mem_of_getElem? (i := 490) (by decide +kernel), List.mem_of_getElem? (i := 491) (by decide +kernel)⟩
theorem lw_p4 : lw_okq (⟨"ArcLight$Trial", "closesCircle", "(II)Z"⟩, 3) := ⟨⟨by decide +kernel, by decide +kernel⟩, List.mem_of_getElem? (i := 123) (by decide +kernel), List.mem_of_getElem? (i := 500) (by decide +kernel), List.mem_of_getElem? (i := 501) (by decide +kernel)⟩
theorem lw_p5 : lw_okq (⟨"ArcLight$Trial", "crossesEarlier", "(II)Z"⟩, 3) := ⟨⟨by decide +kernel, by decide +kernel⟩, List.mem_of_getElem? (i := 123) (by decide +kernel), List.mem_of_getElem? (i := 504) (by decide +kernel), List.mem_of_getElem? (i := 505) (by decide +kernel)⟩
theorem lw_p6 : lw_okq (⟨"ArcLight", "bestKey", "(LArcLight$Sentence;Z)J"⟩, 7) := ⟨⟨by decide +kernel, by decide +kernel⟩, List.mem_of_getElem? (i := 19) (by decide +kernel), List.mem_of_getElem? (i := 525) (by decide +kernel), List.mem_of_getElem? (i := 526) (by decide +kernel)⟩
theorem lw_p7 : lw_okq (⟨"ArcLight$Circles", "takeGreatest", "()J"⟩, 5) := ⟨⟨by decide +kernel, by decide +kernel⟩, List.mem_of_getElem? (i := 100) (by decide +kernel), List.mem_of_getElem? (i := 536) (by decide +kernel), List.mem_of_getElem? (i := 537) (by decide +kernel)⟩
theorem lw_p8 : lw_okq (⟨"ArcLight$Circles", "takenKey", "(I)J"⟩, 5) := ⟨⟨by decide +kernel, by decide +kernel⟩, List.mem_of_getElem? (i := 100) (by decide +kernel), List.mem_of_getElem? (i := 540) (by decide +kernel), List.mem_of_getElem? (i := 541) (by decide +kernel)⟩
theorem lw_p9 : lw_okq (⟨"ArcLight$Circles", "takenHead", "(I)I"⟩, 5) := ⟨⟨by decide +kernel, by decide +kernel⟩, List.mem_of_getElem? (i := 100) (by decide +kernel), List.mem_of_getElem? (i := 544) (by decide +kernel), List.mem_of_getElem? (i := 545) (by decide +kernel)⟩
theorem lw_p10 : lw_okq (⟨"ArcLight$Circles", "findCircle", "()I"⟩, 5) := ⟨⟨by decide +kernel, by decide +kernel⟩, List.mem_of_getElem? (i := 100) (by decide +kernel), List.mem_of_getElem? (i := 550) (by decide +kernel), List.mem_of_getElem? (i := 551) (by decide +kernel)⟩
theorem lw_p11 : lw_okq (⟨"ArcLight$Circles", "contract", "(I)V"⟩, 5) := ⟨⟨by decide +kernel, by decide +kernel⟩, List.mem_of_getElem? (i := 100) (by decide +kernel), List.mem_of_getElem? (i := 554) (by decide +kernel), List.mem_of_getElem? (i := 555) (by decide +kernel)⟩
theorem lw_p12 : lw_okq (⟨"ArcLight$Circles", "groupNodes", "(I)I"⟩, 5) := ⟨⟨by decide +kernel, by decide +kernel⟩, List.mem_of_getElem? (i := 100) (by decide +kernel), List.mem_of_getElem? (i := 558) (by decide +kernel), List.mem_of_getElem? (i := 559) (by decide +kernel)⟩
theorem lw_p13 : lw_okq (⟨"ArcLight$Circles", "offer", "(IIJ)V"⟩, 5) := ⟨⟨by decide +kernel, by decide +kernel⟩, List.mem_of_getElem? (i := 100) (by decide +kernel), List.mem_of_getElem? (i := 566) (by decide +kernel), List.mem_of_getElem? (i := 567) (by decide +kernel)⟩
theorem lw_p14 : lw_okq (⟨"ArcLight$Spans", "fillOpen", "(LArcLight$ArcKeys;II)V"⟩, 4) := ⟨⟨by decide +kernel, by decide +kernel⟩, List.mem_of_getElem? (i := 80) (by decide +kernel), List.mem_of_getElem? (i := 576) (by decide +kernel), List.mem_of_getElem? (i := 577) (by decide +kernel)⟩
theorem lw_p15 : lw_okq (⟨"ArcLight$Spans", "fillWhole", "(II)V"⟩, 4) := ⟨⟨by decide +kernel, by decide +kernel⟩, List.mem_of_getElem? (i := 80) (by decide +kernel), List.mem_of_getElem? (i := 589) (by decide +kernel), List.mem_of_getElem? (i := 590) (by decide +kernel)⟩
def lw_privs_1 : List (MethodName × Nat) := [(⟨"java/lang/Throwable", "fillInStackTrace", "(I)Ljava/lang/Throwable;"⟩, 6), (⟨"ArcLight", "find", "(I)LArcLight$Sentence;"⟩, 7), (⟨"ArcLight", "tryAll", "(LArcLight$Sentence;Z)LArcLight$Trial;"⟩, 7), (⟨"ArcLight$Trial", "note", "(J)V"⟩, 3), (⟨"ArcLight$Trial", "closesCircle", "(II)Z"⟩, 3), (⟨"ArcLight$Trial", "crossesEarlier", "(II)Z"⟩, 3), (⟨"ArcLight", "bestKey", "(LArcLight$Sentence;Z)J"⟩, 7), (⟨"ArcLight$Circles", "takeGreatest", "()J"⟩, 5), (⟨"ArcLight$Circles", "takenKey", "(I)J"⟩, 5), (⟨"ArcLight$Circles", "takenHead", "(I)I"⟩, 5), (⟨"ArcLight$Circles", "findCircle", "()I"⟩, 5), (⟨"ArcLight$Circles", "contract", "(I)V"⟩, 5), (⟨"ArcLight$Circles", "groupNodes", "(I)I"⟩, 5), (⟨"ArcLight$Circles", "offer", "(IIJ)V"⟩, 5), (⟨"ArcLight$Spans", "fillOpen", "(LArcLight$ArcKeys;II)V"⟩, 4), (⟨"ArcLight$Spans", "fillWhole", "(II)V"⟩, 4)]
theorem lw_r1 : ∀ q ∈ lw_privs_1, lw_okq q := List.forall_mem_cons.mpr ⟨lw_p0, List.forall_mem_cons.mpr ⟨lw_p1, List.forall_mem_cons.mpr ⟨lw_p2, List.forall_mem_cons.mpr ⟨lw_p3, List.forall_mem_cons.mpr ⟨lw_p4, List.forall_mem_cons.mpr ⟨lw_p5, List.forall_mem_cons.mpr ⟨lw_p6, List.forall_mem_cons.mpr ⟨lw_p7, List.forall_mem_cons.mpr ⟨lw_p8, List.forall_mem_cons.mpr ⟨lw_p9, List.forall_mem_cons.mpr ⟨lw_p10, List.forall_mem_cons.mpr ⟨lw_p11, List.forall_mem_cons.mpr ⟨lw_p12, List.forall_mem_cons.mpr ⟨lw_p13, List.forall_mem_cons.mpr ⟨lw_p14, List.forall_mem_cons.mpr ⟨lw_p15, fun _ h => absurd h List.not_mem_nil⟩⟩⟩⟩⟩⟩⟩⟩⟩⟩⟩⟩⟩⟩⟩⟩
theorem lw_p16 : lw_okq (⟨"ArcLight", "rankedKey", "(LArcLight$Sentence;ZI)J"⟩, 7) := ⟨⟨by decide +kernel, by decide +kernel⟩, List.mem_of_getElem? (i := 19) (by decide +kernel), List.mem_of_getElem? (i := 646) (by decide +kernel), List.mem_of_getElem? (i := 647) (by decide +kernel)⟩
theorem lw_p17 : lw_okq (⟨"ArcLight$Trial", "least", "(J)J"⟩, 3) := ⟨⟨by decide +kernel, by decide +kernel⟩, List.mem_of_getElem? (i := 123) (by decide +kernel), List.mem_of_getElem? (i := 656) (by decide +kernel), List.mem_of_getElem? (i := 657) (by decide +kernel)⟩
theorem lw_p18 : lw_okq (⟨"ArcLight$Trial", "countAbove", "(J)I"⟩, 3) := ⟨⟨by decide +kernel, by decide +kernel⟩, List.mem_of_getElem? (i := 123) (by decide +kernel), List.mem_of_getElem? (i := 664) (by decide +kernel), List.mem_of_getElem? (i := 665) (by decide +kernel)⟩
theorem lw_p19 : lw_okq (⟨"ArcLightModel", "asks", "(Z)Z"⟩, 20) := ⟨⟨by decide +kernel, by decide +kernel⟩, List.mem_of_getElem? (i := 746) (by decide +kernel), List.mem_of_getElem? (i := 822) (by decide +kernel), List.mem_of_getElem? (i := 823) (by decide +kernel)⟩
theorem lw_p20 : lw_okq (⟨"ArcLightModel", "isSentence", "(I)Z"⟩, 20) := ⟨⟨by decide +kernel, by decide +kernel⟩, List.mem_of_getElem? (i := 746) (by decide +kernel), List.mem_of_getElem? (i := 830) (by decide +kernel), List.mem_of_getElem? (i := 831) (by decide +kernel)⟩
theorem lw_p21 : lw_okq (⟨"ArcLightModel", "fails", "(I)I"⟩, 20) := ⟨⟨by decide +kernel, by decide +kernel⟩, List.mem_of_getElem? (i := 746) (by decide +kernel), List.mem_of_getElem? (i := 834) (by decide +kernel), List.mem_of_getElem? (i := 835) (by decide +kernel)⟩
theorem lw_p22 : lw_okq (⟨"ArcLightModel", "changed", "()V"⟩, 20) := ⟨⟨by decide +kernel, by decide +kernel⟩, List.mem_of_getElem? (i := 746) (by decide +kernel), List.mem_of_getElem? (i := 838) (by decide +kernel), List.mem_of_getElem? (i := 839) (by decide +kernel)⟩
theorem lw_p23 : lw_okq (⟨"ArcLightModel", "isWord", "(II)Z"⟩, 20) := ⟨⟨by decide +kernel, by decide +kernel⟩, List.mem_of_getElem? (i := 746) (by decide +kernel), List.mem_of_getElem? (i := 854) (by decide +kernel), List.mem_of_getElem? (i := 855) (by decide +kernel)⟩
theorem lw_p24 : lw_okq (⟨"ArcLightModel", "remembers", "(I)V"⟩, 20) := ⟨⟨by decide +kernel, by decide +kernel⟩, List.mem_of_getElem? (i := 746) (by decide +kernel), List.mem_of_getElem? (i := 862) (by decide +kernel), List.mem_of_getElem? (i := 863) (by decide +kernel)⟩
theorem lw_p25 : lw_okq (⟨"ArcLightModel", "asksArc", "(III)Z"⟩, 20) := ⟨⟨by decide +kernel, by decide +kernel⟩, List.mem_of_getElem? (i := 746) (by decide +kernel), List.mem_of_getElem? (i := 874) (by decide +kernel), List.mem_of_getElem? (i := 875) (by decide +kernel)⟩
theorem lw_p26 : lw_okq (⟨"ArcLightModel", "isPlace", "(II)Z"⟩, 20) := ⟨⟨by decide +kernel, by decide +kernel⟩, List.mem_of_getElem? (i := 746) (by decide +kernel), List.mem_of_getElem? (i := 878) (by decide +kernel), List.mem_of_getElem? (i := 879) (by decide +kernel)⟩
theorem lw_p27 : lw_okq (⟨"ArcLightModel", "byKind", "(III)I"⟩, 20) := ⟨⟨by decide +kernel, by decide +kernel⟩, List.mem_of_getElem? (i := 746) (by decide +kernel), List.mem_of_getElem? (i := 885) (by decide +kernel), List.mem_of_getElem? (i := 886) (by decide +kernel)⟩
theorem lw_p28 : lw_okq (⟨"ArcLightModel", "scoreOf", "(III)I"⟩, 20) := ⟨⟨by decide +kernel, by decide +kernel⟩, List.mem_of_getElem? (i := 746) (by decide +kernel), List.mem_of_getElem? (i := 893) (by decide +kernel), List.mem_of_getElem? (i := 894) (by decide +kernel)⟩
theorem lw_p29 : lw_okq (⟨"ArcLightModel", "arc", "(III)I"⟩, 20) := ⟨⟨by decide +kernel, by decide +kernel⟩, List.mem_of_getElem? (i := 746) (by decide +kernel), List.mem_of_getElem? (i := 901) (by decide +kernel), List.mem_of_getElem? (i := 902) (by decide +kernel)⟩
theorem lw_p30 : lw_okq (⟨"ArcLightModel", "finds", "(IZ)I"⟩, 20) := ⟨⟨by decide +kernel, by decide +kernel⟩, List.mem_of_getElem? (i := 746) (by decide +kernel), List.mem_of_getElem? (i := 909) (by decide +kernel), List.mem_of_getElem? (i := 910) (by decide +kernel)⟩
theorem lw_p31 : lw_okq (⟨"ArcLightModel", "walks", "(IZZ)V"⟩, 20) := ⟨⟨by decide +kernel, by decide +kernel⟩, List.mem_of_getElem? (i := 746) (by decide +kernel), List.mem_of_getElem? (i := 913) (by decide +kernel), List.mem_of_getElem? (i := 914) (by decide +kernel)⟩
def lw_privs_2 : List (MethodName × Nat) := [(⟨"ArcLight", "rankedKey", "(LArcLight$Sentence;ZI)J"⟩, 7), (⟨"ArcLight$Trial", "least", "(J)J"⟩, 3), (⟨"ArcLight$Trial", "countAbove", "(J)I"⟩, 3), (⟨"ArcLightModel", "asks", "(Z)Z"⟩, 20), (⟨"ArcLightModel", "isSentence", "(I)Z"⟩, 20), (⟨"ArcLightModel", "fails", "(I)I"⟩, 20), (⟨"ArcLightModel", "changed", "()V"⟩, 20), (⟨"ArcLightModel", "isWord", "(II)Z"⟩, 20), (⟨"ArcLightModel", "remembers", "(I)V"⟩, 20), (⟨"ArcLightModel", "asksArc", "(III)Z"⟩, 20), (⟨"ArcLightModel", "isPlace", "(II)Z"⟩, 20), (⟨"ArcLightModel", "byKind", "(III)I"⟩, 20), (⟨"ArcLightModel", "scoreOf", "(III)I"⟩, 20), (⟨"ArcLightModel", "arc", "(III)I"⟩, 20), (⟨"ArcLightModel", "finds", "(IZ)I"⟩, 20), (⟨"ArcLightModel", "walks", "(IZZ)V"⟩, 20)]
theorem lw_r2 : ∀ q ∈ lw_privs_2, lw_okq q := List.forall_mem_cons.mpr ⟨lw_p16, List.forall_mem_cons.mpr ⟨lw_p17, List.forall_mem_cons.mpr ⟨lw_p18, List.forall_mem_cons.mpr ⟨lw_p19, List.forall_mem_cons.mpr ⟨lw_p20, List.forall_mem_cons.mpr ⟨lw_p21, List.forall_mem_cons.mpr ⟨lw_p22, List.forall_mem_cons.mpr ⟨lw_p23, List.forall_mem_cons.mpr ⟨lw_p24, List.forall_mem_cons.mpr ⟨lw_p25, List.forall_mem_cons.mpr ⟨lw_p26, List.forall_mem_cons.mpr ⟨lw_p27, List.forall_mem_cons.mpr ⟨lw_p28, List.forall_mem_cons.mpr ⟨lw_p29, List.forall_mem_cons.mpr ⟨lw_p30, List.forall_mem_cons.mpr ⟨lw_p31, fun _ h => absurd h List.not_mem_nil⟩⟩⟩⟩⟩⟩⟩⟩⟩⟩⟩⟩⟩⟩⟩⟩
theorem lw_p32 : lw_okq (⟨"ArcLightModel", "keyOf", "(I)J"⟩, 20) := ⟨⟨by decide +kernel, by decide +kernel⟩, List.mem_of_getElem? (i := 746) (by decide +kernel), List.mem_of_getElem? (i := 918) (by decide +kernel), List.mem_of_getElem? (i := 919) (by decide +kernel)⟩
theorem lw_p33 : lw_okq (⟨"ArcLightModel", "may", "(IIZ)Z"⟩, 20) := ⟨⟨by decide +kernel, by decide +kernel⟩, List.mem_of_getElem? (i := 746) (by decide +kernel), List.mem_of_getElem? (i := 923) (by decide +kernel), List.mem_of_getElem? (i := 924) (by decide +kernel)⟩
theorem lw_p34 : lw_okq (⟨"ArcLightModel", "doCross", "(II)Z"⟩, 20) := ⟨⟨by decide +kernel, by decide +kernel⟩, List.mem_of_getElem? (i := 746) (by decide +kernel), List.mem_of_getElem? (i := 927) (by decide +kernel), List.mem_of_getElem? (i := 928) (by decide +kernel)⟩
theorem lw_p35 : lw_okq (⟨"ArcLightModel", "asksTree", "(IZ)Z"⟩, 20) := ⟨⟨by decide +kernel, by decide +kernel⟩, List.mem_of_getElem? (i := 746) (by decide +kernel), List.mem_of_getElem? (i := 941) (by decide +kernel), List.mem_of_getElem? (i := 942) (by decide +kernel)⟩
theorem lw_p36 : lw_okq (⟨"ArcLightModel", "scoreIn", "(J)I"⟩, 20) := ⟨⟨by decide +kernel, by decide +kernel⟩, List.mem_of_getElem? (i := 746) (by decide +kernel), List.mem_of_getElem? (i := 945) (by decide +kernel), List.mem_of_getElem? (i := 946) (by decide +kernel)⟩
theorem lw_p37 : lw_okq (⟨"ArcLightModel", "headIn", "(IJI)I"⟩, 20) := ⟨⟨by decide +kernel, by decide +kernel⟩, List.mem_of_getElem? (i := 746) (by decide +kernel), List.mem_of_getElem? (i := 957) (by decide +kernel), List.mem_of_getElem? (i := 958) (by decide +kernel)⟩
theorem lw_p38 : lw_okq (⟨"ArcLightModel", "asksRank", "(IZIZ)Z"⟩, 20) := ⟨⟨by decide +kernel, by decide +kernel⟩, List.mem_of_getElem? (i := 746) (by decide +kernel), List.mem_of_getElem? (i := 970) (by decide +kernel), List.mem_of_getElem? (i := 971) (by decide +kernel)⟩
theorem lw_p39 : lw_okq (⟨"ArcLightModel", "lists", "(IZ)V"⟩, 20) := ⟨⟨by decide +kernel, by decide +kernel⟩, List.mem_of_getElem? (i := 746) (by decide +kernel), List.mem_of_getElem? (i := 974) (by decide +kernel), List.mem_of_getElem? (i := 975) (by decide +kernel)⟩
theorem lw_p40 : lw_okq (⟨"ArcLightModel", "sinks", "(II)V"⟩, 20) := ⟨⟨by decide +kernel, by decide +kernel⟩, List.mem_of_getElem? (i := 746) (by decide +kernel), List.mem_of_getElem? (i := 978) (by decide +kernel), List.mem_of_getElem? (i := 979) (by decide +kernel)⟩
theorem lw_p41 : lw_okq (⟨"ArcLightModel", "isRight", "(I)Z"⟩, 20) := ⟨⟨by decide +kernel, by decide +kernel⟩, List.mem_of_getElem? (i := 746) (by decide +kernel), List.mem_of_getElem? (i := 998) (by decide +kernel), List.mem_of_getElem? (i := 999) (by decide +kernel)⟩
theorem lw_p42 : lw_okq (⟨"ArcLightModel", "adds", "(IIII)V"⟩, 20) := ⟨⟨by decide +kernel, by decide +kernel⟩, List.mem_of_getElem? (i := 746) (by decide +kernel), List.mem_of_getElem? (i := 1002) (by decide +kernel), List.mem_of_getElem? (i := 1003) (by decide +kernel)⟩
def lw_privs_3 : List (MethodName × Nat) := [(⟨"ArcLightModel", "keyOf", "(I)J"⟩, 20), (⟨"ArcLightModel", "may", "(IIZ)Z"⟩, 20), (⟨"ArcLightModel", "doCross", "(II)Z"⟩, 20), (⟨"ArcLightModel", "asksTree", "(IZ)Z"⟩, 20), (⟨"ArcLightModel", "scoreIn", "(J)I"⟩, 20), (⟨"ArcLightModel", "headIn", "(IJI)I"⟩, 20), (⟨"ArcLightModel", "asksRank", "(IZIZ)Z"⟩, 20), (⟨"ArcLightModel", "lists", "(IZ)V"⟩, 20), (⟨"ArcLightModel", "sinks", "(II)V"⟩, 20), (⟨"ArcLightModel", "isRight", "(I)Z"⟩, 20), (⟨"ArcLightModel", "adds", "(IIII)V"⟩, 20)]
theorem lw_r3 : ∀ q ∈ lw_privs_3, lw_okq q := List.forall_mem_cons.mpr ⟨lw_p32, List.forall_mem_cons.mpr ⟨lw_p33, List.forall_mem_cons.mpr ⟨lw_p34, List.forall_mem_cons.mpr ⟨lw_p35, List.forall_mem_cons.mpr ⟨lw_p36, List.forall_mem_cons.mpr ⟨lw_p37, List.forall_mem_cons.mpr ⟨lw_p38, List.forall_mem_cons.mpr ⟨lw_p39, List.forall_mem_cons.mpr ⟨lw_p40, List.forall_mem_cons.mpr ⟨lw_p41, List.forall_mem_cons.mpr ⟨lw_p42, fun _ h => absurd h List.not_mem_nil⟩⟩⟩⟩⟩⟩⟩⟩⟩⟩⟩
def lw_privs : List (MethodName × Nat) := lw_privs_1 ++ (lw_privs_2 ++ (lw_privs_3))
def lw_tbl : List Cond := k2_sels lw_privs ++ tables_1
theorem lw_privs_ok : ∀ q ∈ lw_privs, lw_okq q := by
  show ∀ q ∈ lw_privs_1 ++ (lw_privs_2 ++ (lw_privs_3)), lw_okq q
  exact List.forall_mem_append.mpr ⟨lw_r1, List.forall_mem_append.mpr ⟨lw_r2, lw_r3⟩⟩
/-- the streams that the claim lets the run draw from -/
abbrev lw_cs : List Choice := [Jvm.Choice.named "NaN.bits"]
theorem lw_bits : nanBits ∈ lw_cs := by first | decide | exact List.mem_cons_self | simp [lw_cs, nanBits]

def va_AOA (t : FieldType) (U : State) : Prop := (Cond.arrayOver (.array t)).before #[] U = true
theorem va_AOA.of {t : FieldType} {A : Array Value} {U : State} (h : (Cond.arrayOver (.array t)).before A U = true) : va_AOA t U := h
theorem va_AOA.use {t : FieldType} {A : Array Value} {U : State} (h : va_AOA t U) : (Cond.arrayOver (.array t)).before A U = true := h
/-! ===== BEGIN words of one list among another's, by their places ===== -/
theorem goodIn_r {big : List Cond} (ws : List Cond) (ps : List Nat) (hp : ws = ps.filterMap (fun i => big[i]?)) (h : ws.all goodWord = true) : GoodIn big ws := by
  intro w hw
  have h1 := List.all_eq_true.mp h w hw
  rw [hp] at hw
  obtain ⟨i, -, hi⟩ := List.mem_filterMap.mp hw
  have hm : w ∈ big := by first | exact List.mem_of_getElem? hi | exact List.getElem?_mem hi
  exact ⟨hm, good_of_word h1⟩
theorem goodIn_app {big a b : List Cond} (ha : GoodIn big a) (hb : GoodIn big b) : GoodIn big (a ++ b) := fun w h => (List.mem_append.mp h).elim (ha w) (hb w)
theorem goodIn_ca {big a b : List Cond} {c : Cond} (ha : GoodIn big (c :: a)) (hb : GoodIn big b) : GoodIn big (c :: (a ++ b)) := fun w h => (List.mem_cons.mp h).elim (fun e => ha w (List.mem_cons.mpr (Or.inl e))) (fun h => (List.mem_append.mp h).elim (fun h => ha w (List.mem_cons.mpr (Or.inr h))) (hb w))
theorem goodIn_sub {big ws : List Cond} (hm : ∀ w ∈ ws, w ∈ big) (h : ws.all goodWord = true) : GoodIn big ws := fun w hw => ⟨hm w hw, good_of_word (List.all_eq_true.mp h w hw)⟩
/-! ===== END ===== -/

/-! ===== BEGIN new T[n][m]: the outer array a place, the inner ones among the pooled ===== -/
/-- f, but v at every address of l -/
def vr_up {α : Type} (f : Nat → α) (l : List Nat) (v : α) : Nat → α := fun a => if a ∈ l then v else f a
theorem vr_up_in {α : Type} {f : Nat → α} {l : List Nat} {v : α} {a : Nat} (h : a ∈ l) : vr_up f l v a = v := if_pos h
theorem vr_up_ne {α : Type} {f : Nat → α} {l : List Nat} {v : α} {a : Nat} (h : a ∉ l) : vr_up f l v a = f a := if_neg h
theorem vr_rows {L l : List Nat} {f : Nat → va_E} {e : va_E} (h : ∀ a, a ∈ l → a ∉ L) : va_pl L f ++ l.map (fun a => (a, e)) = va_pl (L ++ l) (vr_up f l e) := by
  unfold va_pl
  rw [List.map_append]
  congr 1
  · apply List.map_congr_left
    intro a ha
    rw [vr_up_ne (fun q => h a q ha)]
  · apply List.map_congr_left
    intro a ha
    rw [vr_up_in ha]
theorem vr_lay {X rows : va_W} {x : Nat × va_E} {pl : va_W} {D : va_G} {cl : List vw_C} {H : Heap} (hP : va_P D cl (((X ++ pl) ++ [x]) ++ rows) H) : va_P D cl ((X ++ [x]) ++ (pl ++ rows)) H := by
  rw [List.append_assoc (X ++ pl)] at hP
  have h := va_P.swap hP
  rw [← List.append_assoc X] at h
  have h2 := va_P.swap h
  rw [List.append_assoc (X ++ [x])] at h2
  exact h2
theorem vr_layD {X rows : va_W} {x : Nat × va_E} {pl : va_W} {A : Nat → Prop} (hD : va_D A (((X ++ pl) ++ [x]) ++ rows)) : va_D A ((X ++ [x]) ++ (pl ++ rows)) := by
  rw [List.append_assoc (X ++ pl)] at hD
  have h := va_D.swap hD
  rw [← List.append_assoc X] at h
  have h2 := va_D.swap h
  rw [List.append_assoc (X ++ [x])] at h2
  exact h2
theorem vr_outer (c : ClassId) (N h0 : Nat) : ∀ i : Nat, Jvm.Free.Multi.outerC c N h0 i = arrV c N (fun j => va_rf (if j < i then some (h0 + 1 + j) else none))
  | 0 => by
    show ({ cls := c, slots := Array.replicate N .null, vm := .none } : Cell) = _
    rw [arrV_new]
    refine congrArg (arrV c N) (funext fun j => ?_)
    simp [va_rf]
  | i + 1 => by
    show (Jvm.Free.Multi.outerC c N h0 i).setSlot i (.ref (h0 + 1 + i)) = _
    rw [vr_outer c N h0 i, arrV_store]
    refine congrArg (arrV c N) (funext fun j => ?_)
    by_cases e : j = i
    · subst e
      simp [updV, va_rf]
    · by_cases h : j < i
      · simp [updV, e, h, Nat.lt_succ_of_lt h]
      · simp [updV, e, h, show ¬ j < i + 1 by omega]
section VGM
variable {p : Program} {l : Launch} {e : Env} {R : Room} {s : State} {m : MethodId} {args : Array Value} {below : List Frame} {meth : Method} {c : Code} {H : Heap} {locs : List Loc} {cells slots : Nat} {Q : State → Prop}
variable {cc : ByteArray} {pc : Nat} {ls : Array Slot} {rest : List Value} {D : va_G} {cl : List vw_C} {A : Nat → Prop} {a : Nat} {tys : List (ClassId × FieldType)} {ws : va_W} {H0 : Heap}
theorem va_mna {X : va_W} {L : List Nat} {f : Nat → va_E} {cc : ByteArray} (hexec : p.tables.exec = Jvm.exec) (hb : c.code = cc) {own : String} {index : Nat} {ty : FieldType} {cy : ClassId} (hown : s.vm.findClass own = some m.cls) (hclink : (Cond.classLink own index ("[" ++ (FieldType.array ty).toString)).before args s = true) (hover : va_AOA ty s) (harr : (Cond.arrayClass ty).before args s = true) (hcy : s.vm.findClass (FieldType.array ty).toString = some cy)
    (hK : va_K D cl tys s) (hP : va_P D cl (X ++ va_pl L f) H) (hD : va_D A (X ++ va_pl L f)) (hS : va_S A H0 H locs) (hA : ∀ q, H0.size ≤ q → A q) {n k : Int32} {N' K' : Nat} {z : vp_A} (hn : ¬ n < 0) (hk : ¬ k < 0) (hN : n.toNatClampNeg = N') (hM : k.toNatClampNeg = K')
    (hb1 : N' * 4 ≤ 536870912) (hb2 : K' * componentBytes ty ≤ 536870912) (hb3 : K' ≤ 536870912) (hdf : fits ty (defaultValue ty) = true) (hdd : (defaultValue ty).isDefault = true) (hcells : cells + (1 + N') ≤ R.cells) (hslots : slots + (N' + N' * K') ≤ R.slots) (hz : ∀ c : ClassId, Jvm.Free.Multi.innerC c K' (defaultValue ty) = vp_cell c z) (hdg : decode cc pc = .ok (.multianewarray index 2, 4))
    (kk : ∀ (q : Nat) (r : Nat → Nat) (cA : ClassId) (H1 : Heap), (∀ i j : Nat, i < N' → j < N' → r i = r j → i = j) → (∀ i : Nat, i < N' → r i ∉ L) → va_K D cl (tys ++ [(cA, .array ty)]) s →
      va_P D cl ((X ++ [(q, .inl (cA, N', .inr (.inr (.inr (.inr (fun i => if i < N' then some (r i) else none))))))]) ++ va_pl (L ++ (List.range N').map r) (vr_up f ((List.range N').map r) (.inl (cy, z)))) H1 → va_D A ((X ++ [(q, .inl (cA, N', .inr (.inr (.inr (.inr (fun i => if i < N' then some (r i) else none))))))]) ++ va_pl (L ++ (List.range N').map r) (vr_up f ((List.range N').map r) (.inl (cy, z)))) → va_S A H0 H1 locs →
      W p l e R s m args below meth c H1 locs (cells + 1 + N') (slots + N' + N' * K') Q (F0 m (pc + 4) ls (.ref q :: rest))) : W p l e R s m args below meth c H locs cells slots Q (F0 m pc ls (.int k :: .int n :: rest)) := by
  subst hN
  subst hM
  intro T hT Xs
  obtain ⟨vm₁, cA, comp, -, fA, fC, hO, -, X', step⟩ := Xs.multianewarray2F hexec hown hclink (va_AOA.use hover) harr (g := F0 m pc ls (.int k :: .int n :: rest)) rfl (by rw [hb]; exact hdg) rfl hn hk hb1 hb2 hb3 hdf hdd hcells hslots
  have ec : some cy = some comp := hcy.symm.trans fC
  cases ec
  generalize hF : Jvm.Free.Multi.fill (T.setVm vm₁) cA cy n.toNatClampNeg k.toNatClampNeg (defaultValue ty) n.toNatClampNeg = F at X' step
  have hTh : (T.setVm vm₁).heap = H := hT
  obtain ⟨f1, f2, -, -⟩ := Jvm.Free.Multi.fill_facts (T.setVm vm₁) cA cy n.toNatClampNeg k.toNatClampNeg (defaultValue ty) n.toNatClampNeg
  rw [hF, hTh] at f1 f2
  have hold : ∀ x : Nat, x < H.size → F.heap[x]? = H[x]? := fun x hx => by
    have := Jvm.Free.Multi.fill_old (T.setVm vm₁) cA cy n.toNatClampNeg k.toNatClampNeg (defaultValue ty) (a := x) (by rw [hTh]; exact hx) n.toNatClampNeg
    rw [hF, hTh] at this
    exact this
  have hrow : ∀ j : Nat, j < n.toNatClampNeg → F.heap[H.size + 1 + j]? = some (vp_cell cy z) := fun j hj => by
    have := Jvm.Free.Multi.fill_inner (T.setVm vm₁) cA cy n.toNatClampNeg k.toNatClampNeg (defaultValue ty) n.toNatClampNeg j hj
    rw [hF, hTh, hz] at this
    exact this
  have hout : Jvm.Free.Multi.outerC cA n.toNatClampNeg H.size n.toNatClampNeg = vp_cell cA (n.toNatClampNeg, .inr (.inr (.inr (.inr (fun i => if i < n.toNatClampNeg then some (H.size + 1 + i) else none))))) := by
    rw [vp_cell_q]
    exact vr_outer cA n.toNatClampNeg H.size n.toNatClampNeg
  rw [hout] at f2
  have hlt : ∀ a, a ∈ L → a < H.size := fun a ha => by
    obtain ⟨k9, hk9⟩ := va_pl_get (X := X) (f := f) ha
    exact (hP k9 _ hk9).lt
  have hnl : ∀ i : Nat, i < n.toNatClampNeg → H.size + 1 + i ∉ L := fun i _ h => by
    have := hlt _ h
    omega
  have hnm : ∀ a, a ∈ (List.range n.toNatClampNeg).map (fun i => H.size + 1 + i) → a ∉ L := fun a ha h => by
    obtain ⟨i, -, rfl⟩ := List.mem_map.mp ha
    have := hlt _ h
    omega
  have hP0 : va_P D cl (X ++ va_pl L f) F.heap := hP.kept (fun k9 x hx => hold x.1 ((hP k9 x hx).lt))
  have hP1 : va_P D cl ((X ++ va_pl L f) ++ [(H.size, .inl (cA, n.toNatClampNeg, .inr (.inr (.inr (.inr (fun i => if i < n.toNatClampNeg then some (H.size + 1 + i) else none))))))]) F.heap := hP0.app (fun k9 x hx => by
    have h0 : k9 < 1 := (List.getElem?_eq_some_iff.mp hx).1
    rw [show k9 = 0 by omega] at hx
    cases hx
    exact f2)
  have hP2 : va_P D cl (((X ++ va_pl L f) ++ [(H.size, .inl (cA, n.toNatClampNeg, .inr (.inr (.inr (.inr (fun i => if i < n.toNatClampNeg then some (H.size + 1 + i) else none))))))]) ++ ((List.range n.toNatClampNeg).map (fun i => H.size + 1 + i)).map (fun a => (a, .inl (cy, z)))) F.heap := hP1.app (fun k9 x hx => by
    obtain ⟨a, ha, rfl⟩ := List.mem_map.mp (List.mem_of_getElem? hx)
    obtain ⟨i, hi, rfl⟩ := List.mem_map.mp ha
    exact hrow i (List.mem_range.mp hi))
  have hD2 : va_D A (((X ++ va_pl L f) ++ [(H.size, .inl (cA, n.toNatClampNeg, .inr (.inr (.inr (.inr (fun i => if i < n.toNatClampNeg then some (H.size + 1 + i) else none))))))]) ++ ((List.range n.toNatClampNeg).map (fun i => H.size + 1 + i)).map (fun a => (a, .inl (cy, z)))) := by
    have hD1 := hD.push (e := .inl (cA, n.toNatClampNeg, .inr (.inr (.inr (.inr (fun i => if i < n.toNatClampNeg then some (H.size + 1 + i) else none)))))) hP rfl (hA _ hS.1)
    generalize hW1 : (X ++ va_pl L f) ++ [(H.size, .inl (cA, n.toNatClampNeg, .inr (.inr (.inr (.inr (fun i => if i < n.toNatClampNeg then some (H.size + 1 + i) else none))))))] = W1 at hD1 hP1 ⊢
    have hle : ∀ (k9 : Nat) (x : Nat × va_E), W1[k9]? = some x → x.1 ≤ H.size := fun k9 x hx => by
      rw [← hW1] at hx
      by_cases hl : k9 < (X ++ va_pl L f).length
      · rw [List.getElem?_append_left hl] at hx
        exact Nat.le_of_lt ((hP k9 x hx).lt)
      · rw [List.getElem?_append_right (by omega)] at hx
        have h0 : k9 - (X ++ va_pl L f).length < 1 := (List.getElem?_eq_some_iff.mp hx).1
        rw [show k9 - (X ++ va_pl L f).length = 0 by omega] at hx
        cases hx
        exact Nat.le_refl _
    have hr : ∀ (k9 : Nat) (x : Nat × va_E), (((List.range n.toNatClampNeg).map (fun i => H.size + 1 + i)).map (fun a => ((a, .inl (cy, z)) : Nat × va_E)))[k9]? = some x → x.1 = H.size + 1 + k9 := fun k9 x hx => by
      rw [List.getElem?_map, List.getElem?_map] at hx
      by_cases h9 : k9 < n.toNatClampNeg
      · rw [List.getElem?_range h9] at hx
        cases hx
        rfl
      · have hn0 : (List.range n.toNatClampNeg)[k9]? = none := List.getElem?_eq_none (by rw [List.length_range]; omega)
        rw [hn0] at hx
        cases hx
    refine ⟨fun i j x y hi hj hxy => ?_, fun k9 x hx => ?_⟩
    · by_cases h1 : i < W1.length <;> by_cases h2 : j < W1.length
      · rw [List.getElem?_append_left h1] at hi
        rw [List.getElem?_append_left h2] at hj
        exact hD1.1 i j x y hi hj hxy
      · rw [List.getElem?_append_left h1] at hi
        rw [List.getElem?_append_right (by omega)] at hj
        have := hle _ _ hi
        have := hr _ _ hj
        omega
      · rw [List.getElem?_append_right (by omega)] at hi
        rw [List.getElem?_append_left h2] at hj
        have := hle _ _ hj
        have := hr _ _ hi
        omega
      · rw [List.getElem?_append_right (by omega)] at hi hj
        have := hr _ _ hi
        have := hr _ _ hj
        omega
    · by_cases h1 : k9 < W1.length
      · rw [List.getElem?_append_left h1] at hx
        exact hD1.2 k9 x hx
      · rw [List.getElem?_append_right (by omega)] at hx
        have := hr _ _ hx
        exact hA _ (by have := hS.1; omega)
  have hAr : ArrOfT s cA (.array ty) := fun N9 z9 => by
    obtain ⟨-, k9, hk9, cm9, hkk9⟩ := (hO 0 0 0).1
    exact ⟨(fun q hq => by cases hq), k9, hk9, cm9, hkk9⟩
  have hK2 : va_K D cl (tys ++ [(cA, .array ty)]) s := ⟨hK.1, fun k9 x hx => by
    by_cases hl : k9 < tys.length
    · rw [List.getElem?_append_left hl] at hx
      exact hK.2 k9 x hx
    · rw [List.getElem?_append_right (by omega)] at hx
      have h0 : k9 - tys.length < 1 := (List.getElem?_eq_some_iff.mp hx).1
      rw [show k9 - tys.length = 0 by omega] at hx
      cases hx
      exact ⟨hAr, fA⟩⟩
  obtain ⟨t, a1, b1⟩ := kk H.size (fun i => H.size + 1 + i) cA F.heap (fun i j _ _ h => by have h9 : H.size + 1 + i = H.size + 1 + j := h; omega) hnl hK2 (by rw [← vr_rows hnm]; exact vr_lay hP2) (by rw [← vr_rows hnm]; exact vr_layD hD2) ⟨by rw [f1]; have := hS.1; omega, fun x h1 h2 => (hold x (Nat.lt_of_lt_of_le h1 hS.1)).trans (hS.2.1 x h1 h2), hS.2.2⟩ F rfl X'
  refine ⟨t, step t ?_, b1⟩
  have e : T.heap.size = H.size := by rw [hT]
  rw [e]
  exact a1
end VGM
/-! ===== END ===== -/

/-! ===== BEGIN exceptions that leave a method, and their catching by the caller (launches without stack traces) ===== -/
section VXA
/-! The laws vx_back, vx_callV, vx_callS, vx_callSW, vx_throw0, vx_throwS follow proofs of the library, with one case more: JvmDerived/Free/Laws.lean (Back.of_free), Shelf42/LK1.lean (callV, callS), Shelf/KitTraced.lean (throwNew0V, throwNewS). -/
/-- where a method has thrown q: the class by its name, the cell, what was written, the world -/
def vx_T (XC : String → State → State → Prop) (st : State) (q : Addr) (t : State) (mc ms : Nat) (free : Addr → Prop) : Prop :=
  ∃ (E : String) (ce : Cell) (L : List Loc), XC E st t ∧ t.heap[q]? = some ce ∧ ce.vm = .none ∧ st.vm.findClass E = some ce.cls ∧ st.WarmedH t.vm ∧ st.sameButNew ({ t with vm := st.vm } : State) L mc ms ∧ ∀ z ∈ L, free z.base
def vx_Q (Qc : Array Value → State → Outcome → State → Prop) (XC : String → State → State → Prop) (mc ms : Nat) (free : Addr → Prop) : Array Value → State → Outcome → State → Prop := fun a st o t =>
  (Qc a st o t ∧ ∃ L, FrameEnd st o t L mc ms ∧ ∀ q ∈ L, free q.base) ∨ ∃ q, o = .threw q ∧ vx_T XC st q t mc ms free
/-- a callee that returns or throws -/
def vx_Met (l : Launch) (y : MethodName) (ws : List Cond) (rm : Room) (Pc : Array Value → State → Prop) (Qc : Array Value → State → Outcome → State → Prop) (XC : String → State → State → Prop) (mc ms : Nat) (free : Addr → Prop) : Prop :=
  MetFree l y (headSpec ws rm) Pc (fun _ _ _ _ _ => True) (vx_Q Qc XC mc ms free)
def vx_Post (XC : String → State → State → Prop) (mc ms : Nat) (free : Addr → Prop) : Pt → Array Value → Addr → Pt → Prop := fun A a q B =>
  ∃ (g : JFrame) (mk : MethodId) (t : State) (L : List Loc) (E : String) (ce : Cell), B.U.heap = t.heap ∧ B.U.vm = t.vm ∧ XC E (A.U.calling g mk a) t ∧ t.heap[q]? = some ce ∧ ce.vm = .none ∧ A.U.vm.findClass E = some ce.cls ∧ B.locs = A.locs ++ L ∧ (∀ z ∈ L, free z.base) ∧ B.cells = A.cells + mc ∧ B.slots = A.slots + ms
def vx_Back (l : Launch) (R : Room) (p : Program) (e : Env) (below : List Frame) (s : State) (sargs : Array Value) (y : MethodName) (len W9 : Nat)
    (Pre : Pt → Array Value → Prop) (Post : Pt → Array Value → Option Value → Pt → Prop) (PostX : Pt → Array Value → Addr → Pt → Prop) : Prop :=
  ∀ (m : MethodId) (meth : Method) (c : Code) (A : Pt) (g : JFrame) (ig : Instr) (mk : MethodId) (a : Array Value),
    Stand p l e R s m sargs below meth c A.U A.locs A.cells A.slots → g.method = m → g.locals.size = c.maxLocals → decode c.code g.pc = .ok (ig, len) →
    2 * g.monitorRoom + (g.stack.map fun v => v.category).sum ≤ W9 → A.U.methodNamed? y = some mk → Pre A a →
    (∃ (v : Option Value) (B : Pt), Stand p l e R s m sargs below meth c B.U B.locs B.cells B.slots ∧ Post A a v B ∧
      Steps p.tables e below (doInvoke e (A.U.setTop g) [] mk a).1 (B.U.setTop { g with pc := g.pc + len, stack := v.toList ++ g.stack })) ∨
    (∃ (q : Addr) (B : Pt), Stand p l e R s m sargs below meth c B.U B.locs B.cells B.slots ∧ PostX A a q B ∧
      Steps p.tables e below (doInvoke e (A.U.setTop g) [] mk a).1 ((B.U.setTop g).pushFrame (.throwing q)))
section Payer
variable {l : Launch} {R : Room} {p : Program} {e : Env} {below : List Frame} {s : State} {sargs : Array Value} {y : MethodName} {len W9 : Nat}
theorem vx_back {ws : List Cond} {rm : Room} {Pc : Array Value → State → Prop} {Qc : Array Value → State → Outcome → State → Prop} {XC : String → State → State → Prop} {mc ms : Nat} {free : Addr → Prop} {bytes : ByteArray} {maxL : Nat} {ret : Option FieldType}
    (hM : vx_Met l y ws rm Pc Qc XC mc ms free) (hblind : FrameBlind Pc) (hrc : rm.cells = mc) (hrs : rm.slots = ms)
    (hframes : rm.frames + 1 ≤ R.frames) (hlocals : W9 + (maxL + 11) + rm.locals ≤ R.locals)
    (hws : ∀ w ∈ ws, ∀ a' U, s.WarmedH U.vm → w.before a' U = true) (hcode : Cond.code y bytes maxL ret ∈ ws) (hinit : ∀ a' U, s.WarmedH U.vm → (Cond.initialized y.cls).before a' U = true) :
    vx_Back l R p e below s sargs y len W9 (PreOf R mc ms Pc) (PostOf Qc mc ms free) (vx_Post XC mc ms free) := by
  intro m meth c A g ig mk a X hg hsize hdg hW hn hp
  have h1 : (headSpec ws rm).pre.before a A.U = true := atoms_intro fun w hw => hws w hw _ _ X.warmed
  have h2 : (Cond.code y bytes maxL ret).before a A.U = true := hws _ hcode _ _ X.warmed
  have h3 : (Cond.initialized y.cls).before a A.U = true := hinit _ _ X.warmed
  have h4 : A.cells + (headSpec ws rm).room.cells ≤ R.cells := by rw [show (headSpec ws rm).room.cells = mc from hrc]; exact hp.1
  have h5 : A.slots + (headSpec ws rm).room.slots ≤ R.slots := by rw [show (headSpec ws rm).room.slots = ms from hrs]; exact hp.2.1
  have hPc : Pc a (A.U.calling g mk a) := hblind _ _ _ _ hp.2.2
  obtain ⟨U, Ls, c0, s0⟩ := A
  dsimp only [Pt.U, Pt.locs, Pt.cells, Pt.slots] at h1 h2 h3 h4 h5 X hn hPc ⊢
  obtain ⟨methY, cY, hmY, hcY, -, hlY, -, -, -, -⟩ := Cond.code_spec hn h2
  obtain ⟨kY, hkY, -⟩ := className_of_methodNamed hn
  have hinitY : kY.init = .initialized := Cond.initialized_spec (findClass_of_methodNamed hn) hkY h3
  have h : At U g.method c below := by rw [hg]; exact X.here
  have hlocals9 : W9 + (maxL + 11) + (headSpec ws rm).room.locals ≤ R.locals := hlocals
  have happ : (headSpec ws rm).appliesLoose y e.platform (U.calling g mk a) = true :=
    Spec.appliesLoose_calling (g := g) h hdg hn hkY hinitY
      (X.room_calling (g := g) (R' := (headSpec ws rm).room) hsize hmY hcY hframes (by rw [hlY]; omega) h4 h5) h1
  obtain ⟨mid, hmid⟩ := h.above
  have hfr : (U.setTop g).frames = (.java g :: mid) ++ below := by rw [State.frames_setTop' g h.top, hmid]; rfl
  obtain ⟨o, s₂, hsteps, -, hend, hq⟩ := Steps.callFree hM p X.admits X.cas X.clock (acts := []) hfr happ hPc trivial
  have hq' : vx_Q Qc XC mc ms free a (U.calling g mk a) o s₂ := hq
  rw [State.frames_setTop' g h.top] at hend
  obtain ⟨g₀, hg0⟩ := Option.isSome_iff_exists.mp h.top
  obtain ⟨r, hr⟩ := State.topJava?_eq_some.mp hg0
  have hr' : (({ U with heap := s₂.heap, slotsUsed := s₂.slotsUsed } : State).setVm s₂.vm).frames = .java g₀ :: r := hr
  rcases hq' with ⟨hqc, L, hfe, hL⟩ | ⟨q, rfl, E, ce, L, hx, hce, hcv, hcl, hW₂, hsm, hL⟩
  · obtain ⟨⟨v, rfl⟩, hW₂, e2, q2, q3, q4, q5, q6⟩ := id hfe
    have e3 : s₂ = ({ (U.calling g mk a).setFrames s₂.frames with heap := s₂.heap, slotsUsed := s₂.slotsUsed } : State).setVm s₂.vm := by
      have : s₂ = ({ s₂ with vm := (U.calling g mk a).vm } : State).setVm s₂.vm := rfl
      rw [e2] at this
      exact this
    obtain ⟨c₂, i₂, len₂, hc₂, hd₂, hf₂⟩ := hend
    have hW' : U.WarmedH s₂.vm := hW₂
    have hcc : c₂ = c := by
      have h1 : s₂.code? g.method = U.code? g.method := by
        rw [State.code?_eq, State.code?_eq, hW'.alike.method?]
      exact Option.some.inj (hc₂.symm.trans (h1.trans h.code))
    subst hcc
    have hlen : len₂ = len := by rw [hdg] at hd₂; cases hd₂; rfl
    subst hlen
    have hs₂ : s₂ = (({ U with heap := s₂.heap, slotsUsed := s₂.slotsUsed } : State).setVm s₂.vm).setTop { g with pc := g.pc + len₂, stack := v.toList ++ g.stack } := by
      refine e3.trans ?_
      rw [hf₂, State.calling_eq h.top, State.setFrames_setFrames, State.setTop_of_frames _ hr', hr]
      rfl
    have hsame : U.sameButNew ({ U with heap := s₂.heap, slotsUsed := s₂.slotsUsed } : State) L mc ms := by
      refine ⟨?_, q2, q3, q4, q5, q6⟩
      obtain ⟨t, ht, -⟩ := State.frames_cons hr
      show ({ U with heap := s₂.heap, slotsUsed := s₂.slotsUsed } : State) = { U.setFrames U.frames with heap := s₂.heap, slotsUsed := s₂.slotsUsed }
      rw [State.setFrames_self ht]
    subst hg
    refine Or.inl ⟨v, ⟨(({ U with heap := s₂.heap, slotsUsed := s₂.slotsUsed } : State).setVm s₂.vm), Ls ++ L, c0 + mc, s0 + ms⟩,
      ⟨X.admits, X.cas, X.clock, X.frames, X.room, X.hears, X.method, X.code, (X.here.setHeapUsed s₂.heap s₂.slotsUsed).setVm hW'.alike, X.tail, State.WarmedH.trans X.warmed hW', X.limits, X.bytes, X.same.trans (hsame.setVm s.vm)⟩,
      ⟨g, mk, s₂, L, rfl, rfl, hqc, rfl, hL, rfl, rfl⟩, ?_⟩
    show Steps p.tables e below _ ((({ U with heap := s₂.heap, slotsUsed := s₂.slotsUsed } : State).setVm s₂.vm).setTop { g with pc := g.pc + len₂, stack := v.toList ++ g.stack })
    rw [← hs₂]
    exact hsteps
  · obtain ⟨e2, q2, q3, q4, q5, q6⟩ := id hsm
    have e3 : s₂ = ({ (U.calling g mk a).setFrames s₂.frames with heap := s₂.heap, slotsUsed := s₂.slotsUsed } : State).setVm s₂.vm := by
      have : s₂ = ({ s₂ with vm := (U.calling g mk a).vm } : State).setVm s₂.vm := rfl
      rw [e2] at this
      exact this
    have hf₂ : s₂.frames = .throwing q :: .java g :: U.frames.tail := hend
    have hW' : U.WarmedH s₂.vm := hW₂
    have hs₂ : s₂ = ((({ U with heap := s₂.heap, slotsUsed := s₂.slotsUsed } : State).setVm s₂.vm).setTop g).pushFrame (.throwing q) := by
      refine e3.trans ?_
      rw [hf₂, State.calling_eq h.top, State.setFrames_setFrames, State.pushFrame, State.frames_setTop _ hr', State.setTop_of_frames _ hr', State.setFrames_setFrames, hr]
      rfl
    have hsame : U.sameButNew ({ U with heap := s₂.heap, slotsUsed := s₂.slotsUsed } : State) L mc ms := by
      refine ⟨?_, q2, q3, q4, q5, q6⟩
      obtain ⟨t, ht, -⟩ := State.frames_cons hr
      show ({ U with heap := s₂.heap, slotsUsed := s₂.slotsUsed } : State) = { U.setFrames U.frames with heap := s₂.heap, slotsUsed := s₂.slotsUsed }
      rw [State.setFrames_self ht]
    subst hg
    refine Or.inr ⟨q, ⟨(({ U with heap := s₂.heap, slotsUsed := s₂.slotsUsed } : State).setVm s₂.vm), Ls ++ L, c0 + mc, s0 + ms⟩,
      ⟨X.admits, X.cas, X.clock, X.frames, X.room, X.hears, X.method, X.code, (X.here.setHeapUsed s₂.heap s₂.slotsUsed).setVm hW'.alike, X.tail, State.WarmedH.trans X.warmed hW', X.limits, X.bytes, X.same.trans (hsame.setVm s.vm)⟩,
      ⟨g, mk, s₂, L, E, ce, rfl, rfl, hx, hce, hcv, hcl, rfl, hL, rfl, rfl⟩, ?_⟩
    show Steps p.tables e below _ (((({ U with heap := s₂.heap, slotsUsed := s₂.slotsUsed } : State).setVm s₂.vm).setTop g).pushFrame (.throwing q))
    rw [← hs₂]
    exact hsteps
end Payer
section Calls
variable {p : Program} {l : Launch} {e : Env} {R : Room} {s : State} {m : MethodId} {args : Array Value} {below : List Frame} {meth : Method} {c : Code} {T : State} {locs : List Loc} {cells slots : Nat}
theorem vx_callV (X : Stand p l e R s m args below meth c T locs cells slots) (hexec : p.tables.exec = Jvm.exec) {own C : String} {index : Nat} {y : MethodName} {bytes : ByteArray} {maxL : Nat} {ret : Option FieldType}
    (hown : s.vm.findClass own = some m.cls) (hlink : (Cond.methodLink own index y).before args s = true) (hinst : (Cond.instanceMethod y).before args s = true) (hsel : (Cond.selects C y y).before args s = true)
    (hcode : (Cond.code y bytes maxL ret).before args s = true) (hy : y.cls ≠ "java/lang/invoke/MethodHandle" ∧ y.cls ≠ "java/lang/invoke/VarHandle")
    {W9 : Nat} {Pre : Pt → Array Value → Prop} {Post : Pt → Array Value → Option Value → Pt → Prop} {PostX : Pt → Array Value → Addr → Pt → Prop} (hK : vx_Back l R p e below s args y 3 W9 Pre Post PostX)
    {b : Addr} {cellB : Cell} (hcell : T.heap[b]? = some cellB) (hobj : cellB.vm.isStatics = false) (hcls : s.vm.findClass C = some cellB.cls)
    {g : JFrame} (hg : g.method = m) (hsize : g.locals.size = c.maxLocals) {argsL rest : List Value} (hlen : ∀ sig, parseMethodDescriptor y.desc = some sig → argsL.length = sig.parameters.length)
    (hstack : g.stack = argsL.reverse ++ .ref b :: rest) (hW : 2 * g.monitorRoom + (rest.map fun v => v.category).sum ≤ W9) (hdg : decode c.code g.pc = .ok (.invokevirtual index, 3))
    (hpre : ∀ vm₁, s.WarmedH vm₁ → Pre ⟨T.setVm vm₁, locs, cells, slots⟩ (Value.ref b :: argsL).toArray) :
    (∃ (v : Option Value) (vm₁ : Vm) (B : Pt), s.WarmedH vm₁ ∧ Stand p l e R s m args below meth c B.U B.locs B.cells B.slots ∧ Post ⟨T.setVm vm₁, locs, cells, slots⟩ (Value.ref b :: argsL).toArray v B ∧
      ∀ target, Steps p.tables e below (B.U.setTop { g with pc := g.pc + 3, stack := v.toList ++ rest }) target → Steps p.tables e below (T.setTop g) target) ∨
    (∃ (q : Addr) (vm₁ : Vm) (B : Pt), s.WarmedH vm₁ ∧ Stand p l e R s m args below meth c B.U B.locs B.cells B.slots ∧ PostX ⟨T.setVm vm₁, locs, cells, slots⟩ (Value.ref b :: argsL).toArray q B ∧
      Steps p.tables e below (T.setTop g) ((B.U.setTop { g with stack := rest }).pushFrame (.throwing q))) := by
  obtain ⟨mk, methM, hnamed, hmethM, hstM, habM⟩ := Cond.instanceMethod_spec hinst
  obtain ⟨methM', cM, hmethM', -, -, -, -, -, -, hsigM⟩ := Cond.code_spec hnamed hcode
  cases hmethM.symm.trans hmethM'
  obtain ⟨c2, r2, m2, q1, q2, q3, q4, kP, hkP, hkPi⟩ := Cond.selects_spec hsel
  cases hcls.symm.trans q1
  cases (State.methodFound?_of_named hnamed hy).symm.trans q2
  cases hnamed.symm.trans q3
  have hselP : selectMethod e.platform s.vm cellB.cls mk = .method mk := by rw [Launch.admits_selectMethod X.admits]; exact q4
  obtain ⟨vm₁, X₁, hstep₁⟩ := X.invokevirtual hexec hown hlink hnamed hmethM hstM hkP hkPi hy (a := b) (cell := cellB) hcell
    (fun z h => by rw [h] at hobj; cases hobj) hselP hmethM habM hkP hkPi (g := g) hg (argsL := argsL) (rest := rest) (hlen _ hsigM) hstack hdg
  rcases hK m meth c ⟨T.setVm vm₁, locs, cells, slots⟩ { g with stack := rest } (.invokevirtual index) mk (Value.ref b :: argsL).toArray X₁ hg hsize hdg hW (X₁.named hnamed) (hpre vm₁ X₁.warmed) with ⟨v, B, X', hpost, hsteps⟩ | ⟨q, B, X', hpost, hsteps⟩
  · exact Or.inl ⟨v, vm₁, B, X₁.warmed, X', hpost, fun target h => hstep₁ _ fun acts => by rw [doInvoke_state]; exact hsteps.trans h⟩
  · exact Or.inr ⟨q, vm₁, B, X₁.warmed, X', hpost, hstep₁ _ fun acts => by rw [doInvoke_state]; exact hsteps⟩
theorem vx_callS (X : Stand p l e R s m args below meth c T locs cells slots) (hexec : p.tables.exec = Jvm.exec) {own : String} {index : Nat} {y : MethodName} {bytes : ByteArray} {maxL : Nat} {ret : Option FieldType}
    (hown : s.vm.findClass own = some m.cls) (hlink : (Cond.methodLink own index y).before args s = true) (hstat : (Cond.static y).before args s = true) (hinit : (Cond.initialized y.cls).before args s = true)
    (hcode : (Cond.code y bytes maxL ret).before args s = true) (hy : y.cls ≠ "java/lang/invoke/MethodHandle" ∧ y.cls ≠ "java/lang/invoke/VarHandle")
    {W9 : Nat} {Pre : Pt → Array Value → Prop} {Post : Pt → Array Value → Option Value → Pt → Prop} {PostX : Pt → Array Value → Addr → Pt → Prop} (hK : vx_Back l R p e below s args y 3 W9 Pre Post PostX)
    {g : JFrame} (hg : g.method = m) (hsize : g.locals.size = c.maxLocals) {argsL rest : List Value} (hlen : ∀ sig, parseMethodDescriptor y.desc = some sig → argsL.length = sig.parameters.length)
    (hstack : g.stack = argsL.reverse ++ rest) (hW : 2 * g.monitorRoom + (rest.map fun v => v.category).sum ≤ W9) (hdg : decode c.code g.pc = .ok (.invokestatic index, 3))
    (hpre : ∀ vm₁, s.WarmedH vm₁ → Pre ⟨T.setVm vm₁, locs, cells, slots⟩ argsL.toArray) :
    (∃ (v : Option Value) (vm₁ : Vm) (B : Pt), s.WarmedH vm₁ ∧ Stand p l e R s m args below meth c B.U B.locs B.cells B.slots ∧ Post ⟨T.setVm vm₁, locs, cells, slots⟩ argsL.toArray v B ∧
      ∀ target, Steps p.tables e below (B.U.setTop { g with pc := g.pc + 3, stack := v.toList ++ rest }) target → Steps p.tables e below (T.setTop g) target) ∨
    (∃ (q : Addr) (vm₁ : Vm) (B : Pt), s.WarmedH vm₁ ∧ Stand p l e R s m args below meth c B.U B.locs B.cells B.slots ∧ PostX ⟨T.setVm vm₁, locs, cells, slots⟩ argsL.toArray q B ∧
      Steps p.tables e below (T.setTop g) ((B.U.setTop { g with stack := rest }).pushFrame (.throwing q))) := by
  obtain ⟨mk, hnamed⟩ := Cond.code_named hcode
  obtain ⟨methM, cM, hmethM, -, -, -, -, -, -, hsigM⟩ := Cond.code_spec hnamed hcode
  have hstatic : methM.isStatic = true := Cond.static_spec hnamed hmethM hstat
  obtain ⟨kP, hkP, -⟩ := className_of_methodNamed hnamed
  have hinitP : kP.init = .initialized := Cond.initialized_spec (findClass_of_methodNamed hnamed) hkP hinit
  obtain ⟨vm₁, X₁, hstep₁⟩ := X.invokestatic hexec hown hlink hnamed hmethM hstatic hkP hinitP hy (g := g) hg (argsL := argsL) (rest := rest) (hlen _ hsigM) hstack hdg
  rcases hK m meth c ⟨T.setVm vm₁, locs, cells, slots⟩ { g with stack := rest } (.invokestatic index) mk argsL.toArray X₁ hg hsize hdg hW (X₁.named hnamed) (hpre vm₁ X₁.warmed) with ⟨v, B, X', hpost, hsteps⟩ | ⟨q, B, X', hpost, hsteps⟩
  · exact Or.inl ⟨v, vm₁, B, X₁.warmed, X', hpost, fun target h => hstep₁ _ fun acts => by rw [doInvoke_state]; exact hsteps.trans h⟩
  · exact Or.inr ⟨q, vm₁, B, X₁.warmed, X', hpost, hstep₁ _ fun acts => by rw [doInvoke_state]; exact hsteps⟩
end Calls
theorem vx_cls {s : State} {T : State} {vm₁ : Vm} {E : String} {k : ClassId} (hW : s.WarmedH vm₁) (h : (T.setVm vm₁).vm.findClass E = some k) : s.vm.findClass E = some k := by
  have h1 : vm₁.findClass E = some k := h
  rw [hW.alike.findClass] at h1
  exact h1
/-- the method's frame g, with q thrown over it -/
def vx_W (p : Program) (l : Launch) (e : Env) (R : Room) (s : State) (m : MethodId) (args : Array Value) (below : List Frame) (meth : Method) (c : Code) (H : Heap) (locs : List Loc) (cells slots : Nat) (Q : State → Prop) (g : JFrame) (q : Addr) : Prop :=
  ∀ T : State, T.heap = H → Stand p l e R s m args below meth c T locs cells slots → ∃ t, Steps p.tables e below ((T.setTop g).pushFrame (.throwing q)) t ∧ Q t
def vx_Run (p : Program) (l : Launch) (e : Env) (R : Room) (s : State) (m : MethodId) (args : Array Value) (below : List Frame) (meth : Method) (c : Code) (H : Heap) (locs : List Loc) (cells slots mc ms : Nat) (g : JFrame) (rest : List Value) (Qa : State → Outcome → State → Prop) (XC : String → State → State → Prop) (free : Addr → Prop) : Prop :=
  ∀ T : State, T.heap = H → Stand p l e R s m args below meth c T locs cells slots →
    (∃ (v : Option Value) (st₀ t T' : State) (L : List Loc), st₀.heap = H ∧ Stand p l e R s m args below meth c T' (locs ++ L) (cells + mc) (slots + ms) ∧ (∀ q ∈ L, free q.base) ∧ T'.heap = t.heap ∧ T'.vm = t.vm ∧ Qa st₀ (.returned v) t ∧
      Goes p e below T g T' { g with pc := g.pc + 3, stack := v.toList ++ rest }) ∨
    (∃ (q : Addr) (st₀ t T' : State) (L : List Loc) (E : String) (ce : Cell), st₀.heap = H ∧ Stand p l e R s m args below meth c T' (locs ++ L) (cells + mc) (slots + ms) ∧ (∀ z ∈ L, free z.base) ∧ T'.heap = t.heap ∧ T'.vm = t.vm ∧ XC E st₀ t ∧ t.heap[q]? = some ce ∧ ce.vm = .none ∧ s.vm.findClass E = some ce.cls ∧
      Steps p.tables e below (T.setTop g) ((T'.setTop { g with stack := rest }).pushFrame (.throwing q)))
def vx_X {S : Type} (px : S → Prop) (B : String → S → State → Prop) (A : Nat → Prop) : String → State → State → Prop := fun E st t => ∃ u : S, px u ∧ B E u t ∧ va_F A st t
section Runs
variable {p : Program} {l : Launch} {e : Env} {R : Room} {s : State} {m : MethodId} {args : Array Value} {below : List Frame} {meth : Method} {c : Code} {H : Heap} {locs : List Loc} {cells slots : Nat}
variable {y : MethodName} {bytes cc : ByteArray} {maxL nL mc ms n index : Nat} {ret : Option FieldType} {ws : List Cond} {rm : Room} {Pc : Array Value → State → Prop} {Qc : Array Value → State → Outcome → State → Prop} {XC : String → State → State → Prop} {free : Addr → Prop} {Ts : List Cond} {own C : String} {b : Addr} {As rest : List Value} {g : JFrame}
theorem vx_callBack (cb : CallB R s args own index y bytes maxL ret ws rm mc ms n) (hM : vx_Met l y ws rm Pc Qc XC mc ms free) (hbl : FrameBlind Pc) : vx_Back l R p e below s args y 3 8 (PreOf R mc ms Pc) (PostOf Qc mc ms free) (vx_Post XC mc ms free) := by
  obtain ⟨hrc, hrs, hfr, hlo, hws, hcw, -, hini, -⟩ := cb
  exact vx_back (bytes := bytes) (maxL := maxL) (ret := ret) hM hbl hrc hrs hfr hlo hws hcw (fun a' U hW => word_at hW (Or.inl (by first | rfl | simp [Cond.onTables, Cond.keeps, Cond.steady])) hini)
theorem vx_runV (S : CallFix p m c cc nL s args Ts own) (hM : vx_Met l y ws rm Pc Qc XC mc ms free) (cw : CallW R s args own C index y bytes maxL ret ws rm mc ms n) (hp : PreV s H C b Pc As)
    (hg : g.method = m) (hn : As.length = n) (hsize : g.locals.size = nL) (hstack : g.stack = As.reverse ++ .ref b :: rest) (hW : 2 * g.monitorRoom + (rest.map fun v => v.category).sum ≤ 8) (hdg : decode cc g.pc = .ok (.invokevirtual index, 3)) (hf : cells + mc ≤ R.cells ∧ slots + ms ≤ R.slots) :
    vx_Run p l e R s m args below meth c H locs cells slots mc ms g rest (Qc (Value.ref b :: As).toArray) XC free := by
  have hK : vx_Back l R p e below s args y 3 8 (PreOf R mc ms Pc) (PostOf Qc mc ms free) (vx_Post XC mc ms free) := vx_callBack cw.1 hM hp.1
  obtain ⟨⟨-, -, -, -, -, -, hcode, -, hy, hlen, hl⟩, hin, hse⟩ := cw
  obtain ⟨hx, hb, hml, ho, -⟩ := S
  obtain ⟨-, ⟨cellB, hcB, hoB, hclB⟩, hPc⟩ := hp
  intro T hT X
  rcases vx_callV X hx (C := C) (bytes := bytes) (maxL := maxL) (ret := ret) ho hl hin hse hcode hy hK (by rw [hT]; exact hcB) hoB hclB hg (hsize.trans hml.symm) (argsL := As) (rest := rest) (fun sig h => hn.trans (hlen sig h)) hstack hW (by rw [hb]; exact hdg)
    (fun vm₁ hW₁ => ⟨hf.1, hf.2, hPc (T.setVm vm₁) hT hW₁⟩) with ⟨v, vm₁, ⟨U', l2, c2, s2⟩, hW₁, X', ⟨g', mk, t, L, e1, e2, hq, h1, hL, h2, h3⟩, st⟩ | ⟨q, vm₁, ⟨U', l2, c2, s2⟩, hW₁, X', ⟨g', mk, t, L, E, ce, e1, e2, hq, hce, hcv, hcl, h1, hL, h2, h3⟩, st⟩
  · dsimp only [Pt.U, Pt.locs, Pt.cells, Pt.slots] at X' e1 e2 h1 h2 h3 st
    subst h1; subst h2; subst h3
    exact Or.inl ⟨v, (T.setVm vm₁).calling g' mk (Value.ref b :: As).toArray, t, U', L, hT, X', hL, e1, e2, hq, st⟩
  · dsimp only [Pt.U, Pt.locs, Pt.cells, Pt.slots] at X' e1 e2 h1 h2 h3 st hcl
    subst h1; subst h2; subst h3
    exact Or.inr ⟨q, (T.setVm vm₁).calling g' mk (Value.ref b :: As).toArray, t, U', L, E, ce, hT, X', hL, e1, e2, hq, hce, hcv, vx_cls hW₁ hcl, st⟩
theorem vx_runS (S : CallFix p m c cc nL s args Ts own) (hM : vx_Met l y ws rm Pc Qc XC mc ms free) (cw : CallB R s args own index y bytes maxL ret ws rm mc ms n ∧ (Cond.static y).before args s = true) (hp : PreS s H Pc As)
    (hg : g.method = m) (hn : As.length = n) (hsize : g.locals.size = nL) (hstack : g.stack = As.reverse ++ rest) (hW : 2 * g.monitorRoom + (rest.map fun v => v.category).sum ≤ 8) (hdg : decode cc g.pc = .ok (.invokestatic index, 3)) (hf : cells + mc ≤ R.cells ∧ slots + ms ≤ R.slots) :
    vx_Run p l e R s m args below meth c H locs cells slots mc ms g rest (Qc As.toArray) XC free := by
  have hK : vx_Back l R p e below s args y 3 8 (PreOf R mc ms Pc) (PostOf Qc mc ms free) (vx_Post XC mc ms free) := vx_callBack cw.1 hM hp.1
  obtain ⟨⟨-, -, -, -, -, -, hcode, hini, hy, hlen, hl⟩, hstt⟩ := cw
  obtain ⟨hx, hb, hml, ho, -⟩ := S
  intro T hT X
  rcases vx_callS X hx (bytes := bytes) (maxL := maxL) (ret := ret) ho hl hstt hini hcode hy hK hg (hsize.trans hml.symm) (argsL := As) (rest := rest) (fun sig h => hn.trans (hlen sig h)) hstack hW (by rw [hb]; exact hdg)
    (fun vm₁ hW₁ => ⟨hf.1, hf.2, hp.2 (T.setVm vm₁) hT hW₁⟩) with ⟨v, vm₁, ⟨U', l2, c2, s2⟩, hW₁, X', ⟨g', mk, t, L, e1, e2, hq, h1, hL, h2, h3⟩, st⟩ | ⟨q, vm₁, ⟨U', l2, c2, s2⟩, hW₁, X', ⟨g', mk, t, L, E, ce, e1, e2, hq, hce, hcv, hcl, h1, hL, h2, h3⟩, st⟩
  · dsimp only [Pt.U, Pt.locs, Pt.cells, Pt.slots] at X' e1 e2 h1 h2 h3 st
    subst h1; subst h2; subst h3
    exact Or.inl ⟨v, (T.setVm vm₁).calling g' mk As.toArray, t, U', L, hT, X', hL, e1, e2, hq, st⟩
  · dsimp only [Pt.U, Pt.locs, Pt.cells, Pt.slots] at X' e1 e2 h1 h2 h3 st hcl
    subst h1; subst h2; subst h3
    exact Or.inr ⟨q, (T.setVm vm₁).calling g' mk As.toArray, t, U', L, E, ce, hT, X', hL, e1, e2, hq, hce, hcv, vx_cls hW₁ hcl, st⟩
end Runs
section Rows
variable {p : Program} {l : Launch} {e : Env} {R : Room} {s : State} {m : MethodId} {args : Array Value} {below : List Frame} {meth : Method} {c : Code} {H : Heap} {locs : List Loc} {cells slots : Nat} {Q : State → Prop}
variable {mc ms : Nat} {free : Addr → Prop} {A0 A1 : Nat → Prop} {H0 : Heap} {a : Array Value} {pc : Nat} {ls : Array Slot} {st0 rest : List Value}
theorem vx_keep {st₀ t T' : State} {L : List Loc} (h0 : st₀.heap = H) (e1 : T'.heap = t.heap) (hS : va_S A0 H0 H locs) (hA : ∀ q, q < H.size → A1 q → A0 q) (hf : ∀ q, free q → A0 q) (hL : ∀ q ∈ L, free q.base) (hF : va_F A1 st₀ t) :
    H.size ≤ T'.heap.size ∧ (∀ q : Nat, q < H.size → ¬ A1 q → T'.heap[q]? = H[q]?) ∧ va_S A0 H0 T'.heap (locs ++ L) := by
  obtain ⟨hz, hk⟩ := hF
  rw [h0] at hz hk
  exact ⟨by rw [e1]; exact hz, fun q h1 h2 => by rw [e1]; exact hk q h1 h2,
    ⟨Nat.le_trans hS.1 (by rw [e1]; exact hz), fun q h1 h2 => by rw [e1, hk q (Nat.lt_of_lt_of_le h1 hS.1) (fun z => h2 (hA q (Nat.lt_of_lt_of_le h1 hS.1) z))]; exact hS.2.1 q h1 h2, fun q hq => by
      rcases List.mem_append.mp hq with h | h
      · exact hS.2.2 q h
      · exact hf _ (hL q h)⟩⟩
theorem vx_calli {S SX : Type} {post : Int32 → S → Prop} {px : SX → Prop} {B : S → State → Prop} {BX : String → SX → State → Prop} {AX : Nat → Prop} (hr : vx_Run p l e R s m args below meth c H locs cells slots mc ms (F0 m pc ls st0) rest (va_Qi post B A1 a) (vx_X px BX AX) free) (hS : va_S A0 H0 H locs) (hA : ∀ q, q < H.size → A1 q → A0 q) (hf : ∀ q, free q → A0 q) (hAX : ∀ q, q < H.size → AX q → A0 q)
    (kx : ∀ (E : String) (ce : Cell) (q9 : Addr) (u : SX) (t : State) (H1 : Heap) (locs1 : List Loc), t.heap = H1 → s.vm.Alike t.vm → px u → BX E u t → H.size ≤ H1.size → (∀ q : Nat, q < H.size → ¬ AX q → H1[q]? = H[q]?) → va_S A0 H0 H1 locs1 → H1[q9]? = some ce → ce.vm = .none → s.vm.findClass E = some ce.cls → vx_W p l e R s m args below meth c H1 locs1 (cells + mc) (slots + ms) Q (F0 m pc ls rest) q9)
    (kk : ∀ (r : Int32) (u : S) (t : State) (H1 : Heap) (locs1 : List Loc), t.heap = H1 → s.vm.Alike t.vm → post r u → B u t → H.size ≤ H1.size → (∀ q : Nat, q < H.size → ¬ A1 q → H1[q]? = H[q]?) → va_S A0 H0 H1 locs1 → W p l e R s m args below meth c H1 locs1 (cells + mc) (slots + ms) Q (F0 m (pc + 3) ls (.int r :: rest))) : W p l e R s m args below meth c H locs cells slots Q (F0 m pc ls st0) := by
  intro T hT X
  rcases hr T hT X with ⟨v, st₀, t, T', L, h0, X', hL, e1, e2, ⟨⟨r, u, hv, hp, hb⟩, hF⟩, st⟩ | ⟨q, st₀, t, T', L, E, ce, h0, X', hL, e1, e2, ⟨u, hp, hb, hF⟩, hce, hcv, hcl, st⟩
  · cases hv
    obtain ⟨k1, k2, k3⟩ := vx_keep h0 e1 hS hA hf hL hF
    obtain ⟨t2, a1, b1⟩ := kk r u t T'.heap (locs ++ L) e1.symm (by rw [← e2]; exact X'.warmed.alike) hp hb k1 k2 k3 T' rfl X'
    exact ⟨t2, st t2 a1, b1⟩
  · obtain ⟨k1, k2, k3⟩ := vx_keep h0 e1 hS hAX hf hL hF
    obtain ⟨t2, a1, b1⟩ := kx E ce q u t T'.heap (locs ++ L) e1.symm (by rw [← e2]; exact X'.warmed.alike) hp hb k1 k2 k3 (by rw [e1]; exact hce) hcv hcl T' rfl X'
    exact ⟨t2, st.trans a1, b1⟩
theorem vx_calll {S SX : Type} {post : Int64 → S → Prop} {px : SX → Prop} {B : S → State → Prop} {BX : String → SX → State → Prop} {AX : Nat → Prop} (hr : vx_Run p l e R s m args below meth c H locs cells slots mc ms (F0 m pc ls st0) rest (va_Ql post B A1 a) (vx_X px BX AX) free) (hS : va_S A0 H0 H locs) (hA : ∀ q, q < H.size → A1 q → A0 q) (hf : ∀ q, free q → A0 q) (hAX : ∀ q, q < H.size → AX q → A0 q)
    (kx : ∀ (E : String) (ce : Cell) (q9 : Addr) (u : SX) (t : State) (H1 : Heap) (locs1 : List Loc), t.heap = H1 → s.vm.Alike t.vm → px u → BX E u t → H.size ≤ H1.size → (∀ q : Nat, q < H.size → ¬ AX q → H1[q]? = H[q]?) → va_S A0 H0 H1 locs1 → H1[q9]? = some ce → ce.vm = .none → s.vm.findClass E = some ce.cls → vx_W p l e R s m args below meth c H1 locs1 (cells + mc) (slots + ms) Q (F0 m pc ls rest) q9)
    (kk : ∀ (r : Int64) (u : S) (t : State) (H1 : Heap) (locs1 : List Loc), t.heap = H1 → s.vm.Alike t.vm → post r u → B u t → H.size ≤ H1.size → (∀ q : Nat, q < H.size → ¬ A1 q → H1[q]? = H[q]?) → va_S A0 H0 H1 locs1 → W p l e R s m args below meth c H1 locs1 (cells + mc) (slots + ms) Q (F0 m (pc + 3) ls (.long r :: rest))) : W p l e R s m args below meth c H locs cells slots Q (F0 m pc ls st0) := by
  intro T hT X
  rcases hr T hT X with ⟨v, st₀, t, T', L, h0, X', hL, e1, e2, ⟨⟨r, u, hv, hp, hb⟩, hF⟩, st⟩ | ⟨q, st₀, t, T', L, E, ce, h0, X', hL, e1, e2, ⟨u, hp, hb, hF⟩, hce, hcv, hcl, st⟩
  · cases hv
    obtain ⟨k1, k2, k3⟩ := vx_keep h0 e1 hS hA hf hL hF
    obtain ⟨t2, a1, b1⟩ := kk r u t T'.heap (locs ++ L) e1.symm (by rw [← e2]; exact X'.warmed.alike) hp hb k1 k2 k3 T' rfl X'
    exact ⟨t2, st t2 a1, b1⟩
  · obtain ⟨k1, k2, k3⟩ := vx_keep h0 e1 hS hAX hf hL hF
    obtain ⟨t2, a1, b1⟩ := kx E ce q u t T'.heap (locs ++ L) e1.symm (by rw [← e2]; exact X'.warmed.alike) hp hb k1 k2 k3 (by rw [e1]; exact hce) hcv hcl T' rfl X'
    exact ⟨t2, st.trans a1, b1⟩
theorem vx_callf {S SX : Type} {post : UInt32 → S → Prop} {px : SX → Prop} {B : S → State → Prop} {BX : String → SX → State → Prop} {AX : Nat → Prop} (hr : vx_Run p l e R s m args below meth c H locs cells slots mc ms (F0 m pc ls st0) rest (va_Qf post B A1 a) (vx_X px BX AX) free) (hS : va_S A0 H0 H locs) (hA : ∀ q, q < H.size → A1 q → A0 q) (hf : ∀ q, free q → A0 q) (hAX : ∀ q, q < H.size → AX q → A0 q)
    (kx : ∀ (E : String) (ce : Cell) (q9 : Addr) (u : SX) (t : State) (H1 : Heap) (locs1 : List Loc), t.heap = H1 → s.vm.Alike t.vm → px u → BX E u t → H.size ≤ H1.size → (∀ q : Nat, q < H.size → ¬ AX q → H1[q]? = H[q]?) → va_S A0 H0 H1 locs1 → H1[q9]? = some ce → ce.vm = .none → s.vm.findClass E = some ce.cls → vx_W p l e R s m args below meth c H1 locs1 (cells + mc) (slots + ms) Q (F0 m pc ls rest) q9)
    (kk : ∀ (r : UInt32) (u : S) (t : State) (H1 : Heap) (locs1 : List Loc), t.heap = H1 → s.vm.Alike t.vm → post r u → B u t → H.size ≤ H1.size → (∀ q : Nat, q < H.size → ¬ A1 q → H1[q]? = H[q]?) → va_S A0 H0 H1 locs1 → W p l e R s m args below meth c H1 locs1 (cells + mc) (slots + ms) Q (F0 m (pc + 3) ls (.float r :: rest))) : W p l e R s m args below meth c H locs cells slots Q (F0 m pc ls st0) := by
  intro T hT X
  rcases hr T hT X with ⟨v, st₀, t, T', L, h0, X', hL, e1, e2, ⟨⟨r, u, hv, hp, hb⟩, hF⟩, st⟩ | ⟨q, st₀, t, T', L, E, ce, h0, X', hL, e1, e2, ⟨u, hp, hb, hF⟩, hce, hcv, hcl, st⟩
  · cases hv
    obtain ⟨k1, k2, k3⟩ := vx_keep h0 e1 hS hA hf hL hF
    obtain ⟨t2, a1, b1⟩ := kk r u t T'.heap (locs ++ L) e1.symm (by rw [← e2]; exact X'.warmed.alike) hp hb k1 k2 k3 T' rfl X'
    exact ⟨t2, st t2 a1, b1⟩
  · obtain ⟨k1, k2, k3⟩ := vx_keep h0 e1 hS hAX hf hL hF
    obtain ⟨t2, a1, b1⟩ := kx E ce q u t T'.heap (locs ++ L) e1.symm (by rw [← e2]; exact X'.warmed.alike) hp hb k1 k2 k3 (by rw [e1]; exact hce) hcv hcl T' rfl X'
    exact ⟨t2, st.trans a1, b1⟩
theorem vx_calld {S SX : Type} {post : UInt64 → S → Prop} {px : SX → Prop} {B : S → State → Prop} {BX : String → SX → State → Prop} {AX : Nat → Prop} (hr : vx_Run p l e R s m args below meth c H locs cells slots mc ms (F0 m pc ls st0) rest (va_Qd post B A1 a) (vx_X px BX AX) free) (hS : va_S A0 H0 H locs) (hA : ∀ q, q < H.size → A1 q → A0 q) (hf : ∀ q, free q → A0 q) (hAX : ∀ q, q < H.size → AX q → A0 q)
    (kx : ∀ (E : String) (ce : Cell) (q9 : Addr) (u : SX) (t : State) (H1 : Heap) (locs1 : List Loc), t.heap = H1 → s.vm.Alike t.vm → px u → BX E u t → H.size ≤ H1.size → (∀ q : Nat, q < H.size → ¬ AX q → H1[q]? = H[q]?) → va_S A0 H0 H1 locs1 → H1[q9]? = some ce → ce.vm = .none → s.vm.findClass E = some ce.cls → vx_W p l e R s m args below meth c H1 locs1 (cells + mc) (slots + ms) Q (F0 m pc ls rest) q9)
    (kk : ∀ (r : UInt64) (u : S) (t : State) (H1 : Heap) (locs1 : List Loc), t.heap = H1 → s.vm.Alike t.vm → post r u → B u t → H.size ≤ H1.size → (∀ q : Nat, q < H.size → ¬ A1 q → H1[q]? = H[q]?) → va_S A0 H0 H1 locs1 → W p l e R s m args below meth c H1 locs1 (cells + mc) (slots + ms) Q (F0 m (pc + 3) ls (.double r :: rest))) : W p l e R s m args below meth c H locs cells slots Q (F0 m pc ls st0) := by
  intro T hT X
  rcases hr T hT X with ⟨v, st₀, t, T', L, h0, X', hL, e1, e2, ⟨⟨r, u, hv, hp, hb⟩, hF⟩, st⟩ | ⟨q, st₀, t, T', L, E, ce, h0, X', hL, e1, e2, ⟨u, hp, hb, hF⟩, hce, hcv, hcl, st⟩
  · cases hv
    obtain ⟨k1, k2, k3⟩ := vx_keep h0 e1 hS hA hf hL hF
    obtain ⟨t2, a1, b1⟩ := kk r u t T'.heap (locs ++ L) e1.symm (by rw [← e2]; exact X'.warmed.alike) hp hb k1 k2 k3 T' rfl X'
    exact ⟨t2, st t2 a1, b1⟩
  · obtain ⟨k1, k2, k3⟩ := vx_keep h0 e1 hS hAX hf hL hF
    obtain ⟨t2, a1, b1⟩ := kx E ce q u t T'.heap (locs ++ L) e1.symm (by rw [← e2]; exact X'.warmed.alike) hp hb k1 k2 k3 (by rw [e1]; exact hce) hcv hcl T' rfl X'
    exact ⟨t2, st.trans a1, b1⟩
theorem vx_callv {S SX : Type} {post : S → Prop} {px : SX → Prop} {B : S → State → Prop} {BX : String → SX → State → Prop} {AX : Nat → Prop} (hr : vx_Run p l e R s m args below meth c H locs cells slots mc ms (F0 m pc ls st0) rest (va_Qv post B A1 a) (vx_X px BX AX) free) (hS : va_S A0 H0 H locs) (hA : ∀ q, q < H.size → A1 q → A0 q) (hf : ∀ q, free q → A0 q) (hAX : ∀ q, q < H.size → AX q → A0 q)
    (kx : ∀ (E : String) (ce : Cell) (q9 : Addr) (u : SX) (t : State) (H1 : Heap) (locs1 : List Loc), t.heap = H1 → s.vm.Alike t.vm → px u → BX E u t → H.size ≤ H1.size → (∀ q : Nat, q < H.size → ¬ AX q → H1[q]? = H[q]?) → va_S A0 H0 H1 locs1 → H1[q9]? = some ce → ce.vm = .none → s.vm.findClass E = some ce.cls → vx_W p l e R s m args below meth c H1 locs1 (cells + mc) (slots + ms) Q (F0 m pc ls rest) q9)
    (kk : ∀ (u : S) (t : State) (H1 : Heap) (locs1 : List Loc), t.heap = H1 → s.vm.Alike t.vm → post u → B u t → H.size ≤ H1.size → (∀ q : Nat, q < H.size → ¬ A1 q → H1[q]? = H[q]?) → va_S A0 H0 H1 locs1 → W p l e R s m args below meth c H1 locs1 (cells + mc) (slots + ms) Q (F0 m (pc + 3) ls (rest))) : W p l e R s m args below meth c H locs cells slots Q (F0 m pc ls st0) := by
  intro T hT X
  rcases hr T hT X with ⟨v, st₀, t, T', L, h0, X', hL, e1, e2, ⟨⟨u, hv, hp, hb⟩, hF⟩, st⟩ | ⟨q, st₀, t, T', L, E, ce, h0, X', hL, e1, e2, ⟨u, hp, hb, hF⟩, hce, hcv, hcl, st⟩
  · cases hv
    obtain ⟨k1, k2, k3⟩ := vx_keep h0 e1 hS hA hf hL hF
    obtain ⟨t2, a1, b1⟩ := kk u t T'.heap (locs ++ L) e1.symm (by rw [← e2]; exact X'.warmed.alike) hp hb k1 k2 k3 T' rfl X'
    exact ⟨t2, st t2 a1, b1⟩
  · obtain ⟨k1, k2, k3⟩ := vx_keep h0 e1 hS hAX hf hL hF
    obtain ⟨t2, a1, b1⟩ := kx E ce q u t T'.heap (locs ++ L) e1.symm (by rw [← e2]; exact X'.warmed.alike) hp hb k1 k2 k3 (by rw [e1]; exact hce) hcv hcl T' rfl X'
    exact ⟨t2, st.trans a1, b1⟩
/-- caught by the row x of this method's table; the rows ahead don't take it -/
theorem vx_catch {own name : String} {E : String} {ce : Cell} {q : Addr} (hown : s.vm.findClass own = some m.cls) (pre : List ExceptionTableEntry) (x : ExceptionTableEntry) (suf : List ExceptionTableEntry) (hsplit : c.exceptionTable.toList = pre ++ x :: suf)
    (hpass : ∀ z ∈ pre, covers z pc = false ∨ (z.catchType ≠ 0 ∧ ∃ nm : String, (Cond.classLink own z.catchType nm).before args s = true ∧ va_Nc E nm s)) (hx : covers x pc = true) (h0 : x.catchType ≠ 0)
    (hlink : (Cond.classLink own x.catchType name).before args s = true) (hcast : (Cond.castable E name).before args s = true) (hcell : H[q]? = some ce) (hv : ce.vm = .none) (hcl : s.vm.findClass E = some ce.cls)
    (kk : W p l e R s m args below meth c H locs cells slots Q (F0 m x.handlerPc ls [.ref q])) : vx_W p l e R s m args below meth c H locs cells slots Q (F0 m pc ls rest) q := by
  intro T hT X
  have hpl : e.platform.magicAccessors = ({} : Platform).magicAccessors := by rw [X.admits.platform]
  obtain ⟨c3, c4, hc3, hc4, hasg⟩ := Cond.castable_spec hcast
  cases Option.some.inj (hc3.symm.trans hcl)
  obtain ⟨c5, hc5, hcl5⟩ := Cond.classLink_spec hown hlink e.platform hpl
  cases Option.some.inj (hc4.symm.trans hc5)
  obtain ⟨vm', X', st⟩ := X.thenCaughtThrough q (g := F0 m pc ls rest) rfl (Steps.refl _) (by rw [hT]; exact hcell) (by rw [hv]; rfl) (by obtain ⟨k9, h9, -⟩ := Vm.findClass_spec hcl; exact ⟨k9, h9⟩) pre x suf hsplit
    (fun z hz => by
      rcases hpass z hz with h | ⟨hz0, nm, hl1, hn1⟩
      · exact Or.inl h
      · obtain ⟨c6, hc6, hcl6⟩ := Cond.classLink_spec hown hl1 e.platform hpl
        obtain ⟨a8, b8, h1, h2, h3⟩ := hn1
        cases Option.some.inj (h1.symm.trans hcl)
        cases Option.some.inj (h2.symm.trans hc6)
        exact Or.inr ⟨hz0, _, hcl6, h3⟩) hx (Or.inr ⟨h0, c4, hcl5, hasg⟩)
  obtain ⟨t, a1, b1⟩ := kk (T.setVm vm') hT X'
  exact ⟨t, st.trans a1, b1⟩
end Rows
section Ends
variable {p : Program} {l : Launch} {e : Env} {R : Room} {s : State} {m : MethodId} {args : Array Value} {below : List Frame} {meth : Method} {c : Code} {H : Heap} {locs : List Loc} {cells slots : Nat} {Q : State → Prop}
variable {mc ms : Nat} {free : Addr → Prop} {A0 A1 : Nat → Prop} {H0 : Heap} {a : Array Value} {ls : Array Slot} {st0 rest : List Value}
variable {Qc : Array Value → State → Outcome → State → Prop} {XC : String → State → State → Prop}
/-- what a body that may throw owes at its end -/
def vx_MQ (below : List Frame) (Qc : Array Value → State → Outcome → State → Prop) (XC : String → State → State → Prop) (a : Array Value) (s : State) (mc ms : Nat) (free : Addr → Prop) : State → Prop := fun t =>
  ∃ o, t.status = .running ∧ Ended t below o ∧ vx_Q Qc XC mc ms free a s o t
theorem vx_ret {g : JFrame} {mc ms : Nat} (k : W p l e R s m args below meth c H locs cells slots (MQ below Qc args s mc ms free) g) : W p l e R s m args below meth c H locs cells slots (vx_MQ below Qc XC args s mc ms free) g := by
  intro T hT X
  obtain ⟨t, a1, o, b1, b2, b3, b4⟩ := k T hT X
  exact ⟨t, a1, o, b1, b2, Or.inl ⟨b3, b4⟩⟩
/-- not caught here: it goes on to the caller -/
theorem vx_widen {g : JFrame} {q : Addr} {k n : Nat} (h1 : cells ≤ k) (h2 : slots ≤ n) (kk : vx_W p l e R s m args below meth c H locs k n Q g q) : vx_W p l e R s m args below meth c H locs cells slots Q g q := fun T hT X => kk T hT (stand_widen X h1 h2)
theorem vx_out {pc : Nat} {E : String} {ce : Cell} {q : Addr} {mc ms : Nat} (hout : ∀ x ∈ c.exceptionTable.toList, covers x pc = false) (hlocks : meth.locks = false) (hcell : H[q]? = some ce) (hv : ce.vm = .none) (hcl : s.vm.findClass E = some ce.cls)
    (hx : ∀ t : State, t.heap = H → s.vm.Alike t.vm → XC E s t) (hf : ∀ z ∈ locs, free z.base) (hc : cells ≤ mc) (hs : slots ≤ ms) :
    vx_W p l e R s m args below meth c H locs cells slots (vx_MQ below Qc XC args s mc ms free) (F0 m pc ls rest) q := by
  intro T hT X
  obtain ⟨st1, hrun, hend, hW, hsm⟩ := X.leaveThrown q (g := F0 m pc ls rest) rfl rfl rfl hout hlocks
  have hcell9 : (T.setFrames (.throwing q :: below)).heap[q]? = some ce := by
    show T.heap[q]? = some ce
    rw [hT]; exact hcell
  exact ⟨_, st1, .threw q, hrun, hend, Or.inr ⟨q, rfl, E, ce, locs, hx _ hT hW.alike, hcell9, hv, hcl, hW, hsm.mono hc hs, hf⟩⟩
theorem vx_frame {U : State} {k n : Nat} (h : s.sameButNew ({ U with vm := s.vm } : State) locs k n) : s.heap.size ≤ U.heap.size ∧ ∀ q : Nat, q < s.heap.size → (∀ z ∈ locs, z.base ≠ q) → U.heap[q]? = s.heap[q]? := by
  obtain ⟨-, h2, -, -, -, h6⟩ := h
  refine ⟨h2, fun q hq hz => ?_⟩
  obtain ⟨c9, e1, e2, e3, e4⟩ := h6 q _ (Array.getElem?_eq_getElem hq)
  have hs : c9.slots = (s.heap[q]).slots := Array.ext_getElem? fun i => e4 i fun hm => hz _ hm rfl
  have h9 : c9 = s.heap[q] := by
    rw [hs] at e2
    exact e2
  have e5 : U.heap[q]? = some c9 := e1
  rw [e5, h9, Array.getElem?_eq_getElem hq]
/-- the words of a throw but the four that speak of the heap -/
def vx_no (w : Cond) : Bool := decide (w ≠ .isRef (.static Bundle.tN "UNASSIGNED_STACK" Bundle.steD)) && decide (w ≠ .isRef (.static Bundle.tN "SUPPRESSED_SENTINEL" Bundle.listD)) && decide (w ≠ .laysStatic Bundle.tN "UNASSIGNED_STACK" Bundle.steD) && decide (w ≠ .laysStatic Bundle.tN "SUPPRESSED_SENTINEL" Bundle.listD)
def vx_at0 (own : String) (ic : Nat) (X : String) (names : List String) : List Cond := (Bundle.ownAtoms0 own ic X names).filter vx_no
def vx_atS (own : String) (ic : Nat) (X : String) (names : List String) : List Cond := (Bundle.ownAtoms own ic X names).filter vx_no
/-- a word that the tables alone decide, or a good one -/
def vx_ot (w : Cond) : Bool := w.onTables || goodWord w
theorem vx_ot_at {args a' : Array Value} {s U : State} {w : Cond} (hW : s.WarmedH U.vm) (hvm : s.vm = U.vm) (hg : vx_ot w = true) (h : w.before args s = true) : w.before a' U = true := by
  simp only [vx_ot, Bool.or_eq_true] at hg
  rcases hg with hg | hg
  · exact va_tabs hg hvm h
  · exact word_at hW (good_of_word hg) h
/-- a list's words: the good ones out of the method's own list, the others by premises of their own -/
theorem vx_hat {args : Array Value} {s : State} {L B : List Cond} (h1 : ∀ w ∈ L.filter goodWord, w.before args s = true) (h2 : ∀ w ∈ L.filter (fun w => !goodWord w), w ∈ B) (h3 : ∀ w ∈ B, w.before args s = true) : ∀ w ∈ L, w.before args s = true := by
  intro w hw
  by_cases g : goodWord w = true
  · exact h1 w (List.mem_filter.mpr ⟨hw, g⟩)
  · refine h3 w (h2 w (List.mem_filter.mpr ⟨hw, ?_⟩))
    show (!goodWord w) = true
    cases hgw : goodWord w
    · rfl
    · exact absurd hgw g
theorem vx_c {args : Array Value} {s : State} {w : Cond} {B : List Cond} (h : w.before args s = true) (t : ∀ w ∈ B, w.before args s = true) : ∀ w' ∈ w :: B, w'.before args s = true := fun w' h' => (List.mem_cons.mp h').elim (fun e => by rw [e]; exact h) (t w')
theorem vx_n {args : Array Value} {s : State} : ∀ w ∈ ([] : List Cond), w.before args s = true := fun _ h => nomatch h
theorem vx_own {args : Array Value} {s : State} {L : List Cond} (h1 : ∀ w ∈ L.filter vx_no, w.before args s = true)
    (hU : (Cond.isRef (.static Bundle.tN "UNASSIGNED_STACK" Bundle.steD)).before args s = true) (hN : (Cond.isRef (.static Bundle.tN "SUPPRESSED_SENTINEL" Bundle.listD)).before args s = true)
    (lU : (Cond.laysStatic Bundle.tN "UNASSIGNED_STACK" Bundle.steD).before args s = true) (lN : (Cond.laysStatic Bundle.tN "SUPPRESSED_SENTINEL" Bundle.listD).before args s = true) : ∀ w ∈ L, w.before args s = true := by
  intro w hw
  by_cases e1 : w = .isRef (.static Bundle.tN "UNASSIGNED_STACK" Bundle.steD)
  · rw [e1]; exact hU
  · by_cases e2 : w = .isRef (.static Bundle.tN "SUPPRESSED_SENTINEL" Bundle.listD)
    · rw [e2]; exact hN
    · by_cases e3 : w = .laysStatic Bundle.tN "UNASSIGNED_STACK" Bundle.steD
      · rw [e3]; exact lU
      · by_cases e4 : w = .laysStatic Bundle.tN "SUPPRESSED_SENTINEL" Bundle.listD
        · rw [e4]; exact lN
        · exact h1 w (List.mem_filter.mpr ⟨hw, by unfold vx_no; rw [decide_eq_true e1, decide_eq_true e2, decide_eq_true e3, decide_eq_true e4]; rfl⟩)
/-- where a static field lies, its class's statics cell in H -/
def vx_L (C n d : String) (A : Nat → Prop) (U : State) (H : Heap) : Prop := ∃ (c : ClassId) (k : Class) (i : Nat) (f : Field) (a : Nat) (cell : Cell), U.vm.findClass C = some c ∧ U.fieldFound? C n d = some (c, k, i, f) ∧ f.isStatic = true ∧ k.statics = some a ∧ H[a]? = some cell ∧ cell.vm.isStatics = true ∧ cell.cls = c ∧ f.slot < cell.slots.size ∧ k.staticTypes[f.slot]? = some f.type ∧ ¬ A a
theorem vx_L.moved {C n d : String} {A : Nat → Prop} {u U : State} {H : Heap} (hvm : u.vm.Alike U.vm) (h : vx_L C n d A u H) : vx_L C n d A U H := by
  obtain ⟨c, k, i, f, a, cell, h1, h2, h3, h4, h5, h6, h7, h8, h9, h10⟩ := h
  obtain ⟨k', hi', he⟩ := State.fieldFound?_setVm hvm h2
  exact ⟨c, k', i, f, a, cell, by rw [hvm.findClass]; exact h1, hi', h3, by rw [he]; exact h4, h5, h6, h7, h8, by rw [he]; exact h9, h10⟩
theorem vx_L.kept {C n d : String} {A : Nat → Prop} {U : State} {H H1 : Heap} (h : vx_L C n d A U H) (hq : ∀ a : Nat, a < H.size → ¬ A a → H1[a]? = H[a]?) : vx_L C n d A U H1 := by
  obtain ⟨c, k, i, f, a, cell, h1, h2, h3, h4, h5, h6, h7, h8, h9, h10⟩ := h
  exact ⟨c, k, i, f, a, cell, h1, h2, h3, h4, by rw [hq a (Array.getElem?_eq_some_iff.mp h5).1 h10]; exact h5, h6, h7, h8, h9, h10⟩
theorem vx_L.narrow {C n d : String} {A B : Nat → Prop} {U : State} {H : Heap} (h : vx_L C n d A U H) (hAB : ∀ q, B q → A q) : vx_L C n d B U H := by
  obtain ⟨c, k, i, f, a, cell, h1, h2, h3, h4, h5, h6, h7, h8, h9, h10⟩ := h
  exact ⟨c, k, i, f, a, cell, h1, h2, h3, h4, h5, h6, h7, h8, h9, fun z => h10 (hAB _ z)⟩
theorem vx_L.word {C n d : String} {A : Nat → Prop} {s : State} {args : Array Value} (h : vx_L C n d A s s.heap) : (Cond.laysStatic C n d).before args s = true := by
  obtain ⟨c, k, i, f, a, cell, h1, h2, h3, h4, h5, h6, h7, h8, h9, -⟩ := h
  show (Cond.laysStatic C n d).holds args s none s [] = true
  exact Cond.laysStatic_of h1 h2 h3 h4 h5 h6 h7 h8 h9
/-- .. and what it holds: null or some reference -/
def vx_Zq (C n d : String) (A : Nat → Prop) (U : State) (H : Heap) : Prop := va_Zq C n d A U H ∧ vx_L C n d A U H
theorem vx_Zq.moved {C n d : String} {A : Nat → Prop} {u U : State} {H : Heap} (hvm : u.vm.Alike U.vm) (h : vx_Zq C n d A u H) : vx_Zq C n d A U H := ⟨va_Zq.moved hvm h.1, vx_L.moved hvm h.2⟩
theorem vx_Zq.kept {C n d : String} {A : Nat → Prop} {U : State} {H H1 : Heap} (h : vx_Zq C n d A U H) (hq : ∀ a : Nat, a < H.size → ¬ A a → H1[a]? = H[a]?) : vx_Zq C n d A U H1 := ⟨va_Zq.kept h.1 hq, vx_L.kept h.2 hq⟩
theorem vx_Zq.narrow {C n d : String} {A B : Nat → Prop} {U : State} {H : Heap} (h : vx_Zq C n d A U H) (hAB : ∀ q, B q → A q) : vx_Zq C n d B U H := ⟨va_Zq.narrow h.1 hAB, vx_L.narrow h.2 hAB⟩
theorem vx_Zqof {args : Array Value} {s : State} {C n d : String} {A : Nat → Prop} (hl : (Cond.laysStatic C n d).before args s = true) (hini : (Cond.initialized C).before args s = true) (h : (Cond.isRef (.static C n d)).before args s = true) (hA : ∀ a : Nat, a < s.heap.size → ¬ A a) : vx_Zq C n d A s s.heap := by
  refine ⟨va_Zqof hl hini h hA, ?_⟩
  obtain ⟨c, k, i, f, a, cell, h1, h2, h3, h4, h5, h6, h7, h8, h9⟩ := Cond.laysStatic_spec hl
  exact ⟨c, k, i, f, a, cell, h1, h2, h3, h4, h5, h6, h7, h8, h9, hA a (Array.getElem?_eq_some_iff.mp h5).1⟩
theorem vx_isRef {C n d : String} {v : Value} {A : Nat → Prop} {s : State} {args : Array Value} (h : va_Z C n d v A s s.heap) (hv : v.isRef = true) : (Cond.isRef (.static C n d)).before args s = true := by
  obtain ⟨cf, kf, fi, f, a, cell, h1, h2, h3, h4, h5, h6, h7, -⟩ := h
  have he : (Term.static C n d).eval args s none [] s = some v := by
    simp [Term.eval, State.fieldNamed?, h1, h2, h4, h5, h6, h7]
  simp only [Cond.before, Cond.holds, Cond.value, he]
  cases v <;> simp_all [Value.isRef]
theorem vx_isRefq {C n d : String} {A : Nat → Prop} {s : State} {args : Array Value} (h : va_Zq C n d A s s.heap) : (Cond.isRef (.static C n d)).before args s = true := by
  rcases h with h | ⟨t, h⟩
  · exact vx_isRef h rfl
  · exact vx_isRef h rfl
/-- the same frame, seen from here: as if the method were called anew in this heap -/
theorem vx_rebase {T : State} (X : Stand p l e R s m args below meth c T locs cells slots) {R' : Room} (hf : R'.frames ≤ R.frames) (hl : R'.locals ≤ R.locals) (hc : cells + R'.cells ≤ R.cells) (hs : slots + R'.slots ≤ R.slots) :
    Stand p l e R' ((T.setVm s.vm).setFrames (.invoking m args :: below)) m args below meth c T [] 0 0 := by
  have htop : (T.setVm s.vm).topJava?.isSome := X.here.top
  have hF : ((T.setVm s.vm).setFrames (.invoking m args :: below)).frames = .invoking m args :: below := State.frames_setFrames _ (State.cur_lt_of_top htop)
  obtain ⟨g₀, hg0⟩ := Option.isSome_iff_exists.mp htop
  obtain ⟨r, hr⟩ := State.topJava?_eq_some.mp hg0
  have hl9 : e.platform.stackLimits (T.setVm s.vm).me = e.platform.stackLimits s.me := X.limits
  have hb9 : (T.setVm s.vm).me.stackBytes = s.me.stackBytes := X.bytes
  refine ⟨X.admits, X.cas, X.clock, hF, ?_, X.hears, X.method, X.code, X.here, X.tail, X.warmed, ?_, ?_, ?_⟩
  · have h := X.room
    have hU : ((T.setVm s.vm).setFrames (.invoking m args :: below)).localsInUse = s.localsInUse := by
      rw [State.localsInUse_invoking hF (meth := meth) (c := c) X.method X.code, State.localsInUse_invoking X.frames X.method X.code]
    simp only [State.hasRoom, Bool.and_eq_true, decide_eq_true_eq] at h ⊢
    obtain ⟨⟨⟨⟨h1, h2, h3, h4, h5, h6⟩, h7⟩, h8⟩, h9⟩ := h
    rw [X.frames, List.length_cons] at h2 h3
    have q1 := X.heapSize
    have q2 := X.used
    simp only [hF, hU, List.length_cons, State.stackLimits_setFrames, State.stackBytes_setFrames, hl9, hb9]
    refine ⟨⟨⟨⟨by omega, by omega, by omega, by omega, by omega, h6⟩, ?_⟩, ?_⟩, X.book⟩
    · show T.heap.size + R'.cells ≤ e.platform.maxCells
      omega
    · show T.slotsUsed + R'.slots ≤ e.platform.maxSlots
      omega
  · rw [State.stackLimits_setFrames]; rfl
  · rw [State.stackBytes_setFrames]; rfl
  · refine ⟨?_, Nat.le_refl _, Nat.le_refl _, ?_, ?_, fun a c9 h9 => ⟨c9, h9, rfl, rfl, fun _ _ => rfl⟩⟩
    · obtain ⟨t, ht, -⟩ := State.frames_cons hr
      show T.setVm s.vm = { ((T.setVm s.vm).setFrames (.invoking m args :: below)).setFrames (T.setVm s.vm).frames with heap := T.heap, slotsUsed := T.slotsUsed }
      rw [State.setFrames_setFrames, State.setFrames_self ht]
      rfl
    · show T.slotsUsed = T.slotsUsed + ((T.heap.toList.drop T.heap.size).map (·.slots.size)).sum
      rw [List.drop_eq_nil_of_le (Nat.le_of_eq Array.length_toList)]
      rfl
    · show ((T.heap.toList.drop T.heap.size).map (·.slots.size)).sum ≤ 0
      rw [List.drop_eq_nil_of_le (Nat.le_of_eq Array.length_toList)]
      exact Nat.le_refl _
/-- 'throw new E()': new; dup; invokespecial; athrow -/
theorem vx_throw0 {cc : ByteArray} {pc : Nat} (hexec : p.tables.exec = Jvm.exec) (hb : c.code = cc) (hl : l.stackTraces = false) {own cls : String} {names : List String} {ik ic mc ms : Nat} {A : Nat → Prop}
    (hown : s.vm.findClass own = some m.cls) (hcls : Bundle.fit cls = true) (hnames : ∀ n ∈ names, Bundle.fit n = true)
    (hk : (Cond.classLink own ik cls).before args s = true) (hini : (Cond.initialized cls).before args s = true) (hat : ∀ w ∈ vx_at0 own ic cls names, w.before args s = true)
    (hgood : ∀ w ∈ Cond.classLink own ik cls :: Cond.initialized cls :: vx_at0 own ic cls names, vx_ot w = true)
    (hU : vx_Zq Bundle.tN "UNASSIGNED_STACK" Bundle.steD A s s.heap) (hN : vx_Zq Bundle.tN "SUPPRESSED_SENTINEL" Bundle.listD A s s.heap) (hS : va_S A s.heap H locs) (hsize : ls.size = c.maxLocals)
    (d0 : decode cc pc = .ok (.new ik, 3)) (d3 : decode cc (pc + 3) = .ok (.dup, 1)) (d4 : decode cc (pc + 4) = .ok (.invokespecial ic, 3)) (d7 : decode cc (pc + 7) = .ok (.athrow, 1))
    (hout : ∀ x ∈ c.exceptionTable.toList, covers x (pc + 7) = false)
    (hRframes : names.length + 3 < R.frames) (hRlocals : (rest.map fun v => v.category).sum + (13 * (names.length + 1) + 42) ≤ R.locals) (hRcells : cells + 1 ≤ R.cells) (hRslots : slots + 6 ≤ R.slots) (hlocks : meth.locks = false)
    (hx : ∀ t : State, s.vm.Alike t.vm → H.size ≤ t.heap.size → (∀ q : Nat, q < H.size → t.heap[q]? = H[q]?) → XC cls s t)
    (hf : ∀ z ∈ locs, free z.base) (hc : cells + 1 ≤ mc) (hs : slots + 6 ≤ ms) :
    W p l e R s m args below meth c H locs cells slots (vx_MQ below Qc XC args s mc ms free) (F0 m pc ls rest) := by
  intro T hT X
  have htr : e.platform.stackTraces = false := (show e.platform.stackTraces = l.stackTraces by rw [X.admits.platform]).trans hl
  have Y := vx_rebase X (R' := { frames := R.frames, locals := R.locals, cells := 1, slots := 6 }) (Nat.le_refl _) (Nat.le_refl _) hRcells hRslots
  obtain ⟨s', hA⟩ : ∃ z, z = (T.setVm s.vm).setFrames (.invoking m args :: below) := ⟨_, rfl⟩
  rw [← hA] at Y
  have hvm : s'.vm = s.vm := by rw [hA]; rfl
  have hhp : s'.heap = H := by rw [hA]; exact hT
  have hW0 : s.WarmedH s'.vm := by rw [hvm]; exact State.WarmedH.refl s
  have hat' : ∀ w ∈ vx_at0 own ic cls names, w.before args s' = true := fun w hw => vx_ot_at hW0 hvm.symm (hgood w (List.mem_cons_of_mem _ (List.mem_cons_of_mem _ hw))) (hat w hw)
  have hk' : (Cond.classLink own ik cls).before args s' = true := vx_ot_at hW0 hvm.symm (hgood _ List.mem_cons_self) hk
  have hini' : (Cond.initialized cls).before args s' = true := vx_ot_at hW0 hvm.symm (hgood _ (List.mem_cons_of_mem _ List.mem_cons_self)) hini
  have hU' : vx_Zq Bundle.tN "UNASSIGNED_STACK" Bundle.steD A s' s'.heap := by rw [hhp]; exact vx_Zq.moved hW0.alike (hU.kept hS.2.1)
  have hN' : vx_Zq Bundle.tN "SUPPRESSED_SENTINEL" Bundle.listD A s' s'.heap := by rw [hhp]; exact vx_Zq.moved hW0.alike (hN.kept hS.2.1)
  have h : ∀ w ∈ Bundle.ownAtoms0 own ic cls names, w.before args s' = true := vx_own hat' (vx_isRefq hU'.1) (vx_isRefq hN'.1) hU'.2.word hN'.2.word
  have hown' : s'.vm.findClass own = some m.cls := by rw [hvm]; exact hown
  have hins : (Cond.instantiable cls 6).before args s' = true := h _ (by simp [Bundle.ownAtoms0])
  obtain ⟨vm₁, cX, kX, hfX, hkX, -, -, X₁, st1⟩ := Y.newCold hexec (own := own) (C := cls) (index := ik) (n := 6) hown' hk' hins hini'
    (g := F0 m pc ls rest) rfl (by rw [hb]; exact d0) (Nat.le_refl _) (Nat.le_refl _)
  generalize hT1 : (T.setVm vm₁).pushCell { cls := cX, slots := kX.instanceTypes.map defaultValue, vm := .none } = T1 at X₁ st1
  have hcat : (Value.ref T.heap.size).category = 1 := rfl
  have hcellA : T1.heap[T.heap.size]? = some (freshCell cX kX) := by rw [← hT1]; exact State.heap_pushCell_size _ _
  have d3' : decode c.code (pc + 3) = .ok (.dup, 1) := by rw [hb]; exact d3
  obtain ⟨U, hsteps, hrun, hend, hW, hsame, ce, hce, hO⟩ := X₁.ctorThrow0 hexec htr (own := own) (cls := cls) (names := names) (ic := ic) hown' hcls hnames h (fun x hx => nomatch hx) hfX hkX hcellA (by rw [hhp, hT]; exact Nat.le_refl _)
    (g := { method := m, pc := pc + 4, locals := ls, stack := .ref T.heap.size :: .ref T.heap.size :: rest, locked := none }) rfl hsize rfl rfl (rest := rest) rfl
    (by rw [hb]; exact d4) (by rw [hb]; exact d7) hout hRframes (by simp only [List.map_cons, List.sum_cons, hcat]; omega) hlocks
  obtain ⟨f1, f2⟩ := vx_frame hsame
  rw [hhp] at f1 f2
  have hWs : s.WarmedH U.vm := State.WarmedH.trans hW0 hW
  have hcl : s.vm.findClass cls = some ce.cls := by
    have h9 := hO.cls
    rw [hvm] at h9
    exact h9
  have hall : s.sameButNew ({ U with vm := s.vm } : State) locs mc ms := by
    subst hA
    obtain ⟨e1, e2⟩ := hsame
    rw [State.setFrames_setFrames] at e1
    have h2 : (T.setVm s.vm).sameButNew ({ U with vm := s.vm } : State) [] (0 + 1) (0 + 6) := ⟨e1, e2⟩
    have h3 := X.same.trans h2
    rw [List.append_nil] at h3
    exact h3.mono hc hs
  refine ⟨U, ?_, .threw T.heap.size, hrun, hend, Or.inr ⟨T.heap.size, rfl, cls, ce, locs, hx U hWs.alike f1 (fun q hq => f2 q hq (fun z hz => nomatch hz)), hce, hO.vm, hcl, hWs, hall, hf⟩⟩
  refine st1 _ ?_
  show Steps p.tables e below (T1.setTop { method := m, pc := pc + 3, locals := ls, stack := .ref T.heap.size :: rest, locked := none }) _
  jvm_step X₁.here [X₁.here.top, hexec, d3', Value.category]
  exact hsteps
/-- 'throw new E("text")': new; dup; ldc; invokespecial; athrow -/
theorem vx_throwS {cc : ByteArray} {pc : Nat} (hexec : p.tables.exec = Jvm.exec) (hb : c.code = cc) (hl : l.stackTraces = false) {own cls text : String} {names : List String} {ik is ic mc ms sa : Nat} {A : Nat → Prop}
    (hown : s.vm.findClass own = some m.cls) (hcls : Bundle.fit cls = true) (hnames : ∀ n ∈ names, Bundle.fit n = true)
    (hk : (Cond.classLink own ik cls).before args s = true) (hini : (Cond.initialized cls).before args s = true) (hstr : vk_R own is text sa s) (hat : ∀ w ∈ vx_atS own ic cls names, w.before args s = true)
    (hgood : ∀ w ∈ Cond.classLink own ik cls :: Cond.initialized cls :: vx_atS own ic cls names, vx_ot w = true)
    (hU : vx_Zq Bundle.tN "UNASSIGNED_STACK" Bundle.steD A s s.heap) (hN : vx_Zq Bundle.tN "SUPPRESSED_SENTINEL" Bundle.listD A s s.heap) (hS : va_S A s.heap H locs) (hsize : ls.size = c.maxLocals)
    (d0 : decode cc pc = .ok (.new ik, 3)) (d3 : decode cc (pc + 3) = .ok (.dup, 1)) (d4 : decode cc (pc + 4) = .ok (.ldc is, 2)) (d6 : decode cc (pc + 6) = .ok (.invokespecial ic, 3)) (d9 : decode cc (pc + 9) = .ok (.athrow, 1))
    (hout : ∀ x ∈ c.exceptionTable.toList, covers x (pc + 9) = false)
    (hRframes : names.length + 3 < R.frames) (hRlocals : (rest.map fun v => v.category).sum + (13 * (names.length + 1) + 43) ≤ R.locals) (hRcells : cells + 1 ≤ R.cells) (hRslots : slots + 6 ≤ R.slots) (hlocks : meth.locks = false)
    (hx : ∀ t : State, s.vm.Alike t.vm → H.size ≤ t.heap.size → (∀ q : Nat, q < H.size → t.heap[q]? = H[q]?) → XC cls s t)
    (hf : ∀ z ∈ locs, free z.base) (hc : cells + 1 ≤ mc) (hs : slots + 6 ≤ ms) :
    W p l e R s m args below meth c H locs cells slots (vx_MQ below Qc XC args s mc ms free) (F0 m pc ls rest) := by
  intro T hT X
  have htr : e.platform.stackTraces = false := (show e.platform.stackTraces = l.stackTraces by rw [X.admits.platform]).trans hl
  have Y := vx_rebase X (R' := { frames := R.frames, locals := R.locals, cells := 1, slots := 6 }) (Nat.le_refl _) (Nat.le_refl _) hRcells hRslots
  obtain ⟨s', hA⟩ : ∃ z, z = (T.setVm s.vm).setFrames (.invoking m args :: below) := ⟨_, rfl⟩
  rw [← hA] at Y
  have hvm : s'.vm = s.vm := by rw [hA]; rfl
  have hhp : s'.heap = H := by rw [hA]; exact hT
  have hW0 : s.WarmedH s'.vm := by rw [hvm]; exact State.WarmedH.refl s
  have hat' : ∀ w ∈ vx_atS own ic cls names, w.before args s' = true := fun w hw => vx_ot_at hW0 hvm.symm (hgood w (List.mem_cons_of_mem _ (List.mem_cons_of_mem _ hw))) (hat w hw)
  have hk' : (Cond.classLink own ik cls).before args s' = true := vx_ot_at hW0 hvm.symm (hgood _ List.mem_cons_self) hk
  have hini' : (Cond.initialized cls).before args s' = true := vx_ot_at hW0 hvm.symm (hgood _ (List.mem_cons_of_mem _ List.mem_cons_self)) hini
  have hU' : vx_Zq Bundle.tN "UNASSIGNED_STACK" Bundle.steD A s' s'.heap := by rw [hhp]; exact vx_Zq.moved hW0.alike (hU.kept hS.2.1)
  have hN' : vx_Zq Bundle.tN "SUPPRESSED_SENTINEL" Bundle.listD A s' s'.heap := by rw [hhp]; exact vx_Zq.moved hW0.alike (hN.kept hS.2.1)
  have h : ∀ w ∈ Bundle.ownAtoms own ic cls names, w.before args s' = true := vx_own hat' (vx_isRefq hU'.1) (vx_isRefq hN'.1) hU'.2.word hN'.2.word
  have hown' : s'.vm.findClass own = some m.cls := by rw [hvm]; exact hown
  have hins : (Cond.instantiable cls 6).before args s' = true := h _ (by simp [Bundle.ownAtoms])
  obtain ⟨vm₁, cX, kX, hfX, hkX, -, -, X₁, st1⟩ := Y.newCold hexec (own := own) (C := cls) (index := ik) (n := 6) hown' hk' hins hini'
    (g := F0 m pc ls rest) rfl (by rw [hb]; exact d0) (Nat.le_refl _) (Nat.le_refl _)
  generalize hT1 : (T.setVm vm₁).pushCell { cls := cX, slots := kX.instanceTypes.map defaultValue, vm := .none } = T1 at X₁ st1
  have hcat : (Value.ref T.heap.size).category = 1 := rfl
  have hcellA : T1.heap[T.heap.size]? = some (freshCell cX kX) := by rw [← hT1]; exact State.heap_pushCell_size _ _
  have d3' : decode c.code (pc + 3) = .ok (.dup, 1) := by rw [hb]; exact d3
  have d4' : decode c.code (pc + 4) = .ok (.ldc is, 2) := by rw [hb]; exact d4
  have hstr' : vk_R own is text sa s' := vk_R.warm hW0 hstr
  obtain ⟨U, hsteps, hrun, hend, hW, hsame, ce, hce, hO⟩ := X₁.ctorThrowS hexec htr (own := own) (cls := cls) (names := names) (ic := ic) hown' hcls hnames h (fun x hx => nomatch hx) hfX hkX hcellA (by rw [hhp, hT]; exact Nat.le_refl _) (msg := .ref sa) rfl
    (g := { method := m, pc := pc + 6, locals := ls, stack := .ref sa :: .ref T.heap.size :: .ref T.heap.size :: rest, locked := none }) rfl hsize rfl rfl (rest := rest) rfl
    (by rw [hb]; exact d6) (by rw [hb]; exact d9) hout hRframes (by simp only [List.map_cons, List.sum_cons, hcat]; omega) hlocks
  obtain ⟨f1, f2⟩ := vx_frame hsame
  rw [hhp] at f1 f2
  have hWs : s.WarmedH U.vm := State.WarmedH.trans hW0 hW
  have hcl : s.vm.findClass cls = some ce.cls := by
    have h9 := hO.cls
    rw [hvm] at h9
    exact h9
  have hall : s.sameButNew ({ U with vm := s.vm } : State) locs mc ms := by
    subst hA
    obtain ⟨e1, e2⟩ := hsame
    rw [State.setFrames_setFrames] at e1
    have h2 : (T.setVm s.vm).sameButNew ({ U with vm := s.vm } : State) [] (0 + 1) (0 + 6) := ⟨e1, e2⟩
    have h3 := X.same.trans h2
    rw [List.append_nil] at h3
    exact h3.mono hc hs
  refine ⟨U, ?_, .threw T.heap.size, hrun, hend, Or.inr ⟨T.heap.size, rfl, cls, ce, locs, hx U hWs.alike f1 (fun q hq => f2 q hq (fun z hz => nomatch hz)), hce, hO.vm, hcl, hWs, hall, hf⟩⟩
  refine st1 _ ?_
  show Steps p.tables e below (T1.setTop { method := m, pc := pc + 3, locals := ls, stack := .ref T.heap.size :: rest, locked := none }) _
  jvm_step X₁.here [X₁.here.top, hexec, d3', Value.category]
  exact X₁.ldcString hexec (own := own) (text := text) (index := is) (a := sa) hown' hstr'.1 hstr'.2
    (g := { method := m, pc := pc + 4, locals := ls, stack := .ref T.heap.size :: .ref T.heap.size :: rest, locked := none }) rfl d4' _ hsteps
/-- 'throw new E("text")', the text by a wide index -/
theorem vx_throwSW {cc : ByteArray} {pc : Nat} (hexec : p.tables.exec = Jvm.exec) (hb : c.code = cc) (hl : l.stackTraces = false) {own cls text : String} {names : List String} {ik is ic mc ms sa : Nat} {A : Nat → Prop}
    (hown : s.vm.findClass own = some m.cls) (hcls : Bundle.fit cls = true) (hnames : ∀ n ∈ names, Bundle.fit n = true)
    (hk : (Cond.classLink own ik cls).before args s = true) (hini : (Cond.initialized cls).before args s = true) (hstr : vk_R own is text sa s) (hat : ∀ w ∈ vx_atS own ic cls names, w.before args s = true)
    (hgood : ∀ w ∈ Cond.classLink own ik cls :: Cond.initialized cls :: vx_atS own ic cls names, vx_ot w = true)
    (hU : vx_Zq Bundle.tN "UNASSIGNED_STACK" Bundle.steD A s s.heap) (hN : vx_Zq Bundle.tN "SUPPRESSED_SENTINEL" Bundle.listD A s s.heap) (hS : va_S A s.heap H locs) (hsize : ls.size = c.maxLocals)
    (d0 : decode cc pc = .ok (.new ik, 3)) (d3 : decode cc (pc + 3) = .ok (.dup, 1)) (d4 : decode cc (pc + 4) = .ok (.ldc_w is, 3)) (d7 : decode cc (pc + 7) = .ok (.invokespecial ic, 3)) (d10 : decode cc (pc + 10) = .ok (.athrow, 1))
    (hout : ∀ x ∈ c.exceptionTable.toList, covers x (pc + 10) = false)
    (hRframes : names.length + 3 < R.frames) (hRlocals : (rest.map fun v => v.category).sum + (13 * (names.length + 1) + 43) ≤ R.locals) (hRcells : cells + 1 ≤ R.cells) (hRslots : slots + 6 ≤ R.slots) (hlocks : meth.locks = false)
    (hx : ∀ t : State, s.vm.Alike t.vm → H.size ≤ t.heap.size → (∀ q : Nat, q < H.size → t.heap[q]? = H[q]?) → XC cls s t)
    (hf : ∀ z ∈ locs, free z.base) (hc : cells + 1 ≤ mc) (hs : slots + 6 ≤ ms) :
    W p l e R s m args below meth c H locs cells slots (vx_MQ below Qc XC args s mc ms free) (F0 m pc ls rest) := by
  intro T hT X
  have htr : e.platform.stackTraces = false := (show e.platform.stackTraces = l.stackTraces by rw [X.admits.platform]).trans hl
  have Y := vx_rebase X (R' := { frames := R.frames, locals := R.locals, cells := 1, slots := 6 }) (Nat.le_refl _) (Nat.le_refl _) hRcells hRslots
  obtain ⟨s', hA⟩ : ∃ z, z = (T.setVm s.vm).setFrames (.invoking m args :: below) := ⟨_, rfl⟩
  rw [← hA] at Y
  have hvm : s'.vm = s.vm := by rw [hA]; rfl
  have hhp : s'.heap = H := by rw [hA]; exact hT
  have hW0 : s.WarmedH s'.vm := by rw [hvm]; exact State.WarmedH.refl s
  have hat' : ∀ w ∈ vx_atS own ic cls names, w.before args s' = true := fun w hw => vx_ot_at hW0 hvm.symm (hgood w (List.mem_cons_of_mem _ (List.mem_cons_of_mem _ hw))) (hat w hw)
  have hk' : (Cond.classLink own ik cls).before args s' = true := vx_ot_at hW0 hvm.symm (hgood _ List.mem_cons_self) hk
  have hini' : (Cond.initialized cls).before args s' = true := vx_ot_at hW0 hvm.symm (hgood _ (List.mem_cons_of_mem _ List.mem_cons_self)) hini
  have hU' : vx_Zq Bundle.tN "UNASSIGNED_STACK" Bundle.steD A s' s'.heap := by rw [hhp]; exact vx_Zq.moved hW0.alike (hU.kept hS.2.1)
  have hN' : vx_Zq Bundle.tN "SUPPRESSED_SENTINEL" Bundle.listD A s' s'.heap := by rw [hhp]; exact vx_Zq.moved hW0.alike (hN.kept hS.2.1)
  have h : ∀ w ∈ Bundle.ownAtoms own ic cls names, w.before args s' = true := vx_own hat' (vx_isRefq hU'.1) (vx_isRefq hN'.1) hU'.2.word hN'.2.word
  have hown' : s'.vm.findClass own = some m.cls := by rw [hvm]; exact hown
  have hins : (Cond.instantiable cls 6).before args s' = true := h _ (by simp [Bundle.ownAtoms])
  obtain ⟨vm₁, cX, kX, hfX, hkX, -, -, X₁, st1⟩ := Y.newCold hexec (own := own) (C := cls) (index := ik) (n := 6) hown' hk' hins hini'
    (g := F0 m pc ls rest) rfl (by rw [hb]; exact d0) (Nat.le_refl _) (Nat.le_refl _)
  generalize hT1 : (T.setVm vm₁).pushCell { cls := cX, slots := kX.instanceTypes.map defaultValue, vm := .none } = T1 at X₁ st1
  have hcat : (Value.ref T.heap.size).category = 1 := rfl
  have hcellA : T1.heap[T.heap.size]? = some (freshCell cX kX) := by rw [← hT1]; exact State.heap_pushCell_size _ _
  have d3' : decode c.code (pc + 3) = .ok (.dup, 1) := by rw [hb]; exact d3
  have d4' : decode c.code (pc + 4) = .ok (.ldc_w is, 3) := by rw [hb]; exact d4
  have hstr' : vk_R own is text sa s' := vk_R.warm hW0 hstr
  obtain ⟨U, hsteps, hrun, hend, hW, hsame, ce, hce, hO⟩ := X₁.ctorThrowS hexec htr (own := own) (cls := cls) (names := names) (ic := ic) hown' hcls hnames h (fun x hx => nomatch hx) hfX hkX hcellA (by rw [hhp, hT]; exact Nat.le_refl _) (msg := .ref sa) rfl
    (g := { method := m, pc := pc + 7, locals := ls, stack := .ref sa :: .ref T.heap.size :: .ref T.heap.size :: rest, locked := none }) rfl hsize rfl rfl (rest := rest) rfl
    (by rw [hb]; exact d7) (by rw [hb]; exact d10) hout hRframes (by simp only [List.map_cons, List.sum_cons, hcat]; omega) hlocks
  obtain ⟨f1, f2⟩ := vx_frame hsame
  rw [hhp] at f1 f2
  have hWs : s.WarmedH U.vm := State.WarmedH.trans hW0 hW
  have hcl : s.vm.findClass cls = some ce.cls := by
    have h9 := hO.cls
    rw [hvm] at h9
    exact h9
  have hall : s.sameButNew ({ U with vm := s.vm } : State) locs mc ms := by
    subst hA
    obtain ⟨e1, e2⟩ := hsame
    rw [State.setFrames_setFrames] at e1
    have h2 : (T.setVm s.vm).sameButNew ({ U with vm := s.vm } : State) [] (0 + 1) (0 + 6) := ⟨e1, e2⟩
    have h3 := X.same.trans h2
    rw [List.append_nil] at h3
    exact h3.mono hc hs
  refine ⟨U, ?_, .threw T.heap.size, hrun, hend, Or.inr ⟨T.heap.size, rfl, cls, ce, locs, hx U hWs.alike f1 (fun q hq => f2 q hq (fun z hz => nomatch hz)), hce, hO.vm, hcl, hWs, hall, hf⟩⟩
  refine st1 _ ?_
  show Steps p.tables e below (T1.setTop { method := m, pc := pc + 3, locals := ls, stack := .ref T.heap.size :: rest, locked := none }) _
  jvm_step X₁.here [X₁.here.top, hexec, d3', Value.category]
  exact X₁.ldcStringW hexec (own := own) (text := text) (index := is) (a := sa) hown' hstr'.1 hstr'.2
    (g := { method := m, pc := pc + 4, locals := ls, stack := .ref T.heap.size :: .ref T.heap.size :: rest, locked := none }) rfl d4' _ hsteps
end Ends
section Bodies
variable {l : Launch}
theorem vx_ofW {y : MethodName} {ws ws' : List Cond} {rm : Room} {Pc : Array Value → State → Prop} {Qc : Array Value → State → Outcome → State → Prop} {XC : String → State → State → Prop} {mc ms : Nat} {free : Addr → Prop} {cc : ByteArray} {maxL : Nat} {ret : Option FieldType}
    (hy : plainName y.cls = true) (hw : ws = Cond.code y cc maxL ret :: ws')
    (body : ∀ p e s m args below meth c s₁, BodyLoose p l y (headSpec ws rm) cc maxL ret e s m args below meth c s₁ → c.maxLocals = maxL → (∀ x ∈ c.exceptionTable.toList, False) → Pc args s →
      W p l e (headSpec ws rm).room s m args below meth c s.heap [] 0 0 (vx_MQ below Qc XC args s mc ms free) (entryFrame m args maxL)) : vx_Met l y ws rm Pc Qc XC mc ms free := by
  refine MetFree.of_bodyS (code := cc) (maxLocals := maxL) (ret := ret) hy ?_ ?_
  · intro args s m h hn
    obtain ⟨meth, c, h1, h2, h3, h4, h5, h6, -, -⟩ := Cond.code_spec hn (atoms_spec (ws := ws) h _ (by rw [hw]; exact List.mem_cons_self))
    exact ⟨meth, c, h1, h2, h3, h4, h5, h6⟩
  · intro p e s m args below meth c s₁ B hml hP _
    have hh0 : s₁.heap = s.heap := by rw [B.state]; rfl
    have ht : ∀ x ∈ c.exceptionTable.toList, False := by
      obtain ⟨meth9, c9, h1, h2, -, -, -, -, h7, -⟩ := Cond.code_spec B.named (atoms_spec (ws := ws) B.pre _ (by rw [hw]; exact List.mem_cons_self))
      cases Option.some.inj (h1.symm.trans B.method)
      cases Option.some.inj (h2.symm.trans (Stand.of_body B).code)
      intro x hx
      rw [Array.isEmpty_iff.mp h7] at hx
      cases hx
    obtain ⟨t, a1, o, b1, b2, b3⟩ := body p e s m args below meth c s₁ B hml ht hP s₁ hh0 (Stand.of_body B)
    exact ⟨t, o, a1, b1, b2, b3⟩
/-- the table of a body with handlers -/
theorem vx_table {p : Program} {x y : MethodName} {S : Spec} {cc bytes : ByteArray} {maxL maxL' : Nat} {ret ret' : Option FieldType} {e : Env} {s s₁ : State} {m : MethodId} {args : Array Value} {below : List Frame} {meth : Method} {c : Code} {hh : List (Nat × Nat × Nat × Nat)}
    (B : BodyLoose p l y S cc maxL ret e s m args below meth c s₁) (h : (Cond.codeWith y bytes maxL' ret' hh).before args s = true) : c.exceptionTable.toList = tableOf hh := by
  obtain ⟨m9, meth9, c9, hn9, h1, h2, -, -, h6, -⟩ := Cond.codeWith_spec h
  cases Option.some.inj (hn9.symm.trans B.named)
  cases Option.some.inj (h1.symm.trans B.method)
  cases Option.some.inj (h2.symm.trans (Stand.of_body B).code)
  rw [← h6, table_eq]
end Bodies
end VXA
/-! ===== END ===== -/
/-! ===== BEGIN a static call of a method with an exception table ===== -/
section VXS
variable {p : Program} {l : Launch} {e : Env} {R : Room} {s : State} {m : MethodId} {args : Array Value} {below : List Frame} {meth : Method} {c : Code} {T : State} {H : Heap} {locs : List Loc} {cells slots : Nat}
abbrev vx_CSW (R : Room) (s : State) (args : Array Value) (own : String) (index : Nat) (y : MethodName) (bytes : ByteArray) (maxL : Nat) (ret : Option FieldType) (hh : List (Nat × Nat × Nat × Nat)) (ws : List Cond) (rm : Room) (mc ms n : Nat) : Prop :=
  (rm.cells = mc ∧ rm.slots = ms ∧ rm.frames + 1 ≤ R.frames ∧ 8 + (maxL + 11) + rm.locals ≤ R.locals ∧ (∀ w ∈ ws, ∀ (a' : Array Value) (U : State), s.WarmedH U.vm → w.before a' U = true) ∧ Cond.codeWith y bytes maxL ret hh ∈ ws) ∧
  (Cond.codeWith y bytes maxL ret hh).before args s = true ∧ (Cond.initialized y.cls).before args s = true ∧ (y.cls ≠ "java/lang/invoke/MethodHandle" ∧ y.cls ≠ "java/lang/invoke/VarHandle") ∧
  (∀ sig, parseMethodDescriptor y.desc = some sig → n = sig.parameters.length) ∧ (Cond.methodLink own index y).before args s = true ∧ (Cond.static y).before args s = true
theorem vx_cwSW {own : String} {index maxL mc ms : Nat} {y : MethodName} {bytes : ByteArray} {ret : Option FieldType} {hh : List (Nat × Nat × Nat × Nat)} {Ts ws ws' : List Cond} {rm : Room} (n : Nat) (ht : ∀ w ∈ Ts, w.before args s = true) (hT : GoodIn Ts (va_wsS own index y ws)) (hw : ws = Cond.codeWith y bytes maxL ret hh :: ws') (hrc : rm.cells = mc) (hrs : rm.slots = ms)
    (hd : y.cls ≠ "java/lang/invoke/MethodHandle" ∧ y.cls ≠ "java/lang/invoke/VarHandle" ∧ (parseMethodDescriptor y.desc).map (fun d => d.parameters.length) = some n) (hR : rm.frames + 1 ≤ R.frames ∧ 8 + (maxL + 11) + rm.locals ≤ R.locals) :
    vx_CSW R s args own index y bytes maxL ret hh ws rm mc ms n := by
  have ok : ∀ w ∈ va_wsS own index y ws, w.before args s = true := fun w h => ht w (hT w h).1
  have hG : GoodIn Ts ws := fun w h => hT w (by unfold va_wsS; exact List.mem_append_right _ h)
  have hc : Cond.codeWith y bytes maxL ret hh ∈ ws := by rw [hw]; exact List.mem_cons_self
  refine ⟨⟨hrc, hrs, hR.1, hR.2, pay_in ht hG, hc⟩, ht _ (hG _ hc).1, ok _ (by simp [va_wsS]), ⟨hd.1, hd.2.1⟩, fun sig h => ?_, ok _ (by simp [va_wsS]), ok _ (by simp [va_wsS])⟩
  have h2 := hd.2.2
  rw [h] at h2
  exact (Option.some.inj h2).symm
theorem vx_callSW (X : Stand p l e R s m args below meth c T locs cells slots) (hexec : p.tables.exec = Jvm.exec) {own : String} {index : Nat} {y : MethodName} {bytes : ByteArray} {maxL : Nat} {ret : Option FieldType} {hh : List (Nat × Nat × Nat × Nat)}
    (hown : s.vm.findClass own = some m.cls) (hlink : (Cond.methodLink own index y).before args s = true) (hstat : (Cond.static y).before args s = true) (hinit : (Cond.initialized y.cls).before args s = true)
    (hcode : (Cond.codeWith y bytes maxL ret hh).before args s = true) (hy : y.cls ≠ "java/lang/invoke/MethodHandle" ∧ y.cls ≠ "java/lang/invoke/VarHandle")
    {W9 : Nat} {Pre : Pt → Array Value → Prop} {Post : Pt → Array Value → Option Value → Pt → Prop} (hK : Back l R p e below s args y 3 W9 Pre Post)
    {g : JFrame} (hg : g.method = m) (hsize : g.locals.size = c.maxLocals) {argsL rest : List Value} (hlen : ∀ sig, parseMethodDescriptor y.desc = some sig → argsL.length = sig.parameters.length)
    (hstack : g.stack = argsL.reverse ++ rest) (hW : 2 * g.monitorRoom + (rest.map fun v => v.category).sum ≤ W9) (hdg : decode c.code g.pc = .ok (.invokestatic index, 3))
    (hpre : ∀ vm₁, s.WarmedH vm₁ → Pre ⟨T.setVm vm₁, locs, cells, slots⟩ argsL.toArray) :
    ∃ (v : Option Value) (vm₁ : Vm) (B : Pt), s.WarmedH vm₁ ∧ Stand p l e R s m args below meth c B.U B.locs B.cells B.slots ∧ Post ⟨T.setVm vm₁, locs, cells, slots⟩ argsL.toArray v B ∧
      ∀ target, Steps p.tables e below (B.U.setTop { g with pc := g.pc + 3, stack := v.toList ++ rest }) target → Steps p.tables e below (T.setTop g) target := by
  obtain ⟨mk, methM, cM, hnamed, hmethM, -, -, -, -, -, -, hsigM⟩ := Cond.codeWith_spec hcode
  have hstatic : methM.isStatic = true := Cond.static_spec hnamed hmethM hstat
  obtain ⟨kP, hkP, -⟩ := className_of_methodNamed hnamed
  have hinitP : kP.init = .initialized := Cond.initialized_spec (findClass_of_methodNamed hnamed) hkP hinit
  obtain ⟨vm₁, X₁, hstep₁⟩ := X.invokestatic hexec hown hlink hnamed hmethM hstatic hkP hinitP hy (g := g) hg (argsL := argsL) (rest := rest) (hlen _ hsigM) hstack hdg
  obtain ⟨v, B, X', hpost, hsteps⟩ := hK m meth c ⟨T.setVm vm₁, locs, cells, slots⟩ { g with stack := rest } (.invokestatic index) mk argsL.toArray X₁ hg hsize hdg hW (X₁.named hnamed) (hpre vm₁ X₁.warmed)
  exact ⟨v, vm₁, B, X₁.warmed, X', hpost, fun target h => hstep₁ _ fun acts => by rw [doInvoke_state]; exact hsteps.trans h⟩
theorem vx_runSW {y : MethodName} {bytes cc : ByteArray} {maxL nL mc ms n index : Nat} {ret : Option FieldType} {hh : List (Nat × Nat × Nat × Nat)} {ws : List Cond} {rm : Room} {Pc : Array Value → State → Prop} {Qc : Array Value → State → Outcome → State → Prop} {free : Addr → Prop} {Ts : List Cond} {own : String} {As rest : List Value} {g : JFrame}
    (S : CallFix p m c cc nL s args Ts own) (hM : Met l y ws rm Pc Qc mc ms free) (cw : vx_CSW R s args own index y bytes maxL ret hh ws rm mc ms n) (hp : PreS s H Pc As)
    (hg : g.method = m) (hn : As.length = n) (hsize : g.locals.size = nL) (hstack : g.stack = As.reverse ++ rest) (hW : 2 * g.monitorRoom + (rest.map fun v => v.category).sum ≤ 8) (hdg : decode cc g.pc = .ok (.invokestatic index, 3)) (hf : cells + mc ≤ R.cells ∧ slots + ms ≤ R.slots) :
    va_Run p l e R s m args below meth c H locs cells slots mc ms g rest (Qc As.toArray) (free) := by
  obtain ⟨⟨hrc, hrs, hfr, hlo, hws, hcw⟩, hcode, hini, hy, hlen, hl, hstt⟩ := cw
  have hK : Back l R p e below s args y 3 8 (PreOf R mc ms Pc) (PostOf Qc mc ms free) := va_backW (hh := hh) (bytes := bytes) (maxL := maxL) (ret := ret) hM hp.1 hrc hrs hfr hlo hws hcw (fun a' U hW => word_at hW (Or.inl (by first | rfl | simp [Cond.onTables, Cond.keeps, Cond.steady])) hini)
  obtain ⟨hx, hb, hml, ho, -⟩ := S
  intro T hT X
  obtain ⟨v, vm₁, ⟨U', l2, c2, s2⟩, hW₁, X', ⟨g', mk, t, L, e1, e2, hq, h1, hL, h2, h3⟩, st⟩ := vx_callSW X hx (hh := hh) (bytes := bytes) (maxL := maxL) (ret := ret) ho hl hstt hini hcode hy hK hg (hsize.trans hml.symm) (argsL := As) (rest := rest) (fun sig h => hn.trans (hlen sig h)) hstack hW (by rw [hb]; exact hdg)
    (fun vm₁ hW₁ => ⟨hf.1, hf.2, hp.2 (T.setVm vm₁) hT hW₁⟩)
  dsimp only [Pt.U, Pt.locs, Pt.cells, Pt.slots] at X' e1 e2 h1 h2 h3 st
  subst h1; subst h2; subst h3
  exact ⟨v, (T.setVm vm₁).calling g' mk As.toArray, t, U', L, hT, X', hL, e1, e2, hq, st⟩
/-- not caught here, past rows that name other classes: it goes on to the caller -/
theorem vx_outP {p : Program} {l : Launch} {e : Env} {R : Room} {s : State} {m : MethodId} {args : Array Value} {below : List Frame} {meth : Method} {c : Code} {H : Heap} {locs : List Loc} {cells slots : Nat} {free : Addr → Prop} {ls : Array Slot} {rest : List Value} {Qc : Array Value → State → Outcome → State → Prop} {XC : String → State → State → Prop}
    {pc : Nat} {own E : String} {ce : Cell} {q : Addr} {mc ms : Nat} (hown : s.vm.findClass own = some m.cls) (hlocks : meth.locks = false)
    (hpass : ∀ z ∈ c.exceptionTable.toList, covers z pc = false ∨ (z.catchType ≠ 0 ∧ ∃ nm : String, (Cond.classLink own z.catchType nm).before args s = true ∧ va_Nc E nm s)) (hcell : H[q]? = some ce) (hv : ce.vm = .none) (hcl : s.vm.findClass E = some ce.cls)
    (hx : ∀ t : State, t.heap = H → s.vm.Alike t.vm → XC E s t) (hf : ∀ z ∈ locs, free z.base) (hc : cells ≤ mc) (hs : slots ≤ ms) :
    vx_W p l e R s m args below meth c H locs cells slots (vx_MQ below Qc XC args s mc ms free) (F0 m pc ls rest) q := by
  intro T hT X
  have hpl : e.platform.magicAccessors = ({} : Platform).magicAccessors := by rw [X.admits.platform]
  obtain ⟨vm', hW', X', st⟩ := X.outThrough hlocks q (g := F0 m pc ls rest) rfl rfl rfl (cell := ce) (by rw [hT]; exact hcell) (by rw [hv]; rfl)
    (by obtain ⟨k9, h9, -⟩ := Vm.findClass_spec hcl; exact ⟨k9, h9⟩) (fun z hz => by
      rcases hpass z hz with h | ⟨hz0, nm, hl1, hn1⟩
      · exact Or.inl h
      · obtain ⟨c6, hc6, hcl6⟩ := Cond.classLink_spec hown hl1 e.platform hpl
        obtain ⟨a8, b8, h1, h2, h3⟩ := hn1
        cases Option.some.inj (h1.symm.trans hcl)
        cases Option.some.inj (h2.symm.trans hc6)
        exact Or.inr ⟨hz0, _, hcl6, h3⟩)
  obtain ⟨g₀, hfr⟩ := X'.frames_eq
  have hcell9 : ((T.setVm vm').setFrames (.throwing q :: below)).heap[q]? = some ce := by
    show T.heap[q]? = some ce
    rw [hT]; exact hcell
  have hend : Ended ((T.setVm vm').setFrames (.throwing q :: below)) below (.threw q) := State.frames_setFrames _ (State.cur_lt_of_frames hfr)
  refine ⟨(T.setVm vm').setFrames (.throwing q :: below), ?_, .threw q, X'.here.running, hend, Or.inr ⟨q, rfl, E, ce, locs, hx _ hT (X'.ends _).1.alike, hcell9, hv, hcl, (X'.ends _).1, (X'.ends _).2.mono hc hs, hf⟩⟩
  rw [X.pushThrowing_eq]
  exact st
/-- a thing of a world lies in the heap -/
theorem vx_lt {D : va_G} {cl : List vw_C} {ws : va_W} {H1 : Heap} (h : va_P D cl ws H1) {k : Nat} {q : Nat × va_E} (hk : ws[k]? = some q) : q.1 < H1.size := (h k q hk).lt
end VXS
/-! ===== END ===== -/
/-! ===== BEGIN methods with a table of their own: called by a name, returning or throwing ===== -/
section VXH
/-! vx_backW, vx_callVX, vx_callSX, vx_callVW, vx_runVW, vx_runVX, vx_runSX, vx_ofWH follow the same proofs as their sisters above (Free/Laws.lean, Shelf42/LK1.lean); vx_outP calls Shelf42/NT130.lean (outThrough). -/
section
variable {l : Launch} {R : Room} {p : Program} {e : Env} {below : List Frame} {s : State} {sargs : Array Value} {y : MethodName} {len W9 : Nat}
theorem vx_backW {ws : List Cond} {rm : Room} {Pc : Array Value → State → Prop} {Qc : Array Value → State → Outcome → State → Prop} {XC : String → State → State → Prop} {mc ms : Nat} {free : Addr → Prop} {bytes : ByteArray} {maxL : Nat} {ret : Option FieldType} {hh : List (Nat × Nat × Nat × Nat)}
    (hM : vx_Met l y ws rm Pc Qc XC mc ms free) (hblind : FrameBlind Pc) (hrc : rm.cells = mc) (hrs : rm.slots = ms)
    (hframes : rm.frames + 1 ≤ R.frames) (hlocals : W9 + (maxL + 11) + rm.locals ≤ R.locals)
    (hws : ∀ w ∈ ws, ∀ a' U, s.WarmedH U.vm → w.before a' U = true) (hcode : Cond.codeWith y bytes maxL ret hh ∈ ws) (hinit : ∀ a' U, s.WarmedH U.vm → (Cond.initialized y.cls).before a' U = true) :
    vx_Back l R p e below s sargs y len W9 (PreOf R mc ms Pc) (PostOf Qc mc ms free) (vx_Post XC mc ms free) := by
  intro m meth c A g ig mk a X hg hsize hdg hW hn hp
  have h1 : (headSpec ws rm).pre.before a A.U = true := atoms_intro fun w hw => hws w hw _ _ X.warmed
  have h2 : (Cond.codeWith y bytes maxL ret hh).before a A.U = true := hws _ hcode _ _ X.warmed
  have h3 : (Cond.initialized y.cls).before a A.U = true := hinit _ _ X.warmed
  have h4 : A.cells + (headSpec ws rm).room.cells ≤ R.cells := by rw [show (headSpec ws rm).room.cells = mc from hrc]; exact hp.1
  have h5 : A.slots + (headSpec ws rm).room.slots ≤ R.slots := by rw [show (headSpec ws rm).room.slots = ms from hrs]; exact hp.2.1
  have hPc : Pc a (A.U.calling g mk a) := hblind _ _ _ _ hp.2.2
  obtain ⟨U, Ls, c0, s0⟩ := A
  dsimp only [Pt.U, Pt.locs, Pt.cells, Pt.slots] at h1 h2 h3 h4 h5 X hn hPc ⊢
  obtain ⟨m9, methY, cY, hn9, hmY, hcY, -, hlY, -⟩ := Cond.codeWith_spec h2
  cases Option.some.inj (hn9.symm.trans hn)
  obtain ⟨kY, hkY, -⟩ := className_of_methodNamed hn
  have hinitY : kY.init = .initialized := Cond.initialized_spec (findClass_of_methodNamed hn) hkY h3
  have h : At U g.method c below := by rw [hg]; exact X.here
  have hlocals9 : W9 + (maxL + 11) + (headSpec ws rm).room.locals ≤ R.locals := hlocals
  have happ : (headSpec ws rm).appliesLoose y e.platform (U.calling g mk a) = true :=
    Spec.appliesLoose_calling (g := g) h hdg hn hkY hinitY
      (X.room_calling (g := g) (R' := (headSpec ws rm).room) hsize hmY hcY hframes (by rw [hlY]; omega) h4 h5) h1
  obtain ⟨mid, hmid⟩ := h.above
  have hfr : (U.setTop g).frames = (.java g :: mid) ++ below := by rw [State.frames_setTop' g h.top, hmid]; rfl
  obtain ⟨o, s₂, hsteps, -, hend, hq⟩ := Steps.callFree hM p X.admits X.cas X.clock (acts := []) hfr happ hPc trivial
  have hq' : vx_Q Qc XC mc ms free a (U.calling g mk a) o s₂ := hq
  rw [State.frames_setTop' g h.top] at hend
  obtain ⟨g₀, hg0⟩ := Option.isSome_iff_exists.mp h.top
  obtain ⟨r, hr⟩ := State.topJava?_eq_some.mp hg0
  have hr' : (({ U with heap := s₂.heap, slotsUsed := s₂.slotsUsed } : State).setVm s₂.vm).frames = .java g₀ :: r := hr
  rcases hq' with ⟨hqc, L, hfe, hL⟩ | ⟨q, rfl, E, ce, L, hx, hce, hcv, hcl, hW₂, hsm, hL⟩
  · obtain ⟨⟨v, rfl⟩, hW₂, e2, q2, q3, q4, q5, q6⟩ := id hfe
    have e3 : s₂ = ({ (U.calling g mk a).setFrames s₂.frames with heap := s₂.heap, slotsUsed := s₂.slotsUsed } : State).setVm s₂.vm := by
      have : s₂ = ({ s₂ with vm := (U.calling g mk a).vm } : State).setVm s₂.vm := rfl
      rw [e2] at this
      exact this
    obtain ⟨c₂, i₂, len₂, hc₂, hd₂, hf₂⟩ := hend
    have hW' : U.WarmedH s₂.vm := hW₂
    have hcc : c₂ = c := by
      have h1 : s₂.code? g.method = U.code? g.method := by
        rw [State.code?_eq, State.code?_eq, hW'.alike.method?]
      exact Option.some.inj (hc₂.symm.trans (h1.trans h.code))
    subst hcc
    have hlen : len₂ = len := by rw [hdg] at hd₂; cases hd₂; rfl
    subst hlen
    have hs₂ : s₂ = (({ U with heap := s₂.heap, slotsUsed := s₂.slotsUsed } : State).setVm s₂.vm).setTop { g with pc := g.pc + len₂, stack := v.toList ++ g.stack } := by
      refine e3.trans ?_
      rw [hf₂, State.calling_eq h.top, State.setFrames_setFrames, State.setTop_of_frames _ hr', hr]
      rfl
    have hsame : U.sameButNew ({ U with heap := s₂.heap, slotsUsed := s₂.slotsUsed } : State) L mc ms := by
      refine ⟨?_, q2, q3, q4, q5, q6⟩
      obtain ⟨t, ht, -⟩ := State.frames_cons hr
      show ({ U with heap := s₂.heap, slotsUsed := s₂.slotsUsed } : State) = { U.setFrames U.frames with heap := s₂.heap, slotsUsed := s₂.slotsUsed }
      rw [State.setFrames_self ht]
    subst hg
    refine Or.inl ⟨v, ⟨(({ U with heap := s₂.heap, slotsUsed := s₂.slotsUsed } : State).setVm s₂.vm), Ls ++ L, c0 + mc, s0 + ms⟩,
      ⟨X.admits, X.cas, X.clock, X.frames, X.room, X.hears, X.method, X.code, (X.here.setHeapUsed s₂.heap s₂.slotsUsed).setVm hW'.alike, X.tail, State.WarmedH.trans X.warmed hW', X.limits, X.bytes, X.same.trans (hsame.setVm s.vm)⟩,
      ⟨g, mk, s₂, L, rfl, rfl, hqc, rfl, hL, rfl, rfl⟩, ?_⟩
    show Steps p.tables e below _ ((({ U with heap := s₂.heap, slotsUsed := s₂.slotsUsed } : State).setVm s₂.vm).setTop { g with pc := g.pc + len₂, stack := v.toList ++ g.stack })
    rw [← hs₂]
    exact hsteps
  · obtain ⟨e2, q2, q3, q4, q5, q6⟩ := id hsm
    have e3 : s₂ = ({ (U.calling g mk a).setFrames s₂.frames with heap := s₂.heap, slotsUsed := s₂.slotsUsed } : State).setVm s₂.vm := by
      have : s₂ = ({ s₂ with vm := (U.calling g mk a).vm } : State).setVm s₂.vm := rfl
      rw [e2] at this
      exact this
    have hf₂ : s₂.frames = .throwing q :: .java g :: U.frames.tail := hend
    have hW' : U.WarmedH s₂.vm := hW₂
    have hs₂ : s₂ = ((({ U with heap := s₂.heap, slotsUsed := s₂.slotsUsed } : State).setVm s₂.vm).setTop g).pushFrame (.throwing q) := by
      refine e3.trans ?_
      rw [hf₂, State.calling_eq h.top, State.setFrames_setFrames, State.pushFrame, State.frames_setTop _ hr', State.setTop_of_frames _ hr', State.setFrames_setFrames, hr]
      rfl
    have hsame : U.sameButNew ({ U with heap := s₂.heap, slotsUsed := s₂.slotsUsed } : State) L mc ms := by
      refine ⟨?_, q2, q3, q4, q5, q6⟩
      obtain ⟨t, ht, -⟩ := State.frames_cons hr
      show ({ U with heap := s₂.heap, slotsUsed := s₂.slotsUsed } : State) = { U.setFrames U.frames with heap := s₂.heap, slotsUsed := s₂.slotsUsed }
      rw [State.setFrames_self ht]
    subst hg
    refine Or.inr ⟨q, ⟨(({ U with heap := s₂.heap, slotsUsed := s₂.slotsUsed } : State).setVm s₂.vm), Ls ++ L, c0 + mc, s0 + ms⟩,
      ⟨X.admits, X.cas, X.clock, X.frames, X.room, X.hears, X.method, X.code, (X.here.setHeapUsed s₂.heap s₂.slotsUsed).setVm hW'.alike, X.tail, State.WarmedH.trans X.warmed hW', X.limits, X.bytes, X.same.trans (hsame.setVm s.vm)⟩,
      ⟨g, mk, s₂, L, E, ce, rfl, rfl, hx, hce, hcv, hcl, rfl, hL, rfl, rfl⟩, ?_⟩
    show Steps p.tables e below _ (((({ U with heap := s₂.heap, slotsUsed := s₂.slotsUsed } : State).setVm s₂.vm).setTop g).pushFrame (.throwing q))
    rw [← hs₂]
    exact hsteps
end
variable {p : Program} {l : Launch} {e : Env} {R : Room} {s : State} {m : MethodId} {args : Array Value} {below : List Frame} {meth : Method} {c : Code} {T : State} {H : Heap} {locs : List Loc} {cells slots : Nat}
theorem vx_callVX (X : Stand p l e R s m args below meth c T locs cells slots) (hexec : p.tables.exec = Jvm.exec) {own C : String} {index : Nat} {y : MethodName} {bytes : ByteArray} {maxL : Nat} {ret : Option FieldType} {hh : List (Nat × Nat × Nat × Nat)}
    (hown : s.vm.findClass own = some m.cls) (hlink : (Cond.methodLink own index y).before args s = true) (hinst : (Cond.instanceMethod y).before args s = true) (hsel : (Cond.selects C y y).before args s = true)
    (hcode : (Cond.codeWith y bytes maxL ret hh).before args s = true) (hy : y.cls ≠ "java/lang/invoke/MethodHandle" ∧ y.cls ≠ "java/lang/invoke/VarHandle")
    {W9 : Nat} {Pre : Pt → Array Value → Prop} {Post : Pt → Array Value → Option Value → Pt → Prop} {PostX : Pt → Array Value → Addr → Pt → Prop} (hK : vx_Back l R p e below s args y 3 W9 Pre Post PostX)
    {b : Addr} {cellB : Cell} (hcell : T.heap[b]? = some cellB) (hobj : cellB.vm.isStatics = false) (hcls : s.vm.findClass C = some cellB.cls)
    {g : JFrame} (hg : g.method = m) (hsize : g.locals.size = c.maxLocals) {argsL rest : List Value} (hlen : ∀ sig, parseMethodDescriptor y.desc = some sig → argsL.length = sig.parameters.length)
    (hstack : g.stack = argsL.reverse ++ .ref b :: rest) (hW : 2 * g.monitorRoom + (rest.map fun v => v.category).sum ≤ W9) (hdg : decode c.code g.pc = .ok (.invokevirtual index, 3))
    (hpre : ∀ vm₁, s.WarmedH vm₁ → Pre ⟨T.setVm vm₁, locs, cells, slots⟩ (Value.ref b :: argsL).toArray) :
    (∃ (v : Option Value) (vm₁ : Vm) (B : Pt), s.WarmedH vm₁ ∧ Stand p l e R s m args below meth c B.U B.locs B.cells B.slots ∧ Post ⟨T.setVm vm₁, locs, cells, slots⟩ (Value.ref b :: argsL).toArray v B ∧
      ∀ target, Steps p.tables e below (B.U.setTop { g with pc := g.pc + 3, stack := v.toList ++ rest }) target → Steps p.tables e below (T.setTop g) target) ∨
    (∃ (q : Addr) (vm₁ : Vm) (B : Pt), s.WarmedH vm₁ ∧ Stand p l e R s m args below meth c B.U B.locs B.cells B.slots ∧ PostX ⟨T.setVm vm₁, locs, cells, slots⟩ (Value.ref b :: argsL).toArray q B ∧
      Steps p.tables e below (T.setTop g) ((B.U.setTop { g with stack := rest }).pushFrame (.throwing q))) := by
  obtain ⟨mk, methM, hnamed, hmethM, hstM, habM⟩ := Cond.instanceMethod_spec hinst
  obtain ⟨m8, methM', cM, hn8, hmethM', -, -, -, -, -, -, hsigM⟩ := Cond.codeWith_spec hcode
  cases Option.some.inj (hn8.symm.trans hnamed)
  cases hmethM.symm.trans hmethM'
  obtain ⟨c2, r2, m2, q1, q2, q3, q4, kP, hkP, hkPi⟩ := Cond.selects_spec hsel
  cases hcls.symm.trans q1
  cases (State.methodFound?_of_named hnamed hy).symm.trans q2
  cases hnamed.symm.trans q3
  have hselP : selectMethod e.platform s.vm cellB.cls mk = .method mk := by rw [Launch.admits_selectMethod X.admits]; exact q4
  obtain ⟨vm₁, X₁, hstep₁⟩ := X.invokevirtual hexec hown hlink hnamed hmethM hstM hkP hkPi hy (a := b) (cell := cellB) hcell
    (fun z h => by rw [h] at hobj; cases hobj) hselP hmethM habM hkP hkPi (g := g) hg (argsL := argsL) (rest := rest) (hlen _ hsigM) hstack hdg
  rcases hK m meth c ⟨T.setVm vm₁, locs, cells, slots⟩ { g with stack := rest } (.invokevirtual index) mk (Value.ref b :: argsL).toArray X₁ hg hsize hdg hW (X₁.named hnamed) (hpre vm₁ X₁.warmed) with ⟨v, B, X', hpost, hsteps⟩ | ⟨q, B, X', hpost, hsteps⟩
  · exact Or.inl ⟨v, vm₁, B, X₁.warmed, X', hpost, fun target h => hstep₁ _ fun acts => by rw [doInvoke_state]; exact hsteps.trans h⟩
  · exact Or.inr ⟨q, vm₁, B, X₁.warmed, X', hpost, hstep₁ _ fun acts => by rw [doInvoke_state]; exact hsteps⟩
theorem vx_callSX (X : Stand p l e R s m args below meth c T locs cells slots) (hexec : p.tables.exec = Jvm.exec) {own : String} {index : Nat} {y : MethodName} {bytes : ByteArray} {maxL : Nat} {ret : Option FieldType} {hh : List (Nat × Nat × Nat × Nat)}
    (hown : s.vm.findClass own = some m.cls) (hlink : (Cond.methodLink own index y).before args s = true) (hstat : (Cond.static y).before args s = true) (hinit : (Cond.initialized y.cls).before args s = true)
    (hcode : (Cond.codeWith y bytes maxL ret hh).before args s = true) (hy : y.cls ≠ "java/lang/invoke/MethodHandle" ∧ y.cls ≠ "java/lang/invoke/VarHandle")
    {W9 : Nat} {Pre : Pt → Array Value → Prop} {Post : Pt → Array Value → Option Value → Pt → Prop} {PostX : Pt → Array Value → Addr → Pt → Prop} (hK : vx_Back l R p e below s args y 3 W9 Pre Post PostX)
    {g : JFrame} (hg : g.method = m) (hsize : g.locals.size = c.maxLocals) {argsL rest : List Value} (hlen : ∀ sig, parseMethodDescriptor y.desc = some sig → argsL.length = sig.parameters.length)
    (hstack : g.stack = argsL.reverse ++ rest) (hW : 2 * g.monitorRoom + (rest.map fun v => v.category).sum ≤ W9) (hdg : decode c.code g.pc = .ok (.invokestatic index, 3))
    (hpre : ∀ vm₁, s.WarmedH vm₁ → Pre ⟨T.setVm vm₁, locs, cells, slots⟩ argsL.toArray) :
    (∃ (v : Option Value) (vm₁ : Vm) (B : Pt), s.WarmedH vm₁ ∧ Stand p l e R s m args below meth c B.U B.locs B.cells B.slots ∧ Post ⟨T.setVm vm₁, locs, cells, slots⟩ argsL.toArray v B ∧
      ∀ target, Steps p.tables e below (B.U.setTop { g with pc := g.pc + 3, stack := v.toList ++ rest }) target → Steps p.tables e below (T.setTop g) target) ∨
    (∃ (q : Addr) (vm₁ : Vm) (B : Pt), s.WarmedH vm₁ ∧ Stand p l e R s m args below meth c B.U B.locs B.cells B.slots ∧ PostX ⟨T.setVm vm₁, locs, cells, slots⟩ argsL.toArray q B ∧
      Steps p.tables e below (T.setTop g) ((B.U.setTop { g with stack := rest }).pushFrame (.throwing q))) := by
  obtain ⟨mk, methM, cM, hnamed, hmethM, -, -, -, -, -, -, hsigM⟩ := Cond.codeWith_spec hcode
  have hstatic : methM.isStatic = true := Cond.static_spec hnamed hmethM hstat
  obtain ⟨kP, hkP, -⟩ := className_of_methodNamed hnamed
  have hinitP : kP.init = .initialized := Cond.initialized_spec (findClass_of_methodNamed hnamed) hkP hinit
  obtain ⟨vm₁, X₁, hstep₁⟩ := X.invokestatic hexec hown hlink hnamed hmethM hstatic hkP hinitP hy (g := g) hg (argsL := argsL) (rest := rest) (hlen _ hsigM) hstack hdg
  rcases hK m meth c ⟨T.setVm vm₁, locs, cells, slots⟩ { g with stack := rest } (.invokestatic index) mk argsL.toArray X₁ hg hsize hdg hW (X₁.named hnamed) (hpre vm₁ X₁.warmed) with ⟨v, B, X', hpost, hsteps⟩ | ⟨q, B, X', hpost, hsteps⟩
  · exact Or.inl ⟨v, vm₁, B, X₁.warmed, X', hpost, fun target h => hstep₁ _ fun acts => by rw [doInvoke_state]; exact hsteps.trans h⟩
  · exact Or.inr ⟨q, vm₁, B, X₁.warmed, X', hpost, hstep₁ _ fun acts => by rw [doInvoke_state]; exact hsteps⟩
theorem vx_callVW (X : Stand p l e R s m args below meth c T locs cells slots) (hexec : p.tables.exec = Jvm.exec) {own C : String} {index : Nat} {y : MethodName} {bytes : ByteArray} {maxL : Nat} {ret : Option FieldType} {hh : List (Nat × Nat × Nat × Nat)}
    (hown : s.vm.findClass own = some m.cls) (hlink : (Cond.methodLink own index y).before args s = true) (hinst : (Cond.instanceMethod y).before args s = true) (hsel : (Cond.selects C y y).before args s = true)
    (hcode : (Cond.codeWith y bytes maxL ret hh).before args s = true) (hy : y.cls ≠ "java/lang/invoke/MethodHandle" ∧ y.cls ≠ "java/lang/invoke/VarHandle")
    {W9 : Nat} {Pre : Pt → Array Value → Prop} {Post : Pt → Array Value → Option Value → Pt → Prop} (hK : Back l R p e below s args y 3 W9 Pre Post)
    {b : Addr} {cellB : Cell} (hcell : T.heap[b]? = some cellB) (hobj : cellB.vm.isStatics = false) (hcls : s.vm.findClass C = some cellB.cls)
    {g : JFrame} (hg : g.method = m) (hsize : g.locals.size = c.maxLocals) {argsL rest : List Value} (hlen : ∀ sig, parseMethodDescriptor y.desc = some sig → argsL.length = sig.parameters.length)
    (hstack : g.stack = argsL.reverse ++ .ref b :: rest) (hW : 2 * g.monitorRoom + (rest.map fun v => v.category).sum ≤ W9) (hdg : decode c.code g.pc = .ok (.invokevirtual index, 3))
    (hpre : ∀ vm₁, s.WarmedH vm₁ → Pre ⟨T.setVm vm₁, locs, cells, slots⟩ (Value.ref b :: argsL).toArray) :
    ∃ (v : Option Value) (vm₁ : Vm) (B : Pt), s.WarmedH vm₁ ∧ Stand p l e R s m args below meth c B.U B.locs B.cells B.slots ∧ Post ⟨T.setVm vm₁, locs, cells, slots⟩ (Value.ref b :: argsL).toArray v B ∧
      ∀ target, Steps p.tables e below (B.U.setTop { g with pc := g.pc + 3, stack := v.toList ++ rest }) target → Steps p.tables e below (T.setTop g) target := by
  obtain ⟨mk, methM, hnamed, hmethM, hstM, habM⟩ := Cond.instanceMethod_spec hinst
  obtain ⟨m8, methM', cM, hn8, hmethM', -, -, -, -, -, -, hsigM⟩ := Cond.codeWith_spec hcode
  cases Option.some.inj (hn8.symm.trans hnamed)
  cases hmethM.symm.trans hmethM'
  obtain ⟨c2, r2, m2, q1, q2, q3, q4, kP, hkP, hkPi⟩ := Cond.selects_spec hsel
  cases hcls.symm.trans q1
  cases (State.methodFound?_of_named hnamed hy).symm.trans q2
  cases hnamed.symm.trans q3
  have hselP : selectMethod e.platform s.vm cellB.cls mk = .method mk := by rw [Launch.admits_selectMethod X.admits]; exact q4
  obtain ⟨vm₁, X₁, hstep₁⟩ := X.invokevirtual hexec hown hlink hnamed hmethM hstM hkP hkPi hy (a := b) (cell := cellB) hcell
    (fun z h => by rw [h] at hobj; cases hobj) hselP hmethM habM hkP hkPi (g := g) hg (argsL := argsL) (rest := rest) (hlen _ hsigM) hstack hdg
  obtain ⟨v, B, X', hpost, hsteps⟩ := hK m meth c ⟨T.setVm vm₁, locs, cells, slots⟩ { g with stack := rest } (.invokevirtual index) mk (Value.ref b :: argsL).toArray X₁ hg hsize hdg hW (X₁.named hnamed) (hpre vm₁ X₁.warmed)
  exact ⟨v, vm₁, B, X₁.warmed, X', hpost, fun target h => hstep₁ _ fun acts => by rw [doInvoke_state]; exact hsteps.trans h⟩
abbrev vx_CVW (R : Room) (s : State) (args : Array Value) (own C : String) (index : Nat) (y : MethodName) (bytes : ByteArray) (maxL : Nat) (ret : Option FieldType) (hh : List (Nat × Nat × Nat × Nat)) (ws : List Cond) (rm : Room) (mc ms n : Nat) : Prop :=
  (rm.cells = mc ∧ rm.slots = ms ∧ rm.frames + 1 ≤ R.frames ∧ 8 + (maxL + 11) + rm.locals ≤ R.locals ∧ (∀ w ∈ ws, ∀ (a' : Array Value) (U : State), s.WarmedH U.vm → w.before a' U = true) ∧ Cond.codeWith y bytes maxL ret hh ∈ ws) ∧
  (Cond.codeWith y bytes maxL ret hh).before args s = true ∧ (Cond.initialized y.cls).before args s = true ∧ (y.cls ≠ "java/lang/invoke/MethodHandle" ∧ y.cls ≠ "java/lang/invoke/VarHandle") ∧
  (∀ sig, parseMethodDescriptor y.desc = some sig → n = sig.parameters.length) ∧ (Cond.methodLink own index y).before args s = true ∧ (Cond.instanceMethod y).before args s = true ∧ (Cond.selects C y y).before args s = true
theorem vx_cwVW {own C : String} {index maxL mc ms : Nat} {y : MethodName} {bytes : ByteArray} {ret : Option FieldType} {hh : List (Nat × Nat × Nat × Nat)} {Ts ws ws' : List Cond} {rm : Room} (n : Nat) (ht : ∀ w ∈ Ts, w.before args s = true) (hT : GoodIn Ts (wsV own index C y ws)) (hw : ws = Cond.codeWith y bytes maxL ret hh :: ws') (hrc : rm.cells = mc) (hrs : rm.slots = ms)
    (hd : y.cls = C ∧ y.cls ≠ "java/lang/invoke/MethodHandle" ∧ y.cls ≠ "java/lang/invoke/VarHandle" ∧ (parseMethodDescriptor y.desc).map (fun d => d.parameters.length) = some n) (hR : rm.frames + 1 ≤ R.frames ∧ 8 + (maxL + 11) + rm.locals ≤ R.locals) :
    vx_CVW R s args own C index y bytes maxL ret hh ws rm mc ms n := by
  obtain ⟨hC, hd⟩ := hd
  subst hC
  have ok : ∀ w ∈ wsV own index y.cls y ws, w.before args s = true := fun w h => ht w (hT w h).1
  have hG : GoodIn Ts ws := fun w h => hT w (by unfold wsV; exact List.mem_append_right _ h)
  have hc : Cond.codeWith y bytes maxL ret hh ∈ ws := by rw [hw]; exact List.mem_cons_self
  refine ⟨⟨hrc, hrs, hR.1, hR.2, pay_in ht hG, hc⟩, ht _ (hG _ hc).1, ok _ (by simp [wsV]), ⟨hd.1, hd.2.1⟩, fun sig h => ?_, ok _ (by simp [wsV]), ok _ (by simp [wsV]), ok _ (by simp [wsV])⟩
  have h2 := hd.2.2
  rw [h] at h2
  exact (Option.some.inj h2).symm
theorem vx_runVW {y : MethodName} {bytes cc : ByteArray} {maxL nL mc ms n index : Nat} {ret : Option FieldType} {hh : List (Nat × Nat × Nat × Nat)} {ws : List Cond} {rm : Room} {Pc : Array Value → State → Prop} {Qc : Array Value → State → Outcome → State → Prop} {free : Addr → Prop} {Ts : List Cond} {own C : String} {b : Addr} {As rest : List Value} {g : JFrame}
    (S : CallFix p m c cc nL s args Ts own) (hM : Met l y ws rm Pc Qc mc ms free) (cw : vx_CVW R s args own C index y bytes maxL ret hh ws rm mc ms n) (hp : PreV s H C b Pc As)
    (hg : g.method = m) (hn : As.length = n) (hsize : g.locals.size = nL) (hstack : g.stack = As.reverse ++ .ref b :: rest) (hW : 2 * g.monitorRoom + (rest.map fun v => v.category).sum ≤ 8) (hdg : decode cc g.pc = .ok (.invokevirtual index, 3)) (hf : cells + mc ≤ R.cells ∧ slots + ms ≤ R.slots) :
    va_Run p l e R s m args below meth c H locs cells slots mc ms g rest (Qc (Value.ref b :: As).toArray) free := by
  obtain ⟨⟨hrc, hrs, hfr, hlo, hws, hcw⟩, hcode, hini, hy, hlen, hl, hin, hse⟩ := cw
  have hK : Back l R p e below s args y 3 8 (PreOf R mc ms Pc) (PostOf Qc mc ms free) := va_backW (hh := hh) (bytes := bytes) (maxL := maxL) (ret := ret) hM hp.1 hrc hrs hfr hlo hws hcw (fun a' U hW => word_at hW (Or.inl (by first | rfl | simp [Cond.onTables, Cond.keeps, Cond.steady])) hini)
  obtain ⟨hx, hb, hml, ho, -⟩ := S
  obtain ⟨-, ⟨cellB, hcB, hoB, hclB⟩, hPc⟩ := hp
  intro T hT X
  obtain ⟨v, vm₁, ⟨U', l2, c2, s2⟩, hW₁, X', ⟨g', mk, t, L, e1, e2, hq, h1, hL, h2, h3⟩, st⟩ := vx_callVW X hx (C := C) (hh := hh) (bytes := bytes) (maxL := maxL) (ret := ret) ho hl hin hse hcode hy hK (by rw [hT]; exact hcB) hoB hclB hg (hsize.trans hml.symm) (argsL := As) (rest := rest) (fun sig h => hn.trans (hlen sig h)) hstack hW (by rw [hb]; exact hdg)
    (fun vm₁ hW₁ => ⟨hf.1, hf.2, hPc (T.setVm vm₁) hT hW₁⟩)
  dsimp only [Pt.U, Pt.locs, Pt.cells, Pt.slots] at X' e1 e2 h1 h2 h3 st
  subst h1; subst h2; subst h3
  exact ⟨v, (T.setVm vm₁).calling g' mk (Value.ref b :: As).toArray, t, U', L, hT, X', hL, e1, e2, hq, st⟩
section
variable {y : MethodName} {bytes cc : ByteArray} {maxL nL mc ms n index : Nat} {ret : Option FieldType} {ws : List Cond} {rm : Room} {Pc : Array Value → State → Prop} {Qc : Array Value → State → Outcome → State → Prop} {XC : String → State → State → Prop} {free : Addr → Prop} {Ts : List Cond} {own C : String} {b : Addr} {As rest : List Value} {g : JFrame}
theorem vx_runVX {hh : List (Nat × Nat × Nat × Nat)} (S : CallFix p m c cc nL s args Ts own) (hM : vx_Met l y ws rm Pc Qc XC mc ms free) (cw : vx_CVW R s args own C index y bytes maxL ret hh ws rm mc ms n) (hp : PreV s H C b Pc As)
    (hg : g.method = m) (hn : As.length = n) (hsize : g.locals.size = nL) (hstack : g.stack = As.reverse ++ .ref b :: rest) (hW : 2 * g.monitorRoom + (rest.map fun v => v.category).sum ≤ 8) (hdg : decode cc g.pc = .ok (.invokevirtual index, 3)) (hf : cells + mc ≤ R.cells ∧ slots + ms ≤ R.slots) :
    vx_Run p l e R s m args below meth c H locs cells slots mc ms g rest (Qc (Value.ref b :: As).toArray) XC free := by
  obtain ⟨⟨hrc, hrs, hfr, hlo, hws, hcw⟩, hcode, hini, hy, hlen, hl, hin, hse⟩ := cw
  have hK : vx_Back l R p e below s args y 3 8 (PreOf R mc ms Pc) (PostOf Qc mc ms free) (vx_Post XC mc ms free) := vx_backW (hh := hh) (bytes := bytes) (maxL := maxL) (ret := ret) hM hp.1 hrc hrs hfr hlo hws hcw (fun a' U hW => word_at hW (Or.inl (by first | rfl | simp [Cond.onTables, Cond.keeps, Cond.steady])) hini)
  obtain ⟨hx, hb, hml, ho, -⟩ := S
  obtain ⟨-, ⟨cellB, hcB, hoB, hclB⟩, hPc⟩ := hp
  intro T hT X
  rcases vx_callVX X hx (C := C) (hh := hh) (bytes := bytes) (maxL := maxL) (ret := ret) ho hl hin hse hcode hy hK (by rw [hT]; exact hcB) hoB hclB hg (hsize.trans hml.symm) (argsL := As) (rest := rest) (fun sig h => hn.trans (hlen sig h)) hstack hW (by rw [hb]; exact hdg)
    (fun vm₁ hW₁ => ⟨hf.1, hf.2, hPc (T.setVm vm₁) hT hW₁⟩) with ⟨v, vm₁, ⟨U', l2, c2, s2⟩, hW₁, X', ⟨g', mk, t, L, e1, e2, hq, h1, hL, h2, h3⟩, st⟩ | ⟨q, vm₁, ⟨U', l2, c2, s2⟩, hW₁, X', ⟨g', mk, t, L, E, ce, e1, e2, hq, hce, hcv, hcl, h1, hL, h2, h3⟩, st⟩
  · dsimp only [Pt.U, Pt.locs, Pt.cells, Pt.slots] at X' e1 e2 h1 h2 h3 st
    subst h1; subst h2; subst h3
    exact Or.inl ⟨v, (T.setVm vm₁).calling g' mk (Value.ref b :: As).toArray, t, U', L, hT, X', hL, e1, e2, hq, st⟩
  · dsimp only [Pt.U, Pt.locs, Pt.cells, Pt.slots] at X' e1 e2 h1 h2 h3 st hcl
    subst h1; subst h2; subst h3
    exact Or.inr ⟨q, (T.setVm vm₁).calling g' mk (Value.ref b :: As).toArray, t, U', L, E, ce, hT, X', hL, e1, e2, hq, hce, hcv, vx_cls hW₁ hcl, st⟩
theorem vx_runSX {hh : List (Nat × Nat × Nat × Nat)} (S : CallFix p m c cc nL s args Ts own) (hM : vx_Met l y ws rm Pc Qc XC mc ms free) (cw : vx_CSW R s args own index y bytes maxL ret hh ws rm mc ms n) (hp : PreS s H Pc As)
    (hg : g.method = m) (hn : As.length = n) (hsize : g.locals.size = nL) (hstack : g.stack = As.reverse ++ rest) (hW : 2 * g.monitorRoom + (rest.map fun v => v.category).sum ≤ 8) (hdg : decode cc g.pc = .ok (.invokestatic index, 3)) (hf : cells + mc ≤ R.cells ∧ slots + ms ≤ R.slots) :
    vx_Run p l e R s m args below meth c H locs cells slots mc ms g rest (Qc As.toArray) XC free := by
  obtain ⟨⟨hrc, hrs, hfr, hlo, hws, hcw⟩, hcode, hini, hy, hlen, hl, hstt⟩ := cw
  have hK : vx_Back l R p e below s args y 3 8 (PreOf R mc ms Pc) (PostOf Qc mc ms free) (vx_Post XC mc ms free) := vx_backW (hh := hh) (bytes := bytes) (maxL := maxL) (ret := ret) hM hp.1 hrc hrs hfr hlo hws hcw (fun a' U hW => word_at hW (Or.inl (by first | rfl | simp [Cond.onTables, Cond.keeps, Cond.steady])) hini)
  obtain ⟨hx, hb, hml, ho, -⟩ := S
  intro T hT X
  rcases vx_callSX X hx (hh := hh) (bytes := bytes) (maxL := maxL) (ret := ret) ho hl hstt hini hcode hy hK hg (hsize.trans hml.symm) (argsL := As) (rest := rest) (fun sig h => hn.trans (hlen sig h)) hstack hW (by rw [hb]; exact hdg)
    (fun vm₁ hW₁ => ⟨hf.1, hf.2, hp.2 (T.setVm vm₁) hT hW₁⟩) with ⟨v, vm₁, ⟨U', l2, c2, s2⟩, hW₁, X', ⟨g', mk, t, L, e1, e2, hq, h1, hL, h2, h3⟩, st⟩ | ⟨q, vm₁, ⟨U', l2, c2, s2⟩, hW₁, X', ⟨g', mk, t, L, E, ce, e1, e2, hq, hce, hcv, hcl, h1, hL, h2, h3⟩, st⟩
  · dsimp only [Pt.U, Pt.locs, Pt.cells, Pt.slots] at X' e1 e2 h1 h2 h3 st
    subst h1; subst h2; subst h3
    exact Or.inl ⟨v, (T.setVm vm₁).calling g' mk As.toArray, t, U', L, hT, X', hL, e1, e2, hq, st⟩
  · dsimp only [Pt.U, Pt.locs, Pt.cells, Pt.slots] at X' e1 e2 h1 h2 h3 st hcl
    subst h1; subst h2; subst h3
    exact Or.inr ⟨q, (T.setVm vm₁).calling g' mk As.toArray, t, U', L, E, ce, hT, X', hL, e1, e2, hq, hce, hcv, vx_cls hW₁ hcl, st⟩
end
end VXH
theorem vx_ofWH {l : Launch} {y : MethodName} {ws ws' : List Cond} {rm : Room} {Pc : Array Value → State → Prop} {Qc : Array Value → State → Outcome → State → Prop} {XC : String → State → State → Prop} {mc ms : Nat} {free : Addr → Prop} {cc : ByteArray} {maxL : Nat} {ret : Option FieldType} {hh : List (Nat × Nat × Nat × Nat)}
    (hy : plainName y.cls = true) (hw : ws = Cond.codeWith y cc maxL ret hh :: ws')
    (body : ∀ p e s m args below meth c s₁, BodyLoose p l y (headSpec ws rm) cc maxL ret e s m args below meth c s₁ → c.maxLocals = maxL → Pc args s →
      W p l e (headSpec ws rm).room s m args below meth c s.heap [] 0 0 (vx_MQ below Qc XC args s mc ms free) (entryFrame m args maxL)) : vx_Met l y ws rm Pc Qc XC mc ms free := by
  refine MetFree.of_bodyS (code := cc) (maxLocals := maxL) (ret := ret) hy ?_ ?_
  · intro args s m h hn
    obtain ⟨m9, meth, c, hn9, h1, h2, h3, h4, -, h5, h6, -⟩ := Cond.codeWith_spec (atoms_spec (ws := ws) h _ (by rw [hw]; exact List.mem_cons_self))
    cases hn.symm.trans hn9
    exact ⟨meth, c, h1, h2, h3, h4, h5, h6⟩
  · intro p e s m args below meth c s₁ B hml hP _
    have hh0 : s₁.heap = s.heap := by rw [B.state]; rfl
    obtain ⟨t, a1, o, b1, b2, b3⟩ := body p e s m args below meth c s₁ B hml hP s₁ hh0 (Stand.of_body B)
    exact ⟨t, o, a1, b1, b2, b3⟩
/-! ===== END ===== -/
end
section
def RX0 : String := "ArcLight$ArcKeys"
def TX0 : u_T := fun k => match k with
  | 0 => ("ArcLight$ArcKeys", "keys", "[[J", true)
  | _ => ("ArcLight$ArcKeys", "last", "I", false)
def tyX0 : Nat → FieldType := fun k => match k with
  | 0 => .array (.array .long)
  | _ => .int
abbrev wsX00 : List Cond := u_ws RX0 TX0 2
theorem nmX0 : ∀ a, a < 2 → ∀ b, b < 2 → a ≠ b → (TX0 a).2.1 ≠ (TX0 b).2.1 := by decide +kernel
theorem tyX0_ok : ∀ k, k < 2 → parseFieldDescriptor (TX0 k).2.2.1 = some (tyX0 k) := by decide +kernel
abbrev cX0_init : ByteArray := prog_2_method_1_code
def yX0_init : MethodName := ⟨RX0, "<init>", "()V"⟩
abbrev cX0_fill : ByteArray := prog_2_method_2_code
def yX0_fill : MethodName := ⟨RX0, "fill", "(LArcLight$Sentence;LArcLight$Weights;)V"⟩
abbrev cX0_size : ByteArray := prog_2_method_3_code
def yX0_size : MethodName := ⟨RX0, "size", "()I"⟩
abbrev cX0_get : ByteArray := prog_2_method_4_code
def yX0_get : MethodName := ⟨RX0, "get", "(II)J"⟩
def RX1 : String := "ArcLight$Circles"
def TX1 : u_T := fun k => match k with
  | 0 => ("ArcLight$Circles", "keys", "[[J", false)
  | 1 => ("ArcLight$Circles", "contracted", "[[J", false)
  | 2 => ("ArcLight$Circles", "taken", "[I", true)
  | 3 => ("ArcLight$Circles", "groups", "[I", true)
  | _ => ("ArcLight$Circles", "nodes", "I", false)
def tyX1 : Nat → FieldType := fun k => match k with
  | 0 => .array (.array .long)
  | 1 => .array (.array .long)
  | 2 => .array .int
  | 3 => .array .int
  | _ => .int
abbrev wsX10 : List Cond := u_ws RX1 TX1 5
theorem nmX1 : ∀ a, a < 5 → ∀ b, b < 5 → a ≠ b → (TX1 a).2.1 ≠ (TX1 b).2.1 := by decide +kernel
theorem tyX1_ok : ∀ k, k < 5 → parseFieldDescriptor (TX1 k).2.2.1 = some (tyX1 k) := by decide +kernel
abbrev cX1_init : ByteArray := prog_3_method_1_code
def yX1_init : MethodName := ⟨RX1, "<init>", "()V"⟩
abbrev cX1_greatest : ByteArray := prog_3_method_2_code
def yX1_greatest : MethodName := ⟨RX1, "greatest", "(LArcLight$ArcKeys;)J"⟩
abbrev cX1_takeGreatest : ByteArray := prog_3_method_3_code
def yX1_takeGreatest : MethodName := ⟨RX1, "takeGreatest", "()J"⟩
abbrev cX1_takenKey : ByteArray := prog_3_method_4_code
def yX1_takenKey : MethodName := ⟨RX1, "takenKey", "(I)J"⟩
abbrev cX1_takenHead : ByteArray := prog_3_method_5_code
def yX1_takenHead : MethodName := ⟨RX1, "takenHead", "(I)I"⟩
abbrev cX1_findCircle : ByteArray := prog_3_method_6_code
def yX1_findCircle : MethodName := ⟨RX1, "findCircle", "()I"⟩
abbrev cX1_contract : ByteArray := prog_3_method_7_code
def yX1_contract : MethodName := ⟨RX1, "contract", "(I)V"⟩
abbrev cX1_groupNodes : ByteArray := prog_3_method_8_code
def yX1_groupNodes : MethodName := ⟨RX1, "groupNodes", "(I)I"⟩
abbrev cX1_offer : ByteArray := prog_3_method_9_code
def yX1_offer : MethodName := ⟨RX1, "offer", "(IIJ)V"⟩
def RX2 : String := "ArcLight$Sentence"
def TX2 : u_T := fun k => match k with
  | 0 => ("ArcLight$Sentence", "kinds", "[I", true)
  | 1 => ("ArcLight$Sentence", "rightHeads", "[I", true)
  | 2 => ("ArcLight$Sentence", "marks", "[[I", true)
  | _ => ("ArcLight$Sentence", "last", "I", false)
def tyX2 : Nat → FieldType := fun k => match k with
  | 0 => .array .int
  | 1 => .array .int
  | 2 => .array (.array .int)
  | _ => .int
abbrev wsX20 : List Cond := u_ws RX2 TX2 4
theorem nmX2 : ∀ a, a < 4 → ∀ b, b < 4 → a ≠ b → (TX2 a).2.1 ≠ (TX2 b).2.1 := by decide +kernel
theorem tyX2_ok : ∀ k, k < 4 → parseFieldDescriptor (TX2 k).2.2.1 = some (tyX2 k) := by decide +kernel
abbrev cX2_init : ByteArray := prog_4_method_1_code
def yX2_init : MethodName := ⟨RX2, "<init>", "()V"⟩
abbrev cX2_size : ByteArray := prog_4_method_2_code
def yX2_size : MethodName := ⟨RX2, "size", "()I"⟩
abbrev cX2_append : ByteArray := prog_4_method_3_code
def yX2_append : MethodName := ⟨RX2, "append", "(I)V"⟩
abbrev cX2_kindAt : ByteArray := prog_4_method_4_code
def yX2_kindAt : MethodName := ⟨RX2, "kindAt", "(I)I"⟩
abbrev cX2_byKinds : ByteArray := prog_4_method_5_code
def yX2_byKinds : MethodName := ⟨RX2, "byKinds", "(II)I"⟩
abbrev cX2_markOf : ByteArray := prog_4_method_6_code
def yX2_markOf : MethodName := ⟨RX2, "markOf", "(II)I"⟩
abbrev cX2_changeMark : ByteArray := prog_4_method_7_code
def yX2_changeMark : MethodName := ⟨RX2, "changeMark", "(III)I"⟩
abbrev cX2_forcedHead : ByteArray := prog_4_method_8_code
def yX2_forcedHead : MethodName := ⟨RX2, "forcedHead", "(I)I"⟩
abbrev cX2_allows : ByteArray := prog_4_method_9_code
def yX2_allows : MethodName := ⟨RX2, "allows", "(II)Z"⟩
abbrev cX2_rightHead : ByteArray := prog_4_method_10_code
def yX2_rightHead : MethodName := ⟨RX2, "rightHead", "(I)I"⟩
abbrev cX2_changeRightHead : ByteArray := prog_4_method_11_code
def yX2_changeRightHead : MethodName := ⟨RX2, "changeRightHead", "(II)I"⟩
abbrev cX2_hasRightTree : ByteArray := prog_4_method_12_code
def yX2_hasRightTree : MethodName := ⟨RX2, "hasRightTree", "()Z"⟩
def RX3 : String := "ArcLight$Spans"
def TX3 : u_T := fun k => match k with
  | 0 => ("ArcLight$Spans", "wholeFromLeft", "[[J", true)
  | 1 => ("ArcLight$Spans", "wholeFromRight", "[[J", true)
  | 2 => ("ArcLight$Spans", "openFromLeft", "[[J", true)
  | _ => ("ArcLight$Spans", "openFromRight", "[[J", true)
def tyX3 : Nat → FieldType := fun k => match k with
  | 0 => .array (.array .long)
  | 1 => .array (.array .long)
  | 2 => .array (.array .long)
  | _ => .array (.array .long)
abbrev wsX30 : List Cond := u_ws RX3 TX3 4
theorem nmX3 : ∀ a, a < 4 → ∀ b, b < 4 → a ≠ b → (TX3 a).2.1 ≠ (TX3 b).2.1 := by decide +kernel
theorem tyX3_ok : ∀ k, k < 4 → parseFieldDescriptor (TX3 k).2.2.1 = some (tyX3 k) := by decide +kernel
abbrev cX3_init : ByteArray := prog_5_method_1_code
def yX3_init : MethodName := ⟨RX3, "<init>", "()V"⟩
abbrev cX3_greatest : ByteArray := prog_5_method_2_code
def yX3_greatest : MethodName := ⟨RX3, "greatest", "(LArcLight$ArcKeys;)J"⟩
abbrev cX3_fillOpen : ByteArray := prog_5_method_3_code
def yX3_fillOpen : MethodName := ⟨RX3, "fillOpen", "(LArcLight$ArcKeys;II)V"⟩
abbrev cX3_fillWhole : ByteArray := prog_5_method_4_code
def yX3_fillWhole : MethodName := ⟨RX3, "fillWhole", "(II)V"⟩
abbrev cX3_join : ByteArray := prog_5_method_5_code
def yX3_join : MethodName := ⟨RX3, "join", "(JJ)J"⟩
def RX4 : String := "ArcLight$Trial"
def TX4 : u_T := fun k => match k with
  | 0 => ("ArcLight$Trial", "keys", "[J", true)
  | 1 => ("ArcLight$Trial", "heads", "[I", true)
  | _ => ("ArcLight$Trial", "found", "I", false)
def tyX4 : Nat → FieldType := fun k => match k with
  | 0 => .array .long
  | 1 => .array .int
  | _ => .int
abbrev wsX40 : List Cond := u_ws RX4 TX4 3
theorem nmX4 : ∀ a, a < 3 → ∀ b, b < 3 → a ≠ b → (TX4 a).2.1 ≠ (TX4 b).2.1 := by decide +kernel
theorem tyX4_ok : ∀ k, k < 3 → parseFieldDescriptor (TX4 k).2.2.1 = some (tyX4 k) := by decide +kernel
abbrev cX4_init : ByteArray := prog_6_method_1_code
def yX4_init : MethodName := ⟨RX4, "<init>", "()V"⟩
abbrev cX4_run : ByteArray := prog_6_method_2_code
def yX4_run : MethodName := ⟨RX4, "run", "(LArcLight$ArcKeys;Z)V"⟩
abbrev cX4_size : ByteArray := prog_6_method_3_code
def yX4_size : MethodName := ⟨RX4, "size", "()I"⟩
abbrev cX4_greatest : ByteArray := prog_6_method_4_code
def yX4_greatest : MethodName := ⟨RX4, "greatest", "()J"⟩
abbrev cX4_ofRank : ByteArray := prog_6_method_5_code
def yX4_ofRank : MethodName := ⟨RX4, "ofRank", "(I)J"⟩
abbrev cX4_least : ByteArray := prog_6_method_6_code
def yX4_least : MethodName := ⟨RX4, "least", "(J)J"⟩
abbrev cX4_countAbove : ByteArray := prog_6_method_7_code
def yX4_countAbove : MethodName := ⟨RX4, "countAbove", "(J)I"⟩
abbrev cX4_giveHeads : ByteArray := prog_6_method_8_code
def yX4_giveHeads : MethodName := ⟨RX4, "giveHeads", "(LArcLight$Trial;LArcLight$ArcKeys;ZIJ)V"⟩
abbrev cX4_note : ByteArray := prog_6_method_9_code
def yX4_note : MethodName := ⟨RX4, "note", "(J)V"⟩
abbrev cX4_closesCircle : ByteArray := prog_6_method_10_code
def yX4_closesCircle : MethodName := ⟨RX4, "closesCircle", "(II)Z"⟩
abbrev cX4_crossesEarlier : ByteArray := prog_6_method_11_code
def yX4_crossesEarlier : MethodName := ⟨RX4, "crossesEarlier", "(II)Z"⟩
def RX5 : String := "ArcLight$Weights"
def TX5 : u_T := fun k => match k with
  | 0 => ("ArcLight$Weights", "now", "[I", true)
  | 1 => ("ArcLight$Weights", "sums", "[J", true)
  | 2 => ("ArcLight$Weights", "steps", "I", false)
  | 3 => ("ArcLight$Weights", "oldWeights", "[[I", true)
  | 4 => ("ArcLight$Weights", "oldSums", "[[J", true)
  | 5 => ("ArcLight$Weights", "oldSteps", "[I", true)
  | 6 => ("ArcLight$Weights", "kept", "I", false)
  | _ => ("ArcLight$Weights", "next", "I", false)
def tyX5 : Nat → FieldType := fun k => match k with
  | 0 => .array .int
  | 1 => .array .long
  | 2 => .int
  | 3 => .array (.array .int)
  | 4 => .array (.array .long)
  | 5 => .array .int
  | 6 => .int
  | _ => .int
abbrev wsX50 : List Cond := u_ws RX5 TX5 8
theorem nmX5 : ∀ a, a < 8 → ∀ b, b < 8 → a ≠ b → (TX5 a).2.1 ≠ (TX5 b).2.1 := by decide +kernel
theorem tyX5_ok : ∀ k, k < 8 → parseFieldDescriptor (TX5 k).2.2.1 = some (tyX5 k) := by decide +kernel
abbrev cX5_init : ByteArray := prog_7_method_1_code
def yX5_init : MethodName := ⟨RX5, "<init>", "()V"⟩
abbrev cX5_get : ByteArray := prog_7_method_2_code
def yX5_get : MethodName := ⟨RX5, "get", "(I)I"⟩
abbrev cX5_put : ByteArray := prog_7_method_3_code
def yX5_put : MethodName := ⟨RX5, "put", "(II)V"⟩
abbrev cX5_ofArc : ByteArray := prog_7_method_4_code
def yX5_ofArc : MethodName := ⟨RX5, "ofArc", "(LArcLight$Sentence;II)I"⟩
abbrev cX5_addToArc : ByteArray := prog_7_method_5_code
def yX5_addToArc : MethodName := ⟨RX5, "addToArc", "(LArcLight$Sentence;III)V"⟩
abbrev cX5_endStep : ByteArray := prog_7_method_6_code
def yX5_endStep : MethodName := ⟨RX5, "endStep", "()V"⟩
abbrev cX5_stepCount : ByteArray := prog_7_method_7_code
def yX5_stepCount : MethodName := ⟨RX5, "stepCount", "()I"⟩
abbrev cX5_averageOf : ByteArray := prog_7_method_8_code
def yX5_averageOf : MethodName := ⟨RX5, "averageOf", "(I)D"⟩
abbrev cX5_keptCount : ByteArray := prog_7_method_9_code
def yX5_keptCount : MethodName := ⟨RX5, "keptCount", "()I"⟩
abbrev cX5_keep : ByteArray := prog_7_method_10_code
def yX5_keep : MethodName := ⟨RX5, "keep", "()V"⟩
abbrev cX5_takeBack : ByteArray := prog_7_method_11_code
def yX5_takeBack : MethodName := ⟨RX5, "takeBack", "()V"⟩
abbrev cX5_isFeature : ByteArray := prog_7_method_12_code
def yX5_isFeature : MethodName := ⟨RX5, "isFeature", "(I)Z"⟩
abbrev cX5_isRow : ByteArray := prog_7_method_13_code
def yX5_isRow : MethodName := ⟨RX5, "isRow", "(I)Z"⟩
def RX6 : String := "ArcLight"
def TX6 : u_T := fun k => match k with
  | 0 => ("ArcLight", "all", "[LArcLight$Sentence;", true)
  | 1 => ("ArcLight", "count", "I", false)
  | 2 => ("ArcLight", "weights", "LArcLight$Weights;", true)
  | 3 => ("ArcLight", "arcs", "LArcLight$ArcKeys;", true)
  | 4 => ("ArcLight", "spans", "LArcLight$Spans;", true)
  | 5 => ("ArcLight", "circles", "LArcLight$Circles;", true)
  | _ => ("ArcLight", "trial", "LArcLight$Trial;", true)
def tyX6 : Nat → FieldType := fun k => match k with
  | 0 => .array (.object "ArcLight$Sentence")
  | 1 => .int
  | 2 => .object "ArcLight$Weights"
  | 3 => .object "ArcLight$ArcKeys"
  | 4 => .object "ArcLight$Spans"
  | 5 => .object "ArcLight$Circles"
  | _ => .object "ArcLight$Trial"
abbrev wsX60 : List Cond := u_ws RX6 TX6 7
theorem nmX6 : ∀ a, a < 7 → ∀ b, b < 7 → a ≠ b → (TX6 a).2.1 ≠ (TX6 b).2.1 := by decide +kernel
theorem tyX6_ok : ∀ k, k < 7 → parseFieldDescriptor (TX6 k).2.2.1 = some (tyX6 k) := by decide +kernel
abbrev cX6_init : ByteArray := prog_1_method_1_code
def yX6_init : MethodName := ⟨RX6, "<init>", "()V"⟩
abbrev cX6_addSentence : ByteArray := prog_1_method_2_code
def yX6_addSentence : MethodName := ⟨RX6, "addSentence", "()I"⟩
abbrev cX6_addWord : ByteArray := prog_1_method_3_code
def yX6_addWord : MethodName := ⟨RX6, "addWord", "(II)I"⟩
abbrev cX6_sentences : ByteArray := prog_1_method_4_code
def yX6_sentences : MethodName := ⟨RX6, "sentences", "()I"⟩
abbrev cX6_words : ByteArray := prog_1_method_5_code
def yX6_words : MethodName := ⟨RX6, "words", "(I)I"⟩
abbrev cX6_kind : ByteArray := prog_1_method_6_code
def yX6_kind : MethodName := ⟨RX6, "kind", "(II)I"⟩
abbrev cX6_setWeight : ByteArray := prog_1_method_7_code
def yX6_setWeight : MethodName := ⟨RX6, "setWeight", "(II)I"⟩
abbrev cX6_weight : ByteArray := prog_1_method_8_code
def yX6_weight : MethodName := ⟨RX6, "weight", "(I)I"⟩
abbrev cX6_feature : ByteArray := prog_1_method_9_code
def yX6_feature : MethodName := ⟨RX6, "feature", "(IIIZ)I"⟩
abbrev cX6_score : ByteArray := prog_1_method_10_code
def yX6_score : MethodName := ⟨RX6, "score", "(III)I"⟩
abbrev cX6_mark : ByteArray := prog_1_method_11_code
def yX6_mark : MethodName := ⟨RX6, "mark", "(IIII)I"⟩
abbrev cX6_trees : ByteArray := prog_1_method_12_code
def yX6_trees : MethodName := ⟨RX6, "trees", "(IZ)I"⟩
abbrev cX6_best : ByteArray := prog_1_method_13_code
def yX6_best : MethodName := ⟨RX6, "best", "(IZ)I"⟩
abbrev cX6_bestByTrying : ByteArray := prog_1_method_14_code
def yX6_bestByTrying : MethodName := ⟨RX6, "bestByTrying", "(IZ)I"⟩
abbrev cX6_head : ByteArray := prog_1_method_15_code
def yX6_head : MethodName := ⟨RX6, "head", "(IZI)I"⟩
abbrev cX6_crossings : ByteArray := prog_1_method_16_code
def yX6_crossings : MethodName := ⟨RX6, "crossings", "(I)I"⟩
abbrev cX6_ranked : ByteArray := prog_1_method_17_code
def yX6_ranked : MethodName := ⟨RX6, "ranked", "(IZI)I"⟩
abbrev cX6_rankedHead : ByteArray := prog_1_method_18_code
def yX6_rankedHead : MethodName := ⟨RX6, "rankedHead", "(IZII)I"⟩
abbrev cX6_correct : ByteArray := prog_1_method_19_code
def yX6_correct : MethodName := ⟨RX6, "correct", "(III)I"⟩
abbrev cX6_matched : ByteArray := prog_1_method_20_code
def yX6_matched : MethodName := ⟨RX6, "matched", "(I)I"⟩
abbrev cX6_mend : ByteArray := prog_1_method_21_code
def yX6_mend : MethodName := ⟨RX6, "mend", "(I)I"⟩
abbrev cX6_steps : ByteArray := prog_1_method_22_code
def yX6_steps : MethodName := ⟨RX6, "steps", "()I"⟩
abbrev cX6_average : ByteArray := prog_1_method_23_code
def yX6_average : MethodName := ⟨RX6, "average", "(I)D"⟩
abbrev cX6_rollBack : ByteArray := prog_1_method_24_code
def yX6_rollBack : MethodName := ⟨RX6, "rollBack", "()I"⟩
abbrev cX6_find : ByteArray := prog_1_method_25_code
def yX6_find : MethodName := ⟨RX6, "find", "(I)LArcLight$Sentence;"⟩
abbrev cX6_checkWord : ByteArray := prog_1_method_26_code
def yX6_checkWord : MethodName := ⟨RX6, "checkWord", "(LArcLight$Sentence;I)V"⟩
abbrev cX6_checkArc : ByteArray := prog_1_method_27_code
def yX6_checkArc : MethodName := ⟨RX6, "checkArc", "(LArcLight$Sentence;II)V"⟩
abbrev cX6_checkFeature : ByteArray := prog_1_method_28_code
def yX6_checkFeature : MethodName := ⟨RX6, "checkFeature", "(I)V"⟩
abbrev cX6_checkTree : ByteArray := prog_1_method_29_code
def yX6_checkTree : MethodName := ⟨RX6, "checkTree", "(J)V"⟩
abbrev cX6_tryAll : ByteArray := prog_1_method_30_code
def yX6_tryAll : MethodName := ⟨RX6, "tryAll", "(LArcLight$Sentence;Z)LArcLight$Trial;"⟩
abbrev cX6_bestKey : ByteArray := prog_1_method_31_code
def yX6_bestKey : MethodName := ⟨RX6, "bestKey", "(LArcLight$Sentence;Z)J"⟩
abbrev cX6_rankedKey : ByteArray := prog_1_method_32_code
def yX6_rankedKey : MethodName := ⟨RX6, "rankedKey", "(LArcLight$Sentence;ZI)J"⟩
abbrev cX6_rowOfHeads : ByteArray := prog_1_method_33_code
def yX6_rowOfHeads : MethodName := ⟨RX6, "rowOfHeads", "(J)J"⟩
abbrev cX6_scoreIn : ByteArray := prog_1_method_34_code
def yX6_scoreIn : MethodName := ⟨RX6, "scoreIn", "(J)I"⟩
abbrev cX6_headIn : ByteArray := prog_1_method_35_code
def yX6_headIn : MethodName := ⟨RX6, "headIn", "(JI)I"⟩
abbrev cX6_byDistance : ByteArray := prog_1_method_36_code
def yX6_byDistance : MethodName := ⟨RX6, "byDistance", "(II)I"⟩
abbrev cX6_doCross : ByteArray := prog_1_method_37_code
def yX6_doCross : MethodName := ⟨RX6, "doCross", "(IIII)Z"⟩
abbrev cX6_isPlace : ByteArray := prog_1_method_38_code
def yX6_isPlace : MethodName := ⟨RX6, "isPlace", "(I)Z"⟩
def RX7 : String := "ArcLightModel"
def TX7 : u_T := fun k => match k with
  | 0 => ("ArcLightModel", "sentences", "I", false)
  | 1 => ("ArcLightModel", "words", "[I", true)
  | 2 => ("ArcLightModel", "kind", "[I", true)
  | 3 => ("ArcLightModel", "mark", "[I", true)
  | 4 => ("ArcLightModel", "right", "[I", true)
  | 5 => ("ArcLightModel", "weight", "[I", true)
  | 6 => ("ArcLightModel", "sum", "[J", true)
  | 7 => ("ArcLightModel", "steps", "I", false)
  | 8 => ("ArcLightModel", "back", "I", false)
  | 9 => ("ArcLightModel", "first", "I", false)
  | 10 => ("ArcLightModel", "was", "[I", true)
  | 11 => ("ArcLightModel", "weights", "[I", true)
  | 12 => ("ArcLightModel", "tree", "[J", true)
  | 13 => ("ArcLightModel", "listed", "I", false)
  | 14 => ("ArcLightModel", "many", "I", false)
  | 15 => ("ArcLightModel", "bestKey", "[J", true)
  | 16 => ("ArcLightModel", "count", "[I", true)
  | 17 => ("ArcLightModel", "isFound", "[Z", true)
  | 18 => ("ArcLightModel", "head", "[I", true)
  | _ => ("ArcLightModel", "thrown", "I", false)
def tyX7 : Nat → FieldType := fun k => match k with
  | 0 => .int
  | 1 => .array .int
  | 2 => .array .int
  | 3 => .array .int
  | 4 => .array .int
  | 5 => .array .int
  | 6 => .array .long
  | 7 => .int
  | 8 => .int
  | 9 => .int
  | 10 => .array .int
  | 11 => .array .int
  | 12 => .array .long
  | 13 => .int
  | 14 => .int
  | 15 => .array .long
  | 16 => .array .int
  | 17 => .array .boolean
  | 18 => .array .int
  | _ => .int
abbrev wsX70 : List Cond := u_ws RX7 TX7 20
theorem nmX7 : ∀ a, a < 20 → ∀ b, b < 20 → a ≠ b → (TX7 a).2.1 ≠ (TX7 b).2.1 := by decide +kernel
theorem tyX7_ok : ∀ k, k < 20 → parseFieldDescriptor (TX7 k).2.2.1 = some (tyX7 k) := by decide +kernel
abbrev cX7_init : ByteArray := prog_9_method_1_code
def yX7_init : MethodName := ⟨RX7, "<init>", "()V"⟩
abbrev cX7_thrown : ByteArray := prog_9_method_2_code
def yX7_thrown : MethodName := ⟨RX7, "thrown", "()I"⟩
abbrev cX7_fails : ByteArray := prog_9_method_3_code
def yX7_fails : MethodName := ⟨RX7, "fails", "(I)I"⟩
abbrev cX7_asks : ByteArray := prog_9_method_4_code
def yX7_asks : MethodName := ⟨RX7, "asks", "(Z)Z"⟩
abbrev cX7_changed : ByteArray := prog_9_method_5_code
def yX7_changed : MethodName := ⟨RX7, "changed", "()V"⟩
abbrev cX7_isSentence : ByteArray := prog_9_method_6_code
def yX7_isSentence : MethodName := ⟨RX7, "isSentence", "(I)Z"⟩
abbrev cX7_isWord : ByteArray := prog_9_method_7_code
def yX7_isWord : MethodName := ⟨RX7, "isWord", "(II)Z"⟩
abbrev cX7_isPlace : ByteArray := prog_9_method_8_code
def yX7_isPlace : MethodName := ⟨RX7, "isPlace", "(II)Z"⟩
abbrev cX7_addSentence : ByteArray := prog_9_method_9_code
def yX7_addSentence : MethodName := ⟨RX7, "addSentence", "()I"⟩
abbrev cX7_addWord : ByteArray := prog_9_method_10_code
def yX7_addWord : MethodName := ⟨RX7, "addWord", "(II)I"⟩
abbrev cX7_sentences : ByteArray := prog_9_method_11_code
def yX7_sentences : MethodName := ⟨RX7, "sentences", "()I"⟩
abbrev cX7_words : ByteArray := prog_9_method_12_code
def yX7_words : MethodName := ⟨RX7, "words", "(I)I"⟩
abbrev cX7_kind : ByteArray := prog_9_method_13_code
def yX7_kind : MethodName := ⟨RX7, "kind", "(II)I"⟩
abbrev cX7_remembers : ByteArray := prog_9_method_14_code
def yX7_remembers : MethodName := ⟨RX7, "remembers", "(I)V"⟩
abbrev cX7_setWeight : ByteArray := prog_9_method_15_code
def yX7_setWeight : MethodName := ⟨RX7, "setWeight", "(II)I"⟩
abbrev cX7_weight : ByteArray := prog_9_method_16_code
def yX7_weight : MethodName := ⟨RX7, "weight", "(I)I"⟩
abbrev cX7_byKind : ByteArray := prog_9_method_17_code
def yX7_byKind : MethodName := ⟨RX7, "byKind", "(III)I"⟩
abbrev cX7_byDistance : ByteArray := prog_9_method_18_code
def yX7_byDistance : MethodName := ⟨RX7, "byDistance", "(II)I"⟩
abbrev cX7_scoreOf : ByteArray := prog_9_method_19_code
def yX7_scoreOf : MethodName := ⟨RX7, "scoreOf", "(III)I"⟩
abbrev cX7_asksArc : ByteArray := prog_9_method_20_code
def yX7_asksArc : MethodName := ⟨RX7, "asksArc", "(III)Z"⟩
abbrev cX7_feature : ByteArray := prog_9_method_21_code
def yX7_feature : MethodName := ⟨RX7, "feature", "(IIIZ)I"⟩
abbrev cX7_score : ByteArray := prog_9_method_22_code
def yX7_score : MethodName := ⟨RX7, "score", "(III)I"⟩
abbrev cX7_arc : ByteArray := prog_9_method_23_code
def yX7_arc : MethodName := ⟨RX7, "arc", "(III)I"⟩
abbrev cX7_mark : ByteArray := prog_9_method_24_code
def yX7_mark : MethodName := ⟨RX7, "mark", "(IIII)I"⟩
abbrev cX7_isBetween : ByteArray := prog_9_method_25_code
def yX7_isBetween : MethodName := ⟨RX7, "isBetween", "(III)Z"⟩
abbrev cX7_isBeyond : ByteArray := prog_9_method_26_code
def yX7_isBeyond : MethodName := ⟨RX7, "isBeyond", "(III)Z"⟩
abbrev cX7_doCross : ByteArray := prog_9_method_27_code
def yX7_doCross : MethodName := ⟨RX7, "doCross", "(II)Z"⟩
abbrev cX7_may : ByteArray := prog_9_method_28_code
def yX7_may : MethodName := ⟨RX7, "may", "(IIZ)Z"⟩
abbrev cX7_keyOf : ByteArray := prog_9_method_29_code
def yX7_keyOf : MethodName := ⟨RX7, "keyOf", "(I)J"⟩
abbrev cX7_walks : ByteArray := prog_9_method_30_code
def yX7_walks : MethodName := ⟨RX7, "walks", "(IZZ)V"⟩
abbrev cX7_finds : ByteArray := prog_9_method_31_code
def yX7_finds : MethodName := ⟨RX7, "finds", "(IZ)I"⟩
abbrev cX7_sinks : ByteArray := prog_9_method_32_code
def yX7_sinks : MethodName := ⟨RX7, "sinks", "(II)V"⟩
abbrev cX7_lists : ByteArray := prog_9_method_33_code
def yX7_lists : MethodName := ⟨RX7, "lists", "(IZ)V"⟩
abbrev cX7_scoreIn : ByteArray := prog_9_method_34_code
def yX7_scoreIn : MethodName := ⟨RX7, "scoreIn", "(J)I"⟩
abbrev cX7_headIn : ByteArray := prog_9_method_35_code
def yX7_headIn : MethodName := ⟨RX7, "headIn", "(IJI)I"⟩
abbrev cX7_trees : ByteArray := prog_9_method_36_code
def yX7_trees : MethodName := ⟨RX7, "trees", "(IZ)I"⟩
abbrev cX7_asksTree : ByteArray := prog_9_method_37_code
def yX7_asksTree : MethodName := ⟨RX7, "asksTree", "(IZ)Z"⟩
abbrev cX7_best : ByteArray := prog_9_method_38_code
def yX7_best : MethodName := ⟨RX7, "best", "(IZ)I"⟩
abbrev cX7_bestByTrying : ByteArray := prog_9_method_39_code
def yX7_bestByTrying : MethodName := ⟨RX7, "bestByTrying", "(IZ)I"⟩
abbrev cX7_head : ByteArray := prog_9_method_40_code
def yX7_head : MethodName := ⟨RX7, "head", "(IZI)I"⟩
abbrev cX7_crossings : ByteArray := prog_9_method_41_code
def yX7_crossings : MethodName := ⟨RX7, "crossings", "(I)I"⟩
abbrev cX7_asksRank : ByteArray := prog_9_method_42_code
def yX7_asksRank : MethodName := ⟨RX7, "asksRank", "(IZIZ)Z"⟩
abbrev cX7_ranked : ByteArray := prog_9_method_43_code
def yX7_ranked : MethodName := ⟨RX7, "ranked", "(IZI)I"⟩
abbrev cX7_rankedHead : ByteArray := prog_9_method_44_code
def yX7_rankedHead : MethodName := ⟨RX7, "rankedHead", "(IZII)I"⟩
abbrev cX7_correct : ByteArray := prog_9_method_45_code
def yX7_correct : MethodName := ⟨RX7, "correct", "(III)I"⟩
abbrev cX7_matched : ByteArray := prog_9_method_46_code
def yX7_matched : MethodName := ⟨RX7, "matched", "(I)I"⟩
abbrev cX7_isRight : ByteArray := prog_9_method_47_code
def yX7_isRight : MethodName := ⟨RX7, "isRight", "(I)Z"⟩
abbrev cX7_adds : ByteArray := prog_9_method_48_code
def yX7_adds : MethodName := ⟨RX7, "adds", "(IIII)V"⟩
abbrev cX7_mend : ByteArray := prog_9_method_49_code
def yX7_mend : MethodName := ⟨RX7, "mend", "(I)I"⟩
abbrev cX7_steps : ByteArray := prog_9_method_50_code
def yX7_steps : MethodName := ⟨RX7, "steps", "()I"⟩
abbrev cX7_average : ByteArray := prog_9_method_51_code
def yX7_average : MethodName := ⟨RX7, "average", "(I)D"⟩
abbrev cX7_rollBack : ByteArray := prog_9_method_52_code
def yX7_rollBack : MethodName := ⟨RX7, "rollBack", "()I"⟩
def RJx145de : String := "java/io/Serializable"
def TJx145de : u_T := fun k => match k with
  | _ => ("", "", "", false)
def tyJx145de : Nat → FieldType := fun k => match k with
  | _ => .int
abbrev wsJx145de0 : List Cond := u_ws RJx145de TJx145de 0
theorem nmJx145de : ∀ a, a < 0 → ∀ b, b < 0 → a ≠ b → (TJx145de a).2.1 ≠ (TJx145de b).2.1 := by decide +kernel
theorem tyJx145de_ok : ∀ k, k < 0 → parseFieldDescriptor (TJx145de k).2.2.1 = some (tyJx145de k) := by decide +kernel
def RJ9 : String := "java/lang/Math"
def TJ9 : u_T := fun k => match k with
  | _ => ("", "", "", false)
def tyJ9 : Nat → FieldType := fun k => match k with
  | _ => .int
abbrev wsJ90 : List Cond := u_ws RJ9 TJ9 0
theorem nmJ9 : ∀ a, a < 0 → ∀ b, b < 0 → a ≠ b → (TJ9 a).2.1 ≠ (TJ9 b).2.1 := by decide +kernel
theorem tyJ9_ok : ∀ k, k < 0 → parseFieldDescriptor (TJ9 k).2.2.1 = some (tyJ9 k) := by decide +kernel
abbrev cJ9_floorMod_f86c9 : ByteArray := prog_14_method_52_code
def yJ9_floorMod_f86c9 : MethodName := ⟨RJ9, "floorMod", "(JJ)J"⟩
abbrev cJ9_abs_0f7a4 : ByteArray := prog_14_method_59_code
def yJ9_abs_0f7a4 : MethodName := ⟨RJ9, "abs", "(I)I"⟩
abbrev cJ9_max_7cf53 : ByteArray := prog_14_method_65_code
def yJ9_max_7cf53 : MethodName := ⟨RJ9, "max", "(II)I"⟩
abbrev cJ9_max_f86c9 : ByteArray := prog_14_method_66_code
def yJ9_max_f86c9 : MethodName := ⟨RJ9, "max", "(JJ)J"⟩
abbrev cJ9_min_7cf53 : ByteArray := prog_14_method_69_code
def yJ9_min_7cf53 : MethodName := ⟨RJ9, "min", "(II)I"⟩
abbrev cJ9_min_f86c9 : ByteArray := prog_14_method_70_code
def yJ9_min_f86c9 : MethodName := ⟨RJ9, "min", "(JJ)J"⟩
def RJ0 : String := "java/lang/String"
def TJ0 : u_T := fun k => match k with
  | _ => ("", "", "", false)
def tyJ0 : Nat → FieldType := fun k => match k with
  | _ => .int
abbrev wsJ00 : List Cond := u_ws RJ0 TJ0 0
theorem nmJ0 : ∀ a, a < 0 → ∀ b, b < 0 → a ≠ b → (TJ0 a).2.1 ≠ (TJ0 b).2.1 := by decide +kernel
theorem tyJ0_ok : ∀ k, k < 0 → parseFieldDescriptor (TJ0 k).2.2.1 = some (tyJ0 k) := by decide +kernel
def RJ10 : String := "java/lang/System"
def TJ10 : u_T := fun k => match k with
  | _ => ("", "", "", false)
def tyJ10 : Nat → FieldType := fun k => match k with
  | _ => .int
abbrev wsJ100 : List Cond := u_ws RJ10 TJ10 0
theorem nmJ10 : ∀ a, a < 0 → ∀ b, b < 0 → a ≠ b → (TJ10 a).2.1 ≠ (TJ10 b).2.1 := by decide +kernel
theorem tyJ10_ok : ∀ k, k < 0 → parseFieldDescriptor (TJ10 k).2.2.1 = some (tyJ10 k) := by decide +kernel
def RJ7 : String := "java/util/Arrays"
def TJ7 : u_T := fun k => match k with
  | _ => ("", "", "", false)
def tyJ7 : Nat → FieldType := fun k => match k with
  | _ => .int
abbrev wsJ70 : List Cond := u_ws RJ7 TJ7 0
theorem nmJ7 : ∀ a, a < 0 → ∀ b, b < 0 → a ≠ b → (TJ7 a).2.1 ≠ (TJ7 b).2.1 := by decide +kernel
theorem tyJ7_ok : ∀ k, k < 0 → parseFieldDescriptor (TJ7 k).2.2.1 = some (tyJ7 k) := by decide +kernel
abbrev cJ7_fill_d0a16 : ByteArray := prog_19_method_101_code
def yJ7_fill_d0a16 : MethodName := ⟨RJ7, "fill", "([JJ)V"⟩
abbrev cJ7_fill_53178 : ByteArray := prog_19_method_103_code
def yJ7_fill_53178 : MethodName := ⟨RJ7, "fill", "([II)V"⟩
def wsX0_init : List Cond := .code yX0_init cX0_init 1 none :: ([.methodLink RX0 3 objectInit, .instanceMethod objectInit, .code objectInit ⟨#[0xb1]⟩ 1 none, .classLink RX0 9 "[[J", .arrayClass .long, .fieldLink RX0 11 "ArcLight$ArcKeys" "keys" "[[J", .fieldLink RX0 16 "ArcLight$ArcKeys" "last" "I"] ++ wsX00)
def wsX2_size : List Cond := .code yX2_size cX2_size 1 (some .int) :: ([.fieldLink RX2 23 "ArcLight$Sentence" "last" "I"] ++ wsX20)
def wsX6_isPlace : List Cond := .code yX6_isPlace cX6_isPlace 1 (some .boolean) :: ([])
def wsX2_markOf : List Cond := .code yX2_markOf cX2_markOf 3 (some .int) :: ([.fieldLink RX2 20 "ArcLight$Sentence" "marks" "[[I", .static yX6_isPlace, .initialized RX6, .code yX6_isPlace cX6_isPlace 1 (some .boolean)] ++ wsX20)
def wsX2_forcedHead : List Cond := .code yX2_forcedHead cX2_forcedHead 3 (some .int) :: ([.fieldLink RX2 23 "ArcLight$Sentence" "last" "I", .methodLink RX2 41 yX2_markOf, .instanceMethod yX2_markOf, .selects RX2 yX2_markOf yX2_markOf, .initialized RX2, .code yX2_markOf cX2_markOf 3 (some .int), .fieldLink RX2 20 "ArcLight$Sentence" "marks" "[[I", .static yX6_isPlace, .initialized RX6, .code yX6_isPlace cX6_isPlace 1 (some .boolean)] ++ wsX20)
def wsX2_allows : List Cond := .code yX2_allows cX2_allows 4 (some .boolean) :: ([.methodLink RX2 41 yX2_markOf, .instanceMethod yX2_markOf, .selects RX2 yX2_markOf yX2_markOf, .initialized RX2, .code yX2_markOf cX2_markOf 3 (some .int), .fieldLink RX2 20 "ArcLight$Sentence" "marks" "[[I", .static yX6_isPlace, .initialized RX6, .code yX6_isPlace cX6_isPlace 1 (some .boolean), .methodLink RX2 45 yX2_forcedHead, .instanceMethod yX2_forcedHead, .selects RX2 yX2_forcedHead yX2_forcedHead, .code yX2_forcedHead cX2_forcedHead 3 (some .int), .fieldLink RX2 23 "ArcLight$Sentence" "last" "I"] ++ wsX20)
def wsX2_kindAt : List Cond := .code yX2_kindAt cX2_kindAt 2 (some .int) :: ([.fieldLink RX2 9 "ArcLight$Sentence" "kinds" "[I", .static yX6_isPlace, .initialized RX6, .code yX6_isPlace cX6_isPlace 1 (some .boolean)] ++ wsX20)
def wsX2_byKinds : List Cond := .code yX2_byKinds cX2_byKinds 3 (some .int) :: ([.methodLink RX2 37 yX2_kindAt, .instanceMethod yX2_kindAt, .selects RX2 yX2_kindAt yX2_kindAt, .initialized RX2, .code yX2_kindAt cX2_kindAt 2 (some .int), .fieldLink RX2 9 "ArcLight$Sentence" "kinds" "[I", .static yX6_isPlace, .initialized RX6, .code yX6_isPlace cX6_isPlace 1 (some .boolean)] ++ wsX20)
def wsX5_isFeature : List Cond := .code yX5_isFeature cX5_isFeature 1 (some .boolean) :: ([])
def wsX5_get : List Cond := .code yX5_get cX5_get 2 (some .int) :: ([.fieldLink RX5 9 "ArcLight$Weights" "now" "[I", .methodLink RX5 42 yX5_isFeature, .static yX5_isFeature, .initialized RX5, .code yX5_isFeature cX5_isFeature 1 (some .boolean)] ++ wsX50)
def wsX6_byDistance : List Cond := .code yX6_byDistance cX6_byDistance 3 (some .int) :: ([.methodLink RX6 246 Lib.Math.abs.name, .static Lib.Math.abs.name, .initialized "java/lang/Math", .code Lib.Math.abs.name Lib.Math.abs.code 1 (some .int), .methodLink RX6 249 Lib.Math.min.name, .static Lib.Math.min.name, .code Lib.Math.min.name Lib.Math.min.code 2 (some .int)])
def wsX5_ofArc_r1 : List Cond := [Cond.methodLink RX5 46 yX2_byKinds, Cond.instanceMethod yX2_byKinds, Cond.selects RX2 yX2_byKinds yX2_byKinds, Cond.initialized RX2, Cond.code yX2_byKinds cX2_byKinds 3 (some .int), Cond.methodLink RX2 37 yX2_kindAt, Cond.instanceMethod yX2_kindAt, Cond.selects RX2 yX2_kindAt yX2_kindAt, Cond.code yX2_kindAt cX2_kindAt 2 (some .int), Cond.fieldLink RX2 9 "ArcLight$Sentence" "kinds" "[I", Cond.static yX6_isPlace, Cond.initialized RX6, Cond.code yX6_isPlace cX6_isPlace 1 (some .boolean), Cond.methodLink RX5 52 yX5_get, Cond.instanceMethod yX5_get, Cond.selects RX5 yX5_get yX5_get, Cond.initialized RX5, Cond.code yX5_get cX5_get 2 (some .int), Cond.fieldLink RX5 9 "ArcLight$Weights" "now" "[I", Cond.methodLink RX5 42 yX5_isFeature, Cond.static yX5_isFeature, Cond.code yX5_isFeature cX5_isFeature 1 (some .boolean), Cond.static yX6_byDistance, Cond.code yX6_byDistance cX6_byDistance 3 (some .int)]
def wsX5_ofArc_r2 : List Cond := [Cond.methodLink RX6 246 Lib.Math.abs.name, Cond.static Lib.Math.abs.name, Cond.initialized "java/lang/Math", Cond.code Lib.Math.abs.name Lib.Math.abs.code 1 (some .int), Cond.methodLink RX6 249 Lib.Math.min.name, Cond.static Lib.Math.min.name, Cond.code Lib.Math.min.name Lib.Math.min.code 2 (some .int)]
def wsX5_ofArc : List Cond := .code yX5_ofArc cX5_ofArc 4 (some .int) :: ((wsX5_ofArc_r1 ++ wsX5_ofArc_r2) ++ wsX20 ++ wsX50)
def wsX0_fill_r1 : List Cond := [Cond.methodLink RX0 26 Lib.Math.min.name, Cond.static Lib.Math.min.name, Cond.initialized "java/lang/Math", Cond.code Lib.Math.min.name Lib.Math.min.code 2 (some .int), Cond.fieldLink RX0 16 "ArcLight$ArcKeys" "last" "I", Cond.fieldLink RX0 11 "ArcLight$ArcKeys" "keys" "[[J", Cond.constantLong RX0 32 (-9223372036854775808), Cond.constantLong RX0 44 (117649), Cond.methodLink RX0 20 yX2_size, Cond.instanceMethod yX2_size, Cond.selects RX2 yX2_size yX2_size, Cond.initialized RX2, Cond.code yX2_size cX2_size 1 (some .int), Cond.fieldLink RX2 23 "ArcLight$Sentence" "last" "I", Cond.methodLink RX0 34 yX2_allows, Cond.instanceMethod yX2_allows, Cond.selects RX2 yX2_allows yX2_allows, Cond.code yX2_allows cX2_allows 4 (some .boolean), Cond.methodLink RX2 41 yX2_markOf, Cond.instanceMethod yX2_markOf, Cond.selects RX2 yX2_markOf yX2_markOf, Cond.code yX2_markOf cX2_markOf 3 (some .int), Cond.fieldLink RX2 20 "ArcLight$Sentence" "marks" "[[I", Cond.static yX6_isPlace]
def wsX0_fill_r2 : List Cond := [Cond.initialized RX6, Cond.code yX6_isPlace cX6_isPlace 1 (some .boolean), Cond.methodLink RX2 45 yX2_forcedHead, Cond.instanceMethod yX2_forcedHead, Cond.selects RX2 yX2_forcedHead yX2_forcedHead, Cond.code yX2_forcedHead cX2_forcedHead 3 (some .int), Cond.methodLink RX0 38 yX5_ofArc, Cond.instanceMethod yX5_ofArc, Cond.selects RX5 yX5_ofArc yX5_ofArc, Cond.initialized RX5, Cond.code yX5_ofArc cX5_ofArc 4 (some .int), Cond.methodLink RX5 46 yX2_byKinds, Cond.instanceMethod yX2_byKinds, Cond.selects RX2 yX2_byKinds yX2_byKinds, Cond.code yX2_byKinds cX2_byKinds 3 (some .int), Cond.methodLink RX2 37 yX2_kindAt, Cond.instanceMethod yX2_kindAt, Cond.selects RX2 yX2_kindAt yX2_kindAt, Cond.code yX2_kindAt cX2_kindAt 2 (some .int), Cond.fieldLink RX2 9 "ArcLight$Sentence" "kinds" "[I", Cond.methodLink RX5 52 yX5_get, Cond.instanceMethod yX5_get, Cond.selects RX5 yX5_get yX5_get, Cond.code yX5_get cX5_get 2 (some .int)]
def wsX0_fill_r3 : List Cond := [Cond.fieldLink RX5 9 "ArcLight$Weights" "now" "[I", Cond.methodLink RX5 42 yX5_isFeature, Cond.static yX5_isFeature, Cond.code yX5_isFeature cX5_isFeature 1 (some .boolean), Cond.static yX6_byDistance, Cond.code yX6_byDistance cX6_byDistance 3 (some .int), Cond.methodLink RX6 246 Lib.Math.abs.name, Cond.static Lib.Math.abs.name, Cond.code Lib.Math.abs.name Lib.Math.abs.code 1 (some .int), Cond.methodLink RX6 249 Lib.Math.min.name]
def wsX0_fill : List Cond := .code yX0_fill cX0_fill 5 none :: ((wsX0_fill_r1 ++ (wsX0_fill_r2 ++ wsX0_fill_r3)) ++ wsX00 ++ wsX20 ++ wsX50)
def wsX0_size : List Cond := .code yX0_size cX0_size 1 (some .int) :: ([.fieldLink RX0 16 "ArcLight$ArcKeys" "last" "I"] ++ wsX00)
def wsX0_get : List Cond := .code yX0_get cX0_get 3 (some .long) :: ([.fieldLink RX0 11 "ArcLight$ArcKeys" "keys" "[[J", .constantLong RX0 32 (-9223372036854775808), .static yX6_isPlace, .initialized RX6, .code yX6_isPlace cX6_isPlace 1 (some .boolean)] ++ wsX00)
def wsX1_init : List Cond := .code yX1_init cX1_init 1 none :: ([.methodLink RX1 3 objectInit, .instanceMethod objectInit, .code objectInit ⟨#[0xb1]⟩ 1 none, .classLink RX1 9 "[[J", .arrayClass .long, .fieldLink RX1 11 "ArcLight$Circles" "keys" "[[J", .fieldLink RX1 16 "ArcLight$Circles" "contracted" "[[J", .arrayClass .int, .fieldLink RX1 19 "ArcLight$Circles" "taken" "[I", .fieldLink RX1 23 "ArcLight$Circles" "groups" "[I", .fieldLink RX1 26 "ArcLight$Circles" "nodes" "I"] ++ wsX10)
def wsX1_takenHead : List Cond := .code yX1_takenHead cX1_takenHead 2 (some .int) :: ([.fieldLink RX1 26 "ArcLight$Circles" "nodes" "I", .fieldLink RX1 19 "ArcLight$Circles" "taken" "[I"] ++ wsX10)
def wsX1_takenKey : List Cond := .code yX1_takenKey cX1_takenKey 3 (some .long) :: ([.fieldLink RX1 11 "ArcLight$Circles" "keys" "[[J", .constantLong RX1 50 (-9223372036854775808), .methodLink RX1 63 yX1_takenHead, .instanceMethod yX1_takenHead, .selects RX1 yX1_takenHead yX1_takenHead, .initialized RX1, .code yX1_takenHead cX1_takenHead 2 (some .int), .fieldLink RX1 26 "ArcLight$Circles" "nodes" "I", .fieldLink RX1 19 "ArcLight$Circles" "taken" "[I", .static yX6_isPlace, .initialized RX6, .code yX6_isPlace cX6_isPlace 1 (some .boolean)] ++ wsX10)
def wsX1_takeGreatest : List Cond := .code yX1_takeGreatest cX1_takeGreatest 5 (some .long) :: ([.fieldLink RX1 26 "ArcLight$Circles" "nodes" "I", .fieldLink RX1 19 "ArcLight$Circles" "taken" "[I", .fieldLink RX1 11 "ArcLight$Circles" "keys" "[[J", .constantLong RX1 50 (-9223372036854775808), .methodLink RX1 59 yX1_takenKey, .instanceMethod yX1_takenKey, .selects RX1 yX1_takenKey yX1_takenKey, .initialized RX1, .code yX1_takenKey cX1_takenKey 3 (some .long), .methodLink RX1 63 yX1_takenHead, .instanceMethod yX1_takenHead, .selects RX1 yX1_takenHead yX1_takenHead, .code yX1_takenHead cX1_takenHead 2 (some .int), .static yX6_isPlace, .initialized RX6, .code yX6_isPlace cX6_isPlace 1 (some .boolean)] ++ wsX10)
def wsX1_findCircle : List Cond := .code yX1_findCircle cX1_findCircle 4 (some .int) :: ([.fieldLink RX1 26 "ArcLight$Circles" "nodes" "I", .methodLink RX1 63 yX1_takenHead, .instanceMethod yX1_takenHead, .selects RX1 yX1_takenHead yX1_takenHead, .initialized RX1, .code yX1_takenHead cX1_takenHead 2 (some .int), .fieldLink RX1 19 "ArcLight$Circles" "taken" "[I"] ++ wsX10)
def wsJ7_fill_53178 : List Cond := .code yJ7_fill_53178 cJ7_fill_53178 4 none :: ([])
def wsX1_groupNodes : List Cond := .code yX1_groupNodes cX1_groupNodes 5 (some .int) :: ([.fieldLink RX1 23 "ArcLight$Circles" "groups" "[I", .fieldLink RX1 26 "ArcLight$Circles" "nodes" "I", .methodLink RX1 36 Lib.Math.min.name, .static Lib.Math.min.name, .initialized "java/lang/Math", .code Lib.Math.min.name Lib.Math.min.code 2 (some .int), .methodLink RX1 84 yJ7_fill_53178, .static yJ7_fill_53178, .initialized RJ7, .code yJ7_fill_53178 cJ7_fill_53178 4 none, .static yX6_isPlace, .initialized RX6, .code yX6_isPlace cX6_isPlace 1 (some .boolean), .methodLink RX1 63 yX1_takenHead, .instanceMethod yX1_takenHead, .selects RX1 yX1_takenHead yX1_takenHead, .initialized RX1, .code yX1_takenHead cX1_takenHead 2 (some .int), .fieldLink RX1 19 "ArcLight$Circles" "taken" "[I"] ++ wsX10)
def wsJ7_fill_d0a16 : List Cond := .code yJ7_fill_d0a16 cJ7_fill_d0a16 5 none :: ([])
def wsX1_offer : List Cond := .code yX1_offer cX1_offer 5 none :: ([.fieldLink RX1 16 "ArcLight$Circles" "contracted" "[[J", .static yX6_isPlace, .initialized RX6, .code yX6_isPlace cX6_isPlace 1 (some .boolean)] ++ wsX10)
def wsX1_contract_r1 : List Cond := [Cond.fieldLink RX1 16 "ArcLight$Circles" "contracted" "[[J", Cond.constantLong RX1 50 (-9223372036854775808), Cond.fieldLink RX1 26 "ArcLight$Circles" "nodes" "I", Cond.fieldLink RX1 11 "ArcLight$Circles" "keys" "[[J", Cond.fieldLink RX1 23 "ArcLight$Circles" "groups" "[I", Cond.methodLink RX1 71 yX1_groupNodes, Cond.instanceMethod yX1_groupNodes, Cond.selects RX1 yX1_groupNodes yX1_groupNodes, Cond.initialized RX1, Cond.code yX1_groupNodes cX1_groupNodes 5 (some .int), Cond.methodLink RX1 36 Lib.Math.min.name, Cond.static Lib.Math.min.name, Cond.initialized "java/lang/Math", Cond.code Lib.Math.min.name Lib.Math.min.code 2 (some .int), Cond.methodLink RX1 84 yJ7_fill_53178, Cond.static yJ7_fill_53178, Cond.initialized RJ7, Cond.code yJ7_fill_53178 cJ7_fill_53178 4 none, Cond.static yX6_isPlace, Cond.initialized RX6, Cond.code yX6_isPlace cX6_isPlace 1 (some .boolean), Cond.methodLink RX1 63 yX1_takenHead, Cond.instanceMethod yX1_takenHead, Cond.selects RX1 yX1_takenHead yX1_takenHead]
def wsX1_contract_r2 : List Cond := [Cond.code yX1_takenHead cX1_takenHead 2 (some .int), Cond.fieldLink RX1 19 "ArcLight$Circles" "taken" "[I", Cond.methodLink RX1 74 yJ7_fill_d0a16, Cond.static yJ7_fill_d0a16, Cond.code yJ7_fill_d0a16 cJ7_fill_d0a16 5 none, Cond.methodLink RX1 59 yX1_takenKey, Cond.instanceMethod yX1_takenKey, Cond.selects RX1 yX1_takenKey yX1_takenKey, Cond.code yX1_takenKey cX1_takenKey 3 (some .long), Cond.methodLink RX1 80 yX1_offer, Cond.instanceMethod yX1_offer, Cond.selects RX1 yX1_offer yX1_offer, Cond.code yX1_offer cX1_offer 5 none]
def wsX1_contract : List Cond := .code yX1_contract cX1_contract 7 none :: ((wsX1_contract_r1 ++ wsX1_contract_r2) ++ wsX10)
def wsX1_greatest_r1 : List Cond := [Cond.methodLink RX1 36 Lib.Math.min.name, Cond.static Lib.Math.min.name, Cond.initialized "java/lang/Math", Cond.code Lib.Math.min.name Lib.Math.min.code 2 (some .int), Cond.fieldLink RX1 26 "ArcLight$Circles" "nodes" "I", Cond.fieldLink RX1 11 "ArcLight$Circles" "keys" "[[J", Cond.constantLong RX1 50 (-9223372036854775808), Cond.methodLink RX1 30 yX0_size, Cond.instanceMethod yX0_size, Cond.selects RX0 yX0_size yX0_size, Cond.initialized RX0, Cond.code yX0_size cX0_size 1 (some .int), Cond.fieldLink RX0 16 "ArcLight$ArcKeys" "last" "I", Cond.methodLink RX1 42 yX0_get, Cond.instanceMethod yX0_get, Cond.selects RX0 yX0_get yX0_get, Cond.code yX0_get cX0_get 3 (some .long), Cond.fieldLink RX0 11 "ArcLight$ArcKeys" "keys" "[[J", Cond.constantLong RX0 32 (-9223372036854775808), Cond.static yX6_isPlace, Cond.initialized RX6, Cond.code yX6_isPlace cX6_isPlace 1 (some .boolean), Cond.methodLink RX1 46 yX1_takeGreatest, Cond.instanceMethod yX1_takeGreatest]
def wsX1_greatest_r2 : List Cond := [Cond.selects RX1 yX1_takeGreatest yX1_takeGreatest, Cond.initialized RX1, Cond.code yX1_takeGreatest cX1_takeGreatest 5 (some .long), Cond.fieldLink RX1 19 "ArcLight$Circles" "taken" "[I", Cond.methodLink RX1 59 yX1_takenKey, Cond.instanceMethod yX1_takenKey, Cond.selects RX1 yX1_takenKey yX1_takenKey, Cond.code yX1_takenKey cX1_takenKey 3 (some .long), Cond.methodLink RX1 63 yX1_takenHead, Cond.instanceMethod yX1_takenHead, Cond.selects RX1 yX1_takenHead yX1_takenHead, Cond.code yX1_takenHead cX1_takenHead 2 (some .int), Cond.methodLink RX1 52 yX1_findCircle, Cond.instanceMethod yX1_findCircle, Cond.selects RX1 yX1_findCircle yX1_findCircle, Cond.code yX1_findCircle cX1_findCircle 4 (some .int), Cond.methodLink RX1 55 yX1_contract, Cond.instanceMethod yX1_contract, Cond.selects RX1 yX1_contract yX1_contract, Cond.code yX1_contract cX1_contract 7 none, Cond.fieldLink RX1 16 "ArcLight$Circles" "contracted" "[[J", Cond.fieldLink RX1 23 "ArcLight$Circles" "groups" "[I", Cond.methodLink RX1 71 yX1_groupNodes, Cond.instanceMethod yX1_groupNodes]
def wsX1_greatest_r3 : List Cond := [Cond.selects RX1 yX1_groupNodes yX1_groupNodes, Cond.code yX1_groupNodes cX1_groupNodes 5 (some .int), Cond.methodLink RX1 84 yJ7_fill_53178, Cond.static yJ7_fill_53178, Cond.initialized RJ7, Cond.code yJ7_fill_53178 cJ7_fill_53178 4 none, Cond.methodLink RX1 74 yJ7_fill_d0a16, Cond.static yJ7_fill_d0a16, Cond.code yJ7_fill_d0a16 cJ7_fill_d0a16 5 none, Cond.methodLink RX1 80 yX1_offer, Cond.instanceMethod yX1_offer, Cond.selects RX1 yX1_offer yX1_offer, Cond.code yX1_offer cX1_offer 5 none]
def wsX1_greatest : List Cond := .code yX1_greatest cX1_greatest 8 (some .long) :: ((wsX1_greatest_r1 ++ (wsX1_greatest_r2 ++ wsX1_greatest_r3)) ++ wsX10 ++ wsX00)
def wsX2_init : List Cond := .code yX2_init cX2_init 1 none :: ([.methodLink RX2 3 objectInit, .instanceMethod objectInit, .code objectInit ⟨#[0xb1]⟩ 1 none, .arrayClass .int, .fieldLink RX2 9 "ArcLight$Sentence" "kinds" "[I", .fieldLink RX2 15 "ArcLight$Sentence" "rightHeads" "[I", .classLink RX2 18 "[[I", .fieldLink RX2 20 "ArcLight$Sentence" "marks" "[[I", .fieldLink RX2 23 "ArcLight$Sentence" "last" "I", .methodLink RX2 27 yJ7_fill_53178, .static yJ7_fill_53178, .initialized RJ7, .code yJ7_fill_53178 cJ7_fill_53178 4 none] ++ wsX20)
def wsX2_append : List Cond := .code yX2_append cX2_append 2 none :: ([.fieldLink RX2 23 "ArcLight$Sentence" "last" "I", .fieldLink RX2 9 "ArcLight$Sentence" "kinds" "[I"] ++ wsX20)
def wsX2_changeMark : List Cond := .code yX2_changeMark cX2_changeMark 5 (some .int) :: ([.fieldLink RX2 20 "ArcLight$Sentence" "marks" "[[I", .methodLink RX2 41 yX2_markOf, .instanceMethod yX2_markOf, .selects RX2 yX2_markOf yX2_markOf, .initialized RX2, .code yX2_markOf cX2_markOf 3 (some .int), .static yX6_isPlace, .initialized RX6, .code yX6_isPlace cX6_isPlace 1 (some .boolean)] ++ wsX20)
def wsX2_rightHead : List Cond := .code yX2_rightHead cX2_rightHead 2 (some .int) :: ([.fieldLink RX2 15 "ArcLight$Sentence" "rightHeads" "[I", .static yX6_isPlace, .initialized RX6, .code yX6_isPlace cX6_isPlace 1 (some .boolean)] ++ wsX20)
def wsX2_changeRightHead : List Cond := .code yX2_changeRightHead cX2_changeRightHead 4 (some .int) :: ([.fieldLink RX2 15 "ArcLight$Sentence" "rightHeads" "[I", .methodLink RX2 48 yX2_rightHead, .instanceMethod yX2_rightHead, .selects RX2 yX2_rightHead yX2_rightHead, .initialized RX2, .code yX2_rightHead cX2_rightHead 2 (some .int), .static yX6_isPlace, .initialized RX6, .code yX6_isPlace cX6_isPlace 1 (some .boolean)] ++ wsX20)
def wsX2_hasRightTree : List Cond := .code yX2_hasRightTree cX2_hasRightTree 4 (some .boolean) :: ([.fieldLink RX2 23 "ArcLight$Sentence" "last" "I", .methodLink RX2 48 yX2_rightHead, .instanceMethod yX2_rightHead, .selects RX2 yX2_rightHead yX2_rightHead, .initialized RX2, .code yX2_rightHead cX2_rightHead 2 (some .int), .fieldLink RX2 15 "ArcLight$Sentence" "rightHeads" "[I", .static yX6_isPlace, .initialized RX6, .code yX6_isPlace cX6_isPlace 1 (some .boolean)] ++ wsX20)
def wsX3_init : List Cond := .code yX3_init cX3_init 1 none :: ([.methodLink RX3 3 objectInit, .instanceMethod objectInit, .code objectInit ⟨#[0xb1]⟩ 1 none, .classLink RX3 9 "[[J", .arrayClass .long, .fieldLink RX3 11 "ArcLight$Spans" "wholeFromLeft" "[[J", .fieldLink RX3 16 "ArcLight$Spans" "wholeFromRight" "[[J", .fieldLink RX3 19 "ArcLight$Spans" "openFromLeft" "[[J", .fieldLink RX3 22 "ArcLight$Spans" "openFromRight" "[[J"] ++ wsX30)
def wsX3_join : List Cond := .code yX3_join cX3_join 4 (some .long) :: ([.constantLong RX3 45 (-9223372036854775808)])
def wsX3_fillOpen : List Cond := .code yX3_fillOpen cX3_fillOpen 7 none :: ([.constantLong RX3 45 (-9223372036854775808), .fieldLink RX3 11 "ArcLight$Spans" "wholeFromLeft" "[[J", .fieldLink RX3 16 "ArcLight$Spans" "wholeFromRight" "[[J", .methodLink RX3 55 Lib.MathLoose.max_long.x, .static Lib.MathLoose.max_long.x, .initialized "java/lang/Math", .code Lib.MathLoose.max_long.x Lib.MathLoose.max_long.code 4 (some .long), .fieldLink RX3 19 "ArcLight$Spans" "openFromLeft" "[[J", .fieldLink RX3 22 "ArcLight$Spans" "openFromRight" "[[J", .static yX6_isPlace, .initialized RX6, .code yX6_isPlace cX6_isPlace 1 (some .boolean), .methodLink RX3 51 yX3_join, .static yX3_join, .initialized RX3, .code yX3_join cX3_join 4 (some .long), .methodLink RX3 58 yX0_get, .instanceMethod yX0_get, .selects RX0 yX0_get yX0_get, .initialized RX0, .code yX0_get cX0_get 3 (some .long), .fieldLink RX0 11 "ArcLight$ArcKeys" "keys" "[[J", .constantLong RX0 32 (-9223372036854775808)] ++ wsX30 ++ wsX00)
def wsX3_fillWhole : List Cond := .code yX3_fillWhole cX3_fillWhole 8 none :: ([.constantLong RX3 45 (-9223372036854775808), .fieldLink RX3 19 "ArcLight$Spans" "openFromLeft" "[[J", .fieldLink RX3 11 "ArcLight$Spans" "wholeFromLeft" "[[J", .methodLink RX3 55 Lib.MathLoose.max_long.x, .static Lib.MathLoose.max_long.x, .initialized "java/lang/Math", .code Lib.MathLoose.max_long.x Lib.MathLoose.max_long.code 4 (some .long), .fieldLink RX3 16 "ArcLight$Spans" "wholeFromRight" "[[J", .fieldLink RX3 22 "ArcLight$Spans" "openFromRight" "[[J", .static yX6_isPlace, .initialized RX6, .code yX6_isPlace cX6_isPlace 1 (some .boolean), .methodLink RX3 51 yX3_join, .static yX3_join, .initialized RX3, .code yX3_join cX3_join 4 (some .long)] ++ wsX30)
def wsX3_greatest_r1 : List Cond := [Cond.methodLink RX3 31 Lib.Math.min.name, Cond.static Lib.Math.min.name, Cond.initialized "java/lang/Math", Cond.code Lib.Math.min.name Lib.Math.min.code 2 (some .int), Cond.fieldLink RX3 11 "ArcLight$Spans" "wholeFromLeft" "[[J", Cond.fieldLink RX3 16 "ArcLight$Spans" "wholeFromRight" "[[J", Cond.constantLong RX3 45 (-9223372036854775808), Cond.methodLink RX3 25 yX0_size, Cond.instanceMethod yX0_size, Cond.selects RX0 yX0_size yX0_size, Cond.initialized RX0, Cond.code yX0_size cX0_size 1 (some .int), Cond.fieldLink RX0 16 "ArcLight$ArcKeys" "last" "I", Cond.methodLink RX3 37 yX3_fillOpen, Cond.instanceMethod yX3_fillOpen, Cond.selects RX3 yX3_fillOpen yX3_fillOpen, Cond.initialized RX3, Cond.code yX3_fillOpen cX3_fillOpen 7 none, Cond.methodLink RX3 55 Lib.MathLoose.max_long.x, Cond.static Lib.MathLoose.max_long.x, Cond.code Lib.MathLoose.max_long.x Lib.MathLoose.max_long.code 4 (some .long), Cond.fieldLink RX3 19 "ArcLight$Spans" "openFromLeft" "[[J", Cond.fieldLink RX3 22 "ArcLight$Spans" "openFromRight" "[[J", Cond.static yX6_isPlace]
def wsX3_greatest_r2 : List Cond := [Cond.initialized RX6, Cond.code yX6_isPlace cX6_isPlace 1 (some .boolean), Cond.methodLink RX3 51 yX3_join, Cond.static yX3_join, Cond.code yX3_join cX3_join 4 (some .long), Cond.methodLink RX3 58 yX0_get, Cond.instanceMethod yX0_get, Cond.selects RX0 yX0_get yX0_get, Cond.code yX0_get cX0_get 3 (some .long), Cond.fieldLink RX0 11 "ArcLight$ArcKeys" "keys" "[[J", Cond.constantLong RX0 32 (-9223372036854775808), Cond.methodLink RX3 41 yX3_fillWhole, Cond.instanceMethod yX3_fillWhole, Cond.selects RX3 yX3_fillWhole yX3_fillWhole, Cond.code yX3_fillWhole cX3_fillWhole 8 none]
def wsX3_greatest : List Cond := .code yX3_greatest cX3_greatest 5 (some .long) :: ((wsX3_greatest_r1 ++ wsX3_greatest_r2) ++ wsX30 ++ wsX00)
def wsX4_init : List Cond := .code yX4_init cX4_init 1 none :: ([.methodLink RX4 3 objectInit, .instanceMethod objectInit, .code objectInit ⟨#[0xb1]⟩ 1 none, .arrayClass .long, .fieldLink RX4 9 "ArcLight$Trial" "keys" "[J", .arrayClass .int, .fieldLink RX4 15 "ArcLight$Trial" "heads" "[I", .fieldLink RX4 19 "ArcLight$Trial" "found" "I"] ++ wsX40)
def wsX4_note : List Cond := .code yX4_note cX4_note 3 none :: ([.fieldLink RX4 19 "ArcLight$Trial" "found" "I", .fieldLink RX4 9 "ArcLight$Trial" "keys" "[J"] ++ wsX40)
def wsX4_closesCircle : List Cond := .code yX4_closesCircle cX4_closesCircle 5 (some .boolean) :: ([.fieldLink RX4 15 "ArcLight$Trial" "heads" "[I"] ++ wsX40)
def wsX6_doCross : List Cond := .code yX6_doCross cX6_doCross 8 (some .boolean) :: ([.methodLink RX6 249 Lib.Math.min.name, .static Lib.Math.min.name, .initialized "java/lang/Math", .code Lib.Math.min.name Lib.Math.min.code 2 (some .int), .methodLink RX6 252 Lib.Math.max.name, .static Lib.Math.max.name, .code Lib.Math.max.name Lib.Math.max.code 2 (some .int)])
def wsX4_crossesEarlier : List Cond := .code yX4_crossesEarlier cX4_crossesEarlier 4 (some .boolean) :: ([.fieldLink RX4 15 "ArcLight$Trial" "heads" "[I", .static yX6_doCross, .initialized RX6, .code yX6_doCross cX6_doCross 8 (some .boolean), .methodLink RX6 249 Lib.Math.min.name, .static Lib.Math.min.name, .initialized "java/lang/Math", .code Lib.Math.min.name Lib.Math.min.code 2 (some .int), .methodLink RX6 252 Lib.Math.max.name, .static Lib.Math.max.name, .code Lib.Math.max.name Lib.Math.max.code 2 (some .int)] ++ wsX40)
def wsX4_giveHeads_r1 : List Cond := [Cond.constantLong RX4 27 (-9223372036854775808), Cond.fieldLink RX4 15 "ArcLight$Trial" "heads" "[I", Cond.methodLink RX4 52 yX0_size, Cond.instanceMethod yX0_size, Cond.selects RX0 yX0_size yX0_size, Cond.initialized RX0, Cond.code yX0_size cX0_size 1 (some .int), Cond.fieldLink RX0 16 "ArcLight$ArcKeys" "last" "I", Cond.methodLink RX4 58 yX4_note, Cond.instanceMethod yX4_note, Cond.selects RX4 yX4_note yX4_note, Cond.initialized RX4, Cond.code yX4_note cX4_note 3 none, Cond.fieldLink RX4 19 "ArcLight$Trial" "found" "I", Cond.fieldLink RX4 9 "ArcLight$Trial" "keys" "[J", Cond.methodLink RX4 62 yX0_get, Cond.instanceMethod yX0_get, Cond.selects RX0 yX0_get yX0_get, Cond.code yX0_get cX0_get 3 (some .long), Cond.fieldLink RX0 11 "ArcLight$ArcKeys" "keys" "[[J", Cond.constantLong RX0 32 (-9223372036854775808), Cond.static yX6_isPlace, Cond.initialized RX6, Cond.code yX6_isPlace cX6_isPlace 1 (some .boolean)]
def wsX4_giveHeads_r2 : List Cond := [Cond.methodLink RX4 66 yX4_closesCircle, Cond.instanceMethod yX4_closesCircle, Cond.selects RX4 yX4_closesCircle yX4_closesCircle, Cond.code yX4_closesCircle cX4_closesCircle 5 (some .boolean), Cond.methodLink RX4 70 yX4_crossesEarlier, Cond.instanceMethod yX4_crossesEarlier, Cond.selects RX4 yX4_crossesEarlier yX4_crossesEarlier, Cond.code yX4_crossesEarlier cX4_crossesEarlier 4 (some .boolean), Cond.static yX6_doCross, Cond.code yX6_doCross cX6_doCross 8 (some .boolean), Cond.methodLink RX6 249 Lib.Math.min.name, Cond.static Lib.Math.min.name, Cond.initialized "java/lang/Math", Cond.code Lib.Math.min.name Lib.Math.min.code 2 (some .int), Cond.methodLink RX6 252 Lib.Math.max.name, Cond.static Lib.Math.max.name, Cond.code Lib.Math.max.name Lib.Math.max.code 2 (some .int), Cond.methodLink RX4 23 yX4_giveHeads, Cond.static yX4_giveHeads]
def wsX4_giveHeads : List Cond := .code yX4_giveHeads cX4_giveHeads 9 none :: ((wsX4_giveHeads_r1 ++ wsX4_giveHeads_r2) ++ wsX40 ++ wsX00)
def wsX4_run_r1 : List Cond := [Cond.fieldLink RX4 19 "ArcLight$Trial" "found" "I", Cond.methodLink RX4 23 yX4_giveHeads, Cond.static yX4_giveHeads, Cond.initialized RX4, Cond.code yX4_giveHeads cX4_giveHeads 9 none, Cond.constantLong RX4 27 (-9223372036854775808), Cond.fieldLink RX4 15 "ArcLight$Trial" "heads" "[I", Cond.methodLink RX4 52 yX0_size, Cond.instanceMethod yX0_size, Cond.selects RX0 yX0_size yX0_size, Cond.initialized RX0, Cond.code yX0_size cX0_size 1 (some .int), Cond.fieldLink RX0 16 "ArcLight$ArcKeys" "last" "I", Cond.methodLink RX4 58 yX4_note, Cond.instanceMethod yX4_note, Cond.selects RX4 yX4_note yX4_note, Cond.code yX4_note cX4_note 3 none, Cond.fieldLink RX4 9 "ArcLight$Trial" "keys" "[J", Cond.methodLink RX4 62 yX0_get, Cond.instanceMethod yX0_get, Cond.selects RX0 yX0_get yX0_get, Cond.code yX0_get cX0_get 3 (some .long), Cond.fieldLink RX0 11 "ArcLight$ArcKeys" "keys" "[[J", Cond.constantLong RX0 32 (-9223372036854775808)]
def wsX4_run_r2 : List Cond := [Cond.static yX6_isPlace, Cond.initialized RX6, Cond.code yX6_isPlace cX6_isPlace 1 (some .boolean), Cond.methodLink RX4 66 yX4_closesCircle, Cond.instanceMethod yX4_closesCircle, Cond.selects RX4 yX4_closesCircle yX4_closesCircle, Cond.code yX4_closesCircle cX4_closesCircle 5 (some .boolean), Cond.methodLink RX4 70 yX4_crossesEarlier, Cond.instanceMethod yX4_crossesEarlier, Cond.selects RX4 yX4_crossesEarlier yX4_crossesEarlier, Cond.code yX4_crossesEarlier cX4_crossesEarlier 4 (some .boolean), Cond.static yX6_doCross, Cond.code yX6_doCross cX6_doCross 8 (some .boolean), Cond.methodLink RX6 249 Lib.Math.min.name, Cond.static Lib.Math.min.name, Cond.initialized "java/lang/Math", Cond.code Lib.Math.min.name Lib.Math.min.code 2 (some .int), Cond.methodLink RX6 252 Lib.Math.max.name, Cond.static Lib.Math.max.name, Cond.code Lib.Math.max.name Lib.Math.max.code 2 (some .int)]
def wsX4_run : List Cond := .code yX4_run cX4_run 3 none :: ((wsX4_run_r1 ++ wsX4_run_r2) ++ wsX40 ++ wsX00)
def wsX4_size : List Cond := .code yX4_size cX4_size 1 (some .int) :: ([.fieldLink RX4 19 "ArcLight$Trial" "found" "I"] ++ wsX40)
def wsX4_greatest : List Cond := .code yX4_greatest cX4_greatest 4 (some .long) :: ([.constantLong RX4 27 (-9223372036854775808), .fieldLink RX4 19 "ArcLight$Trial" "found" "I", .fieldLink RX4 9 "ArcLight$Trial" "keys" "[J", .methodLink RX4 29 Lib.MathLoose.max_long.x, .static Lib.MathLoose.max_long.x, .initialized "java/lang/Math", .code Lib.MathLoose.max_long.x Lib.MathLoose.max_long.code 4 (some .long)] ++ wsX40)
def wsX4_least : List Cond := .code yX4_least cX4_least 6 (some .long) :: ([.fieldLink RX4 19 "ArcLight$Trial" "found" "I", .fieldLink RX4 9 "ArcLight$Trial" "keys" "[J", .methodLink RX4 49 Lib.MathLoose.min_long.x, .static Lib.MathLoose.min_long.x, .initialized "java/lang/Math", .code Lib.MathLoose.min_long.x Lib.MathLoose.min_long.code 4 (some .long)] ++ wsX40)
def wsX4_countAbove : List Cond := .code yX4_countAbove cX4_countAbove 5 (some .int) :: ([.fieldLink RX4 19 "ArcLight$Trial" "found" "I", .fieldLink RX4 9 "ArcLight$Trial" "keys" "[J"] ++ wsX40)
def wsX4_ofRank : List Cond := .code yX4_ofRank cX4_ofRank 9 (some .long) :: ([.constantLong RX4 43 (2), .methodLink RX4 35 yX4_greatest, .instanceMethod yX4_greatest, .selects RX4 yX4_greatest yX4_greatest, .initialized RX4, .code yX4_greatest cX4_greatest 4 (some .long), .constantLong RX4 27 (-9223372036854775808), .fieldLink RX4 19 "ArcLight$Trial" "found" "I", .fieldLink RX4 9 "ArcLight$Trial" "keys" "[J", .methodLink RX4 29 Lib.MathLoose.max_long.x, .static Lib.MathLoose.max_long.x, .initialized "java/lang/Math", .code Lib.MathLoose.max_long.x Lib.MathLoose.max_long.code 4 (some .long), .methodLink RX4 39 yX4_least, .instanceMethod yX4_least, .selects RX4 yX4_least yX4_least, .code yX4_least cX4_least 6 (some .long), .methodLink RX4 49 Lib.MathLoose.min_long.x, .static Lib.MathLoose.min_long.x, .code Lib.MathLoose.min_long.x Lib.MathLoose.min_long.code 4 (some .long), .methodLink RX4 45 yX4_countAbove, .instanceMethod yX4_countAbove, .selects RX4 yX4_countAbove yX4_countAbove, .code yX4_countAbove cX4_countAbove 5 (some .int)] ++ wsX40)
def wsX5_init : List Cond := .code yX5_init cX5_init 1 none :: ([.methodLink RX5 3 objectInit, .instanceMethod objectInit, .code objectInit ⟨#[0xb1]⟩ 1 none, .arrayClass .int, .fieldLink RX5 9 "ArcLight$Weights" "now" "[I", .arrayClass .long, .fieldLink RX5 15 "ArcLight$Weights" "sums" "[J", .fieldLink RX5 19 "ArcLight$Weights" "steps" "I", .classLink RX5 23 "[[I", .fieldLink RX5 25 "ArcLight$Weights" "oldWeights" "[[I", .classLink RX5 28 "[[J", .fieldLink RX5 30 "ArcLight$Weights" "oldSums" "[[J", .fieldLink RX5 33 "ArcLight$Weights" "oldSteps" "[I", .fieldLink RX5 36 "ArcLight$Weights" "kept" "I", .fieldLink RX5 39 "ArcLight$Weights" "next" "I"] ++ wsX50)
def wsX5_put : List Cond := .code yX5_put cX5_put 3 none :: ([.fieldLink RX5 9 "ArcLight$Weights" "now" "[I", .methodLink RX5 42 yX5_isFeature, .static yX5_isFeature, .initialized RX5, .code yX5_isFeature cX5_isFeature 1 (some .boolean)] ++ wsX50)
def wsX5_addToArc_r1 : List Cond := [Cond.methodLink RX5 46 yX2_byKinds, Cond.instanceMethod yX2_byKinds, Cond.selects RX2 yX2_byKinds yX2_byKinds, Cond.initialized RX2, Cond.code yX2_byKinds cX2_byKinds 3 (some .int), Cond.methodLink RX2 37 yX2_kindAt, Cond.instanceMethod yX2_kindAt, Cond.selects RX2 yX2_kindAt yX2_kindAt, Cond.code yX2_kindAt cX2_kindAt 2 (some .int), Cond.fieldLink RX2 9 "ArcLight$Sentence" "kinds" "[I", Cond.static yX6_isPlace, Cond.initialized RX6, Cond.code yX6_isPlace cX6_isPlace 1 (some .boolean), Cond.static yX6_byDistance, Cond.code yX6_byDistance cX6_byDistance 3 (some .int), Cond.methodLink RX6 246 Lib.Math.abs.name, Cond.static Lib.Math.abs.name, Cond.initialized "java/lang/Math", Cond.code Lib.Math.abs.name Lib.Math.abs.code 1 (some .int), Cond.methodLink RX6 249 Lib.Math.min.name, Cond.static Lib.Math.min.name, Cond.code Lib.Math.min.name Lib.Math.min.code 2 (some .int), Cond.methodLink RX5 52 yX5_get, Cond.instanceMethod yX5_get]
def wsX5_addToArc_r2 : List Cond := [Cond.selects RX5 yX5_get yX5_get, Cond.initialized RX5, Cond.code yX5_get cX5_get 2 (some .int), Cond.fieldLink RX5 9 "ArcLight$Weights" "now" "[I", Cond.methodLink RX5 42 yX5_isFeature, Cond.static yX5_isFeature, Cond.code yX5_isFeature cX5_isFeature 1 (some .boolean), Cond.methodLink RX5 59 yX5_put, Cond.instanceMethod yX5_put, Cond.selects RX5 yX5_put yX5_put, Cond.code yX5_put cX5_put 3 none]
def wsX5_addToArc : List Cond := .code yX5_addToArc cX5_addToArc 7 none :: ((wsX5_addToArc_r1 ++ wsX5_addToArc_r2) ++ wsX20 ++ wsX50)
def wsX5_endStep : List Cond := .code yX5_endStep cX5_endStep 2 none :: ([.fieldLink RX5 15 "ArcLight$Weights" "sums" "[J", .fieldLink RX5 9 "ArcLight$Weights" "now" "[I", .fieldLink RX5 19 "ArcLight$Weights" "steps" "I"] ++ wsX50)
def wsX5_stepCount : List Cond := .code yX5_stepCount cX5_stepCount 1 (some .int) :: ([.fieldLink RX5 19 "ArcLight$Weights" "steps" "I"] ++ wsX50)
def wsX5_averageOf : List Cond := .code yX5_averageOf cX5_averageOf 2 (some .double) :: ([.fieldLink RX5 19 "ArcLight$Weights" "steps" "I", .fieldLink RX5 15 "ArcLight$Weights" "sums" "[J", .methodLink RX5 42 yX5_isFeature, .static yX5_isFeature, .initialized RX5, .code yX5_isFeature cX5_isFeature 1 (some .boolean)] ++ wsX50)
def wsX5_keptCount : List Cond := .code yX5_keptCount cX5_keptCount 1 (some .int) :: ([.fieldLink RX5 36 "ArcLight$Weights" "kept" "I"] ++ wsX50)
def wsX5_isRow : List Cond := .code yX5_isRow cX5_isRow 1 (some .boolean) :: ([])
def wsX5_keep : List Cond := .code yX5_keep cX5_keep 1 none :: ([.fieldLink RX5 39 "ArcLight$Weights" "next" "I", .fieldLink RX5 9 "ArcLight$Weights" "now" "[I", .fieldLink RX5 25 "ArcLight$Weights" "oldWeights" "[[I", .methodLink RX5 66 arraycopyName, .native arraycopyName, .static arraycopyName, .initialized "java/lang/System", .fieldLink RX5 15 "ArcLight$Weights" "sums" "[J", .fieldLink RX5 30 "ArcLight$Weights" "oldSums" "[[J", .fieldLink RX5 33 "ArcLight$Weights" "oldSteps" "[I", .fieldLink RX5 19 "ArcLight$Weights" "steps" "I", .fieldLink RX5 36 "ArcLight$Weights" "kept" "I", .methodLink RX5 72 Lib.Math.min.name, .static Lib.Math.min.name, .initialized "java/lang/Math", .code Lib.Math.min.name Lib.Math.min.code 2 (some .int), .methodLink RX5 63 yX5_isRow, .static yX5_isRow, .initialized RX5, .code yX5_isRow cX5_isRow 1 (some .boolean)] ++ wsX50)
def wsX5_takeBack : List Cond := .code yX5_takeBack cX5_takeBack 2 none :: ([.fieldLink RX5 39 "ArcLight$Weights" "next" "I", .fieldLink RX5 36 "ArcLight$Weights" "kept" "I", .fieldLink RX5 25 "ArcLight$Weights" "oldWeights" "[[I", .fieldLink RX5 9 "ArcLight$Weights" "now" "[I", .methodLink RX5 66 arraycopyName, .native arraycopyName, .static arraycopyName, .initialized "java/lang/System", .fieldLink RX5 30 "ArcLight$Weights" "oldSums" "[[J", .fieldLink RX5 15 "ArcLight$Weights" "sums" "[J", .fieldLink RX5 33 "ArcLight$Weights" "oldSteps" "[I", .fieldLink RX5 19 "ArcLight$Weights" "steps" "I", .methodLink RX5 63 yX5_isRow, .static yX5_isRow, .initialized RX5, .code yX5_isRow cX5_isRow 1 (some .boolean)] ++ wsX50)
def wsX6_init_r1 : List Cond := [Cond.methodLink RX6 3 objectInit, Cond.instanceMethod objectInit, Cond.code objectInit ⟨#[0xb1]⟩ 1 none, Cond.classLink RX6 9 RX2, Cond.fieldLink RX6 11 "ArcLight" "all" "[LArcLight$Sentence;", Cond.fieldLink RX6 15 "ArcLight" "count" "I", Cond.classLink RX6 19 RX5, Cond.instantiable RX5 8, Cond.initialized RX5, Cond.fieldLink RX6 22 "ArcLight" "weights" "LArcLight$Weights;", Cond.classLink RX6 26 RX0, Cond.instantiable RX0 2, Cond.initialized RX0, Cond.fieldLink RX6 29 "ArcLight" "arcs" "LArcLight$ArcKeys;", Cond.classLink RX6 33 RX3, Cond.instantiable RX3 4, Cond.initialized RX3, Cond.fieldLink RX6 36 "ArcLight" "spans" "LArcLight$Spans;", Cond.classLink RX6 40 RX1, Cond.instantiable RX1 5, Cond.initialized RX1, Cond.fieldLink RX6 43 "ArcLight" "circles" "LArcLight$Circles;", Cond.classLink RX6 47 RX4, Cond.instantiable RX4 3]
def wsX6_init_r2 : List Cond := [Cond.initialized RX4, Cond.fieldLink RX6 50 "ArcLight" "trial" "LArcLight$Trial;", Cond.instanceMethod yX5_init, Cond.code yX5_init cX5_init 1 none, Cond.methodLink RX5 3 objectInit, Cond.arrayClass .int, Cond.fieldLink RX5 9 "ArcLight$Weights" "now" "[I", Cond.arrayClass .long, Cond.fieldLink RX5 15 "ArcLight$Weights" "sums" "[J", Cond.fieldLink RX5 19 "ArcLight$Weights" "steps" "I", Cond.classLink RX5 23 "[[I", Cond.fieldLink RX5 25 "ArcLight$Weights" "oldWeights" "[[I", Cond.classLink RX5 28 "[[J", Cond.fieldLink RX5 30 "ArcLight$Weights" "oldSums" "[[J", Cond.fieldLink RX5 33 "ArcLight$Weights" "oldSteps" "[I", Cond.fieldLink RX5 36 "ArcLight$Weights" "kept" "I", Cond.fieldLink RX5 39 "ArcLight$Weights" "next" "I", Cond.instanceMethod yX0_init, Cond.code yX0_init cX0_init 1 none, Cond.methodLink RX0 3 objectInit, Cond.classLink RX0 9 "[[J", Cond.fieldLink RX0 11 "ArcLight$ArcKeys" "keys" "[[J", Cond.fieldLink RX0 16 "ArcLight$ArcKeys" "last" "I", Cond.instanceMethod yX3_init]
def wsX6_init_r3 : List Cond := [Cond.code yX3_init cX3_init 1 none, Cond.methodLink RX3 3 objectInit, Cond.classLink RX3 9 "[[J", Cond.fieldLink RX3 11 "ArcLight$Spans" "wholeFromLeft" "[[J", Cond.fieldLink RX3 16 "ArcLight$Spans" "wholeFromRight" "[[J", Cond.fieldLink RX3 19 "ArcLight$Spans" "openFromLeft" "[[J", Cond.fieldLink RX3 22 "ArcLight$Spans" "openFromRight" "[[J", Cond.instanceMethod yX1_init, Cond.code yX1_init cX1_init 1 none, Cond.methodLink RX1 3 objectInit, Cond.classLink RX1 9 "[[J", Cond.fieldLink RX1 11 "ArcLight$Circles" "keys" "[[J", Cond.fieldLink RX1 16 "ArcLight$Circles" "contracted" "[[J", Cond.fieldLink RX1 19 "ArcLight$Circles" "taken" "[I", Cond.fieldLink RX1 23 "ArcLight$Circles" "groups" "[I", Cond.fieldLink RX1 26 "ArcLight$Circles" "nodes" "I", Cond.instanceMethod yX4_init, Cond.code yX4_init cX4_init 1 none, Cond.methodLink RX4 3 objectInit, Cond.fieldLink RX4 9 "ArcLight$Trial" "keys" "[J", Cond.fieldLink RX4 15 "ArcLight$Trial" "heads" "[I", Cond.fieldLink RX4 19 "ArcLight$Trial" "found" "I"]
def wsX6_init : List Cond := .code yX6_init cX6_init 1 none :: ((wsX6_init_r1 ++ (wsX6_init_r2 ++ wsX6_init_r3)) ++ wsX60 ++ wsX50 ++ wsX00 ++ wsX30 ++ wsX10 ++ wsX40)
def wsX6_addSentence : List Cond := .code yX6_addSentence cX6_addSentence 1 (some .int) :: ([.classLink RX6 54 "java/lang/IllegalStateException", .initialized "java/lang/IllegalStateException", .fieldLink RX6 15 "ArcLight" "count" "I", .fieldLink RX6 11 "ArcLight" "all" "[LArcLight$Sentence;", .classLink RX6 9 RX2, .instantiable RX2 4, .initialized RX2, .methodLink RX6 61 yX2_init, .instanceMethod yX2_init, .code yX2_init cX2_init 1 none, .methodLink RX2 3 objectInit, .instanceMethod objectInit, .code objectInit ⟨#[0xb1]⟩ 1 none, .arrayClass .int, .fieldLink RX2 9 "ArcLight$Sentence" "kinds" "[I", .fieldLink RX2 15 "ArcLight$Sentence" "rightHeads" "[I", .classLink RX2 18 "[[I", .fieldLink RX2 20 "ArcLight$Sentence" "marks" "[[I", .fieldLink RX2 23 "ArcLight$Sentence" "last" "I", .methodLink RX2 27 yJ7_fill_53178, .static yJ7_fill_53178, .initialized RJ7, .code yJ7_fill_53178 cJ7_fill_53178 4 none] ++ wsX60 ++ wsX20 ++ (vx_atS RX6 58 "java/lang/IllegalStateException" ["java/lang/RuntimeException", "java/lang/Exception"]).filter goodWord)
def wsX6_find : List Cond := .code yX6_find cX6_find 3 (some (.object "ArcLight$Sentence")) :: ([.classLink RX6 197 "java/lang/IndexOutOfBoundsException", .initialized "java/lang/IndexOutOfBoundsException", .fieldLink RX6 11 "ArcLight" "all" "[LArcLight$Sentence;"] ++ wsX60 ++ (vx_atS RX6 201 "java/lang/IndexOutOfBoundsException" ["java/lang/RuntimeException", "java/lang/Exception"]).filter goodWord)
def wsX6_addWord : List Cond := .code yX6_addWord cX6_addWord 4 (some .int) :: ([.classLink RX6 66 "java/lang/IllegalArgumentException", .initialized "java/lang/IllegalArgumentException", .classLink RX6 54 "java/lang/IllegalStateException", .initialized "java/lang/IllegalStateException", .methodLink RX6 62 yX6_find, .instanceMethod yX6_find, .selects RX6 yX6_find yX6_find, .initialized RX6, .code yX6_find cX6_find 3 (some (.object "ArcLight$Sentence")), .classLink RX6 197 "java/lang/IndexOutOfBoundsException", .initialized "java/lang/IndexOutOfBoundsException", .fieldLink RX6 11 "ArcLight" "all" "[LArcLight$Sentence;", .methodLink RX6 71 yX2_size, .instanceMethod yX2_size, .selects RX2 yX2_size yX2_size, .initialized RX2, .code yX2_size cX2_size 1 (some .int), .fieldLink RX2 23 "ArcLight$Sentence" "last" "I", .methodLink RX6 77 yX2_append, .instanceMethod yX2_append, .selects RX2 yX2_append yX2_append, .code yX2_append cX2_append 2 none, .fieldLink RX2 9 "ArcLight$Sentence" "kinds" "[I"] ++ wsX60 ++ wsX20 ++ (vx_atS RX6 70 "java/lang/IllegalArgumentException" ["java/lang/RuntimeException", "java/lang/Exception"]).filter goodWord ++ (vx_atS RX6 58 "java/lang/IllegalStateException" ["java/lang/RuntimeException", "java/lang/Exception"]).filter goodWord ++ (vx_atS RX6 201 "java/lang/IndexOutOfBoundsException" ["java/lang/RuntimeException", "java/lang/Exception"]).filter goodWord)
def wsX6_sentences : List Cond := .code yX6_sentences cX6_sentences 1 (some .int) :: ([.fieldLink RX6 15 "ArcLight" "count" "I"] ++ wsX60)
def wsX6_words : List Cond := .code yX6_words cX6_words 2 (some .int) :: ([.methodLink RX6 62 yX6_find, .instanceMethod yX6_find, .selects RX6 yX6_find yX6_find, .initialized RX6, .code yX6_find cX6_find 3 (some (.object "ArcLight$Sentence")), .classLink RX6 197 "java/lang/IndexOutOfBoundsException", .initialized "java/lang/IndexOutOfBoundsException", .fieldLink RX6 11 "ArcLight" "all" "[LArcLight$Sentence;", .methodLink RX6 71 yX2_size, .instanceMethod yX2_size, .selects RX2 yX2_size yX2_size, .initialized RX2, .code yX2_size cX2_size 1 (some .int), .fieldLink RX2 23 "ArcLight$Sentence" "last" "I"] ++ wsX60 ++ wsX20 ++ (vx_atS RX6 201 "java/lang/IndexOutOfBoundsException" ["java/lang/RuntimeException", "java/lang/Exception"]).filter goodWord)
def wsX6_checkWord : List Cond := .code yX6_checkWord cX6_checkWord 2 none :: ([.classLink RX6 197 "java/lang/IndexOutOfBoundsException", .initialized "java/lang/IndexOutOfBoundsException", .methodLink RX6 71 yX2_size, .instanceMethod yX2_size, .selects RX2 yX2_size yX2_size, .initialized RX2, .code yX2_size cX2_size 1 (some .int), .fieldLink RX2 23 "ArcLight$Sentence" "last" "I"] ++ wsX20 ++ (vx_atS RX6 201 "java/lang/IndexOutOfBoundsException" ["java/lang/RuntimeException", "java/lang/Exception"]).filter goodWord)
def wsX6_kind : List Cond := .code yX6_kind cX6_kind 4 (some .int) :: ([.methodLink RX6 62 yX6_find, .instanceMethod yX6_find, .selects RX6 yX6_find yX6_find, .initialized RX6, .code yX6_find cX6_find 3 (some (.object "ArcLight$Sentence")), .classLink RX6 197 "java/lang/IndexOutOfBoundsException", .initialized "java/lang/IndexOutOfBoundsException", .fieldLink RX6 11 "ArcLight" "all" "[LArcLight$Sentence;", .methodLink RX6 81 yX6_checkWord, .static yX6_checkWord, .code yX6_checkWord cX6_checkWord 2 none, .methodLink RX6 71 yX2_size, .instanceMethod yX2_size, .selects RX2 yX2_size yX2_size, .initialized RX2, .code yX2_size cX2_size 1 (some .int), .fieldLink RX2 23 "ArcLight$Sentence" "last" "I", .methodLink RX6 85 yX2_kindAt, .instanceMethod yX2_kindAt, .selects RX2 yX2_kindAt yX2_kindAt, .code yX2_kindAt cX2_kindAt 2 (some .int), .fieldLink RX2 9 "ArcLight$Sentence" "kinds" "[I", .static yX6_isPlace, .code yX6_isPlace cX6_isPlace 1 (some .boolean)] ++ wsX60 ++ wsX20 ++ (vx_atS RX6 201 "java/lang/IndexOutOfBoundsException" ["java/lang/RuntimeException", "java/lang/Exception"]).filter goodWord)
def wsX6_checkFeature : List Cond := .code yX6_checkFeature cX6_checkFeature 1 none :: ([.classLink RX6 197 "java/lang/IndexOutOfBoundsException", .initialized "java/lang/IndexOutOfBoundsException"] ++ (vx_atS RX6 201 "java/lang/IndexOutOfBoundsException" ["java/lang/RuntimeException", "java/lang/Exception"]).filter goodWord)
def wsX6_setWeight_r1 : List Cond := [Cond.classLink RX6 66 "java/lang/IllegalArgumentException", Cond.initialized "java/lang/IllegalArgumentException", Cond.fieldLink RX6 22 "ArcLight" "weights" "LArcLight$Weights;", Cond.methodLink RX6 89 yX6_checkFeature, Cond.static yX6_checkFeature, Cond.initialized RX6, Cond.code yX6_checkFeature cX6_checkFeature 1 none, Cond.classLink RX6 197 "java/lang/IndexOutOfBoundsException", Cond.initialized "java/lang/IndexOutOfBoundsException", Cond.methodLink RX6 94 yX5_get, Cond.instanceMethod yX5_get, Cond.selects RX5 yX5_get yX5_get, Cond.initialized RX5, Cond.code yX5_get cX5_get 2 (some .int), Cond.fieldLink RX5 9 "ArcLight$Weights" "now" "[I", Cond.methodLink RX5 42 yX5_isFeature, Cond.static yX5_isFeature, Cond.code yX5_isFeature cX5_isFeature 1 (some .boolean), Cond.methodLink RX6 97 yX5_keep, Cond.instanceMethod yX5_keep, Cond.selects RX5 yX5_keep yX5_keep, Cond.code yX5_keep cX5_keep 1 none, Cond.fieldLink RX5 39 "ArcLight$Weights" "next" "I", Cond.fieldLink RX5 25 "ArcLight$Weights" "oldWeights" "[[I"]
def wsX6_setWeight_r2 : List Cond := [Cond.methodLink RX5 66 arraycopyName, Cond.native arraycopyName, Cond.static arraycopyName, Cond.initialized "java/lang/System", Cond.fieldLink RX5 15 "ArcLight$Weights" "sums" "[J", Cond.fieldLink RX5 30 "ArcLight$Weights" "oldSums" "[[J", Cond.fieldLink RX5 33 "ArcLight$Weights" "oldSteps" "[I", Cond.fieldLink RX5 19 "ArcLight$Weights" "steps" "I", Cond.fieldLink RX5 36 "ArcLight$Weights" "kept" "I", Cond.methodLink RX5 72 Lib.Math.min.name, Cond.static Lib.Math.min.name, Cond.initialized "java/lang/Math", Cond.code Lib.Math.min.name Lib.Math.min.code 2 (some .int), Cond.methodLink RX5 63 yX5_isRow, Cond.static yX5_isRow, Cond.code yX5_isRow cX5_isRow 1 (some .boolean), Cond.methodLink RX6 100 yX5_put, Cond.instanceMethod yX5_put, Cond.selects RX5 yX5_put yX5_put, Cond.code yX5_put cX5_put 3 none]
def wsX6_setWeight : List Cond := .code yX6_setWeight cX6_setWeight 4 (some .int) :: ((wsX6_setWeight_r1 ++ wsX6_setWeight_r2) ++ wsX60 ++ wsX50 ++ (vx_atS RX6 70 "java/lang/IllegalArgumentException" ["java/lang/RuntimeException", "java/lang/Exception"]).filter goodWord ++ (vx_atS RX6 201 "java/lang/IndexOutOfBoundsException" ["java/lang/RuntimeException", "java/lang/Exception"]).filter goodWord)
def wsX6_weight : List Cond := .code yX6_weight cX6_weight 2 (some .int) :: ([.fieldLink RX6 22 "ArcLight" "weights" "LArcLight$Weights;", .methodLink RX6 89 yX6_checkFeature, .static yX6_checkFeature, .initialized RX6, .code yX6_checkFeature cX6_checkFeature 1 none, .classLink RX6 197 "java/lang/IndexOutOfBoundsException", .initialized "java/lang/IndexOutOfBoundsException", .methodLink RX6 94 yX5_get, .instanceMethod yX5_get, .selects RX5 yX5_get yX5_get, .initialized RX5, .code yX5_get cX5_get 2 (some .int), .fieldLink RX5 9 "ArcLight$Weights" "now" "[I", .methodLink RX5 42 yX5_isFeature, .static yX5_isFeature, .code yX5_isFeature cX5_isFeature 1 (some .boolean)] ++ wsX60 ++ wsX50 ++ (vx_atS RX6 201 "java/lang/IndexOutOfBoundsException" ["java/lang/RuntimeException", "java/lang/Exception"]).filter goodWord)
def wsX6_checkArc : List Cond := .code yX6_checkArc cX6_checkArc 3 none :: ([.classLink RX6 197 "java/lang/IndexOutOfBoundsException", .initialized "java/lang/IndexOutOfBoundsException", .classLink RX6 66 "java/lang/IllegalArgumentException", .initialized "java/lang/IllegalArgumentException", .methodLink RX6 71 yX2_size, .instanceMethod yX2_size, .selects RX2 yX2_size yX2_size, .initialized RX2, .code yX2_size cX2_size 1 (some .int), .fieldLink RX2 23 "ArcLight$Sentence" "last" "I", .methodLink RX6 81 yX6_checkWord, .static yX6_checkWord, .initialized RX6, .code yX6_checkWord cX6_checkWord 2 none] ++ wsX20 ++ (vx_atS RX6 201 "java/lang/IndexOutOfBoundsException" ["java/lang/RuntimeException", "java/lang/Exception"]).filter goodWord ++ (vx_atS RX6 70 "java/lang/IllegalArgumentException" ["java/lang/RuntimeException", "java/lang/Exception"]).filter goodWord)
def wsX6_feature_r1 : List Cond := [Cond.methodLink RX6 62 yX6_find, Cond.instanceMethod yX6_find, Cond.selects RX6 yX6_find yX6_find, Cond.initialized RX6, Cond.code yX6_find cX6_find 3 (some (.object "ArcLight$Sentence")), Cond.classLink RX6 197 "java/lang/IndexOutOfBoundsException", Cond.initialized "java/lang/IndexOutOfBoundsException", Cond.fieldLink RX6 11 "ArcLight" "all" "[LArcLight$Sentence;", Cond.methodLink RX6 104 yX6_checkArc, Cond.static yX6_checkArc, Cond.code yX6_checkArc cX6_checkArc 3 none, Cond.classLink RX6 66 "java/lang/IllegalArgumentException", Cond.initialized "java/lang/IllegalArgumentException", Cond.methodLink RX6 71 yX2_size, Cond.instanceMethod yX2_size, Cond.selects RX2 yX2_size yX2_size, Cond.initialized RX2, Cond.code yX2_size cX2_size 1 (some .int), Cond.fieldLink RX2 23 "ArcLight$Sentence" "last" "I", Cond.methodLink RX6 81 yX6_checkWord, Cond.static yX6_checkWord, Cond.code yX6_checkWord cX6_checkWord 2 none, Cond.methodLink RX6 108 yX6_byDistance, Cond.static yX6_byDistance]
def wsX6_feature_r2 : List Cond := [Cond.code yX6_byDistance cX6_byDistance 3 (some .int), Cond.methodLink RX6 246 Lib.Math.abs.name, Cond.static Lib.Math.abs.name, Cond.initialized "java/lang/Math", Cond.code Lib.Math.abs.name Lib.Math.abs.code 1 (some .int), Cond.methodLink RX6 249 Lib.Math.min.name, Cond.static Lib.Math.min.name, Cond.code Lib.Math.min.name Lib.Math.min.code 2 (some .int), Cond.methodLink RX6 112 yX2_byKinds, Cond.instanceMethod yX2_byKinds, Cond.selects RX2 yX2_byKinds yX2_byKinds, Cond.code yX2_byKinds cX2_byKinds 3 (some .int), Cond.methodLink RX2 37 yX2_kindAt, Cond.instanceMethod yX2_kindAt, Cond.selects RX2 yX2_kindAt yX2_kindAt, Cond.code yX2_kindAt cX2_kindAt 2 (some .int), Cond.fieldLink RX2 9 "ArcLight$Sentence" "kinds" "[I", Cond.static yX6_isPlace, Cond.code yX6_isPlace cX6_isPlace 1 (some .boolean)]
def wsX6_feature : List Cond := .code yX6_feature cX6_feature 6 (some .int) :: ((wsX6_feature_r1 ++ wsX6_feature_r2) ++ wsX60 ++ wsX20 ++ (vx_atS RX6 201 "java/lang/IndexOutOfBoundsException" ["java/lang/RuntimeException", "java/lang/Exception"]).filter goodWord ++ (vx_atS RX6 70 "java/lang/IllegalArgumentException" ["java/lang/RuntimeException", "java/lang/Exception"]).filter goodWord)
def wsX6_score_r1 : List Cond := [Cond.fieldLink RX6 22 "ArcLight" "weights" "LArcLight$Weights;", Cond.methodLink RX6 62 yX6_find, Cond.instanceMethod yX6_find, Cond.selects RX6 yX6_find yX6_find, Cond.initialized RX6, Cond.code yX6_find cX6_find 3 (some (.object "ArcLight$Sentence")), Cond.classLink RX6 197 "java/lang/IndexOutOfBoundsException", Cond.initialized "java/lang/IndexOutOfBoundsException", Cond.fieldLink RX6 11 "ArcLight" "all" "[LArcLight$Sentence;", Cond.methodLink RX6 104 yX6_checkArc, Cond.static yX6_checkArc, Cond.code yX6_checkArc cX6_checkArc 3 none, Cond.classLink RX6 66 "java/lang/IllegalArgumentException", Cond.initialized "java/lang/IllegalArgumentException", Cond.methodLink RX6 71 yX2_size, Cond.instanceMethod yX2_size, Cond.selects RX2 yX2_size yX2_size, Cond.initialized RX2, Cond.code yX2_size cX2_size 1 (some .int), Cond.fieldLink RX2 23 "ArcLight$Sentence" "last" "I", Cond.methodLink RX6 81 yX6_checkWord, Cond.static yX6_checkWord, Cond.code yX6_checkWord cX6_checkWord 2 none, Cond.methodLink RX6 115 yX5_ofArc]
def wsX6_score_r2 : List Cond := [Cond.instanceMethod yX5_ofArc, Cond.selects RX5 yX5_ofArc yX5_ofArc, Cond.initialized RX5, Cond.code yX5_ofArc cX5_ofArc 4 (some .int), Cond.methodLink RX5 46 yX2_byKinds, Cond.instanceMethod yX2_byKinds, Cond.selects RX2 yX2_byKinds yX2_byKinds, Cond.code yX2_byKinds cX2_byKinds 3 (some .int), Cond.methodLink RX2 37 yX2_kindAt, Cond.instanceMethod yX2_kindAt, Cond.selects RX2 yX2_kindAt yX2_kindAt, Cond.code yX2_kindAt cX2_kindAt 2 (some .int), Cond.fieldLink RX2 9 "ArcLight$Sentence" "kinds" "[I", Cond.static yX6_isPlace, Cond.code yX6_isPlace cX6_isPlace 1 (some .boolean), Cond.methodLink RX5 52 yX5_get, Cond.instanceMethod yX5_get, Cond.selects RX5 yX5_get yX5_get, Cond.code yX5_get cX5_get 2 (some .int), Cond.fieldLink RX5 9 "ArcLight$Weights" "now" "[I", Cond.methodLink RX5 42 yX5_isFeature, Cond.static yX5_isFeature, Cond.code yX5_isFeature cX5_isFeature 1 (some .boolean), Cond.static yX6_byDistance]
def wsX6_score_r3 : List Cond := [Cond.code yX6_byDistance cX6_byDistance 3 (some .int), Cond.methodLink RX6 246 Lib.Math.abs.name, Cond.static Lib.Math.abs.name, Cond.initialized "java/lang/Math", Cond.code Lib.Math.abs.name Lib.Math.abs.code 1 (some .int), Cond.methodLink RX6 249 Lib.Math.min.name, Cond.static Lib.Math.min.name, Cond.code Lib.Math.min.name Lib.Math.min.code 2 (some .int)]
def wsX6_score : List Cond := .code yX6_score cX6_score 5 (some .int) :: ((wsX6_score_r1 ++ (wsX6_score_r2 ++ wsX6_score_r3)) ++ wsX60 ++ wsX20 ++ wsX50 ++ (vx_atS RX6 201 "java/lang/IndexOutOfBoundsException" ["java/lang/RuntimeException", "java/lang/Exception"]).filter goodWord ++ (vx_atS RX6 70 "java/lang/IllegalArgumentException" ["java/lang/RuntimeException", "java/lang/Exception"]).filter goodWord)
def wsX6_mark_r1 : List Cond := [Cond.classLink RX6 66 "java/lang/IllegalArgumentException", Cond.initialized "java/lang/IllegalArgumentException", Cond.classLink RX6 54 "java/lang/IllegalStateException", Cond.initialized "java/lang/IllegalStateException", Cond.methodLink RX6 62 yX6_find, Cond.instanceMethod yX6_find, Cond.selects RX6 yX6_find yX6_find, Cond.initialized RX6, Cond.code yX6_find cX6_find 3 (some (.object "ArcLight$Sentence")), Cond.classLink RX6 197 "java/lang/IndexOutOfBoundsException", Cond.initialized "java/lang/IndexOutOfBoundsException", Cond.fieldLink RX6 11 "ArcLight" "all" "[LArcLight$Sentence;", Cond.methodLink RX6 104 yX6_checkArc, Cond.static yX6_checkArc, Cond.code yX6_checkArc cX6_checkArc 3 none, Cond.methodLink RX6 71 yX2_size, Cond.instanceMethod yX2_size, Cond.selects RX2 yX2_size yX2_size, Cond.initialized RX2, Cond.code yX2_size cX2_size 1 (some .int), Cond.fieldLink RX2 23 "ArcLight$Sentence" "last" "I", Cond.methodLink RX6 81 yX6_checkWord, Cond.static yX6_checkWord, Cond.code yX6_checkWord cX6_checkWord 2 none]
def wsX6_mark_r2 : List Cond := [Cond.methodLink RX6 121 yX2_forcedHead, Cond.instanceMethod yX2_forcedHead, Cond.selects RX2 yX2_forcedHead yX2_forcedHead, Cond.code yX2_forcedHead cX2_forcedHead 3 (some .int), Cond.methodLink RX2 41 yX2_markOf, Cond.instanceMethod yX2_markOf, Cond.selects RX2 yX2_markOf yX2_markOf, Cond.code yX2_markOf cX2_markOf 3 (some .int), Cond.fieldLink RX2 20 "ArcLight$Sentence" "marks" "[[I", Cond.static yX6_isPlace, Cond.code yX6_isPlace cX6_isPlace 1 (some .boolean), Cond.methodLink RX6 126 yX2_changeMark, Cond.instanceMethod yX2_changeMark, Cond.selects RX2 yX2_changeMark yX2_changeMark, Cond.code yX2_changeMark cX2_changeMark 5 (some .int)]
def wsX6_mark : List Cond := .code yX6_mark cX6_mark 7 (some .int) :: ((wsX6_mark_r1 ++ wsX6_mark_r2) ++ wsX60 ++ wsX20 ++ (vx_atS RX6 70 "java/lang/IllegalArgumentException" ["java/lang/RuntimeException", "java/lang/Exception"]).filter goodWord ++ (vx_atS RX6 58 "java/lang/IllegalStateException" ["java/lang/RuntimeException", "java/lang/Exception"]).filter goodWord ++ (vx_atS RX6 201 "java/lang/IndexOutOfBoundsException" ["java/lang/RuntimeException", "java/lang/Exception"]).filter goodWord)
def wsX6_tryAll_r1 : List Cond := [Cond.fieldLink RX6 29 "ArcLight" "arcs" "LArcLight$ArcKeys;", Cond.fieldLink RX6 22 "ArcLight" "weights" "LArcLight$Weights;", Cond.fieldLink RX6 50 "ArcLight" "trial" "LArcLight$Trial;", Cond.methodLink RX6 214 yX0_fill, Cond.instanceMethod yX0_fill, Cond.selects RX0 yX0_fill yX0_fill, Cond.initialized RX0, Cond.code yX0_fill cX0_fill 5 none, Cond.methodLink RX0 26 Lib.Math.min.name, Cond.static Lib.Math.min.name, Cond.initialized "java/lang/Math", Cond.code Lib.Math.min.name Lib.Math.min.code 2 (some .int), Cond.fieldLink RX0 16 "ArcLight$ArcKeys" "last" "I", Cond.fieldLink RX0 11 "ArcLight$ArcKeys" "keys" "[[J", Cond.constantLong RX0 32 (-9223372036854775808), Cond.constantLong RX0 44 (117649), Cond.methodLink RX0 20 yX2_size, Cond.instanceMethod yX2_size, Cond.selects RX2 yX2_size yX2_size, Cond.initialized RX2, Cond.code yX2_size cX2_size 1 (some .int), Cond.fieldLink RX2 23 "ArcLight$Sentence" "last" "I", Cond.methodLink RX0 34 yX2_allows, Cond.instanceMethod yX2_allows]
def wsX6_tryAll_r2 : List Cond := [Cond.selects RX2 yX2_allows yX2_allows, Cond.code yX2_allows cX2_allows 4 (some .boolean), Cond.methodLink RX2 41 yX2_markOf, Cond.instanceMethod yX2_markOf, Cond.selects RX2 yX2_markOf yX2_markOf, Cond.code yX2_markOf cX2_markOf 3 (some .int), Cond.fieldLink RX2 20 "ArcLight$Sentence" "marks" "[[I", Cond.static yX6_isPlace, Cond.initialized RX6, Cond.code yX6_isPlace cX6_isPlace 1 (some .boolean), Cond.methodLink RX2 45 yX2_forcedHead, Cond.instanceMethod yX2_forcedHead, Cond.selects RX2 yX2_forcedHead yX2_forcedHead, Cond.code yX2_forcedHead cX2_forcedHead 3 (some .int), Cond.methodLink RX0 38 yX5_ofArc, Cond.instanceMethod yX5_ofArc, Cond.selects RX5 yX5_ofArc yX5_ofArc, Cond.initialized RX5, Cond.code yX5_ofArc cX5_ofArc 4 (some .int), Cond.methodLink RX5 46 yX2_byKinds, Cond.instanceMethod yX2_byKinds, Cond.selects RX2 yX2_byKinds yX2_byKinds, Cond.code yX2_byKinds cX2_byKinds 3 (some .int), Cond.methodLink RX2 37 yX2_kindAt]
def wsX6_tryAll_r3 : List Cond := [Cond.instanceMethod yX2_kindAt, Cond.selects RX2 yX2_kindAt yX2_kindAt, Cond.code yX2_kindAt cX2_kindAt 2 (some .int), Cond.fieldLink RX2 9 "ArcLight$Sentence" "kinds" "[I", Cond.methodLink RX5 52 yX5_get, Cond.instanceMethod yX5_get, Cond.selects RX5 yX5_get yX5_get, Cond.code yX5_get cX5_get 2 (some .int), Cond.fieldLink RX5 9 "ArcLight$Weights" "now" "[I", Cond.methodLink RX5 42 yX5_isFeature, Cond.static yX5_isFeature, Cond.code yX5_isFeature cX5_isFeature 1 (some .boolean), Cond.static yX6_byDistance, Cond.code yX6_byDistance cX6_byDistance 3 (some .int), Cond.methodLink RX6 246 Lib.Math.abs.name, Cond.static Lib.Math.abs.name, Cond.code Lib.Math.abs.name Lib.Math.abs.code 1 (some .int), Cond.methodLink RX6 249 Lib.Math.min.name, Cond.methodLink RX6 218 yX4_run, Cond.instanceMethod yX4_run, Cond.selects RX4 yX4_run yX4_run, Cond.initialized RX4, Cond.code yX4_run cX4_run 3 none, Cond.fieldLink RX4 19 "ArcLight$Trial" "found" "I"]
def wsX6_tryAll_r4 : List Cond := [Cond.methodLink RX4 23 yX4_giveHeads, Cond.static yX4_giveHeads, Cond.code yX4_giveHeads cX4_giveHeads 9 none, Cond.constantLong RX4 27 (-9223372036854775808), Cond.fieldLink RX4 15 "ArcLight$Trial" "heads" "[I", Cond.methodLink RX4 52 yX0_size, Cond.instanceMethod yX0_size, Cond.selects RX0 yX0_size yX0_size, Cond.code yX0_size cX0_size 1 (some .int), Cond.methodLink RX4 58 yX4_note, Cond.instanceMethod yX4_note, Cond.selects RX4 yX4_note yX4_note, Cond.code yX4_note cX4_note 3 none, Cond.fieldLink RX4 9 "ArcLight$Trial" "keys" "[J", Cond.methodLink RX4 62 yX0_get, Cond.instanceMethod yX0_get, Cond.selects RX0 yX0_get yX0_get, Cond.code yX0_get cX0_get 3 (some .long), Cond.methodLink RX4 66 yX4_closesCircle, Cond.instanceMethod yX4_closesCircle, Cond.selects RX4 yX4_closesCircle yX4_closesCircle, Cond.code yX4_closesCircle cX4_closesCircle 5 (some .boolean), Cond.methodLink RX4 70 yX4_crossesEarlier, Cond.instanceMethod yX4_crossesEarlier]
def wsX6_tryAll_r5 : List Cond := [Cond.selects RX4 yX4_crossesEarlier yX4_crossesEarlier, Cond.code yX4_crossesEarlier cX4_crossesEarlier 4 (some .boolean), Cond.static yX6_doCross, Cond.code yX6_doCross cX6_doCross 8 (some .boolean), Cond.methodLink RX6 252 Lib.Math.max.name, Cond.static Lib.Math.max.name, Cond.code Lib.Math.max.name Lib.Math.max.code 2 (some .int)]
def wsX6_tryAll : List Cond := .code yX6_tryAll cX6_tryAll 3 (some (.object "ArcLight$Trial")) :: ((wsX6_tryAll_r1 ++ (wsX6_tryAll_r2 ++ (wsX6_tryAll_r3 ++ (wsX6_tryAll_r4 ++ wsX6_tryAll_r5)))) ++ wsX60 ++ wsX00 ++ wsX20 ++ wsX50 ++ wsX40)
def wsX6_trees_r1 : List Cond := [Cond.methodLink RX6 62 yX6_find, Cond.instanceMethod yX6_find, Cond.selects RX6 yX6_find yX6_find, Cond.initialized RX6, Cond.code yX6_find cX6_find 3 (some (.object "ArcLight$Sentence")), Cond.classLink RX6 197 "java/lang/IndexOutOfBoundsException", Cond.initialized "java/lang/IndexOutOfBoundsException", Cond.fieldLink RX6 11 "ArcLight" "all" "[LArcLight$Sentence;", Cond.methodLink RX6 130 yX6_tryAll, Cond.instanceMethod yX6_tryAll, Cond.selects RX6 yX6_tryAll yX6_tryAll, Cond.code yX6_tryAll cX6_tryAll 3 (some (.object "ArcLight$Trial")), Cond.fieldLink RX6 29 "ArcLight" "arcs" "LArcLight$ArcKeys;", Cond.fieldLink RX6 22 "ArcLight" "weights" "LArcLight$Weights;", Cond.fieldLink RX6 50 "ArcLight" "trial" "LArcLight$Trial;", Cond.methodLink RX6 214 yX0_fill, Cond.instanceMethod yX0_fill, Cond.selects RX0 yX0_fill yX0_fill, Cond.initialized RX0, Cond.code yX0_fill cX0_fill 5 none, Cond.methodLink RX0 26 Lib.Math.min.name, Cond.static Lib.Math.min.name, Cond.initialized "java/lang/Math", Cond.code Lib.Math.min.name Lib.Math.min.code 2 (some .int)]
def wsX6_trees_r2 : List Cond := [Cond.fieldLink RX0 16 "ArcLight$ArcKeys" "last" "I", Cond.fieldLink RX0 11 "ArcLight$ArcKeys" "keys" "[[J", Cond.constantLong RX0 32 (-9223372036854775808), Cond.constantLong RX0 44 (117649), Cond.methodLink RX0 20 yX2_size, Cond.instanceMethod yX2_size, Cond.selects RX2 yX2_size yX2_size, Cond.initialized RX2, Cond.code yX2_size cX2_size 1 (some .int), Cond.fieldLink RX2 23 "ArcLight$Sentence" "last" "I", Cond.methodLink RX0 34 yX2_allows, Cond.instanceMethod yX2_allows, Cond.selects RX2 yX2_allows yX2_allows, Cond.code yX2_allows cX2_allows 4 (some .boolean), Cond.methodLink RX2 41 yX2_markOf, Cond.instanceMethod yX2_markOf, Cond.selects RX2 yX2_markOf yX2_markOf, Cond.code yX2_markOf cX2_markOf 3 (some .int), Cond.fieldLink RX2 20 "ArcLight$Sentence" "marks" "[[I", Cond.static yX6_isPlace, Cond.code yX6_isPlace cX6_isPlace 1 (some .boolean), Cond.methodLink RX2 45 yX2_forcedHead, Cond.instanceMethod yX2_forcedHead, Cond.selects RX2 yX2_forcedHead yX2_forcedHead]
def wsX6_trees_r3 : List Cond := [Cond.code yX2_forcedHead cX2_forcedHead 3 (some .int), Cond.methodLink RX0 38 yX5_ofArc, Cond.instanceMethod yX5_ofArc, Cond.selects RX5 yX5_ofArc yX5_ofArc, Cond.initialized RX5, Cond.code yX5_ofArc cX5_ofArc 4 (some .int), Cond.methodLink RX5 46 yX2_byKinds, Cond.instanceMethod yX2_byKinds, Cond.selects RX2 yX2_byKinds yX2_byKinds, Cond.code yX2_byKinds cX2_byKinds 3 (some .int), Cond.methodLink RX2 37 yX2_kindAt, Cond.instanceMethod yX2_kindAt, Cond.selects RX2 yX2_kindAt yX2_kindAt, Cond.code yX2_kindAt cX2_kindAt 2 (some .int), Cond.fieldLink RX2 9 "ArcLight$Sentence" "kinds" "[I", Cond.methodLink RX5 52 yX5_get, Cond.instanceMethod yX5_get, Cond.selects RX5 yX5_get yX5_get, Cond.code yX5_get cX5_get 2 (some .int), Cond.fieldLink RX5 9 "ArcLight$Weights" "now" "[I", Cond.methodLink RX5 42 yX5_isFeature, Cond.static yX5_isFeature, Cond.code yX5_isFeature cX5_isFeature 1 (some .boolean), Cond.static yX6_byDistance]
def wsX6_trees_r4 : List Cond := [Cond.code yX6_byDistance cX6_byDistance 3 (some .int), Cond.methodLink RX6 246 Lib.Math.abs.name, Cond.static Lib.Math.abs.name, Cond.code Lib.Math.abs.name Lib.Math.abs.code 1 (some .int), Cond.methodLink RX6 249 Lib.Math.min.name, Cond.methodLink RX6 218 yX4_run, Cond.instanceMethod yX4_run, Cond.selects RX4 yX4_run yX4_run, Cond.initialized RX4, Cond.code yX4_run cX4_run 3 none, Cond.fieldLink RX4 19 "ArcLight$Trial" "found" "I", Cond.methodLink RX4 23 yX4_giveHeads, Cond.static yX4_giveHeads, Cond.code yX4_giveHeads cX4_giveHeads 9 none, Cond.constantLong RX4 27 (-9223372036854775808), Cond.fieldLink RX4 15 "ArcLight$Trial" "heads" "[I", Cond.methodLink RX4 52 yX0_size, Cond.instanceMethod yX0_size, Cond.selects RX0 yX0_size yX0_size, Cond.code yX0_size cX0_size 1 (some .int), Cond.methodLink RX4 58 yX4_note, Cond.instanceMethod yX4_note, Cond.selects RX4 yX4_note yX4_note, Cond.code yX4_note cX4_note 3 none]
def wsX6_trees_r5 : List Cond := [Cond.fieldLink RX4 9 "ArcLight$Trial" "keys" "[J", Cond.methodLink RX4 62 yX0_get, Cond.instanceMethod yX0_get, Cond.selects RX0 yX0_get yX0_get, Cond.code yX0_get cX0_get 3 (some .long), Cond.methodLink RX4 66 yX4_closesCircle, Cond.instanceMethod yX4_closesCircle, Cond.selects RX4 yX4_closesCircle yX4_closesCircle, Cond.code yX4_closesCircle cX4_closesCircle 5 (some .boolean), Cond.methodLink RX4 70 yX4_crossesEarlier, Cond.instanceMethod yX4_crossesEarlier, Cond.selects RX4 yX4_crossesEarlier yX4_crossesEarlier, Cond.code yX4_crossesEarlier cX4_crossesEarlier 4 (some .boolean), Cond.static yX6_doCross, Cond.code yX6_doCross cX6_doCross 8 (some .boolean), Cond.methodLink RX6 252 Lib.Math.max.name, Cond.static Lib.Math.max.name, Cond.code Lib.Math.max.name Lib.Math.max.code 2 (some .int), Cond.methodLink RX6 134 yX4_size, Cond.instanceMethod yX4_size, Cond.selects RX4 yX4_size yX4_size, Cond.code yX4_size cX4_size 1 (some .int)]
def wsX6_trees : List Cond := .code yX6_trees cX6_trees 3 (some .int) :: ((wsX6_trees_r1 ++ (wsX6_trees_r2 ++ (wsX6_trees_r3 ++ (wsX6_trees_r4 ++ wsX6_trees_r5)))) ++ wsX60 ++ wsX00 ++ wsX20 ++ wsX50 ++ wsX40 ++ (vx_atS RX6 201 "java/lang/IndexOutOfBoundsException" ["java/lang/RuntimeException", "java/lang/Exception"]).filter goodWord)
def wsX6_checkTree : List Cond := .code yX6_checkTree cX6_checkTree 2 none :: ([.classLink RX6 54 "java/lang/IllegalStateException", .initialized "java/lang/IllegalStateException", .constantLong RX6 210 (-9223372036854775808)] ++ (vx_atS RX6 58 "java/lang/IllegalStateException" ["java/lang/RuntimeException", "java/lang/Exception"]).filter goodWord)
def wsX6_bestKey_r1 : List Cond := [Cond.fieldLink RX6 29 "ArcLight" "arcs" "LArcLight$ArcKeys;", Cond.fieldLink RX6 22 "ArcLight" "weights" "LArcLight$Weights;", Cond.fieldLink RX6 43 "ArcLight" "circles" "LArcLight$Circles;", Cond.fieldLink RX6 36 "ArcLight" "spans" "LArcLight$Spans;", Cond.methodLink RX6 214 yX0_fill, Cond.instanceMethod yX0_fill, Cond.selects RX0 yX0_fill yX0_fill, Cond.initialized RX0, Cond.code yX0_fill cX0_fill 5 none, Cond.methodLink RX0 26 Lib.Math.min.name, Cond.static Lib.Math.min.name, Cond.initialized "java/lang/Math", Cond.code Lib.Math.min.name Lib.Math.min.code 2 (some .int), Cond.fieldLink RX0 16 "ArcLight$ArcKeys" "last" "I", Cond.fieldLink RX0 11 "ArcLight$ArcKeys" "keys" "[[J", Cond.constantLong RX0 32 (-9223372036854775808), Cond.constantLong RX0 44 (117649), Cond.methodLink RX0 20 yX2_size, Cond.instanceMethod yX2_size, Cond.selects RX2 yX2_size yX2_size, Cond.initialized RX2, Cond.code yX2_size cX2_size 1 (some .int), Cond.fieldLink RX2 23 "ArcLight$Sentence" "last" "I", Cond.methodLink RX0 34 yX2_allows]
def wsX6_bestKey_r2 : List Cond := [Cond.instanceMethod yX2_allows, Cond.selects RX2 yX2_allows yX2_allows, Cond.code yX2_allows cX2_allows 4 (some .boolean), Cond.methodLink RX2 41 yX2_markOf, Cond.instanceMethod yX2_markOf, Cond.selects RX2 yX2_markOf yX2_markOf, Cond.code yX2_markOf cX2_markOf 3 (some .int), Cond.fieldLink RX2 20 "ArcLight$Sentence" "marks" "[[I", Cond.static yX6_isPlace, Cond.initialized RX6, Cond.code yX6_isPlace cX6_isPlace 1 (some .boolean), Cond.methodLink RX2 45 yX2_forcedHead, Cond.instanceMethod yX2_forcedHead, Cond.selects RX2 yX2_forcedHead yX2_forcedHead, Cond.code yX2_forcedHead cX2_forcedHead 3 (some .int), Cond.methodLink RX0 38 yX5_ofArc, Cond.instanceMethod yX5_ofArc, Cond.selects RX5 yX5_ofArc yX5_ofArc, Cond.initialized RX5, Cond.code yX5_ofArc cX5_ofArc 4 (some .int), Cond.methodLink RX5 46 yX2_byKinds, Cond.instanceMethod yX2_byKinds, Cond.selects RX2 yX2_byKinds yX2_byKinds, Cond.code yX2_byKinds cX2_byKinds 3 (some .int)]
def wsX6_bestKey_r3 : List Cond := [Cond.methodLink RX2 37 yX2_kindAt, Cond.instanceMethod yX2_kindAt, Cond.selects RX2 yX2_kindAt yX2_kindAt, Cond.code yX2_kindAt cX2_kindAt 2 (some .int), Cond.fieldLink RX2 9 "ArcLight$Sentence" "kinds" "[I", Cond.methodLink RX5 52 yX5_get, Cond.instanceMethod yX5_get, Cond.selects RX5 yX5_get yX5_get, Cond.code yX5_get cX5_get 2 (some .int), Cond.fieldLink RX5 9 "ArcLight$Weights" "now" "[I", Cond.methodLink RX5 42 yX5_isFeature, Cond.static yX5_isFeature, Cond.code yX5_isFeature cX5_isFeature 1 (some .boolean), Cond.static yX6_byDistance, Cond.code yX6_byDistance cX6_byDistance 3 (some .int), Cond.methodLink RX6 246 Lib.Math.abs.name, Cond.static Lib.Math.abs.name, Cond.code Lib.Math.abs.name Lib.Math.abs.code 1 (some .int), Cond.methodLink RX6 249 Lib.Math.min.name, Cond.methodLink RX6 222 yX1_greatest, Cond.instanceMethod yX1_greatest, Cond.selects RX1 yX1_greatest yX1_greatest, Cond.initialized RX1, Cond.code yX1_greatest cX1_greatest 8 (some .long)]
def wsX6_bestKey_r4 : List Cond := [Cond.methodLink RX1 36 Lib.Math.min.name, Cond.fieldLink RX1 26 "ArcLight$Circles" "nodes" "I", Cond.fieldLink RX1 11 "ArcLight$Circles" "keys" "[[J", Cond.constantLong RX1 50 (-9223372036854775808), Cond.methodLink RX1 30 yX0_size, Cond.instanceMethod yX0_size, Cond.selects RX0 yX0_size yX0_size, Cond.code yX0_size cX0_size 1 (some .int), Cond.methodLink RX1 42 yX0_get, Cond.instanceMethod yX0_get, Cond.selects RX0 yX0_get yX0_get, Cond.code yX0_get cX0_get 3 (some .long), Cond.methodLink RX1 46 yX1_takeGreatest, Cond.instanceMethod yX1_takeGreatest, Cond.selects RX1 yX1_takeGreatest yX1_takeGreatest, Cond.code yX1_takeGreatest cX1_takeGreatest 5 (some .long), Cond.fieldLink RX1 19 "ArcLight$Circles" "taken" "[I", Cond.methodLink RX1 59 yX1_takenKey, Cond.instanceMethod yX1_takenKey, Cond.selects RX1 yX1_takenKey yX1_takenKey, Cond.code yX1_takenKey cX1_takenKey 3 (some .long), Cond.methodLink RX1 63 yX1_takenHead, Cond.instanceMethod yX1_takenHead, Cond.selects RX1 yX1_takenHead yX1_takenHead]
def wsX6_bestKey_r5 : List Cond := [Cond.code yX1_takenHead cX1_takenHead 2 (some .int), Cond.methodLink RX1 52 yX1_findCircle, Cond.instanceMethod yX1_findCircle, Cond.selects RX1 yX1_findCircle yX1_findCircle, Cond.code yX1_findCircle cX1_findCircle 4 (some .int), Cond.methodLink RX1 55 yX1_contract, Cond.instanceMethod yX1_contract, Cond.selects RX1 yX1_contract yX1_contract, Cond.code yX1_contract cX1_contract 7 none, Cond.fieldLink RX1 16 "ArcLight$Circles" "contracted" "[[J", Cond.fieldLink RX1 23 "ArcLight$Circles" "groups" "[I", Cond.methodLink RX1 71 yX1_groupNodes, Cond.instanceMethod yX1_groupNodes, Cond.selects RX1 yX1_groupNodes yX1_groupNodes, Cond.code yX1_groupNodes cX1_groupNodes 5 (some .int), Cond.methodLink RX1 84 yJ7_fill_53178, Cond.static yJ7_fill_53178, Cond.initialized RJ7, Cond.code yJ7_fill_53178 cJ7_fill_53178 4 none, Cond.methodLink RX1 74 yJ7_fill_d0a16, Cond.static yJ7_fill_d0a16, Cond.code yJ7_fill_d0a16 cJ7_fill_d0a16 5 none, Cond.methodLink RX1 80 yX1_offer, Cond.instanceMethod yX1_offer]
def wsX6_bestKey_r6 : List Cond := [Cond.selects RX1 yX1_offer yX1_offer, Cond.code yX1_offer cX1_offer 5 none, Cond.methodLink RX6 225 yX3_greatest, Cond.instanceMethod yX3_greatest, Cond.selects RX3 yX3_greatest yX3_greatest, Cond.initialized RX3, Cond.code yX3_greatest cX3_greatest 5 (some .long), Cond.methodLink RX3 31 Lib.Math.min.name, Cond.fieldLink RX3 11 "ArcLight$Spans" "wholeFromLeft" "[[J", Cond.fieldLink RX3 16 "ArcLight$Spans" "wholeFromRight" "[[J", Cond.constantLong RX3 45 (-9223372036854775808), Cond.methodLink RX3 25 yX0_size, Cond.methodLink RX3 37 yX3_fillOpen, Cond.instanceMethod yX3_fillOpen, Cond.selects RX3 yX3_fillOpen yX3_fillOpen, Cond.code yX3_fillOpen cX3_fillOpen 7 none, Cond.methodLink RX3 55 Lib.MathLoose.max_long.x, Cond.static Lib.MathLoose.max_long.x, Cond.code Lib.MathLoose.max_long.x Lib.MathLoose.max_long.code 4 (some .long), Cond.fieldLink RX3 19 "ArcLight$Spans" "openFromLeft" "[[J", Cond.fieldLink RX3 22 "ArcLight$Spans" "openFromRight" "[[J", Cond.methodLink RX3 51 yX3_join, Cond.static yX3_join, Cond.code yX3_join cX3_join 4 (some .long)]
def wsX6_bestKey_r7 : List Cond := [Cond.methodLink RX3 58 yX0_get, Cond.methodLink RX3 41 yX3_fillWhole, Cond.instanceMethod yX3_fillWhole, Cond.selects RX3 yX3_fillWhole yX3_fillWhole, Cond.code yX3_fillWhole cX3_fillWhole 8 none, Cond.methodLink RX6 147 yX6_checkTree, Cond.static yX6_checkTree, Cond.code yX6_checkTree cX6_checkTree 2 none, Cond.classLink RX6 54 "java/lang/IllegalStateException", Cond.initialized "java/lang/IllegalStateException", Cond.constantLong RX6 210 (-9223372036854775808)]
def wsX6_bestKey : List Cond := .code yX6_bestKey cX6_bestKey 5 (some .long) :: ((wsX6_bestKey_r1 ++ (wsX6_bestKey_r2 ++ (wsX6_bestKey_r3 ++ (wsX6_bestKey_r4 ++ (wsX6_bestKey_r5 ++ (wsX6_bestKey_r6 ++ wsX6_bestKey_r7)))))) ++ wsX60 ++ wsX00 ++ wsX20 ++ wsX50 ++ wsX10 ++ wsX30 ++ (vx_atS RX6 58 "java/lang/IllegalStateException" ["java/lang/RuntimeException", "java/lang/Exception"]).filter goodWord)
def wsJ9_floorMod_f86c9 : List Cond := .code yJ9_floorMod_f86c9 cJ9_floorMod_f86c9 6 (some .long) :: ([])
def wsX6_rowOfHeads : List Cond := .code yX6_rowOfHeads cX6_rowOfHeads 2 (some .long) :: ([.constantLong RX6 232 (117649), .methodLink RX6 234 yJ9_floorMod_f86c9, .static yJ9_floorMod_f86c9, .initialized RJ9, .code yJ9_floorMod_f86c9 cJ9_floorMod_f86c9 6 (some .long)])
def wsX6_scoreIn : List Cond := .code yX6_scoreIn cX6_scoreIn 2 (some .int) :: ([.constantLong RX6 232 (117649), .methodLink RX6 240 yX6_rowOfHeads, .static yX6_rowOfHeads, .initialized RX6, .code yX6_rowOfHeads cX6_rowOfHeads 2 (some .long), .methodLink RX6 234 yJ9_floorMod_f86c9, .static yJ9_floorMod_f86c9, .initialized RJ9, .code yJ9_floorMod_f86c9 cJ9_floorMod_f86c9 6 (some .long)])
def wsX6_best_r1 : List Cond := [Cond.methodLink RX6 62 yX6_find, Cond.instanceMethod yX6_find, Cond.selects RX6 yX6_find yX6_find, Cond.initialized RX6, Cond.code yX6_find cX6_find 3 (some (.object "ArcLight$Sentence")), Cond.classLink RX6 197 "java/lang/IndexOutOfBoundsException", Cond.initialized "java/lang/IndexOutOfBoundsException", Cond.fieldLink RX6 11 "ArcLight" "all" "[LArcLight$Sentence;", Cond.methodLink RX6 135 yX6_bestKey, Cond.instanceMethod yX6_bestKey, Cond.selects RX6 yX6_bestKey yX6_bestKey, Cond.code yX6_bestKey cX6_bestKey 5 (some .long), Cond.fieldLink RX6 29 "ArcLight" "arcs" "LArcLight$ArcKeys;", Cond.fieldLink RX6 22 "ArcLight" "weights" "LArcLight$Weights;", Cond.fieldLink RX6 43 "ArcLight" "circles" "LArcLight$Circles;", Cond.fieldLink RX6 36 "ArcLight" "spans" "LArcLight$Spans;", Cond.methodLink RX6 214 yX0_fill, Cond.instanceMethod yX0_fill, Cond.selects RX0 yX0_fill yX0_fill, Cond.initialized RX0, Cond.code yX0_fill cX0_fill 5 none, Cond.methodLink RX0 26 Lib.Math.min.name, Cond.static Lib.Math.min.name, Cond.initialized "java/lang/Math"]
def wsX6_best_r2 : List Cond := [Cond.code Lib.Math.min.name Lib.Math.min.code 2 (some .int), Cond.fieldLink RX0 16 "ArcLight$ArcKeys" "last" "I", Cond.fieldLink RX0 11 "ArcLight$ArcKeys" "keys" "[[J", Cond.constantLong RX0 32 (-9223372036854775808), Cond.constantLong RX0 44 (117649), Cond.methodLink RX0 20 yX2_size, Cond.instanceMethod yX2_size, Cond.selects RX2 yX2_size yX2_size, Cond.initialized RX2, Cond.code yX2_size cX2_size 1 (some .int), Cond.fieldLink RX2 23 "ArcLight$Sentence" "last" "I", Cond.methodLink RX0 34 yX2_allows, Cond.instanceMethod yX2_allows, Cond.selects RX2 yX2_allows yX2_allows, Cond.code yX2_allows cX2_allows 4 (some .boolean), Cond.methodLink RX2 41 yX2_markOf, Cond.instanceMethod yX2_markOf, Cond.selects RX2 yX2_markOf yX2_markOf, Cond.code yX2_markOf cX2_markOf 3 (some .int), Cond.fieldLink RX2 20 "ArcLight$Sentence" "marks" "[[I", Cond.static yX6_isPlace, Cond.code yX6_isPlace cX6_isPlace 1 (some .boolean), Cond.methodLink RX2 45 yX2_forcedHead, Cond.instanceMethod yX2_forcedHead]
def wsX6_best_r3 : List Cond := [Cond.selects RX2 yX2_forcedHead yX2_forcedHead, Cond.code yX2_forcedHead cX2_forcedHead 3 (some .int), Cond.methodLink RX0 38 yX5_ofArc, Cond.instanceMethod yX5_ofArc, Cond.selects RX5 yX5_ofArc yX5_ofArc, Cond.initialized RX5, Cond.code yX5_ofArc cX5_ofArc 4 (some .int), Cond.methodLink RX5 46 yX2_byKinds, Cond.instanceMethod yX2_byKinds, Cond.selects RX2 yX2_byKinds yX2_byKinds, Cond.code yX2_byKinds cX2_byKinds 3 (some .int), Cond.methodLink RX2 37 yX2_kindAt, Cond.instanceMethod yX2_kindAt, Cond.selects RX2 yX2_kindAt yX2_kindAt, Cond.code yX2_kindAt cX2_kindAt 2 (some .int), Cond.fieldLink RX2 9 "ArcLight$Sentence" "kinds" "[I", Cond.methodLink RX5 52 yX5_get, Cond.instanceMethod yX5_get, Cond.selects RX5 yX5_get yX5_get, Cond.code yX5_get cX5_get 2 (some .int), Cond.fieldLink RX5 9 "ArcLight$Weights" "now" "[I", Cond.methodLink RX5 42 yX5_isFeature, Cond.static yX5_isFeature, Cond.code yX5_isFeature cX5_isFeature 1 (some .boolean)]
def wsX6_best_r4 : List Cond := [Cond.static yX6_byDistance, Cond.code yX6_byDistance cX6_byDistance 3 (some .int), Cond.methodLink RX6 246 Lib.Math.abs.name, Cond.static Lib.Math.abs.name, Cond.code Lib.Math.abs.name Lib.Math.abs.code 1 (some .int), Cond.methodLink RX6 249 Lib.Math.min.name, Cond.methodLink RX6 222 yX1_greatest, Cond.instanceMethod yX1_greatest, Cond.selects RX1 yX1_greatest yX1_greatest, Cond.initialized RX1, Cond.code yX1_greatest cX1_greatest 8 (some .long), Cond.methodLink RX1 36 Lib.Math.min.name, Cond.fieldLink RX1 26 "ArcLight$Circles" "nodes" "I", Cond.fieldLink RX1 11 "ArcLight$Circles" "keys" "[[J", Cond.constantLong RX1 50 (-9223372036854775808), Cond.methodLink RX1 30 yX0_size, Cond.instanceMethod yX0_size, Cond.selects RX0 yX0_size yX0_size, Cond.code yX0_size cX0_size 1 (some .int), Cond.methodLink RX1 42 yX0_get, Cond.instanceMethod yX0_get, Cond.selects RX0 yX0_get yX0_get, Cond.code yX0_get cX0_get 3 (some .long), Cond.methodLink RX1 46 yX1_takeGreatest]
def wsX6_best_r5 : List Cond := [Cond.instanceMethod yX1_takeGreatest, Cond.selects RX1 yX1_takeGreatest yX1_takeGreatest, Cond.code yX1_takeGreatest cX1_takeGreatest 5 (some .long), Cond.fieldLink RX1 19 "ArcLight$Circles" "taken" "[I", Cond.methodLink RX1 59 yX1_takenKey, Cond.instanceMethod yX1_takenKey, Cond.selects RX1 yX1_takenKey yX1_takenKey, Cond.code yX1_takenKey cX1_takenKey 3 (some .long), Cond.methodLink RX1 63 yX1_takenHead, Cond.instanceMethod yX1_takenHead, Cond.selects RX1 yX1_takenHead yX1_takenHead, Cond.code yX1_takenHead cX1_takenHead 2 (some .int), Cond.methodLink RX1 52 yX1_findCircle, Cond.instanceMethod yX1_findCircle, Cond.selects RX1 yX1_findCircle yX1_findCircle, Cond.code yX1_findCircle cX1_findCircle 4 (some .int), Cond.methodLink RX1 55 yX1_contract, Cond.instanceMethod yX1_contract, Cond.selects RX1 yX1_contract yX1_contract, Cond.code yX1_contract cX1_contract 7 none, Cond.fieldLink RX1 16 "ArcLight$Circles" "contracted" "[[J", Cond.fieldLink RX1 23 "ArcLight$Circles" "groups" "[I", Cond.methodLink RX1 71 yX1_groupNodes, Cond.instanceMethod yX1_groupNodes]
def wsX6_best_r6 : List Cond := [Cond.selects RX1 yX1_groupNodes yX1_groupNodes, Cond.code yX1_groupNodes cX1_groupNodes 5 (some .int), Cond.methodLink RX1 84 yJ7_fill_53178, Cond.static yJ7_fill_53178, Cond.initialized RJ7, Cond.code yJ7_fill_53178 cJ7_fill_53178 4 none, Cond.methodLink RX1 74 yJ7_fill_d0a16, Cond.static yJ7_fill_d0a16, Cond.code yJ7_fill_d0a16 cJ7_fill_d0a16 5 none, Cond.methodLink RX1 80 yX1_offer, Cond.instanceMethod yX1_offer, Cond.selects RX1 yX1_offer yX1_offer, Cond.code yX1_offer cX1_offer 5 none, Cond.methodLink RX6 225 yX3_greatest, Cond.instanceMethod yX3_greatest, Cond.selects RX3 yX3_greatest yX3_greatest, Cond.initialized RX3, Cond.code yX3_greatest cX3_greatest 5 (some .long), Cond.methodLink RX3 31 Lib.Math.min.name, Cond.fieldLink RX3 11 "ArcLight$Spans" "wholeFromLeft" "[[J", Cond.fieldLink RX3 16 "ArcLight$Spans" "wholeFromRight" "[[J", Cond.constantLong RX3 45 (-9223372036854775808), Cond.methodLink RX3 25 yX0_size, Cond.methodLink RX3 37 yX3_fillOpen]
def wsX6_best_r7 : List Cond := [Cond.instanceMethod yX3_fillOpen, Cond.selects RX3 yX3_fillOpen yX3_fillOpen, Cond.code yX3_fillOpen cX3_fillOpen 7 none, Cond.methodLink RX3 55 Lib.MathLoose.max_long.x, Cond.static Lib.MathLoose.max_long.x, Cond.code Lib.MathLoose.max_long.x Lib.MathLoose.max_long.code 4 (some .long), Cond.fieldLink RX3 19 "ArcLight$Spans" "openFromLeft" "[[J", Cond.fieldLink RX3 22 "ArcLight$Spans" "openFromRight" "[[J", Cond.methodLink RX3 51 yX3_join, Cond.static yX3_join, Cond.code yX3_join cX3_join 4 (some .long), Cond.methodLink RX3 58 yX0_get, Cond.methodLink RX3 41 yX3_fillWhole, Cond.instanceMethod yX3_fillWhole, Cond.selects RX3 yX3_fillWhole yX3_fillWhole, Cond.code yX3_fillWhole cX3_fillWhole 8 none, Cond.methodLink RX6 147 yX6_checkTree, Cond.static yX6_checkTree, Cond.code yX6_checkTree cX6_checkTree 2 none, Cond.classLink RX6 54 "java/lang/IllegalStateException", Cond.initialized "java/lang/IllegalStateException", Cond.constantLong RX6 210 (-9223372036854775808), Cond.methodLink RX6 139 yX6_scoreIn, Cond.static yX6_scoreIn]
def wsX6_best_r8 : List Cond := [Cond.code yX6_scoreIn cX6_scoreIn 2 (some .int), Cond.constantLong RX6 232 (117649), Cond.methodLink RX6 240 yX6_rowOfHeads, Cond.static yX6_rowOfHeads, Cond.code yX6_rowOfHeads cX6_rowOfHeads 2 (some .long), Cond.methodLink RX6 234 yJ9_floorMod_f86c9, Cond.static yJ9_floorMod_f86c9, Cond.initialized RJ9, Cond.code yJ9_floorMod_f86c9 cJ9_floorMod_f86c9 6 (some .long)]
def wsX6_best : List Cond := .code yX6_best cX6_best 3 (some .int) :: ((wsX6_best_r1 ++ (wsX6_best_r2 ++ (wsX6_best_r3 ++ (wsX6_best_r4 ++ (wsX6_best_r5 ++ (wsX6_best_r6 ++ (wsX6_best_r7 ++ wsX6_best_r8))))))) ++ wsX60 ++ wsX00 ++ wsX20 ++ wsX50 ++ wsX10 ++ wsX30 ++ (vx_atS RX6 201 "java/lang/IndexOutOfBoundsException" ["java/lang/RuntimeException", "java/lang/Exception"]).filter goodWord ++ (vx_atS RX6 58 "java/lang/IllegalStateException" ["java/lang/RuntimeException", "java/lang/Exception"]).filter goodWord)
def wsX6_bestByTrying_r1 : List Cond := [Cond.methodLink RX6 62 yX6_find, Cond.instanceMethod yX6_find, Cond.selects RX6 yX6_find yX6_find, Cond.initialized RX6, Cond.code yX6_find cX6_find 3 (some (.object "ArcLight$Sentence")), Cond.classLink RX6 197 "java/lang/IndexOutOfBoundsException", Cond.initialized "java/lang/IndexOutOfBoundsException", Cond.fieldLink RX6 11 "ArcLight" "all" "[LArcLight$Sentence;", Cond.methodLink RX6 130 yX6_tryAll, Cond.instanceMethod yX6_tryAll, Cond.selects RX6 yX6_tryAll yX6_tryAll, Cond.code yX6_tryAll cX6_tryAll 3 (some (.object "ArcLight$Trial")), Cond.fieldLink RX6 29 "ArcLight" "arcs" "LArcLight$ArcKeys;", Cond.fieldLink RX6 22 "ArcLight" "weights" "LArcLight$Weights;", Cond.fieldLink RX6 50 "ArcLight" "trial" "LArcLight$Trial;", Cond.methodLink RX6 214 yX0_fill, Cond.instanceMethod yX0_fill, Cond.selects RX0 yX0_fill yX0_fill, Cond.initialized RX0, Cond.code yX0_fill cX0_fill 5 none, Cond.methodLink RX0 26 Lib.Math.min.name, Cond.static Lib.Math.min.name, Cond.initialized "java/lang/Math", Cond.code Lib.Math.min.name Lib.Math.min.code 2 (some .int)]
def wsX6_bestByTrying_r2 : List Cond := [Cond.fieldLink RX0 16 "ArcLight$ArcKeys" "last" "I", Cond.fieldLink RX0 11 "ArcLight$ArcKeys" "keys" "[[J", Cond.constantLong RX0 32 (-9223372036854775808), Cond.constantLong RX0 44 (117649), Cond.methodLink RX0 20 yX2_size, Cond.instanceMethod yX2_size, Cond.selects RX2 yX2_size yX2_size, Cond.initialized RX2, Cond.code yX2_size cX2_size 1 (some .int), Cond.fieldLink RX2 23 "ArcLight$Sentence" "last" "I", Cond.methodLink RX0 34 yX2_allows, Cond.instanceMethod yX2_allows, Cond.selects RX2 yX2_allows yX2_allows, Cond.code yX2_allows cX2_allows 4 (some .boolean), Cond.methodLink RX2 41 yX2_markOf, Cond.instanceMethod yX2_markOf, Cond.selects RX2 yX2_markOf yX2_markOf, Cond.code yX2_markOf cX2_markOf 3 (some .int), Cond.fieldLink RX2 20 "ArcLight$Sentence" "marks" "[[I", Cond.static yX6_isPlace, Cond.code yX6_isPlace cX6_isPlace 1 (some .boolean), Cond.methodLink RX2 45 yX2_forcedHead, Cond.instanceMethod yX2_forcedHead, Cond.selects RX2 yX2_forcedHead yX2_forcedHead]
def wsX6_bestByTrying_r3 : List Cond := [Cond.code yX2_forcedHead cX2_forcedHead 3 (some .int), Cond.methodLink RX0 38 yX5_ofArc, Cond.instanceMethod yX5_ofArc, Cond.selects RX5 yX5_ofArc yX5_ofArc, Cond.initialized RX5, Cond.code yX5_ofArc cX5_ofArc 4 (some .int), Cond.methodLink RX5 46 yX2_byKinds, Cond.instanceMethod yX2_byKinds, Cond.selects RX2 yX2_byKinds yX2_byKinds, Cond.code yX2_byKinds cX2_byKinds 3 (some .int), Cond.methodLink RX2 37 yX2_kindAt, Cond.instanceMethod yX2_kindAt, Cond.selects RX2 yX2_kindAt yX2_kindAt, Cond.code yX2_kindAt cX2_kindAt 2 (some .int), Cond.fieldLink RX2 9 "ArcLight$Sentence" "kinds" "[I", Cond.methodLink RX5 52 yX5_get, Cond.instanceMethod yX5_get, Cond.selects RX5 yX5_get yX5_get, Cond.code yX5_get cX5_get 2 (some .int), Cond.fieldLink RX5 9 "ArcLight$Weights" "now" "[I", Cond.methodLink RX5 42 yX5_isFeature, Cond.static yX5_isFeature, Cond.code yX5_isFeature cX5_isFeature 1 (some .boolean), Cond.static yX6_byDistance]
def wsX6_bestByTrying_r4 : List Cond := [Cond.code yX6_byDistance cX6_byDistance 3 (some .int), Cond.methodLink RX6 246 Lib.Math.abs.name, Cond.static Lib.Math.abs.name, Cond.code Lib.Math.abs.name Lib.Math.abs.code 1 (some .int), Cond.methodLink RX6 249 Lib.Math.min.name, Cond.methodLink RX6 218 yX4_run, Cond.instanceMethod yX4_run, Cond.selects RX4 yX4_run yX4_run, Cond.initialized RX4, Cond.code yX4_run cX4_run 3 none, Cond.fieldLink RX4 19 "ArcLight$Trial" "found" "I", Cond.methodLink RX4 23 yX4_giveHeads, Cond.static yX4_giveHeads, Cond.code yX4_giveHeads cX4_giveHeads 9 none, Cond.constantLong RX4 27 (-9223372036854775808), Cond.fieldLink RX4 15 "ArcLight$Trial" "heads" "[I", Cond.methodLink RX4 52 yX0_size, Cond.instanceMethod yX0_size, Cond.selects RX0 yX0_size yX0_size, Cond.code yX0_size cX0_size 1 (some .int), Cond.methodLink RX4 58 yX4_note, Cond.instanceMethod yX4_note, Cond.selects RX4 yX4_note yX4_note, Cond.code yX4_note cX4_note 3 none]
def wsX6_bestByTrying_r5 : List Cond := [Cond.fieldLink RX4 9 "ArcLight$Trial" "keys" "[J", Cond.methodLink RX4 62 yX0_get, Cond.instanceMethod yX0_get, Cond.selects RX0 yX0_get yX0_get, Cond.code yX0_get cX0_get 3 (some .long), Cond.methodLink RX4 66 yX4_closesCircle, Cond.instanceMethod yX4_closesCircle, Cond.selects RX4 yX4_closesCircle yX4_closesCircle, Cond.code yX4_closesCircle cX4_closesCircle 5 (some .boolean), Cond.methodLink RX4 70 yX4_crossesEarlier, Cond.instanceMethod yX4_crossesEarlier, Cond.selects RX4 yX4_crossesEarlier yX4_crossesEarlier, Cond.code yX4_crossesEarlier cX4_crossesEarlier 4 (some .boolean), Cond.static yX6_doCross, Cond.code yX6_doCross cX6_doCross 8 (some .boolean), Cond.methodLink RX6 252 Lib.Math.max.name, Cond.static Lib.Math.max.name, Cond.code Lib.Math.max.name Lib.Math.max.code 2 (some .int), Cond.methodLink RX6 143 yX4_greatest, Cond.instanceMethod yX4_greatest, Cond.selects RX4 yX4_greatest yX4_greatest, Cond.code yX4_greatest cX4_greatest 4 (some .long), Cond.methodLink RX4 29 Lib.MathLoose.max_long.x, Cond.static Lib.MathLoose.max_long.x]
def wsX6_bestByTrying_r6 : List Cond := [Cond.code Lib.MathLoose.max_long.x Lib.MathLoose.max_long.code 4 (some .long), Cond.methodLink RX6 147 yX6_checkTree, Cond.static yX6_checkTree, Cond.code yX6_checkTree cX6_checkTree 2 none, Cond.classLink RX6 54 "java/lang/IllegalStateException", Cond.initialized "java/lang/IllegalStateException", Cond.constantLong RX6 210 (-9223372036854775808), Cond.methodLink RX6 139 yX6_scoreIn, Cond.static yX6_scoreIn, Cond.code yX6_scoreIn cX6_scoreIn 2 (some .int), Cond.constantLong RX6 232 (117649), Cond.methodLink RX6 240 yX6_rowOfHeads, Cond.static yX6_rowOfHeads, Cond.code yX6_rowOfHeads cX6_rowOfHeads 2 (some .long), Cond.methodLink RX6 234 yJ9_floorMod_f86c9, Cond.static yJ9_floorMod_f86c9, Cond.initialized RJ9, Cond.code yJ9_floorMod_f86c9 cJ9_floorMod_f86c9 6 (some .long)]
def wsX6_bestByTrying : List Cond := .code yX6_bestByTrying cX6_bestByTrying 5 (some .int) :: ((wsX6_bestByTrying_r1 ++ (wsX6_bestByTrying_r2 ++ (wsX6_bestByTrying_r3 ++ (wsX6_bestByTrying_r4 ++ (wsX6_bestByTrying_r5 ++ wsX6_bestByTrying_r6))))) ++ wsX60 ++ wsX00 ++ wsX20 ++ wsX50 ++ wsX40 ++ (vx_atS RX6 201 "java/lang/IndexOutOfBoundsException" ["java/lang/RuntimeException", "java/lang/Exception"]).filter goodWord ++ (vx_atS RX6 58 "java/lang/IllegalStateException" ["java/lang/RuntimeException", "java/lang/Exception"]).filter goodWord)
def wsX6_headIn : List Cond := .code yX6_headIn cX6_headIn 6 (some .int) :: ([.constantLong RX6 244 (7), .methodLink RX6 240 yX6_rowOfHeads, .static yX6_rowOfHeads, .initialized RX6, .code yX6_rowOfHeads cX6_rowOfHeads 2 (some .long), .constantLong RX6 232 (117649), .methodLink RX6 234 yJ9_floorMod_f86c9, .static yJ9_floorMod_f86c9, .initialized RJ9, .code yJ9_floorMod_f86c9 cJ9_floorMod_f86c9 6 (some .long)])
def wsX6_head_r1 : List Cond := [Cond.methodLink RX6 62 yX6_find, Cond.instanceMethod yX6_find, Cond.selects RX6 yX6_find yX6_find, Cond.initialized RX6, Cond.code yX6_find cX6_find 3 (some (.object "ArcLight$Sentence")), Cond.classLink RX6 197 "java/lang/IndexOutOfBoundsException", Cond.initialized "java/lang/IndexOutOfBoundsException", Cond.fieldLink RX6 11 "ArcLight" "all" "[LArcLight$Sentence;", Cond.methodLink RX6 81 yX6_checkWord, Cond.static yX6_checkWord, Cond.code yX6_checkWord cX6_checkWord 2 none, Cond.methodLink RX6 71 yX2_size, Cond.instanceMethod yX2_size, Cond.selects RX2 yX2_size yX2_size, Cond.initialized RX2, Cond.code yX2_size cX2_size 1 (some .int), Cond.fieldLink RX2 23 "ArcLight$Sentence" "last" "I", Cond.methodLink RX6 135 yX6_bestKey, Cond.instanceMethod yX6_bestKey, Cond.selects RX6 yX6_bestKey yX6_bestKey, Cond.code yX6_bestKey cX6_bestKey 5 (some .long), Cond.fieldLink RX6 29 "ArcLight" "arcs" "LArcLight$ArcKeys;", Cond.fieldLink RX6 22 "ArcLight" "weights" "LArcLight$Weights;", Cond.fieldLink RX6 43 "ArcLight" "circles" "LArcLight$Circles;"]
def wsX6_head_r2 : List Cond := [Cond.fieldLink RX6 36 "ArcLight" "spans" "LArcLight$Spans;", Cond.methodLink RX6 214 yX0_fill, Cond.instanceMethod yX0_fill, Cond.selects RX0 yX0_fill yX0_fill, Cond.initialized RX0, Cond.code yX0_fill cX0_fill 5 none, Cond.methodLink RX0 26 Lib.Math.min.name, Cond.static Lib.Math.min.name, Cond.initialized "java/lang/Math", Cond.code Lib.Math.min.name Lib.Math.min.code 2 (some .int), Cond.fieldLink RX0 16 "ArcLight$ArcKeys" "last" "I", Cond.fieldLink RX0 11 "ArcLight$ArcKeys" "keys" "[[J", Cond.constantLong RX0 32 (-9223372036854775808), Cond.constantLong RX0 44 (117649), Cond.methodLink RX0 20 yX2_size, Cond.methodLink RX0 34 yX2_allows, Cond.instanceMethod yX2_allows, Cond.selects RX2 yX2_allows yX2_allows, Cond.code yX2_allows cX2_allows 4 (some .boolean), Cond.methodLink RX2 41 yX2_markOf, Cond.instanceMethod yX2_markOf, Cond.selects RX2 yX2_markOf yX2_markOf, Cond.code yX2_markOf cX2_markOf 3 (some .int), Cond.fieldLink RX2 20 "ArcLight$Sentence" "marks" "[[I"]
def wsX6_head_r3 : List Cond := [Cond.static yX6_isPlace, Cond.code yX6_isPlace cX6_isPlace 1 (some .boolean), Cond.methodLink RX2 45 yX2_forcedHead, Cond.instanceMethod yX2_forcedHead, Cond.selects RX2 yX2_forcedHead yX2_forcedHead, Cond.code yX2_forcedHead cX2_forcedHead 3 (some .int), Cond.methodLink RX0 38 yX5_ofArc, Cond.instanceMethod yX5_ofArc, Cond.selects RX5 yX5_ofArc yX5_ofArc, Cond.initialized RX5, Cond.code yX5_ofArc cX5_ofArc 4 (some .int), Cond.methodLink RX5 46 yX2_byKinds, Cond.instanceMethod yX2_byKinds, Cond.selects RX2 yX2_byKinds yX2_byKinds, Cond.code yX2_byKinds cX2_byKinds 3 (some .int), Cond.methodLink RX2 37 yX2_kindAt, Cond.instanceMethod yX2_kindAt, Cond.selects RX2 yX2_kindAt yX2_kindAt, Cond.code yX2_kindAt cX2_kindAt 2 (some .int), Cond.fieldLink RX2 9 "ArcLight$Sentence" "kinds" "[I", Cond.methodLink RX5 52 yX5_get, Cond.instanceMethod yX5_get, Cond.selects RX5 yX5_get yX5_get, Cond.code yX5_get cX5_get 2 (some .int)]
def wsX6_head_r4 : List Cond := [Cond.fieldLink RX5 9 "ArcLight$Weights" "now" "[I", Cond.methodLink RX5 42 yX5_isFeature, Cond.static yX5_isFeature, Cond.code yX5_isFeature cX5_isFeature 1 (some .boolean), Cond.static yX6_byDistance, Cond.code yX6_byDistance cX6_byDistance 3 (some .int), Cond.methodLink RX6 246 Lib.Math.abs.name, Cond.static Lib.Math.abs.name, Cond.code Lib.Math.abs.name Lib.Math.abs.code 1 (some .int), Cond.methodLink RX6 249 Lib.Math.min.name, Cond.methodLink RX6 222 yX1_greatest, Cond.instanceMethod yX1_greatest, Cond.selects RX1 yX1_greatest yX1_greatest, Cond.initialized RX1, Cond.code yX1_greatest cX1_greatest 8 (some .long), Cond.methodLink RX1 36 Lib.Math.min.name, Cond.fieldLink RX1 26 "ArcLight$Circles" "nodes" "I", Cond.fieldLink RX1 11 "ArcLight$Circles" "keys" "[[J", Cond.constantLong RX1 50 (-9223372036854775808), Cond.methodLink RX1 30 yX0_size, Cond.instanceMethod yX0_size, Cond.selects RX0 yX0_size yX0_size, Cond.code yX0_size cX0_size 1 (some .int), Cond.methodLink RX1 42 yX0_get]
def wsX6_head_r5 : List Cond := [Cond.instanceMethod yX0_get, Cond.selects RX0 yX0_get yX0_get, Cond.code yX0_get cX0_get 3 (some .long), Cond.methodLink RX1 46 yX1_takeGreatest, Cond.instanceMethod yX1_takeGreatest, Cond.selects RX1 yX1_takeGreatest yX1_takeGreatest, Cond.code yX1_takeGreatest cX1_takeGreatest 5 (some .long), Cond.fieldLink RX1 19 "ArcLight$Circles" "taken" "[I", Cond.methodLink RX1 59 yX1_takenKey, Cond.instanceMethod yX1_takenKey, Cond.selects RX1 yX1_takenKey yX1_takenKey, Cond.code yX1_takenKey cX1_takenKey 3 (some .long), Cond.methodLink RX1 63 yX1_takenHead, Cond.instanceMethod yX1_takenHead, Cond.selects RX1 yX1_takenHead yX1_takenHead, Cond.code yX1_takenHead cX1_takenHead 2 (some .int), Cond.methodLink RX1 52 yX1_findCircle, Cond.instanceMethod yX1_findCircle, Cond.selects RX1 yX1_findCircle yX1_findCircle, Cond.code yX1_findCircle cX1_findCircle 4 (some .int), Cond.methodLink RX1 55 yX1_contract, Cond.instanceMethod yX1_contract, Cond.selects RX1 yX1_contract yX1_contract, Cond.code yX1_contract cX1_contract 7 none]
def wsX6_head_r6 : List Cond := [Cond.fieldLink RX1 16 "ArcLight$Circles" "contracted" "[[J", Cond.fieldLink RX1 23 "ArcLight$Circles" "groups" "[I", Cond.methodLink RX1 71 yX1_groupNodes, Cond.instanceMethod yX1_groupNodes, Cond.selects RX1 yX1_groupNodes yX1_groupNodes, Cond.code yX1_groupNodes cX1_groupNodes 5 (some .int), Cond.methodLink RX1 84 yJ7_fill_53178, Cond.static yJ7_fill_53178, Cond.initialized RJ7, Cond.code yJ7_fill_53178 cJ7_fill_53178 4 none, Cond.methodLink RX1 74 yJ7_fill_d0a16, Cond.static yJ7_fill_d0a16, Cond.code yJ7_fill_d0a16 cJ7_fill_d0a16 5 none, Cond.methodLink RX1 80 yX1_offer, Cond.instanceMethod yX1_offer, Cond.selects RX1 yX1_offer yX1_offer, Cond.code yX1_offer cX1_offer 5 none, Cond.methodLink RX6 225 yX3_greatest, Cond.instanceMethod yX3_greatest, Cond.selects RX3 yX3_greatest yX3_greatest, Cond.initialized RX3, Cond.code yX3_greatest cX3_greatest 5 (some .long), Cond.methodLink RX3 31 Lib.Math.min.name, Cond.fieldLink RX3 11 "ArcLight$Spans" "wholeFromLeft" "[[J"]
def wsX6_head_r7 : List Cond := [Cond.fieldLink RX3 16 "ArcLight$Spans" "wholeFromRight" "[[J", Cond.constantLong RX3 45 (-9223372036854775808), Cond.methodLink RX3 25 yX0_size, Cond.methodLink RX3 37 yX3_fillOpen, Cond.instanceMethod yX3_fillOpen, Cond.selects RX3 yX3_fillOpen yX3_fillOpen, Cond.code yX3_fillOpen cX3_fillOpen 7 none, Cond.methodLink RX3 55 Lib.MathLoose.max_long.x, Cond.static Lib.MathLoose.max_long.x, Cond.code Lib.MathLoose.max_long.x Lib.MathLoose.max_long.code 4 (some .long), Cond.fieldLink RX3 19 "ArcLight$Spans" "openFromLeft" "[[J", Cond.fieldLink RX3 22 "ArcLight$Spans" "openFromRight" "[[J", Cond.methodLink RX3 51 yX3_join, Cond.static yX3_join, Cond.code yX3_join cX3_join 4 (some .long), Cond.methodLink RX3 58 yX0_get, Cond.methodLink RX3 41 yX3_fillWhole, Cond.instanceMethod yX3_fillWhole, Cond.selects RX3 yX3_fillWhole yX3_fillWhole, Cond.code yX3_fillWhole cX3_fillWhole 8 none, Cond.methodLink RX6 147 yX6_checkTree, Cond.static yX6_checkTree, Cond.code yX6_checkTree cX6_checkTree 2 none, Cond.classLink RX6 54 "java/lang/IllegalStateException"]
def wsX6_head_r8 : List Cond := [Cond.initialized "java/lang/IllegalStateException", Cond.constantLong RX6 210 (-9223372036854775808), Cond.methodLink RX6 151 yX6_headIn, Cond.static yX6_headIn, Cond.code yX6_headIn cX6_headIn 6 (some .int), Cond.constantLong RX6 244 (7), Cond.methodLink RX6 240 yX6_rowOfHeads, Cond.static yX6_rowOfHeads, Cond.code yX6_rowOfHeads cX6_rowOfHeads 2 (some .long), Cond.constantLong RX6 232 (117649), Cond.methodLink RX6 234 yJ9_floorMod_f86c9, Cond.static yJ9_floorMod_f86c9, Cond.initialized RJ9, Cond.code yJ9_floorMod_f86c9 cJ9_floorMod_f86c9 6 (some .long)]
def wsX6_head : List Cond := .code yX6_head cX6_head 5 (some .int) :: ((wsX6_head_r1 ++ (wsX6_head_r2 ++ (wsX6_head_r3 ++ (wsX6_head_r4 ++ (wsX6_head_r5 ++ (wsX6_head_r6 ++ (wsX6_head_r7 ++ wsX6_head_r8))))))) ++ wsX60 ++ wsX20 ++ wsX00 ++ wsX50 ++ wsX10 ++ wsX30 ++ (vx_atS RX6 201 "java/lang/IndexOutOfBoundsException" ["java/lang/RuntimeException", "java/lang/Exception"]).filter goodWord ++ (vx_atS RX6 58 "java/lang/IllegalStateException" ["java/lang/RuntimeException", "java/lang/Exception"]).filter goodWord)
def wsX6_crossings_r1 : List Cond := [Cond.methodLink RX6 62 yX6_find, Cond.instanceMethod yX6_find, Cond.selects RX6 yX6_find yX6_find, Cond.initialized RX6, Cond.code yX6_find cX6_find 3 (some (.object "ArcLight$Sentence")), Cond.classLink RX6 197 "java/lang/IndexOutOfBoundsException", Cond.initialized "java/lang/IndexOutOfBoundsException", Cond.fieldLink RX6 11 "ArcLight" "all" "[LArcLight$Sentence;", Cond.methodLink RX6 135 yX6_bestKey, Cond.instanceMethod yX6_bestKey, Cond.selects RX6 yX6_bestKey yX6_bestKey, Cond.code yX6_bestKey cX6_bestKey 5 (some .long), Cond.fieldLink RX6 29 "ArcLight" "arcs" "LArcLight$ArcKeys;", Cond.fieldLink RX6 22 "ArcLight" "weights" "LArcLight$Weights;", Cond.fieldLink RX6 43 "ArcLight" "circles" "LArcLight$Circles;", Cond.fieldLink RX6 36 "ArcLight" "spans" "LArcLight$Spans;", Cond.methodLink RX6 214 yX0_fill, Cond.instanceMethod yX0_fill, Cond.selects RX0 yX0_fill yX0_fill, Cond.initialized RX0, Cond.code yX0_fill cX0_fill 5 none, Cond.methodLink RX0 26 Lib.Math.min.name, Cond.static Lib.Math.min.name, Cond.initialized "java/lang/Math"]
def wsX6_crossings_r2 : List Cond := [Cond.code Lib.Math.min.name Lib.Math.min.code 2 (some .int), Cond.fieldLink RX0 16 "ArcLight$ArcKeys" "last" "I", Cond.fieldLink RX0 11 "ArcLight$ArcKeys" "keys" "[[J", Cond.constantLong RX0 32 (-9223372036854775808), Cond.constantLong RX0 44 (117649), Cond.methodLink RX0 20 yX2_size, Cond.instanceMethod yX2_size, Cond.selects RX2 yX2_size yX2_size, Cond.initialized RX2, Cond.code yX2_size cX2_size 1 (some .int), Cond.fieldLink RX2 23 "ArcLight$Sentence" "last" "I", Cond.methodLink RX0 34 yX2_allows, Cond.instanceMethod yX2_allows, Cond.selects RX2 yX2_allows yX2_allows, Cond.code yX2_allows cX2_allows 4 (some .boolean), Cond.methodLink RX2 41 yX2_markOf, Cond.instanceMethod yX2_markOf, Cond.selects RX2 yX2_markOf yX2_markOf, Cond.code yX2_markOf cX2_markOf 3 (some .int), Cond.fieldLink RX2 20 "ArcLight$Sentence" "marks" "[[I", Cond.static yX6_isPlace, Cond.code yX6_isPlace cX6_isPlace 1 (some .boolean), Cond.methodLink RX2 45 yX2_forcedHead, Cond.instanceMethod yX2_forcedHead]
def wsX6_crossings_r3 : List Cond := [Cond.selects RX2 yX2_forcedHead yX2_forcedHead, Cond.code yX2_forcedHead cX2_forcedHead 3 (some .int), Cond.methodLink RX0 38 yX5_ofArc, Cond.instanceMethod yX5_ofArc, Cond.selects RX5 yX5_ofArc yX5_ofArc, Cond.initialized RX5, Cond.code yX5_ofArc cX5_ofArc 4 (some .int), Cond.methodLink RX5 46 yX2_byKinds, Cond.instanceMethod yX2_byKinds, Cond.selects RX2 yX2_byKinds yX2_byKinds, Cond.code yX2_byKinds cX2_byKinds 3 (some .int), Cond.methodLink RX2 37 yX2_kindAt, Cond.instanceMethod yX2_kindAt, Cond.selects RX2 yX2_kindAt yX2_kindAt, Cond.code yX2_kindAt cX2_kindAt 2 (some .int), Cond.fieldLink RX2 9 "ArcLight$Sentence" "kinds" "[I", Cond.methodLink RX5 52 yX5_get, Cond.instanceMethod yX5_get, Cond.selects RX5 yX5_get yX5_get, Cond.code yX5_get cX5_get 2 (some .int), Cond.fieldLink RX5 9 "ArcLight$Weights" "now" "[I", Cond.methodLink RX5 42 yX5_isFeature, Cond.static yX5_isFeature, Cond.code yX5_isFeature cX5_isFeature 1 (some .boolean)]
def wsX6_crossings_r4 : List Cond := [Cond.static yX6_byDistance, Cond.code yX6_byDistance cX6_byDistance 3 (some .int), Cond.methodLink RX6 246 Lib.Math.abs.name, Cond.static Lib.Math.abs.name, Cond.code Lib.Math.abs.name Lib.Math.abs.code 1 (some .int), Cond.methodLink RX6 249 Lib.Math.min.name, Cond.methodLink RX6 222 yX1_greatest, Cond.instanceMethod yX1_greatest, Cond.selects RX1 yX1_greatest yX1_greatest, Cond.initialized RX1, Cond.code yX1_greatest cX1_greatest 8 (some .long), Cond.methodLink RX1 36 Lib.Math.min.name, Cond.fieldLink RX1 26 "ArcLight$Circles" "nodes" "I", Cond.fieldLink RX1 11 "ArcLight$Circles" "keys" "[[J", Cond.constantLong RX1 50 (-9223372036854775808), Cond.methodLink RX1 30 yX0_size, Cond.instanceMethod yX0_size, Cond.selects RX0 yX0_size yX0_size, Cond.code yX0_size cX0_size 1 (some .int), Cond.methodLink RX1 42 yX0_get, Cond.instanceMethod yX0_get, Cond.selects RX0 yX0_get yX0_get, Cond.code yX0_get cX0_get 3 (some .long), Cond.methodLink RX1 46 yX1_takeGreatest]
def wsX6_crossings_r5 : List Cond := [Cond.instanceMethod yX1_takeGreatest, Cond.selects RX1 yX1_takeGreatest yX1_takeGreatest, Cond.code yX1_takeGreatest cX1_takeGreatest 5 (some .long), Cond.fieldLink RX1 19 "ArcLight$Circles" "taken" "[I", Cond.methodLink RX1 59 yX1_takenKey, Cond.instanceMethod yX1_takenKey, Cond.selects RX1 yX1_takenKey yX1_takenKey, Cond.code yX1_takenKey cX1_takenKey 3 (some .long), Cond.methodLink RX1 63 yX1_takenHead, Cond.instanceMethod yX1_takenHead, Cond.selects RX1 yX1_takenHead yX1_takenHead, Cond.code yX1_takenHead cX1_takenHead 2 (some .int), Cond.methodLink RX1 52 yX1_findCircle, Cond.instanceMethod yX1_findCircle, Cond.selects RX1 yX1_findCircle yX1_findCircle, Cond.code yX1_findCircle cX1_findCircle 4 (some .int), Cond.methodLink RX1 55 yX1_contract, Cond.instanceMethod yX1_contract, Cond.selects RX1 yX1_contract yX1_contract, Cond.code yX1_contract cX1_contract 7 none, Cond.fieldLink RX1 16 "ArcLight$Circles" "contracted" "[[J", Cond.fieldLink RX1 23 "ArcLight$Circles" "groups" "[I", Cond.methodLink RX1 71 yX1_groupNodes, Cond.instanceMethod yX1_groupNodes]
def wsX6_crossings_r6 : List Cond := [Cond.selects RX1 yX1_groupNodes yX1_groupNodes, Cond.code yX1_groupNodes cX1_groupNodes 5 (some .int), Cond.methodLink RX1 84 yJ7_fill_53178, Cond.static yJ7_fill_53178, Cond.initialized RJ7, Cond.code yJ7_fill_53178 cJ7_fill_53178 4 none, Cond.methodLink RX1 74 yJ7_fill_d0a16, Cond.static yJ7_fill_d0a16, Cond.code yJ7_fill_d0a16 cJ7_fill_d0a16 5 none, Cond.methodLink RX1 80 yX1_offer, Cond.instanceMethod yX1_offer, Cond.selects RX1 yX1_offer yX1_offer, Cond.code yX1_offer cX1_offer 5 none, Cond.methodLink RX6 225 yX3_greatest, Cond.instanceMethod yX3_greatest, Cond.selects RX3 yX3_greatest yX3_greatest, Cond.initialized RX3, Cond.code yX3_greatest cX3_greatest 5 (some .long), Cond.methodLink RX3 31 Lib.Math.min.name, Cond.fieldLink RX3 11 "ArcLight$Spans" "wholeFromLeft" "[[J", Cond.fieldLink RX3 16 "ArcLight$Spans" "wholeFromRight" "[[J", Cond.constantLong RX3 45 (-9223372036854775808), Cond.methodLink RX3 25 yX0_size, Cond.methodLink RX3 37 yX3_fillOpen]
def wsX6_crossings_r7 : List Cond := [Cond.instanceMethod yX3_fillOpen, Cond.selects RX3 yX3_fillOpen yX3_fillOpen, Cond.code yX3_fillOpen cX3_fillOpen 7 none, Cond.methodLink RX3 55 Lib.MathLoose.max_long.x, Cond.static Lib.MathLoose.max_long.x, Cond.code Lib.MathLoose.max_long.x Lib.MathLoose.max_long.code 4 (some .long), Cond.fieldLink RX3 19 "ArcLight$Spans" "openFromLeft" "[[J", Cond.fieldLink RX3 22 "ArcLight$Spans" "openFromRight" "[[J", Cond.methodLink RX3 51 yX3_join, Cond.static yX3_join, Cond.code yX3_join cX3_join 4 (some .long), Cond.methodLink RX3 58 yX0_get, Cond.methodLink RX3 41 yX3_fillWhole, Cond.instanceMethod yX3_fillWhole, Cond.selects RX3 yX3_fillWhole yX3_fillWhole, Cond.code yX3_fillWhole cX3_fillWhole 8 none, Cond.methodLink RX6 147 yX6_checkTree, Cond.static yX6_checkTree, Cond.code yX6_checkTree cX6_checkTree 2 none, Cond.classLink RX6 54 "java/lang/IllegalStateException", Cond.initialized "java/lang/IllegalStateException", Cond.constantLong RX6 210 (-9223372036854775808), Cond.methodLink RX6 71 yX2_size, Cond.methodLink RX6 151 yX6_headIn]
def wsX6_crossings_r8 : List Cond := [Cond.static yX6_headIn, Cond.code yX6_headIn cX6_headIn 6 (some .int), Cond.constantLong RX6 244 (7), Cond.methodLink RX6 240 yX6_rowOfHeads, Cond.static yX6_rowOfHeads, Cond.code yX6_rowOfHeads cX6_rowOfHeads 2 (some .long), Cond.constantLong RX6 232 (117649), Cond.methodLink RX6 234 yJ9_floorMod_f86c9, Cond.static yJ9_floorMod_f86c9, Cond.initialized RJ9, Cond.code yJ9_floorMod_f86c9 cJ9_floorMod_f86c9 6 (some .long), Cond.methodLink RX6 155 yX6_doCross, Cond.static yX6_doCross, Cond.code yX6_doCross cX6_doCross 8 (some .boolean), Cond.methodLink RX6 252 Lib.Math.max.name, Cond.static Lib.Math.max.name, Cond.code Lib.Math.max.name Lib.Math.max.code 2 (some .int)]
def wsX6_crossings : List Cond := .code yX6_crossings cX6_crossings 8 (some .int) :: ((wsX6_crossings_r1 ++ (wsX6_crossings_r2 ++ (wsX6_crossings_r3 ++ (wsX6_crossings_r4 ++ (wsX6_crossings_r5 ++ (wsX6_crossings_r6 ++ (wsX6_crossings_r7 ++ wsX6_crossings_r8))))))) ++ wsX60 ++ wsX00 ++ wsX20 ++ wsX50 ++ wsX10 ++ wsX30 ++ (vx_atS RX6 201 "java/lang/IndexOutOfBoundsException" ["java/lang/RuntimeException", "java/lang/Exception"]).filter goodWord ++ (vx_atS RX6 58 "java/lang/IllegalStateException" ["java/lang/RuntimeException", "java/lang/Exception"]).filter goodWord)
def wsX6_rankedKey_r1 : List Cond := [Cond.classLink RX6 197 "java/lang/IndexOutOfBoundsException", Cond.initialized "java/lang/IndexOutOfBoundsException", Cond.methodLink RX6 130 yX6_tryAll, Cond.instanceMethod yX6_tryAll, Cond.selects RX6 yX6_tryAll yX6_tryAll, Cond.initialized RX6, Cond.code yX6_tryAll cX6_tryAll 3 (some (.object "ArcLight$Trial")), Cond.fieldLink RX6 29 "ArcLight" "arcs" "LArcLight$ArcKeys;", Cond.fieldLink RX6 22 "ArcLight" "weights" "LArcLight$Weights;", Cond.fieldLink RX6 50 "ArcLight" "trial" "LArcLight$Trial;", Cond.methodLink RX6 214 yX0_fill, Cond.instanceMethod yX0_fill, Cond.selects RX0 yX0_fill yX0_fill, Cond.initialized RX0, Cond.code yX0_fill cX0_fill 5 none, Cond.methodLink RX0 26 Lib.Math.min.name, Cond.static Lib.Math.min.name, Cond.initialized "java/lang/Math", Cond.code Lib.Math.min.name Lib.Math.min.code 2 (some .int), Cond.fieldLink RX0 16 "ArcLight$ArcKeys" "last" "I", Cond.fieldLink RX0 11 "ArcLight$ArcKeys" "keys" "[[J", Cond.constantLong RX0 32 (-9223372036854775808), Cond.constantLong RX0 44 (117649), Cond.methodLink RX0 20 yX2_size]
def wsX6_rankedKey_r2 : List Cond := [Cond.instanceMethod yX2_size, Cond.selects RX2 yX2_size yX2_size, Cond.initialized RX2, Cond.code yX2_size cX2_size 1 (some .int), Cond.fieldLink RX2 23 "ArcLight$Sentence" "last" "I", Cond.methodLink RX0 34 yX2_allows, Cond.instanceMethod yX2_allows, Cond.selects RX2 yX2_allows yX2_allows, Cond.code yX2_allows cX2_allows 4 (some .boolean), Cond.methodLink RX2 41 yX2_markOf, Cond.instanceMethod yX2_markOf, Cond.selects RX2 yX2_markOf yX2_markOf, Cond.code yX2_markOf cX2_markOf 3 (some .int), Cond.fieldLink RX2 20 "ArcLight$Sentence" "marks" "[[I", Cond.static yX6_isPlace, Cond.code yX6_isPlace cX6_isPlace 1 (some .boolean), Cond.methodLink RX2 45 yX2_forcedHead, Cond.instanceMethod yX2_forcedHead, Cond.selects RX2 yX2_forcedHead yX2_forcedHead, Cond.code yX2_forcedHead cX2_forcedHead 3 (some .int), Cond.methodLink RX0 38 yX5_ofArc, Cond.instanceMethod yX5_ofArc, Cond.selects RX5 yX5_ofArc yX5_ofArc, Cond.initialized RX5]
def wsX6_rankedKey_r3 : List Cond := [Cond.code yX5_ofArc cX5_ofArc 4 (some .int), Cond.methodLink RX5 46 yX2_byKinds, Cond.instanceMethod yX2_byKinds, Cond.selects RX2 yX2_byKinds yX2_byKinds, Cond.code yX2_byKinds cX2_byKinds 3 (some .int), Cond.methodLink RX2 37 yX2_kindAt, Cond.instanceMethod yX2_kindAt, Cond.selects RX2 yX2_kindAt yX2_kindAt, Cond.code yX2_kindAt cX2_kindAt 2 (some .int), Cond.fieldLink RX2 9 "ArcLight$Sentence" "kinds" "[I", Cond.methodLink RX5 52 yX5_get, Cond.instanceMethod yX5_get, Cond.selects RX5 yX5_get yX5_get, Cond.code yX5_get cX5_get 2 (some .int), Cond.fieldLink RX5 9 "ArcLight$Weights" "now" "[I", Cond.methodLink RX5 42 yX5_isFeature, Cond.static yX5_isFeature, Cond.code yX5_isFeature cX5_isFeature 1 (some .boolean), Cond.static yX6_byDistance, Cond.code yX6_byDistance cX6_byDistance 3 (some .int), Cond.methodLink RX6 246 Lib.Math.abs.name, Cond.static Lib.Math.abs.name, Cond.code Lib.Math.abs.name Lib.Math.abs.code 1 (some .int), Cond.methodLink RX6 249 Lib.Math.min.name]
def wsX6_rankedKey_r4 : List Cond := [Cond.methodLink RX6 218 yX4_run, Cond.instanceMethod yX4_run, Cond.selects RX4 yX4_run yX4_run, Cond.initialized RX4, Cond.code yX4_run cX4_run 3 none, Cond.fieldLink RX4 19 "ArcLight$Trial" "found" "I", Cond.methodLink RX4 23 yX4_giveHeads, Cond.static yX4_giveHeads, Cond.code yX4_giveHeads cX4_giveHeads 9 none, Cond.constantLong RX4 27 (-9223372036854775808), Cond.fieldLink RX4 15 "ArcLight$Trial" "heads" "[I", Cond.methodLink RX4 52 yX0_size, Cond.instanceMethod yX0_size, Cond.selects RX0 yX0_size yX0_size, Cond.code yX0_size cX0_size 1 (some .int), Cond.methodLink RX4 58 yX4_note, Cond.instanceMethod yX4_note, Cond.selects RX4 yX4_note yX4_note, Cond.code yX4_note cX4_note 3 none, Cond.fieldLink RX4 9 "ArcLight$Trial" "keys" "[J", Cond.methodLink RX4 62 yX0_get, Cond.instanceMethod yX0_get, Cond.selects RX0 yX0_get yX0_get, Cond.code yX0_get cX0_get 3 (some .long)]
def wsX6_rankedKey_r5 : List Cond := [Cond.methodLink RX4 66 yX4_closesCircle, Cond.instanceMethod yX4_closesCircle, Cond.selects RX4 yX4_closesCircle yX4_closesCircle, Cond.code yX4_closesCircle cX4_closesCircle 5 (some .boolean), Cond.methodLink RX4 70 yX4_crossesEarlier, Cond.instanceMethod yX4_crossesEarlier, Cond.selects RX4 yX4_crossesEarlier yX4_crossesEarlier, Cond.code yX4_crossesEarlier cX4_crossesEarlier 4 (some .boolean), Cond.static yX6_doCross, Cond.code yX6_doCross cX6_doCross 8 (some .boolean), Cond.methodLink RX6 252 Lib.Math.max.name, Cond.static Lib.Math.max.name, Cond.code Lib.Math.max.name Lib.Math.max.code 2 (some .int), Cond.methodLink RX6 134 yX4_size, Cond.instanceMethod yX4_size, Cond.selects RX4 yX4_size yX4_size, Cond.code yX4_size cX4_size 1 (some .int), Cond.methodLink RX6 228 yX4_ofRank, Cond.instanceMethod yX4_ofRank, Cond.selects RX4 yX4_ofRank yX4_ofRank, Cond.code yX4_ofRank cX4_ofRank 9 (some .long), Cond.constantLong RX4 43 (2), Cond.methodLink RX4 35 yX4_greatest, Cond.instanceMethod yX4_greatest]
def wsX6_rankedKey_r6 : List Cond := [Cond.selects RX4 yX4_greatest yX4_greatest, Cond.code yX4_greatest cX4_greatest 4 (some .long), Cond.methodLink RX4 29 Lib.MathLoose.max_long.x, Cond.static Lib.MathLoose.max_long.x, Cond.code Lib.MathLoose.max_long.x Lib.MathLoose.max_long.code 4 (some .long), Cond.methodLink RX4 39 yX4_least, Cond.instanceMethod yX4_least, Cond.selects RX4 yX4_least yX4_least, Cond.code yX4_least cX4_least 6 (some .long), Cond.methodLink RX4 49 Lib.MathLoose.min_long.x, Cond.static Lib.MathLoose.min_long.x, Cond.code Lib.MathLoose.min_long.x Lib.MathLoose.min_long.code 4 (some .long), Cond.methodLink RX4 45 yX4_countAbove, Cond.instanceMethod yX4_countAbove, Cond.selects RX4 yX4_countAbove yX4_countAbove, Cond.code yX4_countAbove cX4_countAbove 5 (some .int)]
def wsX6_rankedKey : List Cond := .code yX6_rankedKey cX6_rankedKey 5 (some .long) :: ((wsX6_rankedKey_r1 ++ (wsX6_rankedKey_r2 ++ (wsX6_rankedKey_r3 ++ (wsX6_rankedKey_r4 ++ (wsX6_rankedKey_r5 ++ wsX6_rankedKey_r6))))) ++ wsX60 ++ wsX00 ++ wsX20 ++ wsX50 ++ wsX40 ++ (vx_atS RX6 201 "java/lang/IndexOutOfBoundsException" ["java/lang/RuntimeException", "java/lang/Exception"]).filter goodWord)
def wsX6_ranked_r1 : List Cond := [Cond.methodLink RX6 62 yX6_find, Cond.instanceMethod yX6_find, Cond.selects RX6 yX6_find yX6_find, Cond.initialized RX6, Cond.code yX6_find cX6_find 3 (some (.object "ArcLight$Sentence")), Cond.classLink RX6 197 "java/lang/IndexOutOfBoundsException", Cond.initialized "java/lang/IndexOutOfBoundsException", Cond.fieldLink RX6 11 "ArcLight" "all" "[LArcLight$Sentence;", Cond.methodLink RX6 159 yX6_rankedKey, Cond.instanceMethod yX6_rankedKey, Cond.selects RX6 yX6_rankedKey yX6_rankedKey, Cond.code yX6_rankedKey cX6_rankedKey 5 (some .long), Cond.methodLink RX6 130 yX6_tryAll, Cond.instanceMethod yX6_tryAll, Cond.selects RX6 yX6_tryAll yX6_tryAll, Cond.code yX6_tryAll cX6_tryAll 3 (some (.object "ArcLight$Trial")), Cond.fieldLink RX6 29 "ArcLight" "arcs" "LArcLight$ArcKeys;", Cond.fieldLink RX6 22 "ArcLight" "weights" "LArcLight$Weights;", Cond.fieldLink RX6 50 "ArcLight" "trial" "LArcLight$Trial;", Cond.methodLink RX6 214 yX0_fill, Cond.instanceMethod yX0_fill, Cond.selects RX0 yX0_fill yX0_fill, Cond.initialized RX0, Cond.code yX0_fill cX0_fill 5 none]
def wsX6_ranked_r2 : List Cond := [Cond.methodLink RX0 26 Lib.Math.min.name, Cond.static Lib.Math.min.name, Cond.initialized "java/lang/Math", Cond.code Lib.Math.min.name Lib.Math.min.code 2 (some .int), Cond.fieldLink RX0 16 "ArcLight$ArcKeys" "last" "I", Cond.fieldLink RX0 11 "ArcLight$ArcKeys" "keys" "[[J", Cond.constantLong RX0 32 (-9223372036854775808), Cond.constantLong RX0 44 (117649), Cond.methodLink RX0 20 yX2_size, Cond.instanceMethod yX2_size, Cond.selects RX2 yX2_size yX2_size, Cond.initialized RX2, Cond.code yX2_size cX2_size 1 (some .int), Cond.fieldLink RX2 23 "ArcLight$Sentence" "last" "I", Cond.methodLink RX0 34 yX2_allows, Cond.instanceMethod yX2_allows, Cond.selects RX2 yX2_allows yX2_allows, Cond.code yX2_allows cX2_allows 4 (some .boolean), Cond.methodLink RX2 41 yX2_markOf, Cond.instanceMethod yX2_markOf, Cond.selects RX2 yX2_markOf yX2_markOf, Cond.code yX2_markOf cX2_markOf 3 (some .int), Cond.fieldLink RX2 20 "ArcLight$Sentence" "marks" "[[I", Cond.static yX6_isPlace]
def wsX6_ranked_r3 : List Cond := [Cond.code yX6_isPlace cX6_isPlace 1 (some .boolean), Cond.methodLink RX2 45 yX2_forcedHead, Cond.instanceMethod yX2_forcedHead, Cond.selects RX2 yX2_forcedHead yX2_forcedHead, Cond.code yX2_forcedHead cX2_forcedHead 3 (some .int), Cond.methodLink RX0 38 yX5_ofArc, Cond.instanceMethod yX5_ofArc, Cond.selects RX5 yX5_ofArc yX5_ofArc, Cond.initialized RX5, Cond.code yX5_ofArc cX5_ofArc 4 (some .int), Cond.methodLink RX5 46 yX2_byKinds, Cond.instanceMethod yX2_byKinds, Cond.selects RX2 yX2_byKinds yX2_byKinds, Cond.code yX2_byKinds cX2_byKinds 3 (some .int), Cond.methodLink RX2 37 yX2_kindAt, Cond.instanceMethod yX2_kindAt, Cond.selects RX2 yX2_kindAt yX2_kindAt, Cond.code yX2_kindAt cX2_kindAt 2 (some .int), Cond.fieldLink RX2 9 "ArcLight$Sentence" "kinds" "[I", Cond.methodLink RX5 52 yX5_get, Cond.instanceMethod yX5_get, Cond.selects RX5 yX5_get yX5_get, Cond.code yX5_get cX5_get 2 (some .int), Cond.fieldLink RX5 9 "ArcLight$Weights" "now" "[I"]
def wsX6_ranked_r4 : List Cond := [Cond.methodLink RX5 42 yX5_isFeature, Cond.static yX5_isFeature, Cond.code yX5_isFeature cX5_isFeature 1 (some .boolean), Cond.static yX6_byDistance, Cond.code yX6_byDistance cX6_byDistance 3 (some .int), Cond.methodLink RX6 246 Lib.Math.abs.name, Cond.static Lib.Math.abs.name, Cond.code Lib.Math.abs.name Lib.Math.abs.code 1 (some .int), Cond.methodLink RX6 249 Lib.Math.min.name, Cond.methodLink RX6 218 yX4_run, Cond.instanceMethod yX4_run, Cond.selects RX4 yX4_run yX4_run, Cond.initialized RX4, Cond.code yX4_run cX4_run 3 none, Cond.fieldLink RX4 19 "ArcLight$Trial" "found" "I", Cond.methodLink RX4 23 yX4_giveHeads, Cond.static yX4_giveHeads, Cond.code yX4_giveHeads cX4_giveHeads 9 none, Cond.constantLong RX4 27 (-9223372036854775808), Cond.fieldLink RX4 15 "ArcLight$Trial" "heads" "[I", Cond.methodLink RX4 52 yX0_size, Cond.instanceMethod yX0_size, Cond.selects RX0 yX0_size yX0_size, Cond.code yX0_size cX0_size 1 (some .int)]
def wsX6_ranked_r5 : List Cond := [Cond.methodLink RX4 58 yX4_note, Cond.instanceMethod yX4_note, Cond.selects RX4 yX4_note yX4_note, Cond.code yX4_note cX4_note 3 none, Cond.fieldLink RX4 9 "ArcLight$Trial" "keys" "[J", Cond.methodLink RX4 62 yX0_get, Cond.instanceMethod yX0_get, Cond.selects RX0 yX0_get yX0_get, Cond.code yX0_get cX0_get 3 (some .long), Cond.methodLink RX4 66 yX4_closesCircle, Cond.instanceMethod yX4_closesCircle, Cond.selects RX4 yX4_closesCircle yX4_closesCircle, Cond.code yX4_closesCircle cX4_closesCircle 5 (some .boolean), Cond.methodLink RX4 70 yX4_crossesEarlier, Cond.instanceMethod yX4_crossesEarlier, Cond.selects RX4 yX4_crossesEarlier yX4_crossesEarlier, Cond.code yX4_crossesEarlier cX4_crossesEarlier 4 (some .boolean), Cond.static yX6_doCross, Cond.code yX6_doCross cX6_doCross 8 (some .boolean), Cond.methodLink RX6 252 Lib.Math.max.name, Cond.static Lib.Math.max.name, Cond.code Lib.Math.max.name Lib.Math.max.code 2 (some .int), Cond.methodLink RX6 134 yX4_size, Cond.instanceMethod yX4_size]
def wsX6_ranked_r6 : List Cond := [Cond.selects RX4 yX4_size yX4_size, Cond.code yX4_size cX4_size 1 (some .int), Cond.methodLink RX6 228 yX4_ofRank, Cond.instanceMethod yX4_ofRank, Cond.selects RX4 yX4_ofRank yX4_ofRank, Cond.code yX4_ofRank cX4_ofRank 9 (some .long), Cond.constantLong RX4 43 (2), Cond.methodLink RX4 35 yX4_greatest, Cond.instanceMethod yX4_greatest, Cond.selects RX4 yX4_greatest yX4_greatest, Cond.code yX4_greatest cX4_greatest 4 (some .long), Cond.methodLink RX4 29 Lib.MathLoose.max_long.x, Cond.static Lib.MathLoose.max_long.x, Cond.code Lib.MathLoose.max_long.x Lib.MathLoose.max_long.code 4 (some .long), Cond.methodLink RX4 39 yX4_least, Cond.instanceMethod yX4_least, Cond.selects RX4 yX4_least yX4_least, Cond.code yX4_least cX4_least 6 (some .long), Cond.methodLink RX4 49 Lib.MathLoose.min_long.x, Cond.static Lib.MathLoose.min_long.x, Cond.code Lib.MathLoose.min_long.x Lib.MathLoose.min_long.code 4 (some .long), Cond.methodLink RX4 45 yX4_countAbove, Cond.instanceMethod yX4_countAbove, Cond.selects RX4 yX4_countAbove yX4_countAbove]
def wsX6_ranked_r7 : List Cond := [Cond.code yX4_countAbove cX4_countAbove 5 (some .int), Cond.methodLink RX6 139 yX6_scoreIn, Cond.static yX6_scoreIn, Cond.code yX6_scoreIn cX6_scoreIn 2 (some .int), Cond.constantLong RX6 232 (117649), Cond.methodLink RX6 240 yX6_rowOfHeads, Cond.static yX6_rowOfHeads, Cond.code yX6_rowOfHeads cX6_rowOfHeads 2 (some .long), Cond.methodLink RX6 234 yJ9_floorMod_f86c9, Cond.static yJ9_floorMod_f86c9, Cond.initialized RJ9, Cond.code yJ9_floorMod_f86c9 cJ9_floorMod_f86c9 6 (some .long)]
def wsX6_ranked : List Cond := .code yX6_ranked cX6_ranked 4 (some .int) :: ((wsX6_ranked_r1 ++ (wsX6_ranked_r2 ++ (wsX6_ranked_r3 ++ (wsX6_ranked_r4 ++ (wsX6_ranked_r5 ++ (wsX6_ranked_r6 ++ wsX6_ranked_r7)))))) ++ wsX60 ++ wsX00 ++ wsX20 ++ wsX50 ++ wsX40 ++ (vx_atS RX6 201 "java/lang/IndexOutOfBoundsException" ["java/lang/RuntimeException", "java/lang/Exception"]).filter goodWord)
def wsX6_rankedHead_r1 : List Cond := [Cond.methodLink RX6 62 yX6_find, Cond.instanceMethod yX6_find, Cond.selects RX6 yX6_find yX6_find, Cond.initialized RX6, Cond.code yX6_find cX6_find 3 (some (.object "ArcLight$Sentence")), Cond.classLink RX6 197 "java/lang/IndexOutOfBoundsException", Cond.initialized "java/lang/IndexOutOfBoundsException", Cond.fieldLink RX6 11 "ArcLight" "all" "[LArcLight$Sentence;", Cond.methodLink RX6 81 yX6_checkWord, Cond.static yX6_checkWord, Cond.code yX6_checkWord cX6_checkWord 2 none, Cond.methodLink RX6 71 yX2_size, Cond.instanceMethod yX2_size, Cond.selects RX2 yX2_size yX2_size, Cond.initialized RX2, Cond.code yX2_size cX2_size 1 (some .int), Cond.fieldLink RX2 23 "ArcLight$Sentence" "last" "I", Cond.methodLink RX6 159 yX6_rankedKey, Cond.instanceMethod yX6_rankedKey, Cond.selects RX6 yX6_rankedKey yX6_rankedKey, Cond.code yX6_rankedKey cX6_rankedKey 5 (some .long), Cond.methodLink RX6 130 yX6_tryAll, Cond.instanceMethod yX6_tryAll, Cond.selects RX6 yX6_tryAll yX6_tryAll]
def wsX6_rankedHead_r2 : List Cond := [Cond.code yX6_tryAll cX6_tryAll 3 (some (.object "ArcLight$Trial")), Cond.fieldLink RX6 29 "ArcLight" "arcs" "LArcLight$ArcKeys;", Cond.fieldLink RX6 22 "ArcLight" "weights" "LArcLight$Weights;", Cond.fieldLink RX6 50 "ArcLight" "trial" "LArcLight$Trial;", Cond.methodLink RX6 214 yX0_fill, Cond.instanceMethod yX0_fill, Cond.selects RX0 yX0_fill yX0_fill, Cond.initialized RX0, Cond.code yX0_fill cX0_fill 5 none, Cond.methodLink RX0 26 Lib.Math.min.name, Cond.static Lib.Math.min.name, Cond.initialized "java/lang/Math", Cond.code Lib.Math.min.name Lib.Math.min.code 2 (some .int), Cond.fieldLink RX0 16 "ArcLight$ArcKeys" "last" "I", Cond.fieldLink RX0 11 "ArcLight$ArcKeys" "keys" "[[J", Cond.constantLong RX0 32 (-9223372036854775808), Cond.constantLong RX0 44 (117649), Cond.methodLink RX0 20 yX2_size, Cond.methodLink RX0 34 yX2_allows, Cond.instanceMethod yX2_allows, Cond.selects RX2 yX2_allows yX2_allows, Cond.code yX2_allows cX2_allows 4 (some .boolean), Cond.methodLink RX2 41 yX2_markOf, Cond.instanceMethod yX2_markOf]
def wsX6_rankedHead_r3 : List Cond := [Cond.selects RX2 yX2_markOf yX2_markOf, Cond.code yX2_markOf cX2_markOf 3 (some .int), Cond.fieldLink RX2 20 "ArcLight$Sentence" "marks" "[[I", Cond.static yX6_isPlace, Cond.code yX6_isPlace cX6_isPlace 1 (some .boolean), Cond.methodLink RX2 45 yX2_forcedHead, Cond.instanceMethod yX2_forcedHead, Cond.selects RX2 yX2_forcedHead yX2_forcedHead, Cond.code yX2_forcedHead cX2_forcedHead 3 (some .int), Cond.methodLink RX0 38 yX5_ofArc, Cond.instanceMethod yX5_ofArc, Cond.selects RX5 yX5_ofArc yX5_ofArc, Cond.initialized RX5, Cond.code yX5_ofArc cX5_ofArc 4 (some .int), Cond.methodLink RX5 46 yX2_byKinds, Cond.instanceMethod yX2_byKinds, Cond.selects RX2 yX2_byKinds yX2_byKinds, Cond.code yX2_byKinds cX2_byKinds 3 (some .int), Cond.methodLink RX2 37 yX2_kindAt, Cond.instanceMethod yX2_kindAt, Cond.selects RX2 yX2_kindAt yX2_kindAt, Cond.code yX2_kindAt cX2_kindAt 2 (some .int), Cond.fieldLink RX2 9 "ArcLight$Sentence" "kinds" "[I", Cond.methodLink RX5 52 yX5_get]
def wsX6_rankedHead_r4 : List Cond := [Cond.instanceMethod yX5_get, Cond.selects RX5 yX5_get yX5_get, Cond.code yX5_get cX5_get 2 (some .int), Cond.fieldLink RX5 9 "ArcLight$Weights" "now" "[I", Cond.methodLink RX5 42 yX5_isFeature, Cond.static yX5_isFeature, Cond.code yX5_isFeature cX5_isFeature 1 (some .boolean), Cond.static yX6_byDistance, Cond.code yX6_byDistance cX6_byDistance 3 (some .int), Cond.methodLink RX6 246 Lib.Math.abs.name, Cond.static Lib.Math.abs.name, Cond.code Lib.Math.abs.name Lib.Math.abs.code 1 (some .int), Cond.methodLink RX6 249 Lib.Math.min.name, Cond.methodLink RX6 218 yX4_run, Cond.instanceMethod yX4_run, Cond.selects RX4 yX4_run yX4_run, Cond.initialized RX4, Cond.code yX4_run cX4_run 3 none, Cond.fieldLink RX4 19 "ArcLight$Trial" "found" "I", Cond.methodLink RX4 23 yX4_giveHeads, Cond.static yX4_giveHeads, Cond.code yX4_giveHeads cX4_giveHeads 9 none, Cond.constantLong RX4 27 (-9223372036854775808), Cond.fieldLink RX4 15 "ArcLight$Trial" "heads" "[I"]
def wsX6_rankedHead_r5 : List Cond := [Cond.methodLink RX4 52 yX0_size, Cond.instanceMethod yX0_size, Cond.selects RX0 yX0_size yX0_size, Cond.code yX0_size cX0_size 1 (some .int), Cond.methodLink RX4 58 yX4_note, Cond.instanceMethod yX4_note, Cond.selects RX4 yX4_note yX4_note, Cond.code yX4_note cX4_note 3 none, Cond.fieldLink RX4 9 "ArcLight$Trial" "keys" "[J", Cond.methodLink RX4 62 yX0_get, Cond.instanceMethod yX0_get, Cond.selects RX0 yX0_get yX0_get, Cond.code yX0_get cX0_get 3 (some .long), Cond.methodLink RX4 66 yX4_closesCircle, Cond.instanceMethod yX4_closesCircle, Cond.selects RX4 yX4_closesCircle yX4_closesCircle, Cond.code yX4_closesCircle cX4_closesCircle 5 (some .boolean), Cond.methodLink RX4 70 yX4_crossesEarlier, Cond.instanceMethod yX4_crossesEarlier, Cond.selects RX4 yX4_crossesEarlier yX4_crossesEarlier, Cond.code yX4_crossesEarlier cX4_crossesEarlier 4 (some .boolean), Cond.static yX6_doCross, Cond.code yX6_doCross cX6_doCross 8 (some .boolean), Cond.methodLink RX6 252 Lib.Math.max.name]
def wsX6_rankedHead_r6 : List Cond := [Cond.static Lib.Math.max.name, Cond.code Lib.Math.max.name Lib.Math.max.code 2 (some .int), Cond.methodLink RX6 134 yX4_size, Cond.instanceMethod yX4_size, Cond.selects RX4 yX4_size yX4_size, Cond.code yX4_size cX4_size 1 (some .int), Cond.methodLink RX6 228 yX4_ofRank, Cond.instanceMethod yX4_ofRank, Cond.selects RX4 yX4_ofRank yX4_ofRank, Cond.code yX4_ofRank cX4_ofRank 9 (some .long), Cond.constantLong RX4 43 (2), Cond.methodLink RX4 35 yX4_greatest, Cond.instanceMethod yX4_greatest, Cond.selects RX4 yX4_greatest yX4_greatest, Cond.code yX4_greatest cX4_greatest 4 (some .long), Cond.methodLink RX4 29 Lib.MathLoose.max_long.x, Cond.static Lib.MathLoose.max_long.x, Cond.code Lib.MathLoose.max_long.x Lib.MathLoose.max_long.code 4 (some .long), Cond.methodLink RX4 39 yX4_least, Cond.instanceMethod yX4_least, Cond.selects RX4 yX4_least yX4_least, Cond.code yX4_least cX4_least 6 (some .long), Cond.methodLink RX4 49 Lib.MathLoose.min_long.x, Cond.static Lib.MathLoose.min_long.x]
def wsX6_rankedHead_r7 : List Cond := [Cond.code Lib.MathLoose.min_long.x Lib.MathLoose.min_long.code 4 (some .long), Cond.methodLink RX4 45 yX4_countAbove, Cond.instanceMethod yX4_countAbove, Cond.selects RX4 yX4_countAbove yX4_countAbove, Cond.code yX4_countAbove cX4_countAbove 5 (some .int), Cond.methodLink RX6 151 yX6_headIn, Cond.static yX6_headIn, Cond.code yX6_headIn cX6_headIn 6 (some .int), Cond.constantLong RX6 244 (7), Cond.methodLink RX6 240 yX6_rowOfHeads, Cond.static yX6_rowOfHeads, Cond.code yX6_rowOfHeads cX6_rowOfHeads 2 (some .long), Cond.constantLong RX6 232 (117649), Cond.methodLink RX6 234 yJ9_floorMod_f86c9, Cond.static yJ9_floorMod_f86c9, Cond.initialized RJ9, Cond.code yJ9_floorMod_f86c9 cJ9_floorMod_f86c9 6 (some .long)]
def wsX6_rankedHead : List Cond := .code yX6_rankedHead cX6_rankedHead 6 (some .int) :: ((wsX6_rankedHead_r1 ++ (wsX6_rankedHead_r2 ++ (wsX6_rankedHead_r3 ++ (wsX6_rankedHead_r4 ++ (wsX6_rankedHead_r5 ++ (wsX6_rankedHead_r6 ++ wsX6_rankedHead_r7)))))) ++ wsX60 ++ wsX20 ++ wsX00 ++ wsX50 ++ wsX40 ++ (vx_atS RX6 201 "java/lang/IndexOutOfBoundsException" ["java/lang/RuntimeException", "java/lang/Exception"]).filter goodWord)
def wsX6_correct_r1 : List Cond := [Cond.methodLink RX6 62 yX6_find, Cond.instanceMethod yX6_find, Cond.selects RX6 yX6_find yX6_find, Cond.initialized RX6, Cond.code yX6_find cX6_find 3 (some (.object "ArcLight$Sentence")), Cond.classLink RX6 197 "java/lang/IndexOutOfBoundsException", Cond.initialized "java/lang/IndexOutOfBoundsException", Cond.fieldLink RX6 11 "ArcLight" "all" "[LArcLight$Sentence;", Cond.methodLink RX6 104 yX6_checkArc, Cond.static yX6_checkArc, Cond.code yX6_checkArc cX6_checkArc 3 none, Cond.classLink RX6 66 "java/lang/IllegalArgumentException", Cond.initialized "java/lang/IllegalArgumentException", Cond.methodLink RX6 71 yX2_size, Cond.instanceMethod yX2_size, Cond.selects RX2 yX2_size yX2_size, Cond.initialized RX2, Cond.code yX2_size cX2_size 1 (some .int), Cond.fieldLink RX2 23 "ArcLight$Sentence" "last" "I", Cond.methodLink RX6 81 yX6_checkWord, Cond.static yX6_checkWord, Cond.code yX6_checkWord cX6_checkWord 2 none, Cond.methodLink RX6 163 yX2_changeRightHead, Cond.instanceMethod yX2_changeRightHead]
def wsX6_correct_r2 : List Cond := [Cond.selects RX2 yX2_changeRightHead yX2_changeRightHead, Cond.code yX2_changeRightHead cX2_changeRightHead 4 (some .int), Cond.fieldLink RX2 15 "ArcLight$Sentence" "rightHeads" "[I", Cond.methodLink RX2 48 yX2_rightHead, Cond.instanceMethod yX2_rightHead, Cond.selects RX2 yX2_rightHead yX2_rightHead, Cond.code yX2_rightHead cX2_rightHead 2 (some .int), Cond.static yX6_isPlace, Cond.code yX6_isPlace cX6_isPlace 1 (some .boolean)]
def wsX6_correct : List Cond := .code yX6_correct cX6_correct 5 (some .int) :: ((wsX6_correct_r1 ++ wsX6_correct_r2) ++ wsX60 ++ wsX20 ++ (vx_atS RX6 201 "java/lang/IndexOutOfBoundsException" ["java/lang/RuntimeException", "java/lang/Exception"]).filter goodWord ++ (vx_atS RX6 70 "java/lang/IllegalArgumentException" ["java/lang/RuntimeException", "java/lang/Exception"]).filter goodWord)
def wsX6_matched_r1 : List Cond := [Cond.methodLink RX6 62 yX6_find, Cond.instanceMethod yX6_find, Cond.selects RX6 yX6_find yX6_find, Cond.initialized RX6, Cond.code yX6_find cX6_find 3 (some (.object "ArcLight$Sentence")), Cond.classLink RX6 197 "java/lang/IndexOutOfBoundsException", Cond.initialized "java/lang/IndexOutOfBoundsException", Cond.fieldLink RX6 11 "ArcLight" "all" "[LArcLight$Sentence;", Cond.methodLink RX6 135 yX6_bestKey, Cond.instanceMethod yX6_bestKey, Cond.selects RX6 yX6_bestKey yX6_bestKey, Cond.code yX6_bestKey cX6_bestKey 5 (some .long), Cond.fieldLink RX6 29 "ArcLight" "arcs" "LArcLight$ArcKeys;", Cond.fieldLink RX6 22 "ArcLight" "weights" "LArcLight$Weights;", Cond.fieldLink RX6 43 "ArcLight" "circles" "LArcLight$Circles;", Cond.fieldLink RX6 36 "ArcLight" "spans" "LArcLight$Spans;", Cond.methodLink RX6 214 yX0_fill, Cond.instanceMethod yX0_fill, Cond.selects RX0 yX0_fill yX0_fill, Cond.initialized RX0, Cond.code yX0_fill cX0_fill 5 none, Cond.methodLink RX0 26 Lib.Math.min.name, Cond.static Lib.Math.min.name, Cond.initialized "java/lang/Math"]
def wsX6_matched_r2 : List Cond := [Cond.code Lib.Math.min.name Lib.Math.min.code 2 (some .int), Cond.fieldLink RX0 16 "ArcLight$ArcKeys" "last" "I", Cond.fieldLink RX0 11 "ArcLight$ArcKeys" "keys" "[[J", Cond.constantLong RX0 32 (-9223372036854775808), Cond.constantLong RX0 44 (117649), Cond.methodLink RX0 20 yX2_size, Cond.instanceMethod yX2_size, Cond.selects RX2 yX2_size yX2_size, Cond.initialized RX2, Cond.code yX2_size cX2_size 1 (some .int), Cond.fieldLink RX2 23 "ArcLight$Sentence" "last" "I", Cond.methodLink RX0 34 yX2_allows, Cond.instanceMethod yX2_allows, Cond.selects RX2 yX2_allows yX2_allows, Cond.code yX2_allows cX2_allows 4 (some .boolean), Cond.methodLink RX2 41 yX2_markOf, Cond.instanceMethod yX2_markOf, Cond.selects RX2 yX2_markOf yX2_markOf, Cond.code yX2_markOf cX2_markOf 3 (some .int), Cond.fieldLink RX2 20 "ArcLight$Sentence" "marks" "[[I", Cond.static yX6_isPlace, Cond.code yX6_isPlace cX6_isPlace 1 (some .boolean), Cond.methodLink RX2 45 yX2_forcedHead, Cond.instanceMethod yX2_forcedHead]
def wsX6_matched_r3 : List Cond := [Cond.selects RX2 yX2_forcedHead yX2_forcedHead, Cond.code yX2_forcedHead cX2_forcedHead 3 (some .int), Cond.methodLink RX0 38 yX5_ofArc, Cond.instanceMethod yX5_ofArc, Cond.selects RX5 yX5_ofArc yX5_ofArc, Cond.initialized RX5, Cond.code yX5_ofArc cX5_ofArc 4 (some .int), Cond.methodLink RX5 46 yX2_byKinds, Cond.instanceMethod yX2_byKinds, Cond.selects RX2 yX2_byKinds yX2_byKinds, Cond.code yX2_byKinds cX2_byKinds 3 (some .int), Cond.methodLink RX2 37 yX2_kindAt, Cond.instanceMethod yX2_kindAt, Cond.selects RX2 yX2_kindAt yX2_kindAt, Cond.code yX2_kindAt cX2_kindAt 2 (some .int), Cond.fieldLink RX2 9 "ArcLight$Sentence" "kinds" "[I", Cond.methodLink RX5 52 yX5_get, Cond.instanceMethod yX5_get, Cond.selects RX5 yX5_get yX5_get, Cond.code yX5_get cX5_get 2 (some .int), Cond.fieldLink RX5 9 "ArcLight$Weights" "now" "[I", Cond.methodLink RX5 42 yX5_isFeature, Cond.static yX5_isFeature, Cond.code yX5_isFeature cX5_isFeature 1 (some .boolean)]
def wsX6_matched_r4 : List Cond := [Cond.static yX6_byDistance, Cond.code yX6_byDistance cX6_byDistance 3 (some .int), Cond.methodLink RX6 246 Lib.Math.abs.name, Cond.static Lib.Math.abs.name, Cond.code Lib.Math.abs.name Lib.Math.abs.code 1 (some .int), Cond.methodLink RX6 249 Lib.Math.min.name, Cond.methodLink RX6 222 yX1_greatest, Cond.instanceMethod yX1_greatest, Cond.selects RX1 yX1_greatest yX1_greatest, Cond.initialized RX1, Cond.code yX1_greatest cX1_greatest 8 (some .long), Cond.methodLink RX1 36 Lib.Math.min.name, Cond.fieldLink RX1 26 "ArcLight$Circles" "nodes" "I", Cond.fieldLink RX1 11 "ArcLight$Circles" "keys" "[[J", Cond.constantLong RX1 50 (-9223372036854775808), Cond.methodLink RX1 30 yX0_size, Cond.instanceMethod yX0_size, Cond.selects RX0 yX0_size yX0_size, Cond.code yX0_size cX0_size 1 (some .int), Cond.methodLink RX1 42 yX0_get, Cond.instanceMethod yX0_get, Cond.selects RX0 yX0_get yX0_get, Cond.code yX0_get cX0_get 3 (some .long), Cond.methodLink RX1 46 yX1_takeGreatest]
def wsX6_matched_r5 : List Cond := [Cond.instanceMethod yX1_takeGreatest, Cond.selects RX1 yX1_takeGreatest yX1_takeGreatest, Cond.code yX1_takeGreatest cX1_takeGreatest 5 (some .long), Cond.fieldLink RX1 19 "ArcLight$Circles" "taken" "[I", Cond.methodLink RX1 59 yX1_takenKey, Cond.instanceMethod yX1_takenKey, Cond.selects RX1 yX1_takenKey yX1_takenKey, Cond.code yX1_takenKey cX1_takenKey 3 (some .long), Cond.methodLink RX1 63 yX1_takenHead, Cond.instanceMethod yX1_takenHead, Cond.selects RX1 yX1_takenHead yX1_takenHead, Cond.code yX1_takenHead cX1_takenHead 2 (some .int), Cond.methodLink RX1 52 yX1_findCircle, Cond.instanceMethod yX1_findCircle, Cond.selects RX1 yX1_findCircle yX1_findCircle, Cond.code yX1_findCircle cX1_findCircle 4 (some .int), Cond.methodLink RX1 55 yX1_contract, Cond.instanceMethod yX1_contract, Cond.selects RX1 yX1_contract yX1_contract, Cond.code yX1_contract cX1_contract 7 none, Cond.fieldLink RX1 16 "ArcLight$Circles" "contracted" "[[J", Cond.fieldLink RX1 23 "ArcLight$Circles" "groups" "[I", Cond.methodLink RX1 71 yX1_groupNodes, Cond.instanceMethod yX1_groupNodes]
def wsX6_matched_r6 : List Cond := [Cond.selects RX1 yX1_groupNodes yX1_groupNodes, Cond.code yX1_groupNodes cX1_groupNodes 5 (some .int), Cond.methodLink RX1 84 yJ7_fill_53178, Cond.static yJ7_fill_53178, Cond.initialized RJ7, Cond.code yJ7_fill_53178 cJ7_fill_53178 4 none, Cond.methodLink RX1 74 yJ7_fill_d0a16, Cond.static yJ7_fill_d0a16, Cond.code yJ7_fill_d0a16 cJ7_fill_d0a16 5 none, Cond.methodLink RX1 80 yX1_offer, Cond.instanceMethod yX1_offer, Cond.selects RX1 yX1_offer yX1_offer, Cond.code yX1_offer cX1_offer 5 none, Cond.methodLink RX6 225 yX3_greatest, Cond.instanceMethod yX3_greatest, Cond.selects RX3 yX3_greatest yX3_greatest, Cond.initialized RX3, Cond.code yX3_greatest cX3_greatest 5 (some .long), Cond.methodLink RX3 31 Lib.Math.min.name, Cond.fieldLink RX3 11 "ArcLight$Spans" "wholeFromLeft" "[[J", Cond.fieldLink RX3 16 "ArcLight$Spans" "wholeFromRight" "[[J", Cond.constantLong RX3 45 (-9223372036854775808), Cond.methodLink RX3 25 yX0_size, Cond.methodLink RX3 37 yX3_fillOpen]
def wsX6_matched_r7 : List Cond := [Cond.instanceMethod yX3_fillOpen, Cond.selects RX3 yX3_fillOpen yX3_fillOpen, Cond.code yX3_fillOpen cX3_fillOpen 7 none, Cond.methodLink RX3 55 Lib.MathLoose.max_long.x, Cond.static Lib.MathLoose.max_long.x, Cond.code Lib.MathLoose.max_long.x Lib.MathLoose.max_long.code 4 (some .long), Cond.fieldLink RX3 19 "ArcLight$Spans" "openFromLeft" "[[J", Cond.fieldLink RX3 22 "ArcLight$Spans" "openFromRight" "[[J", Cond.methodLink RX3 51 yX3_join, Cond.static yX3_join, Cond.code yX3_join cX3_join 4 (some .long), Cond.methodLink RX3 58 yX0_get, Cond.methodLink RX3 41 yX3_fillWhole, Cond.instanceMethod yX3_fillWhole, Cond.selects RX3 yX3_fillWhole yX3_fillWhole, Cond.code yX3_fillWhole cX3_fillWhole 8 none, Cond.methodLink RX6 147 yX6_checkTree, Cond.static yX6_checkTree, Cond.code yX6_checkTree cX6_checkTree 2 none, Cond.classLink RX6 54 "java/lang/IllegalStateException", Cond.initialized "java/lang/IllegalStateException", Cond.constantLong RX6 210 (-9223372036854775808), Cond.methodLink RX6 71 yX2_size, Cond.methodLink RX6 166 yX2_rightHead]
def wsX6_matched_r8 : List Cond := [Cond.instanceMethod yX2_rightHead, Cond.selects RX2 yX2_rightHead yX2_rightHead, Cond.code yX2_rightHead cX2_rightHead 2 (some .int), Cond.fieldLink RX2 15 "ArcLight$Sentence" "rightHeads" "[I", Cond.methodLink RX6 151 yX6_headIn, Cond.static yX6_headIn, Cond.code yX6_headIn cX6_headIn 6 (some .int), Cond.constantLong RX6 244 (7), Cond.methodLink RX6 240 yX6_rowOfHeads, Cond.static yX6_rowOfHeads, Cond.code yX6_rowOfHeads cX6_rowOfHeads 2 (some .long), Cond.constantLong RX6 232 (117649), Cond.methodLink RX6 234 yJ9_floorMod_f86c9, Cond.static yJ9_floorMod_f86c9, Cond.initialized RJ9, Cond.code yJ9_floorMod_f86c9 cJ9_floorMod_f86c9 6 (some .long)]
def wsX6_matched : List Cond := .code yX6_matched cX6_matched 7 (some .int) :: ((wsX6_matched_r1 ++ (wsX6_matched_r2 ++ (wsX6_matched_r3 ++ (wsX6_matched_r4 ++ (wsX6_matched_r5 ++ (wsX6_matched_r6 ++ (wsX6_matched_r7 ++ wsX6_matched_r8))))))) ++ wsX60 ++ wsX00 ++ wsX20 ++ wsX50 ++ wsX10 ++ wsX30 ++ (vx_atS RX6 201 "java/lang/IndexOutOfBoundsException" ["java/lang/RuntimeException", "java/lang/Exception"]).filter goodWord ++ (vx_atS RX6 58 "java/lang/IllegalStateException" ["java/lang/RuntimeException", "java/lang/Exception"]).filter goodWord)
def wsX6_mend_r1 : List Cond := [Cond.classLink RX6 54 "java/lang/IllegalStateException", Cond.initialized "java/lang/IllegalStateException", Cond.fieldLink RX6 22 "ArcLight" "weights" "LArcLight$Weights;", Cond.methodLink RX6 62 yX6_find, Cond.instanceMethod yX6_find, Cond.selects RX6 yX6_find yX6_find, Cond.initialized RX6, Cond.code yX6_find cX6_find 3 (some (.object "ArcLight$Sentence")), Cond.classLink RX6 197 "java/lang/IndexOutOfBoundsException", Cond.initialized "java/lang/IndexOutOfBoundsException", Cond.fieldLink RX6 11 "ArcLight" "all" "[LArcLight$Sentence;", Cond.methodLink RX6 169 yX2_hasRightTree, Cond.instanceMethod yX2_hasRightTree, Cond.selects RX2 yX2_hasRightTree yX2_hasRightTree, Cond.initialized RX2, Cond.code yX2_hasRightTree cX2_hasRightTree 4 (some .boolean), Cond.fieldLink RX2 23 "ArcLight$Sentence" "last" "I", Cond.methodLink RX2 48 yX2_rightHead, Cond.instanceMethod yX2_rightHead, Cond.selects RX2 yX2_rightHead yX2_rightHead, Cond.code yX2_rightHead cX2_rightHead 2 (some .int), Cond.fieldLink RX2 15 "ArcLight$Sentence" "rightHeads" "[I", Cond.static yX6_isPlace, Cond.code yX6_isPlace cX6_isPlace 1 (some .boolean)]
def wsX6_mend_r2 : List Cond := [Cond.methodLink RX6 135 yX6_bestKey, Cond.instanceMethod yX6_bestKey, Cond.selects RX6 yX6_bestKey yX6_bestKey, Cond.code yX6_bestKey cX6_bestKey 5 (some .long), Cond.fieldLink RX6 29 "ArcLight" "arcs" "LArcLight$ArcKeys;", Cond.fieldLink RX6 43 "ArcLight" "circles" "LArcLight$Circles;", Cond.fieldLink RX6 36 "ArcLight" "spans" "LArcLight$Spans;", Cond.methodLink RX6 214 yX0_fill, Cond.instanceMethod yX0_fill, Cond.selects RX0 yX0_fill yX0_fill, Cond.initialized RX0, Cond.code yX0_fill cX0_fill 5 none, Cond.methodLink RX0 26 Lib.Math.min.name, Cond.static Lib.Math.min.name, Cond.initialized "java/lang/Math", Cond.code Lib.Math.min.name Lib.Math.min.code 2 (some .int), Cond.fieldLink RX0 16 "ArcLight$ArcKeys" "last" "I", Cond.fieldLink RX0 11 "ArcLight$ArcKeys" "keys" "[[J", Cond.constantLong RX0 32 (-9223372036854775808), Cond.constantLong RX0 44 (117649), Cond.methodLink RX0 20 yX2_size, Cond.instanceMethod yX2_size, Cond.selects RX2 yX2_size yX2_size, Cond.code yX2_size cX2_size 1 (some .int)]
def wsX6_mend_r3 : List Cond := [Cond.methodLink RX0 34 yX2_allows, Cond.instanceMethod yX2_allows, Cond.selects RX2 yX2_allows yX2_allows, Cond.code yX2_allows cX2_allows 4 (some .boolean), Cond.methodLink RX2 41 yX2_markOf, Cond.instanceMethod yX2_markOf, Cond.selects RX2 yX2_markOf yX2_markOf, Cond.code yX2_markOf cX2_markOf 3 (some .int), Cond.fieldLink RX2 20 "ArcLight$Sentence" "marks" "[[I", Cond.methodLink RX2 45 yX2_forcedHead, Cond.instanceMethod yX2_forcedHead, Cond.selects RX2 yX2_forcedHead yX2_forcedHead, Cond.code yX2_forcedHead cX2_forcedHead 3 (some .int), Cond.methodLink RX0 38 yX5_ofArc, Cond.instanceMethod yX5_ofArc, Cond.selects RX5 yX5_ofArc yX5_ofArc, Cond.initialized RX5, Cond.code yX5_ofArc cX5_ofArc 4 (some .int), Cond.methodLink RX5 46 yX2_byKinds, Cond.instanceMethod yX2_byKinds, Cond.selects RX2 yX2_byKinds yX2_byKinds, Cond.code yX2_byKinds cX2_byKinds 3 (some .int), Cond.methodLink RX2 37 yX2_kindAt, Cond.instanceMethod yX2_kindAt]
def wsX6_mend_r4 : List Cond := [Cond.selects RX2 yX2_kindAt yX2_kindAt, Cond.code yX2_kindAt cX2_kindAt 2 (some .int), Cond.fieldLink RX2 9 "ArcLight$Sentence" "kinds" "[I", Cond.methodLink RX5 52 yX5_get, Cond.instanceMethod yX5_get, Cond.selects RX5 yX5_get yX5_get, Cond.code yX5_get cX5_get 2 (some .int), Cond.fieldLink RX5 9 "ArcLight$Weights" "now" "[I", Cond.methodLink RX5 42 yX5_isFeature, Cond.static yX5_isFeature, Cond.code yX5_isFeature cX5_isFeature 1 (some .boolean), Cond.static yX6_byDistance, Cond.code yX6_byDistance cX6_byDistance 3 (some .int), Cond.methodLink RX6 246 Lib.Math.abs.name, Cond.static Lib.Math.abs.name, Cond.code Lib.Math.abs.name Lib.Math.abs.code 1 (some .int), Cond.methodLink RX6 249 Lib.Math.min.name, Cond.methodLink RX6 222 yX1_greatest, Cond.instanceMethod yX1_greatest, Cond.selects RX1 yX1_greatest yX1_greatest, Cond.initialized RX1, Cond.code yX1_greatest cX1_greatest 8 (some .long), Cond.methodLink RX1 36 Lib.Math.min.name, Cond.fieldLink RX1 26 "ArcLight$Circles" "nodes" "I"]
def wsX6_mend_r5 : List Cond := [Cond.fieldLink RX1 11 "ArcLight$Circles" "keys" "[[J", Cond.constantLong RX1 50 (-9223372036854775808), Cond.methodLink RX1 30 yX0_size, Cond.instanceMethod yX0_size, Cond.selects RX0 yX0_size yX0_size, Cond.code yX0_size cX0_size 1 (some .int), Cond.methodLink RX1 42 yX0_get, Cond.instanceMethod yX0_get, Cond.selects RX0 yX0_get yX0_get, Cond.code yX0_get cX0_get 3 (some .long), Cond.methodLink RX1 46 yX1_takeGreatest, Cond.instanceMethod yX1_takeGreatest, Cond.selects RX1 yX1_takeGreatest yX1_takeGreatest, Cond.code yX1_takeGreatest cX1_takeGreatest 5 (some .long), Cond.fieldLink RX1 19 "ArcLight$Circles" "taken" "[I", Cond.methodLink RX1 59 yX1_takenKey, Cond.instanceMethod yX1_takenKey, Cond.selects RX1 yX1_takenKey yX1_takenKey, Cond.code yX1_takenKey cX1_takenKey 3 (some .long), Cond.methodLink RX1 63 yX1_takenHead, Cond.instanceMethod yX1_takenHead, Cond.selects RX1 yX1_takenHead yX1_takenHead, Cond.code yX1_takenHead cX1_takenHead 2 (some .int), Cond.methodLink RX1 52 yX1_findCircle]
def wsX6_mend_r6 : List Cond := [Cond.instanceMethod yX1_findCircle, Cond.selects RX1 yX1_findCircle yX1_findCircle, Cond.code yX1_findCircle cX1_findCircle 4 (some .int), Cond.methodLink RX1 55 yX1_contract, Cond.instanceMethod yX1_contract, Cond.selects RX1 yX1_contract yX1_contract, Cond.code yX1_contract cX1_contract 7 none, Cond.fieldLink RX1 16 "ArcLight$Circles" "contracted" "[[J", Cond.fieldLink RX1 23 "ArcLight$Circles" "groups" "[I", Cond.methodLink RX1 71 yX1_groupNodes, Cond.instanceMethod yX1_groupNodes, Cond.selects RX1 yX1_groupNodes yX1_groupNodes, Cond.code yX1_groupNodes cX1_groupNodes 5 (some .int), Cond.methodLink RX1 84 yJ7_fill_53178, Cond.static yJ7_fill_53178, Cond.initialized RJ7, Cond.code yJ7_fill_53178 cJ7_fill_53178 4 none, Cond.methodLink RX1 74 yJ7_fill_d0a16, Cond.static yJ7_fill_d0a16, Cond.code yJ7_fill_d0a16 cJ7_fill_d0a16 5 none, Cond.methodLink RX1 80 yX1_offer, Cond.instanceMethod yX1_offer, Cond.selects RX1 yX1_offer yX1_offer, Cond.code yX1_offer cX1_offer 5 none]
def wsX6_mend_r7 : List Cond := [Cond.methodLink RX6 225 yX3_greatest, Cond.instanceMethod yX3_greatest, Cond.selects RX3 yX3_greatest yX3_greatest, Cond.initialized RX3, Cond.code yX3_greatest cX3_greatest 5 (some .long), Cond.methodLink RX3 31 Lib.Math.min.name, Cond.fieldLink RX3 11 "ArcLight$Spans" "wholeFromLeft" "[[J", Cond.fieldLink RX3 16 "ArcLight$Spans" "wholeFromRight" "[[J", Cond.constantLong RX3 45 (-9223372036854775808), Cond.methodLink RX3 25 yX0_size, Cond.methodLink RX3 37 yX3_fillOpen, Cond.instanceMethod yX3_fillOpen, Cond.selects RX3 yX3_fillOpen yX3_fillOpen, Cond.code yX3_fillOpen cX3_fillOpen 7 none, Cond.methodLink RX3 55 Lib.MathLoose.max_long.x, Cond.static Lib.MathLoose.max_long.x, Cond.code Lib.MathLoose.max_long.x Lib.MathLoose.max_long.code 4 (some .long), Cond.fieldLink RX3 19 "ArcLight$Spans" "openFromLeft" "[[J", Cond.fieldLink RX3 22 "ArcLight$Spans" "openFromRight" "[[J", Cond.methodLink RX3 51 yX3_join, Cond.static yX3_join, Cond.code yX3_join cX3_join 4 (some .long), Cond.methodLink RX3 58 yX0_get, Cond.methodLink RX3 41 yX3_fillWhole]
def wsX6_mend_r8 : List Cond := [Cond.instanceMethod yX3_fillWhole, Cond.selects RX3 yX3_fillWhole yX3_fillWhole, Cond.code yX3_fillWhole cX3_fillWhole 8 none, Cond.methodLink RX6 147 yX6_checkTree, Cond.static yX6_checkTree, Cond.code yX6_checkTree cX6_checkTree 2 none, Cond.constantLong RX6 210 (-9223372036854775808), Cond.methodLink RX6 97 yX5_keep, Cond.instanceMethod yX5_keep, Cond.selects RX5 yX5_keep yX5_keep, Cond.code yX5_keep cX5_keep 1 none, Cond.fieldLink RX5 39 "ArcLight$Weights" "next" "I", Cond.fieldLink RX5 25 "ArcLight$Weights" "oldWeights" "[[I", Cond.methodLink RX5 66 arraycopyName, Cond.native arraycopyName, Cond.static arraycopyName, Cond.initialized "java/lang/System", Cond.fieldLink RX5 15 "ArcLight$Weights" "sums" "[J", Cond.fieldLink RX5 30 "ArcLight$Weights" "oldSums" "[[J", Cond.fieldLink RX5 33 "ArcLight$Weights" "oldSteps" "[I", Cond.fieldLink RX5 19 "ArcLight$Weights" "steps" "I", Cond.fieldLink RX5 36 "ArcLight$Weights" "kept" "I", Cond.methodLink RX5 72 Lib.Math.min.name, Cond.methodLink RX5 63 yX5_isRow]
def wsX6_mend_r9 : List Cond := [Cond.static yX5_isRow, Cond.code yX5_isRow cX5_isRow 1 (some .boolean), Cond.methodLink RX6 71 yX2_size, Cond.methodLink RX6 166 yX2_rightHead, Cond.methodLink RX6 151 yX6_headIn, Cond.static yX6_headIn, Cond.code yX6_headIn cX6_headIn 6 (some .int), Cond.constantLong RX6 244 (7), Cond.methodLink RX6 240 yX6_rowOfHeads, Cond.static yX6_rowOfHeads, Cond.code yX6_rowOfHeads cX6_rowOfHeads 2 (some .long), Cond.constantLong RX6 232 (117649), Cond.methodLink RX6 234 yJ9_floorMod_f86c9, Cond.static yJ9_floorMod_f86c9, Cond.initialized RJ9, Cond.code yJ9_floorMod_f86c9 cJ9_floorMod_f86c9 6 (some .long), Cond.methodLink RX6 175 yX5_addToArc, Cond.instanceMethod yX5_addToArc, Cond.selects RX5 yX5_addToArc yX5_addToArc, Cond.code yX5_addToArc cX5_addToArc 7 none, Cond.methodLink RX5 59 yX5_put, Cond.instanceMethod yX5_put, Cond.selects RX5 yX5_put yX5_put, Cond.code yX5_put cX5_put 3 none]
def wsX6_mend_r10 : List Cond := [Cond.methodLink RX6 179 yX5_endStep, Cond.instanceMethod yX5_endStep, Cond.selects RX5 yX5_endStep yX5_endStep, Cond.code yX5_endStep cX5_endStep 2 none]
def wsX6_mend : List Cond := .code yX6_mend cX6_mend 9 (some .int) :: ((wsX6_mend_r1 ++ (wsX6_mend_r2 ++ (wsX6_mend_r3 ++ (wsX6_mend_r4 ++ (wsX6_mend_r5 ++ (wsX6_mend_r6 ++ (wsX6_mend_r7 ++ (wsX6_mend_r8 ++ (wsX6_mend_r9 ++ wsX6_mend_r10))))))))) ++ wsX60 ++ wsX20 ++ wsX00 ++ wsX50 ++ wsX10 ++ wsX30 ++ (vx_atS RX6 58 "java/lang/IllegalStateException" ["java/lang/RuntimeException", "java/lang/Exception"]).filter goodWord ++ (vx_atS RX6 201 "java/lang/IndexOutOfBoundsException" ["java/lang/RuntimeException", "java/lang/Exception"]).filter goodWord)
def wsX6_steps : List Cond := .code yX6_steps cX6_steps 1 (some .int) :: ([.fieldLink RX6 22 "ArcLight" "weights" "LArcLight$Weights;", .methodLink RX6 182 yX5_stepCount, .instanceMethod yX5_stepCount, .selects RX5 yX5_stepCount yX5_stepCount, .initialized RX5, .code yX5_stepCount cX5_stepCount 1 (some .int), .fieldLink RX5 19 "ArcLight$Weights" "steps" "I"] ++ wsX60 ++ wsX50)
def wsX6_average : List Cond := .code yX6_average cX6_average 2 (some .double) :: ([.fieldLink RX6 22 "ArcLight" "weights" "LArcLight$Weights;", .methodLink RX6 89 yX6_checkFeature, .static yX6_checkFeature, .initialized RX6, .code yX6_checkFeature cX6_checkFeature 1 none, .classLink RX6 197 "java/lang/IndexOutOfBoundsException", .initialized "java/lang/IndexOutOfBoundsException", .methodLink RX6 185 yX5_averageOf, .instanceMethod yX5_averageOf, .selects RX5 yX5_averageOf yX5_averageOf, .initialized RX5, .code yX5_averageOf cX5_averageOf 2 (some .double), .fieldLink RX5 19 "ArcLight$Weights" "steps" "I", .fieldLink RX5 15 "ArcLight$Weights" "sums" "[J", .methodLink RX5 42 yX5_isFeature, .static yX5_isFeature, .code yX5_isFeature cX5_isFeature 1 (some .boolean)] ++ wsX60 ++ wsX50 ++ (vx_atS RX6 201 "java/lang/IndexOutOfBoundsException" ["java/lang/RuntimeException", "java/lang/Exception"]).filter goodWord)
def wsX6_rollBack_r1 : List Cond := [Cond.classLink RX6 54 "java/lang/IllegalStateException", Cond.initialized "java/lang/IllegalStateException", Cond.fieldLink RX6 22 "ArcLight" "weights" "LArcLight$Weights;", Cond.methodLink RX6 189 yX5_keptCount, Cond.instanceMethod yX5_keptCount, Cond.selects RX5 yX5_keptCount yX5_keptCount, Cond.initialized RX5, Cond.code yX5_keptCount cX5_keptCount 1 (some .int), Cond.fieldLink RX5 36 "ArcLight$Weights" "kept" "I", Cond.methodLink RX6 194 yX5_takeBack, Cond.instanceMethod yX5_takeBack, Cond.selects RX5 yX5_takeBack yX5_takeBack, Cond.code yX5_takeBack cX5_takeBack 2 none, Cond.fieldLink RX5 39 "ArcLight$Weights" "next" "I", Cond.fieldLink RX5 25 "ArcLight$Weights" "oldWeights" "[[I", Cond.fieldLink RX5 9 "ArcLight$Weights" "now" "[I", Cond.methodLink RX5 66 arraycopyName, Cond.native arraycopyName, Cond.static arraycopyName, Cond.initialized "java/lang/System", Cond.fieldLink RX5 30 "ArcLight$Weights" "oldSums" "[[J", Cond.fieldLink RX5 15 "ArcLight$Weights" "sums" "[J", Cond.fieldLink RX5 33 "ArcLight$Weights" "oldSteps" "[I", Cond.fieldLink RX5 19 "ArcLight$Weights" "steps" "I"]
def wsX6_rollBack_r2 : List Cond := [Cond.methodLink RX5 63 yX5_isRow, Cond.static yX5_isRow, Cond.code yX5_isRow cX5_isRow 1 (some .boolean)]
def wsX6_rollBack : List Cond := .code yX6_rollBack cX6_rollBack 1 (some .int) :: ((wsX6_rollBack_r1 ++ wsX6_rollBack_r2) ++ wsX60 ++ wsX50 ++ (vx_atS RX6 58 "java/lang/IllegalStateException" ["java/lang/RuntimeException", "java/lang/Exception"]).filter goodWord)
def wsX7_init : List Cond := .code yX7_init cX7_init 1 none :: ([.methodLink RX7 1 objectInit, .instanceMethod objectInit, .code objectInit ⟨#[0xb1]⟩ 1 none, .arrayClass .int, .fieldLink RX7 7 "ArcLightModel" "words" "[I", .fieldLink RX7 13 "ArcLightModel" "kind" "[I", .fieldLink RX7 16 "ArcLightModel" "mark" "[I", .fieldLink RX7 19 "ArcLightModel" "right" "[I", .fieldLink RX7 22 "ArcLightModel" "weight" "[I", .arrayClass .long, .fieldLink RX7 25 "ArcLightModel" "sum" "[J", .fieldLink RX7 29 "ArcLightModel" "was" "[I", .fieldLink RX7 32 "ArcLightModel" "weights" "[I", .fieldLink RX7 35 "ArcLightModel" "tree" "[J", .fieldLink RX7 38 "ArcLightModel" "listed" "I", .fieldLink RX7 42 "ArcLightModel" "bestKey" "[J", .fieldLink RX7 45 "ArcLightModel" "count" "[I", .arrayClass .boolean, .fieldLink RX7 48 "ArcLightModel" "isFound" "[Z", .fieldLink RX7 52 "ArcLightModel" "head" "[I"] ++ wsX70)
def wsX7_thrown : List Cond := .code yX7_thrown cX7_thrown 1 (some .int) :: ([.fieldLink RX7 55 "ArcLightModel" "thrown" "I"] ++ wsX70)
def wsX7_fails : List Cond := .code yX7_fails cX7_fails 2 (some .int) :: ([.fieldLink RX7 55 "ArcLightModel" "thrown" "I"] ++ wsX70)
def wsX7_asks : List Cond := .code yX7_asks cX7_asks 2 (some .boolean) :: ([.fieldLink RX7 55 "ArcLightModel" "thrown" "I"] ++ wsX70)
def wsX7_changed : List Cond := .code yX7_changed cX7_changed 2 none :: ([.fieldLink RX7 38 "ArcLightModel" "listed" "I", .fieldLink RX7 48 "ArcLightModel" "isFound" "[Z"] ++ wsX70)
def wsX7_isSentence : List Cond := .code yX7_isSentence cX7_isSentence 2 (some .boolean) :: ([.fieldLink RX7 58 "ArcLightModel" "sentences" "I"] ++ wsX70)
def wsX7_isWord : List Cond := .code yX7_isWord cX7_isWord 3 (some .boolean) :: ([.fieldLink RX7 7 "ArcLightModel" "words" "[I", .methodLink RX7 61 yX7_isSentence, .instanceMethod yX7_isSentence, .selects RX7 yX7_isSentence yX7_isSentence, .initialized RX7, .code yX7_isSentence cX7_isSentence 2 (some .boolean), .fieldLink RX7 58 "ArcLightModel" "sentences" "I"] ++ wsX70)
def wsX7_isPlace : List Cond := .code yX7_isPlace cX7_isPlace 3 (some .boolean) :: ([.fieldLink RX7 7 "ArcLightModel" "words" "[I", .methodLink RX7 61 yX7_isSentence, .instanceMethod yX7_isSentence, .selects RX7 yX7_isSentence yX7_isSentence, .initialized RX7, .code yX7_isSentence cX7_isSentence 2 (some .boolean), .fieldLink RX7 58 "ArcLightModel" "sentences" "I"] ++ wsX70)
def wsX7_addSentence : List Cond := .code yX7_addSentence cX7_addSentence 1 (some .int) :: ([.fieldLink RX7 58 "ArcLightModel" "sentences" "I", .methodLink RX7 65 yX7_asks, .instanceMethod yX7_asks, .selects RX7 yX7_asks yX7_asks, .initialized RX7, .code yX7_asks cX7_asks 2 (some .boolean), .fieldLink RX7 55 "ArcLightModel" "thrown" "I"] ++ wsX70)
def wsX7_addWord : List Cond := .code yX7_addWord cX7_addWord 3 (some .int) :: ([.fieldLink RX7 7 "ArcLightModel" "words" "[I", .fieldLink RX7 13 "ArcLightModel" "kind" "[I", .fieldLink RX7 19 "ArcLightModel" "right" "[I", .methodLink RX7 61 yX7_isSentence, .instanceMethod yX7_isSentence, .selects RX7 yX7_isSentence yX7_isSentence, .initialized RX7, .code yX7_isSentence cX7_isSentence 2 (some .boolean), .fieldLink RX7 58 "ArcLightModel" "sentences" "I", .methodLink RX7 65 yX7_asks, .instanceMethod yX7_asks, .selects RX7 yX7_asks yX7_asks, .code yX7_asks cX7_asks 2 (some .boolean), .fieldLink RX7 55 "ArcLightModel" "thrown" "I", .methodLink RX7 69 yX7_fails, .instanceMethod yX7_fails, .selects RX7 yX7_fails yX7_fails, .code yX7_fails cX7_fails 2 (some .int), .methodLink RX7 73 yX7_changed, .instanceMethod yX7_changed, .selects RX7 yX7_changed yX7_changed, .code yX7_changed cX7_changed 2 none, .fieldLink RX7 38 "ArcLightModel" "listed" "I", .fieldLink RX7 48 "ArcLightModel" "isFound" "[Z"] ++ wsX70)
def wsX7_sentences : List Cond := .code yX7_sentences cX7_sentences 1 (some .int) :: ([.fieldLink RX7 55 "ArcLightModel" "thrown" "I", .fieldLink RX7 58 "ArcLightModel" "sentences" "I"] ++ wsX70)
def wsX7_words : List Cond := .code yX7_words cX7_words 2 (some .int) :: ([.fieldLink RX7 7 "ArcLightModel" "words" "[I", .methodLink RX7 61 yX7_isSentence, .instanceMethod yX7_isSentence, .selects RX7 yX7_isSentence yX7_isSentence, .initialized RX7, .code yX7_isSentence cX7_isSentence 2 (some .boolean), .fieldLink RX7 58 "ArcLightModel" "sentences" "I", .methodLink RX7 65 yX7_asks, .instanceMethod yX7_asks, .selects RX7 yX7_asks yX7_asks, .code yX7_asks cX7_asks 2 (some .boolean), .fieldLink RX7 55 "ArcLightModel" "thrown" "I"] ++ wsX70)
def wsX7_kind : List Cond := .code yX7_kind cX7_kind 3 (some .int) :: ([.fieldLink RX7 13 "ArcLightModel" "kind" "[I", .methodLink RX7 76 yX7_isWord, .instanceMethod yX7_isWord, .selects RX7 yX7_isWord yX7_isWord, .initialized RX7, .code yX7_isWord cX7_isWord 3 (some .boolean), .fieldLink RX7 7 "ArcLightModel" "words" "[I", .methodLink RX7 61 yX7_isSentence, .instanceMethod yX7_isSentence, .selects RX7 yX7_isSentence yX7_isSentence, .code yX7_isSentence cX7_isSentence 2 (some .boolean), .fieldLink RX7 58 "ArcLightModel" "sentences" "I", .methodLink RX7 65 yX7_asks, .instanceMethod yX7_asks, .selects RX7 yX7_asks yX7_asks, .code yX7_asks cX7_asks 2 (some .boolean), .fieldLink RX7 55 "ArcLightModel" "thrown" "I"] ++ wsX70)
def wsX7_remembers : List Cond := .code yX7_remembers cX7_remembers 4 none :: ([.fieldLink RX7 80 "ArcLightModel" "first" "I", .fieldLink RX7 83 "ArcLightModel" "back" "I", .fieldLink RX7 29 "ArcLightModel" "was" "[I", .fieldLink RX7 32 "ArcLightModel" "weights" "[I", .fieldLink RX7 22 "ArcLightModel" "weight" "[I"] ++ wsX70)
def wsX7_setWeight_r1 : List Cond := [Cond.fieldLink RX7 22 "ArcLightModel" "weight" "[I", Cond.methodLink RX7 65 yX7_asks, Cond.instanceMethod yX7_asks, Cond.selects RX7 yX7_asks yX7_asks, Cond.initialized RX7, Cond.code yX7_asks cX7_asks 2 (some .boolean), Cond.fieldLink RX7 55 "ArcLightModel" "thrown" "I", Cond.methodLink RX7 69 yX7_fails, Cond.instanceMethod yX7_fails, Cond.selects RX7 yX7_fails yX7_fails, Cond.code yX7_fails cX7_fails 2 (some .int), Cond.methodLink RX7 86 yX7_remembers, Cond.instanceMethod yX7_remembers, Cond.selects RX7 yX7_remembers yX7_remembers, Cond.code yX7_remembers cX7_remembers 4 none, Cond.fieldLink RX7 80 "ArcLightModel" "first" "I", Cond.fieldLink RX7 83 "ArcLightModel" "back" "I", Cond.fieldLink RX7 29 "ArcLightModel" "was" "[I", Cond.fieldLink RX7 32 "ArcLightModel" "weights" "[I", Cond.methodLink RX7 73 yX7_changed, Cond.instanceMethod yX7_changed, Cond.selects RX7 yX7_changed yX7_changed, Cond.code yX7_changed cX7_changed 2 none, Cond.fieldLink RX7 38 "ArcLightModel" "listed" "I"]
def wsX7_setWeight_r2 : List Cond := [Cond.fieldLink RX7 48 "ArcLightModel" "isFound" "[Z"]
def wsX7_setWeight : List Cond := .code yX7_setWeight cX7_setWeight 4 (some .int) :: ((wsX7_setWeight_r1 ++ wsX7_setWeight_r2) ++ wsX70)
def wsX7_weight : List Cond := .code yX7_weight cX7_weight 2 (some .int) :: ([.fieldLink RX7 22 "ArcLightModel" "weight" "[I", .methodLink RX7 65 yX7_asks, .instanceMethod yX7_asks, .selects RX7 yX7_asks yX7_asks, .initialized RX7, .code yX7_asks cX7_asks 2 (some .boolean), .fieldLink RX7 55 "ArcLightModel" "thrown" "I"] ++ wsX70)
def wsX7_byKind : List Cond := .code yX7_byKind cX7_byKind 4 (some .int) :: ([.fieldLink RX7 13 "ArcLightModel" "kind" "[I"] ++ wsX70)
def wsX7_byDistance : List Cond := .code yX7_byDistance cX7_byDistance 3 (some .int) :: ([])
def wsX7_scoreOf : List Cond := .code yX7_scoreOf cX7_scoreOf 4 (some .int) :: ([.fieldLink RX7 22 "ArcLightModel" "weight" "[I", .methodLink RX7 90 yX7_byKind, .instanceMethod yX7_byKind, .selects RX7 yX7_byKind yX7_byKind, .initialized RX7, .code yX7_byKind cX7_byKind 4 (some .int), .fieldLink RX7 13 "ArcLightModel" "kind" "[I", .methodLink RX7 94 yX7_byDistance, .static yX7_byDistance, .code yX7_byDistance cX7_byDistance 3 (some .int)] ++ wsX70)
def wsX7_asksArc : List Cond := .code yX7_asksArc cX7_asksArc 4 (some .boolean) :: ([.fieldLink RX7 55 "ArcLightModel" "thrown" "I", .methodLink RX7 98 yX7_isPlace, .instanceMethod yX7_isPlace, .selects RX7 yX7_isPlace yX7_isPlace, .initialized RX7, .code yX7_isPlace cX7_isPlace 3 (some .boolean), .fieldLink RX7 7 "ArcLightModel" "words" "[I", .methodLink RX7 61 yX7_isSentence, .instanceMethod yX7_isSentence, .selects RX7 yX7_isSentence yX7_isSentence, .code yX7_isSentence cX7_isSentence 2 (some .boolean), .fieldLink RX7 58 "ArcLightModel" "sentences" "I", .methodLink RX7 76 yX7_isWord, .instanceMethod yX7_isWord, .selects RX7 yX7_isWord yX7_isWord, .code yX7_isWord cX7_isWord 3 (some .boolean)] ++ wsX70)
def wsX7_feature_r1 : List Cond := [Cond.methodLink RX7 101 yX7_asksArc, Cond.instanceMethod yX7_asksArc, Cond.selects RX7 yX7_asksArc yX7_asksArc, Cond.initialized RX7, Cond.code yX7_asksArc cX7_asksArc 4 (some .boolean), Cond.fieldLink RX7 55 "ArcLightModel" "thrown" "I", Cond.methodLink RX7 98 yX7_isPlace, Cond.instanceMethod yX7_isPlace, Cond.selects RX7 yX7_isPlace yX7_isPlace, Cond.code yX7_isPlace cX7_isPlace 3 (some .boolean), Cond.fieldLink RX7 7 "ArcLightModel" "words" "[I", Cond.methodLink RX7 61 yX7_isSentence, Cond.instanceMethod yX7_isSentence, Cond.selects RX7 yX7_isSentence yX7_isSentence, Cond.code yX7_isSentence cX7_isSentence 2 (some .boolean), Cond.fieldLink RX7 58 "ArcLightModel" "sentences" "I", Cond.methodLink RX7 76 yX7_isWord, Cond.instanceMethod yX7_isWord, Cond.selects RX7 yX7_isWord yX7_isWord, Cond.code yX7_isWord cX7_isWord 3 (some .boolean), Cond.methodLink RX7 94 yX7_byDistance, Cond.static yX7_byDistance, Cond.code yX7_byDistance cX7_byDistance 3 (some .int), Cond.methodLink RX7 90 yX7_byKind]
def wsX7_feature_r2 : List Cond := [Cond.instanceMethod yX7_byKind, Cond.selects RX7 yX7_byKind yX7_byKind, Cond.code yX7_byKind cX7_byKind 4 (some .int), Cond.fieldLink RX7 13 "ArcLightModel" "kind" "[I"]
def wsX7_feature : List Cond := .code yX7_feature cX7_feature 5 (some .int) :: ((wsX7_feature_r1 ++ wsX7_feature_r2) ++ wsX70)
def wsX7_score_r1 : List Cond := [Cond.methodLink RX7 101 yX7_asksArc, Cond.instanceMethod yX7_asksArc, Cond.selects RX7 yX7_asksArc yX7_asksArc, Cond.initialized RX7, Cond.code yX7_asksArc cX7_asksArc 4 (some .boolean), Cond.fieldLink RX7 55 "ArcLightModel" "thrown" "I", Cond.methodLink RX7 98 yX7_isPlace, Cond.instanceMethod yX7_isPlace, Cond.selects RX7 yX7_isPlace yX7_isPlace, Cond.code yX7_isPlace cX7_isPlace 3 (some .boolean), Cond.fieldLink RX7 7 "ArcLightModel" "words" "[I", Cond.methodLink RX7 61 yX7_isSentence, Cond.instanceMethod yX7_isSentence, Cond.selects RX7 yX7_isSentence yX7_isSentence, Cond.code yX7_isSentence cX7_isSentence 2 (some .boolean), Cond.fieldLink RX7 58 "ArcLightModel" "sentences" "I", Cond.methodLink RX7 76 yX7_isWord, Cond.instanceMethod yX7_isWord, Cond.selects RX7 yX7_isWord yX7_isWord, Cond.code yX7_isWord cX7_isWord 3 (some .boolean), Cond.methodLink RX7 105 yX7_scoreOf, Cond.instanceMethod yX7_scoreOf, Cond.selects RX7 yX7_scoreOf yX7_scoreOf, Cond.code yX7_scoreOf cX7_scoreOf 4 (some .int)]
def wsX7_score_r2 : List Cond := [Cond.fieldLink RX7 22 "ArcLightModel" "weight" "[I", Cond.methodLink RX7 90 yX7_byKind, Cond.instanceMethod yX7_byKind, Cond.selects RX7 yX7_byKind yX7_byKind, Cond.code yX7_byKind cX7_byKind 4 (some .int), Cond.fieldLink RX7 13 "ArcLightModel" "kind" "[I", Cond.methodLink RX7 94 yX7_byDistance, Cond.static yX7_byDistance, Cond.code yX7_byDistance cX7_byDistance 3 (some .int)]
def wsX7_score : List Cond := .code yX7_score cX7_score 4 (some .int) :: ((wsX7_score_r1 ++ wsX7_score_r2) ++ wsX70)
def wsX7_arc : List Cond := .code yX7_arc cX7_arc 4 (some .int) :: ([])
def wsX7_mark_r1 : List Cond := [Cond.fieldLink RX7 16 "ArcLightModel" "mark" "[I", Cond.methodLink RX7 101 yX7_asksArc, Cond.instanceMethod yX7_asksArc, Cond.selects RX7 yX7_asksArc yX7_asksArc, Cond.initialized RX7, Cond.code yX7_asksArc cX7_asksArc 4 (some .boolean), Cond.fieldLink RX7 55 "ArcLightModel" "thrown" "I", Cond.methodLink RX7 98 yX7_isPlace, Cond.instanceMethod yX7_isPlace, Cond.selects RX7 yX7_isPlace yX7_isPlace, Cond.code yX7_isPlace cX7_isPlace 3 (some .boolean), Cond.fieldLink RX7 7 "ArcLightModel" "words" "[I", Cond.methodLink RX7 61 yX7_isSentence, Cond.instanceMethod yX7_isSentence, Cond.selects RX7 yX7_isSentence yX7_isSentence, Cond.code yX7_isSentence cX7_isSentence 2 (some .boolean), Cond.fieldLink RX7 58 "ArcLightModel" "sentences" "I", Cond.methodLink RX7 76 yX7_isWord, Cond.instanceMethod yX7_isWord, Cond.selects RX7 yX7_isWord yX7_isWord, Cond.code yX7_isWord cX7_isWord 3 (some .boolean), Cond.methodLink RX7 69 yX7_fails, Cond.instanceMethod yX7_fails, Cond.selects RX7 yX7_fails yX7_fails]
def wsX7_mark_r2 : List Cond := [Cond.code yX7_fails cX7_fails 2 (some .int), Cond.methodLink RX7 108 yX7_arc, Cond.instanceMethod yX7_arc, Cond.selects RX7 yX7_arc yX7_arc, Cond.code yX7_arc cX7_arc 4 (some .int), Cond.methodLink RX7 73 yX7_changed, Cond.instanceMethod yX7_changed, Cond.selects RX7 yX7_changed yX7_changed, Cond.code yX7_changed cX7_changed 2 none, Cond.fieldLink RX7 38 "ArcLightModel" "listed" "I", Cond.fieldLink RX7 48 "ArcLightModel" "isFound" "[Z"]
def wsX7_mark : List Cond := .code yX7_mark cX7_mark 7 (some .int) :: ((wsX7_mark_r1 ++ wsX7_mark_r2) ++ wsX70)
def wsX7_isBetween : List Cond := .code yX7_isBetween cX7_isBetween 3 (some .boolean) :: ([])
def wsX7_isBeyond : List Cond := .code yX7_isBeyond cX7_isBeyond 3 (some .boolean) :: ([])
def wsX7_doCross : List Cond := .code yX7_doCross cX7_doCross 4 (some .boolean) :: ([.fieldLink RX7 52 "ArcLightModel" "head" "[I", .methodLink RX7 111 yX7_isBetween, .static yX7_isBetween, .initialized RX7, .code yX7_isBetween cX7_isBetween 3 (some .boolean), .methodLink RX7 114 yX7_isBeyond, .static yX7_isBeyond, .code yX7_isBeyond cX7_isBeyond 3 (some .boolean)] ++ wsX70)
def wsX7_may : List Cond := .code yX7_may cX7_may 8 (some .boolean) :: ([.fieldLink RX7 52 "ArcLightModel" "head" "[I", .fieldLink RX7 16 "ArcLightModel" "mark" "[I", .fieldLink RX7 7 "ArcLightModel" "words" "[I", .methodLink RX7 108 yX7_arc, .instanceMethod yX7_arc, .selects RX7 yX7_arc yX7_arc, .initialized RX7, .code yX7_arc cX7_arc 4 (some .int), .methodLink RX7 117 yX7_doCross, .instanceMethod yX7_doCross, .selects RX7 yX7_doCross yX7_doCross, .code yX7_doCross cX7_doCross 4 (some .boolean), .methodLink RX7 111 yX7_isBetween, .static yX7_isBetween, .code yX7_isBetween cX7_isBetween 3 (some .boolean), .methodLink RX7 114 yX7_isBeyond, .static yX7_isBeyond, .code yX7_isBeyond cX7_isBeyond 3 (some .boolean)] ++ wsX70)
def wsX7_keyOf : List Cond := .code yX7_keyOf cX7_keyOf 5 (some .long) :: ([.fieldLink RX7 7 "ArcLightModel" "words" "[I", .fieldLink RX7 52 "ArcLightModel" "head" "[I", .constant RX7 120 (100000), .methodLink RX7 105 yX7_scoreOf, .instanceMethod yX7_scoreOf, .selects RX7 yX7_scoreOf yX7_scoreOf, .initialized RX7, .code yX7_scoreOf cX7_scoreOf 4 (some .int), .fieldLink RX7 22 "ArcLightModel" "weight" "[I", .methodLink RX7 90 yX7_byKind, .instanceMethod yX7_byKind, .selects RX7 yX7_byKind yX7_byKind, .code yX7_byKind cX7_byKind 4 (some .int), .fieldLink RX7 13 "ArcLightModel" "kind" "[I", .methodLink RX7 94 yX7_byDistance, .static yX7_byDistance, .code yX7_byDistance cX7_byDistance 3 (some .int)] ++ wsX70)
def wsX7_walks_r1 : List Cond := [Cond.fieldLink RX7 7 "ArcLightModel" "words" "[I", Cond.constantLong RX7 121 (4611686018427387904), Cond.fieldLink RX7 123 "ArcLightModel" "many" "I", Cond.fieldLink RX7 52 "ArcLightModel" "head" "[I", Cond.fieldLink RX7 35 "ArcLightModel" "tree" "[J", Cond.fieldLink RX7 42 "ArcLightModel" "bestKey" "[J", Cond.fieldLink RX7 45 "ArcLightModel" "count" "[I", Cond.fieldLink RX7 48 "ArcLightModel" "isFound" "[Z", Cond.methodLink RX7 126 yX7_keyOf, Cond.instanceMethod yX7_keyOf, Cond.selects RX7 yX7_keyOf yX7_keyOf, Cond.initialized RX7, Cond.code yX7_keyOf cX7_keyOf 5 (some .long), Cond.constant RX7 120 (100000), Cond.methodLink RX7 105 yX7_scoreOf, Cond.instanceMethod yX7_scoreOf, Cond.selects RX7 yX7_scoreOf yX7_scoreOf, Cond.code yX7_scoreOf cX7_scoreOf 4 (some .int), Cond.fieldLink RX7 22 "ArcLightModel" "weight" "[I", Cond.methodLink RX7 90 yX7_byKind, Cond.instanceMethod yX7_byKind, Cond.selects RX7 yX7_byKind yX7_byKind, Cond.code yX7_byKind cX7_byKind 4 (some .int), Cond.fieldLink RX7 13 "ArcLightModel" "kind" "[I"]
def wsX7_walks_r2 : List Cond := [Cond.methodLink RX7 94 yX7_byDistance, Cond.static yX7_byDistance, Cond.code yX7_byDistance cX7_byDistance 3 (some .int), Cond.methodLink RX7 130 yX7_may, Cond.instanceMethod yX7_may, Cond.selects RX7 yX7_may yX7_may, Cond.code yX7_may cX7_may 8 (some .boolean), Cond.fieldLink RX7 16 "ArcLightModel" "mark" "[I", Cond.methodLink RX7 108 yX7_arc, Cond.instanceMethod yX7_arc, Cond.selects RX7 yX7_arc yX7_arc, Cond.code yX7_arc cX7_arc 4 (some .int), Cond.methodLink RX7 117 yX7_doCross, Cond.instanceMethod yX7_doCross, Cond.selects RX7 yX7_doCross yX7_doCross, Cond.code yX7_doCross cX7_doCross 4 (some .boolean), Cond.methodLink RX7 111 yX7_isBetween, Cond.static yX7_isBetween, Cond.code yX7_isBetween cX7_isBetween 3 (some .boolean), Cond.methodLink RX7 114 yX7_isBeyond, Cond.static yX7_isBeyond, Cond.code yX7_isBeyond cX7_isBeyond 3 (some .boolean)]
def wsX7_walks : List Cond := .code yX7_walks cX7_walks 11 none :: ((wsX7_walks_r1 ++ wsX7_walks_r2) ++ wsX70)
def wsX7_finds_r1 : List Cond := [Cond.fieldLink RX7 48 "ArcLightModel" "isFound" "[Z", Cond.fieldLink RX7 38 "ArcLightModel" "listed" "I", Cond.methodLink RX7 134 yX7_walks, Cond.instanceMethod yX7_walks, Cond.selects RX7 yX7_walks yX7_walks, Cond.initialized RX7, Cond.code yX7_walks cX7_walks 11 none, Cond.fieldLink RX7 7 "ArcLightModel" "words" "[I", Cond.constantLong RX7 121 (4611686018427387904), Cond.fieldLink RX7 123 "ArcLightModel" "many" "I", Cond.fieldLink RX7 52 "ArcLightModel" "head" "[I", Cond.fieldLink RX7 35 "ArcLightModel" "tree" "[J", Cond.fieldLink RX7 42 "ArcLightModel" "bestKey" "[J", Cond.fieldLink RX7 45 "ArcLightModel" "count" "[I", Cond.methodLink RX7 126 yX7_keyOf, Cond.instanceMethod yX7_keyOf, Cond.selects RX7 yX7_keyOf yX7_keyOf, Cond.code yX7_keyOf cX7_keyOf 5 (some .long), Cond.constant RX7 120 (100000), Cond.methodLink RX7 105 yX7_scoreOf, Cond.instanceMethod yX7_scoreOf, Cond.selects RX7 yX7_scoreOf yX7_scoreOf, Cond.code yX7_scoreOf cX7_scoreOf 4 (some .int), Cond.fieldLink RX7 22 "ArcLightModel" "weight" "[I"]
def wsX7_finds_r2 : List Cond := [Cond.methodLink RX7 90 yX7_byKind, Cond.instanceMethod yX7_byKind, Cond.selects RX7 yX7_byKind yX7_byKind, Cond.code yX7_byKind cX7_byKind 4 (some .int), Cond.fieldLink RX7 13 "ArcLightModel" "kind" "[I", Cond.methodLink RX7 94 yX7_byDistance, Cond.static yX7_byDistance, Cond.code yX7_byDistance cX7_byDistance 3 (some .int), Cond.methodLink RX7 130 yX7_may, Cond.instanceMethod yX7_may, Cond.selects RX7 yX7_may yX7_may, Cond.code yX7_may cX7_may 8 (some .boolean), Cond.fieldLink RX7 16 "ArcLightModel" "mark" "[I", Cond.methodLink RX7 108 yX7_arc, Cond.instanceMethod yX7_arc, Cond.selects RX7 yX7_arc yX7_arc, Cond.code yX7_arc cX7_arc 4 (some .int), Cond.methodLink RX7 117 yX7_doCross, Cond.instanceMethod yX7_doCross, Cond.selects RX7 yX7_doCross yX7_doCross, Cond.code yX7_doCross cX7_doCross 4 (some .boolean), Cond.methodLink RX7 111 yX7_isBetween, Cond.static yX7_isBetween, Cond.code yX7_isBetween cX7_isBetween 3 (some .boolean)]
def wsX7_finds_r3 : List Cond := [Cond.methodLink RX7 114 yX7_isBeyond, Cond.static yX7_isBeyond, Cond.code yX7_isBeyond cX7_isBeyond 3 (some .boolean)]
def wsX7_finds : List Cond := .code yX7_finds cX7_finds 4 (some .int) :: ((wsX7_finds_r1 ++ (wsX7_finds_r2 ++ wsX7_finds_r3)) ++ wsX70)
def wsX7_sinks : List Cond := .code yX7_sinks cX7_sinks 8 none :: ([.fieldLink RX7 35 "ArcLightModel" "tree" "[J"] ++ wsX70)
def wsX7_lists_r1 : List Cond := [Cond.fieldLink RX7 38 "ArcLightModel" "listed" "I", Cond.fieldLink RX7 123 "ArcLightModel" "many" "I", Cond.fieldLink RX7 35 "ArcLightModel" "tree" "[J", Cond.methodLink RX7 134 yX7_walks, Cond.instanceMethod yX7_walks, Cond.selects RX7 yX7_walks yX7_walks, Cond.initialized RX7, Cond.code yX7_walks cX7_walks 11 none, Cond.fieldLink RX7 7 "ArcLightModel" "words" "[I", Cond.constantLong RX7 121 (4611686018427387904), Cond.fieldLink RX7 52 "ArcLightModel" "head" "[I", Cond.fieldLink RX7 42 "ArcLightModel" "bestKey" "[J", Cond.fieldLink RX7 45 "ArcLightModel" "count" "[I", Cond.fieldLink RX7 48 "ArcLightModel" "isFound" "[Z", Cond.methodLink RX7 126 yX7_keyOf, Cond.instanceMethod yX7_keyOf, Cond.selects RX7 yX7_keyOf yX7_keyOf, Cond.code yX7_keyOf cX7_keyOf 5 (some .long), Cond.constant RX7 120 (100000), Cond.methodLink RX7 105 yX7_scoreOf, Cond.instanceMethod yX7_scoreOf, Cond.selects RX7 yX7_scoreOf yX7_scoreOf, Cond.code yX7_scoreOf cX7_scoreOf 4 (some .int), Cond.fieldLink RX7 22 "ArcLightModel" "weight" "[I"]
def wsX7_lists_r2 : List Cond := [Cond.methodLink RX7 90 yX7_byKind, Cond.instanceMethod yX7_byKind, Cond.selects RX7 yX7_byKind yX7_byKind, Cond.code yX7_byKind cX7_byKind 4 (some .int), Cond.fieldLink RX7 13 "ArcLightModel" "kind" "[I", Cond.methodLink RX7 94 yX7_byDistance, Cond.static yX7_byDistance, Cond.code yX7_byDistance cX7_byDistance 3 (some .int), Cond.methodLink RX7 130 yX7_may, Cond.instanceMethod yX7_may, Cond.selects RX7 yX7_may yX7_may, Cond.code yX7_may cX7_may 8 (some .boolean), Cond.fieldLink RX7 16 "ArcLightModel" "mark" "[I", Cond.methodLink RX7 108 yX7_arc, Cond.instanceMethod yX7_arc, Cond.selects RX7 yX7_arc yX7_arc, Cond.code yX7_arc cX7_arc 4 (some .int), Cond.methodLink RX7 117 yX7_doCross, Cond.instanceMethod yX7_doCross, Cond.selects RX7 yX7_doCross yX7_doCross, Cond.code yX7_doCross cX7_doCross 4 (some .boolean), Cond.methodLink RX7 111 yX7_isBetween, Cond.static yX7_isBetween, Cond.code yX7_isBetween cX7_isBetween 3 (some .boolean)]
def wsX7_lists_r3 : List Cond := [Cond.methodLink RX7 114 yX7_isBeyond, Cond.static yX7_isBeyond, Cond.code yX7_isBeyond cX7_isBeyond 3 (some .boolean), Cond.methodLink RX7 138 yX7_sinks, Cond.instanceMethod yX7_sinks, Cond.selects RX7 yX7_sinks yX7_sinks, Cond.code yX7_sinks cX7_sinks 8 none]
def wsX7_lists : List Cond := .code yX7_lists cX7_lists 7 none :: ((wsX7_lists_r1 ++ (wsX7_lists_r2 ++ wsX7_lists_r3)) ++ wsX70)
def wsX7_scoreIn : List Cond := .code yX7_scoreIn cX7_scoreIn 3 (some .int) :: ([.constant RX7 120 (100000)])
def wsX7_headIn : List Cond := .code yX7_headIn cX7_headIn 5 (some .int) :: ([.fieldLink RX7 7 "ArcLightModel" "words" "[I", .constantLong RX7 142 (7)] ++ wsX70)
def wsX7_trees_r1 : List Cond := [Cond.fieldLink RX7 45 "ArcLightModel" "count" "[I", Cond.methodLink RX7 61 yX7_isSentence, Cond.instanceMethod yX7_isSentence, Cond.selects RX7 yX7_isSentence yX7_isSentence, Cond.initialized RX7, Cond.code yX7_isSentence cX7_isSentence 2 (some .boolean), Cond.fieldLink RX7 58 "ArcLightModel" "sentences" "I", Cond.methodLink RX7 65 yX7_asks, Cond.instanceMethod yX7_asks, Cond.selects RX7 yX7_asks yX7_asks, Cond.code yX7_asks cX7_asks 2 (some .boolean), Cond.fieldLink RX7 55 "ArcLightModel" "thrown" "I", Cond.methodLink RX7 144 yX7_finds, Cond.instanceMethod yX7_finds, Cond.selects RX7 yX7_finds yX7_finds, Cond.code yX7_finds cX7_finds 4 (some .int), Cond.fieldLink RX7 48 "ArcLightModel" "isFound" "[Z", Cond.fieldLink RX7 38 "ArcLightModel" "listed" "I", Cond.methodLink RX7 134 yX7_walks, Cond.instanceMethod yX7_walks, Cond.selects RX7 yX7_walks yX7_walks, Cond.code yX7_walks cX7_walks 11 none, Cond.fieldLink RX7 7 "ArcLightModel" "words" "[I", Cond.constantLong RX7 121 (4611686018427387904)]
def wsX7_trees_r2 : List Cond := [Cond.fieldLink RX7 123 "ArcLightModel" "many" "I", Cond.fieldLink RX7 52 "ArcLightModel" "head" "[I", Cond.fieldLink RX7 35 "ArcLightModel" "tree" "[J", Cond.fieldLink RX7 42 "ArcLightModel" "bestKey" "[J", Cond.methodLink RX7 126 yX7_keyOf, Cond.instanceMethod yX7_keyOf, Cond.selects RX7 yX7_keyOf yX7_keyOf, Cond.code yX7_keyOf cX7_keyOf 5 (some .long), Cond.constant RX7 120 (100000), Cond.methodLink RX7 105 yX7_scoreOf, Cond.instanceMethod yX7_scoreOf, Cond.selects RX7 yX7_scoreOf yX7_scoreOf, Cond.code yX7_scoreOf cX7_scoreOf 4 (some .int), Cond.fieldLink RX7 22 "ArcLightModel" "weight" "[I", Cond.methodLink RX7 90 yX7_byKind, Cond.instanceMethod yX7_byKind, Cond.selects RX7 yX7_byKind yX7_byKind, Cond.code yX7_byKind cX7_byKind 4 (some .int), Cond.fieldLink RX7 13 "ArcLightModel" "kind" "[I", Cond.methodLink RX7 94 yX7_byDistance, Cond.static yX7_byDistance, Cond.code yX7_byDistance cX7_byDistance 3 (some .int), Cond.methodLink RX7 130 yX7_may, Cond.instanceMethod yX7_may]
def wsX7_trees_r3 : List Cond := [Cond.selects RX7 yX7_may yX7_may, Cond.code yX7_may cX7_may 8 (some .boolean), Cond.fieldLink RX7 16 "ArcLightModel" "mark" "[I", Cond.methodLink RX7 108 yX7_arc, Cond.instanceMethod yX7_arc, Cond.selects RX7 yX7_arc yX7_arc, Cond.code yX7_arc cX7_arc 4 (some .int), Cond.methodLink RX7 117 yX7_doCross, Cond.instanceMethod yX7_doCross, Cond.selects RX7 yX7_doCross yX7_doCross, Cond.code yX7_doCross cX7_doCross 4 (some .boolean), Cond.methodLink RX7 111 yX7_isBetween, Cond.static yX7_isBetween, Cond.code yX7_isBetween cX7_isBetween 3 (some .boolean), Cond.methodLink RX7 114 yX7_isBeyond, Cond.static yX7_isBeyond, Cond.code yX7_isBeyond cX7_isBeyond 3 (some .boolean)]
def wsX7_trees : List Cond := .code yX7_trees cX7_trees 3 (some .int) :: ((wsX7_trees_r1 ++ (wsX7_trees_r2 ++ wsX7_trees_r3)) ++ wsX70)
def wsX7_asksTree_r1 : List Cond := [Cond.fieldLink RX7 45 "ArcLightModel" "count" "[I", Cond.fieldLink RX7 55 "ArcLightModel" "thrown" "I", Cond.methodLink RX7 61 yX7_isSentence, Cond.instanceMethod yX7_isSentence, Cond.selects RX7 yX7_isSentence yX7_isSentence, Cond.initialized RX7, Cond.code yX7_isSentence cX7_isSentence 2 (some .boolean), Cond.fieldLink RX7 58 "ArcLightModel" "sentences" "I", Cond.methodLink RX7 65 yX7_asks, Cond.instanceMethod yX7_asks, Cond.selects RX7 yX7_asks yX7_asks, Cond.code yX7_asks cX7_asks 2 (some .boolean), Cond.methodLink RX7 144 yX7_finds, Cond.instanceMethod yX7_finds, Cond.selects RX7 yX7_finds yX7_finds, Cond.code yX7_finds cX7_finds 4 (some .int), Cond.fieldLink RX7 48 "ArcLightModel" "isFound" "[Z", Cond.fieldLink RX7 38 "ArcLightModel" "listed" "I", Cond.methodLink RX7 134 yX7_walks, Cond.instanceMethod yX7_walks, Cond.selects RX7 yX7_walks yX7_walks, Cond.code yX7_walks cX7_walks 11 none, Cond.fieldLink RX7 7 "ArcLightModel" "words" "[I", Cond.constantLong RX7 121 (4611686018427387904)]
def wsX7_asksTree_r2 : List Cond := [Cond.fieldLink RX7 123 "ArcLightModel" "many" "I", Cond.fieldLink RX7 52 "ArcLightModel" "head" "[I", Cond.fieldLink RX7 35 "ArcLightModel" "tree" "[J", Cond.fieldLink RX7 42 "ArcLightModel" "bestKey" "[J", Cond.methodLink RX7 126 yX7_keyOf, Cond.instanceMethod yX7_keyOf, Cond.selects RX7 yX7_keyOf yX7_keyOf, Cond.code yX7_keyOf cX7_keyOf 5 (some .long), Cond.constant RX7 120 (100000), Cond.methodLink RX7 105 yX7_scoreOf, Cond.instanceMethod yX7_scoreOf, Cond.selects RX7 yX7_scoreOf yX7_scoreOf, Cond.code yX7_scoreOf cX7_scoreOf 4 (some .int), Cond.fieldLink RX7 22 "ArcLightModel" "weight" "[I", Cond.methodLink RX7 90 yX7_byKind, Cond.instanceMethod yX7_byKind, Cond.selects RX7 yX7_byKind yX7_byKind, Cond.code yX7_byKind cX7_byKind 4 (some .int), Cond.fieldLink RX7 13 "ArcLightModel" "kind" "[I", Cond.methodLink RX7 94 yX7_byDistance, Cond.static yX7_byDistance, Cond.code yX7_byDistance cX7_byDistance 3 (some .int), Cond.methodLink RX7 130 yX7_may, Cond.instanceMethod yX7_may]
def wsX7_asksTree_r3 : List Cond := [Cond.selects RX7 yX7_may yX7_may, Cond.code yX7_may cX7_may 8 (some .boolean), Cond.fieldLink RX7 16 "ArcLightModel" "mark" "[I", Cond.methodLink RX7 108 yX7_arc, Cond.instanceMethod yX7_arc, Cond.selects RX7 yX7_arc yX7_arc, Cond.code yX7_arc cX7_arc 4 (some .int), Cond.methodLink RX7 117 yX7_doCross, Cond.instanceMethod yX7_doCross, Cond.selects RX7 yX7_doCross yX7_doCross, Cond.code yX7_doCross cX7_doCross 4 (some .boolean), Cond.methodLink RX7 111 yX7_isBetween, Cond.static yX7_isBetween, Cond.code yX7_isBetween cX7_isBetween 3 (some .boolean), Cond.methodLink RX7 114 yX7_isBeyond, Cond.static yX7_isBeyond, Cond.code yX7_isBeyond cX7_isBeyond 3 (some .boolean)]
def wsX7_asksTree : List Cond := .code yX7_asksTree cX7_asksTree 3 (some .boolean) :: ((wsX7_asksTree_r1 ++ (wsX7_asksTree_r2 ++ wsX7_asksTree_r3)) ++ wsX70)
def wsX7_best_r1 : List Cond := [Cond.fieldLink RX7 42 "ArcLightModel" "bestKey" "[J", Cond.methodLink RX7 148 yX7_asksTree, Cond.instanceMethod yX7_asksTree, Cond.selects RX7 yX7_asksTree yX7_asksTree, Cond.initialized RX7, Cond.code yX7_asksTree cX7_asksTree 3 (some .boolean), Cond.fieldLink RX7 45 "ArcLightModel" "count" "[I", Cond.fieldLink RX7 55 "ArcLightModel" "thrown" "I", Cond.methodLink RX7 61 yX7_isSentence, Cond.instanceMethod yX7_isSentence, Cond.selects RX7 yX7_isSentence yX7_isSentence, Cond.code yX7_isSentence cX7_isSentence 2 (some .boolean), Cond.fieldLink RX7 58 "ArcLightModel" "sentences" "I", Cond.methodLink RX7 65 yX7_asks, Cond.instanceMethod yX7_asks, Cond.selects RX7 yX7_asks yX7_asks, Cond.code yX7_asks cX7_asks 2 (some .boolean), Cond.methodLink RX7 144 yX7_finds, Cond.instanceMethod yX7_finds, Cond.selects RX7 yX7_finds yX7_finds, Cond.code yX7_finds cX7_finds 4 (some .int), Cond.fieldLink RX7 48 "ArcLightModel" "isFound" "[Z", Cond.fieldLink RX7 38 "ArcLightModel" "listed" "I", Cond.methodLink RX7 134 yX7_walks]
def wsX7_best_r2 : List Cond := [Cond.instanceMethod yX7_walks, Cond.selects RX7 yX7_walks yX7_walks, Cond.code yX7_walks cX7_walks 11 none, Cond.fieldLink RX7 7 "ArcLightModel" "words" "[I", Cond.constantLong RX7 121 (4611686018427387904), Cond.fieldLink RX7 123 "ArcLightModel" "many" "I", Cond.fieldLink RX7 52 "ArcLightModel" "head" "[I", Cond.fieldLink RX7 35 "ArcLightModel" "tree" "[J", Cond.methodLink RX7 126 yX7_keyOf, Cond.instanceMethod yX7_keyOf, Cond.selects RX7 yX7_keyOf yX7_keyOf, Cond.code yX7_keyOf cX7_keyOf 5 (some .long), Cond.constant RX7 120 (100000), Cond.methodLink RX7 105 yX7_scoreOf, Cond.instanceMethod yX7_scoreOf, Cond.selects RX7 yX7_scoreOf yX7_scoreOf, Cond.code yX7_scoreOf cX7_scoreOf 4 (some .int), Cond.fieldLink RX7 22 "ArcLightModel" "weight" "[I", Cond.methodLink RX7 90 yX7_byKind, Cond.instanceMethod yX7_byKind, Cond.selects RX7 yX7_byKind yX7_byKind, Cond.code yX7_byKind cX7_byKind 4 (some .int), Cond.fieldLink RX7 13 "ArcLightModel" "kind" "[I", Cond.methodLink RX7 94 yX7_byDistance]
def wsX7_best_r3 : List Cond := [Cond.static yX7_byDistance, Cond.code yX7_byDistance cX7_byDistance 3 (some .int), Cond.methodLink RX7 130 yX7_may, Cond.instanceMethod yX7_may, Cond.selects RX7 yX7_may yX7_may, Cond.code yX7_may cX7_may 8 (some .boolean), Cond.fieldLink RX7 16 "ArcLightModel" "mark" "[I", Cond.methodLink RX7 108 yX7_arc, Cond.instanceMethod yX7_arc, Cond.selects RX7 yX7_arc yX7_arc, Cond.code yX7_arc cX7_arc 4 (some .int), Cond.methodLink RX7 117 yX7_doCross, Cond.instanceMethod yX7_doCross, Cond.selects RX7 yX7_doCross yX7_doCross, Cond.code yX7_doCross cX7_doCross 4 (some .boolean), Cond.methodLink RX7 111 yX7_isBetween, Cond.static yX7_isBetween, Cond.code yX7_isBetween cX7_isBetween 3 (some .boolean), Cond.methodLink RX7 114 yX7_isBeyond, Cond.static yX7_isBeyond, Cond.code yX7_isBeyond cX7_isBeyond 3 (some .boolean), Cond.methodLink RX7 152 yX7_scoreIn, Cond.instanceMethod yX7_scoreIn, Cond.selects RX7 yX7_scoreIn yX7_scoreIn]
def wsX7_best_r4 : List Cond := [Cond.code yX7_scoreIn cX7_scoreIn 3 (some .int)]
def wsX7_best : List Cond := .code yX7_best cX7_best 3 (some .int) :: ((wsX7_best_r1 ++ (wsX7_best_r2 ++ (wsX7_best_r3 ++ wsX7_best_r4))) ++ wsX70)
def wsX7_bestByTrying_r1 : List Cond := [Cond.fieldLink RX7 42 "ArcLightModel" "bestKey" "[J", Cond.methodLink RX7 148 yX7_asksTree, Cond.instanceMethod yX7_asksTree, Cond.selects RX7 yX7_asksTree yX7_asksTree, Cond.initialized RX7, Cond.code yX7_asksTree cX7_asksTree 3 (some .boolean), Cond.fieldLink RX7 45 "ArcLightModel" "count" "[I", Cond.fieldLink RX7 55 "ArcLightModel" "thrown" "I", Cond.methodLink RX7 61 yX7_isSentence, Cond.instanceMethod yX7_isSentence, Cond.selects RX7 yX7_isSentence yX7_isSentence, Cond.code yX7_isSentence cX7_isSentence 2 (some .boolean), Cond.fieldLink RX7 58 "ArcLightModel" "sentences" "I", Cond.methodLink RX7 65 yX7_asks, Cond.instanceMethod yX7_asks, Cond.selects RX7 yX7_asks yX7_asks, Cond.code yX7_asks cX7_asks 2 (some .boolean), Cond.methodLink RX7 144 yX7_finds, Cond.instanceMethod yX7_finds, Cond.selects RX7 yX7_finds yX7_finds, Cond.code yX7_finds cX7_finds 4 (some .int), Cond.fieldLink RX7 48 "ArcLightModel" "isFound" "[Z", Cond.fieldLink RX7 38 "ArcLightModel" "listed" "I", Cond.methodLink RX7 134 yX7_walks]
def wsX7_bestByTrying_r2 : List Cond := [Cond.instanceMethod yX7_walks, Cond.selects RX7 yX7_walks yX7_walks, Cond.code yX7_walks cX7_walks 11 none, Cond.fieldLink RX7 7 "ArcLightModel" "words" "[I", Cond.constantLong RX7 121 (4611686018427387904), Cond.fieldLink RX7 123 "ArcLightModel" "many" "I", Cond.fieldLink RX7 52 "ArcLightModel" "head" "[I", Cond.fieldLink RX7 35 "ArcLightModel" "tree" "[J", Cond.methodLink RX7 126 yX7_keyOf, Cond.instanceMethod yX7_keyOf, Cond.selects RX7 yX7_keyOf yX7_keyOf, Cond.code yX7_keyOf cX7_keyOf 5 (some .long), Cond.constant RX7 120 (100000), Cond.methodLink RX7 105 yX7_scoreOf, Cond.instanceMethod yX7_scoreOf, Cond.selects RX7 yX7_scoreOf yX7_scoreOf, Cond.code yX7_scoreOf cX7_scoreOf 4 (some .int), Cond.fieldLink RX7 22 "ArcLightModel" "weight" "[I", Cond.methodLink RX7 90 yX7_byKind, Cond.instanceMethod yX7_byKind, Cond.selects RX7 yX7_byKind yX7_byKind, Cond.code yX7_byKind cX7_byKind 4 (some .int), Cond.fieldLink RX7 13 "ArcLightModel" "kind" "[I", Cond.methodLink RX7 94 yX7_byDistance]
def wsX7_bestByTrying_r3 : List Cond := [Cond.static yX7_byDistance, Cond.code yX7_byDistance cX7_byDistance 3 (some .int), Cond.methodLink RX7 130 yX7_may, Cond.instanceMethod yX7_may, Cond.selects RX7 yX7_may yX7_may, Cond.code yX7_may cX7_may 8 (some .boolean), Cond.fieldLink RX7 16 "ArcLightModel" "mark" "[I", Cond.methodLink RX7 108 yX7_arc, Cond.instanceMethod yX7_arc, Cond.selects RX7 yX7_arc yX7_arc, Cond.code yX7_arc cX7_arc 4 (some .int), Cond.methodLink RX7 117 yX7_doCross, Cond.instanceMethod yX7_doCross, Cond.selects RX7 yX7_doCross yX7_doCross, Cond.code yX7_doCross cX7_doCross 4 (some .boolean), Cond.methodLink RX7 111 yX7_isBetween, Cond.static yX7_isBetween, Cond.code yX7_isBetween cX7_isBetween 3 (some .boolean), Cond.methodLink RX7 114 yX7_isBeyond, Cond.static yX7_isBeyond, Cond.code yX7_isBeyond cX7_isBeyond 3 (some .boolean), Cond.methodLink RX7 152 yX7_scoreIn, Cond.instanceMethod yX7_scoreIn, Cond.selects RX7 yX7_scoreIn yX7_scoreIn]
def wsX7_bestByTrying_r4 : List Cond := [Cond.code yX7_scoreIn cX7_scoreIn 3 (some .int)]
def wsX7_bestByTrying : List Cond := .code yX7_bestByTrying cX7_bestByTrying 3 (some .int) :: ((wsX7_bestByTrying_r1 ++ (wsX7_bestByTrying_r2 ++ (wsX7_bestByTrying_r3 ++ wsX7_bestByTrying_r4))) ++ wsX70)
def wsX7_head_r1 : List Cond := [Cond.fieldLink RX7 42 "ArcLightModel" "bestKey" "[J", Cond.methodLink RX7 76 yX7_isWord, Cond.instanceMethod yX7_isWord, Cond.selects RX7 yX7_isWord yX7_isWord, Cond.initialized RX7, Cond.code yX7_isWord cX7_isWord 3 (some .boolean), Cond.fieldLink RX7 7 "ArcLightModel" "words" "[I", Cond.methodLink RX7 61 yX7_isSentence, Cond.instanceMethod yX7_isSentence, Cond.selects RX7 yX7_isSentence yX7_isSentence, Cond.code yX7_isSentence cX7_isSentence 2 (some .boolean), Cond.fieldLink RX7 58 "ArcLightModel" "sentences" "I", Cond.methodLink RX7 65 yX7_asks, Cond.instanceMethod yX7_asks, Cond.selects RX7 yX7_asks yX7_asks, Cond.code yX7_asks cX7_asks 2 (some .boolean), Cond.fieldLink RX7 55 "ArcLightModel" "thrown" "I", Cond.methodLink RX7 148 yX7_asksTree, Cond.instanceMethod yX7_asksTree, Cond.selects RX7 yX7_asksTree yX7_asksTree, Cond.code yX7_asksTree cX7_asksTree 3 (some .boolean), Cond.fieldLink RX7 45 "ArcLightModel" "count" "[I", Cond.methodLink RX7 144 yX7_finds, Cond.instanceMethod yX7_finds]
def wsX7_head_r2 : List Cond := [Cond.selects RX7 yX7_finds yX7_finds, Cond.code yX7_finds cX7_finds 4 (some .int), Cond.fieldLink RX7 48 "ArcLightModel" "isFound" "[Z", Cond.fieldLink RX7 38 "ArcLightModel" "listed" "I", Cond.methodLink RX7 134 yX7_walks, Cond.instanceMethod yX7_walks, Cond.selects RX7 yX7_walks yX7_walks, Cond.code yX7_walks cX7_walks 11 none, Cond.constantLong RX7 121 (4611686018427387904), Cond.fieldLink RX7 123 "ArcLightModel" "many" "I", Cond.fieldLink RX7 52 "ArcLightModel" "head" "[I", Cond.fieldLink RX7 35 "ArcLightModel" "tree" "[J", Cond.methodLink RX7 126 yX7_keyOf, Cond.instanceMethod yX7_keyOf, Cond.selects RX7 yX7_keyOf yX7_keyOf, Cond.code yX7_keyOf cX7_keyOf 5 (some .long), Cond.constant RX7 120 (100000), Cond.methodLink RX7 105 yX7_scoreOf, Cond.instanceMethod yX7_scoreOf, Cond.selects RX7 yX7_scoreOf yX7_scoreOf, Cond.code yX7_scoreOf cX7_scoreOf 4 (some .int), Cond.fieldLink RX7 22 "ArcLightModel" "weight" "[I", Cond.methodLink RX7 90 yX7_byKind, Cond.instanceMethod yX7_byKind]
def wsX7_head_r3 : List Cond := [Cond.selects RX7 yX7_byKind yX7_byKind, Cond.code yX7_byKind cX7_byKind 4 (some .int), Cond.fieldLink RX7 13 "ArcLightModel" "kind" "[I", Cond.methodLink RX7 94 yX7_byDistance, Cond.static yX7_byDistance, Cond.code yX7_byDistance cX7_byDistance 3 (some .int), Cond.methodLink RX7 130 yX7_may, Cond.instanceMethod yX7_may, Cond.selects RX7 yX7_may yX7_may, Cond.code yX7_may cX7_may 8 (some .boolean), Cond.fieldLink RX7 16 "ArcLightModel" "mark" "[I", Cond.methodLink RX7 108 yX7_arc, Cond.instanceMethod yX7_arc, Cond.selects RX7 yX7_arc yX7_arc, Cond.code yX7_arc cX7_arc 4 (some .int), Cond.methodLink RX7 117 yX7_doCross, Cond.instanceMethod yX7_doCross, Cond.selects RX7 yX7_doCross yX7_doCross, Cond.code yX7_doCross cX7_doCross 4 (some .boolean), Cond.methodLink RX7 111 yX7_isBetween, Cond.static yX7_isBetween, Cond.code yX7_isBetween cX7_isBetween 3 (some .boolean), Cond.methodLink RX7 114 yX7_isBeyond, Cond.static yX7_isBeyond]
def wsX7_head_r4 : List Cond := [Cond.code yX7_isBeyond cX7_isBeyond 3 (some .boolean), Cond.methodLink RX7 156 yX7_headIn, Cond.instanceMethod yX7_headIn, Cond.selects RX7 yX7_headIn yX7_headIn, Cond.code yX7_headIn cX7_headIn 5 (some .int), Cond.constantLong RX7 142 (7)]
def wsX7_head : List Cond := .code yX7_head cX7_head 4 (some .int) :: ((wsX7_head_r1 ++ (wsX7_head_r2 ++ (wsX7_head_r3 ++ wsX7_head_r4))) ++ wsX70)
def wsX7_crossings_r1 : List Cond := [Cond.fieldLink RX7 42 "ArcLightModel" "bestKey" "[J", Cond.fieldLink RX7 7 "ArcLightModel" "words" "[I", Cond.fieldLink RX7 52 "ArcLightModel" "head" "[I", Cond.methodLink RX7 148 yX7_asksTree, Cond.instanceMethod yX7_asksTree, Cond.selects RX7 yX7_asksTree yX7_asksTree, Cond.initialized RX7, Cond.code yX7_asksTree cX7_asksTree 3 (some .boolean), Cond.fieldLink RX7 45 "ArcLightModel" "count" "[I", Cond.fieldLink RX7 55 "ArcLightModel" "thrown" "I", Cond.methodLink RX7 61 yX7_isSentence, Cond.instanceMethod yX7_isSentence, Cond.selects RX7 yX7_isSentence yX7_isSentence, Cond.code yX7_isSentence cX7_isSentence 2 (some .boolean), Cond.fieldLink RX7 58 "ArcLightModel" "sentences" "I", Cond.methodLink RX7 65 yX7_asks, Cond.instanceMethod yX7_asks, Cond.selects RX7 yX7_asks yX7_asks, Cond.code yX7_asks cX7_asks 2 (some .boolean), Cond.methodLink RX7 144 yX7_finds, Cond.instanceMethod yX7_finds, Cond.selects RX7 yX7_finds yX7_finds, Cond.code yX7_finds cX7_finds 4 (some .int), Cond.fieldLink RX7 48 "ArcLightModel" "isFound" "[Z"]
def wsX7_crossings_r2 : List Cond := [Cond.fieldLink RX7 38 "ArcLightModel" "listed" "I", Cond.methodLink RX7 134 yX7_walks, Cond.instanceMethod yX7_walks, Cond.selects RX7 yX7_walks yX7_walks, Cond.code yX7_walks cX7_walks 11 none, Cond.constantLong RX7 121 (4611686018427387904), Cond.fieldLink RX7 123 "ArcLightModel" "many" "I", Cond.fieldLink RX7 35 "ArcLightModel" "tree" "[J", Cond.methodLink RX7 126 yX7_keyOf, Cond.instanceMethod yX7_keyOf, Cond.selects RX7 yX7_keyOf yX7_keyOf, Cond.code yX7_keyOf cX7_keyOf 5 (some .long), Cond.constant RX7 120 (100000), Cond.methodLink RX7 105 yX7_scoreOf, Cond.instanceMethod yX7_scoreOf, Cond.selects RX7 yX7_scoreOf yX7_scoreOf, Cond.code yX7_scoreOf cX7_scoreOf 4 (some .int), Cond.fieldLink RX7 22 "ArcLightModel" "weight" "[I", Cond.methodLink RX7 90 yX7_byKind, Cond.instanceMethod yX7_byKind, Cond.selects RX7 yX7_byKind yX7_byKind, Cond.code yX7_byKind cX7_byKind 4 (some .int), Cond.fieldLink RX7 13 "ArcLightModel" "kind" "[I", Cond.methodLink RX7 94 yX7_byDistance]
def wsX7_crossings_r3 : List Cond := [Cond.static yX7_byDistance, Cond.code yX7_byDistance cX7_byDistance 3 (some .int), Cond.methodLink RX7 130 yX7_may, Cond.instanceMethod yX7_may, Cond.selects RX7 yX7_may yX7_may, Cond.code yX7_may cX7_may 8 (some .boolean), Cond.fieldLink RX7 16 "ArcLightModel" "mark" "[I", Cond.methodLink RX7 108 yX7_arc, Cond.instanceMethod yX7_arc, Cond.selects RX7 yX7_arc yX7_arc, Cond.code yX7_arc cX7_arc 4 (some .int), Cond.methodLink RX7 117 yX7_doCross, Cond.instanceMethod yX7_doCross, Cond.selects RX7 yX7_doCross yX7_doCross, Cond.code yX7_doCross cX7_doCross 4 (some .boolean), Cond.methodLink RX7 111 yX7_isBetween, Cond.static yX7_isBetween, Cond.code yX7_isBetween cX7_isBetween 3 (some .boolean), Cond.methodLink RX7 114 yX7_isBeyond, Cond.static yX7_isBeyond, Cond.code yX7_isBeyond cX7_isBeyond 3 (some .boolean), Cond.methodLink RX7 156 yX7_headIn, Cond.instanceMethod yX7_headIn, Cond.selects RX7 yX7_headIn yX7_headIn]
def wsX7_crossings_r4 : List Cond := [Cond.code yX7_headIn cX7_headIn 5 (some .int), Cond.constantLong RX7 142 (7)]
def wsX7_crossings : List Cond := .code yX7_crossings cX7_crossings 7 (some .int) :: ((wsX7_crossings_r1 ++ (wsX7_crossings_r2 ++ (wsX7_crossings_r3 ++ wsX7_crossings_r4))) ++ wsX70)
def wsX7_asksRank_r1 : List Cond := [Cond.fieldLink RX7 45 "ArcLightModel" "count" "[I", Cond.methodLink RX7 61 yX7_isSentence, Cond.instanceMethod yX7_isSentence, Cond.selects RX7 yX7_isSentence yX7_isSentence, Cond.initialized RX7, Cond.code yX7_isSentence cX7_isSentence 2 (some .boolean), Cond.fieldLink RX7 58 "ArcLightModel" "sentences" "I", Cond.methodLink RX7 144 yX7_finds, Cond.instanceMethod yX7_finds, Cond.selects RX7 yX7_finds yX7_finds, Cond.code yX7_finds cX7_finds 4 (some .int), Cond.fieldLink RX7 48 "ArcLightModel" "isFound" "[Z", Cond.fieldLink RX7 38 "ArcLightModel" "listed" "I", Cond.methodLink RX7 134 yX7_walks, Cond.instanceMethod yX7_walks, Cond.selects RX7 yX7_walks yX7_walks, Cond.code yX7_walks cX7_walks 11 none, Cond.fieldLink RX7 7 "ArcLightModel" "words" "[I", Cond.constantLong RX7 121 (4611686018427387904), Cond.fieldLink RX7 123 "ArcLightModel" "many" "I", Cond.fieldLink RX7 52 "ArcLightModel" "head" "[I", Cond.fieldLink RX7 35 "ArcLightModel" "tree" "[J", Cond.fieldLink RX7 42 "ArcLightModel" "bestKey" "[J", Cond.methodLink RX7 126 yX7_keyOf]
def wsX7_asksRank_r2 : List Cond := [Cond.instanceMethod yX7_keyOf, Cond.selects RX7 yX7_keyOf yX7_keyOf, Cond.code yX7_keyOf cX7_keyOf 5 (some .long), Cond.constant RX7 120 (100000), Cond.methodLink RX7 105 yX7_scoreOf, Cond.instanceMethod yX7_scoreOf, Cond.selects RX7 yX7_scoreOf yX7_scoreOf, Cond.code yX7_scoreOf cX7_scoreOf 4 (some .int), Cond.fieldLink RX7 22 "ArcLightModel" "weight" "[I", Cond.methodLink RX7 90 yX7_byKind, Cond.instanceMethod yX7_byKind, Cond.selects RX7 yX7_byKind yX7_byKind, Cond.code yX7_byKind cX7_byKind 4 (some .int), Cond.fieldLink RX7 13 "ArcLightModel" "kind" "[I", Cond.methodLink RX7 94 yX7_byDistance, Cond.static yX7_byDistance, Cond.code yX7_byDistance cX7_byDistance 3 (some .int), Cond.methodLink RX7 130 yX7_may, Cond.instanceMethod yX7_may, Cond.selects RX7 yX7_may yX7_may, Cond.code yX7_may cX7_may 8 (some .boolean), Cond.fieldLink RX7 16 "ArcLightModel" "mark" "[I", Cond.methodLink RX7 108 yX7_arc, Cond.instanceMethod yX7_arc]
def wsX7_asksRank_r3 : List Cond := [Cond.selects RX7 yX7_arc yX7_arc, Cond.code yX7_arc cX7_arc 4 (some .int), Cond.methodLink RX7 117 yX7_doCross, Cond.instanceMethod yX7_doCross, Cond.selects RX7 yX7_doCross yX7_doCross, Cond.code yX7_doCross cX7_doCross 4 (some .boolean), Cond.methodLink RX7 111 yX7_isBetween, Cond.static yX7_isBetween, Cond.code yX7_isBetween cX7_isBetween 3 (some .boolean), Cond.methodLink RX7 114 yX7_isBeyond, Cond.static yX7_isBeyond, Cond.code yX7_isBeyond cX7_isBeyond 3 (some .boolean), Cond.methodLink RX7 160 yX7_lists, Cond.instanceMethod yX7_lists, Cond.selects RX7 yX7_lists yX7_lists, Cond.code yX7_lists cX7_lists 7 none, Cond.methodLink RX7 138 yX7_sinks, Cond.instanceMethod yX7_sinks, Cond.selects RX7 yX7_sinks yX7_sinks, Cond.code yX7_sinks cX7_sinks 8 none, Cond.methodLink RX7 65 yX7_asks, Cond.instanceMethod yX7_asks, Cond.selects RX7 yX7_asks yX7_asks, Cond.code yX7_asks cX7_asks 2 (some .boolean)]
def wsX7_asksRank_r4 : List Cond := [Cond.fieldLink RX7 55 "ArcLightModel" "thrown" "I"]
def wsX7_asksRank : List Cond := .code yX7_asksRank cX7_asksRank 6 (some .boolean) :: ((wsX7_asksRank_r1 ++ (wsX7_asksRank_r2 ++ (wsX7_asksRank_r3 ++ wsX7_asksRank_r4))) ++ wsX70)
def wsX7_ranked_r1 : List Cond := [Cond.fieldLink RX7 35 "ArcLightModel" "tree" "[J", Cond.methodLink RX7 164 yX7_asksRank, Cond.instanceMethod yX7_asksRank, Cond.selects RX7 yX7_asksRank yX7_asksRank, Cond.initialized RX7, Cond.code yX7_asksRank cX7_asksRank 6 (some .boolean), Cond.fieldLink RX7 45 "ArcLightModel" "count" "[I", Cond.methodLink RX7 61 yX7_isSentence, Cond.instanceMethod yX7_isSentence, Cond.selects RX7 yX7_isSentence yX7_isSentence, Cond.code yX7_isSentence cX7_isSentence 2 (some .boolean), Cond.fieldLink RX7 58 "ArcLightModel" "sentences" "I", Cond.methodLink RX7 144 yX7_finds, Cond.instanceMethod yX7_finds, Cond.selects RX7 yX7_finds yX7_finds, Cond.code yX7_finds cX7_finds 4 (some .int), Cond.fieldLink RX7 48 "ArcLightModel" "isFound" "[Z", Cond.fieldLink RX7 38 "ArcLightModel" "listed" "I", Cond.methodLink RX7 134 yX7_walks, Cond.instanceMethod yX7_walks, Cond.selects RX7 yX7_walks yX7_walks, Cond.code yX7_walks cX7_walks 11 none, Cond.fieldLink RX7 7 "ArcLightModel" "words" "[I", Cond.constantLong RX7 121 (4611686018427387904)]
def wsX7_ranked_r2 : List Cond := [Cond.fieldLink RX7 123 "ArcLightModel" "many" "I", Cond.fieldLink RX7 52 "ArcLightModel" "head" "[I", Cond.fieldLink RX7 42 "ArcLightModel" "bestKey" "[J", Cond.methodLink RX7 126 yX7_keyOf, Cond.instanceMethod yX7_keyOf, Cond.selects RX7 yX7_keyOf yX7_keyOf, Cond.code yX7_keyOf cX7_keyOf 5 (some .long), Cond.constant RX7 120 (100000), Cond.methodLink RX7 105 yX7_scoreOf, Cond.instanceMethod yX7_scoreOf, Cond.selects RX7 yX7_scoreOf yX7_scoreOf, Cond.code yX7_scoreOf cX7_scoreOf 4 (some .int), Cond.fieldLink RX7 22 "ArcLightModel" "weight" "[I", Cond.methodLink RX7 90 yX7_byKind, Cond.instanceMethod yX7_byKind, Cond.selects RX7 yX7_byKind yX7_byKind, Cond.code yX7_byKind cX7_byKind 4 (some .int), Cond.fieldLink RX7 13 "ArcLightModel" "kind" "[I", Cond.methodLink RX7 94 yX7_byDistance, Cond.static yX7_byDistance, Cond.code yX7_byDistance cX7_byDistance 3 (some .int), Cond.methodLink RX7 130 yX7_may, Cond.instanceMethod yX7_may, Cond.selects RX7 yX7_may yX7_may]
def wsX7_ranked_r3 : List Cond := [Cond.code yX7_may cX7_may 8 (some .boolean), Cond.fieldLink RX7 16 "ArcLightModel" "mark" "[I", Cond.methodLink RX7 108 yX7_arc, Cond.instanceMethod yX7_arc, Cond.selects RX7 yX7_arc yX7_arc, Cond.code yX7_arc cX7_arc 4 (some .int), Cond.methodLink RX7 117 yX7_doCross, Cond.instanceMethod yX7_doCross, Cond.selects RX7 yX7_doCross yX7_doCross, Cond.code yX7_doCross cX7_doCross 4 (some .boolean), Cond.methodLink RX7 111 yX7_isBetween, Cond.static yX7_isBetween, Cond.code yX7_isBetween cX7_isBetween 3 (some .boolean), Cond.methodLink RX7 114 yX7_isBeyond, Cond.static yX7_isBeyond, Cond.code yX7_isBeyond cX7_isBeyond 3 (some .boolean), Cond.methodLink RX7 160 yX7_lists, Cond.instanceMethod yX7_lists, Cond.selects RX7 yX7_lists yX7_lists, Cond.code yX7_lists cX7_lists 7 none, Cond.methodLink RX7 138 yX7_sinks, Cond.instanceMethod yX7_sinks, Cond.selects RX7 yX7_sinks yX7_sinks, Cond.code yX7_sinks cX7_sinks 8 none]
def wsX7_ranked_r4 : List Cond := [Cond.methodLink RX7 65 yX7_asks, Cond.instanceMethod yX7_asks, Cond.selects RX7 yX7_asks yX7_asks, Cond.code yX7_asks cX7_asks 2 (some .boolean), Cond.fieldLink RX7 55 "ArcLightModel" "thrown" "I", Cond.methodLink RX7 152 yX7_scoreIn, Cond.instanceMethod yX7_scoreIn, Cond.selects RX7 yX7_scoreIn yX7_scoreIn, Cond.code yX7_scoreIn cX7_scoreIn 3 (some .int)]
def wsX7_ranked : List Cond := .code yX7_ranked cX7_ranked 4 (some .int) :: ((wsX7_ranked_r1 ++ (wsX7_ranked_r2 ++ (wsX7_ranked_r3 ++ wsX7_ranked_r4))) ++ wsX70)
def wsX7_rankedHead_r1 : List Cond := [Cond.fieldLink RX7 35 "ArcLightModel" "tree" "[J", Cond.methodLink RX7 76 yX7_isWord, Cond.instanceMethod yX7_isWord, Cond.selects RX7 yX7_isWord yX7_isWord, Cond.initialized RX7, Cond.code yX7_isWord cX7_isWord 3 (some .boolean), Cond.fieldLink RX7 7 "ArcLightModel" "words" "[I", Cond.methodLink RX7 61 yX7_isSentence, Cond.instanceMethod yX7_isSentence, Cond.selects RX7 yX7_isSentence yX7_isSentence, Cond.code yX7_isSentence cX7_isSentence 2 (some .boolean), Cond.fieldLink RX7 58 "ArcLightModel" "sentences" "I", Cond.methodLink RX7 164 yX7_asksRank, Cond.instanceMethod yX7_asksRank, Cond.selects RX7 yX7_asksRank yX7_asksRank, Cond.code yX7_asksRank cX7_asksRank 6 (some .boolean), Cond.fieldLink RX7 45 "ArcLightModel" "count" "[I", Cond.methodLink RX7 144 yX7_finds, Cond.instanceMethod yX7_finds, Cond.selects RX7 yX7_finds yX7_finds, Cond.code yX7_finds cX7_finds 4 (some .int), Cond.fieldLink RX7 48 "ArcLightModel" "isFound" "[Z", Cond.fieldLink RX7 38 "ArcLightModel" "listed" "I", Cond.methodLink RX7 134 yX7_walks]
def wsX7_rankedHead_r2 : List Cond := [Cond.instanceMethod yX7_walks, Cond.selects RX7 yX7_walks yX7_walks, Cond.code yX7_walks cX7_walks 11 none, Cond.constantLong RX7 121 (4611686018427387904), Cond.fieldLink RX7 123 "ArcLightModel" "many" "I", Cond.fieldLink RX7 52 "ArcLightModel" "head" "[I", Cond.fieldLink RX7 42 "ArcLightModel" "bestKey" "[J", Cond.methodLink RX7 126 yX7_keyOf, Cond.instanceMethod yX7_keyOf, Cond.selects RX7 yX7_keyOf yX7_keyOf, Cond.code yX7_keyOf cX7_keyOf 5 (some .long), Cond.constant RX7 120 (100000), Cond.methodLink RX7 105 yX7_scoreOf, Cond.instanceMethod yX7_scoreOf, Cond.selects RX7 yX7_scoreOf yX7_scoreOf, Cond.code yX7_scoreOf cX7_scoreOf 4 (some .int), Cond.fieldLink RX7 22 "ArcLightModel" "weight" "[I", Cond.methodLink RX7 90 yX7_byKind, Cond.instanceMethod yX7_byKind, Cond.selects RX7 yX7_byKind yX7_byKind, Cond.code yX7_byKind cX7_byKind 4 (some .int), Cond.fieldLink RX7 13 "ArcLightModel" "kind" "[I", Cond.methodLink RX7 94 yX7_byDistance, Cond.static yX7_byDistance]
def wsX7_rankedHead_r3 : List Cond := [Cond.code yX7_byDistance cX7_byDistance 3 (some .int), Cond.methodLink RX7 130 yX7_may, Cond.instanceMethod yX7_may, Cond.selects RX7 yX7_may yX7_may, Cond.code yX7_may cX7_may 8 (some .boolean), Cond.fieldLink RX7 16 "ArcLightModel" "mark" "[I", Cond.methodLink RX7 108 yX7_arc, Cond.instanceMethod yX7_arc, Cond.selects RX7 yX7_arc yX7_arc, Cond.code yX7_arc cX7_arc 4 (some .int), Cond.methodLink RX7 117 yX7_doCross, Cond.instanceMethod yX7_doCross, Cond.selects RX7 yX7_doCross yX7_doCross, Cond.code yX7_doCross cX7_doCross 4 (some .boolean), Cond.methodLink RX7 111 yX7_isBetween, Cond.static yX7_isBetween, Cond.code yX7_isBetween cX7_isBetween 3 (some .boolean), Cond.methodLink RX7 114 yX7_isBeyond, Cond.static yX7_isBeyond, Cond.code yX7_isBeyond cX7_isBeyond 3 (some .boolean), Cond.methodLink RX7 160 yX7_lists, Cond.instanceMethod yX7_lists, Cond.selects RX7 yX7_lists yX7_lists, Cond.code yX7_lists cX7_lists 7 none]
def wsX7_rankedHead_r4 : List Cond := [Cond.methodLink RX7 138 yX7_sinks, Cond.instanceMethod yX7_sinks, Cond.selects RX7 yX7_sinks yX7_sinks, Cond.code yX7_sinks cX7_sinks 8 none, Cond.methodLink RX7 65 yX7_asks, Cond.instanceMethod yX7_asks, Cond.selects RX7 yX7_asks yX7_asks, Cond.code yX7_asks cX7_asks 2 (some .boolean), Cond.fieldLink RX7 55 "ArcLightModel" "thrown" "I", Cond.methodLink RX7 156 yX7_headIn, Cond.instanceMethod yX7_headIn, Cond.selects RX7 yX7_headIn yX7_headIn, Cond.code yX7_headIn cX7_headIn 5 (some .int), Cond.constantLong RX7 142 (7)]
def wsX7_rankedHead : List Cond := .code yX7_rankedHead cX7_rankedHead 5 (some .int) :: ((wsX7_rankedHead_r1 ++ (wsX7_rankedHead_r2 ++ (wsX7_rankedHead_r3 ++ wsX7_rankedHead_r4))) ++ wsX70)
def wsX7_correct : List Cond := .code yX7_correct cX7_correct 5 (some .int) :: ([.fieldLink RX7 19 "ArcLightModel" "right" "[I", .methodLink RX7 101 yX7_asksArc, .instanceMethod yX7_asksArc, .selects RX7 yX7_asksArc yX7_asksArc, .initialized RX7, .code yX7_asksArc cX7_asksArc 4 (some .boolean), .fieldLink RX7 55 "ArcLightModel" "thrown" "I", .methodLink RX7 98 yX7_isPlace, .instanceMethod yX7_isPlace, .selects RX7 yX7_isPlace yX7_isPlace, .code yX7_isPlace cX7_isPlace 3 (some .boolean), .fieldLink RX7 7 "ArcLightModel" "words" "[I", .methodLink RX7 61 yX7_isSentence, .instanceMethod yX7_isSentence, .selects RX7 yX7_isSentence yX7_isSentence, .code yX7_isSentence cX7_isSentence 2 (some .boolean), .fieldLink RX7 58 "ArcLightModel" "sentences" "I", .methodLink RX7 76 yX7_isWord, .instanceMethod yX7_isWord, .selects RX7 yX7_isWord yX7_isWord, .code yX7_isWord cX7_isWord 3 (some .boolean)] ++ wsX70)
def wsX7_matched_r1 : List Cond := [Cond.fieldLink RX7 42 "ArcLightModel" "bestKey" "[J", Cond.fieldLink RX7 7 "ArcLightModel" "words" "[I", Cond.fieldLink RX7 19 "ArcLightModel" "right" "[I", Cond.methodLink RX7 148 yX7_asksTree, Cond.instanceMethod yX7_asksTree, Cond.selects RX7 yX7_asksTree yX7_asksTree, Cond.initialized RX7, Cond.code yX7_asksTree cX7_asksTree 3 (some .boolean), Cond.fieldLink RX7 45 "ArcLightModel" "count" "[I", Cond.fieldLink RX7 55 "ArcLightModel" "thrown" "I", Cond.methodLink RX7 61 yX7_isSentence, Cond.instanceMethod yX7_isSentence, Cond.selects RX7 yX7_isSentence yX7_isSentence, Cond.code yX7_isSentence cX7_isSentence 2 (some .boolean), Cond.fieldLink RX7 58 "ArcLightModel" "sentences" "I", Cond.methodLink RX7 65 yX7_asks, Cond.instanceMethod yX7_asks, Cond.selects RX7 yX7_asks yX7_asks, Cond.code yX7_asks cX7_asks 2 (some .boolean), Cond.methodLink RX7 144 yX7_finds, Cond.instanceMethod yX7_finds, Cond.selects RX7 yX7_finds yX7_finds, Cond.code yX7_finds cX7_finds 4 (some .int), Cond.fieldLink RX7 48 "ArcLightModel" "isFound" "[Z"]
def wsX7_matched_r2 : List Cond := [Cond.fieldLink RX7 38 "ArcLightModel" "listed" "I", Cond.methodLink RX7 134 yX7_walks, Cond.instanceMethod yX7_walks, Cond.selects RX7 yX7_walks yX7_walks, Cond.code yX7_walks cX7_walks 11 none, Cond.constantLong RX7 121 (4611686018427387904), Cond.fieldLink RX7 123 "ArcLightModel" "many" "I", Cond.fieldLink RX7 52 "ArcLightModel" "head" "[I", Cond.fieldLink RX7 35 "ArcLightModel" "tree" "[J", Cond.methodLink RX7 126 yX7_keyOf, Cond.instanceMethod yX7_keyOf, Cond.selects RX7 yX7_keyOf yX7_keyOf, Cond.code yX7_keyOf cX7_keyOf 5 (some .long), Cond.constant RX7 120 (100000), Cond.methodLink RX7 105 yX7_scoreOf, Cond.instanceMethod yX7_scoreOf, Cond.selects RX7 yX7_scoreOf yX7_scoreOf, Cond.code yX7_scoreOf cX7_scoreOf 4 (some .int), Cond.fieldLink RX7 22 "ArcLightModel" "weight" "[I", Cond.methodLink RX7 90 yX7_byKind, Cond.instanceMethod yX7_byKind, Cond.selects RX7 yX7_byKind yX7_byKind, Cond.code yX7_byKind cX7_byKind 4 (some .int), Cond.fieldLink RX7 13 "ArcLightModel" "kind" "[I"]
def wsX7_matched_r3 : List Cond := [Cond.methodLink RX7 94 yX7_byDistance, Cond.static yX7_byDistance, Cond.code yX7_byDistance cX7_byDistance 3 (some .int), Cond.methodLink RX7 130 yX7_may, Cond.instanceMethod yX7_may, Cond.selects RX7 yX7_may yX7_may, Cond.code yX7_may cX7_may 8 (some .boolean), Cond.fieldLink RX7 16 "ArcLightModel" "mark" "[I", Cond.methodLink RX7 108 yX7_arc, Cond.instanceMethod yX7_arc, Cond.selects RX7 yX7_arc yX7_arc, Cond.code yX7_arc cX7_arc 4 (some .int), Cond.methodLink RX7 117 yX7_doCross, Cond.instanceMethod yX7_doCross, Cond.selects RX7 yX7_doCross yX7_doCross, Cond.code yX7_doCross cX7_doCross 4 (some .boolean), Cond.methodLink RX7 111 yX7_isBetween, Cond.static yX7_isBetween, Cond.code yX7_isBetween cX7_isBetween 3 (some .boolean), Cond.methodLink RX7 114 yX7_isBeyond, Cond.static yX7_isBeyond, Cond.code yX7_isBeyond cX7_isBeyond 3 (some .boolean), Cond.methodLink RX7 156 yX7_headIn, Cond.instanceMethod yX7_headIn]
def wsX7_matched_r4 : List Cond := [Cond.selects RX7 yX7_headIn yX7_headIn, Cond.code yX7_headIn cX7_headIn 5 (some .int), Cond.constantLong RX7 142 (7)]
def wsX7_matched : List Cond := .code yX7_matched cX7_matched 6 (some .int) :: ((wsX7_matched_r1 ++ (wsX7_matched_r2 ++ (wsX7_matched_r3 ++ wsX7_matched_r4))) ++ wsX70)
def wsX7_isRight : List Cond := .code yX7_isRight cX7_isRight 6 (some .boolean) :: ([.fieldLink RX7 7 "ArcLightModel" "words" "[I", .fieldLink RX7 19 "ArcLightModel" "right" "[I"] ++ wsX70)
def wsX7_adds : List Cond := .code yX7_adds cX7_adds 5 none :: ([.fieldLink RX7 22 "ArcLightModel" "weight" "[I", .methodLink RX7 90 yX7_byKind, .instanceMethod yX7_byKind, .selects RX7 yX7_byKind yX7_byKind, .initialized RX7, .code yX7_byKind cX7_byKind 4 (some .int), .fieldLink RX7 13 "ArcLightModel" "kind" "[I", .methodLink RX7 94 yX7_byDistance, .static yX7_byDistance, .code yX7_byDistance cX7_byDistance 3 (some .int)] ++ wsX70)
def wsX7_mend_r1 : List Cond := [Cond.fieldLink RX7 45 "ArcLightModel" "count" "[I", Cond.fieldLink RX7 42 "ArcLightModel" "bestKey" "[J", Cond.fieldLink RX7 7 "ArcLightModel" "words" "[I", Cond.fieldLink RX7 19 "ArcLightModel" "right" "[I", Cond.fieldLink RX7 175 "ArcLightModel" "steps" "I", Cond.fieldLink RX7 25 "ArcLightModel" "sum" "[J", Cond.fieldLink RX7 22 "ArcLightModel" "weight" "[I", Cond.methodLink RX7 61 yX7_isSentence, Cond.instanceMethod yX7_isSentence, Cond.selects RX7 yX7_isSentence yX7_isSentence, Cond.initialized RX7, Cond.code yX7_isSentence cX7_isSentence 2 (some .boolean), Cond.fieldLink RX7 58 "ArcLightModel" "sentences" "I", Cond.methodLink RX7 65 yX7_asks, Cond.instanceMethod yX7_asks, Cond.selects RX7 yX7_asks yX7_asks, Cond.code yX7_asks cX7_asks 2 (some .boolean), Cond.fieldLink RX7 55 "ArcLightModel" "thrown" "I", Cond.methodLink RX7 168 yX7_isRight, Cond.instanceMethod yX7_isRight, Cond.selects RX7 yX7_isRight yX7_isRight, Cond.code yX7_isRight cX7_isRight 6 (some .boolean), Cond.methodLink RX7 144 yX7_finds, Cond.instanceMethod yX7_finds]
def wsX7_mend_r2 : List Cond := [Cond.selects RX7 yX7_finds yX7_finds, Cond.code yX7_finds cX7_finds 4 (some .int), Cond.fieldLink RX7 48 "ArcLightModel" "isFound" "[Z", Cond.fieldLink RX7 38 "ArcLightModel" "listed" "I", Cond.methodLink RX7 134 yX7_walks, Cond.instanceMethod yX7_walks, Cond.selects RX7 yX7_walks yX7_walks, Cond.code yX7_walks cX7_walks 11 none, Cond.constantLong RX7 121 (4611686018427387904), Cond.fieldLink RX7 123 "ArcLightModel" "many" "I", Cond.fieldLink RX7 52 "ArcLightModel" "head" "[I", Cond.fieldLink RX7 35 "ArcLightModel" "tree" "[J", Cond.methodLink RX7 126 yX7_keyOf, Cond.instanceMethod yX7_keyOf, Cond.selects RX7 yX7_keyOf yX7_keyOf, Cond.code yX7_keyOf cX7_keyOf 5 (some .long), Cond.constant RX7 120 (100000), Cond.methodLink RX7 105 yX7_scoreOf, Cond.instanceMethod yX7_scoreOf, Cond.selects RX7 yX7_scoreOf yX7_scoreOf, Cond.code yX7_scoreOf cX7_scoreOf 4 (some .int), Cond.methodLink RX7 90 yX7_byKind, Cond.instanceMethod yX7_byKind, Cond.selects RX7 yX7_byKind yX7_byKind]
def wsX7_mend_r3 : List Cond := [Cond.code yX7_byKind cX7_byKind 4 (some .int), Cond.fieldLink RX7 13 "ArcLightModel" "kind" "[I", Cond.methodLink RX7 94 yX7_byDistance, Cond.static yX7_byDistance, Cond.code yX7_byDistance cX7_byDistance 3 (some .int), Cond.methodLink RX7 130 yX7_may, Cond.instanceMethod yX7_may, Cond.selects RX7 yX7_may yX7_may, Cond.code yX7_may cX7_may 8 (some .boolean), Cond.fieldLink RX7 16 "ArcLightModel" "mark" "[I", Cond.methodLink RX7 108 yX7_arc, Cond.instanceMethod yX7_arc, Cond.selects RX7 yX7_arc yX7_arc, Cond.code yX7_arc cX7_arc 4 (some .int), Cond.methodLink RX7 117 yX7_doCross, Cond.instanceMethod yX7_doCross, Cond.selects RX7 yX7_doCross yX7_doCross, Cond.code yX7_doCross cX7_doCross 4 (some .boolean), Cond.methodLink RX7 111 yX7_isBetween, Cond.static yX7_isBetween, Cond.code yX7_isBetween cX7_isBetween 3 (some .boolean), Cond.methodLink RX7 114 yX7_isBeyond, Cond.static yX7_isBeyond, Cond.code yX7_isBeyond cX7_isBeyond 3 (some .boolean)]
def wsX7_mend_r4 : List Cond := [Cond.methodLink RX7 69 yX7_fails, Cond.instanceMethod yX7_fails, Cond.selects RX7 yX7_fails yX7_fails, Cond.code yX7_fails cX7_fails 2 (some .int), Cond.methodLink RX7 86 yX7_remembers, Cond.instanceMethod yX7_remembers, Cond.selects RX7 yX7_remembers yX7_remembers, Cond.code yX7_remembers cX7_remembers 4 none, Cond.fieldLink RX7 80 "ArcLightModel" "first" "I", Cond.fieldLink RX7 83 "ArcLightModel" "back" "I", Cond.fieldLink RX7 29 "ArcLightModel" "was" "[I", Cond.fieldLink RX7 32 "ArcLightModel" "weights" "[I", Cond.methodLink RX7 156 yX7_headIn, Cond.instanceMethod yX7_headIn, Cond.selects RX7 yX7_headIn yX7_headIn, Cond.code yX7_headIn cX7_headIn 5 (some .int), Cond.constantLong RX7 142 (7), Cond.methodLink RX7 171 yX7_adds, Cond.instanceMethod yX7_adds, Cond.selects RX7 yX7_adds yX7_adds, Cond.code yX7_adds cX7_adds 5 none, Cond.methodLink RX7 73 yX7_changed, Cond.instanceMethod yX7_changed, Cond.selects RX7 yX7_changed yX7_changed]
def wsX7_mend_r5 : List Cond := [Cond.code yX7_changed cX7_changed 2 none]
def wsX7_mend : List Cond := .code yX7_mend cX7_mend 8 (some .int) :: ((wsX7_mend_r1 ++ (wsX7_mend_r2 ++ (wsX7_mend_r3 ++ (wsX7_mend_r4 ++ wsX7_mend_r5)))) ++ wsX70)
def wsX7_steps : List Cond := .code yX7_steps cX7_steps 1 (some .int) :: ([.fieldLink RX7 55 "ArcLightModel" "thrown" "I", .fieldLink RX7 175 "ArcLightModel" "steps" "I"] ++ wsX70)
def wsX7_average : List Cond := .code yX7_average cX7_average 2 (some .double) :: ([.fieldLink RX7 175 "ArcLightModel" "steps" "I", .fieldLink RX7 25 "ArcLightModel" "sum" "[J", .methodLink RX7 65 yX7_asks, .instanceMethod yX7_asks, .selects RX7 yX7_asks yX7_asks, .initialized RX7, .code yX7_asks cX7_asks 2 (some .boolean), .fieldLink RX7 55 "ArcLightModel" "thrown" "I"] ++ wsX70)
def wsX7_rollBack : List Cond := .code yX7_rollBack cX7_rollBack 4 (some .int) :: ([.fieldLink RX7 83 "ArcLightModel" "back" "I", .fieldLink RX7 80 "ArcLightModel" "first" "I", .fieldLink RX7 29 "ArcLightModel" "was" "[I", .fieldLink RX7 25 "ArcLightModel" "sum" "[J", .fieldLink RX7 22 "ArcLightModel" "weight" "[I", .fieldLink RX7 32 "ArcLightModel" "weights" "[I", .fieldLink RX7 175 "ArcLightModel" "steps" "I", .methodLink RX7 65 yX7_asks, .instanceMethod yX7_asks, .selects RX7 yX7_asks yX7_asks, .initialized RX7, .code yX7_asks cX7_asks 2 (some .boolean), .fieldLink RX7 55 "ArcLightModel" "thrown" "I", .methodLink RX7 73 yX7_changed, .instanceMethod yX7_changed, .selects RX7 yX7_changed yX7_changed, .code yX7_changed cX7_changed 2 none, .fieldLink RX7 38 "ArcLightModel" "listed" "I", .fieldLink RX7 48 "ArcLightModel" "isFound" "[Z"] ++ wsX70)
def wsJ9_abs_0f7a4 : List Cond := .code yJ9_abs_0f7a4 cJ9_abs_0f7a4 1 (some .int) :: ([])
def wsJ9_max_7cf53 : List Cond := .code yJ9_max_7cf53 cJ9_max_7cf53 2 (some .int) :: ([])
def wsJ9_max_f86c9 : List Cond := .code yJ9_max_f86c9 cJ9_max_f86c9 4 (some .long) :: ([])
def wsJ9_min_7cf53 : List Cond := .code yJ9_min_7cf53 cJ9_min_7cf53 2 (some .int) :: ([])
def wsJ9_min_f86c9 : List Cond := .code yJ9_min_f86c9 cJ9_min_f86c9 4 (some .long) :: ([])
abbrev vwCl : List vw_C := [(RX0, TX0, 2), (RX1, TX1, 5), (RX2, TX2, 4), (RX3, TX3, 4), (RX4, TX4, 3), (RX5, TX5, 8), (RX6, TX6, 7), (RX7, TX7, 20)]
end
section
/-! THE MEMORY OF A RUN AS FUNCTIONS, and the rows over it. ZM: int slots, long slots, references, doubles, by address and place (a field's place in its class, an array's index). K: the kind of each address (0: not ours; c + 1: an object of class c of vwCl; 11 int[], 12 long[], 13 boolean[], 14 Sentence[], 15 int[][], 16 long[][], 17 double[]); len: arrays' lengths. -/
abbrev ZM : Type := (Nat → Nat → Int32) × (Nat → Nat → Int64) × (Nat → Nat → Option Nat) × (Nat → Nat → UInt64)
def zI (M : ZM) (a k : Nat) : Int32 := M.1 a k
def zJ (M : ZM) (a k : Nat) : Int64 := M.2.1 a k
def zR (M : ZM) (a k : Nat) : Option Nat := M.2.2.1 a k
def zD (M : ZM) (a k : Nat) : UInt64 := M.2.2.2 a k
def zup {α : Type} (f : Nat → Nat → α) (a k : Nat) (v : α) : Nat → Nat → α := fun b j => if b = a ∧ j = k then v else f b j
def zsI (M : ZM) (a k : Nat) (v : Int32) : ZM := (zup M.1 a k v, M.2)
def zsJ (M : ZM) (a k : Nat) (v : Int64) : ZM := (M.1, zup M.2.1 a k v, M.2.2)
def zsR (M : ZM) (a k : Nat) (v : Option Nat) : ZM := (M.1, M.2.1, zup M.2.2.1 a k v, M.2.2.2)
def zsD (M : ZM) (a k : Nat) (v : UInt64) : ZM := (M.1, M.2.1, M.2.2.1, zup M.2.2.2 a k v)
/-- which fields of a class hold ints (the others hold references) -/
def ztl : Nat → List Bool
  | 0 => [false, true]
  | 1 => [false, false, false, false, true]
  | 2 => [false, false, false, true]
  | 3 => [false, false, false, false]
  | 4 => [false, false, true]
  | 5 => [false, false, true, false, false, false, true, true]
  | 6 => [false, true, false, false, false, false, false]
  | 7 => [true, false, false, false, false, false, false, true, true, true, false, false, false, true, true, false, false, false, false, true]
  | _ => []
def zfv (M : ZM) (a k : Nat) : Bool → Value
  | true => .int (zI M a k)
  | false => va_rf (zR M a k)
def zfl (M : ZM) (a : Nat) : Nat → List Bool → List Value
  | _, [] => []
  | k, t :: ts => zfv M a k t :: zfl M a (k + 1) ts
def zent (cy : Nat → ClassId) (K len : Nat → Nat) (M : ZM) (a : Nat) : va_E :=
  if K a ≤ 8 then .inr (K a - 1, zfl M a 0 (ztl (K a - 1)))
  else if K a = 11 then .inl (cy 0, len a, .inl (zI M a))
  else if K a = 12 then .inl (cy 1, len a, .inr (.inl (zJ M a)))
  else if K a = 13 then .inl (cy 2, len a, .inl (zI M a))
  else if K a = 17 then .inl (cy 6, len a, .inr (.inr (.inr (.inl (zD M a)))))
  else .inl (cy (K a - 11), len a, .inr (.inr (.inr (.inr (zR M a)))))
def ztys (cy : Nat → ClassId) : List (ClassId × FieldType) := [(cy 0, .int), (cy 1, .long), (cy 2, .boolean), (cy 3, .object "ArcLight$Sentence"), (cy 4, .array .int), (cy 5, .array .long), (cy 6, .double)]
def zSh (L : List Nat) (K : Nat → Nat) : Prop := L.Nodup ∧ ∀ a, K a ≠ 0 → a ∈ L
def zWd (D : va_G) (cy : Nat → ClassId) (L : List Nat) (K len : Nat → Nat) (M : ZM) (H : Heap) : Prop := va_P D vwCl (va_pl L (zent cy K len M)) H
def zA (L : List Nat) (sz : Nat) : Nat → Prop := fun q => q ∈ L ∨ sz ≤ q
/-- an index into an array of kind t -/
def zok (K len : Nat → Nat) (a t : Nat) (i : Int32) : Bool := K a == t && (!decide (i < 0) && decide (i.toNatClampNeg < len a))
/-- go on if b holds -/
def zg {α : Type} (b : Bool) (x : Option α) : Option α := bif b then x else none
theorem zg_some {α : Type} {b : Bool} {x : Option α} {r : α} (h : zg b x = some r) : b = true ∧ x = some r := by
  cases b with
  | true => exact ⟨rfl, h⟩
  | false => cases h
theorem zg_t {α : Type} {b : Bool} {x : Option α} (h : b = true) : zg b x = x := by subst h; rfl
theorem zb_some {α β : Type} {x : Option α} {f : α → Option β} {r : β} (h : x.bind f = some r) : ∃ q, x = some q ∧ f q = some r := by
  cases x with
  | none => cases h
  | some q => exact ⟨q, rfl, h⟩
theorem zip {α : Type} {c : Prop} [Decidable c] {a b : Option α} {r : α} (hc : c) (h : (if c then a else b) = some r) : a = some r := by rw [if_pos hc] at h; exact h
theorem zin {α : Type} {c : Prop} [Decidable c] {a b : Option α} {r : α} (hc : ¬ c) (h : (if c then a else b) = some r) : b = some r := by rw [if_neg hc] at h; exact h
def zbp {α β γ : Type} (x : Option (α × β)) (f : α → β → Option γ) : Option γ := x.bind fun q => f q.1 q.2
theorem zbp_some {α β γ : Type} {x : Option (α × β)} {f : α → β → Option γ} {r : γ} (h : zbp x f = some r) : ∃ a b, x = some (a, b) ∧ f a b = some r := by
  cases x with
  | none => cases h
  | some q => exact ⟨q.1, q.2, rfl, h⟩
theorem zne_of {α : Type} [BEq α] [LawfulBEq α] {x y : α} (h : (!(x == y)) = true) : ¬ x = y := by
  intro e
  subst e
  simp at h
theorem zok_in {K len : Nat → Nat} {a t : Nat} {i : Int32} (h : zok K len a t i = true) : K a = t ∧ vp_in i (len a) := by
  simp only [zok, Bool.and_eq_true, beq_iff_eq, Bool.not_eq_true', decide_eq_false_iff_not, decide_eq_true_eq] at h
  exact ⟨h.1, fun q => q.elim h.2.1 (fun q => by omega)⟩
theorem zK_of {K : Nat → Nat} {a t : Nat} (h : (K a == t) = true) : K a = t := beq_iff_eq.mp h
theorem zent_obj {cy : Nat → ClassId} {K len : Nat → Nat} {M : ZM} {a ci : Nat} (h : K a = ci + 1) (h8 : ci < 8) : zent cy K len M a = .inr (ci, zfl M a 0 (ztl ci)) := by
  unfold zent
  rw [if_pos (by omega), h]
  rfl
theorem zent_I {cy : Nat → ClassId} {K len : Nat → Nat} {M : ZM} {a : Nat} (h : K a = 11) : zent cy K len M a = .inl (cy 0, len a, .inl (zI M a)) := by simp [zent, h]
theorem zent_J {cy : Nat → ClassId} {K len : Nat → Nat} {M : ZM} {a : Nat} (h : K a = 12) : zent cy K len M a = .inl (cy 1, len a, .inr (.inl (zJ M a))) := by simp [zent, h]
theorem zent_Z {cy : Nat → ClassId} {K len : Nat → Nat} {M : ZM} {a : Nat} (h : K a = 13) : zent cy K len M a = .inl (cy 2, len a, .inl (zI M a)) := by simp [zent, h]
theorem zent_D {cy : Nat → ClassId} {K len : Nat → Nat} {M : ZM} {a : Nat} (h : K a = 17) : zent cy K len M a = .inl (cy 6, len a, .inr (.inr (.inr (.inl (zD M a))))) := by simp [zent, h]
theorem zent_S {cy : Nat → ClassId} {K len : Nat → Nat} {M : ZM} {a : Nat} (h : K a = 14) : zent cy K len M a = .inl (cy 3, len a, .inr (.inr (.inr (.inr (zR M a))))) := by simp [zent, h]
theorem zent_II {cy : Nat → ClassId} {K len : Nat → Nat} {M : ZM} {a : Nat} (h : K a = 15) : zent cy K len M a = .inl (cy 4, len a, .inr (.inr (.inr (.inr (zR M a))))) := by simp [zent, h]
theorem zent_JJ {cy : Nat → ClassId} {K len : Nat → Nat} {M : ZM} {a : Nat} (h : K a = 16) : zent cy K len M a = .inl (cy 5, len a, .inr (.inr (.inr (.inr (zR M a))))) := by simp [zent, h]
theorem zfl_congr {M M' : ZM} {a : Nat} (h1 : ∀ j, zI M a j = zI M' a j) (h3 : ∀ j, zR M a j = zR M' a j) : ∀ (ts : List Bool) (k : Nat), zfl M a k ts = zfl M' a k ts
  | [], _ => rfl
  | t :: ts, k => by
    show zfv M a k t :: _ = zfv M' a k t :: _
    rw [zfl_congr h1 h3 ts (k + 1)]
    cases t <;> simp [zfv, h1, h3]
theorem zent_congr {cy : Nat → ClassId} {K len : Nat → Nat} {M M' : ZM} {a : Nat} (h1 : ∀ j, zI M a j = zI M' a j) (h2 : ∀ j, zJ M a j = zJ M' a j) (h3 : ∀ j, zR M a j = zR M' a j) (h4 : ∀ j, zD M a j = zD M' a j) : zent cy K len M a = zent cy K len M' a := by
  unfold zent
  rw [zfl_congr h1 h3, show zI M a = zI M' a from funext h1, show zJ M a = zJ M' a from funext h2, show zR M a = zR M' a from funext h3, show zD M a = zD M' a from funext h4]
theorem zfl_far {M M' : ZM} {a : Nat} {n : Nat} (h1 : ∀ j, n ≤ j → zI M a j = zI M' a j) (h3 : ∀ j, n ≤ j → zR M a j = zR M' a j) : ∀ (ts : List Bool) (k : Nat), n ≤ k → zfl M a k ts = zfl M' a k ts
  | [], _, _ => rfl
  | t :: ts, k, hk => by
    show zfv M a k t :: _ = zfv M' a k t :: _
    rw [zfl_far h1 h3 ts (k + 1) (by omega)]
    cases t <;> simp [zfv, h1 k hk, h3 k hk]
theorem zfl_set {M M' : ZM} {a k : Nat} {v : Value} (h1 : ∀ j, j ≠ k → zI M a j = zI M' a j) (h3 : ∀ j, j ≠ k → zR M a j = zR M' a j) : ∀ (ts : List Bool) (o i : Nat) (t : Bool), o + i = k → ts[i]? = some t → zfv M' a k t = v → (zfl M a o ts).set i v = zfl M' a o ts
  | [], _, _, _, _, h, _ => by cases h
  | t0 :: ts, o, 0, t, ho, h, hv => by
    have e : t0 = t := Option.some.inj h
    subst e
    have e2 : o = k := by omega
    subst e2
    show v :: zfl M a (o + 1) ts = zfv M' a o t0 :: zfl M' a (o + 1) ts
    rw [hv, zfl_far (n := o + 1) (fun j hj => h1 j (by omega)) (fun j hj => h3 j (by omega)) ts (o + 1) (Nat.le_refl _)]
  | t0 :: ts, o, i + 1, t, ho, h, hv => by
    show zfv M a o t0 :: (zfl M a (o + 1) ts).set i v = zfv M' a o t0 :: zfl M' a (o + 1) ts
    rw [zfl_set h1 h3 ts (o + 1) i t (by omega) h hv]
    cases t0 <;> simp [zfv, h1 o (by omega), h3 o (by omega)]
theorem zup_self {α : Type} {f : Nat → Nat → α} {a k : Nat} {v : α} : zup f a k v a k = v := if_pos ⟨rfl, rfl⟩
theorem zup_ne {α : Type} {f : Nat → Nat → α} {a k b j : Nat} {v : α} (h : ¬ (b = a ∧ j = k)) : zup f a k v b j = f b j := if_neg h
theorem zup_at {cy : Nat → ClassId} {K len : Nat → Nat} {M M' : ZM} {a : Nat} {e : va_E} (he : e = zent cy K len M' a) (h : ∀ b, b ≠ a → (∀ j, zI M b j = zI M' b j) ∧ (∀ j, zJ M b j = zJ M' b j) ∧ (∀ j, zR M b j = zR M' b j) ∧ (∀ j, zD M b j = zD M' b j)) : ∀ b, va_up (zent cy K len M) a e b = zent cy K len M' b := by
  intro b
  by_cases hb : b = a
  · subst hb
    rw [va_up_self]
    exact he
  · rw [va_up_ne _ _ hb]
    obtain ⟨h1, h2, h3, h4⟩ := h b hb
    exact zent_congr h1 h2 h3 h4
theorem zfar_I {M : ZM} {a k : Nat} {v : Int32} : ∀ b, b ≠ a → (∀ j, zI M b j = zI (zsI M a k v) b j) ∧ (∀ j, zJ M b j = zJ (zsI M a k v) b j) ∧ (∀ j, zR M b j = zR (zsI M a k v) b j) ∧ (∀ j, zD M b j = zD (zsI M a k v) b j) := fun b hb => ⟨fun j => (zup_ne (fun h => hb h.1)).symm, fun _ => rfl, fun _ => rfl, fun _ => rfl⟩
theorem zfar_J {M : ZM} {a k : Nat} {v : Int64} : ∀ b, b ≠ a → (∀ j, zI M b j = zI (zsJ M a k v) b j) ∧ (∀ j, zJ M b j = zJ (zsJ M a k v) b j) ∧ (∀ j, zR M b j = zR (zsJ M a k v) b j) ∧ (∀ j, zD M b j = zD (zsJ M a k v) b j) := fun b hb => ⟨fun _ => rfl, fun j => (zup_ne (fun h => hb h.1)).symm, fun _ => rfl, fun _ => rfl⟩
theorem zfar_R {M : ZM} {a k : Nat} {v : Option Nat} : ∀ b, b ≠ a → (∀ j, zI M b j = zI (zsR M a k v) b j) ∧ (∀ j, zJ M b j = zJ (zsR M a k v) b j) ∧ (∀ j, zR M b j = zR (zsR M a k v) b j) ∧ (∀ j, zD M b j = zD (zsR M a k v) b j) := fun b hb => ⟨fun _ => rfl, fun _ => rfl, fun j => (zup_ne (fun h => hb h.1)).symm, fun _ => rfl⟩
theorem zfar_D {M : ZM} {a k : Nat} {v : UInt64} : ∀ b, b ≠ a → (∀ j, zI M b j = zI (zsD M a k v) b j) ∧ (∀ j, zJ M b j = zJ (zsD M a k v) b j) ∧ (∀ j, zR M b j = zR (zsD M a k v) b j) ∧ (∀ j, zD M b j = zD (zsD M a k v) b j) := fun b hb => ⟨fun _ => rfl, fun _ => rfl, fun _ => rfl, fun j => (zup_ne (fun h => hb h.1)).symm⟩
theorem zpl_D {A : Nat → Prop} {L : List Nat} {K : Nat → Nat} (hL : zSh L K) (hA : ∀ q, q ∈ L → A q) (f : Nat → va_E) : va_D A (va_pl L f) := by
  have key : ∀ (k : Nat) (q : Nat × va_E), (va_pl L f)[k]? = some q → L[k]? = some q.1 := by
    intro k q h
    simp only [va_pl, List.getElem?_map] at h
    cases hk : L[k]? with
    | none => rw [hk] at h; cases h
    | some b => rw [hk] at h; cases h; rfl
  refine ⟨fun i j p q hi hj e => ?_, fun k q hk => hA q.1 (List.mem_of_getElem? (key k q hk))⟩
  have h1 := key i p hi
  have h2 := key j q hj
  rw [← e] at h2
  exact (List.getElem?_inj (List.getElem?_eq_some_iff.mp h1).1 hL.1).mp (h1.trans h2.symm)
/-- the nest mates' links that the methods use -/
def znw : List Cond := [.methodLinkNest RX6 21 yX5_init "ArcLight", .methodLinkNest RX6 28 yX0_init "ArcLight", .methodLinkNest RX6 35 yX3_init "ArcLight", .methodLinkNest RX6 42 yX1_init "ArcLight", .methodLinkNest RX6 49 yX4_init "ArcLight", .methodLinkNest RX0 50 yX6_isPlace "ArcLight", .methodLinkNest RX1 67 yX6_isPlace "ArcLight", .methodLinkNest RX2 33 yX6_isPlace "ArcLight", .methodLinkNest RX3 47 yX6_isPlace "ArcLight", .methodLinkNest RX4 73 yX6_doCross "ArcLight", .methodLinkNest RX5 56 yX6_byDistance "ArcLight", .fieldLinkNest RX0 46 "ArcLight" "HEAD_VALUES" "[J" "ArcLight"]
/-- the static row HEAD_VALUES -/
def zhv (j : Nat) : Int64 := [0, 16807, 2401, 343, 49, 7, 1].getD j 0
def zEnv (A : Nat → Prop) (U : State) (H : Heap) : Prop :=
  (∀ w ∈ znw, va_Nw w U) ∧ vx_Zq Bundle.tN "UNASSIGNED_STACK" Bundle.steD A U H ∧ vx_Zq Bundle.tN "SUPPRESSED_SENTINEL" Bundle.listD A U H ∧ ∃ t, va_Z "ArcLight" "HEAD_VALUES" "[J" (.ref t) A U H ∧ va_T .long t 7 (fun j => .long (zhv j)) A U H
theorem znw_warm {s U : State} (hW : s.WarmedH U.vm) (h : ∀ w ∈ znw, va_Nw w s) : ∀ w ∈ znw, va_Nw w U := by
  intro w hw
  have h1 := h w hw
  simp only [znw, List.mem_cons, List.not_mem_nil, or_false] at hw
  rcases hw with rfl | rfl | rfl | rfl | rfl | rfl | rfl | rfl | rfl | rfl | rfl | rfl <;> first | exact va_Nw.warmM hW h1 | exact va_Nw.warmF hW h1
theorem zEnv.next {A A1 : Nat → Prop} {s U : State} {H : Heap} {locs : List Loc} (h : zEnv A s s.heap) (hW : s.WarmedH U.vm) (hS : va_S A s.heap H locs) (hA : ∀ q, A1 q → A q) : zEnv A1 U H := by
  obtain ⟨h1, h2, h3, t, h4, h5⟩ := h
  have hk : ∀ a : Nat, a < s.heap.size → ¬ A a → H[a]? = s.heap[a]? := hS.2.1
  exact ⟨znw_warm hW h1, ((h2.kept hk).moved hW.alike).narrow hA, ((h3.kept hk).moved hW.alike).narrow hA, t, ((h4.kept hk).moved hW.alike).narrow hA, ((h5.kept hk).moved hW.alike).narrow hA⟩
theorem zEnv.same {A : Nat → Prop} {u U : State} {H : Heap} (h : zEnv A u H) (hvm : u.vm = U.vm) : zEnv A U H := by
  have ha : u.vm.Alike U.vm := by rw [hvm]; exact Vm.Alike.refl _
  obtain ⟨h1, h2, h3, t, h4, h5⟩ := h
  refine ⟨fun w hw => ?_, h2.moved ha, h3.moved ha, t, h4.moved ha, h5.moved ha⟩
  have h9 := h1 w hw
  simp only [znw, List.mem_cons, List.not_mem_nil, or_false] at hw
  rcases hw with rfl | rfl | rfl | rfl | rfl | rfl | rfl | rfl | rfl | rfl | rfl | rfl <;> exact va_Nw.same rfl hvm h9
/-- a method's start: the arguments, the heap's size, the memory, the tables, what stands outside -/
def zPre (D : va_G) (cy : Nat → ClassId) (L : List Nat) (K len : Nat → Nat) (sz : Nat) (av : List Value) (M : ZM) : Array Value → State → Prop := va_Pc av (fun U => U.heap.size = sz ∧ zWd D cy L K len M U.heap ∧ va_K D vwCl (ztys cy) U ∧ zEnv (zA L sz) U U.heap)
theorem zPre_blind {D : va_G} {cy : Nat → ClassId} {L : List Nat} {K len : Nat → Nat} {sz : Nat} {av : List Value} {M : ZM} : FrameBlind (zPre D cy L K len sz av M) := fun a U g mk q => ⟨q.1, q.2.1, q.2.2.1, va_K.moved (u := U) (U := U.calling g mk a) (Vm.Alike.refl U.vm) q.2.2.2.1, q.2.2.2.2.same rfl⟩
/-- what holds throughout a body -/
def zCx (p : Program) (s : State) (m : MethodId) (c : Code) (meth : Method) (args : Array Value) (cc : ByteArray) (nL : Nat) (Ts : List Cond) (own : String) (ret : Option FieldType) (D : va_G) (cy : Nat → ClassId) (L : List Nat) (K : Nat → Nat) : Prop :=
  p.tables.exec = Jvm.exec ∧ c.code = cc ∧ meth.sig.returnType = ret ∧ c.maxLocals = nL ∧ s.vm.findClass own = some m.cls ∧ (∀ w ∈ Ts, w.before args s = true) ∧ meth.locks = false ∧ va_K D vwCl (ztys cy) s ∧ zSh L K ∧ zEnv (zA L s.heap.size) s s.heap
def zQi (D : va_G) (cy : Nat → ClassId) (L : List Nat) (K len : Nat → Nat) (r : Int32) (M : ZM) (sz : Nat) : Array Value → State → Outcome → State → Prop := va_Qi (fun (x : Int32) (_ : Unit) => x = r) (fun _ t => zWd D cy L K len M t.heap) (zA L sz)
def zQl (D : va_G) (cy : Nat → ClassId) (L : List Nat) (K len : Nat → Nat) (r : Int64) (M : ZM) (sz : Nat) : Array Value → State → Outcome → State → Prop := va_Ql (fun (x : Int64) (_ : Unit) => x = r) (fun _ t => zWd D cy L K len M t.heap) (zA L sz)
def zQd (D : va_G) (cy : Nat → ClassId) (L : List Nat) (K len : Nat → Nat) (r : UInt64) (M : ZM) (sz : Nat) : Array Value → State → Outcome → State → Prop := va_Qd (fun (x : UInt64) (_ : Unit) => x = r) (fun _ t => zWd D cy L K len M t.heap) (zA L sz)
def zQr (D : va_G) (cy : Nat → ClassId) (L : List Nat) (K len : Nat → Nat) (r : Nat) (M : ZM) (sz : Nat) : Array Value → State → Outcome → State → Prop := va_Qq (fun (x : Option Nat) (_ : Unit) => x = some r) (fun _ t => zWd D cy L K len M t.heap) (zA L sz)
def zQv (D : va_G) (cy : Nat → ClassId) (L : List Nat) (K len : Nat → Nat) (M : ZM) (sz : Nat) : Array Value → State → Outcome → State → Prop := va_Qv (fun (_ : Unit) => True) (fun _ t => zWd D cy L K len M t.heap) (zA L sz)
section ZR
variable {p : Program} {l : Launch} {e : Env} {R : Room} {s : State} {m : MethodId} {args : Array Value} {below : List Frame} {meth : Method} {c : Code} {H : Heap} {locs : List Loc} {cells slots : Nat} {Q : State → Prop}
variable {cc : ByteArray} {pc : Nat} {ls : Array Slot} {rest : List Value} {D : va_G} {cy : Nat → ClassId} {L : List Nat} {K len : Nat → Nat} {a : Nat} {M : ZM}
theorem z_get (hx : p.tables.exec = Jvm.exec) (hb : c.code = cc) {own C : String} {T : u_T} {N ci index : Nat} {Ts : List Cond} (hts : ∀ w ∈ Ts, w.before args s = true) (hin : ∀ w ∈ u_ws C T N, w ∈ Ts) (hown : s.vm.findClass own = some m.cls) (hK : va_K D vwCl (ztys cy) s) (hL : zSh L K) (hW : zWd D cy L K len M H) (k : Nat) (hKa : K a = ci + 1) (hc : vwCl[ci]? = some (C, T, N)) (h8 : ci < 8) (hk : k < N) (hf : (T k).1 = C) (hlink : (Cond.fieldLink own index C (T k).2.1 (T k).2.2.1).before args s = true) {v : Value} (hv : (zfl M a 0 (ztl ci))[k]? = some v) (hdg : decode cc pc = .ok (.getfield index, 3))
    (kk : W p l e R s m args below meth c H locs cells slots Q (F0 m (pc + 3) ls (v :: rest))) : W p l e R s m args below meth c H locs cells slots Q (F0 m pc ls (.ref a :: rest)) := by
  obtain ⟨q0, he⟩ := va_pl_get (X := []) (f := zent cy K len M) (hL.2 a (by omega))
  rw [zent_obj hKa h8] at he
  exact va_get hx hb hts hin hown hK (show va_P D vwCl ([] ++ va_pl L (zent cy K len M)) H from hW) q0 he hc k hk hlink (fun x h => by rw [hf] at h; exact h) hv hdg kk
theorem z_put (hx : p.tables.exec = Jvm.exec) (hb : c.code = cc) {own C : String} {T : u_T} {N ci index : Nat} {Ts : List Cond} (hts : ∀ w ∈ Ts, w.before args s = true) (hin : ∀ w ∈ u_ws C T N, w ∈ Ts) (ty0 : Nat → FieldType) (hty : ∀ k, k < N → parseFieldDescriptor (T k).2.2.1 = some (ty0 k)) (hnm : ∀ a, a < N → ∀ b, b < N → a ≠ b → (T a).2.1 ≠ (T b).2.1) (hown : s.vm.findClass own = some m.cls) (hK : va_K D vwCl (ztys cy) s) (hL : zSh L K) (hW : zWd D cy L K len M H) (hS : va_S (zA L s.heap.size) s.heap H locs) (k : Nat) (hKa : K a = ci + 1) (hc : vwCl[ci]? = some (C, T, N)) (h8 : ci < 8) (hk : k < N) (hf : (T k).1 = C) (hlink : (Cond.fieldLink own index C (T k).2.1 (T k).2.2.1).before args s = true) (hfin : (T k).2.2.2 = false) {ty : FieldType} {v : Value} (hd : parseFieldDescriptor (T k).2.2.1 = some ty) (hn : narrow ty v = v) (hfit : fits ty v = true) (hl : k < (zfl M a 0 (ztl ci)).length) (hdg : decode cc pc = .ok (.putfield index, 3)) {M' : ZM}
    (hM : ∀ b, va_up (zent cy K len M) a (.inr (ci, (zfl M a 0 (ztl ci)).set k v)) b = zent cy K len M' b)
    (kk : ∀ (H : Heap) (locs : List Loc), zWd D cy L K len M' H → va_S (zA L s.heap.size) s.heap H locs → W p l e R s m args below meth c H locs cells slots Q (F0 m (pc + 3) ls rest)) : W p l e R s m args below meth c H locs cells slots Q (F0 m pc ls (v :: .ref a :: rest)) := by
  have ha : a ∈ L := hL.2 a (by omega)
  have hD : va_D (zA L s.heap.size) ([] ++ va_pl L (zent cy K len M)) := zpl_D hL (fun q h => Or.inl h) _
  obtain ⟨q0, he⟩ := va_pl_get (X := []) (f := zent cy K len M) ha
  have he2 := he
  rw [zent_obj hKa h8] at he2
  refine va_put hx hb hts hin ty0 hty hnm hown hK (show va_P D vwCl ([] ++ va_pl L (zent cy K len M)) H from hW) hD hS q0 he2 hc k hk hlink (fun x h => by rw [hf] at h; exact h) hfin hd hn hfit hl hdg (fun H1 locs1 hP1 _ hS1 => kk H1 locs1 ?_ hS1)
  rw [va_pl_set hD ha he] at hP1
  show va_P D vwCl (va_pl L (zent cy K len M')) H1
  rw [← va_pl_congr hM]
  exact hP1
theorem zM_I {ci k : Nat} {x : Int32} (hKa : K a = ci + 1) (h8 : ci < 8) (ht : (ztl ci)[k]? = some true) : ∀ b, va_up (zent cy K len M) a (.inr (ci, (zfl M a 0 (ztl ci)).set k (.int x))) b = zent cy K len (zsI M a k x) b := by
  refine zup_at ?_ zfar_I
  rw [zent_obj hKa h8, zfl_set (M := M) (M' := zsI M a k x) (k := k) (fun j hj => (zup_ne (fun h => hj h.2)).symm) (fun _ _ => rfl) (ztl ci) 0 k true (by omega) ht (by show Value.int (zup M.1 a k x a k) = _; rw [zup_self])]
theorem zM_R {ci k : Nat} {x : Nat} (hKa : K a = ci + 1) (h8 : ci < 8) (ht : (ztl ci)[k]? = some false) : ∀ b, va_up (zent cy K len M) a (.inr (ci, (zfl M a 0 (ztl ci)).set k (.ref x))) b = zent cy K len (zsR M a k (some x)) b := by
  refine zup_at ?_ zfar_R
  rw [zent_obj hKa h8, zfl_set (M := M) (M' := zsR M a k (some x)) (k := k) (fun _ _ => rfl) (fun j hj => (zup_ne (fun h => hj h.2)).symm) (ztl ci) 0 k false (by omega) ht (by show va_rf (zup M.2.2.1 a k (some x) a k) = _; rw [zup_self]; rfl)]
theorem z_iald (hx : p.tables.exec = Jvm.exec) (hb : c.code = cc) (hK : va_K D vwCl (ztys cy) s) (hL : zSh L K) (hW : zWd D cy L K len M H) {i : Int32} (h : zok K len a 11 i = true) (hdg : decode cc pc = .ok (.iaload, 1))
    (kk : W p l e R s m args below meth c H locs cells slots Q (F0 m (pc + 1) ls (.int (zI M a i.toNatClampNeg) :: rest))) : W p l e R s m args below meth c H locs cells slots Q (F0 m pc ls (.int i :: .ref a :: rest)) := by
  obtain ⟨hKa, hin⟩ := zok_in h
  obtain ⟨q0, he⟩ := va_pl_get (X := []) (f := zent cy K len M) (hL.2 a (by omega))
  rw [zent_I hKa] at he
  exact va_iald hx hb hK (show va_P D vwCl ([] ++ va_pl L (zent cy K len M)) H from hW) q0 0 he rfl hin hdg kk
theorem z_zald (hx : p.tables.exec = Jvm.exec) (hb : c.code = cc) (hK : va_K D vwCl (ztys cy) s) (hL : zSh L K) (hW : zWd D cy L K len M H) {i : Int32} (h : zok K len a 13 i = true) (hdg : decode cc pc = .ok (.baload, 1))
    (kk : W p l e R s m args below meth c H locs cells slots Q (F0 m (pc + 1) ls (.int (zI M a i.toNatClampNeg) :: rest))) : W p l e R s m args below meth c H locs cells slots Q (F0 m pc ls (.int i :: .ref a :: rest)) := by
  obtain ⟨hKa, hin⟩ := zok_in h
  obtain ⟨q0, he⟩ := va_pl_get (X := []) (f := zent cy K len M) (hL.2 a (by omega))
  rw [zent_Z hKa] at he
  exact va_zald hx hb hK (show va_P D vwCl ([] ++ va_pl L (zent cy K len M)) H from hW) q0 2 he rfl hin hdg kk
theorem z_lald (hx : p.tables.exec = Jvm.exec) (hb : c.code = cc) (hK : va_K D vwCl (ztys cy) s) (hL : zSh L K) (hW : zWd D cy L K len M H) {i : Int32} (h : zok K len a 12 i = true) (hdg : decode cc pc = .ok (.laload, 1))
    (kk : W p l e R s m args below meth c H locs cells slots Q (F0 m (pc + 1) ls (.long (zJ M a i.toNatClampNeg) :: rest))) : W p l e R s m args below meth c H locs cells slots Q (F0 m pc ls (.int i :: .ref a :: rest)) := by
  obtain ⟨hKa, hin⟩ := zok_in h
  obtain ⟨q0, he⟩ := va_pl_get (X := []) (f := zent cy K len M) (hL.2 a (by omega))
  rw [zent_J hKa] at he
  exact va_lald hx hb hK (show va_P D vwCl ([] ++ va_pl L (zent cy K len M)) H from hW) q0 1 he rfl hin hdg kk
theorem z_dald (hx : p.tables.exec = Jvm.exec) (hb : c.code = cc) (hK : va_K D vwCl (ztys cy) s) (hL : zSh L K) (hW : zWd D cy L K len M H) {i : Int32} (h : zok K len a 17 i = true) (hdg : decode cc pc = .ok (.daload, 1))
    (kk : W p l e R s m args below meth c H locs cells slots Q (F0 m (pc + 1) ls (.double (zD M a i.toNatClampNeg) :: rest))) : W p l e R s m args below meth c H locs cells slots Q (F0 m pc ls (.int i :: .ref a :: rest)) := by
  obtain ⟨hKa, hin⟩ := zok_in h
  obtain ⟨q0, he⟩ := va_pl_get (X := []) (f := zent cy K len M) (hL.2 a (by omega))
  rw [zent_D hKa] at he
  exact va_dald hx hb hK (show va_P D vwCl ([] ++ va_pl L (zent cy K len M)) H from hW) q0 6 he rfl hin hdg kk
theorem z_aald (hx : p.tables.exec = Jvm.exec) (hb : c.code = cc) (hK : va_K D vwCl (ztys cy) s) (hL : zSh L K) (hW : zWd D cy L K len M H) {i : Int32} (t : Nat) (h : zok K len a t i = true) (ht : t = 14 ∨ t = 15 ∨ t = 16) (hdg : decode cc pc = .ok (.aaload, 1))
    (kk : W p l e R s m args below meth c H locs cells slots Q (F0 m (pc + 1) ls (va_rf (zR M a i.toNatClampNeg) :: rest))) : W p l e R s m args below meth c H locs cells slots Q (F0 m pc ls (.int i :: .ref a :: rest)) := by
  obtain ⟨hKa, hin⟩ := zok_in h
  obtain ⟨q0, he⟩ := va_pl_get (X := []) (f := zent cy K len M) (hL.2 a (by omega))
  have hP : va_P D vwCl ([] ++ va_pl L (zent cy K len M)) H := hW
  have hlt : i.toNatClampNeg < len a := Nat.not_le.mp fun q => hin (Or.inr q)
  rcases ht with rfl | rfl | rfl
  · rw [zent_S hKa] at he
    exact W.aald (v := va_rf (zR M a i.toNatClampNeg)) (ty := .object "ArcLight$Sentence") hx hb (hP q0 _ he) ((hK.2 3 (cy 3, .object "ArcLight$Sentence") rfl).1 (len a) (fun j => va_rf (zR M a j))) rfl (fun q => by cases q) (by show ¬ (i < 0 ∨ (arrV _ _ _).slots.size ≤ _); rw [arrV_size]; exact hin) (by show (arrV _ _ _).slots[_]? = _; rw [arrV_read _ _ hlt]) rfl rfl hdg kk
  · rw [zent_II hKa] at he
    exact W.aald (v := va_rf (zR M a i.toNatClampNeg)) (ty := .array .int) hx hb (hP q0 _ he) ((hK.2 4 (cy 4, .array .int) rfl).1 (len a) (fun j => va_rf (zR M a j))) rfl (fun q => by cases q) (by show ¬ (i < 0 ∨ (arrV _ _ _).slots.size ≤ _); rw [arrV_size]; exact hin) (by show (arrV _ _ _).slots[_]? = _; rw [arrV_read _ _ hlt]) rfl rfl hdg kk
  · rw [zent_JJ hKa] at he
    exact W.aald (v := va_rf (zR M a i.toNatClampNeg)) (ty := .array .long) hx hb (hP q0 _ he) ((hK.2 5 (cy 5, .array .long) rfl).1 (len a) (fun j => va_rf (zR M a j))) rfl (fun q => by cases q) (by show ¬ (i < 0 ∨ (arrV _ _ _).slots.size ≤ _); rw [arrV_size]; exact hin) (by show (arrV _ _ _).slots[_]? = _; rw [arrV_read _ _ hlt]) rfl rfl hdg kk
theorem z_aaldN (hx : p.tables.exec = Jvm.exec) (hb : c.code = cc) (hK : va_K D vwCl (ztys cy) s) (hL : zSh L K) (hW : zWd D cy L K len M H) {i : Int32} (t : Nat) (h : zok K len a t i = true) (ht : t = 14 ∨ t = 15 ∨ t = 16) (hr : zR M a i.toNatClampNeg = none) (hdg : decode cc pc = .ok (.aaload, 1))
    (kk : W p l e R s m args below meth c H locs cells slots Q (F0 m (pc + 1) ls (.null :: rest))) : W p l e R s m args below meth c H locs cells slots Q (F0 m pc ls (.int i :: .ref a :: rest)) := by
  refine z_aald hx hb hK hL hW t h ht hdg ?_
  rw [hr]
  exact kk
theorem z_aaldS (hx : p.tables.exec = Jvm.exec) (hb : c.code = cc) (hK : va_K D vwCl (ztys cy) s) (hL : zSh L K) (hW : zWd D cy L K len M H) {i : Int32} (t : Nat) (h : zok K len a t i = true) (ht : t = 14 ∨ t = 15 ∨ t = 16) {b : Nat} (hr : zR M a i.toNatClampNeg = some b) (hdg : decode cc pc = .ok (.aaload, 1))
    (kk : W p l e R s m args below meth c H locs cells slots Q (F0 m (pc + 1) ls (.ref b :: rest))) : W p l e R s m args below meth c H locs cells slots Q (F0 m pc ls (.int i :: .ref a :: rest)) := by
  refine z_aald hx hb hK hL hW t h ht hdg ?_
  rw [hr]
  exact kk
theorem z_alen (hx : p.tables.exec = Jvm.exec) (hb : c.code = cc) (hK : va_K D vwCl (ztys cy) s) (hL : zSh L K) (hW : zWd D cy L K len M H) (h : (11 ≤ K a && K a ≤ 17) = true) (hdg : decode cc pc = .ok (.arraylength, 1))
    (kk : W p l e R s m args below meth c H locs cells slots Q (F0 m (pc + 1) ls (.int (Int32.ofNat (len a)) :: rest))) : W p l e R s m args below meth c H locs cells slots Q (F0 m pc ls (.ref a :: rest)) := by
  simp only [Bool.and_eq_true, decide_eq_true_eq] at h
  obtain ⟨q0, he⟩ := va_pl_get (X := []) (f := zent cy K len M) (hL.2 a (by omega))
  have hP : va_P D vwCl ([] ++ va_pl L (zent cy K len M)) H := hW
  have hc : K a = 11 ∨ K a = 12 ∨ K a = 13 ∨ K a = 14 ∨ K a = 15 ∨ K a = 16 ∨ K a = 17 := by omega
  rcases hc with hKa | hKa | hKa | hKa | hKa | hKa | hKa
  · rw [zent_I hKa] at he
    exact va_alen hx hb hK hP q0 0 he (ty := .int) rfl rfl hdg kk
  · rw [zent_J hKa] at he
    exact va_alen hx hb hK hP q0 1 he (ty := .long) rfl rfl hdg kk
  · rw [zent_Z hKa] at he
    exact va_alen hx hb hK hP q0 2 he (ty := .boolean) rfl rfl hdg kk
  · rw [zent_S hKa] at he
    exact va_alen hx hb hK hP q0 3 he (ty := .object "ArcLight$Sentence") rfl rfl hdg kk
  · rw [zent_II hKa] at he
    exact va_alen hx hb hK hP q0 4 he (ty := .array .int) rfl rfl hdg kk
  · rw [zent_JJ hKa] at he
    exact va_alen hx hb hK hP q0 5 he (ty := .array .long) rfl rfl hdg kk
  · rw [zent_D hKa] at he
    exact va_alen hx hb hK hP q0 6 he (ty := .double) rfl rfl hdg kk
theorem z_iast (hx : p.tables.exec = Jvm.exec) (hb : c.code = cc) (hK : va_K D vwCl (ztys cy) s) (hL : zSh L K) (hW : zWd D cy L K len M H) (hS : va_S (zA L s.heap.size) s.heap H locs) {i x : Int32} (h : zok K len a 11 i = true) (hdg : decode cc pc = .ok (.iastore, 1))
    (kk : ∀ (H : Heap) (locs : List Loc), zWd D cy L K len (zsI M a i.toNatClampNeg x) H → va_S (zA L s.heap.size) s.heap H locs → W p l e R s m args below meth c H locs cells slots Q (F0 m (pc + 1) ls rest)) : W p l e R s m args below meth c H locs cells slots Q (F0 m pc ls (.int x :: .int i :: .ref a :: rest)) := by
  obtain ⟨hKa, hin⟩ := zok_in h
  have ha : a ∈ L := hL.2 a (by omega)
  have hD : va_D (zA L s.heap.size) ([] ++ va_pl L (zent cy K len M)) := zpl_D hL (fun q h => Or.inl h) _
  obtain ⟨q0, he⟩ := va_pl_get (X := []) (f := zent cy K len M) ha
  have he2 := he
  rw [zent_I hKa] at he2
  refine va_iast hx hb hK (show va_P D vwCl ([] ++ va_pl L (zent cy K len M)) H from hW) hD hS q0 0 he2 rfl hin hdg (fun H1 locs1 hP1 _ hS1 => kk H1 locs1 ?_ hS1)
  rw [va_pl_set hD ha he] at hP1
  show va_P D vwCl (va_pl L (zent cy K len _)) H1
  rw [← va_pl_congr (f := va_up (zent cy K len M) a (.inl (cy 0, len a, .inl (upd (zI M a) i.toNatClampNeg x)))) (zup_at (by rw [zent_I hKa, show zI (zsI M a i.toNatClampNeg x) a = upd (zI M a) i.toNatClampNeg x from funext fun j => by simp [upd, zI, zsI, zup]]) zfar_I)]
  exact hP1
theorem z_zast (hx : p.tables.exec = Jvm.exec) (hb : c.code = cc) (hK : va_K D vwCl (ztys cy) s) (hL : zSh L K) (hW : zWd D cy L K len M H) (hS : va_S (zA L s.heap.size) s.heap H locs) {i x : Int32} (h : zok K len a 13 i = true) (hn : vp_nar .boolean x = x) (hdg : decode cc pc = .ok (.bastore, 1))
    (kk : ∀ (H : Heap) (locs : List Loc), zWd D cy L K len (zsI M a i.toNatClampNeg x) H → va_S (zA L s.heap.size) s.heap H locs → W p l e R s m args below meth c H locs cells slots Q (F0 m (pc + 1) ls rest)) : W p l e R s m args below meth c H locs cells slots Q (F0 m pc ls (.int x :: .int i :: .ref a :: rest)) := by
  obtain ⟨hKa, hin⟩ := zok_in h
  have ha : a ∈ L := hL.2 a (by omega)
  have hD : va_D (zA L s.heap.size) ([] ++ va_pl L (zent cy K len M)) := zpl_D hL (fun q h => Or.inl h) _
  obtain ⟨q0, he⟩ := va_pl_get (X := []) (f := zent cy K len M) ha
  have he2 := he
  rw [zent_Z hKa] at he2
  refine va_zast hx hb hK (show va_P D vwCl ([] ++ va_pl L (zent cy K len M)) H from hW) hD hS q0 2 he2 rfl hin hdg (fun H1 locs1 hP1 _ hS1 => kk H1 locs1 ?_ hS1)
  rw [va_pl_set hD ha he, hn] at hP1
  show va_P D vwCl (va_pl L (zent cy K len _)) H1
  rw [← va_pl_congr (f := va_up (zent cy K len M) a (.inl (cy 2, len a, .inl (upd (zI M a) i.toNatClampNeg x)))) (zup_at (by rw [zent_Z hKa, show zI (zsI M a i.toNatClampNeg x) a = upd (zI M a) i.toNatClampNeg x from funext fun j => by simp [upd, zI, zsI, zup]]) zfar_I)]
  exact hP1
theorem z_last (hx : p.tables.exec = Jvm.exec) (hb : c.code = cc) (hK : va_K D vwCl (ztys cy) s) (hL : zSh L K) (hW : zWd D cy L K len M H) (hS : va_S (zA L s.heap.size) s.heap H locs) {i : Int32} {x : Int64} (h : zok K len a 12 i = true) (hdg : decode cc pc = .ok (.lastore, 1))
    (kk : ∀ (H : Heap) (locs : List Loc), zWd D cy L K len (zsJ M a i.toNatClampNeg x) H → va_S (zA L s.heap.size) s.heap H locs → W p l e R s m args below meth c H locs cells slots Q (F0 m (pc + 1) ls rest)) : W p l e R s m args below meth c H locs cells slots Q (F0 m pc ls (.long x :: .int i :: .ref a :: rest)) := by
  obtain ⟨hKa, hin⟩ := zok_in h
  have ha : a ∈ L := hL.2 a (by omega)
  have hD : va_D (zA L s.heap.size) ([] ++ va_pl L (zent cy K len M)) := zpl_D hL (fun q h => Or.inl h) _
  obtain ⟨q0, he⟩ := va_pl_get (X := []) (f := zent cy K len M) ha
  have he2 := he
  rw [zent_J hKa] at he2
  refine va_last hx hb hK (show va_P D vwCl ([] ++ va_pl L (zent cy K len M)) H from hW) hD hS q0 1 he2 rfl hin hdg (fun H1 locs1 hP1 _ hS1 => kk H1 locs1 ?_ hS1)
  rw [va_pl_set hD ha he] at hP1
  show va_P D vwCl (va_pl L (zent cy K len _)) H1
  rw [← va_pl_congr (f := va_up (zent cy K len M) a (.inl (cy 1, len a, .inr (.inl (vp_updL (zJ M a) i.toNatClampNeg x))))) (zup_at (by rw [zent_J hKa, show zJ (zsJ M a i.toNatClampNeg x) a = vp_updL (zJ M a) i.toNatClampNeg x from funext fun j => by simp [vp_updL, zJ, zsJ, zup]]) zfar_J)]
  exact hP1
theorem z_dast (hx : p.tables.exec = Jvm.exec) (hb : c.code = cc) (hK : va_K D vwCl (ztys cy) s) (hL : zSh L K) (hW : zWd D cy L K len M H) (hS : va_S (zA L s.heap.size) s.heap H locs) {i : Int32} {x : UInt64} (h : zok K len a 17 i = true) (hdg : decode cc pc = .ok (.dastore, 1))
    (kk : ∀ (H : Heap) (locs : List Loc), zWd D cy L K len (zsD M a i.toNatClampNeg x) H → va_S (zA L s.heap.size) s.heap H locs → W p l e R s m args below meth c H locs cells slots Q (F0 m (pc + 1) ls rest)) : W p l e R s m args below meth c H locs cells slots Q (F0 m pc ls (.double x :: .int i :: .ref a :: rest)) := by
  obtain ⟨hKa, hin⟩ := zok_in h
  have ha : a ∈ L := hL.2 a (by omega)
  have hD : va_D (zA L s.heap.size) ([] ++ va_pl L (zent cy K len M)) := zpl_D hL (fun q h => Or.inl h) _
  obtain ⟨q0, he⟩ := va_pl_get (X := []) (f := zent cy K len M) ha
  have he2 := he
  rw [zent_D hKa] at he2
  refine va_dast hx hb hK (show va_P D vwCl ([] ++ va_pl L (zent cy K len M)) H from hW) hD hS q0 6 he2 rfl hin hdg (fun H1 locs1 hP1 _ hS1 => kk H1 locs1 ?_ hS1)
  rw [va_pl_set hD ha he] at hP1
  show va_P D vwCl (va_pl L (zent cy K len _)) H1
  rw [← va_pl_congr (f := va_up (zent cy K len M) a (.inl (cy 6, len a, .inr (.inr (.inr (.inl (vf_upd (zD M a) i.toNatClampNeg x))))))) (zup_at (by rw [zent_D hKa, show zD (zsD M a i.toNatClampNeg x) a = vf_upd (zD M a) i.toNatClampNeg x from funext fun j => by simp [vf_upd, zD, zsD, zup]]) zfar_D)]
  exact hP1
end ZR
section ZC
variable {p : Program} {l : Launch} {e : Env} {R : Room} {s : State} {m : MethodId} {args : Array Value} {below : List Frame} {meth : Method} {c : Code} {H : Heap} {locs : List Loc} {cells slots : Nat} {Q : State → Prop}
variable {cc : ByteArray} {pc : Nat} {ls : Array Slot} {rest : List Value} {D : va_G} {cy : Nat → ClassId} {L : List Nat} {K len : Nat → Nat} {a : Nat} {M M' : ZM}
theorem zA_mono {sz sz' : Nat} (h : sz ≤ sz') : ∀ q, zA L sz' q → zA L sz q := fun _ h1 => h1.elim Or.inl (fun h2 => Or.inr (Nat.le_trans h h2))
theorem z_iret (hx : p.tables.exec = Jvm.exec) (hb : c.code = cc) (hr : meth.sig.returnType = some .int) (hlocks : meth.locks = false) (hW : zWd D cy L K len M H) (hS : va_S (zA L s.heap.size) s.heap H locs) {v r : Int32} (hv : v = r) (hM : M = M') (hdg : decode cc pc = .ok (.ireturn, 1)) : W p l e R s m args below meth c H locs cells slots (MQ below (zQi D cy L K len r M' s.heap.size) args s cells slots (zA L s.heap.size)) (F0 m pc ls [.int v]) := by
  subst hv; subst hM
  exact W.iret hx hb hr (fun t ht _ => ⟨⟨v, (), rfl, rfl, (congrArg (zWd D cy L K len M) ht).mpr hW⟩, hS.F ht⟩) hS.2.2 hdg hlocks
/-- 0 or 1 -/
def zbo (v : Int32) : Bool := v == 0 || v == 1
theorem zbo_nar {v : Int32} (h : zbo v = true) : narrow .boolean (.int v) = .int v := by
  simp only [zbo, Bool.or_eq_true, beq_iff_eq] at h
  rcases h with rfl | rfl <;> decide
theorem z_zret (hx : p.tables.exec = Jvm.exec) (hb : c.code = cc) (hr : meth.sig.returnType = some .boolean) (hlocks : meth.locks = false) (hW : zWd D cy L K len M H) (hS : va_S (zA L s.heap.size) s.heap H locs) {v r : Int32} (hn : zbo v = true) (hv : v = r) (hM : M = M') (hdg : decode cc pc = .ok (.ireturn, 1)) : W p l e R s m args below meth c H locs cells slots (MQ below (zQi D cy L K len r M' s.heap.size) args s cells slots (zA L s.heap.size)) (F0 m pc ls [.int v]) := by
  subst hv; subst hM
  exact W.zret hx hb hr (zbo_nar hn) (fun t ht _ => ⟨⟨v, (), rfl, rfl, (congrArg (zWd D cy L K len M) ht).mpr hW⟩, hS.F ht⟩) hS.2.2 hdg hlocks
theorem z_lret (hx : p.tables.exec = Jvm.exec) (hb : c.code = cc) (hr : meth.sig.returnType = some .long) (hlocks : meth.locks = false) (hW : zWd D cy L K len M H) (hS : va_S (zA L s.heap.size) s.heap H locs) {v r : Int64} (hv : v = r) (hM : M = M') (hdg : decode cc pc = .ok (.lreturn, 1)) : W p l e R s m args below meth c H locs cells slots (MQ below (zQl D cy L K len r M' s.heap.size) args s cells slots (zA L s.heap.size)) (F0 m pc ls [.long v]) := by
  subst hv; subst hM
  exact W.lret hx hb hr (fun t ht _ => ⟨⟨v, (), rfl, rfl, (congrArg (zWd D cy L K len M) ht).mpr hW⟩, hS.F ht⟩) hS.2.2 hdg hlocks
theorem z_dret (hx : p.tables.exec = Jvm.exec) (hb : c.code = cc) (hr : meth.sig.returnType = some .double) (hlocks : meth.locks = false) (hW : zWd D cy L K len M H) (hS : va_S (zA L s.heap.size) s.heap H locs) {v r : UInt64} (hv : v = r) (hM : M = M') (hdg : decode cc pc = .ok (.dreturn, 1)) : W p l e R s m args below meth c H locs cells slots (MQ below (zQd D cy L K len r M' s.heap.size) args s cells slots (zA L s.heap.size)) (F0 m pc ls [.double v]) := by
  subst hv; subst hM
  exact W.dret hx hb hr (fun t ht _ => ⟨⟨v, (), rfl, rfl, (congrArg (zWd D cy L K len M) ht).mpr hW⟩, hS.F ht⟩) hS.2.2 hdg hlocks
theorem z_aret (hx : p.tables.exec = Jvm.exec) (hb : c.code = cc) {C : String} (hr : meth.sig.returnType = some (.object C)) (hlocks : meth.locks = false) (hW : zWd D cy L K len M H) (hS : va_S (zA L s.heap.size) s.heap H locs) {v r : Nat} (hv : v = r) (hM : M = M') (hdg : decode cc pc = .ok (.areturn, 1)) : W p l e R s m args below meth c H locs cells slots (MQ below (zQr D cy L K len r M' s.heap.size) args s cells slots (zA L s.heap.size)) (F0 m pc ls [.ref v]) := by
  subst hv; subst hM
  exact W.aret hx hb hr (Or.inl ⟨_, rfl⟩) (Or.inr ⟨v, rfl⟩) (fun t ht _ => ⟨⟨some v, (), rfl, rfl, (congrArg (zWd D cy L K len M) ht).mpr hW⟩, hS.F ht⟩) hS.2.2 hdg hlocks
theorem z_vret (hx : p.tables.exec = Jvm.exec) (hb : c.code = cc) (hr : meth.sig.returnType = none) (hlocks : meth.locks = false) (hW : zWd D cy L K len M H) (hS : va_S (zA L s.heap.size) s.heap H locs) (hM : M = M') (hdg : decode cc pc = .ok (.return_, 1)) : W p l e R s m args below meth c H locs cells slots (MQ below (zQv D cy L K len M' s.heap.size) args s cells slots (zA L s.heap.size)) (F0 m pc ls []) := by
  subst hM
  exact W.vret hx hb hr (fun t ht _ => ⟨⟨(), rfl, trivial, (congrArg (zWd D cy L K len M) ht).mpr hW⟩, hS.F ht⟩) hS.2.2 hdg hlocks
theorem z_calli (hS : va_S (zA L s.heap.size) s.heap H locs) {mc ms : Nat} {st0 : List Value} {r : Int32} {av : Array Value} (hr : va_Run p l e R s m args below meth c H locs cells slots mc ms (F0 m pc ls st0) rest (zQi D cy L K len r M' H.size av) (zA L H.size))
    (kk : ∀ (H : Heap) (locs : List Loc), zWd D cy L K len M' H → va_S (zA L s.heap.size) s.heap H locs → W p l e R s m args below meth c H locs (cells + mc) (slots + ms) Q (F0 m (pc + 3) ls (.int r :: rest))) : W p l e R s m args below meth c H locs cells slots Q (F0 m pc ls st0) :=
  va_calli hr hS (fun q _ h => zA_mono hS.1 q h) (fun q h => zA_mono hS.1 q h) (fun x _ t H1 locs1 ht _ hp hb _ _ hS1 => by subst hp; subst ht; exact kk _ _ hb hS1)
theorem z_calll (hS : va_S (zA L s.heap.size) s.heap H locs) {mc ms : Nat} {st0 : List Value} {r : Int64} {av : Array Value} (hr : va_Run p l e R s m args below meth c H locs cells slots mc ms (F0 m pc ls st0) rest (zQl D cy L K len r M' H.size av) (zA L H.size))
    (kk : ∀ (H : Heap) (locs : List Loc), zWd D cy L K len M' H → va_S (zA L s.heap.size) s.heap H locs → W p l e R s m args below meth c H locs (cells + mc) (slots + ms) Q (F0 m (pc + 3) ls (.long r :: rest))) : W p l e R s m args below meth c H locs cells slots Q (F0 m pc ls st0) :=
  va_calll hr hS (fun q _ h => zA_mono hS.1 q h) (fun q h => zA_mono hS.1 q h) (fun x _ t H1 locs1 ht _ hp hb _ _ hS1 => by subst hp; subst ht; exact kk _ _ hb hS1)
theorem z_calld (hS : va_S (zA L s.heap.size) s.heap H locs) {mc ms : Nat} {st0 : List Value} {r : UInt64} {av : Array Value} (hr : va_Run p l e R s m args below meth c H locs cells slots mc ms (F0 m pc ls st0) rest (zQd D cy L K len r M' H.size av) (zA L H.size))
    (kk : ∀ (H : Heap) (locs : List Loc), zWd D cy L K len M' H → va_S (zA L s.heap.size) s.heap H locs → W p l e R s m args below meth c H locs (cells + mc) (slots + ms) Q (F0 m (pc + 3) ls (.double r :: rest))) : W p l e R s m args below meth c H locs cells slots Q (F0 m pc ls st0) :=
  va_calld hr hS (fun q _ h => zA_mono hS.1 q h) (fun q h => zA_mono hS.1 q h) (fun x _ t H1 locs1 ht _ hp hb _ _ hS1 => by subst hp; subst ht; exact kk _ _ hb hS1)
theorem z_callv (hS : va_S (zA L s.heap.size) s.heap H locs) {mc ms : Nat} {st0 : List Value} {av : Array Value} (hr : va_Run p l e R s m args below meth c H locs cells slots mc ms (F0 m pc ls st0) rest (zQv D cy L K len M' H.size av) (zA L H.size))
    (kk : ∀ (H : Heap) (locs : List Loc), zWd D cy L K len M' H → va_S (zA L s.heap.size) s.heap H locs → W p l e R s m args below meth c H locs (cells + mc) (slots + ms) Q (F0 m (pc + 3) ls rest)) : W p l e R s m args below meth c H locs cells slots Q (F0 m pc ls st0) :=
  va_callv hr hS (fun q _ h => zA_mono hS.1 q h) (fun q h => zA_mono hS.1 q h) (fun _ t H1 locs1 ht _ _ hb _ _ hS1 => by subst ht; exact kk _ _ hb hS1)
theorem z_callr (hS : va_S (zA L s.heap.size) s.heap H locs) {mc ms : Nat} {st0 : List Value} {r : Nat} {av : Array Value} (hr : va_Run p l e R s m args below meth c H locs cells slots mc ms (F0 m pc ls st0) rest (zQr D cy L K len r M' H.size av) (zA L H.size))
    (kk : ∀ (H : Heap) (locs : List Loc), zWd D cy L K len M' H → va_S (zA L s.heap.size) s.heap H locs → W p l e R s m args below meth c H locs (cells + mc) (slots + ms) Q (F0 m (pc + 3) ls (.ref r :: rest))) : W p l e R s m args below meth c H locs cells slots Q (F0 m pc ls st0) :=
  va_callq hr hS (fun q _ h => zA_mono hS.1 q h) (fun q h => zA_mono hS.1 q h) (fun x _ t H1 locs1 ht _ hp hb _ _ hS1 => by subst hp; subst ht; exact kk _ _ hb hS1)
theorem z_preS (hK : va_K D vwCl (ztys cy) s) (hE : zEnv (zA L s.heap.size) s s.heap) (hW : zWd D cy L K len M H) (hS : va_S (zA L s.heap.size) s.heap H locs) (As : List Value) : PreS s H (zPre D cy L K len H.size As M) As :=
  ⟨zPre_blind, fun U hU hw => ⟨rfl, by rw [hU], by rw [hU]; exact hW, va_K.moved hw.alike hK, by rw [hU]; exact hE.next hw hS (zA_mono hS.1)⟩⟩
theorem z_preV (hK : va_K D vwCl (ztys cy) s) (hL : zSh L K) (hE : zEnv (zA L s.heap.size) s s.heap) (hW : zWd D cy L K len M H) (hS : va_S (zA L s.heap.size) s.heap H locs) {b ci : Nat} {q : vw_C} (hKb : K b = ci + 1) (h8 : ci < 8) (hc : vwCl[ci]? = some q) (As : List Value) : PreV s H q.1 b (zPre D cy L K len H.size (.ref b :: As) M) As := by
  obtain ⟨q0, he⟩ := va_pl_get (X := []) (f := zent cy K len M) (hL.2 b (by omega))
  rw [zent_obj hKb h8] at he
  exact ⟨zPre_blind, va_recv hK (show va_P D vwCl ([] ++ va_pl L (zent cy K len M)) H from hW) hc he, fun U hU hw => ⟨rfl, by rw [hU], by rw [hU]; exact hW, va_K.moved hw.alike hK, by rw [hU]; exact hE.next hw hS (zA_mono hS.1)⟩⟩
theorem z_lcmp {x y : Int64} : (lg_cmp x y = 0 ↔ x = y) ∧ (lg_cmp x y < 0 ↔ x < y) ∧ (lg_cmp x y ≤ 0 ↔ x ≤ y) ∧ (0 < lg_cmp x y ↔ y < x) ∧ (0 ≤ lg_cmp x y ↔ y ≤ x) := by
  unfold lg_cmp
  have t := Int64.le_total x y
  by_cases h : x > y
  · rw [if_pos h]
    have h1 : y < x := h
    rw [Int64.lt_iff_toInt_lt] at h1
    simp only [Int64.lt_iff_toInt_lt, Int64.le_iff_toInt_le, ← Int64.toInt_inj]
    refine ⟨⟨fun q => absurd q (by decide), fun q => by omega⟩, ⟨fun q => absurd q (by decide), fun q => by omega⟩, ⟨fun q => absurd q (by decide), fun q => by omega⟩, ⟨fun _ => h1, fun _ => by decide⟩, ⟨fun _ => by omega, fun _ => by decide⟩⟩
  · rw [if_neg h]
    have h1 : ¬ y < x := h
    by_cases h2 : x = y
    · rw [if_pos h2]
      subst h2
      refine ⟨⟨fun _ => rfl, fun _ => rfl⟩, ?_⟩
      simp only [Int64.lt_iff_toInt_lt, Int64.le_iff_toInt_le]
      exact ⟨⟨fun q => absurd q (by decide), fun q => by omega⟩, ⟨fun _ => by omega, fun _ => by decide⟩, ⟨fun q => absurd q (by decide), fun q => by omega⟩, ⟨fun _ => by omega, fun _ => by decide⟩⟩
    · rw [if_neg h2]
      rw [← Int64.toInt_inj] at h2
      rw [Int64.lt_iff_toInt_lt] at h1
      simp only [Int64.lt_iff_toInt_lt, Int64.le_iff_toInt_le, ← Int64.toInt_inj]
      exact ⟨⟨fun q => absurd q (by decide), fun q => by omega⟩, ⟨fun _ => by omega, fun _ => by decide⟩, ⟨fun _ => by omega, fun _ => by decide⟩, ⟨fun q => absurd q (by decide), fun q => by omega⟩, ⟨fun q => absurd q (by decide), fun q => by omega⟩⟩
theorem z_lc_eq (hx : p.tables.exec = Jvm.exec) (hb : c.code = cc) {x y : Int64} {off : Int} {tgt : Nat} (hd0 : decode cc pc = .ok (.lcmp, 1)) (hdg : decode cc (pc + 1) = .ok (.ifCond .eq off, 3)) (ht : ((pc + 1 : Nat) : Int) + off = (tgt : Int))
    (kt : x = y → W p l e R s m args below meth c H locs cells slots Q (F0 m tgt ls rest)) (kf : ¬ x = y → W p l e R s m args below meth c H locs cells slots Q (F0 m (pc + 4) ls rest)) : W p l e R s m args below meth c H locs cells slots Q (F0 m pc ls (.long y :: .long x :: rest)) :=
  W.lcmp hx hb hd0 (lv_if_eq hx hb hdg ht (fun h => kt (z_lcmp.1.mp h)) (fun h => kf (fun q => h (z_lcmp.1.mpr q))))
theorem z_lc_ne (hx : p.tables.exec = Jvm.exec) (hb : c.code = cc) {x y : Int64} {off : Int} {tgt : Nat} (hd0 : decode cc pc = .ok (.lcmp, 1)) (hdg : decode cc (pc + 1) = .ok (.ifCond .ne off, 3)) (ht : ((pc + 1 : Nat) : Int) + off = (tgt : Int))
    (kt : ¬ x = y → W p l e R s m args below meth c H locs cells slots Q (F0 m tgt ls rest)) (kf : x = y → W p l e R s m args below meth c H locs cells slots Q (F0 m (pc + 4) ls rest)) : W p l e R s m args below meth c H locs cells slots Q (F0 m pc ls (.long y :: .long x :: rest)) :=
  W.lcmp hx hb hd0 (lv_if_ne hx hb hdg ht (fun h => kt (fun q => h (z_lcmp.1.mpr q))) (fun h => kf (z_lcmp.1.mp h)))
theorem z_lc_lt (hx : p.tables.exec = Jvm.exec) (hb : c.code = cc) {x y : Int64} {off : Int} {tgt : Nat} (hd0 : decode cc pc = .ok (.lcmp, 1)) (hdg : decode cc (pc + 1) = .ok (.ifCond .lt off, 3)) (ht : ((pc + 1 : Nat) : Int) + off = (tgt : Int))
    (kt : x < y → W p l e R s m args below meth c H locs cells slots Q (F0 m tgt ls rest)) (kf : ¬ x < y → W p l e R s m args below meth c H locs cells slots Q (F0 m (pc + 4) ls rest)) : W p l e R s m args below meth c H locs cells slots Q (F0 m pc ls (.long y :: .long x :: rest)) :=
  W.lcmp hx hb hd0 (lv_if_lt hx hb hdg ht (fun h => kt (z_lcmp.2.1.mp h)) (fun h => kf (fun q => h (z_lcmp.2.1.mpr q))))
theorem z_lc_le (hx : p.tables.exec = Jvm.exec) (hb : c.code = cc) {x y : Int64} {off : Int} {tgt : Nat} (hd0 : decode cc pc = .ok (.lcmp, 1)) (hdg : decode cc (pc + 1) = .ok (.ifCond .le off, 3)) (ht : ((pc + 1 : Nat) : Int) + off = (tgt : Int))
    (kt : x ≤ y → W p l e R s m args below meth c H locs cells slots Q (F0 m tgt ls rest)) (kf : ¬ x ≤ y → W p l e R s m args below meth c H locs cells slots Q (F0 m (pc + 4) ls rest)) : W p l e R s m args below meth c H locs cells slots Q (F0 m pc ls (.long y :: .long x :: rest)) :=
  W.lcmp hx hb hd0 (lv_if_le hx hb hdg ht (fun h => kt (z_lcmp.2.2.1.mp h)) (fun h => kf (fun q => h (z_lcmp.2.2.1.mpr q))))
theorem z_lc_gt (hx : p.tables.exec = Jvm.exec) (hb : c.code = cc) {x y : Int64} {off : Int} {tgt : Nat} (hd0 : decode cc pc = .ok (.lcmp, 1)) (hdg : decode cc (pc + 1) = .ok (.ifCond .gt off, 3)) (ht : ((pc + 1 : Nat) : Int) + off = (tgt : Int))
    (kt : y < x → W p l e R s m args below meth c H locs cells slots Q (F0 m tgt ls rest)) (kf : ¬ y < x → W p l e R s m args below meth c H locs cells slots Q (F0 m (pc + 4) ls rest)) : W p l e R s m args below meth c H locs cells slots Q (F0 m pc ls (.long y :: .long x :: rest)) :=
  W.lcmp hx hb hd0 (lv_if_gt hx hb hdg ht (fun h => kt (z_lcmp.2.2.2.1.mp h)) (fun h => kf (fun q => h (z_lcmp.2.2.2.1.mpr q))))
theorem z_lc_ge (hx : p.tables.exec = Jvm.exec) (hb : c.code = cc) {x y : Int64} {off : Int} {tgt : Nat} (hd0 : decode cc pc = .ok (.lcmp, 1)) (hdg : decode cc (pc + 1) = .ok (.ifCond .ge off, 3)) (ht : ((pc + 1 : Nat) : Int) + off = (tgt : Int))
    (kt : y ≤ x → W p l e R s m args below meth c H locs cells slots Q (F0 m tgt ls rest)) (kf : ¬ y ≤ x → W p l e R s m args below meth c H locs cells slots Q (F0 m (pc + 4) ls rest)) : W p l e R s m args below meth c H locs cells slots Q (F0 m pc ls (.long y :: .long x :: rest)) :=
  W.lcmp hx hb hd0 (lv_if_ge hx hb hdg ht (fun h => kt (z_lcmp.2.2.2.2.mp h)) (fun h => kf (fun q => h (z_lcmp.2.2.2.2.mpr q))))
theorem zhvR {fs : List Value} {k : Nat} {r : Option Nat} {b : Nat} (e : r = some b) (h : fs[k]? = some (va_rf r)) : fs[k]? = some (.ref b) := by subst e; exact h
end ZC
/-- a value gets a name -/
def zl {α β : Type} (x : α) (f : α → β) : β := f x
theorem zl_some {α β : Type} {x : α} {f : α → β} {r : β} (h : zl x f = r) : ∃ y, y = x ∧ f y = r := ⟨x, rfl, h⟩
theorem z_entry {l : Launch} {y : MethodName} {ws ws' : List Cond} {rm : Room} {cc : ByteArray} {nL : Nat} {ret : Option FieldType} {own : String} {D : va_G} {cy : Nat → ClassId} {L : List Nat} {K len : Nat → Nat} {av : List Value} {M : ZM} {Qf : Nat → Array Value → State → Outcome → State → Prop} {mc ms sz : Nat}
    (hy : plainName y.cls = true) (hw : ws = Cond.code y cc nL ret :: ws') (ho : y.cls = own) (hL : zSh L K) (hn : (lg_sl av).length ≤ nL)
    (body : ∀ (p : Program) (e : Env) (s : State) (m : MethodId) (args : Array Value) (below : List Frame) (meth : Method) (c : Code), zCx p s m c meth args cc nL ws own ret D cy L K → ∀ (H : Heap) (locs : List Loc) (ls : Array Slot), zWd D cy L K len M H → va_S (zA L s.heap.size) s.heap H locs → lv_has ls nL (lv_args 0 av) → W p l e (headSpec ws rm).room s m args below meth c H locs 0 0 (MQ below (Qf s.heap.size) args s mc ms (zA L s.heap.size)) (F0 m 0 ls [])) : Met l y ws rm (zPre D cy L K len sz av M) (Qf sz) mc ms (zA L sz) := by
  refine Met.ofW (cc := cc) (maxL := nL) (ret := ret) hy hw ?_
  intro p e s m args below meth c s₁ B hml hv
  obtain ⟨rfl, hsz, hW, hK, hE⟩ := hv
  subst hsz
  rw [lg_entry_eq]
  exact body p e s m _ below meth c ⟨B.exec, B.bytes, B.returns, hml, by rw [← ho]; exact findClass_of_methodNamed B.named, atoms_spec (ws := ws) B.pre, B.notSynchronized, hK, hL, hE⟩ s.heap [] _ hW va_S.rf (lv_entry av hn)
end
