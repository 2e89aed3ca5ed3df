-- ===== PART A: goes FIRST, ahead of the names: the tables' words, and 'selects' of the private methods out of them =====
/-- a private method of a class that the tables say can be made, by its rows of tables_1 -/
def lw_okq (q : MethodName × Nat) : Prop := (q.1.cls ≠ "java/lang/invoke/MethodHandle" ∧ q.1.cls ≠ "java/lang/invoke/VarHandle") ∧ Cond.instantiable q.1.cls q.2 ∈ tables_1 ∧ Cond.privateMethod q.1 ∈ tables_1 ∧ Cond.instanceMethod q.1 ∈ tables_1
theorem lw_p0 : lw_okq (⟨"PipeVoice", "spareLaw", "()LPipeVoice$Law;"⟩, 14) := ⟨⟨by decide +kernel, by decide +kernel⟩, List.mem_of_getElem? (i := 22) (by decide +kernel), List.mem_of_getElem? (i := 498) (by decide +kernel), List.mem_of_getElem? (i := 499) (by decide +kernel)⟩
theorem lw_p1 : lw_okq (⟨"PipeVoice$Reader", "takeToken", "()V"⟩, 11) := ⟨⟨by decide +kernel, by decide +kernel⟩, List.mem_of_getElem? (i := 147) (by decide +kernel), List.mem_of_getElem? (i := 507) (by decide +kernel), List.mem_of_getElem? (i := 508) (by decide +kernel)⟩
theorem lw_p2 : lw_okq (⟨"PipeVoice$Reader", "readDigits", "()V"⟩, 11) := ⟨⟨by decide +kernel, by decide +kernel⟩, List.mem_of_getElem? (i := 147) (by decide +kernel), List.mem_of_getElem? (i := 515) (by decide +kernel), List.mem_of_getElem? (i := 516) (by decide +kernel)⟩
theorem lw_p3 : lw_okq (⟨"PipeVoice$Reader", "isWord", "(Ljava/lang/String;)Z"⟩, 11) := ⟨⟨by decide +kernel, by decide +kernel⟩, List.mem_of_getElem? (i := 147) (by decide +kernel), List.mem_of_getElem? (i := 528) (by decide +kernel), List.mem_of_getElem? (i := 529) (by decide +kernel)⟩
theorem lw_p4 : lw_okq (⟨"PipeVoice$Reader", "readRest", "()V"⟩, 11) := ⟨⟨by decide +kernel, by decide +kernel⟩, List.mem_of_getElem? (i := 147) (by decide +kernel), List.mem_of_getElem? (i := 580) (by decide +kernel), List.mem_of_getElem? (i := 581) (by decide +kernel)⟩
theorem lw_p5 : lw_okq (⟨"PipeVoice$Reader", "takeOnce", "(I)V"⟩, 11) := ⟨⟨by decide +kernel, by decide +kernel⟩, List.mem_of_getElem? (i := 147) (by decide +kernel), List.mem_of_getElem? (i := 584) (by decide +kernel), List.mem_of_getElem? (i := 585) (by decide +kernel)⟩
theorem lw_p6 : lw_okq (⟨"PipeVoice$Reader", "fail", "(I)V"⟩, 11) := ⟨⟨by decide +kernel, by decide +kernel⟩, List.mem_of_getElem? (i := 147) (by decide +kernel), List.mem_of_getElem? (i := 588) (by decide +kernel), List.mem_of_getElem? (i := 589) (by decide +kernel)⟩
theorem lw_p7 : lw_okq (⟨"PipeVoice$Reader", "checkNumber", "(II)V"⟩, 11) := ⟨⟨by decide +kernel, by decide +kernel⟩, List.mem_of_getElem? (i := 147) (by decide +kernel), List.mem_of_getElem? (i := 592) (by decide +kernel), List.mem_of_getElem? (i := 593) (by decide +kernel)⟩
theorem lw_p8 : lw_okq (⟨"PipeVoice$Reader", "takeComma", "()Z"⟩, 11) := ⟨⟨by decide +kernel, by decide +kernel⟩, List.mem_of_getElem? (i := 147) (by decide +kernel), List.mem_of_getElem? (i := 596) (by decide +kernel), List.mem_of_getElem? (i := 597) (by decide +kernel)⟩
theorem lw_p9 : lw_okq (⟨"PipeVoice$Reader", "takeSemicolon", "()V"⟩, 11) := ⟨⟨by decide +kernel, by decide +kernel⟩, List.mem_of_getElem? (i := 147) (by decide +kernel), List.mem_of_getElem? (i := 600) (by decide +kernel), List.mem_of_getElem? (i := 601) (by decide +kernel)⟩
theorem lw_p10 : lw_okq (⟨"PipeVoice$Reader", "readPart", "(I)I"⟩, 11) := ⟨⟨by decide +kernel, by decide +kernel⟩, List.mem_of_getElem? (i := 147) (by decide +kernel), List.mem_of_getElem? (i := 605) (by decide +kernel), List.mem_of_getElem? (i := 606) (by decide +kernel)⟩
theorem lw_p11 : lw_okq (⟨"PipeVoice$Reader", "takeNumber", "(II)I"⟩, 11) := ⟨⟨by decide +kernel, by decide +kernel⟩, List.mem_of_getElem? (i := 147) (by decide +kernel), List.mem_of_getElem? (i := 609) (by decide +kernel), List.mem_of_getElem? (i := 610) (by decide +kernel)⟩
theorem lw_p12 : lw_okq (⟨"PipeVoice$Reader", "readGesture", "()V"⟩, 11) := ⟨⟨by decide +kernel, by decide +kernel⟩, List.mem_of_getElem? (i := 147) (by decide +kernel), List.mem_of_getElem? (i := 616) (by decide +kernel), List.mem_of_getElem? (i := 617) (by decide +kernel)⟩
theorem lw_p13 : lw_okq (⟨"PipeVoice$Reader", "letterHere", "()I"⟩, 11) := ⟨⟨by decide +kernel, by decide +kernel⟩, List.mem_of_getElem? (i := 147) (by decide +kernel), List.mem_of_getElem? (i := 620) (by decide +kernel), List.mem_of_getElem? (i := 621) (by decide +kernel)⟩
theorem lw_p14 : lw_okq (⟨"PipeVoice$Reader", "takeWord", "(Ljava/lang/String;)V"⟩, 11) := ⟨⟨by decide +kernel, by decide +kernel⟩, List.mem_of_getElem? (i := 147) (by decide +kernel), List.mem_of_getElem? (i := 625) (by decide +kernel), List.mem_of_getElem? (i := 626) (by decide +kernel)⟩
theorem lw_p15 : lw_okq (⟨"PipeVoice$Reader", "readWord", "()V"⟩, 11) := ⟨⟨by decide +kernel, by decide +kernel⟩, List.mem_of_getElem? (i := 147) (by decide +kernel), List.mem_of_getElem? (i := 633) (by decide +kernel), List.mem_of_getElem? (i := 634) (by decide +kernel)⟩
def lw_privs_1 : List (MethodName × Nat) := [(⟨"PipeVoice", "spareLaw", "()LPipeVoice$Law;"⟩, 14), (⟨"PipeVoice$Reader", "takeToken", "()V"⟩, 11), (⟨"PipeVoice$Reader", "readDigits", "()V"⟩, 11), (⟨"PipeVoice$Reader", "isWord", "(Ljava/lang/String;)Z"⟩, 11), (⟨"PipeVoice$Reader", "readRest", "()V"⟩, 11), (⟨"PipeVoice$Reader", "takeOnce", "(I)V"⟩, 11), (⟨"PipeVoice$Reader", "fail", "(I)V"⟩, 11), (⟨"PipeVoice$Reader", "checkNumber", "(II)V"⟩, 11), (⟨"PipeVoice$Reader", "takeComma", "()Z"⟩, 11), (⟨"PipeVoice$Reader", "takeSemicolon", "()V"⟩, 11), (⟨"PipeVoice$Reader", "readPart", "(I)I"⟩, 11), (⟨"PipeVoice$Reader", "takeNumber", "(II)I"⟩, 11), (⟨"PipeVoice$Reader", "readGesture", "()V"⟩, 11), (⟨"PipeVoice$Reader", "letterHere", "()I"⟩, 11), (⟨"PipeVoice$Reader", "takeWord", "(Ljava/lang/String;)V"⟩, 11), (⟨"PipeVoice$Reader", "readWord", "()V"⟩, 11)]
theorem lw_r1 : ∀ q ∈ lw_privs_1, lw_okq q := List.forall_mem_cons.mpr ⟨lw_p0, List.forall_mem_cons.mpr ⟨lw_p1, List.forall_mem_cons.mpr ⟨lw_p2, List.forall_mem_cons.mpr ⟨lw_p3, List.forall_mem_cons.mpr ⟨lw_p4, List.forall_mem_cons.mpr ⟨lw_p5, List.forall_mem_cons.mpr ⟨lw_p6, List.forall_mem_cons.mpr ⟨lw_p7, List.forall_mem_cons.mpr ⟨lw_p8, List.forall_mem_cons.mpr ⟨lw_p9, List.forall_mem_cons.mpr ⟨lw_p10, List.forall_mem_cons.mpr ⟨lw_p11, List.forall_mem_cons.mpr ⟨lw_p12, List.forall_mem_cons.mpr ⟨lw_p13, List.forall_mem_cons.mpr ⟨lw_p14, List.forall_mem_cons.mpr ⟨lw_p15, fun _ h => absurd h List.not_mem_nil⟩⟩⟩⟩⟩⟩⟩⟩⟩⟩⟩⟩⟩⟩⟩⟩
theorem lw_p16 : lw_okq (⟨"PipeVoice$Reader", "readItem", "(II)V"⟩, 11) := ⟨⟨by decide +kernel, by decide +kernel⟩, List.mem_of_getElem? (i := 147) (by decide +kernel), List.mem_of_getElem? (i := 637) (by decide +kernel), List.mem_of_getElem? (i := 638) (by decide +kernel)⟩
theorem lw_p17 : lw_okq (⟨"PipeVoice", "isPiece", "(I)Z"⟩, 14) := ⟨⟨by decide +kernel, by decide +kernel⟩, List.mem_of_getElem? (i := 22) (by decide +kernel), List.mem_of_getElem? (i := 654) (by decide +kernel), List.mem_of_getElem? (i := 655) (by decide +kernel)⟩
theorem lw_p18 : lw_okq (⟨"PipeVoice", "passTick", "()V"⟩, 14) := ⟨⟨by decide +kernel, by decide +kernel⟩, List.mem_of_getElem? (i := 22) (by decide +kernel), List.mem_of_getElem? (i := 673) (by decide +kernel), List.mem_of_getElem? (i := 674) (by decide +kernel)⟩
theorem lw_p19 : lw_okq (⟨"PipeVoice$Lead", "findInItem", "(LPipeVoice$Moment;III)V"⟩, 8) := ⟨⟨by decide +kernel, by decide +kernel⟩, List.mem_of_getElem? (i := 316) (by decide +kernel), List.mem_of_getElem? (i := 681) (by decide +kernel), List.mem_of_getElem? (i := 682) (by decide +kernel)⟩
theorem lw_p20 : lw_okq (⟨"PipeVoice$Pipes", "passJoint", "(LPipeVoice$Moment;I)V"⟩, 3) := ⟨⟨by decide +kernel, by decide +kernel⟩, List.mem_of_getElem? (i := 349) (by decide +kernel), List.mem_of_getElem? (i := 700) (by decide +kernel), List.mem_of_getElem? (i := 701) (by decide +kernel)⟩
theorem lw_p21 : lw_okq (⟨"PipeVoice", "askShape", "(IIIII)Z"⟩, 14) := ⟨⟨by decide +kernel, by decide +kernel⟩, List.mem_of_getElem? (i := 22) (by decide +kernel), List.mem_of_getElem? (i := 785) (by decide +kernel), List.mem_of_getElem? (i := 786) (by decide +kernel)⟩
theorem lw_p22 : lw_okq (⟨"PipeVoice", "countShapes", "()I"⟩, 14) := ⟨⟨by decide +kernel, by decide +kernel⟩, List.mem_of_getElem? (i := 22) (by decide +kernel), List.mem_of_getElem? (i := 815) (by decide +kernel), List.mem_of_getElem? (i := 816) (by decide +kernel)⟩
theorem lw_p23 : lw_okq (⟨"PipeVoice$Shapes", "layOut", "([I)V"⟩, 12) := ⟨⟨by decide +kernel, by decide +kernel⟩, List.mem_of_getElem? (i := 396) (by decide +kernel), List.mem_of_getElem? (i := 842) (by decide +kernel), List.mem_of_getElem? (i := 843) (by decide +kernel)⟩
theorem lw_p24 : lw_okq (⟨"PipeVoice$Shapes", "listChoices", "(I)I"⟩, 12) := ⟨⟨by decide +kernel, by decide +kernel⟩, List.mem_of_getElem? (i := 396) (by decide +kernel), List.mem_of_getElem? (i := 846) (by decide +kernel), List.mem_of_getElem? (i := 847) (by decide +kernel)⟩
theorem lw_p25 : lw_okq (⟨"PipeVoice$Shapes", "fillBoxes", "(I)V"⟩, 12) := ⟨⟨by decide +kernel, by decide +kernel⟩, List.mem_of_getElem? (i := 396) (by decide +kernel), List.mem_of_getElem? (i := 854) (by decide +kernel), List.mem_of_getElem? (i := 855) (by decide +kernel)⟩
theorem lw_p26 : lw_okq (⟨"PipeVoice$Shapes", "fits", "(I)Z"⟩, 12) := ⟨⟨by decide +kernel, by decide +kernel⟩, List.mem_of_getElem? (i := 396) (by decide +kernel), List.mem_of_getElem? (i := 867) (by decide +kernel), List.mem_of_getElem? (i := 868) (by decide +kernel)⟩
theorem lw_p27 : lw_okq (⟨"PipeVoice$Shapes", "spread", "(I)V"⟩, 12) := ⟨⟨by decide +kernel, by decide +kernel⟩, List.mem_of_getElem? (i := 396) (by decide +kernel), List.mem_of_getElem? (i := 909) (by decide +kernel), List.mem_of_getElem? (i := 910) (by decide +kernel)⟩
theorem lw_p28 : lw_okq (⟨"PipeVoice$Shapes", "lower", "(IIII)V"⟩, 12) := ⟨⟨by decide +kernel, by decide +kernel⟩, List.mem_of_getElem? (i := 396) (by decide +kernel), List.mem_of_getElem? (i := 913) (by decide +kernel), List.mem_of_getElem? (i := 914) (by decide +kernel)⟩
theorem lw_p29 : lw_okq (⟨"PipeVoice$Shapes", "firstOnTheWay", "(II)I"⟩, 12) := ⟨⟨by decide +kernel, by decide +kernel⟩, List.mem_of_getElem? (i := 396) (by decide +kernel), List.mem_of_getElem? (i := 930) (by decide +kernel), List.mem_of_getElem? (i := 931) (by decide +kernel)⟩
theorem lw_p30 : lw_okq (⟨"PipeVoiceModel", "plain", "()V"⟩, 45) := ⟨⟨by decide +kernel, by decide +kernel⟩, List.mem_of_getElem? (i := 958) (by decide +kernel), List.mem_of_getElem? (i := 964) (by decide +kernel), List.mem_of_getElem? (i := 965) (by decide +kernel)⟩
theorem lw_p31 : lw_okq (⟨"PipeVoiceModel", "keep", "()V"⟩, 45) := ⟨⟨by decide +kernel, by decide +kernel⟩, List.mem_of_getElem? (i := 958) (by decide +kernel), List.mem_of_getElem? (i := 968) (by decide +kernel), List.mem_of_getElem? (i := 969) (by decide +kernel)⟩
def lw_privs_2 : List (MethodName × Nat) := [(⟨"PipeVoice$Reader", "readItem", "(II)V"⟩, 11), (⟨"PipeVoice", "isPiece", "(I)Z"⟩, 14), (⟨"PipeVoice", "passTick", "()V"⟩, 14), (⟨"PipeVoice$Lead", "findInItem", "(LPipeVoice$Moment;III)V"⟩, 8), (⟨"PipeVoice$Pipes", "passJoint", "(LPipeVoice$Moment;I)V"⟩, 3), (⟨"PipeVoice", "askShape", "(IIIII)Z"⟩, 14), (⟨"PipeVoice", "countShapes", "()I"⟩, 14), (⟨"PipeVoice$Shapes", "layOut", "([I)V"⟩, 12), (⟨"PipeVoice$Shapes", "listChoices", "(I)I"⟩, 12), (⟨"PipeVoice$Shapes", "fillBoxes", "(I)V"⟩, 12), (⟨"PipeVoice$Shapes", "fits", "(I)Z"⟩, 12), (⟨"PipeVoice$Shapes", "spread", "(I)V"⟩, 12), (⟨"PipeVoice$Shapes", "lower", "(IIII)V"⟩, 12), (⟨"PipeVoice$Shapes", "firstOnTheWay", "(II)I"⟩, 12), (⟨"PipeVoiceModel", "plain", "()V"⟩, 45), (⟨"PipeVoiceModel", "keep", "()V"⟩, 45)]
theorem lw_r2 : ∀ q ∈ lw_privs_2, lw_okq q := List.forall_mem_cons.mpr ⟨lw_p16, List.forall_mem_cons.mpr ⟨lw_p17, List.forall_mem_cons.mpr ⟨lw_p18, List.forall_mem_cons.mpr ⟨lw_p19, List.forall_mem_cons.mpr ⟨lw_p20, List.forall_mem_cons.mpr ⟨lw_p21, List.forall_mem_cons.mpr ⟨lw_p22, List.forall_mem_cons.mpr ⟨lw_p23, List.forall_mem_cons.mpr ⟨lw_p24, List.forall_mem_cons.mpr ⟨lw_p25, List.forall_mem_cons.mpr ⟨lw_p26, List.forall_mem_cons.mpr ⟨lw_p27, List.forall_mem_cons.mpr ⟨lw_p28, List.forall_mem_cons.mpr ⟨lw_p29, List.forall_mem_cons.mpr ⟨lw_p30, List.forall_mem_cons.mpr ⟨lw_p31, fun _ h => absurd h List.not_mem_nil⟩⟩⟩⟩⟩⟩⟩⟩⟩⟩⟩⟩⟩⟩⟩⟩
theorem lw_p32 : lw_okq (⟨"PipeVoiceModel", "four", "(I)V"⟩, 45) := ⟨⟨by decide +kernel, by decide +kernel⟩, List.mem_of_getElem? (i := 958) (by decide +kernel), List.mem_of_getElem? (i := 1113) (by decide +kernel), List.mem_of_getElem? (i := 1114) (by decide +kernel)⟩
theorem lw_p33 : lw_okq (⟨"PipeVoiceModel", "readText", "()I"⟩, 45) := ⟨⟨by decide +kernel, by decide +kernel⟩, List.mem_of_getElem? (i := 958) (by decide +kernel), List.mem_of_getElem? (i := 1128) (by decide +kernel), List.mem_of_getElem? (i := 1129) (by decide +kernel)⟩
theorem lw_p34 : lw_okq (⟨"PipeVoiceModel", "nextToken", "()V"⟩, 45) := ⟨⟨by decide +kernel, by decide +kernel⟩, List.mem_of_getElem? (i := 958) (by decide +kernel), List.mem_of_getElem? (i := 1132) (by decide +kernel), List.mem_of_getElem? (i := 1133) (by decide +kernel)⟩
theorem lw_p35 : lw_okq (⟨"PipeVoiceModel", "see", "(I)I"⟩, 45) := ⟨⟨by decide +kernel, by decide +kernel⟩, List.mem_of_getElem? (i := 958) (by decide +kernel), List.mem_of_getElem? (i := 1136) (by decide +kernel), List.mem_of_getElem? (i := 1137) (by decide +kernel)⟩
theorem lw_p36 : lw_okq (⟨"PipeVoiceModel", "clause", "()I"⟩, 45) := ⟨⟨by decide +kernel, by decide +kernel⟩, List.mem_of_getElem? (i := 958) (by decide +kernel), List.mem_of_getElem? (i := 1147) (by decide +kernel), List.mem_of_getElem? (i := 1148) (by decide +kernel)⟩
theorem lw_p37 : lw_okq (⟨"PipeVoiceModel", "isWord", "(J)Z"⟩, 45) := ⟨⟨by decide +kernel, by decide +kernel⟩, List.mem_of_getElem? (i := 958) (by decide +kernel), List.mem_of_getElem? (i := 1154) (by decide +kernel), List.mem_of_getElem? (i := 1155) (by decide +kernel)⟩
theorem lw_p38 : lw_okq (⟨"PipeVoiceModel", "once", "(II)I"⟩, 45) := ⟨⟨by decide +kernel, by decide +kernel⟩, List.mem_of_getElem? (i := 958) (by decide +kernel), List.mem_of_getElem? (i := 1158) (by decide +kernel), List.mem_of_getElem? (i := 1159) (by decide +kernel)⟩
theorem lw_p39 : lw_okq (⟨"PipeVoiceModel", "rests", "()I"⟩, 45) := ⟨⟨by decide +kernel, by decide +kernel⟩, List.mem_of_getElem? (i := 958) (by decide +kernel), List.mem_of_getElem? (i := 1162) (by decide +kernel), List.mem_of_getElem? (i := 1163) (by decide +kernel)⟩
theorem lw_p40 : lw_okq (⟨"PipeVoiceModel", "take", "(III)I"⟩, 45) := ⟨⟨by decide +kernel, by decide +kernel⟩, List.mem_of_getElem? (i := 958) (by decide +kernel), List.mem_of_getElem? (i := 1166) (by decide +kernel), List.mem_of_getElem? (i := 1167) (by decide +kernel)⟩
theorem lw_p41 : lw_okq (⟨"PipeVoiceModel", "gesture", "()I"⟩, 45) := ⟨⟨by decide +kernel, by decide +kernel⟩, List.mem_of_getElem? (i := 958) (by decide +kernel), List.mem_of_getElem? (i := 1174) (by decide +kernel), List.mem_of_getElem? (i := 1175) (by decide +kernel)⟩
theorem lw_p42 : lw_okq (⟨"PipeVoiceModel", "need", "(J)I"⟩, 45) := ⟨⟨by decide +kernel, by decide +kernel⟩, List.mem_of_getElem? (i := 958) (by decide +kernel), List.mem_of_getElem? (i := 1178) (by decide +kernel), List.mem_of_getElem? (i := 1179) (by decide +kernel)⟩
theorem lw_p43 : lw_okq (⟨"PipeVoiceModel", "wordClause", "()I"⟩, 45) := ⟨⟨by decide +kernel, by decide +kernel⟩, List.mem_of_getElem? (i := 958) (by decide +kernel), List.mem_of_getElem? (i := 1182) (by decide +kernel), List.mem_of_getElem? (i := 1183) (by decide +kernel)⟩
theorem lw_p44 : lw_okq (⟨"PipeVoiceModel", "hasGesture", "(I)Z"⟩, 45) := ⟨⟨by decide +kernel, by decide +kernel⟩, List.mem_of_getElem? (i := 958) (by decide +kernel), List.mem_of_getElem? (i := 1186) (by decide +kernel), List.mem_of_getElem? (i := 1187) (by decide +kernel)⟩
theorem lw_p45 : lw_okq (⟨"PipeVoiceModel", "isPiece", "(I)Z"⟩, 45) := ⟨⟨by decide +kernel, by decide +kernel⟩, List.mem_of_getElem? (i := 958) (by decide +kernel), List.mem_of_getElem? (i := 1198) (by decide +kernel), List.mem_of_getElem? (i := 1199) (by decide +kernel)⟩
theorem lw_p46 : lw_okq (⟨"PipeVoiceModel", "lead", "(II)V"⟩, 45) := ⟨⟨by decide +kernel, by decide +kernel⟩, List.mem_of_getElem? (i := 958) (by decide +kernel), List.mem_of_getElem? (i := 1214) (by decide +kernel), List.mem_of_getElem? (i := 1215) (by decide +kernel)⟩
theorem lw_p47 : lw_okq (⟨"PipeVoiceModel", "wants", "(III)V"⟩, 45) := ⟨⟨by decide +kernel, by decide +kernel⟩, List.mem_of_getElem? (i := 958) (by decide +kernel), List.mem_of_getElem? (i := 1218) (by decide +kernel), List.mem_of_getElem? (i := 1219) (by decide +kernel)⟩
def lw_privs_3 : List (MethodName × Nat) := [(⟨"PipeVoiceModel", "four", "(I)V"⟩, 45), (⟨"PipeVoiceModel", "readText", "()I"⟩, 45), (⟨"PipeVoiceModel", "nextToken", "()V"⟩, 45), (⟨"PipeVoiceModel", "see", "(I)I"⟩, 45), (⟨"PipeVoiceModel", "clause", "()I"⟩, 45), (⟨"PipeVoiceModel", "isWord", "(J)Z"⟩, 45), (⟨"PipeVoiceModel", "once", "(II)I"⟩, 45), (⟨"PipeVoiceModel", "rests", "()I"⟩, 45), (⟨"PipeVoiceModel", "take", "(III)I"⟩, 45), (⟨"PipeVoiceModel", "gesture", "()I"⟩, 45), (⟨"PipeVoiceModel", "need", "(J)I"⟩, 45), (⟨"PipeVoiceModel", "wordClause", "()I"⟩, 45), (⟨"PipeVoiceModel", "hasGesture", "(I)Z"⟩, 45), (⟨"PipeVoiceModel", "isPiece", "(I)Z"⟩, 45), (⟨"PipeVoiceModel", "lead", "(II)V"⟩, 45), (⟨"PipeVoiceModel", "wants", "(III)V"⟩, 45)]
theorem lw_r3 : ∀ q ∈ lw_privs_3, lw_okq q := List.forall_mem_cons.mpr ⟨lw_p32, List.forall_mem_cons.mpr ⟨lw_p33, List.forall_mem_cons.mpr ⟨lw_p34, List.forall_mem_cons.mpr ⟨lw_p35, List.forall_mem_cons.mpr ⟨lw_p36, List.forall_mem_cons.mpr ⟨lw_p37, List.forall_mem_cons.mpr ⟨lw_p38, List.forall_mem_cons.mpr ⟨lw_p39, List.forall_mem_cons.mpr ⟨lw_p40, List.forall_mem_cons.mpr ⟨lw_p41, List.forall_mem_cons.mpr ⟨lw_p42, List.forall_mem_cons.mpr ⟨lw_p43, List.forall_mem_cons.mpr ⟨lw_p44, List.forall_mem_cons.mpr ⟨lw_p45, List.forall_mem_cons.mpr ⟨lw_p46, List.forall_mem_cons.mpr ⟨lw_p47, fun _ h => absurd h List.not_mem_nil⟩⟩⟩⟩⟩⟩⟩⟩⟩⟩⟩⟩⟩⟩⟩⟩
theorem lw_p48 : lw_okq (⟨"PipeVoiceModel", "step", "()V"⟩, 45) := ⟨⟨by decide +kernel, by decide +kernel⟩, List.mem_of_getElem? (i := 958) (by decide +kernel), List.mem_of_getElem? (i := 1222) (by decide +kernel), List.mem_of_getElem? (i := 1223) (by decide +kernel)⟩
theorem lw_p49 : lw_okq (⟨"PipeVoiceModel", "foldStep", "(I)V"⟩, 45) := ⟨⟨by decide +kernel, by decide +kernel⟩, List.mem_of_getElem? (i := 958) (by decide +kernel), List.mem_of_getElem? (i := 1226) (by decide +kernel), List.mem_of_getElem? (i := 1227) (by decide +kernel)⟩
theorem lw_p50 : lw_okq (⟨"PipeVoiceModel", "part", "(JJ)J"⟩, 45) := ⟨⟨by decide +kernel, by decide +kernel⟩, List.mem_of_getElem? (i := 958) (by decide +kernel), List.mem_of_getElem? (i := 1230) (by decide +kernel), List.mem_of_getElem? (i := 1231) (by decide +kernel)⟩
theorem lw_p51 : lw_okq (⟨"PipeVoiceModel", "less", "(J)J"⟩, 45) := ⟨⟨by decide +kernel, by decide +kernel⟩, List.mem_of_getElem? (i := 958) (by decide +kernel), List.mem_of_getElem? (i := 1235) (by decide +kernel), List.mem_of_getElem? (i := 1236) (by decide +kernel)⟩
theorem lw_p52 : lw_okq (⟨"PipeVoiceModel", "findRing", "(I)V"⟩, 45) := ⟨⟨by decide +kernel, by decide +kernel⟩, List.mem_of_getElem? (i := 958) (by decide +kernel), List.mem_of_getElem? (i := 1271) (by decide +kernel), List.mem_of_getElem? (i := 1272) (by decide +kernel)⟩
theorem lw_p53 : lw_okq (⟨"PipeVoiceModel", "isShape", "(IIIII)Z"⟩, 45) := ⟨⟨by decide +kernel, by decide +kernel⟩, List.mem_of_getElem? (i := 958) (by decide +kernel), List.mem_of_getElem? (i := 1283) (by decide +kernel), List.mem_of_getElem? (i := 1284) (by decide +kernel)⟩
theorem lw_p54 : lw_okq (⟨"PipeVoiceModel", "aboveOf", "(I)I"⟩, 45) := ⟨⟨by decide +kernel, by decide +kernel⟩, List.mem_of_getElem? (i := 958) (by decide +kernel), List.mem_of_getElem? (i := 1287) (by decide +kernel), List.mem_of_getElem? (i := 1288) (by decide +kernel)⟩
theorem lw_p55 : lw_okq (⟨"PipeVoiceModel", "boxOf", "(I)I"⟩, 45) := ⟨⟨by decide +kernel, by decide +kernel⟩, List.mem_of_getElem? (i := 958) (by decide +kernel), List.mem_of_getElem? (i := 1297) (by decide +kernel), List.mem_of_getElem? (i := 1298) (by decide +kernel)⟩
theorem lw_p56 : lw_okq (⟨"PipeVoiceModel", "findShapes", "()V"⟩, 45) := ⟨⟨by decide +kernel, by decide +kernel⟩, List.mem_of_getElem? (i := 958) (by decide +kernel), List.mem_of_getElem? (i := 1309) (by decide +kernel), List.mem_of_getElem? (i := 1310) (by decide +kernel)⟩
theorem lw_p57 : lw_okq (⟨"PipeVoiceModel", "findMakers", "(I)I"⟩, 45) := ⟨⟨by decide +kernel, by decide +kernel⟩, List.mem_of_getElem? (i := 958) (by decide +kernel), List.mem_of_getElem? (i := 1325) (by decide +kernel), List.mem_of_getElem? (i := 1326) (by decide +kernel)⟩
theorem lw_p58 : lw_okq (⟨"PipeVoiceModel", "isMaker", "(II)Z"⟩, 45) := ⟨⟨by decide +kernel, by decide +kernel⟩, List.mem_of_getElem? (i := 958) (by decide +kernel), List.mem_of_getElem? (i := 1329) (by decide +kernel), List.mem_of_getElem? (i := 1330) (by decide +kernel)⟩
theorem lw_p59 : lw_okq (⟨"PipeVoiceModel", "heardOf", "(II)I"⟩, 45) := ⟨⟨by decide +kernel, by decide +kernel⟩, List.mem_of_getElem? (i := 958) (by decide +kernel), List.mem_of_getElem? (i := 1333) (by decide +kernel), List.mem_of_getElem? (i := 1334) (by decide +kernel)⟩
theorem lw_p60 : lw_okq (⟨"PipeVoiceModel", "findRow", "(I)V"⟩, 45) := ⟨⟨by decide +kernel, by decide +kernel⟩, List.mem_of_getElem? (i := 958) (by decide +kernel), List.mem_of_getElem? (i := 1349) (by decide +kernel), List.mem_of_getElem? (i := 1350) (by decide +kernel)⟩
theorem lw_p61 : lw_okq (⟨"PipeVoiceModel", "apart", "(II)I"⟩, 45) := ⟨⟨by decide +kernel, by decide +kernel⟩, List.mem_of_getElem? (i := 958) (by decide +kernel), List.mem_of_getElem? (i := 1353) (by decide +kernel), List.mem_of_getElem? (i := 1354) (by decide +kernel)⟩
def lw_privs_4 : List (MethodName × Nat) := [(⟨"PipeVoiceModel", "step", "()V"⟩, 45), (⟨"PipeVoiceModel", "foldStep", "(I)V"⟩, 45), (⟨"PipeVoiceModel", "part", "(JJ)J"⟩, 45), (⟨"PipeVoiceModel", "less", "(J)J"⟩, 45), (⟨"PipeVoiceModel", "findRing", "(I)V"⟩, 45), (⟨"PipeVoiceModel", "isShape", "(IIIII)Z"⟩, 45), (⟨"PipeVoiceModel", "aboveOf", "(I)I"⟩, 45), (⟨"PipeVoiceModel", "boxOf", "(I)I"⟩, 45), (⟨"PipeVoiceModel", "findShapes", "()V"⟩, 45), (⟨"PipeVoiceModel", "findMakers", "(I)I"⟩, 45), (⟨"PipeVoiceModel", "isMaker", "(II)Z"⟩, 45), (⟨"PipeVoiceModel", "heardOf", "(II)I"⟩, 45), (⟨"PipeVoiceModel", "findRow", "(I)V"⟩, 45), (⟨"PipeVoiceModel", "apart", "(II)I"⟩, 45)]
theorem lw_r4 : ∀ q ∈ lw_privs_4, lw_okq q := List.forall_mem_cons.mpr ⟨lw_p48, List.forall_mem_cons.mpr ⟨lw_p49, List.forall_mem_cons.mpr ⟨lw_p50, List.forall_mem_cons.mpr ⟨lw_p51, List.forall_mem_cons.mpr ⟨lw_p52, List.forall_mem_cons.mpr ⟨lw_p53, List.forall_mem_cons.mpr ⟨lw_p54, List.forall_mem_cons.mpr ⟨lw_p55, List.forall_mem_cons.mpr ⟨lw_p56, List.forall_mem_cons.mpr ⟨lw_p57, List.forall_mem_cons.mpr ⟨lw_p58, List.forall_mem_cons.mpr ⟨lw_p59, List.forall_mem_cons.mpr ⟨lw_p60, List.forall_mem_cons.mpr ⟨lw_p61, fun _ h => absurd h List.not_mem_nil⟩⟩⟩⟩⟩⟩⟩⟩⟩⟩⟩⟩⟩⟩
def lw_privs : List (MethodName × Nat) := lw_privs_1 ++ (lw_privs_2 ++ (lw_privs_3 ++ (lw_privs_4)))
def lw_tbl : List Cond := k2_sels lw_privs ++ tables_1
theorem lw_privs_ok : ∀ q ∈ lw_privs, lw_okq q := by
  show ∀ q ∈ lw_privs_1 ++ (lw_privs_2 ++ (lw_privs_3 ++ (lw_privs_4))), lw_okq q
  exact List.forall_mem_append.mpr ⟨lw_r1, List.forall_mem_append.mpr ⟨lw_r2, List.forall_mem_append.mpr ⟨lw_r3, lw_r4⟩⟩⟩

-- the good words, and lists of words that every method here takes
def gw_tbl : List Cond := lw_tbl.filter goodWord
theorem gw_of {w : Cond} (h : w ∈ lw_tbl) (g : goodWord w = true) : w ∈ gw_tbl := List.mem_filter.mpr ⟨h, g⟩
theorem gw_tb {w : Cond} (h : w ∈ tables_1) (g : goodWord w = true) : w ∈ gw_tbl := gw_of (List.mem_append_right _ h) g
theorem gw_good {w : Cond} (h : w ∈ gw_tbl) : (w.onTables && w.keeps) = true ∨ ∃ ty, w = .arrayClass ty := good_of_word (List.mem_filter.mp h).2
theorem gw_in {ws : List Cond} (h : ∀ w ∈ ws, w ∈ gw_tbl) : GoodIn gw_tbl ws := fun w hw => ⟨h w hw, gw_good (h w hw)⟩
theorem gw_cons {w : Cond} (h : w ∈ gw_tbl) : GoodIn gw_tbl (w :: gw_tbl) := gw_in (fun v hv => (List.mem_cons.mp hv).elim (fun e => e ▸ h) id)

theorem gw_list {ws : List Cond} {is : List Nat} (h : ws.map some = is.map (fun i => tables_1[i]?)) (g : ws.all goodWord = true) : ∀ w ∈ ws, w ∈ gw_tbl := by
  intro w hw
  have h1 : some w ∈ ws.map some := List.mem_map_of_mem hw
  rw [h] at h1
  obtain ⟨i, -, hi⟩ := List.mem_map.mp h1
  exact gw_tb (List.mem_of_getElem? hi) (List.all_eq_true.mp g w hw)
def R_PV : String := "PipeVoice"
def T_PV : u_T := fun k => match k with
  | 0 => ("PipeVoice", "pieces", "I", true)
  | 1 => ("PipeVoice", "tape", "LPipeVoice$Tape;", true)
  | 2 => ("PipeVoice", "reader", "LPipeVoice$Reader;", true)
  | 3 => ("PipeVoice", "laws", "[LPipeVoice$Law;", true)
  | 4 => ("PipeVoice", "now", "LPipeVoice$Moment;", true)
  | 5 => ("PipeVoice", "kept", "LPipeVoice$Moment;", true)
  | 6 => ("PipeVoice", "leads", "[I", true)
  | 7 => ("PipeVoice", "sounds", "[J", true)
  | 8 => ("PipeVoice", "heard", "LPipeVoice$Heard;", true)
  | 9 => ("PipeVoice", "lead", "LPipeVoice$Lead;", true)
  | 10 => ("PipeVoice", "pipes", "LPipeVoice$Pipes;", true)
  | 11 => ("PipeVoice", "ring", "LPipeVoice$Rhythm;", true)
  | 12 => ("PipeVoice", "shapes", "LPipeVoice$Shapes;", true)
  | _ => ("PipeVoice", "asked", "[I", true)
def ty_PV : Nat → FieldType := fun k => match k with
  | 0 => .int
  | 1 => (.object "PipeVoice$Tape")
  | 2 => (.object "PipeVoice$Reader")
  | 3 => (.array (.object "PipeVoice$Law"))
  | 4 => (.object "PipeVoice$Moment")
  | 5 => (.object "PipeVoice$Moment")
  | 6 => (.array .int)
  | 7 => (.array .long)
  | 8 => (.object "PipeVoice$Heard")
  | 9 => (.object "PipeVoice$Lead")
  | 10 => (.object "PipeVoice$Pipes")
  | 11 => (.object "PipeVoice$Rhythm")
  | 12 => (.object "PipeVoice$Shapes")
  | _ => (.array .int)
theorem nm_PV : ∀ a, a < 14 → ∀ b, b < 14 → a ≠ b → (T_PV a).2.1 ≠ (T_PV b).2.1 := by decide +kernel
theorem ty_PV_ok : ∀ k, k < 14 → parseFieldDescriptor (T_PV k).2.2.1 = some (ty_PV k) := by decide +kernel
theorem il_PV : (u_ws R_PV T_PV 14).map some = [452, 454, 456, 458, 460, 462, 464, 466, 468, 470, 472, 474, 476, 478].map (fun i => tables_1[i]?) := by decide +kernel
theorem i_PV : ∀ w ∈ u_ws R_PV T_PV 14, w ∈ gw_tbl := gw_list il_PV (by decide +kernel)
def R_Fo : String := "PipeVoice$Folds"
def T_Fo : u_T := fun k => match k with
  | 0 => ("PipeVoice$Folds", "gap", "I", false)
  | 1 => ("PipeVoice$Folds", "pace", "I", false)
  | 2 => ("PipeVoice$Folds", "breath", "I", false)
  | 3 => ("PipeVoice$Folds", "stiff", "I", false)
  | 4 => ("PipeVoice$Folds", "weight", "I", false)
  | 5 => ("PipeVoice$Folds", "strain", "I", false)
  | _ => ("PipeVoice$Folds", "met", "I", false)
def ty_Fo : Nat → FieldType := fun k => match k with
  | 0 => .int
  | 1 => .int
  | 2 => .int
  | 3 => .int
  | 4 => .int
  | 5 => .int
  | _ => .int
theorem nm_Fo : ∀ a, a < 7 → ∀ b, b < 7 → a ≠ b → (T_Fo a).2.1 ≠ (T_Fo b).2.1 := by decide +kernel
theorem ty_Fo_ok : ∀ k, k < 7 → parseFieldDescriptor (T_Fo k).2.2.1 = some (ty_Fo k) := by decide +kernel
theorem il_Fo : (u_ws R_Fo T_Fo 7).map some = [217, 219, 221, 223, 225, 227, 229].map (fun i => tables_1[i]?) := by decide +kernel
theorem i_Fo : ∀ w ∈ u_ws R_Fo T_Fo 7, w ∈ gw_tbl := gw_list il_Fo (by decide +kernel)
def R_He : String := "PipeVoice$Heard"
def T_He : u_T := fun k => match k with
  | 0 => ("PipeVoice$Heard", "which", "[I", true)
  | 1 => ("PipeVoice$Heard", "from", "[I", true)
  | _ => ("PipeVoice$Heard", "to", "[I", true)
def ty_He : Nat → FieldType := fun k => match k with
  | 0 => (.array .int)
  | 1 => (.array .int)
  | _ => (.array .int)
theorem nm_He : ∀ a, a < 3 → ∀ b, b < 3 → a ≠ b → (T_He a).2.1 ≠ (T_He b).2.1 := by decide +kernel
theorem ty_He_ok : ∀ k, k < 3 → parseFieldDescriptor (T_He k).2.2.1 = some (ty_He k) := by decide +kernel
theorem il_He : (u_ws R_He T_He 3).map some = [308, 310, 312].map (fun i => tables_1[i]?) := by decide +kernel
theorem i_He : ∀ w ∈ u_ws R_He T_He 3, w ∈ gw_tbl := gw_list il_He (by decide +kernel)
def R_La : String := "PipeVoice$Law"
def T_La : u_T := fun k => match k with
  | 0 => ("PipeVoice$Law", "rest", "[I", true)
  | 1 => ("PipeVoice$Law", "loss", "I", false)
  | 2 => ("PipeVoice$Law", "lips", "I", false)
  | 3 => ("PipeVoice$Law", "back", "I", false)
  | 4 => ("PipeVoice$Law", "clauses", "I", false)
  | 5 => ("PipeVoice$Law", "gestures", "I", false)
  | 6 => ("PipeVoice$Law", "letters", "[I", true)
  | 7 => ("PipeVoice$Law", "piece", "[I", true)
  | 8 => ("PipeVoice$Law", "width", "[I", true)
  | 9 => ("PipeVoice$Law", "speed", "[I", true)
  | 10 => ("PipeVoice$Law", "hold", "[I", true)
  | 11 => ("PipeVoice$Law", "strength", "[I", true)
  | 12 => ("PipeVoice$Law", "itemsOf", "[I", true)
  | 13 => ("PipeVoice$Law", "itemLetter", "[I", true)
  | _ => ("PipeVoice$Law", "itemAt", "[I", true)
def ty_La : Nat → FieldType := fun k => match k with
  | 0 => (.array .int)
  | 1 => .int
  | 2 => .int
  | 3 => .int
  | 4 => .int
  | 5 => .int
  | 6 => (.array .int)
  | 7 => (.array .int)
  | 8 => (.array .int)
  | 9 => (.array .int)
  | 10 => (.array .int)
  | 11 => (.array .int)
  | 12 => (.array .int)
  | 13 => (.array .int)
  | _ => (.array .int)
theorem nm_La : ∀ a, a < 15 → ∀ b, b < 15 → a ≠ b → (T_La a).2.1 ≠ (T_La b).2.1 := by decide +kernel
theorem ty_La_ok : ∀ k, k < 15 → parseFieldDescriptor (T_La k).2.2.1 = some (ty_La k) := by decide +kernel
theorem il_La : (u_ws R_La T_La 15).map some = [114, 116, 118, 120, 122, 124, 126, 128, 130, 132, 134, 136, 138, 140, 142].map (fun i => tables_1[i]?) := by decide +kernel
theorem i_La : ∀ w ∈ u_ws R_La T_La 15, w ∈ gw_tbl := gw_list il_La (by decide +kernel)
def R_Le : String := "PipeVoice$Lead"
def T_Le : u_T := fun k => match k with
  | 0 => ("PipeVoice$Lead", "aim", "I", false)
  | 1 => ("PipeVoice$Lead", "speed", "I", false)
  | 2 => ("PipeVoice$Lead", "said", "I", false)
  | 3 => ("PipeVoice$Lead", "item", "I", false)
  | 4 => ("PipeVoice$Lead", "clause", "I", false)
  | 5 => ("PipeVoice$Lead", "strongest", "I", false)
  | 6 => ("PipeVoice$Lead", "sum", "I", false)
  | _ => ("PipeVoice$Lead", "count", "I", false)
def ty_Le : Nat → FieldType := fun k => match k with
  | 0 => .int
  | 1 => .int
  | 2 => .int
  | 3 => .int
  | 4 => .int
  | 5 => .int
  | 6 => .int
  | _ => .int
theorem nm_Le : ∀ a, a < 8 → ∀ b, b < 8 → a ≠ b → (T_Le a).2.1 ≠ (T_Le b).2.1 := by decide +kernel
theorem ty_Le_ok : ∀ k, k < 8 → parseFieldDescriptor (T_Le k).2.2.1 = some (ty_Le k) := by decide +kernel
theorem il_Le : (u_ws R_Le T_Le 8).map some = [331, 333, 335, 337, 339, 341, 343, 345].map (fun i => tables_1[i]?) := by decide +kernel
theorem i_Le : ∀ w ∈ u_ws R_Le T_Le 8, w ∈ gw_tbl := gw_list il_Le (by decide +kernel)
def R_Mo : String := "PipeVoice$Moment"
def T_Mo : u_T := fun k => match k with
  | 0 => ("PipeVoice$Moment", "law", "LPipeVoice$Law;", false)
  | 1 => ("PipeVoice$Moment", "clock", "I", false)
  | 2 => ("PipeVoice$Moment", "said", "I", false)
  | 3 => ("PipeVoice$Moment", "saidWord", "[I", true)
  | 4 => ("PipeVoice$Moment", "saidTick", "[I", true)
  | 5 => ("PipeVoice$Moment", "widths", "[I", true)
  | 6 => ("PipeVoice$Moment", "toLips", "[J", true)
  | 7 => ("PipeVoice$Moment", "toFolds", "[J", true)
  | 8 => ("PipeVoice$Moment", "rests", "[J", true)
  | 9 => ("PipeVoice$Moment", "folds", "LPipeVoice$Folds;", true)
  | 10 => ("PipeVoice$Moment", "grid", "[I", true)
  | 11 => ("PipeVoice$Moment", "time", "I", false)
  | _ => ("PipeVoice$Moment", "look", "I", false)
def ty_Mo : Nat → FieldType := fun k => match k with
  | 0 => (.object "PipeVoice$Law")
  | 1 => .int
  | 2 => .int
  | 3 => (.array .int)
  | 4 => (.array .int)
  | 5 => (.array .int)
  | 6 => (.array .long)
  | 7 => (.array .long)
  | 8 => (.array .long)
  | 9 => (.object "PipeVoice$Folds")
  | 10 => (.array .int)
  | 11 => .int
  | _ => .int
theorem nm_Mo : ∀ a, a < 13 → ∀ b, b < 13 → a ≠ b → (T_Mo a).2.1 ≠ (T_Mo b).2.1 := by decide +kernel
theorem ty_Mo_ok : ∀ k, k < 13 → parseFieldDescriptor (T_Mo k).2.2.1 = some (ty_Mo k) := by decide +kernel
theorem il_Mo : (u_ws R_Mo T_Mo 13).map some = [272, 274, 276, 278, 280, 282, 284, 286, 288, 290, 292, 294, 296].map (fun i => tables_1[i]?) := by decide +kernel
theorem i_Mo : ∀ w ∈ u_ws R_Mo T_Mo 13, w ∈ gw_tbl := gw_list il_Mo (by decide +kernel)
def R_Pi : String := "PipeVoice$Pipes"
def T_Pi : u_T := fun k => match k with
  | 0 => ("PipeVoice$Pipes", "pieces", "I", true)
  | 1 => ("PipeVoice$Pipes", "nextToLips", "[J", true)
  | _ => ("PipeVoice$Pipes", "nextToFolds", "[J", true)
def ty_Pi : Nat → FieldType := fun k => match k with
  | 0 => .int
  | 1 => (.array .long)
  | _ => (.array .long)
theorem nm_Pi : ∀ a, a < 3 → ∀ b, b < 3 → a ≠ b → (T_Pi a).2.1 ≠ (T_Pi b).2.1 := by decide +kernel
theorem ty_Pi_ok : ∀ k, k < 3 → parseFieldDescriptor (T_Pi k).2.2.1 = some (ty_Pi k) := by decide +kernel
theorem il_Pi : (u_ws R_Pi T_Pi 3).map some = [357, 359, 361].map (fun i => tables_1[i]?) := by decide +kernel
theorem i_Pi : ∀ w ∈ u_ws R_Pi T_Pi 3, w ∈ gw_tbl := gw_list il_Pi (by decide +kernel)
def R_Re : String := "PipeVoice$Reader"
def T_Re : u_T := fun k => match k with
  | 0 => ("PipeVoice$Reader", "source", "LPipeVoice$Tape;", true)
  | 1 => ("PipeVoice$Reader", "pieces", "I", true)
  | 2 => ("PipeVoice$Reader", "law", "LPipeVoice$Law;", false)
  | 3 => ("PipeVoice$Reader", "start", "I", false)
  | 4 => ("PipeVoice$Reader", "stop", "I", false)
  | 5 => ("PipeVoice$Reader", "kind", "I", false)
  | 6 => ("PipeVoice$Reader", "number", "I", false)
  | 7 => ("PipeVoice$Reader", "onceTold", "I", false)
  | 8 => ("PipeVoice$Reader", "hasRead", "Z", false)
  | 9 => ("PipeVoice$Reader", "flaw", "I", false)
  | _ => ("PipeVoice$Reader", "place", "I", false)
def ty_Re : Nat → FieldType := fun k => match k with
  | 0 => (.object "PipeVoice$Tape")
  | 1 => .int
  | 2 => (.object "PipeVoice$Law")
  | 3 => .int
  | 4 => .int
  | 5 => .int
  | 6 => .int
  | 7 => .int
  | 8 => .boolean
  | 9 => .int
  | _ => .int
theorem nm_Re : ∀ a, a < 11 → ∀ b, b < 11 → a ≠ b → (T_Re a).2.1 ≠ (T_Re b).2.1 := by decide +kernel
theorem ty_Re_ok : ∀ k, k < 11 → parseFieldDescriptor (T_Re k).2.2.1 = some (ty_Re k) := by decide +kernel
theorem il_Re : (u_ws R_Re T_Re 11).map some = [166, 168, 170, 172, 174, 176, 178, 180, 182, 184, 186].map (fun i => tables_1[i]?) := by decide +kernel
theorem i_Re : ∀ w ∈ u_ws R_Re T_Re 11, w ∈ gw_tbl := gw_list il_Re (by decide +kernel)
def R_Rh : String := "PipeVoice$Rhythm"
def T_Rh : u_T := fun k => match k with
  | 0 => ("PipeVoice$Rhythm", "folds", "LPipeVoice$Folds;", true)
  | 1 => ("PipeVoice$Rhythm", "cameAt", "[I", true)
  | 2 => ("PipeVoice$Rhythm", "leading", "I", false)
  | 3 => ("PipeVoice$Rhythm", "length", "I", false)
  | 4 => ("PipeVoice$Rhythm", "meets", "I", false)
  | _ => ("PipeVoice$Rhythm", "strain", "I", false)
def ty_Rh : Nat → FieldType := fun k => match k with
  | 0 => (.object "PipeVoice$Folds")
  | 1 => (.array .int)
  | 2 => .int
  | 3 => .int
  | 4 => .int
  | _ => .int
theorem nm_Rh : ∀ a, a < 6 → ∀ b, b < 6 → a ≠ b → (T_Rh a).2.1 ≠ (T_Rh b).2.1 := by decide +kernel
theorem ty_Rh_ok : ∀ k, k < 6 → parseFieldDescriptor (T_Rh k).2.2.1 = some (ty_Rh k) := by decide +kernel
theorem il_Rh : (u_ws R_Rh T_Rh 6).map some = [382, 384, 386, 388, 390, 392].map (fun i => tables_1[i]?) := by decide +kernel
theorem i_Rh : ∀ w ∈ u_ws R_Rh T_Rh 6, w ∈ gw_tbl := gw_list il_Rh (by decide +kernel)
def R_Sh : String := "PipeVoice$Shapes"
def T_Sh : u_T := fun k => match k with
  | 0 => ("PipeVoice$Shapes", "pieces", "I", true)
  | 1 => ("PipeVoice$Shapes", "sets", "[I", true)
  | 2 => ("PipeVoice$Shapes", "choices", "[I", true)
  | 3 => ("PipeVoice$Shapes", "sizes", "[I", true)
  | 4 => ("PipeVoice$Shapes", "strides", "[I", true)
  | 5 => ("PipeVoice$Shapes", "widths", "[I", true)
  | 6 => ("PipeVoice$Shapes", "low", "[I", true)
  | 7 => ("PipeVoice$Shapes", "high", "[I", true)
  | 8 => ("PipeVoice$Shapes", "total", "I", false)
  | 9 => ("PipeVoice$Shapes", "boxes", "[B", false)
  | 10 => ("PipeVoice$Shapes", "boxed", "I", false)
  | _ => ("PipeVoice$Shapes", "costs", "[I", false)
def ty_Sh : Nat → FieldType := fun k => match k with
  | 0 => .int
  | 1 => (.array .int)
  | 2 => (.array .int)
  | 3 => (.array .int)
  | 4 => (.array .int)
  | 5 => (.array .int)
  | 6 => (.array .int)
  | 7 => (.array .int)
  | 8 => .int
  | 9 => (.array .byte)
  | 10 => .int
  | _ => (.array .int)
theorem nm_Sh : ∀ a, a < 12 → ∀ b, b < 12 → a ≠ b → (T_Sh a).2.1 ≠ (T_Sh b).2.1 := by decide +kernel
theorem ty_Sh_ok : ∀ k, k < 12 → parseFieldDescriptor (T_Sh k).2.2.1 = some (ty_Sh k) := by decide +kernel
theorem il_Sh : (u_ws R_Sh T_Sh 12).map some = [413, 415, 417, 419, 421, 423, 425, 427, 429, 431, 433, 435].map (fun i => tables_1[i]?) := by decide +kernel
theorem i_Sh : ∀ w ∈ u_ws R_Sh T_Sh 12, w ∈ gw_tbl := gw_list il_Sh (by decide +kernel)
def R_Ta : String := "PipeVoice$Tape"
def T_Ta : u_T := fun k => match k with
  | 0 => ("PipeVoice$Tape", "bytes", "[B", true)
  | _ => ("PipeVoice$Tape", "size", "I", false)
def ty_Ta : Nat → FieldType := fun k => match k with
  | 0 => (.array .byte)
  | _ => .int
theorem nm_Ta : ∀ a, a < 2 → ∀ b, b < 2 → a ≠ b → (T_Ta a).2.1 ≠ (T_Ta b).2.1 := by decide +kernel
theorem ty_Ta_ok : ∀ k, k < 2 → parseFieldDescriptor (T_Ta k).2.2.1 = some (ty_Ta k) := by decide +kernel
theorem il_Ta : (u_ws R_Ta T_Ta 2).map some = [46, 48].map (fun i => tables_1[i]?) := by decide +kernel
theorem i_Ta : ∀ w ∈ u_ws R_Ta T_Ta 2, w ∈ gw_tbl := gw_list il_Ta (by decide +kernel)
def R_Md : String := "PipeVoiceModel"
def T_Md : u_T := fun k => match k with
  | 0 => ("PipeVoiceModel", "pieces", "I", true)
  | 1 => ("PipeVoiceModel", "a", "[I", true)
  | 2 => ("PipeVoiceModel", "image", "[I", true)
  | 3 => ("PipeVoiceModel", "w", "[J", true)
  | 4 => ("PipeVoiceModel", "imageWaves", "[J", true)
  | 5 => ("PipeVoiceModel", "fresh", "[I", true)
  | 6 => ("PipeVoiceModel", "tape", "[I", true)
  | 7 => ("PipeVoiceModel", "taped", "I", false)
  | 8 => ("PipeVoiceModel", "fault", "I", false)
  | 9 => ("PipeVoiceModel", "faultPlace", "I", false)
  | 10 => ("PipeVoiceModel", "at", "I", false)
  | 11 => ("PipeVoiceModel", "place", "I", false)
  | 12 => ("PipeVoiceModel", "token", "I", false)
  | 13 => ("PipeVoiceModel", "number", "I", false)
  | 14 => ("PipeVoiceModel", "letter", "I", false)
  | 15 => ("PipeVoiceModel", "word", "J", false)
  | 16 => ("PipeVoiceModel", "came", "I", false)
  | 17 => ("PipeVoiceModel", "strongest", "I", false)
  | 18 => ("PipeVoiceModel", "sum", "I", false)
  | 19 => ("PipeVoiceModel", "many", "I", false)
  | 20 => ("PipeVoiceModel", "speed", "I", false)
  | 21 => ("PipeVoiceModel", "bySaid", "I", false)
  | 22 => ("PipeVoiceModel", "byItem", "I", false)
  | 23 => ("PipeVoiceModel", "byGesture", "I", false)
  | 24 => ("PipeVoiceModel", "gap", "I", false)
  | 25 => ("PipeVoiceModel", "pace", "I", false)
  | 26 => ("PipeVoiceModel", "hard", "I", false)
  | 27 => ("PipeVoiceModel", "isMet", "Z", false)
  | 28 => ("PipeVoiceModel", "then", "[J", true)
  | 29 => ("PipeVoiceModel", "rest", "J", false)
  | 30 => ("PipeVoiceModel", "stepNow", "I", false)
  | 31 => ("PipeVoiceModel", "when", "[I", true)
  | 32 => ("PipeVoiceModel", "hardBy", "[I", true)
  | 33 => ("PipeVoiceModel", "metBy", "[I", true)
  | 34 => ("PipeVoiceModel", "ringLead", "I", false)
  | 35 => ("PipeVoiceModel", "ring", "I", false)
  | 36 => ("PipeVoiceModel", "ringMet", "I", false)
  | 37 => ("PipeVoiceModel", "ringStrain", "I", false)
  | 38 => ("PipeVoiceModel", "shape", "[I", true)
  | 39 => ("PipeVoiceModel", "shapes", "[I", true)
  | 40 => ("PipeVoiceModel", "shapeCount", "I", false)
  | 41 => ("PipeVoiceModel", "chosen", "[I", true)
  | 42 => ("PipeVoiceModel", "is", "[Z", true)
  | 43 => ("PipeVoiceModel", "onward", "[I", true)
  | _ => ("PipeVoiceModel", "nextOne", "[I", true)
def ty_Md : Nat → FieldType := fun k => match k with
  | 0 => .int
  | 1 => (.array .int)
  | 2 => (.array .int)
  | 3 => (.array .long)
  | 4 => (.array .long)
  | 5 => (.array .int)
  | 6 => (.array .int)
  | 7 => .int
  | 8 => .int
  | 9 => .int
  | 10 => .int
  | 11 => .int
  | 12 => .int
  | 13 => .int
  | 14 => .int
  | 15 => .long
  | 16 => .int
  | 17 => .int
  | 18 => .int
  | 19 => .int
  | 20 => .int
  | 21 => .int
  | 22 => .int
  | 23 => .int
  | 24 => .int
  | 25 => .int
  | 26 => .int
  | 27 => .boolean
  | 28 => (.array .long)
  | 29 => .long
  | 30 => .int
  | 31 => (.array .int)
  | 32 => (.array .int)
  | 33 => (.array .int)
  | 34 => .int
  | 35 => .int
  | 36 => .int
  | 37 => .int
  | 38 => (.array .int)
  | 39 => (.array .int)
  | 40 => .int
  | 41 => (.array .int)
  | 42 => (.array .boolean)
  | 43 => (.array .int)
  | _ => (.array .int)
theorem nm_Md : ∀ a, a < 45 → ∀ b, b < 45 → a ≠ b → (T_Md a).2.1 ≠ (T_Md b).2.1 := by decide +kernel
theorem ty_Md_ok : ∀ k, k < 45 → parseFieldDescriptor (T_Md k).2.2.1 = some (ty_Md k) := by decide +kernel
theorem il_Md : (u_ws R_Md T_Md 45).map some = [1016, 1018, 1020, 1022, 1024, 1026, 1028, 1030, 1032, 1034, 1036, 1038, 1040, 1042, 1044, 1046, 1048, 1050, 1052, 1054, 1056, 1058, 1060, 1062, 1064, 1066, 1068, 1070, 1072, 1074, 1076, 1078, 1080, 1082, 1084, 1086, 1088, 1090, 1092, 1094, 1096, 1098, 1100, 1102, 1104].map (fun i => tables_1[i]?) := by decide +kernel
theorem i_Md : ∀ w ∈ u_ws R_Md T_Md 45, w ∈ gw_tbl := gw_list il_Md (by decide +kernel)
def R_To : String := "PipeVoice$Tones"
def R_Mt : String := "java/lang/Math"
def R_Ig : String := "java/lang/Integer"
abbrev CL : List vw_C := [(R_PV, T_PV, 14), (R_Fo, T_Fo, 7), (R_He, T_He, 3), (R_La, T_La, 15), (R_Le, T_Le, 8), (R_Mo, T_Mo, 13), (R_Pi, T_Pi, 3), (R_Re, T_Re, 11), (R_Rh, T_Rh, 6), (R_Sh, T_Sh, 12), (R_Ta, T_Ta, 2), (R_Md, T_Md, 45)]
-- an object's state: its whole fields, its long fields, its int-like arrays, its long arrays, by the field's number
abbrev Ob : Type := (Nat → Int32) × (Nat → Int64) × (Nat → Nat → Int32) × (Nat → Nat → Int64)
def up {α : Type} (f : Nat → α) (k : Nat) (v : α) : Nat → α := fun j => bif Nat.beq j k then v else f j
def gI (o : Ob) (k : Nat) : Int32 := o.1 k
def gL (o : Ob) (k : Nat) : Int64 := o.2.1 k
def gA (o : Ob) (k : Nat) : Nat → Int32 := o.2.2.1 k
def gB (o : Ob) (k : Nat) : Nat → Int64 := o.2.2.2 k
def sI (o : Ob) (k : Nat) (v : Int32) : Ob := (up o.1 k v, o.2)
def sL (o : Ob) (k : Nat) (v : Int64) : Ob := (o.1, up o.2.1 k v, o.2.2)
def sA (o : Ob) (k : Nat) (v : Nat → Int32) : Ob := (o.1, o.2.1, up o.2.2.1 k v, o.2.2.2)
def sB (o : Ob) (k : Nat) (v : Nat → Int64) : Ob := (o.1, o.2.1, o.2.2.1, up o.2.2.2 k v)
abbrev Ks : Type := (Nat → Nat) × (Nat → Nat)
def sLen : List Nat := [4, 4, 4, 4, 7, 2, 2, 4, 6, 4, 2]
def sByt : List (List Int32) := [[114, 101, 115, 116], [108, 111, 115, 115], [108, 105, 112, 115], [98, 97, 99, 107], [103, 101, 115, 116, 117, 114, 101], [116, 111], [98, 121], [104, 111, 108, 100], [115, 116, 114, 111, 110, 103], [119, 111, 114, 100], [97, 116]]
def sIdx : List Nat := [50, 59, 67, 71, 75, 129, 138, 143, 147, 80, 162]
def sTxt : List String := ["rest", "loss", "lips", "back", "gesture", "to", "by", "hold", "strong", "word", "at"]
def slen (i : Nat) : Nat := sLen.getD i 0
def sch (i k : Nat) : Int32 := (sByt.getD i []).getD k 0
/-- the string constants, and the two statics that their members read -/
def SX (K : Ks) (A : Nat → Prop) (U : State) (H : Heap) : Prop := vk_S 11 sLen sByt K.1 K.2 A U H ∧ va_Z "java/lang/String" "COMPACT_STRINGS" "Z" (.int 1) A U H ∧ va_Zq "jdk/internal/util/Preconditions" "SIOOBE_FORMATTER" "Ljava/util/function/BiFunction;" A U H
theorem SX.moved {K : Ks} {A : Nat → Prop} {u U : State} {H : Heap} (hvm : u.vm.Alike U.vm) (h : SX K A u H) : SX K A U H := ⟨h.1.moved hvm, h.2.1.moved hvm, h.2.2.moved hvm⟩
theorem SX.kept {K : Ks} {A : Nat → Prop} {U : State} {H H1 : Heap} (h : SX K A U H) (hq : ∀ a : Nat, a < H.size → ¬ A a → H1[a]? = H[a]?) : SX K A U H1 := ⟨h.1.kept hq, h.2.1.kept hq, h.2.2.kept hq⟩
theorem SX.narrow {K : Ks} {A B : Nat → Prop} {U : State} {H : Heap} (h : SX K A U H) (hAB : ∀ q, B q → A q) : SX K B U H := ⟨h.1.narrow hAB, h.2.1.narrow hAB, h.2.2.narrow hAB⟩
def VX (K : Ks) (U : State) : Prop := ∀ i : Nat, i < 11 → vk_R "PipeVoice$Reader" (sIdx.getD i 0) (sTxt.getD i "") (K.1 i) U
abbrev Gl : Type := va_G × (Nat → ClassId) × Ks
def nxL : List Cond := [(Jvm.Cond.methodLinkNest "PipeVoice" (24 : Nat) ({ cls := "PipeVoice$Tape", name := "<init>", desc := "()V" } : Jvm.MethodName) "PipeVoice"), (Jvm.Cond.methodLinkNest "PipeVoice$Moment" (33 : Nat) ({ cls := "PipeVoice$Folds", name := "<init>", desc := "()V" } : Jvm.MethodName) "PipeVoice"), (Jvm.Cond.methodLinkNest "PipeVoice" (67 : Nat) ({ cls := "PipeVoice$Heard", name := "<init>", desc := "()V" } : Jvm.MethodName) "PipeVoice"), (Jvm.Cond.methodLinkNest "PipeVoice" (74 : Nat) ({ cls := "PipeVoice$Lead", name := "<init>", desc := "()V" } : Jvm.MethodName) "PipeVoice"), (Jvm.Cond.methodLinkNest "PipeVoice" (90 : Nat) ({ cls := "PipeVoice$Rhythm", name := "<init>", desc := "()V" } : Jvm.MethodName) "PipeVoice"), (Jvm.Cond.methodLinkNest "PipeVoice$Rhythm" (11 : Nat) ({ cls := "PipeVoice$Folds", name := "<init>", desc := "()V" } : Jvm.MethodName) "PipeVoice")]
def NX (U : State) : Prop := ∀ w ∈ nxL, va_Nw w U
theorem NX.same {u U : State} (hv : u.vm = U.vm) (h : NX u) : NX U := by
  intro w hw
  have h1 := h w hw
  simp only [nxL, List.mem_cons, List.not_mem_nil, or_false] at hw
  rcases hw with rfl | rfl | rfl | rfl | rfl | rfl <;> exact va_Nw.same rfl hv h1
theorem NX.warm {s U : State} (hW : s.WarmedH U.vm) (h : NX s) : NX U := by
  intro w hw
  have h1 := h w hw
  simp only [nxL, List.mem_cons, List.not_mem_nil, or_false] at hw
  rcases hw with rfl | rfl | rfl | rfl | rfl | rfl <;> exact va_Nw.warmM hW h1
def EX (G : Gl) (A : Nat → Prop) (U : State) (H : Heap) : Prop := SX G.2.2 A U H ∧ VX G.2.2 U ∧ NX U
def KK (G : Gl) (U : State) : Prop := va_K G.1 CL [(G.2.1 0, .int), (G.2.1 1, .long), (G.2.1 2, .byte), (G.2.1 3, .boolean), (G.2.1 4, .object "PipeVoice$Law")] U
abbrev kI (G : Gl) (q n : Nat) (f : Nat → Int32) : Nat × va_E := (q, .inl (G.2.1 0, n, .inl f))
abbrev kJ (G : Gl) (q n : Nat) (f : Nat → Int64) : Nat × va_E := (q, .inl (G.2.1 1, n, .inr (.inl f)))
abbrev kB (G : Gl) (q n : Nat) (f : Nat → Int32) : Nat × va_E := (q, .inl (G.2.1 2, n, .inl f))
abbrev kZ (G : Gl) (q n : Nat) (f : Nat → Int32) : Nat × va_E := (q, .inl (G.2.1 3, n, .inl f))
abbrev kQ (G : Gl) (q n : Nat) (f : Nat → Option Nat) : Nat × va_E := (q, .inl (G.2.1 4, n, .inr (.inr (.inr (.inr f)))))
def cw_PV (G : Gl) (h : Nat) (q : Nat → Nat) (o : Ob) : va_W := [(h, .inr (0, [.int (gI o 0), .ref (q 1), .ref (q 2), .ref (q 3), .ref (q 4), .ref (q 5), .ref (q 6), .ref (q 7), .ref (q 8), .ref (q 9), .ref (q 10), .ref (q 11), .ref (q 12), .ref (q 13)])), kQ G (q 3) 3 (fun i => some (q (50 + i))), kI G (q 6) 1000 (gA o 6), kJ G (q 7) 2000 (gB o 7), kI G (q 13) 5 (gA o 13)]
def cw_Fo (G : Gl) (h : Nat) (q : Nat → Nat) (o : Ob) : va_W := [(h, .inr (1, [.int (gI o 0), .int (gI o 1), .int (gI o 2), .int (gI o 3), .int (gI o 4), .int (gI o 5), .int (gI o 6)]))]
def cw_He (G : Gl) (h : Nat) (q : Nat → Nat) (o : Ob) : va_W := [(h, .inr (2, [.ref (q 0), .ref (q 1), .ref (q 2)])), kI G (q 0) 100 (gA o 0), kI G (q 1) 100 (gA o 1), kI G (q 2) 100 (gA o 2)]
def cw_La (G : Gl) (h : Nat) (q : Nat → Nat) (o : Ob) : va_W := [(h, .inr (3, [.ref (q 0), .int (gI o 1), .int (gI o 2), .int (gI o 3), .int (gI o 4), .int (gI o 5), .ref (q 6), .ref (q 7), .ref (q 8), .ref (q 9), .ref (q 10), .ref (q 11), .ref (q 12), .ref (q 13), .ref (q 14)])), kI G (q 0) 5 (gA o 0), kI G (q 6) 20 (gA o 6), kI G (q 7) 20 (gA o 7), kI G (q 8) 20 (gA o 8), kI G (q 9) 20 (gA o 9), kI G (q 10) 20 (gA o 10), kI G (q 11) 20 (gA o 11), kI G (q 12) 8 (gA o 12), kI G (q 13) 64 (gA o 13), kI G (q 14) 64 (gA o 14)]
def cw_Le (G : Gl) (h : Nat) (q : Nat → Nat) (o : Ob) : va_W := [(h, .inr (4, [.int (gI o 0), .int (gI o 1), .int (gI o 2), .int (gI o 3), .int (gI o 4), .int (gI o 5), .int (gI o 6), .int (gI o 7)]))]
def cw_Mo (G : Gl) (h : Nat) (q : Nat → Nat) (r : Nat → Nat) (o : Ob) : va_W := [(h, .inr (5, [.ref (r 0), .int (gI o 1), .int (gI o 2), .ref (q 3), .ref (q 4), .ref (q 5), .ref (q 6), .ref (q 7), .ref (q 8), .ref (q 9), .ref (q 10), .int (gI o 11), .int (gI o 12)])), kI G (q 3) 20 (gA o 3), kI G (q 4) 20 (gA o 4), kI G (q 5) 5 (gA o 5), kJ G (q 6) 5 (gB o 6), kJ G (q 7) 5 (gB o 7), kJ G (q 8) 6 (gB o 8), kI G (q 10) 5 (gA o 10)]
def cw_Pi (G : Gl) (h : Nat) (q : Nat → Nat) (o : Ob) : va_W := [(h, .inr (6, [.int (gI o 0), .ref (q 1), .ref (q 2)])), kJ G (q 1) 5 (gB o 1), kJ G (q 2) 5 (gB o 2)]
def cw_Re (G : Gl) (h : Nat) (q : Nat → Nat) (r : Nat → Nat) (o : Ob) : va_W := [(h, .inr (7, [.ref (q 0), .int (gI o 1), .ref (r 2), .int (gI o 3), .int (gI o 4), .int (gI o 5), .int (gI o 6), .int (gI o 7), .int (gI o 8), .int (gI o 9), .int (gI o 10)]))]
def cw_Rh (G : Gl) (h : Nat) (q : Nat → Nat) (o : Ob) : va_W := [(h, .inr (8, [.ref (q 0), .ref (q 1), .int (gI o 2), .int (gI o 3), .int (gI o 4), .int (gI o 5)])), kI G (q 1) 969 (gA o 1)]
def cw_Sh (G : Gl) (h : Nat) (q : Nat → Nat) (r : Nat → Nat) (o : Ob) : va_W := [(h, .inr (9, [.int (gI o 0), .ref (q 1), .ref (q 2), .ref (q 3), .ref (q 4), .ref (q 5), .ref (q 6), .ref (q 7), .int (gI o 8), .ref (r 9), .int (gI o 10), .ref (r 11)])), kI G (q 1) 5 (gA o 1), kI G (q 2) 20 (gA o 2), kI G (q 3) 5 (gA o 3), kI G (q 4) 5 (gA o 4), kI G (q 5) 5 (gA o 5), kI G (q 6) 5 (gA o 6), kI G (q 7) 5 (gA o 7), kB G (r 9) (r 109) (gA o 9), kI G (r 11) (r 111) (gA o 11)]
def cw_Ta (G : Gl) (h : Nat) (q : Nat → Nat) (o : Ob) : va_W := [(h, .inr (10, [.ref (q 0), .int (gI o 1)])), kB G (q 0) 400 (gA o 0)]
def cw_Md (G : Gl) (h : Nat) (q : Nat → Nat) (o : Ob) : va_W := [(h, .inr (11, [.int (gI o 0), .ref (q 1), .ref (q 2), .ref (q 3), .ref (q 4), .ref (q 5), .ref (q 6), .int (gI o 7), .int (gI o 8), .int (gI o 9), .int (gI o 10), .int (gI o 11), .int (gI o 12), .int (gI o 13), .int (gI o 14), .long (gL o 15), .int (gI o 16), .int (gI o 17), .int (gI o 18), .int (gI o 19), .int (gI o 20), .int (gI o 21), .int (gI o 22), .int (gI o 23), .int (gI o 24), .int (gI o 25), .int (gI o 26), .int (gI o 27), .ref (q 28), .long (gL o 29), .int (gI o 30), .ref (q 31), .ref (q 32), .ref (q 33), .int (gI o 34), .int (gI o 35), .int (gI o 36), .int (gI o 37), .ref (q 38), .ref (q 39), .int (gI o 40), .ref (q 41), .ref (q 42), .ref (q 43), .ref (q 44)])), kI G (q 1) 6100 (gA o 1), kI G (q 2) 6100 (gA o 2), kJ G (q 3) 2016 (gB o 3), kJ G (q 4) 2016 (gB o 4), kI G (q 5) 300 (gA o 5), kI G (q 6) 400 (gA o 6), kJ G (q 28) 10 (gB o 28), kI G (q 31) 969 (gA o 31), kI G (q 32) 969 (gA o 32), kI G (q 33) 969 (gA o 33), kI G (q 38) 5 (gA o 38), kI G (q 39) 5120 (gA o 39), kI G (q 41) 5 (gA o 41), kZ G (q 42) 1024 (gA o 42), kI G (q 43) 8192 (gA o 43), kI G (q 44) 8192 (gA o 44)]
def PcW (G : Gl) (av : List Value) (sz : Nat) (ws : va_W) : Array Value → State → Prop := va_Pc av (fun U => U.heap.size = sz ∧ va_P G.1 CL ws U.heap ∧ KK G U ∧ va_D (fun _ => True) ws ∧ EX G (va_A ws sz) U U.heap)
def BW (G : Gl) (A : Nat → Prop) (ws : va_W) (t : State) : Prop := va_P G.1 CL ws t.heap ∧ KK G t ∧ va_D A ws
theorem PcW.blind {G : Gl} {av : List Value} {sz : Nat} {ws : va_W} : FrameBlind (PcW G av sz ws) := by
  intro a U g mk h
  obtain ⟨h1, h2, h3, h4, h5, h6, h7, h8⟩ := h
  exact ⟨h1, h2, h3, va_K.moved (u := U) (U := U.calling g mk a) (Vm.Alike.refl U.vm) h4, h5, SX.moved (u := U) (U := U.calling g mk a) (Vm.Alike.refl U.vm) h6, fun i hi => vk_R.same (u := U) (U := U.calling g mk a) rfl (h7 i hi), NX.same (u := U) (U := U.calling g mk a) rfl h8⟩
/-- what stands in a method's walk -/
def Cx (p : Program) (s : State) (m : MethodId) (args : Array Value) (meth : Method) (c : Code) (own : String) (b : ByteArray) (nL : Nat) (ret : Option FieldType) (G : Gl) (A : Nat → Prop) : Prop :=
  p.tables.exec = Jvm.exec ∧ c.code = b ∧ c.maxLocals = nL ∧ s.vm.findClass own = some m.cls ∧ meth.sig.returnType = ret ∧ (∀ w ∈ gw_tbl, w.before args s = true) ∧ KK G s ∧ (∀ q : Nat, s.heap.size ≤ q → A q) ∧ meth.locks = false ∧ EX G A s s.heap

