section
/-- a private method of a class that the tables say can be made, by its rows of tables_1 -/
def lw_okq (q : MethodName × Nat) : Prop := (q.1.cls ≠ "java/lang/invoke/MethodHandle" ∧ q.1.cls ≠ "java/lang/invoke/VarHandle") ∧ Cond.instantiable q.1.cls q.2 ∈ tables_1 ∧ Cond.privateMethod q.1 ∈ tables_1 ∧ Cond.instanceMethod q.1 ∈ tables_1
theorem lw_p0 : lw_okq (⟨"VoiceShaper", "forgetShapes", "()V"⟩, 12) := ⟨⟨by decide +kernel, by decide +kernel⟩, List.mem_of_getElem? (i := 25) (by decide +kernel), List.mem_of_getElem? (i := 322) (by decide +kernel), List.mem_of_getElem? (i := 323) (by decide +kernel)⟩
theorem lw_p1 : lw_okq (⟨"VoiceShaper", "isReading", "(I)Z"⟩, 12) := ⟨⟨by decide +kernel, by decide +kernel⟩, List.mem_of_getElem? (i := 25) (by decide +kernel), List.mem_of_getElem? (i := 347) (by decide +kernel), List.mem_of_getElem? (i := 348) (by decide +kernel)⟩
theorem lw_p2 : lw_okq (⟨"VoiceShaper$Tokens", "cutOne", "(LVoiceShaper$Tape;I)I"⟩, 3) := ⟨⟨by decide +kernel, by decide +kernel⟩, List.mem_of_getElem? (i := 384) (by decide +kernel), List.mem_of_getElem? (i := 428) (by decide +kernel), List.mem_of_getElem? (i := 429) (by decide +kernel)⟩
theorem lw_p3 : lw_okq (⟨"VoiceShaper$Tokens", "addToken", "(II)V"⟩, 3) := ⟨⟨by decide +kernel, by decide +kernel⟩, List.mem_of_getElem? (i := 384) (by decide +kernel), List.mem_of_getElem? (i := 494) (by decide +kernel), List.mem_of_getElem? (i := 495) (by decide +kernel)⟩
theorem lw_p4 : lw_okq (⟨"VoiceShaper$Grammar", "readLine", "(I)Z"⟩, 5) := ⟨⟨by decide +kernel, by decide +kernel⟩, List.mem_of_getElem? (i := 376) (by decide +kernel), List.mem_of_getElem? (i := 559) (by decide +kernel), List.mem_of_getElem? (i := 560) (by decide +kernel)⟩
theorem lw_p5 : lw_okq (⟨"VoiceShaper$Grammar", "refuse", "(I)Z"⟩, 5) := ⟨⟨by decide +kernel, by decide +kernel⟩, List.mem_of_getElem? (i := 376) (by decide +kernel), List.mem_of_getElem? (i := 563) (by decide +kernel), List.mem_of_getElem? (i := 564) (by decide +kernel)⟩
theorem lw_p6 : lw_okq (⟨"VoiceShaper$Grammar", "goOn", "()V"⟩, 5) := ⟨⟨by decide +kernel, by decide +kernel⟩, List.mem_of_getElem? (i := 376) (by decide +kernel), List.mem_of_getElem? (i := 567) (by decide +kernel), List.mem_of_getElem? (i := 568) (by decide +kernel)⟩
theorem lw_p7 : lw_okq (⟨"VoiceShaper$Grammar", "readAll", "(I)Z"⟩, 5) := ⟨⟨by decide +kernel, by decide +kernel⟩, List.mem_of_getElem? (i := 376) (by decide +kernel), List.mem_of_getElem? (i := 572) (by decide +kernel), List.mem_of_getElem? (i := 573) (by decide +kernel)⟩
theorem lw_p8 : lw_okq (⟨"VoiceShaper$Grammar", "readTest", "(I)Z"⟩, 5) := ⟨⟨by decide +kernel, by decide +kernel⟩, List.mem_of_getElem? (i := 376) (by decide +kernel), List.mem_of_getElem? (i := 576) (by decide +kernel), List.mem_of_getElem? (i := 577) (by decide +kernel)⟩
theorem lw_p9 : lw_okq (⟨"VoiceShaper$Grammar", "readSum", "(I)Z"⟩, 5) := ⟨⟨by decide +kernel, by decide +kernel⟩, List.mem_of_getElem? (i := 376) (by decide +kernel), List.mem_of_getElem? (i := 580) (by decide +kernel), List.mem_of_getElem? (i := 581) (by decide +kernel)⟩
theorem lw_p10 : lw_okq (⟨"VoiceShaper$Grammar", "readPart", "(I)Z"⟩, 5) := ⟨⟨by decide +kernel, by decide +kernel⟩, List.mem_of_getElem? (i := 376) (by decide +kernel), List.mem_of_getElem? (i := 584) (by decide +kernel), List.mem_of_getElem? (i := 585) (by decide +kernel)⟩
theorem lw_p11 : lw_okq (⟨"VoiceShaper", "shapeInHand", "()LVoiceShaper$Shape;"⟩, 12) := ⟨⟨by decide +kernel, by decide +kernel⟩, List.mem_of_getElem? (i := 25) (by decide +kernel), List.mem_of_getElem? (i := 612) (by decide +kernel), List.mem_of_getElem? (i := 613) (by decide +kernel)⟩
theorem lw_p12 : lw_okq (⟨"VoiceShaper", "prepare", "(LVoiceShaper$Shape;I)V"⟩, 12) := ⟨⟨by decide +kernel, by decide +kernel⟩, List.mem_of_getElem? (i := 25) (by decide +kernel), List.mem_of_getElem? (i := 616) (by decide +kernel), List.mem_of_getElem? (i := 617) (by decide +kernel)⟩
theorem lw_p13 : lw_okq (⟨"VoiceShaper$Parting", "weighFrom", "(LVoiceShaper$Reading;II)V"⟩, 8) := ⟨⟨by decide +kernel, by decide +kernel⟩, List.mem_of_getElem? (i := 74) (by decide +kernel), List.mem_of_getElem? (i := 628) (by decide +kernel), List.mem_of_getElem? (i := 629) (by decide +kernel)⟩
theorem lw_p14 : lw_okq (⟨"VoiceShaper$Parting", "addPhrase", "(LVoiceShaper$Reading;II)V"⟩, 8) := ⟨⟨by decide +kernel, by decide +kernel⟩, List.mem_of_getElem? (i := 74) (by decide +kernel), List.mem_of_getElem? (i := 632) (by decide +kernel), List.mem_of_getElem? (i := 633) (by decide +kernel)⟩
theorem lw_p15 : lw_okq (⟨"VoiceShaper$Parting", "accentWords", "(LVoiceShaper$Reading;II)I"⟩, 8) := ⟨⟨by decide +kernel, by decide +kernel⟩, List.mem_of_getElem? (i := 74) (by decide +kernel), List.mem_of_getElem? (i := 636) (by decide +kernel), List.mem_of_getElem? (i := 637) (by decide +kernel)⟩
def lw_privs_1 : List (MethodName × Nat) := [(⟨"VoiceShaper", "forgetShapes", "()V"⟩, 12), (⟨"VoiceShaper", "isReading", "(I)Z"⟩, 12), (⟨"VoiceShaper$Tokens", "cutOne", "(LVoiceShaper$Tape;I)I"⟩, 3), (⟨"VoiceShaper$Tokens", "addToken", "(II)V"⟩, 3), (⟨"VoiceShaper$Grammar", "readLine", "(I)Z"⟩, 5), (⟨"VoiceShaper$Grammar", "refuse", "(I)Z"⟩, 5), (⟨"VoiceShaper$Grammar", "goOn", "()V"⟩, 5), (⟨"VoiceShaper$Grammar", "readAll", "(I)Z"⟩, 5), (⟨"VoiceShaper$Grammar", "readTest", "(I)Z"⟩, 5), (⟨"VoiceShaper$Grammar", "readSum", "(I)Z"⟩, 5), (⟨"VoiceShaper$Grammar", "readPart", "(I)Z"⟩, 5), (⟨"VoiceShaper", "shapeInHand", "()LVoiceShaper$Shape;"⟩, 12), (⟨"VoiceShaper", "prepare", "(LVoiceShaper$Shape;I)V"⟩, 12), (⟨"VoiceShaper$Parting", "weighFrom", "(LVoiceShaper$Reading;II)V"⟩, 8), (⟨"VoiceShaper$Parting", "addPhrase", "(LVoiceShaper$Reading;II)V"⟩, 8), (⟨"VoiceShaper$Parting", "accentWords", "(LVoiceShaper$Reading;II)I"⟩, 8)]
theorem lw_r1 : ∀ q ∈ lw_privs_1, lw_okq q := List.forall_mem_cons.mpr ⟨lw_p0, List.forall_mem_cons.mpr ⟨lw_p1, List.forall_mem_cons.mpr ⟨lw_p2, List.forall_mem_cons.mpr ⟨lw_p3, List.forall_mem_cons.mpr ⟨lw_p4, List.forall_mem_cons.mpr ⟨lw_p5, List.forall_mem_cons.mpr ⟨lw_p6, List.forall_mem_cons.mpr ⟨lw_p7, List.forall_mem_cons.mpr ⟨lw_p8, List.forall_mem_cons.mpr ⟨lw_p9, List.forall_mem_cons.mpr ⟨lw_p10, List.forall_mem_cons.mpr ⟨lw_p11, List.forall_mem_cons.mpr ⟨lw_p12, List.forall_mem_cons.mpr ⟨lw_p13, List.forall_mem_cons.mpr ⟨lw_p14, List.forall_mem_cons.mpr ⟨lw_p15, fun _ h => absurd h List.not_mem_nil⟩⟩⟩⟩⟩⟩⟩⟩⟩⟩⟩⟩⟩⟩⟩⟩
theorem lw_p16 : lw_okq (⟨"VoiceShaper$Shape", "layWord", "(LVoiceShaper$Reading;III)V"⟩, 5) := ⟨⟨by decide +kernel, by decide +kernel⟩, List.mem_of_getElem? (i := 68) (by decide +kernel), List.mem_of_getElem? (i := 640) (by decide +kernel), List.mem_of_getElem? (i := 641) (by decide +kernel)⟩
theorem lw_p17 : lw_okq (⟨"VoiceShaper$Shape", "applyLine", "(LVoiceShaper$Rules;ILVoiceShaper$Calculator;I)V"⟩, 5) := ⟨⟨by decide +kernel, by decide +kernel⟩, List.mem_of_getElem? (i := 68) (by decide +kernel), List.mem_of_getElem? (i := 651) (by decide +kernel), List.mem_of_getElem? (i := 652) (by decide +kernel)⟩
theorem lw_p18 : lw_okq (⟨"VoiceShaper$Calculator", "push", "(I)V"⟩, 2) := ⟨⟨by decide +kernel, by decide +kernel⟩, List.mem_of_getElem? (i := 54) (by decide +kernel), List.mem_of_getElem? (i := 659) (by decide +kernel), List.mem_of_getElem? (i := 660) (by decide +kernel)⟩
theorem lw_p19 : lw_okq (⟨"VoiceShaper$Calculator", "pop", "()I"⟩, 2) := ⟨⟨by decide +kernel, by decide +kernel⟩, List.mem_of_getElem? (i := 54) (by decide +kernel), List.mem_of_getElem? (i := 663) (by decide +kernel), List.mem_of_getElem? (i := 664) (by decide +kernel)⟩
theorem lw_p20 : lw_okq (⟨"VoiceShaper$Shape", "isAlikeAt", "(LVoiceShaper$Shape;I)Z"⟩, 5) := ⟨⟨by decide +kernel, by decide +kernel⟩, List.mem_of_getElem? (i := 68) (by decide +kernel), List.mem_of_getElem? (i := 722) (by decide +kernel), List.mem_of_getElem? (i := 723) (by decide +kernel)⟩
theorem lw_p21 : lw_okq (⟨"java/lang/Throwable", "fillInStackTrace", "(I)Ljava/lang/Throwable;"⟩, 6) := ⟨⟨by decide +kernel, by decide +kernel⟩, List.mem_of_getElem? (i := 778) (by decide +kernel), List.mem_of_getElem? (i := 776) (by decide +kernel), List.mem_of_getElem? (i := 777) (by decide +kernel)⟩
theorem lw_p22 : lw_okq (⟨"VoiceShaperModel", "lay", "(J)V"⟩, 57) := ⟨⟨by decide +kernel, by decide +kernel⟩, List.mem_of_getElem? (i := 818) (by decide +kernel), List.mem_of_getElem? (i := 816) (by decide +kernel), List.mem_of_getElem? (i := 817) (by decide +kernel)⟩
theorem lw_p23 : lw_okq (⟨"VoiceShaperModel", "cutAll", "()V"⟩, 57) := ⟨⟨by decide +kernel, by decide +kernel⟩, List.mem_of_getElem? (i := 818) (by decide +kernel), List.mem_of_getElem? (i := 1020) (by decide +kernel), List.mem_of_getElem? (i := 1021) (by decide +kernel)⟩
theorem lw_p24 : lw_okq (⟨"VoiceShaperModel", "line", "()V"⟩, 57) := ⟨⟨by decide +kernel, by decide +kernel⟩, List.mem_of_getElem? (i := 818) (by decide +kernel), List.mem_of_getElem? (i := 1039) (by decide +kernel), List.mem_of_getElem? (i := 1040) (by decide +kernel)⟩
theorem lw_p25 : lw_okq (⟨"VoiceShaperModel", "isWord", "(I)Z"⟩, 57) := ⟨⟨by decide +kernel, by decide +kernel⟩, List.mem_of_getElem? (i := 818) (by decide +kernel), List.mem_of_getElem? (i := 1043) (by decide +kernel), List.mem_of_getElem? (i := 1044) (by decide +kernel)⟩
theorem lw_p26 : lw_okq (⟨"VoiceShaperModel", "wrong", "(I)V"⟩, 57) := ⟨⟨by decide +kernel, by decide +kernel⟩, List.mem_of_getElem? (i := 818) (by decide +kernel), List.mem_of_getElem? (i := 1047) (by decide +kernel), List.mem_of_getElem? (i := 1048) (by decide +kernel)⟩
theorem lw_p27 : lw_okq (⟨"VoiceShaperModel", "partWord", "()I"⟩, 57) := ⟨⟨by decide +kernel, by decide +kernel⟩, List.mem_of_getElem? (i := 818) (by decide +kernel), List.mem_of_getElem? (i := 1051) (by decide +kernel), List.mem_of_getElem? (i := 1052) (by decide +kernel)⟩
theorem lw_p28 : lw_okq (⟨"VoiceShaperModel", "expression", "()V"⟩, 57) := ⟨⟨by decide +kernel, by decide +kernel⟩, List.mem_of_getElem? (i := 818) (by decide +kernel), List.mem_of_getElem? (i := 1055) (by decide +kernel), List.mem_of_getElem? (i := 1056) (by decide +kernel)⟩
theorem lw_p29 : lw_okq (⟨"VoiceShaperModel", "opens", "()V"⟩, 57) := ⟨⟨by decide +kernel, by decide +kernel⟩, List.mem_of_getElem? (i := 818) (by decide +kernel), List.mem_of_getElem? (i := 1059) (by decide +kernel), List.mem_of_getElem? (i := 1060) (by decide +kernel)⟩
theorem lw_p30 : lw_okq (⟨"VoiceShaperModel", "part", "()Z"⟩, 57) := ⟨⟨by decide +kernel, by decide +kernel⟩, List.mem_of_getElem? (i := 818) (by decide +kernel), List.mem_of_getElem? (i := 1063) (by decide +kernel), List.mem_of_getElem? (i := 1064) (by decide +kernel)⟩
theorem lw_p31 : lw_okq (⟨"VoiceShaperModel", "isSign", "(I)Z"⟩, 57) := ⟨⟨by decide +kernel, by decide +kernel⟩, List.mem_of_getElem? (i := 818) (by decide +kernel), List.mem_of_getElem? (i := 1067) (by decide +kernel), List.mem_of_getElem? (i := 1068) (by decide +kernel)⟩
def lw_privs_2 : List (MethodName × Nat) := [(⟨"VoiceShaper$Shape", "layWord", "(LVoiceShaper$Reading;III)V"⟩, 5), (⟨"VoiceShaper$Shape", "applyLine", "(LVoiceShaper$Rules;ILVoiceShaper$Calculator;I)V"⟩, 5), (⟨"VoiceShaper$Calculator", "push", "(I)V"⟩, 2), (⟨"VoiceShaper$Calculator", "pop", "()I"⟩, 2), (⟨"VoiceShaper$Shape", "isAlikeAt", "(LVoiceShaper$Shape;I)Z"⟩, 5), (⟨"java/lang/Throwable", "fillInStackTrace", "(I)Ljava/lang/Throwable;"⟩, 6), (⟨"VoiceShaperModel", "lay", "(J)V"⟩, 57), (⟨"VoiceShaperModel", "cutAll", "()V"⟩, 57), (⟨"VoiceShaperModel", "line", "()V"⟩, 57), (⟨"VoiceShaperModel", "isWord", "(I)Z"⟩, 57), (⟨"VoiceShaperModel", "wrong", "(I)V"⟩, 57), (⟨"VoiceShaperModel", "partWord", "()I"⟩, 57), (⟨"VoiceShaperModel", "expression", "()V"⟩, 57), (⟨"VoiceShaperModel", "opens", "()V"⟩, 57), (⟨"VoiceShaperModel", "part", "()Z"⟩, 57), (⟨"VoiceShaperModel", "isSign", "(I)Z"⟩, 57)]
theorem lw_r2 : ∀ q ∈ lw_privs_2, lw_okq q := List.forall_mem_cons.mpr ⟨lw_p16, List.forall_mem_cons.mpr ⟨lw_p17, List.forall_mem_cons.mpr ⟨lw_p18, List.forall_mem_cons.mpr ⟨lw_p19, List.forall_mem_cons.mpr ⟨lw_p20, List.forall_mem_cons.mpr ⟨lw_p21, List.forall_mem_cons.mpr ⟨lw_p22, List.forall_mem_cons.mpr ⟨lw_p23, List.forall_mem_cons.mpr ⟨lw_p24, List.forall_mem_cons.mpr ⟨lw_p25, List.forall_mem_cons.mpr ⟨lw_p26, List.forall_mem_cons.mpr ⟨lw_p27, List.forall_mem_cons.mpr ⟨lw_p28, List.forall_mem_cons.mpr ⟨lw_p29, List.forall_mem_cons.mpr ⟨lw_p30, List.forall_mem_cons.mpr ⟨lw_p31, fun _ h => absurd h List.not_mem_nil⟩⟩⟩⟩⟩⟩⟩⟩⟩⟩⟩⟩⟩⟩⟩⟩
theorem lw_p32 : lw_okq (⟨"VoiceShaperModel", "hasSign", "(I)Z"⟩, 57) := ⟨⟨by decide +kernel, by decide +kernel⟩, List.mem_of_getElem? (i := 818) (by decide +kernel), List.mem_of_getElem? (i := 1071) (by decide +kernel), List.mem_of_getElem? (i := 1072) (by decide +kernel)⟩
theorem lw_p33 : lw_okq (⟨"VoiceShaperModel", "emit", "(II)V"⟩, 57) := ⟨⟨by decide +kernel, by decide +kernel⟩, List.mem_of_getElem? (i := 818) (by decide +kernel), List.mem_of_getElem? (i := 1075) (by decide +kernel), List.mem_of_getElem? (i := 1076) (by decide +kernel)⟩
theorem lw_p34 : lw_okq (⟨"VoiceShaperModel", "goesOnBehind", "()Z"⟩, 57) := ⟨⟨by decide +kernel, by decide +kernel⟩, List.mem_of_getElem? (i := 818) (by decide +kernel), List.mem_of_getElem? (i := 1079) (by decide +kernel), List.mem_of_getElem? (i := 1080) (by decide +kernel)⟩
theorem lw_p35 : lw_okq (⟨"VoiceShaperModel", "takeSign", "(I)V"⟩, 57) := ⟨⟨by decide +kernel, by decide +kernel⟩, List.mem_of_getElem? (i := 818) (by decide +kernel), List.mem_of_getElem? (i := 1083) (by decide +kernel), List.mem_of_getElem? (i := 1084) (by decide +kernel)⟩
theorem lw_p36 : lw_okq (⟨"VoiceShaperModel", "hasWord", "(I)Z"⟩, 57) := ⟨⟨by decide +kernel, by decide +kernel⟩, List.mem_of_getElem? (i := 818) (by decide +kernel), List.mem_of_getElem? (i := 1087) (by decide +kernel), List.mem_of_getElem? (i := 1088) (by decide +kernel)⟩
theorem lw_p37 : lw_okq (⟨"VoiceShaperModel", "keeps", "()V"⟩, 57) := ⟨⟨by decide +kernel, by decide +kernel⟩, List.mem_of_getElem? (i := 818) (by decide +kernel), List.mem_of_getElem? (i := 1091) (by decide +kernel), List.mem_of_getElem? (i := 1092) (by decide +kernel)⟩
theorem lw_p38 : lw_okq (⟨"VoiceShaperModel", "tells", "(IIIIZZ)V"⟩, 57) := ⟨⟨by decide +kernel, by decide +kernel⟩, List.mem_of_getElem? (i := 818) (by decide +kernel), List.mem_of_getElem? (i := 1106) (by decide +kernel), List.mem_of_getElem? (i := 1107) (by decide +kernel)⟩
theorem lw_p39 : lw_okq (⟨"VoiceShaperModel", "isReading", "(I)Z"⟩, 57) := ⟨⟨by decide +kernel, by decide +kernel⟩, List.mem_of_getElem? (i := 818) (by decide +kernel), List.mem_of_getElem? (i := 1122) (by decide +kernel), List.mem_of_getElem? (i := 1123) (by decide +kernel)⟩
theorem lw_p40 : lw_okq (⟨"VoiceShaperModel", "soundsOf", "(I)I"⟩, 57) := ⟨⟨by decide +kernel, by decide +kernel⟩, List.mem_of_getElem? (i := 818) (by decide +kernel), List.mem_of_getElem? (i := 1142) (by decide +kernel), List.mem_of_getElem? (i := 1143) (by decide +kernel)⟩
theorem lw_p41 : lw_okq (⟨"VoiceShaperModel", "findPhrases", "(I)V"⟩, 57) := ⟨⟨by decide +kernel, by decide +kernel⟩, List.mem_of_getElem? (i := 818) (by decide +kernel), List.mem_of_getElem? (i := 1150) (by decide +kernel), List.mem_of_getElem? (i := 1151) (by decide +kernel)⟩
theorem lw_p42 : lw_okq (⟨"VoiceShaperModel", "costOf", "(III)I"⟩, 57) := ⟨⟨by decide +kernel, by decide +kernel⟩, List.mem_of_getElem? (i := 818) (by decide +kernel), List.mem_of_getElem? (i := 1154) (by decide +kernel), List.mem_of_getElem? (i := 1155) (by decide +kernel)⟩
theorem lw_p43 : lw_okq (⟨"VoiceShaperModel", "accents", "(II)I"⟩, 57) := ⟨⟨by decide +kernel, by decide +kernel⟩, List.mem_of_getElem? (i := 818) (by decide +kernel), List.mem_of_getElem? (i := 1162) (by decide +kernel), List.mem_of_getElem? (i := 1163) (by decide +kernel)⟩
theorem lw_p44 : lw_okq (⟨"VoiceShaperModel", "shapes", "(I)V"⟩, 57) := ⟨⟨by decide +kernel, by decide +kernel⟩, List.mem_of_getElem? (i := 818) (by decide +kernel), List.mem_of_getElem? (i := 1170) (by decide +kernel), List.mem_of_getElem? (i := 1171) (by decide +kernel)⟩
theorem lw_p45 : lw_okq (⟨"VoiceShaperModel", "setsOut", "(I)V"⟩, 57) := ⟨⟨by decide +kernel, by decide +kernel⟩, List.mem_of_getElem? (i := 818) (by decide +kernel), List.mem_of_getElem? (i := 1174) (by decide +kernel), List.mem_of_getElem? (i := 1175) (by decide +kernel)⟩
theorem lw_p46 : lw_okq (⟨"VoiceShaperModel", "works", "(II)V"⟩, 57) := ⟨⟨by decide +kernel, by decide +kernel⟩, List.mem_of_getElem? (i := 818) (by decide +kernel), List.mem_of_getElem? (i := 1178) (by decide +kernel), List.mem_of_getElem? (i := 1179) (by decide +kernel)⟩
theorem lw_p47 : lw_okq (⟨"VoiceShaperModel", "knows", "(II)V"⟩, 57) := ⟨⟨by decide +kernel, by decide +kernel⟩, List.mem_of_getElem? (i := 818) (by decide +kernel), List.mem_of_getElem? (i := 1182) (by decide +kernel), List.mem_of_getElem? (i := 1183) (by decide +kernel)⟩
def lw_privs_3 : List (MethodName × Nat) := [(⟨"VoiceShaperModel", "hasSign", "(I)Z"⟩, 57), (⟨"VoiceShaperModel", "emit", "(II)V"⟩, 57), (⟨"VoiceShaperModel", "goesOnBehind", "()Z"⟩, 57), (⟨"VoiceShaperModel", "takeSign", "(I)V"⟩, 57), (⟨"VoiceShaperModel", "hasWord", "(I)Z"⟩, 57), (⟨"VoiceShaperModel", "keeps", "()V"⟩, 57), (⟨"VoiceShaperModel", "tells", "(IIIIZZ)V"⟩, 57), (⟨"VoiceShaperModel", "isReading", "(I)Z"⟩, 57), (⟨"VoiceShaperModel", "soundsOf", "(I)I"⟩, 57), (⟨"VoiceShaperModel", "findPhrases", "(I)V"⟩, 57), (⟨"VoiceShaperModel", "costOf", "(III)I"⟩, 57), (⟨"VoiceShaperModel", "accents", "(II)I"⟩, 57), (⟨"VoiceShaperModel", "shapes", "(I)V"⟩, 57), (⟨"VoiceShaperModel", "setsOut", "(I)V"⟩, 57), (⟨"VoiceShaperModel", "works", "(II)V"⟩, 57), (⟨"VoiceShaperModel", "knows", "(II)V"⟩, 57)]
theorem lw_r3 : ∀ q ∈ lw_privs_3, lw_okq q := List.forall_mem_cons.mpr ⟨lw_p32, List.forall_mem_cons.mpr ⟨lw_p33, List.forall_mem_cons.mpr ⟨lw_p34, List.forall_mem_cons.mpr ⟨lw_p35, List.forall_mem_cons.mpr ⟨lw_p36, List.forall_mem_cons.mpr ⟨lw_p37, List.forall_mem_cons.mpr ⟨lw_p38, List.forall_mem_cons.mpr ⟨lw_p39, List.forall_mem_cons.mpr ⟨lw_p40, List.forall_mem_cons.mpr ⟨lw_p41, List.forall_mem_cons.mpr ⟨lw_p42, List.forall_mem_cons.mpr ⟨lw_p43, List.forall_mem_cons.mpr ⟨lw_p44, List.forall_mem_cons.mpr ⟨lw_p45, List.forall_mem_cons.mpr ⟨lw_p46, List.forall_mem_cons.mpr ⟨lw_p47, fun _ h => absurd h List.not_mem_nil⟩⟩⟩⟩⟩⟩⟩⟩⟩⟩⟩⟩⟩⟩⟩⟩
theorem lw_p48 : lw_okq (⟨"VoiceShaperModel", "worth", "(I)I"⟩, 57) := ⟨⟨by decide +kernel, by decide +kernel⟩, List.mem_of_getElem? (i := 818) (by decide +kernel), List.mem_of_getElem? (i := 1186) (by decide +kernel), List.mem_of_getElem? (i := 1187) (by decide +kernel)⟩
theorem lw_p49 : lw_okq (⟨"VoiceShaperModel", "handOf", "(III)I"⟩, 57) := ⟨⟨by decide +kernel, by decide +kernel⟩, List.mem_of_getElem? (i := 818) (by decide +kernel), List.mem_of_getElem? (i := 1193) (by decide +kernel), List.mem_of_getElem? (i := 1194) (by decide +kernel)⟩
theorem lw_p50 : lw_okq (⟨"VoiceShaperModel", "nears", "(III)V"⟩, 57) := ⟨⟨by decide +kernel, by decide +kernel⟩, List.mem_of_getElem? (i := 818) (by decide +kernel), List.mem_of_getElem? (i := 1197) (by decide +kernel), List.mem_of_getElem? (i := 1198) (by decide +kernel)⟩
theorem lw_p51 : lw_okq (⟨"VoiceShaperModel", "told", "(I)I"⟩, 57) := ⟨⟨by decide +kernel, by decide +kernel⟩, List.mem_of_getElem? (i := 818) (by decide +kernel), List.mem_of_getElem? (i := 1201) (by decide +kernel), List.mem_of_getElem? (i := 1202) (by decide +kernel)⟩
theorem lw_p52 : lw_okq (⟨"VoiceShaperModel", "isAlike", "(I)Z"⟩, 57) := ⟨⟨by decide +kernel, by decide +kernel⟩, List.mem_of_getElem? (i := 818) (by decide +kernel), List.mem_of_getElem? (i := 1217) (by decide +kernel), List.mem_of_getElem? (i := 1218) (by decide +kernel)⟩
def lw_privs_4 : List (MethodName × Nat) := [(⟨"VoiceShaperModel", "worth", "(I)I"⟩, 57), (⟨"VoiceShaperModel", "handOf", "(III)I"⟩, 57), (⟨"VoiceShaperModel", "nears", "(III)V"⟩, 57), (⟨"VoiceShaperModel", "told", "(I)I"⟩, 57), (⟨"VoiceShaperModel", "isAlike", "(I)Z"⟩, 57)]
theorem lw_r4 : ∀ q ∈ lw_privs_4, lw_okq q := List.forall_mem_cons.mpr ⟨lw_p48, List.forall_mem_cons.mpr ⟨lw_p49, List.forall_mem_cons.mpr ⟨lw_p50, List.forall_mem_cons.mpr ⟨lw_p51, List.forall_mem_cons.mpr ⟨lw_p52, fun _ h => absurd h List.not_mem_nil⟩⟩⟩⟩⟩
def lw_privs : List (MethodName × Nat) := lw_privs_1 ++ (lw_privs_2 ++ (lw_privs_3 ++ (lw_privs_4)))
def lw_tbl : List Cond := k2_sels lw_privs ++ tables_1
theorem lw_privs_ok : ∀ q ∈ lw_privs, lw_okq q := by
  show ∀ q ∈ lw_privs_1 ++ (lw_privs_2 ++ (lw_privs_3 ++ (lw_privs_4))), lw_okq q
  exact List.forall_mem_append.mpr ⟨lw_r1, List.forall_mem_append.mpr ⟨lw_r2, List.forall_mem_append.mpr ⟨lw_r3, lw_r4⟩⟩⟩
end
section
def RX0 : String := "VoiceShaper$Calculator"
def TX0 : u_T := fun k => match k with
  | 0 => ("VoiceShaper$Calculator", "waiting", "[I", true)
  | _ => ("VoiceShaper$Calculator", "depth", "I", false)
def tyX0 : Nat → FieldType := fun k => match k with
  | 0 => .array .int
  | _ => .int
abbrev wsX00 : List Cond := u_ws RX0 TX0 2
theorem nmX0 : ∀ a, a < 2 → ∀ b, b < 2 → a ≠ b → (TX0 a).2.1 ≠ (TX0 b).2.1 := by decide +kernel
theorem tyX0_ok : ∀ k, k < 2 → parseFieldDescriptor (TX0 k).2.2.1 = some (tyX0 k) := by decide +kernel
abbrev cX0_init : ByteArray := prog_2_method_1_code
def yX0_init : MethodName := ⟨RX0, "<init>", "()V"⟩
abbrev cX0_workOut : ByteArray := prog_2_method_2_code
def yX0_workOut : MethodName := ⟨RX0, "workOut", "([III[[II)I"⟩
abbrev cX0_join : ByteArray := prog_2_method_3_code
def yX0_join : MethodName := ⟨RX0, "join", "(III)I"⟩
abbrev cX0_push : ByteArray := prog_2_method_4_code
def yX0_push : MethodName := ⟨RX0, "push", "(I)V"⟩
abbrev cX0_pop : ByteArray := prog_2_method_5_code
def yX0_pop : MethodName := ⟨RX0, "pop", "()I"⟩
def RX1 : String := "VoiceShaper$Grammar"
def TX1 : u_T := fun k => match k with
  | 0 => ("VoiceShaper$Grammar", "draft", "LVoiceShaper$Rules;", true)
  | 1 => ("VoiceShaper$Grammar", "tokens", "LVoiceShaper$Tokens;", true)
  | 2 => ("VoiceShaper$Grammar", "at", "I", false)
  | 3 => ("VoiceShaper$Grammar", "kind", "I", false)
  | _ => ("VoiceShaper$Grammar", "fault", "I", false)
def tyX1 : Nat → FieldType := fun k => match k with
  | 0 => .object "VoiceShaper$Rules"
  | 1 => .object "VoiceShaper$Tokens"
  | 2 => .int
  | 3 => .int
  | _ => .int
abbrev wsX10 : List Cond := u_ws RX1 TX1 5
theorem nmX1 : ∀ a, a < 5 → ∀ b, b < 5 → a ≠ b → (TX1 a).2.1 ≠ (TX1 b).2.1 := by decide +kernel
theorem tyX1_ok : ∀ k, k < 5 → parseFieldDescriptor (TX1 k).2.2.1 = some (tyX1 k) := by decide +kernel
abbrev cX1_init : ByteArray := prog_3_method_1_code
def yX1_init : MethodName := ⟨RX1, "<init>", "(I)V"⟩
abbrev cX1_readText : ByteArray := prog_3_method_2_code
def yX1_readText : MethodName := ⟨RX1, "readText", "(LVoiceShaper$Tape;)I"⟩
abbrev cX1_goOn : ByteArray := prog_3_method_3_code
def yX1_goOn : MethodName := ⟨RX1, "goOn", "()V"⟩
abbrev cX1_refuse : ByteArray := prog_3_method_4_code
def yX1_refuse : MethodName := ⟨RX1, "refuse", "(I)Z"⟩
abbrev cX1_readLine : ByteArray := prog_3_method_5_code
def yX1_readLine : MethodName := ⟨RX1, "readLine", "(I)Z"⟩
abbrev cX1_readAll : ByteArray := prog_3_method_6_code
def yX1_readAll : MethodName := ⟨RX1, "readAll", "(I)Z"⟩
abbrev cX1_readTest : ByteArray := prog_3_method_7_code
def yX1_readTest : MethodName := ⟨RX1, "readTest", "(I)Z"⟩
abbrev cX1_readSum : ByteArray := prog_3_method_8_code
def yX1_readSum : MethodName := ⟨RX1, "readSum", "(I)Z"⟩
abbrev cX1_readPart : ByteArray := prog_3_method_9_code
def yX1_readPart : MethodName := ⟨RX1, "readPart", "(I)Z"⟩
def RX2 : String := "VoiceShaper$Manner"
def TX2 : u_T := fun k => match k with
  | 0 => ("VoiceShaper$Manner", "lines", "LVoiceShaper$Rules;", false)
  | 1 => ("VoiceShaper$Manner", "low", "I", false)
  | 2 => ("VoiceShaper$Manner", "high", "I", false)
  | _ => ("VoiceShaper$Manner", "slope", "I", false)
def tyX2 : Nat → FieldType := fun k => match k with
  | 0 => .object "VoiceShaper$Rules"
  | 1 => .int
  | 2 => .int
  | _ => .int
abbrev wsX20 : List Cond := u_ws RX2 TX2 4
theorem nmX2 : ∀ a, a < 4 → ∀ b, b < 4 → a ≠ b → (TX2 a).2.1 ≠ (TX2 b).2.1 := by decide +kernel
theorem tyX2_ok : ∀ k, k < 4 → parseFieldDescriptor (TX2 k).2.2.1 = some (tyX2 k) := by decide +kernel
abbrev cX2_init : ByteArray := prog_4_method_1_code
def yX2_init : MethodName := ⟨RX2, "<init>", "()V"⟩
def RX3 : String := "VoiceShaper$Parting"
def TX3 : u_T := fun k => match k with
  | 0 => ("VoiceShaper$Parting", "firstWord", "[I", true)
  | 1 => ("VoiceShaper$Parting", "wordCount", "[I", true)
  | 2 => ("VoiceShaper$Parting", "syllableCount", "[I", true)
  | 3 => ("VoiceShaper$Parting", "accentCount", "[I", true)
  | 4 => ("VoiceShaper$Parting", "accented", "[Z", true)
  | 5 => ("VoiceShaper$Parting", "cost", "[I", true)
  | 6 => ("VoiceShaper$Parting", "taken", "[I", true)
  | _ => ("VoiceShaper$Parting", "phraseCount", "I", false)
def tyX3 : Nat → FieldType := fun k => match k with
  | 0 => .array .int
  | 1 => .array .int
  | 2 => .array .int
  | 3 => .array .int
  | 4 => .array .boolean
  | 5 => .array .int
  | 6 => .array .int
  | _ => .int
abbrev wsX30 : List Cond := u_ws RX3 TX3 8
theorem nmX3 : ∀ a, a < 8 → ∀ b, b < 8 → a ≠ b → (TX3 a).2.1 ≠ (TX3 b).2.1 := by decide +kernel
theorem tyX3_ok : ∀ k, k < 8 → parseFieldDescriptor (TX3 k).2.2.1 = some (tyX3 k) := by decide +kernel
abbrev cX3_init : ByteArray := prog_5_method_1_code
def yX3_init : MethodName := ⟨RX3, "<init>", "()V"⟩
abbrev cX3_partWords : ByteArray := prog_5_method_2_code
def yX3_partWords : MethodName := ⟨RX3, "partWords", "(LVoiceShaper$Reading;I)V"⟩
abbrev cX3_weighFrom : ByteArray := prog_5_method_3_code
def yX3_weighFrom : MethodName := ⟨RX3, "weighFrom", "(LVoiceShaper$Reading;II)V"⟩
abbrev cX3_addPhrase : ByteArray := prog_5_method_4_code
def yX3_addPhrase : MethodName := ⟨RX3, "addPhrase", "(LVoiceShaper$Reading;II)V"⟩
abbrev cX3_accentWords : ByteArray := prog_5_method_5_code
def yX3_accentWords : MethodName := ⟨RX3, "accentWords", "(LVoiceShaper$Reading;II)I"⟩
abbrev cX3_pauseBehind : ByteArray := prog_5_method_6_code
def yX3_pauseBehind : MethodName := ⟨RX3, "pauseBehind", "(II)I"⟩
def RX4 : String := "VoiceShaper$Reading"
def TX4 : u_T := fun k => match k with
  | 0 => ("VoiceShaper$Reading", "syllables", "[I", true)
  | 1 => ("VoiceShaper$Reading", "stressed", "[I", true)
  | 2 => ("VoiceShaper$Reading", "bonds", "[I", true)
  | 3 => ("VoiceShaper$Reading", "news", "[Z", true)
  | 4 => ("VoiceShaper$Reading", "contrasts", "[Z", true)
  | 5 => ("VoiceShaper$Reading", "marks", "[[I", true)
  | 6 => ("VoiceShaper$Reading", "words", "I", false)
  | 7 => ("VoiceShaper$Reading", "allSyllables", "I", false)
  | _ => ("VoiceShaper$Reading", "melody", "I", false)
def tyX4 : Nat → FieldType := fun k => match k with
  | 0 => .array .int
  | 1 => .array .int
  | 2 => .array .int
  | 3 => .array .boolean
  | 4 => .array .boolean
  | 5 => .array (.array .int)
  | 6 => .int
  | 7 => .int
  | _ => .int
abbrev wsX40 : List Cond := u_ws RX4 TX4 9
theorem nmX4 : ∀ a, a < 9 → ∀ b, b < 9 → a ≠ b → (TX4 a).2.1 ≠ (TX4 b).2.1 := by decide +kernel
theorem tyX4_ok : ∀ k, k < 9 → parseFieldDescriptor (TX4 k).2.2.1 = some (tyX4 k) := by decide +kernel
abbrev cX4_init : ByteArray := prog_6_method_1_code
def yX4_init : MethodName := ⟨RX4, "<init>", "()V"⟩
abbrev cX4_clearMarks : ByteArray := prog_6_method_2_code
def yX4_clearMarks : MethodName := ⟨RX4, "clearMarks", "()V"⟩
abbrev cX4_markCount : ByteArray := prog_6_method_3_code
def yX4_markCount : MethodName := ⟨RX4, "markCount", "()I"⟩
abbrev cX4_putWord : ByteArray := prog_6_method_4_code
def yX4_putWord : MethodName := ⟨RX4, "putWord", "(IIIIZZ)V"⟩
abbrev cX4_becomeLike : ByteArray := prog_6_method_5_code
def yX4_becomeLike : MethodName := ⟨RX4, "becomeLike", "(LVoiceShaper$Reading;)V"⟩
def RX5 : String := "VoiceShaper$Rules"
def TX5 : u_T := fun k => match k with
  | 0 => ("VoiceShaper$Rules", "adds", "[Z", true)
  | 1 => ("VoiceShaper$Rules", "values", "[I", true)
  | 2 => ("VoiceShaper$Rules", "starts", "[I", true)
  | 3 => ("VoiceShaper$Rules", "tests", "[I", true)
  | 4 => ("VoiceShaper$Rules", "ends", "[I", true)
  | 5 => ("VoiceShaper$Rules", "code", "[I", true)
  | 6 => ("VoiceShaper$Rules", "lineCount", "I", false)
  | _ => ("VoiceShaper$Rules", "codeSize", "I", false)
def tyX5 : Nat → FieldType := fun k => match k with
  | 0 => .array .boolean
  | 1 => .array .int
  | 2 => .array .int
  | 3 => .array .int
  | 4 => .array .int
  | 5 => .array .int
  | 6 => .int
  | _ => .int
abbrev wsX50 : List Cond := u_ws RX5 TX5 8
theorem nmX5 : ∀ a, a < 8 → ∀ b, b < 8 → a ≠ b → (TX5 a).2.1 ≠ (TX5 b).2.1 := by decide +kernel
theorem tyX5_ok : ∀ k, k < 8 → parseFieldDescriptor (TX5 k).2.2.1 = some (tyX5 k) := by decide +kernel
abbrev cX5_init : ByteArray := prog_7_method_1_code
def yX5_init : MethodName := ⟨RX5, "<init>", "(I)V"⟩
abbrev cX5_addNumber : ByteArray := prog_7_method_2_code
def yX5_addNumber : MethodName := ⟨RX5, "addNumber", "(I)V"⟩
abbrev cX5_addSign : ByteArray := prog_7_method_3_code
def yX5_addSign : MethodName := ⟨RX5, "addSign", "(I)V"⟩
def RX6 : String := "VoiceShaper$Shape"
def TX6 : u_T := fun k => match k with
  | 0 => ("VoiceShaper$Shape", "parting", "LVoiceShaper$Parting;", true)
  | 1 => ("VoiceShaper$Shape", "rows", "[[I", true)
  | 2 => ("VoiceShaper$Shape", "readingNumber", "I", false)
  | 3 => ("VoiceShaper$Shape", "size", "I", false)
  | _ => ("VoiceShaper$Shape", "isFit", "Z", false)
def tyX6 : Nat → FieldType := fun k => match k with
  | 0 => .object "VoiceShaper$Parting"
  | 1 => .array (.array .int)
  | 2 => .int
  | 3 => .int
  | _ => .boolean
abbrev wsX60 : List Cond := u_ws RX6 TX6 5
theorem nmX6 : ∀ a, a < 5 → ∀ b, b < 5 → a ≠ b → (TX6 a).2.1 ≠ (TX6 b).2.1 := by decide +kernel
theorem tyX6_ok : ∀ k, k < 5 → parseFieldDescriptor (TX6 k).2.2.1 = some (tyX6 k) := by decide +kernel
abbrev cX6_init : ByteArray := prog_8_method_1_code
def yX6_init : MethodName := ⟨RX6, "<init>", "()V"⟩
abbrev cX6_layOut : ByteArray := prog_8_method_2_code
def yX6_layOut : MethodName := ⟨RX6, "layOut", "(LVoiceShaper$Reading;I)V"⟩
abbrev cX6_layWord : ByteArray := prog_8_method_3_code
def yX6_layWord : MethodName := ⟨RX6, "layWord", "(LVoiceShaper$Reading;III)V"⟩
abbrev cX6_applyLines : ByteArray := prog_8_method_4_code
def yX6_applyLines : MethodName := ⟨RX6, "applyLines", "(LVoiceShaper$Rules;LVoiceShaper$Calculator;)V"⟩
abbrev cX6_applyLine : ByteArray := prog_8_method_5_code
def yX6_applyLine : MethodName := ⟨RX6, "applyLine", "(LVoiceShaper$Rules;ILVoiceShaper$Calculator;I)V"⟩
abbrev cX6_applyMarks : ByteArray := prog_8_method_6_code
def yX6_applyMarks : MethodName := ⟨RX6, "applyMarks", "(LVoiceShaper$Reading;)V"⟩
abbrev cX6_settleHeights : ByteArray := prog_8_method_7_code
def yX6_settleHeights : MethodName := ⟨RX6, "settleHeights", "(LVoiceShaper$Reading;LVoiceShaper$Manner;)V"⟩
abbrev cX6_bringNear : ByteArray := prog_8_method_8_code
def yX6_bringNear : MethodName := ⟨RX6, "bringNear", "(III)I"⟩
abbrev cX6_tellLengths : ByteArray := prog_8_method_9_code
def yX6_tellLengths : MethodName := ⟨RX6, "tellLengths", "(II)V"⟩
abbrev cX6_firstUnlike : ByteArray := prog_8_method_10_code
def yX6_firstUnlike : MethodName := ⟨RX6, "firstUnlike", "(LVoiceShaper$Shape;)I"⟩
abbrev cX6_isAlikeAt : ByteArray := prog_8_method_11_code
def yX6_isAlikeAt : MethodName := ⟨RX6, "isAlikeAt", "(LVoiceShaper$Shape;I)Z"⟩
def RX7 : String := "VoiceShaper$Tape"
def TX7 : u_T := fun k => match k with
  | 0 => ("VoiceShaper$Tape", "signs", "[B", true)
  | _ => ("VoiceShaper$Tape", "size", "I", false)
def tyX7 : Nat → FieldType := fun k => match k with
  | 0 => .array .byte
  | _ => .int
abbrev wsX70 : List Cond := u_ws RX7 TX7 2
theorem nmX7 : ∀ a, a < 2 → ∀ b, b < 2 → a ≠ b → (TX7 a).2.1 ≠ (TX7 b).2.1 := by decide +kernel
theorem tyX7_ok : ∀ k, k < 2 → parseFieldDescriptor (TX7 k).2.2.1 = some (tyX7 k) := by decide +kernel
abbrev cX7_init : ByteArray := prog_9_method_1_code
def yX7_init : MethodName := ⟨RX7, "<init>", "()V"⟩
abbrev cX7_layBytes : ByteArray := prog_9_method_2_code
def yX7_layBytes : MethodName := ⟨RX7, "layBytes", "(J)V"⟩
def RX8 : String := "VoiceShaper$Tokens"
def TX8 : u_T := fun k => match k with
  | 0 => ("VoiceShaper$Tokens", "kinds", "[I", true)
  | 1 => ("VoiceShaper$Tokens", "places", "[I", true)
  | _ => ("VoiceShaper$Tokens", "many", "I", false)
def tyX8 : Nat → FieldType := fun k => match k with
  | 0 => .array .int
  | 1 => .array .int
  | _ => .int
abbrev wsX80 : List Cond := u_ws RX8 TX8 3
theorem nmX8 : ∀ a, a < 3 → ∀ b, b < 3 → a ≠ b → (TX8 a).2.1 ≠ (TX8 b).2.1 := by decide +kernel
theorem tyX8_ok : ∀ k, k < 3 → parseFieldDescriptor (TX8 k).2.2.1 = some (tyX8 k) := by decide +kernel
abbrev cX8_init : ByteArray := prog_10_method_1_code
def yX8_init : MethodName := ⟨RX8, "<init>", "(I)V"⟩
abbrev cX8_cutText : ByteArray := prog_10_method_2_code
def yX8_cutText : MethodName := ⟨RX8, "cutText", "(LVoiceShaper$Tape;)V"⟩
abbrev cX8_cutOne : ByteArray := prog_10_method_3_code
def yX8_cutOne : MethodName := ⟨RX8, "cutOne", "(LVoiceShaper$Tape;I)I"⟩
abbrev cX8_isLetter : ByteArray := prog_10_method_4_code
def yX8_isLetter : MethodName := ⟨RX8, "isLetter", "(I)Z"⟩
abbrev cX8_endOfRun : ByteArray := prog_10_method_5_code
def yX8_endOfRun : MethodName := ⟨RX8, "endOfRun", "(LVoiceShaper$Tape;III)I"⟩
abbrev cX8_nameAt : ByteArray := prog_10_method_6_code
def yX8_nameAt : MethodName := ⟨RX8, "nameAt", "(LVoiceShaper$Tape;II)I"⟩
abbrev cX8_isName : ByteArray := prog_10_method_7_code
def yX8_isName : MethodName := ⟨RX8, "isName", "(ILVoiceShaper$Tape;II)Z"⟩
abbrev cX8_numberAt : ByteArray := prog_10_method_8_code
def yX8_numberAt : MethodName := ⟨RX8, "numberAt", "(LVoiceShaper$Tape;II)I"⟩
abbrev cX8_addToken : ByteArray := prog_10_method_9_code
def yX8_addToken : MethodName := ⟨RX8, "addToken", "(II)V"⟩
def RX9 : String := "VoiceShaper"
def TX9 : u_T := fun k => match k with
  | 0 => ("VoiceShaper", "readings", "[LVoiceShaper$Reading;", true)
  | 1 => ("VoiceShaper", "readingCount", "I", false)
  | 2 => ("VoiceShaper", "inHand", "I", false)
  | 3 => ("VoiceShaper", "manners", "[LVoiceShaper$Manner;", true)
  | 4 => ("VoiceShaper", "mannerInHand", "I", false)
  | 5 => ("VoiceShaper", "idealSyllables", "I", false)
  | 6 => ("VoiceShaper", "speedOver", "I", false)
  | 7 => ("VoiceShaper", "speedUnder", "I", false)
  | 8 => ("VoiceShaper", "tape", "LVoiceShaper$Tape;", true)
  | 9 => ("VoiceShaper", "calculator", "LVoiceShaper$Calculator;", true)
  | 10 => ("VoiceShaper", "mainShape", "LVoiceShaper$Shape;", true)
  | _ => ("VoiceShaper", "otherShape", "LVoiceShaper$Shape;", true)
def tyX9 : Nat → FieldType := fun k => match k with
  | 0 => .array (.object "VoiceShaper$Reading")
  | 1 => .int
  | 2 => .int
  | 3 => .array (.object "VoiceShaper$Manner")
  | 4 => .int
  | 5 => .int
  | 6 => .int
  | 7 => .int
  | 8 => .object "VoiceShaper$Tape"
  | 9 => .object "VoiceShaper$Calculator"
  | 10 => .object "VoiceShaper$Shape"
  | _ => .object "VoiceShaper$Shape"
abbrev wsX90 : List Cond := u_ws RX9 TX9 12
theorem nmX9 : ∀ a, a < 12 → ∀ b, b < 12 → a ≠ b → (TX9 a).2.1 ≠ (TX9 b).2.1 := by decide +kernel
theorem tyX9_ok : ∀ k, k < 12 → parseFieldDescriptor (TX9 k).2.2.1 = some (tyX9 k) := by decide +kernel
abbrev cX9_init : ByteArray := prog_1_method_1_code
def yX9_init : MethodName := ⟨RX9, "<init>", "()V"⟩
abbrev cX9_word : ByteArray := prog_1_method_2_code
def yX9_word : MethodName := ⟨RX9, "word", "(IIIZZ)I"⟩
abbrev cX9_change : ByteArray := prog_1_method_3_code
def yX9_change : MethodName := ⟨RX9, "change", "(IIIIZZ)Z"⟩
abbrev cX9_reading : ByteArray := prog_1_method_4_code
def yX9_reading : MethodName := ⟨RX9, "reading", "()I"⟩
abbrev cX9_take : ByteArray := prog_1_method_5_code
def yX9_take : MethodName := ⟨RX9, "take", "(I)Z"⟩
abbrev cX9_tune : ByteArray := prog_1_method_6_code
def yX9_tune : MethodName := ⟨RX9, "tune", "(I)Z"⟩
abbrev cX9_ideal : ByteArray := prog_1_method_7_code
def yX9_ideal : MethodName := ⟨RX9, "ideal", "(I)Z"⟩
abbrev cX9_manner : ByteArray := prog_1_method_8_code
def yX9_manner : MethodName := ⟨RX9, "manner", "(IIII)Z"⟩
abbrev cX9_feed : ByteArray := prog_1_method_9_code
def yX9_feed : MethodName := ⟨RX9, "feed", "(JJJ)I"⟩
abbrev cX9_rules : ByteArray := prog_1_method_10_code
def yX9_rules : MethodName := ⟨RX9, "rules", "()I"⟩
abbrev cX9_hand : ByteArray := prog_1_method_11_code
def yX9_hand : MethodName := ⟨RX9, "hand", "(III)Z"⟩
abbrev cX9_speed : ByteArray := prog_1_method_12_code
def yX9_speed : MethodName := ⟨RX9, "speed", "(II)Z"⟩
abbrev cX9_phrases : ByteArray := prog_1_method_13_code
def yX9_phrases : MethodName := ⟨RX9, "phrases", "()I"⟩
abbrev cX9_phrase : ByteArray := prog_1_method_14_code
def yX9_phrase : MethodName := ⟨RX9, "phrase", "(II)I"⟩
abbrev cX9_shape : ByteArray := prog_1_method_15_code
def yX9_shape : MethodName := ⟨RX9, "shape", "(II)I"⟩
abbrev cX9_fit : ByteArray := prog_1_method_16_code
def yX9_fit : MethodName := ⟨RX9, "fit", "()I"⟩
abbrev cX9_pause : ByteArray := prog_1_method_17_code
def yX9_pause : MethodName := ⟨RX9, "pause", "(II)I"⟩
abbrev cX9_apart : ByteArray := prog_1_method_18_code
def yX9_apart : MethodName := ⟨RX9, "apart", "(II)I"⟩
abbrev cX9_count : ByteArray := prog_1_method_19_code
def yX9_count : MethodName := ⟨RX9, "count", "(I)I"⟩
abbrev cX9_isReading : ByteArray := prog_1_method_20_code
def yX9_isReading : MethodName := ⟨RX9, "isReading", "(I)Z"⟩
abbrev cX9_isWithin : ByteArray := prog_1_method_21_code
def yX9_isWithin : MethodName := ⟨RX9, "isWithin", "(III)Z"⟩
abbrev cX9_isWord : ByteArray := prog_1_method_22_code
def yX9_isWord : MethodName := ⟨RX9, "isWord", "(III)Z"⟩
abbrev cX9_bringWithin : ByteArray := prog_1_method_23_code
def yX9_bringWithin : MethodName := ⟨RX9, "bringWithin", "(III)I"⟩
abbrev cX9_shapeInHand : ByteArray := prog_1_method_24_code
def yX9_shapeInHand : MethodName := ⟨RX9, "shapeInHand", "()LVoiceShaper$Shape;"⟩
abbrev cX9_prepare : ByteArray := prog_1_method_25_code
def yX9_prepare : MethodName := ⟨RX9, "prepare", "(LVoiceShaper$Shape;I)V"⟩
abbrev cX9_forgetShapes : ByteArray := prog_1_method_26_code
def yX9_forgetShapes : MethodName := ⟨RX9, "forgetShapes", "()V"⟩
def RX10 : String := "VoiceShaperModel"
def TX10 : u_T := fun k => match k with
  | 0 => ("VoiceShaperModel", "thrown", "I", false)
  | 1 => ("VoiceShaperModel", "tape", "[I", true)
  | 2 => ("VoiceShaperModel", "taped", "I", false)
  | 3 => ("VoiceShaperModel", "size", "I", false)
  | 4 => ("VoiceShaperModel", "sort", "[I", true)
  | 5 => ("VoiceShaperModel", "place", "[I", true)
  | 6 => ("VoiceShaperModel", "value", "[J", true)
  | 7 => ("VoiceShaperModel", "at", "I", false)
  | 8 => ("VoiceShaperModel", "fault", "I", false)
  | 9 => ("VoiceShaperModel", "words", "[J", true)
  | 10 => ("VoiceShaperModel", "manner", "I", false)
  | 11 => ("VoiceShaperModel", "low", "[I", true)
  | 12 => ("VoiceShaperModel", "high", "[I", true)
  | 13 => ("VoiceShaperModel", "slope", "[I", true)
  | 14 => ("VoiceShaperModel", "lines", "[I", true)
  | 15 => ("VoiceShaperModel", "isAdd", "[Z", true)
  | 16 => ("VoiceShaperModel", "valueOf", "[I", true)
  | 17 => ("VoiceShaperModel", "valueAt", "[I", true)
  | 18 => ("VoiceShaperModel", "whenAt", "[I", true)
  | 19 => ("VoiceShaperModel", "op", "[I", true)
  | 20 => ("VoiceShaperModel", "one", "[I", true)
  | 21 => ("VoiceShaperModel", "codes", "I", false)
  | 22 => ("VoiceShaperModel", "deep", "I", false)
  | 23 => ("VoiceShaperModel", "sumWaits", "[I", true)
  | 24 => ("VoiceShaperModel", "signWaits", "[I", true)
  | 25 => ("VoiceShaperModel", "andWaits", "[I", true)
  | 26 => ("VoiceShaperModel", "known", "[I", true)
  | 27 => ("VoiceShaperModel", "pile", "[I", true)
  | 28 => ("VoiceShaperModel", "readings", "I", false)
  | 29 => ("VoiceShaperModel", "hand", "I", false)
  | 30 => ("VoiceShaperModel", "many", "[I", true)
  | 31 => ("VoiceShaperModel", "sounds", "[I", true)
  | 32 => ("VoiceShaperModel", "stressed", "[I", true)
  | 33 => ("VoiceShaperModel", "bond", "[I", true)
  | 34 => ("VoiceShaperModel", "isNew", "[Z", true)
  | 35 => ("VoiceShaperModel", "isContrast", "[Z", true)
  | 36 => ("VoiceShaperModel", "tunes", "[I", true)
  | 37 => ("VoiceShaperModel", "hands", "[I", true)
  | 38 => ("VoiceShaperModel", "ideal", "I", false)
  | 39 => ("VoiceShaperModel", "speedP", "I", false)
  | 40 => ("VoiceShaperModel", "speedQ", "I", false)
  | 41 => ("VoiceShaperModel", "least", "[I", true)
  | 42 => ("VoiceShaperModel", "phrases", "I", false)
  | 43 => ("VoiceShaperModel", "firstWord", "[I", true)
  | 44 => ("VoiceShaperModel", "wordsIn", "[I", true)
  | 45 => ("VoiceShaperModel", "soundsIn", "[I", true)
  | 46 => ("VoiceShaperModel", "isAccented", "[Z", true)
  | 47 => ("VoiceShaperModel", "sounding", "I", false)
  | 48 => ("VoiceShaperModel", "wordOf", "[I", true)
  | 49 => ("VoiceShaperModel", "phraseOf", "[I", true)
  | 50 => ("VoiceShaperModel", "placeIn", "[I", true)
  | 51 => ("VoiceShaperModel", "isEnd", "[Z", true)
  | 52 => ("VoiceShaperModel", "shape", "[I", true)
  | 53 => ("VoiceShaperModel", "pauses", "[I", true)
  | 54 => ("VoiceShaperModel", "rest", "[I", true)
  | 55 => ("VoiceShaperModel", "others", "I", false)
  | _ => ("VoiceShaperModel", "other", "[I", true)
def tyX10 : Nat → FieldType := fun k => match k with
  | 0 => .int
  | 1 => .array .int
  | 2 => .int
  | 3 => .int
  | 4 => .array .int
  | 5 => .array .int
  | 6 => .array .long
  | 7 => .int
  | 8 => .int
  | 9 => .array .long
  | 10 => .int
  | 11 => .array .int
  | 12 => .array .int
  | 13 => .array .int
  | 14 => .array .int
  | 15 => .array .boolean
  | 16 => .array .int
  | 17 => .array .int
  | 18 => .array .int
  | 19 => .array .int
  | 20 => .array .int
  | 21 => .int
  | 22 => .int
  | 23 => .array .int
  | 24 => .array .int
  | 25 => .array .int
  | 26 => .array .int
  | 27 => .array .int
  | 28 => .int
  | 29 => .int
  | 30 => .array .int
  | 31 => .array .int
  | 32 => .array .int
  | 33 => .array .int
  | 34 => .array .boolean
  | 35 => .array .boolean
  | 36 => .array .int
  | 37 => .array .int
  | 38 => .int
  | 39 => .int
  | 40 => .int
  | 41 => .array .int
  | 42 => .int
  | 43 => .array .int
  | 44 => .array .int
  | 45 => .array .int
  | 46 => .array .boolean
  | 47 => .int
  | 48 => .array .int
  | 49 => .array .int
  | 50 => .array .int
  | 51 => .array .boolean
  | 52 => .array .int
  | 53 => .array .int
  | 54 => .array .int
  | 55 => .int
  | _ => .array .int
abbrev wsX100 : List Cond := u_ws RX10 TX10 57
theorem nmX10 : ∀ a, a < 57 → ∀ b, b < 57 → a ≠ b → (TX10 a).2.1 ≠ (TX10 b).2.1 := by decide +kernel
theorem tyX10_ok : ∀ k, k < 57 → parseFieldDescriptor (TX10 k).2.2.1 = some (tyX10 k) := by decide +kernel
abbrev cX10_thrown : ByteArray := prog_12_method_1_code
def yX10_thrown : MethodName := ⟨RX10, "thrown", "()I"⟩
abbrev cX10_feed : ByteArray := prog_12_method_2_code
def yX10_feed : MethodName := ⟨RX10, "feed", "(JJJ)I"⟩
abbrev cX10_lay : ByteArray := prog_12_method_3_code
def yX10_lay : MethodName := ⟨RX10, "lay", "(J)V"⟩
abbrev cX10_init : ByteArray := prog_12_method_4_code
def yX10_init : MethodName := ⟨RX10, "<init>", "()V"⟩
abbrev cX10_isLetter : ByteArray := prog_12_method_5_code
def yX10_isLetter : MethodName := ⟨RX10, "isLetter", "(I)Z"⟩
abbrev cX10_isDigit : ByteArray := prog_12_method_6_code
def yX10_isDigit : MethodName := ⟨RX10, "isDigit", "(I)Z"⟩
abbrev cX10_rank : ByteArray := prog_12_method_7_code
def yX10_rank : MethodName := ⟨RX10, "rank", "(I)I"⟩
abbrev cX10_isSignOf : ByteArray := prog_12_method_8_code
def yX10_isSignOf : MethodName := ⟨RX10, "isSignOf", "(I)Z"⟩
abbrev cX10_cutAll : ByteArray := prog_12_method_9_code
def yX10_cutAll : MethodName := ⟨RX10, "cutAll", "()V"⟩
abbrev cX10_wrong : ByteArray := prog_12_method_10_code
def yX10_wrong : MethodName := ⟨RX10, "wrong", "(I)V"⟩
abbrev cX10_isSign : ByteArray := prog_12_method_11_code
def yX10_isSign : MethodName := ⟨RX10, "isSign", "(I)Z"⟩
abbrev cX10_isWord : ByteArray := prog_12_method_12_code
def yX10_isWord : MethodName := ⟨RX10, "isWord", "(I)Z"⟩
abbrev cX10_takeSign : ByteArray := prog_12_method_13_code
def yX10_takeSign : MethodName := ⟨RX10, "takeSign", "(I)V"⟩
abbrev cX10_hasSign : ByteArray := prog_12_method_14_code
def yX10_hasSign : MethodName := ⟨RX10, "hasSign", "(I)Z"⟩
abbrev cX10_hasWord : ByteArray := prog_12_method_15_code
def yX10_hasWord : MethodName := ⟨RX10, "hasWord", "(I)Z"⟩
abbrev cX10_emit : ByteArray := prog_12_method_17_code
def yX10_emit : MethodName := ⟨RX10, "emit", "(II)V"⟩
abbrev cX10_rules : ByteArray := prog_12_method_18_code
def yX10_rules : MethodName := ⟨RX10, "rules", "()I"⟩
abbrev cX10_keeps : ByteArray := prog_12_method_19_code
def yX10_keeps : MethodName := ⟨RX10, "keeps", "()V"⟩
abbrev cX10_line : ByteArray := prog_12_method_20_code
def yX10_line : MethodName := ⟨RX10, "line", "()V"⟩
abbrev cX10_expression : ByteArray := prog_12_method_21_code
def yX10_expression : MethodName := ⟨RX10, "expression", "()V"⟩
abbrev cX10_opens : ByteArray := prog_12_method_22_code
def yX10_opens : MethodName := ⟨RX10, "opens", "()V"⟩
abbrev cX10_partWord : ByteArray := prog_12_method_23_code
def yX10_partWord : MethodName := ⟨RX10, "partWord", "()I"⟩
abbrev cX10_part : ByteArray := prog_12_method_24_code
def yX10_part : MethodName := ⟨RX10, "part", "()Z"⟩
abbrev cX10_goesOnBehind : ByteArray := prog_12_method_25_code
def yX10_goesOnBehind : MethodName := ⟨RX10, "goesOnBehind", "()Z"⟩
abbrev cX10_worth : ByteArray := prog_12_method_26_code
def yX10_worth : MethodName := ⟨RX10, "worth", "(I)I"⟩
abbrev cX10_manner : ByteArray := prog_12_method_27_code
def yX10_manner : MethodName := ⟨RX10, "manner", "(IIII)Z"⟩
abbrev cX10_isWordSo : ByteArray := prog_12_method_28_code
def yX10_isWordSo : MethodName := ⟨RX10, "isWordSo", "(III)Z"⟩
abbrev cX10_tells : ByteArray := prog_12_method_29_code
def yX10_tells : MethodName := ⟨RX10, "tells", "(IIIIZZ)V"⟩
abbrev cX10_word : ByteArray := prog_12_method_30_code
def yX10_word : MethodName := ⟨RX10, "word", "(IIIZZ)I"⟩
abbrev cX10_change : ByteArray := prog_12_method_31_code
def yX10_change : MethodName := ⟨RX10, "change", "(IIIIZZ)Z"⟩
abbrev cX10_reading : ByteArray := prog_12_method_32_code
def yX10_reading : MethodName := ⟨RX10, "reading", "()I"⟩
abbrev cX10_isReading : ByteArray := prog_12_method_33_code
def yX10_isReading : MethodName := ⟨RX10, "isReading", "(I)Z"⟩
abbrev cX10_take : ByteArray := prog_12_method_34_code
def yX10_take : MethodName := ⟨RX10, "take", "(I)Z"⟩
abbrev cX10_tune : ByteArray := prog_12_method_35_code
def yX10_tune : MethodName := ⟨RX10, "tune", "(I)Z"⟩
abbrev cX10_ideal : ByteArray := prog_12_method_36_code
def yX10_ideal : MethodName := ⟨RX10, "ideal", "(I)Z"⟩
abbrev cX10_speed : ByteArray := prog_12_method_37_code
def yX10_speed : MethodName := ⟨RX10, "speed", "(II)Z"⟩
abbrev cX10_soundsOf : ByteArray := prog_12_method_38_code
def yX10_soundsOf : MethodName := ⟨RX10, "soundsOf", "(I)I"⟩
abbrev cX10_hand : ByteArray := prog_12_method_39_code
def yX10_hand : MethodName := ⟨RX10, "hand", "(III)Z"⟩
abbrev cX10_costOf : ByteArray := prog_12_method_40_code
def yX10_costOf : MethodName := ⟨RX10, "costOf", "(III)I"⟩
abbrev cX10_findPhrases : ByteArray := prog_12_method_41_code
def yX10_findPhrases : MethodName := ⟨RX10, "findPhrases", "(I)V"⟩
abbrev cX10_accents : ByteArray := prog_12_method_42_code
def yX10_accents : MethodName := ⟨RX10, "accents", "(II)I"⟩
abbrev cX10_phrases : ByteArray := prog_12_method_43_code
def yX10_phrases : MethodName := ⟨RX10, "phrases", "()I"⟩
abbrev cX10_phrase : ByteArray := prog_12_method_44_code
def yX10_phrase : MethodName := ⟨RX10, "phrase", "(II)I"⟩
abbrev cX10_setsOut : ByteArray := prog_12_method_45_code
def yX10_setsOut : MethodName := ⟨RX10, "setsOut", "(I)V"⟩
abbrev cX10_knows : ByteArray := prog_12_method_46_code
def yX10_knows : MethodName := ⟨RX10, "knows", "(II)V"⟩
abbrev cX10_within : ByteArray := prog_12_method_47_code
def yX10_within : MethodName := ⟨RX10, "within", "(III)I"⟩
abbrev cX10_works : ByteArray := prog_12_method_48_code
def yX10_works : MethodName := ⟨RX10, "works", "(II)V"⟩
abbrev cX10_handOf : ByteArray := prog_12_method_49_code
def yX10_handOf : MethodName := ⟨RX10, "handOf", "(III)I"⟩
abbrev cX10_shapes : ByteArray := prog_12_method_50_code
def yX10_shapes : MethodName := ⟨RX10, "shapes", "(I)V"⟩
abbrev cX10_nears : ByteArray := prog_12_method_51_code
def yX10_nears : MethodName := ⟨RX10, "nears", "(III)V"⟩
abbrev cX10_told : ByteArray := prog_12_method_52_code
def yX10_told : MethodName := ⟨RX10, "told", "(I)I"⟩
abbrev cX10_shape : ByteArray := prog_12_method_53_code
def yX10_shape : MethodName := ⟨RX10, "shape", "(II)I"⟩
abbrev cX10_fit : ByteArray := prog_12_method_54_code
def yX10_fit : MethodName := ⟨RX10, "fit", "()I"⟩
abbrev cX10_pause : ByteArray := prog_12_method_55_code
def yX10_pause : MethodName := ⟨RX10, "pause", "(II)I"⟩
abbrev cX10_apart : ByteArray := prog_12_method_56_code
def yX10_apart : MethodName := ⟨RX10, "apart", "(II)I"⟩
abbrev cX10_isAlike : ByteArray := prog_12_method_57_code
def yX10_isAlike : MethodName := ⟨RX10, "isAlike", "(I)Z"⟩
abbrev cX10_count : ByteArray := prog_12_method_58_code
def yX10_count : MethodName := ⟨RX10, "count", "(I)I"⟩
def RJ11 : String := "java/lang/Character"
def TJ11 : u_T := fun k => match k with
  | _ => ("", "", "", false)
def tyJ11 : Nat → FieldType := fun k => match k with
  | _ => .int
abbrev wsJ110 : List Cond := u_ws RJ11 TJ11 0
theorem nmJ11 : ∀ a, a < 0 → ∀ b, b < 0 → a ≠ b → (TJ11 a).2.1 ≠ (TJ11 b).2.1 := by decide +kernel
theorem tyJ11_ok : ∀ k, k < 0 → parseFieldDescriptor (TJ11 k).2.2.1 = some (tyJ11 k) := by decide +kernel
abbrev cJ11_isValidCodePoint_9a6ad : ByteArray := prog_13_method_11_code
def yJ11_isValidCodePoint_9a6ad : MethodName := ⟨RJ11, "isValidCodePoint", "(I)Z"⟩
abbrev cJ11_highSurrogate_5068e : ByteArray := prog_13_method_28_code
def yJ11_highSurrogate_5068e : MethodName := ⟨RJ11, "highSurrogate", "(I)C"⟩
abbrev cJ11_lowSurrogate_5068e : ByteArray := prog_13_method_29_code
def yJ11_lowSurrogate_5068e : MethodName := ⟨RJ11, "lowSurrogate", "(I)C"⟩
def RJ9 : String := "java/lang/Math"
def TJ9 : u_T := fun k => match k with
  | _ => ("", "", "", false)
def tyJ9 : Nat → FieldType := fun k => match k with
  | _ => .int
abbrev wsJ90 : List Cond := u_ws RJ9 TJ9 0
theorem nmJ9 : ∀ a, a < 0 → ∀ b, b < 0 → a ≠ b → (TJ9 a).2.1 ≠ (TJ9 b).2.1 := by decide +kernel
theorem tyJ9_ok : ∀ k, k < 0 → parseFieldDescriptor (TJ9 k).2.2.1 = some (tyJ9 k) := by decide +kernel
abbrev cJ9_abs_0f7a4 : ByteArray := prog_15_method_59_code
def yJ9_abs_0f7a4 : MethodName := ⟨RJ9, "abs", "(I)I"⟩
abbrev cJ9_max_7cf53 : ByteArray := prog_15_method_65_code
def yJ9_max_7cf53 : MethodName := ⟨RJ9, "max", "(II)I"⟩
abbrev cJ9_min_7cf53 : ByteArray := prog_15_method_69_code
def yJ9_min_7cf53 : MethodName := ⟨RJ9, "min", "(II)I"⟩
def RJ0 : String := "java/lang/String"
def TJ0 : u_T := fun k => match k with
  | _ => ("", "", "", false)
def tyJ0 : Nat → FieldType := fun k => match k with
  | _ => .int
abbrev wsJ00 : List Cond := u_ws RJ0 TJ0 0
theorem nmJ0 : ∀ a, a < 0 → ∀ b, b < 0 → a ≠ b → (TJ0 a).2.1 ≠ (TJ0 b).2.1 := by decide +kernel
theorem tyJ0_ok : ∀ k, k < 0 → parseFieldDescriptor (TJ0 k).2.2.1 = some (tyJ0 k) := by decide +kernel
abbrev cJ0_length_8abf5 : ByteArray := prog_17_method_54_code
def yJ0_length_8abf5 : MethodName := ⟨RJ0, "length", "()I"⟩
abbrev cJ0_charAt_5068e : ByteArray := prog_17_method_56_code
def yJ0_charAt_5068e : MethodName := ⟨RJ0, "charAt", "(I)C"⟩
abbrev cJ0_indexOf_0f7a4 : ByteArray := prog_17_method_79_code
def yJ0_indexOf_0f7a4 : MethodName := ⟨RJ0, "indexOf", "(I)I"⟩
abbrev cJ0_indexOf_7cf53 : ByteArray := prog_17_method_80_code
def yJ0_indexOf_7cf53 : MethodName := ⟨RJ0, "indexOf", "(II)I"⟩
abbrev cJ0_coder_7d493 : ByteArray := prog_17_method_152_code
def yJ0_coder_7d493 : MethodName := ⟨RJ0, "coder", "()B"⟩
abbrev cJ0_isLatin1_aae02 : ByteArray := prog_17_method_154_code
def yJ0_isLatin1_aae02 : MethodName := ⟨RJ0, "isLatin1", "()Z"⟩
abbrev cJ0_checkIndex_df160 : ByteArray := prog_17_method_155_code
def yJ0_checkIndex_df160 : MethodName := ⟨RJ0, "checkIndex", "(II)V"⟩
abbrev cJ0_checkBoundsBeginEnd_23922 : ByteArray := prog_17_method_158_code
def yJ0_checkBoundsBeginEnd_23922 : MethodName := ⟨RJ0, "checkBoundsBeginEnd", "(III)V"⟩
def RJ1 : String := "java/lang/StringLatin1"
def TJ1 : u_T := fun k => match k with
  | _ => ("", "", "", false)
def tyJ1 : Nat → FieldType := fun k => match k with
  | _ => .int
abbrev wsJ10 : List Cond := u_ws RJ1 TJ1 0
theorem nmJ1 : ∀ a, a < 0 → ∀ b, b < 0 → a ≠ b → (TJ1 a).2.1 ≠ (TJ1 b).2.1 := by decide +kernel
theorem tyJ1_ok : ∀ k, k < 0 → parseFieldDescriptor (TJ1 k).2.2.1 = some (tyJ1 k) := by decide +kernel
abbrev cJ1_charAt_3b067 : ByteArray := prog_18_method_2_code
def yJ1_charAt_3b067 : MethodName := ⟨RJ1, "charAt", "([BI)C"⟩
abbrev cJ1_canEncode_9a6ad : ByteArray := prog_18_method_4_code
def yJ1_canEncode_9a6ad : MethodName := ⟨RJ1, "canEncode", "(I)Z"⟩
abbrev cJ1_indexOf_4cfef : ByteArray := prog_18_method_22_code
def yJ1_indexOf_4cfef : MethodName := ⟨RJ1, "indexOf", "([BIII)I"⟩
abbrev cJ1_indexOfChar_4cfef : ByteArray := prog_18_method_23_code
def yJ1_indexOfChar_4cfef : MethodName := ⟨RJ1, "indexOfChar", "([BIII)I"⟩
def RJ2 : String := "java/lang/StringUTF16"
def TJ2 : u_T := fun k => match k with
  | _ => ("", "", "", false)
def tyJ2 : Nat → FieldType := fun k => match k with
  | _ => .int
abbrev wsJ20 : List Cond := u_ws RJ2 TJ2 0
theorem nmJ2 : ∀ a, a < 0 → ∀ b, b < 0 → a ≠ b → (TJ2 a).2.1 ≠ (TJ2 b).2.1 := by decide +kernel
theorem tyJ2_ok : ∀ k, k < 0 → parseFieldDescriptor (TJ2 k).2.2.1 = some (tyJ2 k) := by decide +kernel
abbrev cJ2_getChar_3b067 : ByteArray := prog_19_method_5_code
def yJ2_getChar_3b067 : MethodName := ⟨RJ2, "getChar", "([BI)C"⟩
abbrev cJ2_length_9d52b : ByteArray := prog_19_method_6_code
def yJ2_length_9d52b : MethodName := ⟨RJ2, "length", "([B)I"⟩
abbrev cJ2_indexOf_4cfef : ByteArray := prog_19_method_40_code
def yJ2_indexOf_4cfef : MethodName := ⟨RJ2, "indexOf", "([BIII)I"⟩
abbrev cJ2_indexOfChar_4cfef : ByteArray := prog_19_method_47_code
def yJ2_indexOfChar_4cfef : MethodName := ⟨RJ2, "indexOfChar", "([BIII)I"⟩
abbrev cJ2_indexOfCharUnsafe_4cfef : ByteArray := prog_19_method_48_code
def yJ2_indexOfCharUnsafe_4cfef : MethodName := ⟨RJ2, "indexOfCharUnsafe", "([BIII)I"⟩
abbrev cJ2_indexOfSupplementary_4cfef : ByteArray := prog_19_method_49_code
def yJ2_indexOfSupplementary_4cfef : MethodName := ⟨RJ2, "indexOfSupplementary", "([BIII)I"⟩
abbrev cJ2_charAt_3b067 : ByteArray := prog_19_method_83_code
def yJ2_charAt_3b067 : MethodName := ⟨RJ2, "charAt", "([BI)C"⟩
abbrev cJ2_checkIndex_2214a : ByteArray := prog_19_method_91_code
def yJ2_checkIndex_2214a : MethodName := ⟨RJ2, "checkIndex", "(I[B)V"⟩
abbrev cJ2_checkBoundsBeginEnd_d044e : ByteArray := prog_19_method_93_code
def yJ2_checkBoundsBeginEnd_d044e : MethodName := ⟨RJ2, "checkBoundsBeginEnd", "(II[B)V"⟩
def RJ10 : String := "java/lang/System"
def TJ10 : u_T := fun k => match k with
  | _ => ("", "", "", false)
def tyJ10 : Nat → FieldType := fun k => match k with
  | _ => .int
abbrev wsJ100 : List Cond := u_ws RJ10 TJ10 0
theorem nmJ10 : ∀ a, a < 0 → ∀ b, b < 0 → a ≠ b → (TJ10 a).2.1 ≠ (TJ10 b).2.1 := by decide +kernel
theorem tyJ10_ok : ∀ k, k < 0 → parseFieldDescriptor (TJ10 k).2.2.1 = some (tyJ10 k) := by decide +kernel
def RJ7 : String := "java/util/Arrays"
def TJ7 : u_T := fun k => match k with
  | _ => ("", "", "", false)
def tyJ7 : Nat → FieldType := fun k => match k with
  | _ => .int
abbrev wsJ70 : List Cond := u_ws RJ7 TJ7 0
theorem nmJ7 : ∀ a, a < 0 → ∀ b, b < 0 → a ≠ b → (TJ7 a).2.1 ≠ (TJ7 b).2.1 := by decide +kernel
theorem tyJ7_ok : ∀ k, k < 0 → parseFieldDescriptor (TJ7 k).2.2.1 = some (tyJ7 k) := by decide +kernel
abbrev cJ7_fill_53178 : ByteArray := prog_22_method_103_code
def yJ7_fill_53178 : MethodName := ⟨RJ7, "fill", "([II)V"⟩
def RJ3 : String := "jdk/internal/util/Preconditions"
def TJ3 : u_T := fun k => match k with
  | _ => ("", "", "", false)
def tyJ3 : Nat → FieldType := fun k => match k with
  | _ => .int
abbrev wsJ30 : List Cond := u_ws RJ3 TJ3 0
theorem nmJ3 : ∀ a, a < 0 → ∀ b, b < 0 → a ≠ b → (TJ3 a).2.1 ≠ (TJ3 b).2.1 := by decide +kernel
theorem tyJ3_ok : ∀ k, k < 0 → parseFieldDescriptor (TJ3 k).2.2.1 = some (tyJ3 k) := by decide +kernel
abbrev cJ3_checkIndex_8e157 : ByteArray := prog_24_method_11_code
def yJ3_checkIndex_8e157 : MethodName := ⟨RJ3, "checkIndex", "(IILjava/util/function/BiFunction;)I"⟩
abbrev cJ3_checkFromToIndex_8c36e : ByteArray := prog_24_method_12_code
def yJ3_checkFromToIndex_8c36e : MethodName := ⟨RJ3, "checkFromToIndex", "(IIILjava/util/function/BiFunction;)I"⟩
def RL : String := "VoiceShaperLaw"
abbrev cL_shape : ByteArray := method_3_code
def yL_shape : MethodName := ⟨RL, "shape", "(LVoiceShaper;II[J)I"⟩
abbrev cL_law : ByteArray := code
def yL_law : MethodName := ⟨RL, "law", "([I)Z"⟩
abbrev vwCl : List vw_C := [(RX0, TX0, 2), (RX1, TX1, 5), (RX2, TX2, 4), (RX3, TX3, 8), (RX4, TX4, 9), (RX5, TX5, 8), (RX6, TX6, 5), (RX7, TX7, 2), (RX8, TX8, 3), (RX9, TX9, 12), (RX10, TX10, 57)]
end
section
theorem dX0_init_0 : decode cX0_init 0 = .ok (.aload_n 0, 1) := by decide +kernel
theorem dX0_init_1 : decode cX0_init 1 = .ok (.invokespecial 3, 3) := by decide +kernel
theorem dX0_init_4 : decode cX0_init 4 = .ok (.aload_n 0, 1) := by decide +kernel
theorem dX0_init_5 : decode cX0_init 5 = .ok (.bipush 16, 2) := by decide +kernel
theorem dX0_init_7 : decode cX0_init 7 = .ok (.newarray .int, 2) := by decide +kernel
theorem dX0_init_9 : decode cX0_init 9 = .ok (.putfield 9, 3) := by decide +kernel
theorem dX0_init_12 : decode cX0_init 12 = .ok (.aload_n 0, 1) := by decide +kernel
theorem dX0_init_13 : decode cX0_init 13 = .ok (.iconst 0, 1) := by decide +kernel
theorem dX0_init_14 : decode cX0_init 14 = .ok (.putfield 15, 3) := by decide +kernel
theorem dX0_init_17 : decode cX0_init 17 = .ok (.return_, 1) := by decide +kernel
theorem dX0_workOut_0 : decode cX0_workOut 0 = .ok (.aload_n 0, 1) := by decide +kernel
theorem dX0_workOut_1 : decode cX0_workOut 1 = .ok (.iconst 0, 1) := by decide +kernel
theorem dX0_workOut_2 : decode cX0_workOut 2 = .ok (.putfield 15, 3) := by decide +kernel
theorem dX0_workOut_5 : decode cX0_workOut 5 = .ok (.iload_n 2, 1) := by decide +kernel
theorem dX0_workOut_6 : decode cX0_workOut 6 = .ok (.istore 6, 2) := by decide +kernel
theorem dX0_workOut_8 : decode cX0_workOut 8 = .ok (.iload 6, 2) := by decide +kernel
theorem dX0_workOut_10 : decode cX0_workOut 10 = .ok (.iload_n 3, 1) := by decide +kernel
theorem dX0_workOut_11 : decode cX0_workOut 11 = .ok (.if_icmp .ge 86, 3) := by decide +kernel
theorem dX0_workOut_14 : decode cX0_workOut 14 = .ok (.aload_n 1, 1) := by decide +kernel
theorem dX0_workOut_15 : decode cX0_workOut 15 = .ok (.iload 6, 2) := by decide +kernel
theorem dX0_workOut_17 : decode cX0_workOut 17 = .ok (.iaload, 1) := by decide +kernel
theorem dX0_workOut_18 : decode cX0_workOut 18 = .ok (.ifCond .lt 14, 3) := by decide +kernel
theorem dX0_workOut_21 : decode cX0_workOut 21 = .ok (.aload_n 0, 1) := by decide +kernel
theorem dX0_workOut_22 : decode cX0_workOut 22 = .ok (.aload_n 1, 1) := by decide +kernel
theorem dX0_workOut_23 : decode cX0_workOut 23 = .ok (.iload 6, 2) := by decide +kernel
theorem dX0_workOut_25 : decode cX0_workOut 25 = .ok (.iaload, 1) := by decide +kernel
theorem dX0_workOut_26 : decode cX0_workOut 26 = .ok (.invokevirtual 19, 3) := by decide +kernel
theorem dX0_workOut_29 : decode cX0_workOut 29 = .ok (.goto 62, 3) := by decide +kernel
theorem dX0_workOut_32 : decode cX0_workOut 32 = .ok (.iconst (-1), 1) := by decide +kernel
theorem dX0_workOut_33 : decode cX0_workOut 33 = .ok (.aload_n 1, 1) := by decide +kernel
theorem dX0_workOut_34 : decode cX0_workOut 34 = .ok (.iload 6, 2) := by decide +kernel
theorem dX0_workOut_36 : decode cX0_workOut 36 = .ok (.iaload, 1) := by decide +kernel
theorem dX0_workOut_37 : decode cX0_workOut 37 = .ok (.isub, 1) := by decide +kernel
theorem dX0_workOut_38 : decode cX0_workOut 38 = .ok (.bipush 12, 2) := by decide +kernel
theorem dX0_workOut_40 : decode cX0_workOut 40 = .ok (.if_icmp .gt 22, 3) := by decide +kernel
theorem dX0_workOut_43 : decode cX0_workOut 43 = .ok (.aload_n 0, 1) := by decide +kernel
theorem dX0_workOut_44 : decode cX0_workOut 44 = .ok (.aload 4, 2) := by decide +kernel
theorem dX0_workOut_46 : decode cX0_workOut 46 = .ok (.iconst (-1), 1) := by decide +kernel
theorem dX0_workOut_47 : decode cX0_workOut 47 = .ok (.aload_n 1, 1) := by decide +kernel
theorem dX0_workOut_48 : decode cX0_workOut 48 = .ok (.iload 6, 2) := by decide +kernel
theorem dX0_workOut_50 : decode cX0_workOut 50 = .ok (.iaload, 1) := by decide +kernel
theorem dX0_workOut_51 : decode cX0_workOut 51 = .ok (.isub, 1) := by decide +kernel
theorem dX0_workOut_52 : decode cX0_workOut 52 = .ok (.aaload, 1) := by decide +kernel
theorem dX0_workOut_53 : decode cX0_workOut 53 = .ok (.iload 5, 2) := by decide +kernel
theorem dX0_workOut_55 : decode cX0_workOut 55 = .ok (.iaload, 1) := by decide +kernel
theorem dX0_workOut_56 : decode cX0_workOut 56 = .ok (.invokevirtual 19, 3) := by decide +kernel
theorem dX0_workOut_59 : decode cX0_workOut 59 = .ok (.goto 32, 3) := by decide +kernel
theorem dX0_workOut_62 : decode cX0_workOut 62 = .ok (.aload_n 0, 1) := by decide +kernel
theorem dX0_workOut_63 : decode cX0_workOut 63 = .ok (.invokevirtual 23, 3) := by decide +kernel
theorem dX0_workOut_66 : decode cX0_workOut 66 = .ok (.istore 7, 2) := by decide +kernel
theorem dX0_workOut_68 : decode cX0_workOut 68 = .ok (.aload_n 0, 1) := by decide +kernel
theorem dX0_workOut_69 : decode cX0_workOut 69 = .ok (.invokevirtual 23, 3) := by decide +kernel
theorem dX0_workOut_72 : decode cX0_workOut 72 = .ok (.istore 8, 2) := by decide +kernel
theorem dX0_workOut_74 : decode cX0_workOut 74 = .ok (.aload_n 0, 1) := by decide +kernel
theorem dX0_workOut_75 : decode cX0_workOut 75 = .ok (.iconst (-1), 1) := by decide +kernel
theorem dX0_workOut_76 : decode cX0_workOut 76 = .ok (.aload_n 1, 1) := by decide +kernel
theorem dX0_workOut_77 : decode cX0_workOut 77 = .ok (.iload 6, 2) := by decide +kernel
theorem dX0_workOut_79 : decode cX0_workOut 79 = .ok (.iaload, 1) := by decide +kernel
theorem dX0_workOut_80 : decode cX0_workOut 80 = .ok (.isub, 1) := by decide +kernel
theorem dX0_workOut_81 : decode cX0_workOut 81 = .ok (.iload 8, 2) := by decide +kernel
theorem dX0_workOut_83 : decode cX0_workOut 83 = .ok (.iload 7, 2) := by decide +kernel
theorem dX0_workOut_85 : decode cX0_workOut 85 = .ok (.invokestatic 27, 3) := by decide +kernel
theorem dX0_workOut_88 : decode cX0_workOut 88 = .ok (.invokevirtual 19, 3) := by decide +kernel
theorem dX0_workOut_91 : decode cX0_workOut 91 = .ok (.iinc 6 1, 3) := by decide +kernel
theorem dX0_workOut_94 : decode cX0_workOut 94 = .ok (.goto (-86), 3) := by decide +kernel
theorem dX0_workOut_97 : decode cX0_workOut 97 = .ok (.aload_n 0, 1) := by decide +kernel
theorem dX0_workOut_98 : decode cX0_workOut 98 = .ok (.invokevirtual 23, 3) := by decide +kernel
theorem dX0_workOut_101 : decode cX0_workOut 101 = .ok (.ireturn, 1) := by decide +kernel
theorem dX0_join_0 : decode cX0_join 0 = .ok (.iload_n 0, 1) := by decide +kernel
theorem dX0_join_1 : decode cX0_join 1 = .ok (.tableswitch 61 19 22 #[39, 50, 31, 35], 31) := by decide +kernel
theorem dX0_join_32 : decode cX0_join 32 = .ok (.iload_n 1, 1) := by decide +kernel
theorem dX0_join_33 : decode cX0_join 33 = .ok (.iload_n 2, 1) := by decide +kernel
theorem dX0_join_34 : decode cX0_join 34 = .ok (.iadd, 1) := by decide +kernel
theorem dX0_join_35 : decode cX0_join 35 = .ok (.ireturn, 1) := by decide +kernel
theorem dX0_join_36 : decode cX0_join 36 = .ok (.iload_n 1, 1) := by decide +kernel
theorem dX0_join_37 : decode cX0_join 37 = .ok (.iload_n 2, 1) := by decide +kernel
theorem dX0_join_38 : decode cX0_join 38 = .ok (.isub, 1) := by decide +kernel
theorem dX0_join_39 : decode cX0_join 39 = .ok (.ireturn, 1) := by decide +kernel
theorem dX0_join_40 : decode cX0_join 40 = .ok (.iload_n 1, 1) := by decide +kernel
theorem dX0_join_41 : decode cX0_join 41 = .ok (.iload_n 2, 1) := by decide +kernel
theorem dX0_join_42 : decode cX0_join 42 = .ok (.if_icmp .ge 7, 3) := by decide +kernel
theorem dX0_join_45 : decode cX0_join 45 = .ok (.iconst 1, 1) := by decide +kernel
theorem dX0_join_46 : decode cX0_join 46 = .ok (.goto 4, 3) := by decide +kernel
theorem dX0_join_49 : decode cX0_join 49 = .ok (.iconst 0, 1) := by decide +kernel
theorem dX0_join_50 : decode cX0_join 50 = .ok (.ireturn, 1) := by decide +kernel
theorem dX0_join_51 : decode cX0_join 51 = .ok (.iload_n 1, 1) := by decide +kernel
theorem dX0_join_52 : decode cX0_join 52 = .ok (.iload_n 2, 1) := by decide +kernel
theorem dX0_join_53 : decode cX0_join 53 = .ok (.if_icmp .ne 7, 3) := by decide +kernel
theorem dX0_join_56 : decode cX0_join 56 = .ok (.iconst 1, 1) := by decide +kernel
theorem dX0_join_57 : decode cX0_join 57 = .ok (.goto 4, 3) := by decide +kernel
theorem dX0_join_60 : decode cX0_join 60 = .ok (.iconst 0, 1) := by decide +kernel
theorem dX0_join_61 : decode cX0_join 61 = .ok (.ireturn, 1) := by decide +kernel
theorem dX0_join_62 : decode cX0_join 62 = .ok (.iload_n 1, 1) := by decide +kernel
theorem dX0_join_63 : decode cX0_join 63 = .ok (.ifCond .eq 11, 3) := by decide +kernel
theorem dX0_join_66 : decode cX0_join 66 = .ok (.iload_n 2, 1) := by decide +kernel
theorem dX0_join_67 : decode cX0_join 67 = .ok (.ifCond .eq 7, 3) := by decide +kernel
theorem dX0_join_70 : decode cX0_join 70 = .ok (.iconst 1, 1) := by decide +kernel
theorem dX0_join_71 : decode cX0_join 71 = .ok (.goto 4, 3) := by decide +kernel
theorem dX0_join_74 : decode cX0_join 74 = .ok (.iconst 0, 1) := by decide +kernel
theorem dX0_join_75 : decode cX0_join 75 = .ok (.ireturn, 1) := by decide +kernel
theorem dX0_push_0 : decode cX0_push 0 = .ok (.aload_n 0, 1) := by decide +kernel
theorem dX0_push_1 : decode cX0_push 1 = .ok (.getfield 15, 3) := by decide +kernel
theorem dX0_push_4 : decode cX0_push 4 = .ok (.aload_n 0, 1) := by decide +kernel
theorem dX0_push_5 : decode cX0_push 5 = .ok (.getfield 9, 3) := by decide +kernel
theorem dX0_push_8 : decode cX0_push 8 = .ok (.arraylength, 1) := by decide +kernel
theorem dX0_push_9 : decode cX0_push 9 = .ok (.if_icmp .ge 23, 3) := by decide +kernel
theorem dX0_push_12 : decode cX0_push 12 = .ok (.aload_n 0, 1) := by decide +kernel
theorem dX0_push_13 : decode cX0_push 13 = .ok (.getfield 9, 3) := by decide +kernel
theorem dX0_push_16 : decode cX0_push 16 = .ok (.aload_n 0, 1) := by decide +kernel
theorem dX0_push_17 : decode cX0_push 17 = .ok (.getfield 15, 3) := by decide +kernel
theorem dX0_push_20 : decode cX0_push 20 = .ok (.iload_n 1, 1) := by decide +kernel
theorem dX0_push_21 : decode cX0_push 21 = .ok (.iastore, 1) := by decide +kernel
theorem dX0_push_22 : decode cX0_push 22 = .ok (.aload_n 0, 1) := by decide +kernel
theorem dX0_push_23 : decode cX0_push 23 = .ok (.dup, 1) := by decide +kernel
theorem dX0_push_24 : decode cX0_push 24 = .ok (.getfield 15, 3) := by decide +kernel
theorem dX0_push_27 : decode cX0_push 27 = .ok (.iconst 1, 1) := by decide +kernel
theorem dX0_push_28 : decode cX0_push 28 = .ok (.iadd, 1) := by decide +kernel
theorem dX0_push_29 : decode cX0_push 29 = .ok (.putfield 15, 3) := by decide +kernel
theorem dX0_push_32 : decode cX0_push 32 = .ok (.return_, 1) := by decide +kernel
theorem dX0_pop_0 : decode cX0_pop 0 = .ok (.aload_n 0, 1) := by decide +kernel
theorem dX0_pop_1 : decode cX0_pop 1 = .ok (.getfield 15, 3) := by decide +kernel
theorem dX0_pop_4 : decode cX0_pop 4 = .ok (.ifCond .gt 5, 3) := by decide +kernel
theorem dX0_pop_7 : decode cX0_pop 7 = .ok (.iconst 0, 1) := by decide +kernel
theorem dX0_pop_8 : decode cX0_pop 8 = .ok (.ireturn, 1) := by decide +kernel
theorem dX0_pop_9 : decode cX0_pop 9 = .ok (.aload_n 0, 1) := by decide +kernel
theorem dX0_pop_10 : decode cX0_pop 10 = .ok (.dup, 1) := by decide +kernel
theorem dX0_pop_11 : decode cX0_pop 11 = .ok (.getfield 15, 3) := by decide +kernel
theorem dX0_pop_14 : decode cX0_pop 14 = .ok (.iconst 1, 1) := by decide +kernel
theorem dX0_pop_15 : decode cX0_pop 15 = .ok (.isub, 1) := by decide +kernel
theorem dX0_pop_16 : decode cX0_pop 16 = .ok (.putfield 15, 3) := by decide +kernel
theorem dX0_pop_19 : decode cX0_pop 19 = .ok (.aload_n 0, 1) := by decide +kernel
theorem dX0_pop_20 : decode cX0_pop 20 = .ok (.getfield 9, 3) := by decide +kernel
theorem dX0_pop_23 : decode cX0_pop 23 = .ok (.aload_n 0, 1) := by decide +kernel
theorem dX0_pop_24 : decode cX0_pop 24 = .ok (.getfield 15, 3) := by decide +kernel
theorem dX0_pop_27 : decode cX0_pop 27 = .ok (.iaload, 1) := by decide +kernel
theorem dX0_pop_28 : decode cX0_pop 28 = .ok (.ireturn, 1) := by decide +kernel
theorem dX1_init_0 : decode cX1_init 0 = .ok (.aload_n 0, 1) := by decide +kernel
theorem dX1_init_1 : decode cX1_init 1 = .ok (.invokespecial 3, 3) := by decide +kernel
theorem dX1_init_4 : decode cX1_init 4 = .ok (.aload_n 0, 1) := by decide +kernel
theorem dX1_init_5 : decode cX1_init 5 = .ok (.iconst 0, 1) := by decide +kernel
theorem dX1_init_6 : decode cX1_init 6 = .ok (.putfield 9, 3) := by decide +kernel
theorem dX1_init_9 : decode cX1_init 9 = .ok (.aload_n 0, 1) := by decide +kernel
theorem dX1_init_10 : decode cX1_init 10 = .ok (.bipush 24, 2) := by decide +kernel
theorem dX1_init_12 : decode cX1_init 12 = .ok (.putfield 15, 3) := by decide +kernel
theorem dX1_init_15 : decode cX1_init 15 = .ok (.aload_n 0, 1) := by decide +kernel
theorem dX1_init_16 : decode cX1_init 16 = .ok (.iconst 0, 1) := by decide +kernel
theorem dX1_init_17 : decode cX1_init 17 = .ok (.putfield 18, 3) := by decide +kernel
theorem dX1_init_20 : decode cX1_init 20 = .ok (.aload_n 0, 1) := by decide +kernel
theorem dX1_init_21 : decode cX1_init 21 = .ok (.new 21, 3) := by decide +kernel
theorem dX1_init_24 : decode cX1_init 24 = .ok (.dup, 1) := by decide +kernel
theorem dX1_init_25 : decode cX1_init 25 = .ok (.iload_n 1, 1) := by decide +kernel
theorem dX1_init_26 : decode cX1_init 26 = .ok (.invokespecial 23, 3) := by decide +kernel
theorem dX1_init_29 : decode cX1_init 29 = .ok (.putfield 26, 3) := by decide +kernel
theorem dX1_init_32 : decode cX1_init 32 = .ok (.aload_n 0, 1) := by decide +kernel
theorem dX1_init_33 : decode cX1_init 33 = .ok (.new 30, 3) := by decide +kernel
theorem dX1_init_36 : decode cX1_init 36 = .ok (.dup, 1) := by decide +kernel
theorem dX1_init_37 : decode cX1_init 37 = .ok (.iload_n 1, 1) := by decide +kernel
theorem dX1_init_38 : decode cX1_init 38 = .ok (.invokespecial 32, 3) := by decide +kernel
theorem dX1_init_41 : decode cX1_init 41 = .ok (.putfield 33, 3) := by decide +kernel
theorem dX1_init_44 : decode cX1_init 44 = .ok (.return_, 1) := by decide +kernel
theorem dX1_readText_0 : decode cX1_readText 0 = .ok (.aload_n 0, 1) := by decide +kernel
theorem dX1_readText_1 : decode cX1_readText 1 = .ok (.getfield 33, 3) := by decide +kernel
theorem dX1_readText_4 : decode cX1_readText 4 = .ok (.aload_n 1, 1) := by decide +kernel
theorem dX1_readText_5 : decode cX1_readText 5 = .ok (.invokevirtual 37, 3) := by decide +kernel
theorem dX1_readText_8 : decode cX1_readText 8 = .ok (.aload_n 0, 1) := by decide +kernel
theorem dX1_readText_9 : decode cX1_readText 9 = .ok (.aload_n 0, 1) := by decide +kernel
theorem dX1_readText_10 : decode cX1_readText 10 = .ok (.getfield 33, 3) := by decide +kernel
theorem dX1_readText_13 : decode cX1_readText 13 = .ok (.getfield 41, 3) := by decide +kernel
theorem dX1_readText_16 : decode cX1_readText 16 = .ok (.iconst 0, 1) := by decide +kernel
theorem dX1_readText_17 : decode cX1_readText 17 = .ok (.iaload, 1) := by decide +kernel
theorem dX1_readText_18 : decode cX1_readText 18 = .ok (.putfield 15, 3) := by decide +kernel
theorem dX1_readText_21 : decode cX1_readText 21 = .ok (.iconst 1, 1) := by decide +kernel
theorem dX1_readText_22 : decode cX1_readText 22 = .ok (.istore_n 2, 1) := by decide +kernel
theorem dX1_readText_23 : decode cX1_readText 23 = .ok (.iconst 0, 1) := by decide +kernel
theorem dX1_readText_24 : decode cX1_readText 24 = .ok (.istore_n 3, 1) := by decide +kernel
theorem dX1_readText_25 : decode cX1_readText 25 = .ok (.iload_n 3, 1) := by decide +kernel
theorem dX1_readText_26 : decode cX1_readText 26 = .ok (.bipush 24, 2) := by decide +kernel
theorem dX1_readText_28 : decode cX1_readText 28 = .ok (.if_icmp .gt 28, 3) := by decide +kernel
theorem dX1_readText_31 : decode cX1_readText 31 = .ok (.iload_n 2, 1) := by decide +kernel
theorem dX1_readText_32 : decode cX1_readText 32 = .ok (.ifCond .eq 24, 3) := by decide +kernel
theorem dX1_readText_35 : decode cX1_readText 35 = .ok (.aload_n 0, 1) := by decide +kernel
theorem dX1_readText_36 : decode cX1_readText 36 = .ok (.getfield 15, 3) := by decide +kernel
theorem dX1_readText_39 : decode cX1_readText 39 = .ok (.bipush 24, 2) := by decide +kernel
theorem dX1_readText_41 : decode cX1_readText 41 = .ok (.if_icmp .eq 15, 3) := by decide +kernel
theorem dX1_readText_44 : decode cX1_readText 44 = .ok (.aload_n 0, 1) := by decide +kernel
theorem dX1_readText_45 : decode cX1_readText 45 = .ok (.iload_n 3, 1) := by decide +kernel
theorem dX1_readText_46 : decode cX1_readText 46 = .ok (.invokevirtual 45, 3) := by decide +kernel
theorem dX1_readText_49 : decode cX1_readText 49 = .ok (.istore_n 2, 1) := by decide +kernel
theorem dX1_readText_50 : decode cX1_readText 50 = .ok (.iinc 3 1, 3) := by decide +kernel
theorem dX1_readText_53 : decode cX1_readText 53 = .ok (.goto (-28), 3) := by decide +kernel
theorem dX1_readText_56 : decode cX1_readText 56 = .ok (.aload_n 0, 1) := by decide +kernel
theorem dX1_readText_57 : decode cX1_readText 57 = .ok (.getfield 18, 3) := by decide +kernel
theorem dX1_readText_60 : decode cX1_readText 60 = .ok (.ireturn, 1) := by decide +kernel
theorem dX1_goOn_0 : decode cX1_goOn 0 = .ok (.aload_n 0, 1) := by decide +kernel
theorem dX1_goOn_1 : decode cX1_goOn 1 = .ok (.getfield 15, 3) := by decide +kernel
theorem dX1_goOn_4 : decode cX1_goOn 4 = .ok (.bipush 24, 2) := by decide +kernel
theorem dX1_goOn_6 : decode cX1_goOn 6 = .ok (.if_icmp .eq 46, 3) := by decide +kernel
theorem dX1_goOn_9 : decode cX1_goOn 9 = .ok (.aload_n 0, 1) := by decide +kernel
theorem dX1_goOn_10 : decode cX1_goOn 10 = .ok (.getfield 9, 3) := by decide +kernel
theorem dX1_goOn_13 : decode cX1_goOn 13 = .ok (.iconst 1, 1) := by decide +kernel
theorem dX1_goOn_14 : decode cX1_goOn 14 = .ok (.iadd, 1) := by decide +kernel
theorem dX1_goOn_15 : decode cX1_goOn 15 = .ok (.aload_n 0, 1) := by decide +kernel
theorem dX1_goOn_16 : decode cX1_goOn 16 = .ok (.getfield 33, 3) := by decide +kernel
theorem dX1_goOn_19 : decode cX1_goOn 19 = .ok (.getfield 41, 3) := by decide +kernel
theorem dX1_goOn_22 : decode cX1_goOn 22 = .ok (.arraylength, 1) := by decide +kernel
theorem dX1_goOn_23 : decode cX1_goOn 23 = .ok (.if_icmp .ge 29, 3) := by decide +kernel
theorem dX1_goOn_26 : decode cX1_goOn 26 = .ok (.aload_n 0, 1) := by decide +kernel
theorem dX1_goOn_27 : decode cX1_goOn 27 = .ok (.dup, 1) := by decide +kernel
theorem dX1_goOn_28 : decode cX1_goOn 28 = .ok (.getfield 9, 3) := by decide +kernel
theorem dX1_goOn_31 : decode cX1_goOn 31 = .ok (.iconst 1, 1) := by decide +kernel
theorem dX1_goOn_32 : decode cX1_goOn 32 = .ok (.iadd, 1) := by decide +kernel
theorem dX1_goOn_33 : decode cX1_goOn 33 = .ok (.putfield 9, 3) := by decide +kernel
theorem dX1_goOn_36 : decode cX1_goOn 36 = .ok (.aload_n 0, 1) := by decide +kernel
theorem dX1_goOn_37 : decode cX1_goOn 37 = .ok (.aload_n 0, 1) := by decide +kernel
theorem dX1_goOn_38 : decode cX1_goOn 38 = .ok (.getfield 33, 3) := by decide +kernel
theorem dX1_goOn_41 : decode cX1_goOn 41 = .ok (.getfield 41, 3) := by decide +kernel
theorem dX1_goOn_44 : decode cX1_goOn 44 = .ok (.aload_n 0, 1) := by decide +kernel
theorem dX1_goOn_45 : decode cX1_goOn 45 = .ok (.getfield 9, 3) := by decide +kernel
theorem dX1_goOn_48 : decode cX1_goOn 48 = .ok (.iaload, 1) := by decide +kernel
theorem dX1_goOn_49 : decode cX1_goOn 49 = .ok (.putfield 15, 3) := by decide +kernel
theorem dX1_goOn_52 : decode cX1_goOn 52 = .ok (.return_, 1) := by decide +kernel
theorem dX1_refuse_0 : decode cX1_refuse 0 = .ok (.aload_n 0, 1) := by decide +kernel
theorem dX1_refuse_1 : decode cX1_refuse 1 = .ok (.iload_n 1, 1) := by decide +kernel
theorem dX1_refuse_2 : decode cX1_refuse 2 = .ok (.bipush 16, 2) := by decide +kernel
theorem dX1_refuse_4 : decode cX1_refuse 4 = .ok (.aload_n 0, 1) := by decide +kernel
theorem dX1_refuse_5 : decode cX1_refuse 5 = .ok (.getfield 33, 3) := by decide +kernel
theorem dX1_refuse_8 : decode cX1_refuse 8 = .ok (.getfield 49, 3) := by decide +kernel
theorem dX1_refuse_11 : decode cX1_refuse 11 = .ok (.aload_n 0, 1) := by decide +kernel
theorem dX1_refuse_12 : decode cX1_refuse 12 = .ok (.getfield 9, 3) := by decide +kernel
theorem dX1_refuse_15 : decode cX1_refuse 15 = .ok (.iaload, 1) := by decide +kernel
theorem dX1_refuse_16 : decode cX1_refuse 16 = .ok (.imul, 1) := by decide +kernel
theorem dX1_refuse_17 : decode cX1_refuse 17 = .ok (.iadd, 1) := by decide +kernel
theorem dX1_refuse_18 : decode cX1_refuse 18 = .ok (.putfield 18, 3) := by decide +kernel
theorem dX1_refuse_21 : decode cX1_refuse 21 = .ok (.iconst 0, 1) := by decide +kernel
theorem dX1_refuse_22 : decode cX1_refuse 22 = .ok (.ireturn, 1) := by decide +kernel
theorem dX1_readLine_0 : decode cX1_readLine 0 = .ok (.aload_n 0, 1) := by decide +kernel
theorem dX1_readLine_1 : decode cX1_readLine 1 = .ok (.getfield 15, 3) := by decide +kernel
theorem dX1_readLine_4 : decode cX1_readLine 4 = .ok (.bipush 13, 2) := by decide +kernel
theorem dX1_readLine_6 : decode cX1_readLine 6 = .ok (.if_icmp .eq 18, 3) := by decide +kernel
theorem dX1_readLine_9 : decode cX1_readLine 9 = .ok (.aload_n 0, 1) := by decide +kernel
theorem dX1_readLine_10 : decode cX1_readLine 10 = .ok (.getfield 15, 3) := by decide +kernel
theorem dX1_readLine_13 : decode cX1_readLine 13 = .ok (.bipush 14, 2) := by decide +kernel
theorem dX1_readLine_15 : decode cX1_readLine 15 = .ok (.if_icmp .eq 9, 3) := by decide +kernel
theorem dX1_readLine_18 : decode cX1_readLine 18 = .ok (.aload_n 0, 1) := by decide +kernel
theorem dX1_readLine_19 : decode cX1_readLine 19 = .ok (.iconst 1, 1) := by decide +kernel
theorem dX1_readLine_20 : decode cX1_readLine 20 = .ok (.invokevirtual 52, 3) := by decide +kernel
theorem dX1_readLine_23 : decode cX1_readLine 23 = .ok (.ireturn, 1) := by decide +kernel
theorem dX1_readLine_24 : decode cX1_readLine 24 = .ok (.iload_n 1, 1) := by decide +kernel
theorem dX1_readLine_25 : decode cX1_readLine 25 = .ok (.bipush 24, 2) := by decide +kernel
theorem dX1_readLine_27 : decode cX1_readLine 27 = .ok (.if_icmp .lt 9, 3) := by decide +kernel
theorem dX1_readLine_30 : decode cX1_readLine 30 = .ok (.aload_n 0, 1) := by decide +kernel
theorem dX1_readLine_31 : decode cX1_readLine 31 = .ok (.iconst 5, 1) := by decide +kernel
theorem dX1_readLine_32 : decode cX1_readLine 32 = .ok (.invokevirtual 52, 3) := by decide +kernel
theorem dX1_readLine_35 : decode cX1_readLine 35 = .ok (.ireturn, 1) := by decide +kernel
theorem dX1_readLine_36 : decode cX1_readLine 36 = .ok (.aload_n 0, 1) := by decide +kernel
theorem dX1_readLine_37 : decode cX1_readLine 37 = .ok (.getfield 26, 3) := by decide +kernel
theorem dX1_readLine_40 : decode cX1_readLine 40 = .ok (.getfield 55, 3) := by decide +kernel
theorem dX1_readLine_43 : decode cX1_readLine 43 = .ok (.iload_n 1, 1) := by decide +kernel
theorem dX1_readLine_44 : decode cX1_readLine 44 = .ok (.aload_n 0, 1) := by decide +kernel
theorem dX1_readLine_45 : decode cX1_readLine 45 = .ok (.getfield 15, 3) := by decide +kernel
theorem dX1_readLine_48 : decode cX1_readLine 48 = .ok (.bipush 14, 2) := by decide +kernel
theorem dX1_readLine_50 : decode cX1_readLine 50 = .ok (.if_icmp .ne 7, 3) := by decide +kernel
theorem dX1_readLine_53 : decode cX1_readLine 53 = .ok (.iconst 1, 1) := by decide +kernel
theorem dX1_readLine_54 : decode cX1_readLine 54 = .ok (.goto 4, 3) := by decide +kernel
theorem dX1_readLine_57 : decode cX1_readLine 57 = .ok (.iconst 0, 1) := by decide +kernel
theorem dX1_readLine_58 : decode cX1_readLine 58 = .ok (.bastore, 1) := by decide +kernel
theorem dX1_readLine_59 : decode cX1_readLine 59 = .ok (.aload_n 0, 1) := by decide +kernel
theorem dX1_readLine_60 : decode cX1_readLine 60 = .ok (.invokevirtual 59, 3) := by decide +kernel
theorem dX1_readLine_63 : decode cX1_readLine 63 = .ok (.aload_n 0, 1) := by decide +kernel
theorem dX1_readLine_64 : decode cX1_readLine 64 = .ok (.getfield 15, 3) := by decide +kernel
theorem dX1_readLine_67 : decode cX1_readLine 67 = .ok (.iconst 0, 1) := by decide +kernel
theorem dX1_readLine_68 : decode cX1_readLine 68 = .ok (.iconst 2, 1) := by decide +kernel
theorem dX1_readLine_69 : decode cX1_readLine 69 = .ok (.invokestatic 62, 3) := by decide +kernel
theorem dX1_readLine_72 : decode cX1_readLine 72 = .ok (.ifCond .ne 9, 3) := by decide +kernel
theorem dX1_readLine_75 : decode cX1_readLine 75 = .ok (.aload_n 0, 1) := by decide +kernel
theorem dX1_readLine_76 : decode cX1_readLine 76 = .ok (.iconst 1, 1) := by decide +kernel
theorem dX1_readLine_77 : decode cX1_readLine 77 = .ok (.invokevirtual 52, 3) := by decide +kernel
theorem dX1_readLine_80 : decode cX1_readLine 80 = .ok (.ireturn, 1) := by decide +kernel
theorem dX1_readLine_81 : decode cX1_readLine 81 = .ok (.aload_n 0, 1) := by decide +kernel
theorem dX1_readLine_82 : decode cX1_readLine 82 = .ok (.getfield 26, 3) := by decide +kernel
theorem dX1_readLine_85 : decode cX1_readLine 85 = .ok (.getfield 66, 3) := by decide +kernel
theorem dX1_readLine_88 : decode cX1_readLine 88 = .ok (.iload_n 1, 1) := by decide +kernel
theorem dX1_readLine_89 : decode cX1_readLine 89 = .ok (.aload_n 0, 1) := by decide +kernel
theorem dX1_readLine_90 : decode cX1_readLine 90 = .ok (.getfield 15, 3) := by decide +kernel
theorem dX1_readLine_93 : decode cX1_readLine 93 = .ok (.iastore, 1) := by decide +kernel
theorem dX1_readLine_94 : decode cX1_readLine 94 = .ok (.aload_n 0, 1) := by decide +kernel
theorem dX1_readLine_95 : decode cX1_readLine 95 = .ok (.invokevirtual 59, 3) := by decide +kernel
theorem dX1_readLine_98 : decode cX1_readLine 98 = .ok (.aload_n 0, 1) := by decide +kernel
theorem dX1_readLine_99 : decode cX1_readLine 99 = .ok (.getfield 26, 3) := by decide +kernel
theorem dX1_readLine_102 : decode cX1_readLine 102 = .ok (.getfield 69, 3) := by decide +kernel
theorem dX1_readLine_105 : decode cX1_readLine 105 = .ok (.iload_n 1, 1) := by decide +kernel
theorem dX1_readLine_106 : decode cX1_readLine 106 = .ok (.aload_n 0, 1) := by decide +kernel
theorem dX1_readLine_107 : decode cX1_readLine 107 = .ok (.getfield 26, 3) := by decide +kernel
theorem dX1_readLine_110 : decode cX1_readLine 110 = .ok (.getfield 72, 3) := by decide +kernel
theorem dX1_readLine_113 : decode cX1_readLine 113 = .ok (.iastore, 1) := by decide +kernel
theorem dX1_readLine_114 : decode cX1_readLine 114 = .ok (.aload_n 0, 1) := by decide +kernel
theorem dX1_readLine_115 : decode cX1_readLine 115 = .ok (.iconst 0, 1) := by decide +kernel
theorem dX1_readLine_116 : decode cX1_readLine 116 = .ok (.invokevirtual 75, 3) := by decide +kernel
theorem dX1_readLine_119 : decode cX1_readLine 119 = .ok (.istore_n 2, 1) := by decide +kernel
theorem dX1_readLine_120 : decode cX1_readLine 120 = .ok (.aload_n 0, 1) := by decide +kernel
theorem dX1_readLine_121 : decode cX1_readLine 121 = .ok (.getfield 26, 3) := by decide +kernel
theorem dX1_readLine_124 : decode cX1_readLine 124 = .ok (.getfield 78, 3) := by decide +kernel
theorem dX1_readLine_127 : decode cX1_readLine 127 = .ok (.iload_n 1, 1) := by decide +kernel
theorem dX1_readLine_128 : decode cX1_readLine 128 = .ok (.aload_n 0, 1) := by decide +kernel
theorem dX1_readLine_129 : decode cX1_readLine 129 = .ok (.getfield 26, 3) := by decide +kernel
theorem dX1_readLine_132 : decode cX1_readLine 132 = .ok (.getfield 72, 3) := by decide +kernel
theorem dX1_readLine_135 : decode cX1_readLine 135 = .ok (.iastore, 1) := by decide +kernel
theorem dX1_readLine_136 : decode cX1_readLine 136 = .ok (.iload_n 2, 1) := by decide +kernel
theorem dX1_readLine_137 : decode cX1_readLine 137 = .ok (.ifCond .eq 22, 3) := by decide +kernel
theorem dX1_readLine_140 : decode cX1_readLine 140 = .ok (.aload_n 0, 1) := by decide +kernel
theorem dX1_readLine_141 : decode cX1_readLine 141 = .ok (.getfield 15, 3) := by decide +kernel
theorem dX1_readLine_144 : decode cX1_readLine 144 = .ok (.bipush 15, 2) := by decide +kernel
theorem dX1_readLine_146 : decode cX1_readLine 146 = .ok (.if_icmp .ne 13, 3) := by decide +kernel
theorem dX1_readLine_149 : decode cX1_readLine 149 = .ok (.aload_n 0, 1) := by decide +kernel
theorem dX1_readLine_150 : decode cX1_readLine 150 = .ok (.invokevirtual 59, 3) := by decide +kernel
theorem dX1_readLine_153 : decode cX1_readLine 153 = .ok (.aload_n 0, 1) := by decide +kernel
theorem dX1_readLine_154 : decode cX1_readLine 154 = .ok (.iconst 0, 1) := by decide +kernel
theorem dX1_readLine_155 : decode cX1_readLine 155 = .ok (.invokevirtual 75, 3) := by decide +kernel
theorem dX1_readLine_158 : decode cX1_readLine 158 = .ok (.istore_n 2, 1) := by decide +kernel
theorem dX1_readLine_159 : decode cX1_readLine 159 = .ok (.aload_n 0, 1) := by decide +kernel
theorem dX1_readLine_160 : decode cX1_readLine 160 = .ok (.getfield 26, 3) := by decide +kernel
theorem dX1_readLine_163 : decode cX1_readLine 163 = .ok (.getfield 81, 3) := by decide +kernel
theorem dX1_readLine_166 : decode cX1_readLine 166 = .ok (.iload_n 1, 1) := by decide +kernel
theorem dX1_readLine_167 : decode cX1_readLine 167 = .ok (.aload_n 0, 1) := by decide +kernel
theorem dX1_readLine_168 : decode cX1_readLine 168 = .ok (.getfield 26, 3) := by decide +kernel
theorem dX1_readLine_171 : decode cX1_readLine 171 = .ok (.getfield 72, 3) := by decide +kernel
theorem dX1_readLine_174 : decode cX1_readLine 174 = .ok (.iastore, 1) := by decide +kernel
theorem dX1_readLine_175 : decode cX1_readLine 175 = .ok (.iload_n 2, 1) := by decide +kernel
theorem dX1_readLine_176 : decode cX1_readLine 176 = .ok (.ifCond .ne 5, 3) := by decide +kernel
theorem dX1_readLine_179 : decode cX1_readLine 179 = .ok (.iconst 0, 1) := by decide +kernel
theorem dX1_readLine_180 : decode cX1_readLine 180 = .ok (.ireturn, 1) := by decide +kernel
theorem dX1_readLine_181 : decode cX1_readLine 181 = .ok (.aload_n 0, 1) := by decide +kernel
theorem dX1_readLine_182 : decode cX1_readLine 182 = .ok (.getfield 15, 3) := by decide +kernel
theorem dX1_readLine_185 : decode cX1_readLine 185 = .ok (.bipush 23, 2) := by decide +kernel
theorem dX1_readLine_187 : decode cX1_readLine 187 = .ok (.if_icmp .eq 9, 3) := by decide +kernel
theorem dX1_readLine_190 : decode cX1_readLine 190 = .ok (.aload_n 0, 1) := by decide +kernel
theorem dX1_readLine_191 : decode cX1_readLine 191 = .ok (.iconst 1, 1) := by decide +kernel
theorem dX1_readLine_192 : decode cX1_readLine 192 = .ok (.invokevirtual 52, 3) := by decide +kernel
theorem dX1_readLine_195 : decode cX1_readLine 195 = .ok (.ireturn, 1) := by decide +kernel
theorem dX1_readLine_196 : decode cX1_readLine 196 = .ok (.aload_n 0, 1) := by decide +kernel
theorem dX1_readLine_197 : decode cX1_readLine 197 = .ok (.invokevirtual 59, 3) := by decide +kernel
theorem dX1_readLine_200 : decode cX1_readLine 200 = .ok (.aload_n 0, 1) := by decide +kernel
theorem dX1_readLine_201 : decode cX1_readLine 201 = .ok (.getfield 26, 3) := by decide +kernel
theorem dX1_readLine_204 : decode cX1_readLine 204 = .ok (.iload_n 1, 1) := by decide +kernel
theorem dX1_readLine_205 : decode cX1_readLine 205 = .ok (.iconst 1, 1) := by decide +kernel
theorem dX1_readLine_206 : decode cX1_readLine 206 = .ok (.iadd, 1) := by decide +kernel
theorem dX1_readLine_207 : decode cX1_readLine 207 = .ok (.putfield 84, 3) := by decide +kernel
theorem dX1_readLine_210 : decode cX1_readLine 210 = .ok (.iconst 1, 1) := by decide +kernel
theorem dX1_readLine_211 : decode cX1_readLine 211 = .ok (.ireturn, 1) := by decide +kernel
theorem dX1_readAll_0 : decode cX1_readAll 0 = .ok (.aload_n 0, 1) := by decide +kernel
theorem dX1_readAll_1 : decode cX1_readAll 1 = .ok (.iload_n 1, 1) := by decide +kernel
theorem dX1_readAll_2 : decode cX1_readAll 2 = .ok (.invokevirtual 87, 3) := by decide +kernel
theorem dX1_readAll_5 : decode cX1_readAll 5 = .ok (.istore_n 2, 1) := by decide +kernel
theorem dX1_readAll_6 : decode cX1_readAll 6 = .ok (.iconst 0, 1) := by decide +kernel
theorem dX1_readAll_7 : decode cX1_readAll 7 = .ok (.istore_n 3, 1) := by decide +kernel
theorem dX1_readAll_8 : decode cX1_readAll 8 = .ok (.iload_n 3, 1) := by decide +kernel
theorem dX1_readAll_9 : decode cX1_readAll 9 = .ok (.sipush 1000, 3) := by decide +kernel
theorem dX1_readAll_12 : decode cX1_readAll 12 = .ok (.if_icmp .ge 41, 3) := by decide +kernel
theorem dX1_readAll_15 : decode cX1_readAll 15 = .ok (.iload_n 2, 1) := by decide +kernel
theorem dX1_readAll_16 : decode cX1_readAll 16 = .ok (.ifCond .eq 37, 3) := by decide +kernel
theorem dX1_readAll_19 : decode cX1_readAll 19 = .ok (.aload_n 0, 1) := by decide +kernel
theorem dX1_readAll_20 : decode cX1_readAll 20 = .ok (.getfield 15, 3) := by decide +kernel
theorem dX1_readAll_23 : decode cX1_readAll 23 = .ok (.bipush 16, 2) := by decide +kernel
theorem dX1_readAll_25 : decode cX1_readAll 25 = .ok (.if_icmp .ne 28, 3) := by decide +kernel
theorem dX1_readAll_28 : decode cX1_readAll 28 = .ok (.aload_n 0, 1) := by decide +kernel
theorem dX1_readAll_29 : decode cX1_readAll 29 = .ok (.invokevirtual 59, 3) := by decide +kernel
theorem dX1_readAll_32 : decode cX1_readAll 32 = .ok (.aload_n 0, 1) := by decide +kernel
theorem dX1_readAll_33 : decode cX1_readAll 33 = .ok (.iload_n 1, 1) := by decide +kernel
theorem dX1_readAll_34 : decode cX1_readAll 34 = .ok (.invokevirtual 87, 3) := by decide +kernel
theorem dX1_readAll_37 : decode cX1_readAll 37 = .ok (.istore_n 2, 1) := by decide +kernel
theorem dX1_readAll_38 : decode cX1_readAll 38 = .ok (.aload_n 0, 1) := by decide +kernel
theorem dX1_readAll_39 : decode cX1_readAll 39 = .ok (.getfield 26, 3) := by decide +kernel
theorem dX1_readAll_42 : decode cX1_readAll 42 = .ok (.bipush 16, 2) := by decide +kernel
theorem dX1_readAll_44 : decode cX1_readAll 44 = .ok (.invokevirtual 90, 3) := by decide +kernel
theorem dX1_readAll_47 : decode cX1_readAll 47 = .ok (.iinc 3 1, 3) := by decide +kernel
theorem dX1_readAll_50 : decode cX1_readAll 50 = .ok (.goto (-42), 3) := by decide +kernel
theorem dX1_readAll_53 : decode cX1_readAll 53 = .ok (.iload_n 2, 1) := by decide +kernel
theorem dX1_readAll_54 : decode cX1_readAll 54 = .ok (.ireturn, 1) := by decide +kernel
theorem dX1_readTest_0 : decode cX1_readTest 0 = .ok (.aload_n 0, 1) := by decide +kernel
theorem dX1_readTest_1 : decode cX1_readTest 1 = .ok (.iload_n 1, 1) := by decide +kernel
theorem dX1_readTest_2 : decode cX1_readTest 2 = .ok (.invokevirtual 93, 3) := by decide +kernel
theorem dX1_readTest_5 : decode cX1_readTest 5 = .ok (.istore_n 2, 1) := by decide +kernel
theorem dX1_readTest_6 : decode cX1_readTest 6 = .ok (.iload_n 2, 1) := by decide +kernel
theorem dX1_readTest_7 : decode cX1_readTest 7 = .ok (.ifCond .eq 44, 3) := by decide +kernel
theorem dX1_readTest_10 : decode cX1_readTest 10 = .ok (.aload_n 0, 1) := by decide +kernel
theorem dX1_readTest_11 : decode cX1_readTest 11 = .ok (.getfield 15, 3) := by decide +kernel
theorem dX1_readTest_14 : decode cX1_readTest 14 = .ok (.bipush 19, 2) := by decide +kernel
theorem dX1_readTest_16 : decode cX1_readTest 16 = .ok (.if_icmp .eq 12, 3) := by decide +kernel
theorem dX1_readTest_19 : decode cX1_readTest 19 = .ok (.aload_n 0, 1) := by decide +kernel
theorem dX1_readTest_20 : decode cX1_readTest 20 = .ok (.getfield 15, 3) := by decide +kernel
theorem dX1_readTest_23 : decode cX1_readTest 23 = .ok (.bipush 20, 2) := by decide +kernel
theorem dX1_readTest_25 : decode cX1_readTest 25 = .ok (.if_icmp .ne 26, 3) := by decide +kernel
theorem dX1_readTest_28 : decode cX1_readTest 28 = .ok (.aload_n 0, 1) := by decide +kernel
theorem dX1_readTest_29 : decode cX1_readTest 29 = .ok (.getfield 15, 3) := by decide +kernel
theorem dX1_readTest_32 : decode cX1_readTest 32 = .ok (.istore_n 3, 1) := by decide +kernel
theorem dX1_readTest_33 : decode cX1_readTest 33 = .ok (.aload_n 0, 1) := by decide +kernel
theorem dX1_readTest_34 : decode cX1_readTest 34 = .ok (.invokevirtual 59, 3) := by decide +kernel
theorem dX1_readTest_37 : decode cX1_readTest 37 = .ok (.aload_n 0, 1) := by decide +kernel
theorem dX1_readTest_38 : decode cX1_readTest 38 = .ok (.iload_n 1, 1) := by decide +kernel
theorem dX1_readTest_39 : decode cX1_readTest 39 = .ok (.invokevirtual 93, 3) := by decide +kernel
theorem dX1_readTest_42 : decode cX1_readTest 42 = .ok (.istore_n 2, 1) := by decide +kernel
theorem dX1_readTest_43 : decode cX1_readTest 43 = .ok (.aload_n 0, 1) := by decide +kernel
theorem dX1_readTest_44 : decode cX1_readTest 44 = .ok (.getfield 26, 3) := by decide +kernel
theorem dX1_readTest_47 : decode cX1_readTest 47 = .ok (.iload_n 3, 1) := by decide +kernel
theorem dX1_readTest_48 : decode cX1_readTest 48 = .ok (.invokevirtual 90, 3) := by decide +kernel
theorem dX1_readTest_51 : decode cX1_readTest 51 = .ok (.iload_n 2, 1) := by decide +kernel
theorem dX1_readTest_52 : decode cX1_readTest 52 = .ok (.ireturn, 1) := by decide +kernel
theorem dX1_readSum_0 : decode cX1_readSum 0 = .ok (.aload_n 0, 1) := by decide +kernel
theorem dX1_readSum_1 : decode cX1_readSum 1 = .ok (.iload_n 1, 1) := by decide +kernel
theorem dX1_readSum_2 : decode cX1_readSum 2 = .ok (.invokevirtual 96, 3) := by decide +kernel
theorem dX1_readSum_5 : decode cX1_readSum 5 = .ok (.istore_n 2, 1) := by decide +kernel
theorem dX1_readSum_6 : decode cX1_readSum 6 = .ok (.iconst 0, 1) := by decide +kernel
theorem dX1_readSum_7 : decode cX1_readSum 7 = .ok (.istore_n 3, 1) := by decide +kernel
theorem dX1_readSum_8 : decode cX1_readSum 8 = .ok (.iload_n 3, 1) := by decide +kernel
theorem dX1_readSum_9 : decode cX1_readSum 9 = .ok (.sipush 1000, 3) := by decide +kernel
theorem dX1_readSum_12 : decode cX1_readSum 12 = .ok (.if_icmp .ge 56, 3) := by decide +kernel
theorem dX1_readSum_15 : decode cX1_readSum 15 = .ok (.iload_n 2, 1) := by decide +kernel
theorem dX1_readSum_16 : decode cX1_readSum 16 = .ok (.ifCond .eq 52, 3) := by decide +kernel
theorem dX1_readSum_19 : decode cX1_readSum 19 = .ok (.aload_n 0, 1) := by decide +kernel
theorem dX1_readSum_20 : decode cX1_readSum 20 = .ok (.getfield 15, 3) := by decide +kernel
theorem dX1_readSum_23 : decode cX1_readSum 23 = .ok (.bipush 21, 2) := by decide +kernel
theorem dX1_readSum_25 : decode cX1_readSum 25 = .ok (.if_icmp .eq 12, 3) := by decide +kernel
theorem dX1_readSum_28 : decode cX1_readSum 28 = .ok (.aload_n 0, 1) := by decide +kernel
theorem dX1_readSum_29 : decode cX1_readSum 29 = .ok (.getfield 15, 3) := by decide +kernel
theorem dX1_readSum_32 : decode cX1_readSum 32 = .ok (.bipush 22, 2) := by decide +kernel
theorem dX1_readSum_34 : decode cX1_readSum 34 = .ok (.if_icmp .ne 34, 3) := by decide +kernel
theorem dX1_readSum_37 : decode cX1_readSum 37 = .ok (.aload_n 0, 1) := by decide +kernel
theorem dX1_readSum_38 : decode cX1_readSum 38 = .ok (.getfield 15, 3) := by decide +kernel
theorem dX1_readSum_41 : decode cX1_readSum 41 = .ok (.istore 4, 2) := by decide +kernel
theorem dX1_readSum_43 : decode cX1_readSum 43 = .ok (.aload_n 0, 1) := by decide +kernel
theorem dX1_readSum_44 : decode cX1_readSum 44 = .ok (.invokevirtual 59, 3) := by decide +kernel
theorem dX1_readSum_47 : decode cX1_readSum 47 = .ok (.aload_n 0, 1) := by decide +kernel
theorem dX1_readSum_48 : decode cX1_readSum 48 = .ok (.iload_n 1, 1) := by decide +kernel
theorem dX1_readSum_49 : decode cX1_readSum 49 = .ok (.invokevirtual 96, 3) := by decide +kernel
theorem dX1_readSum_52 : decode cX1_readSum 52 = .ok (.istore_n 2, 1) := by decide +kernel
theorem dX1_readSum_53 : decode cX1_readSum 53 = .ok (.aload_n 0, 1) := by decide +kernel
theorem dX1_readSum_54 : decode cX1_readSum 54 = .ok (.getfield 26, 3) := by decide +kernel
theorem dX1_readSum_57 : decode cX1_readSum 57 = .ok (.iload 4, 2) := by decide +kernel
theorem dX1_readSum_59 : decode cX1_readSum 59 = .ok (.invokevirtual 90, 3) := by decide +kernel
theorem dX1_readSum_62 : decode cX1_readSum 62 = .ok (.iinc 3 1, 3) := by decide +kernel
theorem dX1_readSum_65 : decode cX1_readSum 65 = .ok (.goto (-57), 3) := by decide +kernel
theorem dX1_readSum_68 : decode cX1_readSum 68 = .ok (.iload_n 2, 1) := by decide +kernel
theorem dX1_readSum_69 : decode cX1_readSum 69 = .ok (.ireturn, 1) := by decide +kernel
theorem dX1_readPart_0 : decode cX1_readPart 0 = .ok (.aload_n 0, 1) := by decide +kernel
theorem dX1_readPart_1 : decode cX1_readPart 1 = .ok (.getfield 15, 3) := by decide +kernel
theorem dX1_readPart_4 : decode cX1_readPart 4 = .ok (.bipush 26, 2) := by decide +kernel
theorem dX1_readPart_6 : decode cX1_readPart 6 = .ok (.if_icmp .lt 7, 3) := by decide +kernel
theorem dX1_readPart_9 : decode cX1_readPart 9 = .ok (.iconst 1, 1) := by decide +kernel
theorem dX1_readPart_10 : decode cX1_readPart 10 = .ok (.goto 4, 3) := by decide +kernel
theorem dX1_readPart_13 : decode cX1_readPart 13 = .ok (.iconst 0, 1) := by decide +kernel
theorem dX1_readPart_14 : decode cX1_readPart 14 = .ok (.istore_n 2, 1) := by decide +kernel
theorem dX1_readPart_15 : decode cX1_readPart 15 = .ok (.aload_n 0, 1) := by decide +kernel
theorem dX1_readPart_16 : decode cX1_readPart 16 = .ok (.getfield 15, 3) := by decide +kernel
theorem dX1_readPart_19 : decode cX1_readPart 19 = .ok (.bipush 12, 2) := by decide +kernel
theorem dX1_readPart_21 : decode cX1_readPart 21 = .ok (.if_icmp .gt 7, 3) := by decide +kernel
theorem dX1_readPart_24 : decode cX1_readPart 24 = .ok (.iconst 1, 1) := by decide +kernel
theorem dX1_readPart_25 : decode cX1_readPart 25 = .ok (.goto 4, 3) := by decide +kernel
theorem dX1_readPart_28 : decode cX1_readPart 28 = .ok (.iconst 0, 1) := by decide +kernel
theorem dX1_readPart_29 : decode cX1_readPart 29 = .ok (.istore_n 3, 1) := by decide +kernel
theorem dX1_readPart_30 : decode cX1_readPart 30 = .ok (.iload_n 2, 1) := by decide +kernel
theorem dX1_readPart_31 : decode cX1_readPart 31 = .ok (.ifCond .ne 22, 3) := by decide +kernel
theorem dX1_readPart_34 : decode cX1_readPart 34 = .ok (.iload_n 3, 1) := by decide +kernel
theorem dX1_readPart_35 : decode cX1_readPart 35 = .ok (.ifCond .ne 18, 3) := by decide +kernel
theorem dX1_readPart_38 : decode cX1_readPart 38 = .ok (.aload_n 0, 1) := by decide +kernel
theorem dX1_readPart_39 : decode cX1_readPart 39 = .ok (.getfield 15, 3) := by decide +kernel
theorem dX1_readPart_42 : decode cX1_readPart 42 = .ok (.bipush 17, 2) := by decide +kernel
theorem dX1_readPart_44 : decode cX1_readPart 44 = .ok (.if_icmp .eq 9, 3) := by decide +kernel
theorem dX1_readPart_47 : decode cX1_readPart 47 = .ok (.aload_n 0, 1) := by decide +kernel
theorem dX1_readPart_48 : decode cX1_readPart 48 = .ok (.iconst 1, 1) := by decide +kernel
theorem dX1_readPart_49 : decode cX1_readPart 49 = .ok (.invokevirtual 52, 3) := by decide +kernel
theorem dX1_readPart_52 : decode cX1_readPart 52 = .ok (.ireturn, 1) := by decide +kernel
theorem dX1_readPart_53 : decode cX1_readPart 53 = .ok (.iload_n 1, 1) := by decide +kernel
theorem dX1_readPart_54 : decode cX1_readPart 54 = .ok (.iconst 5, 1) := by decide +kernel
theorem dX1_readPart_55 : decode cX1_readPart 55 = .ok (.if_icmp .lt 9, 3) := by decide +kernel
theorem dX1_readPart_58 : decode cX1_readPart 58 = .ok (.aload_n 0, 1) := by decide +kernel
theorem dX1_readPart_59 : decode cX1_readPart 59 = .ok (.iconst 5, 1) := by decide +kernel
theorem dX1_readPart_60 : decode cX1_readPart 60 = .ok (.invokevirtual 52, 3) := by decide +kernel
theorem dX1_readPart_63 : decode cX1_readPart 63 = .ok (.ireturn, 1) := by decide +kernel
theorem dX1_readPart_64 : decode cX1_readPart 64 = .ok (.iload_n 2, 1) := by decide +kernel
theorem dX1_readPart_65 : decode cX1_readPart 65 = .ok (.ifCond .eq 20, 3) := by decide +kernel
theorem dX1_readPart_68 : decode cX1_readPart 68 = .ok (.aload_n 0, 1) := by decide +kernel
theorem dX1_readPart_69 : decode cX1_readPart 69 = .ok (.getfield 26, 3) := by decide +kernel
theorem dX1_readPart_72 : decode cX1_readPart 72 = .ok (.aload_n 0, 1) := by decide +kernel
theorem dX1_readPart_73 : decode cX1_readPart 73 = .ok (.getfield 15, 3) := by decide +kernel
theorem dX1_readPart_76 : decode cX1_readPart 76 = .ok (.bipush 26, 2) := by decide +kernel
theorem dX1_readPart_78 : decode cX1_readPart 78 = .ok (.isub, 1) := by decide +kernel
theorem dX1_readPart_79 : decode cX1_readPart 79 = .ok (.invokevirtual 99, 3) := by decide +kernel
theorem dX1_readPart_82 : decode cX1_readPart 82 = .ok (.goto 52, 3) := by decide +kernel
theorem dX1_readPart_85 : decode cX1_readPart 85 = .ok (.iload_n 3, 1) := by decide +kernel
theorem dX1_readPart_86 : decode cX1_readPart 86 = .ok (.ifCond .eq 17, 3) := by decide +kernel
theorem dX1_readPart_89 : decode cX1_readPart 89 = .ok (.aload_n 0, 1) := by decide +kernel
theorem dX1_readPart_90 : decode cX1_readPart 90 = .ok (.getfield 26, 3) := by decide +kernel
theorem dX1_readPart_93 : decode cX1_readPart 93 = .ok (.aload_n 0, 1) := by decide +kernel
theorem dX1_readPart_94 : decode cX1_readPart 94 = .ok (.getfield 15, 3) := by decide +kernel
theorem dX1_readPart_97 : decode cX1_readPart 97 = .ok (.invokevirtual 90, 3) := by decide +kernel
theorem dX1_readPart_100 : decode cX1_readPart 100 = .ok (.goto 34, 3) := by decide +kernel
theorem dX1_readPart_103 : decode cX1_readPart 103 = .ok (.aload_n 0, 1) := by decide +kernel
theorem dX1_readPart_104 : decode cX1_readPart 104 = .ok (.invokevirtual 59, 3) := by decide +kernel
theorem dX1_readPart_107 : decode cX1_readPart 107 = .ok (.aload_n 0, 1) := by decide +kernel
theorem dX1_readPart_108 : decode cX1_readPart 108 = .ok (.iload_n 1, 1) := by decide +kernel
theorem dX1_readPart_109 : decode cX1_readPart 109 = .ok (.iconst 1, 1) := by decide +kernel
theorem dX1_readPart_110 : decode cX1_readPart 110 = .ok (.iadd, 1) := by decide +kernel
theorem dX1_readPart_111 : decode cX1_readPart 111 = .ok (.invokevirtual 75, 3) := by decide +kernel
theorem dX1_readPart_114 : decode cX1_readPart 114 = .ok (.ifCond .ne 5, 3) := by decide +kernel
theorem dX1_readPart_117 : decode cX1_readPart 117 = .ok (.iconst 0, 1) := by decide +kernel
theorem dX1_readPart_118 : decode cX1_readPart 118 = .ok (.ireturn, 1) := by decide +kernel
theorem dX1_readPart_119 : decode cX1_readPart 119 = .ok (.aload_n 0, 1) := by decide +kernel
theorem dX1_readPart_120 : decode cX1_readPart 120 = .ok (.getfield 15, 3) := by decide +kernel
theorem dX1_readPart_123 : decode cX1_readPart 123 = .ok (.bipush 18, 2) := by decide +kernel
theorem dX1_readPart_125 : decode cX1_readPart 125 = .ok (.if_icmp .eq 9, 3) := by decide +kernel
theorem dX1_readPart_128 : decode cX1_readPart 128 = .ok (.aload_n 0, 1) := by decide +kernel
theorem dX1_readPart_129 : decode cX1_readPart 129 = .ok (.iconst 1, 1) := by decide +kernel
theorem dX1_readPart_130 : decode cX1_readPart 130 = .ok (.invokevirtual 52, 3) := by decide +kernel
theorem dX1_readPart_133 : decode cX1_readPart 133 = .ok (.ireturn, 1) := by decide +kernel
theorem dX1_readPart_134 : decode cX1_readPart 134 = .ok (.aload_n 0, 1) := by decide +kernel
theorem dX1_readPart_135 : decode cX1_readPart 135 = .ok (.invokevirtual 59, 3) := by decide +kernel
theorem dX1_readPart_138 : decode cX1_readPart 138 = .ok (.iconst 1, 1) := by decide +kernel
theorem dX1_readPart_139 : decode cX1_readPart 139 = .ok (.ireturn, 1) := by decide +kernel
theorem dX2_init_0 : decode cX2_init 0 = .ok (.aload_n 0, 1) := by decide +kernel
theorem dX2_init_1 : decode cX2_init 1 = .ok (.invokespecial 3, 3) := by decide +kernel
theorem dX2_init_4 : decode cX2_init 4 = .ok (.aload_n 0, 1) := by decide +kernel
theorem dX2_init_5 : decode cX2_init 5 = .ok (.new 9, 3) := by decide +kernel
theorem dX2_init_8 : decode cX2_init 8 = .ok (.dup, 1) := by decide +kernel
theorem dX2_init_9 : decode cX2_init 9 = .ok (.iconst 0, 1) := by decide +kernel
theorem dX2_init_10 : decode cX2_init 10 = .ok (.invokespecial 11, 3) := by decide +kernel
theorem dX2_init_13 : decode cX2_init 13 = .ok (.putfield 14, 3) := by decide +kernel
theorem dX2_init_16 : decode cX2_init 16 = .ok (.aload_n 0, 1) := by decide +kernel
theorem dX2_init_17 : decode cX2_init 17 = .ok (.iconst 0, 1) := by decide +kernel
theorem dX2_init_18 : decode cX2_init 18 = .ok (.putfield 20, 3) := by decide +kernel
theorem dX2_init_21 : decode cX2_init 21 = .ok (.aload_n 0, 1) := by decide +kernel
theorem dX2_init_22 : decode cX2_init 22 = .ok (.bipush 99, 2) := by decide +kernel
theorem dX2_init_24 : decode cX2_init 24 = .ok (.putfield 24, 3) := by decide +kernel
theorem dX2_init_27 : decode cX2_init 27 = .ok (.aload_n 0, 1) := by decide +kernel
theorem dX2_init_28 : decode cX2_init 28 = .ok (.bipush 99, 2) := by decide +kernel
theorem dX2_init_30 : decode cX2_init 30 = .ok (.putfield 27, 3) := by decide +kernel
theorem dX2_init_33 : decode cX2_init 33 = .ok (.return_, 1) := by decide +kernel
theorem dX3_init_0 : decode cX3_init 0 = .ok (.aload_n 0, 1) := by decide +kernel
theorem dX3_init_1 : decode cX3_init 1 = .ok (.invokespecial 3, 3) := by decide +kernel
theorem dX3_init_4 : decode cX3_init 4 = .ok (.aload_n 0, 1) := by decide +kernel
theorem dX3_init_5 : decode cX3_init 5 = .ok (.bipush 16, 2) := by decide +kernel
theorem dX3_init_7 : decode cX3_init 7 = .ok (.newarray .int, 2) := by decide +kernel
theorem dX3_init_9 : decode cX3_init 9 = .ok (.putfield 9, 3) := by decide +kernel
theorem dX3_init_12 : decode cX3_init 12 = .ok (.aload_n 0, 1) := by decide +kernel
theorem dX3_init_13 : decode cX3_init 13 = .ok (.bipush 16, 2) := by decide +kernel
theorem dX3_init_15 : decode cX3_init 15 = .ok (.newarray .int, 2) := by decide +kernel
theorem dX3_init_17 : decode cX3_init 17 = .ok (.putfield 15, 3) := by decide +kernel
theorem dX3_init_20 : decode cX3_init 20 = .ok (.aload_n 0, 1) := by decide +kernel
theorem dX3_init_21 : decode cX3_init 21 = .ok (.bipush 16, 2) := by decide +kernel
theorem dX3_init_23 : decode cX3_init 23 = .ok (.newarray .int, 2) := by decide +kernel
theorem dX3_init_25 : decode cX3_init 25 = .ok (.putfield 18, 3) := by decide +kernel
theorem dX3_init_28 : decode cX3_init 28 = .ok (.aload_n 0, 1) := by decide +kernel
theorem dX3_init_29 : decode cX3_init 29 = .ok (.bipush 16, 2) := by decide +kernel
theorem dX3_init_31 : decode cX3_init 31 = .ok (.newarray .int, 2) := by decide +kernel
theorem dX3_init_33 : decode cX3_init 33 = .ok (.putfield 21, 3) := by decide +kernel
theorem dX3_init_36 : decode cX3_init 36 = .ok (.aload_n 0, 1) := by decide +kernel
theorem dX3_init_37 : decode cX3_init 37 = .ok (.bipush 16, 2) := by decide +kernel
theorem dX3_init_39 : decode cX3_init 39 = .ok (.newarray .boolean, 2) := by decide +kernel
theorem dX3_init_41 : decode cX3_init 41 = .ok (.putfield 24, 3) := by decide +kernel
theorem dX3_init_44 : decode cX3_init 44 = .ok (.aload_n 0, 1) := by decide +kernel
theorem dX3_init_45 : decode cX3_init 45 = .ok (.bipush 17, 2) := by decide +kernel
theorem dX3_init_47 : decode cX3_init 47 = .ok (.newarray .int, 2) := by decide +kernel
theorem dX3_init_49 : decode cX3_init 49 = .ok (.putfield 28, 3) := by decide +kernel
theorem dX3_init_52 : decode cX3_init 52 = .ok (.aload_n 0, 1) := by decide +kernel
theorem dX3_init_53 : decode cX3_init 53 = .ok (.bipush 16, 2) := by decide +kernel
theorem dX3_init_55 : decode cX3_init 55 = .ok (.newarray .int, 2) := by decide +kernel
theorem dX3_init_57 : decode cX3_init 57 = .ok (.putfield 31, 3) := by decide +kernel
theorem dX3_init_60 : decode cX3_init 60 = .ok (.aload_n 0, 1) := by decide +kernel
theorem dX3_init_61 : decode cX3_init 61 = .ok (.iconst 0, 1) := by decide +kernel
theorem dX3_init_62 : decode cX3_init 62 = .ok (.putfield 34, 3) := by decide +kernel
theorem dX3_init_65 : decode cX3_init 65 = .ok (.return_, 1) := by decide +kernel
theorem dX3_partWords_0 : decode cX3_partWords 0 = .ok (.aload_n 0, 1) := by decide +kernel
theorem dX3_partWords_1 : decode cX3_partWords 1 = .ok (.getfield 28, 3) := by decide +kernel
theorem dX3_partWords_4 : decode cX3_partWords 4 = .ok (.aload_n 1, 1) := by decide +kernel
theorem dX3_partWords_5 : decode cX3_partWords 5 = .ok (.getfield 38, 3) := by decide +kernel
theorem dX3_partWords_8 : decode cX3_partWords 8 = .ok (.iconst 0, 1) := by decide +kernel
theorem dX3_partWords_9 : decode cX3_partWords 9 = .ok (.iastore, 1) := by decide +kernel
theorem dX3_partWords_10 : decode cX3_partWords 10 = .ok (.aload_n 1, 1) := by decide +kernel
theorem dX3_partWords_11 : decode cX3_partWords 11 = .ok (.getfield 38, 3) := by decide +kernel
theorem dX3_partWords_14 : decode cX3_partWords 14 = .ok (.iconst 1, 1) := by decide +kernel
theorem dX3_partWords_15 : decode cX3_partWords 15 = .ok (.isub, 1) := by decide +kernel
theorem dX3_partWords_16 : decode cX3_partWords 16 = .ok (.istore_n 3, 1) := by decide +kernel
theorem dX3_partWords_17 : decode cX3_partWords 17 = .ok (.iload_n 3, 1) := by decide +kernel
theorem dX3_partWords_18 : decode cX3_partWords 18 = .ok (.ifCond .lt 16, 3) := by decide +kernel
theorem dX3_partWords_21 : decode cX3_partWords 21 = .ok (.aload_n 0, 1) := by decide +kernel
theorem dX3_partWords_22 : decode cX3_partWords 22 = .ok (.aload_n 1, 1) := by decide +kernel
theorem dX3_partWords_23 : decode cX3_partWords 23 = .ok (.iload_n 2, 1) := by decide +kernel
theorem dX3_partWords_24 : decode cX3_partWords 24 = .ok (.iload_n 3, 1) := by decide +kernel
theorem dX3_partWords_25 : decode cX3_partWords 25 = .ok (.invokevirtual 43, 3) := by decide +kernel
theorem dX3_partWords_28 : decode cX3_partWords 28 = .ok (.iinc 3 (-1), 3) := by decide +kernel
theorem dX3_partWords_31 : decode cX3_partWords 31 = .ok (.goto (-14), 3) := by decide +kernel
theorem dX3_partWords_34 : decode cX3_partWords 34 = .ok (.aload_n 0, 1) := by decide +kernel
theorem dX3_partWords_35 : decode cX3_partWords 35 = .ok (.iconst 0, 1) := by decide +kernel
theorem dX3_partWords_36 : decode cX3_partWords 36 = .ok (.putfield 34, 3) := by decide +kernel
theorem dX3_partWords_39 : decode cX3_partWords 39 = .ok (.iconst 0, 1) := by decide +kernel
theorem dX3_partWords_40 : decode cX3_partWords 40 = .ok (.istore_n 3, 1) := by decide +kernel
theorem dX3_partWords_41 : decode cX3_partWords 41 = .ok (.iconst 0, 1) := by decide +kernel
theorem dX3_partWords_42 : decode cX3_partWords 42 = .ok (.istore 4, 2) := by decide +kernel
theorem dX3_partWords_44 : decode cX3_partWords 44 = .ok (.iload 4, 2) := by decide +kernel
theorem dX3_partWords_46 : decode cX3_partWords 46 = .ok (.aload_n 1, 1) := by decide +kernel
theorem dX3_partWords_47 : decode cX3_partWords 47 = .ok (.getfield 38, 3) := by decide +kernel
theorem dX3_partWords_50 : decode cX3_partWords 50 = .ok (.if_icmp .ge 34, 3) := by decide +kernel
theorem dX3_partWords_53 : decode cX3_partWords 53 = .ok (.iload 4, 2) := by decide +kernel
theorem dX3_partWords_55 : decode cX3_partWords 55 = .ok (.iload_n 3, 1) := by decide +kernel
theorem dX3_partWords_56 : decode cX3_partWords 56 = .ok (.if_icmp .ne 22, 3) := by decide +kernel
theorem dX3_partWords_59 : decode cX3_partWords 59 = .ok (.iload 4, 2) := by decide +kernel
theorem dX3_partWords_61 : decode cX3_partWords 61 = .ok (.aload_n 0, 1) := by decide +kernel
theorem dX3_partWords_62 : decode cX3_partWords 62 = .ok (.getfield 31, 3) := by decide +kernel
theorem dX3_partWords_65 : decode cX3_partWords 65 = .ok (.iload 4, 2) := by decide +kernel
theorem dX3_partWords_67 : decode cX3_partWords 67 = .ok (.iaload, 1) := by decide +kernel
theorem dX3_partWords_68 : decode cX3_partWords 68 = .ok (.iadd, 1) := by decide +kernel
theorem dX3_partWords_69 : decode cX3_partWords 69 = .ok (.istore_n 3, 1) := by decide +kernel
theorem dX3_partWords_70 : decode cX3_partWords 70 = .ok (.aload_n 0, 1) := by decide +kernel
theorem dX3_partWords_71 : decode cX3_partWords 71 = .ok (.aload_n 1, 1) := by decide +kernel
theorem dX3_partWords_72 : decode cX3_partWords 72 = .ok (.iload 4, 2) := by decide +kernel
theorem dX3_partWords_74 : decode cX3_partWords 74 = .ok (.iload_n 3, 1) := by decide +kernel
theorem dX3_partWords_75 : decode cX3_partWords 75 = .ok (.invokevirtual 47, 3) := by decide +kernel
theorem dX3_partWords_78 : decode cX3_partWords 78 = .ok (.iinc 4 1, 3) := by decide +kernel
theorem dX3_partWords_81 : decode cX3_partWords 81 = .ok (.goto (-37), 3) := by decide +kernel
theorem dX3_partWords_84 : decode cX3_partWords 84 = .ok (.return_, 1) := by decide +kernel
theorem dX3_weighFrom_0 : decode cX3_weighFrom 0 = .ok (.iconst 0, 1) := by decide +kernel
theorem dX3_weighFrom_1 : decode cX3_weighFrom 1 = .ok (.istore 4, 2) := by decide +kernel
theorem dX3_weighFrom_3 : decode cX3_weighFrom 3 = .ok (.iload_n 3, 1) := by decide +kernel
theorem dX3_weighFrom_4 : decode cX3_weighFrom 4 = .ok (.istore 5, 2) := by decide +kernel
theorem dX3_weighFrom_6 : decode cX3_weighFrom 6 = .ok (.iload 5, 2) := by decide +kernel
theorem dX3_weighFrom_8 : decode cX3_weighFrom 8 = .ok (.aload_n 1, 1) := by decide +kernel
theorem dX3_weighFrom_9 : decode cX3_weighFrom 9 = .ok (.getfield 38, 3) := by decide +kernel
theorem dX3_weighFrom_12 : decode cX3_weighFrom 12 = .ok (.if_icmp .ge 110, 3) := by decide +kernel
theorem dX3_weighFrom_15 : decode cX3_weighFrom 15 = .ok (.iload 4, 2) := by decide +kernel
theorem dX3_weighFrom_17 : decode cX3_weighFrom 17 = .ok (.aload_n 1, 1) := by decide +kernel
theorem dX3_weighFrom_18 : decode cX3_weighFrom 18 = .ok (.getfield 50, 3) := by decide +kernel
theorem dX3_weighFrom_21 : decode cX3_weighFrom 21 = .ok (.iload 5, 2) := by decide +kernel
theorem dX3_weighFrom_23 : decode cX3_weighFrom 23 = .ok (.iaload, 1) := by decide +kernel
theorem dX3_weighFrom_24 : decode cX3_weighFrom 24 = .ok (.iadd, 1) := by decide +kernel
theorem dX3_weighFrom_25 : decode cX3_weighFrom 25 = .ok (.istore 4, 2) := by decide +kernel
theorem dX3_weighFrom_27 : decode cX3_weighFrom 27 = .ok (.iload 4, 2) := by decide +kernel
theorem dX3_weighFrom_29 : decode cX3_weighFrom 29 = .ok (.iload_n 2, 1) := by decide +kernel
theorem dX3_weighFrom_30 : decode cX3_weighFrom 30 = .ok (.isub, 1) := by decide +kernel
theorem dX3_weighFrom_31 : decode cX3_weighFrom 31 = .ok (.istore 6, 2) := by decide +kernel
theorem dX3_weighFrom_33 : decode cX3_weighFrom 33 = .ok (.iload 5, 2) := by decide +kernel
theorem dX3_weighFrom_35 : decode cX3_weighFrom 35 = .ok (.iconst 1, 1) := by decide +kernel
theorem dX3_weighFrom_36 : decode cX3_weighFrom 36 = .ok (.iadd, 1) := by decide +kernel
theorem dX3_weighFrom_37 : decode cX3_weighFrom 37 = .ok (.aload_n 1, 1) := by decide +kernel
theorem dX3_weighFrom_38 : decode cX3_weighFrom 38 = .ok (.getfield 38, 3) := by decide +kernel
theorem dX3_weighFrom_41 : decode cX3_weighFrom 41 = .ok (.if_icmp .ge 15, 3) := by decide +kernel
theorem dX3_weighFrom_44 : decode cX3_weighFrom 44 = .ok (.iconst 1, 1) := by decide +kernel
theorem dX3_weighFrom_45 : decode cX3_weighFrom 45 = .ok (.aload_n 1, 1) := by decide +kernel
theorem dX3_weighFrom_46 : decode cX3_weighFrom 46 = .ok (.getfield 53, 3) := by decide +kernel
theorem dX3_weighFrom_49 : decode cX3_weighFrom 49 = .ok (.iload 5, 2) := by decide +kernel
theorem dX3_weighFrom_51 : decode cX3_weighFrom 51 = .ok (.iaload, 1) := by decide +kernel
theorem dX3_weighFrom_52 : decode cX3_weighFrom 52 = .ok (.iadd, 1) := by decide +kernel
theorem dX3_weighFrom_53 : decode cX3_weighFrom 53 = .ok (.goto 4, 3) := by decide +kernel
theorem dX3_weighFrom_56 : decode cX3_weighFrom 56 = .ok (.iconst 0, 1) := by decide +kernel
theorem dX3_weighFrom_57 : decode cX3_weighFrom 57 = .ok (.istore 7, 2) := by decide +kernel
theorem dX3_weighFrom_59 : decode cX3_weighFrom 59 = .ok (.iload 6, 2) := by decide +kernel
theorem dX3_weighFrom_61 : decode cX3_weighFrom 61 = .ok (.iload 6, 2) := by decide +kernel
theorem dX3_weighFrom_63 : decode cX3_weighFrom 63 = .ok (.imul, 1) := by decide +kernel
theorem dX3_weighFrom_64 : decode cX3_weighFrom 64 = .ok (.iload 7, 2) := by decide +kernel
theorem dX3_weighFrom_66 : decode cX3_weighFrom 66 = .ok (.iadd, 1) := by decide +kernel
theorem dX3_weighFrom_67 : decode cX3_weighFrom 67 = .ok (.aload_n 0, 1) := by decide +kernel
theorem dX3_weighFrom_68 : decode cX3_weighFrom 68 = .ok (.getfield 28, 3) := by decide +kernel
theorem dX3_weighFrom_71 : decode cX3_weighFrom 71 = .ok (.iload 5, 2) := by decide +kernel
theorem dX3_weighFrom_73 : decode cX3_weighFrom 73 = .ok (.iconst 1, 1) := by decide +kernel
theorem dX3_weighFrom_74 : decode cX3_weighFrom 74 = .ok (.iadd, 1) := by decide +kernel
theorem dX3_weighFrom_75 : decode cX3_weighFrom 75 = .ok (.iaload, 1) := by decide +kernel
theorem dX3_weighFrom_76 : decode cX3_weighFrom 76 = .ok (.iadd, 1) := by decide +kernel
theorem dX3_weighFrom_77 : decode cX3_weighFrom 77 = .ok (.istore 8, 2) := by decide +kernel
theorem dX3_weighFrom_79 : decode cX3_weighFrom 79 = .ok (.iload 5, 2) := by decide +kernel
theorem dX3_weighFrom_81 : decode cX3_weighFrom 81 = .ok (.iload_n 3, 1) := by decide +kernel
theorem dX3_weighFrom_82 : decode cX3_weighFrom 82 = .ok (.if_icmp .eq 14, 3) := by decide +kernel
theorem dX3_weighFrom_85 : decode cX3_weighFrom 85 = .ok (.iload 8, 2) := by decide +kernel
theorem dX3_weighFrom_87 : decode cX3_weighFrom 87 = .ok (.aload_n 0, 1) := by decide +kernel
theorem dX3_weighFrom_88 : decode cX3_weighFrom 88 = .ok (.getfield 28, 3) := by decide +kernel
theorem dX3_weighFrom_91 : decode cX3_weighFrom 91 = .ok (.iload_n 3, 1) := by decide +kernel
theorem dX3_weighFrom_92 : decode cX3_weighFrom 92 = .ok (.iaload, 1) := by decide +kernel
theorem dX3_weighFrom_93 : decode cX3_weighFrom 93 = .ok (.if_icmp .gt 23, 3) := by decide +kernel
theorem dX3_weighFrom_96 : decode cX3_weighFrom 96 = .ok (.aload_n 0, 1) := by decide +kernel
theorem dX3_weighFrom_97 : decode cX3_weighFrom 97 = .ok (.getfield 28, 3) := by decide +kernel
theorem dX3_weighFrom_100 : decode cX3_weighFrom 100 = .ok (.iload_n 3, 1) := by decide +kernel
theorem dX3_weighFrom_101 : decode cX3_weighFrom 101 = .ok (.iload 8, 2) := by decide +kernel
theorem dX3_weighFrom_103 : decode cX3_weighFrom 103 = .ok (.iastore, 1) := by decide +kernel
theorem dX3_weighFrom_104 : decode cX3_weighFrom 104 = .ok (.aload_n 0, 1) := by decide +kernel
theorem dX3_weighFrom_105 : decode cX3_weighFrom 105 = .ok (.getfield 31, 3) := by decide +kernel
theorem dX3_weighFrom_108 : decode cX3_weighFrom 108 = .ok (.iload_n 3, 1) := by decide +kernel
theorem dX3_weighFrom_109 : decode cX3_weighFrom 109 = .ok (.iload 5, 2) := by decide +kernel
theorem dX3_weighFrom_111 : decode cX3_weighFrom 111 = .ok (.iconst 1, 1) := by decide +kernel
theorem dX3_weighFrom_112 : decode cX3_weighFrom 112 = .ok (.iadd, 1) := by decide +kernel
theorem dX3_weighFrom_113 : decode cX3_weighFrom 113 = .ok (.iload_n 3, 1) := by decide +kernel
theorem dX3_weighFrom_114 : decode cX3_weighFrom 114 = .ok (.isub, 1) := by decide +kernel
theorem dX3_weighFrom_115 : decode cX3_weighFrom 115 = .ok (.iastore, 1) := by decide +kernel
theorem dX3_weighFrom_116 : decode cX3_weighFrom 116 = .ok (.iinc 5 1, 3) := by decide +kernel
theorem dX3_weighFrom_119 : decode cX3_weighFrom 119 = .ok (.goto (-113), 3) := by decide +kernel
theorem dX3_weighFrom_122 : decode cX3_weighFrom 122 = .ok (.return_, 1) := by decide +kernel
theorem dX3_addPhrase_0 : decode cX3_addPhrase 0 = .ok (.iconst 0, 1) := by decide +kernel
theorem dX3_addPhrase_1 : decode cX3_addPhrase 1 = .ok (.istore 4, 2) := by decide +kernel
theorem dX3_addPhrase_3 : decode cX3_addPhrase 3 = .ok (.iload_n 2, 1) := by decide +kernel
theorem dX3_addPhrase_4 : decode cX3_addPhrase 4 = .ok (.istore 5, 2) := by decide +kernel
theorem dX3_addPhrase_6 : decode cX3_addPhrase 6 = .ok (.iload 5, 2) := by decide +kernel
theorem dX3_addPhrase_8 : decode cX3_addPhrase 8 = .ok (.iload_n 3, 1) := by decide +kernel
theorem dX3_addPhrase_9 : decode cX3_addPhrase 9 = .ok (.if_icmp .ge 21, 3) := by decide +kernel
theorem dX3_addPhrase_12 : decode cX3_addPhrase 12 = .ok (.iload 4, 2) := by decide +kernel
theorem dX3_addPhrase_14 : decode cX3_addPhrase 14 = .ok (.aload_n 1, 1) := by decide +kernel
theorem dX3_addPhrase_15 : decode cX3_addPhrase 15 = .ok (.getfield 50, 3) := by decide +kernel
theorem dX3_addPhrase_18 : decode cX3_addPhrase 18 = .ok (.iload 5, 2) := by decide +kernel
theorem dX3_addPhrase_20 : decode cX3_addPhrase 20 = .ok (.iaload, 1) := by decide +kernel
theorem dX3_addPhrase_21 : decode cX3_addPhrase 21 = .ok (.iadd, 1) := by decide +kernel
theorem dX3_addPhrase_22 : decode cX3_addPhrase 22 = .ok (.istore 4, 2) := by decide +kernel
theorem dX3_addPhrase_24 : decode cX3_addPhrase 24 = .ok (.iinc 5 1, 3) := by decide +kernel
theorem dX3_addPhrase_27 : decode cX3_addPhrase 27 = .ok (.goto (-21), 3) := by decide +kernel
theorem dX3_addPhrase_30 : decode cX3_addPhrase 30 = .ok (.aload_n 0, 1) := by decide +kernel
theorem dX3_addPhrase_31 : decode cX3_addPhrase 31 = .ok (.getfield 9, 3) := by decide +kernel
theorem dX3_addPhrase_34 : decode cX3_addPhrase 34 = .ok (.aload_n 0, 1) := by decide +kernel
theorem dX3_addPhrase_35 : decode cX3_addPhrase 35 = .ok (.getfield 34, 3) := by decide +kernel
theorem dX3_addPhrase_38 : decode cX3_addPhrase 38 = .ok (.iload_n 2, 1) := by decide +kernel
theorem dX3_addPhrase_39 : decode cX3_addPhrase 39 = .ok (.iastore, 1) := by decide +kernel
theorem dX3_addPhrase_40 : decode cX3_addPhrase 40 = .ok (.aload_n 0, 1) := by decide +kernel
theorem dX3_addPhrase_41 : decode cX3_addPhrase 41 = .ok (.getfield 15, 3) := by decide +kernel
theorem dX3_addPhrase_44 : decode cX3_addPhrase 44 = .ok (.aload_n 0, 1) := by decide +kernel
theorem dX3_addPhrase_45 : decode cX3_addPhrase 45 = .ok (.getfield 34, 3) := by decide +kernel
theorem dX3_addPhrase_48 : decode cX3_addPhrase 48 = .ok (.iload_n 3, 1) := by decide +kernel
theorem dX3_addPhrase_49 : decode cX3_addPhrase 49 = .ok (.iload_n 2, 1) := by decide +kernel
theorem dX3_addPhrase_50 : decode cX3_addPhrase 50 = .ok (.isub, 1) := by decide +kernel
theorem dX3_addPhrase_51 : decode cX3_addPhrase 51 = .ok (.iastore, 1) := by decide +kernel
theorem dX3_addPhrase_52 : decode cX3_addPhrase 52 = .ok (.aload_n 0, 1) := by decide +kernel
theorem dX3_addPhrase_53 : decode cX3_addPhrase 53 = .ok (.getfield 18, 3) := by decide +kernel
theorem dX3_addPhrase_56 : decode cX3_addPhrase 56 = .ok (.aload_n 0, 1) := by decide +kernel
theorem dX3_addPhrase_57 : decode cX3_addPhrase 57 = .ok (.getfield 34, 3) := by decide +kernel
theorem dX3_addPhrase_60 : decode cX3_addPhrase 60 = .ok (.iload 4, 2) := by decide +kernel
theorem dX3_addPhrase_62 : decode cX3_addPhrase 62 = .ok (.iastore, 1) := by decide +kernel
theorem dX3_addPhrase_63 : decode cX3_addPhrase 63 = .ok (.aload_n 0, 1) := by decide +kernel
theorem dX3_addPhrase_64 : decode cX3_addPhrase 64 = .ok (.getfield 21, 3) := by decide +kernel
theorem dX3_addPhrase_67 : decode cX3_addPhrase 67 = .ok (.aload_n 0, 1) := by decide +kernel
theorem dX3_addPhrase_68 : decode cX3_addPhrase 68 = .ok (.getfield 34, 3) := by decide +kernel
theorem dX3_addPhrase_71 : decode cX3_addPhrase 71 = .ok (.aload_n 0, 1) := by decide +kernel
theorem dX3_addPhrase_72 : decode cX3_addPhrase 72 = .ok (.aload_n 1, 1) := by decide +kernel
theorem dX3_addPhrase_73 : decode cX3_addPhrase 73 = .ok (.iload_n 2, 1) := by decide +kernel
theorem dX3_addPhrase_74 : decode cX3_addPhrase 74 = .ok (.iload_n 3, 1) := by decide +kernel
theorem dX3_addPhrase_75 : decode cX3_addPhrase 75 = .ok (.invokevirtual 56, 3) := by decide +kernel
theorem dX3_addPhrase_78 : decode cX3_addPhrase 78 = .ok (.iastore, 1) := by decide +kernel
theorem dX3_addPhrase_79 : decode cX3_addPhrase 79 = .ok (.aload_n 0, 1) := by decide +kernel
theorem dX3_addPhrase_80 : decode cX3_addPhrase 80 = .ok (.dup, 1) := by decide +kernel
theorem dX3_addPhrase_81 : decode cX3_addPhrase 81 = .ok (.getfield 34, 3) := by decide +kernel
theorem dX3_addPhrase_84 : decode cX3_addPhrase 84 = .ok (.iconst 1, 1) := by decide +kernel
theorem dX3_addPhrase_85 : decode cX3_addPhrase 85 = .ok (.iadd, 1) := by decide +kernel
theorem dX3_addPhrase_86 : decode cX3_addPhrase 86 = .ok (.putfield 34, 3) := by decide +kernel
theorem dX3_addPhrase_89 : decode cX3_addPhrase 89 = .ok (.return_, 1) := by decide +kernel
theorem dX3_accentWords_0 : decode cX3_accentWords 0 = .ok (.iconst 0, 1) := by decide +kernel
theorem dX3_accentWords_1 : decode cX3_accentWords 1 = .ok (.istore 4, 2) := by decide +kernel
theorem dX3_accentWords_3 : decode cX3_accentWords 3 = .ok (.iconst (-1), 1) := by decide +kernel
theorem dX3_accentWords_4 : decode cX3_accentWords 4 = .ok (.istore 5, 2) := by decide +kernel
theorem dX3_accentWords_6 : decode cX3_accentWords 6 = .ok (.iload_n 2, 1) := by decide +kernel
theorem dX3_accentWords_7 : decode cX3_accentWords 7 = .ok (.istore 6, 2) := by decide +kernel
theorem dX3_accentWords_9 : decode cX3_accentWords 9 = .ok (.iload 6, 2) := by decide +kernel
theorem dX3_accentWords_11 : decode cX3_accentWords 11 = .ok (.iload_n 3, 1) := by decide +kernel
theorem dX3_accentWords_12 : decode cX3_accentWords 12 = .ok (.if_icmp .ge 62, 3) := by decide +kernel
theorem dX3_accentWords_15 : decode cX3_accentWords 15 = .ok (.aload_n 0, 1) := by decide +kernel
theorem dX3_accentWords_16 : decode cX3_accentWords 16 = .ok (.getfield 24, 3) := by decide +kernel
theorem dX3_accentWords_19 : decode cX3_accentWords 19 = .ok (.iload 6, 2) := by decide +kernel
theorem dX3_accentWords_21 : decode cX3_accentWords 21 = .ok (.aload_n 1, 1) := by decide +kernel
theorem dX3_accentWords_22 : decode cX3_accentWords 22 = .ok (.getfield 60, 3) := by decide +kernel
theorem dX3_accentWords_25 : decode cX3_accentWords 25 = .ok (.iload 6, 2) := by decide +kernel
theorem dX3_accentWords_27 : decode cX3_accentWords 27 = .ok (.baload, 1) := by decide +kernel
theorem dX3_accentWords_28 : decode cX3_accentWords 28 = .ok (.bastore, 1) := by decide +kernel
theorem dX3_accentWords_29 : decode cX3_accentWords 29 = .ok (.iload 4, 2) := by decide +kernel
theorem dX3_accentWords_31 : decode cX3_accentWords 31 = .ok (.aload_n 1, 1) := by decide +kernel
theorem dX3_accentWords_32 : decode cX3_accentWords 32 = .ok (.getfield 60, 3) := by decide +kernel
theorem dX3_accentWords_35 : decode cX3_accentWords 35 = .ok (.iload 6, 2) := by decide +kernel
theorem dX3_accentWords_37 : decode cX3_accentWords 37 = .ok (.baload, 1) := by decide +kernel
theorem dX3_accentWords_38 : decode cX3_accentWords 38 = .ok (.ifCond .eq 7, 3) := by decide +kernel
theorem dX3_accentWords_41 : decode cX3_accentWords 41 = .ok (.iconst 1, 1) := by decide +kernel
theorem dX3_accentWords_42 : decode cX3_accentWords 42 = .ok (.goto 4, 3) := by decide +kernel
theorem dX3_accentWords_45 : decode cX3_accentWords 45 = .ok (.iconst 0, 1) := by decide +kernel
theorem dX3_accentWords_46 : decode cX3_accentWords 46 = .ok (.iadd, 1) := by decide +kernel
theorem dX3_accentWords_47 : decode cX3_accentWords 47 = .ok (.istore 4, 2) := by decide +kernel
theorem dX3_accentWords_49 : decode cX3_accentWords 49 = .ok (.aload_n 1, 1) := by decide +kernel
theorem dX3_accentWords_50 : decode cX3_accentWords 50 = .ok (.getfield 63, 3) := by decide +kernel
theorem dX3_accentWords_53 : decode cX3_accentWords 53 = .ok (.iload 6, 2) := by decide +kernel
theorem dX3_accentWords_55 : decode cX3_accentWords 55 = .ok (.baload, 1) := by decide +kernel
theorem dX3_accentWords_56 : decode cX3_accentWords 56 = .ok (.ifCond .eq 8, 3) := by decide +kernel
theorem dX3_accentWords_59 : decode cX3_accentWords 59 = .ok (.iload 6, 2) := by decide +kernel
theorem dX3_accentWords_61 : decode cX3_accentWords 61 = .ok (.goto 5, 3) := by decide +kernel
theorem dX3_accentWords_64 : decode cX3_accentWords 64 = .ok (.iload 5, 2) := by decide +kernel
theorem dX3_accentWords_66 : decode cX3_accentWords 66 = .ok (.istore 5, 2) := by decide +kernel
theorem dX3_accentWords_68 : decode cX3_accentWords 68 = .ok (.iinc 6 1, 3) := by decide +kernel
theorem dX3_accentWords_71 : decode cX3_accentWords 71 = .ok (.goto (-62), 3) := by decide +kernel
theorem dX3_accentWords_74 : decode cX3_accentWords 74 = .ok (.iload 4, 2) := by decide +kernel
theorem dX3_accentWords_76 : decode cX3_accentWords 76 = .ok (.ifCond .le 6, 3) := by decide +kernel
theorem dX3_accentWords_79 : decode cX3_accentWords 79 = .ok (.iload 4, 2) := by decide +kernel
theorem dX3_accentWords_81 : decode cX3_accentWords 81 = .ok (.ireturn, 1) := by decide +kernel
theorem dX3_accentWords_82 : decode cX3_accentWords 82 = .ok (.aload_n 0, 1) := by decide +kernel
theorem dX3_accentWords_83 : decode cX3_accentWords 83 = .ok (.getfield 24, 3) := by decide +kernel
theorem dX3_accentWords_86 : decode cX3_accentWords 86 = .ok (.iload 5, 2) := by decide +kernel
theorem dX3_accentWords_88 : decode cX3_accentWords 88 = .ok (.iconst (-1), 1) := by decide +kernel
theorem dX3_accentWords_89 : decode cX3_accentWords 89 = .ok (.if_icmp .ne 9, 3) := by decide +kernel
theorem dX3_accentWords_92 : decode cX3_accentWords 92 = .ok (.iload_n 3, 1) := by decide +kernel
theorem dX3_accentWords_93 : decode cX3_accentWords 93 = .ok (.iconst 1, 1) := by decide +kernel
theorem dX3_accentWords_94 : decode cX3_accentWords 94 = .ok (.isub, 1) := by decide +kernel
theorem dX3_accentWords_95 : decode cX3_accentWords 95 = .ok (.goto 5, 3) := by decide +kernel
theorem dX3_accentWords_98 : decode cX3_accentWords 98 = .ok (.iload 5, 2) := by decide +kernel
theorem dX3_accentWords_100 : decode cX3_accentWords 100 = .ok (.iconst 1, 1) := by decide +kernel
theorem dX3_accentWords_101 : decode cX3_accentWords 101 = .ok (.bastore, 1) := by decide +kernel
theorem dX3_accentWords_102 : decode cX3_accentWords 102 = .ok (.iconst 1, 1) := by decide +kernel
theorem dX3_accentWords_103 : decode cX3_accentWords 103 = .ok (.ireturn, 1) := by decide +kernel
theorem dX3_pauseBehind_0 : decode cX3_pauseBehind 0 = .ok (.iconst 0, 1) := by decide +kernel
theorem dX3_pauseBehind_1 : decode cX3_pauseBehind 1 = .ok (.istore_n 3, 1) := by decide +kernel
theorem dX3_pauseBehind_2 : decode cX3_pauseBehind 2 = .ok (.iconst 0, 1) := by decide +kernel
theorem dX3_pauseBehind_3 : decode cX3_pauseBehind 3 = .ok (.istore 4, 2) := by decide +kernel
theorem dX3_pauseBehind_5 : decode cX3_pauseBehind 5 = .ok (.iload 4, 2) := by decide +kernel
theorem dX3_pauseBehind_7 : decode cX3_pauseBehind 7 = .ok (.aload_n 0, 1) := by decide +kernel
theorem dX3_pauseBehind_8 : decode cX3_pauseBehind 8 = .ok (.getfield 34, 3) := by decide +kernel
theorem dX3_pauseBehind_11 : decode cX3_pauseBehind 11 = .ok (.iconst 1, 1) := by decide +kernel
theorem dX3_pauseBehind_12 : decode cX3_pauseBehind 12 = .ok (.isub, 1) := by decide +kernel
theorem dX3_pauseBehind_13 : decode cX3_pauseBehind 13 = .ok (.if_icmp .ge 19, 3) := by decide +kernel
theorem dX3_pauseBehind_16 : decode cX3_pauseBehind 16 = .ok (.iload_n 3, 1) := by decide +kernel
theorem dX3_pauseBehind_17 : decode cX3_pauseBehind 17 = .ok (.aload_n 0, 1) := by decide +kernel
theorem dX3_pauseBehind_18 : decode cX3_pauseBehind 18 = .ok (.getfield 18, 3) := by decide +kernel
theorem dX3_pauseBehind_21 : decode cX3_pauseBehind 21 = .ok (.iload 4, 2) := by decide +kernel
theorem dX3_pauseBehind_23 : decode cX3_pauseBehind 23 = .ok (.iaload, 1) := by decide +kernel
theorem dX3_pauseBehind_24 : decode cX3_pauseBehind 24 = .ok (.iadd, 1) := by decide +kernel
theorem dX3_pauseBehind_25 : decode cX3_pauseBehind 25 = .ok (.istore_n 3, 1) := by decide +kernel
theorem dX3_pauseBehind_26 : decode cX3_pauseBehind 26 = .ok (.iinc 4 1, 3) := by decide +kernel
theorem dX3_pauseBehind_29 : decode cX3_pauseBehind 29 = .ok (.goto (-24), 3) := by decide +kernel
theorem dX3_pauseBehind_32 : decode cX3_pauseBehind 32 = .ok (.iload_n 3, 1) := by decide +kernel
theorem dX3_pauseBehind_33 : decode cX3_pauseBehind 33 = .ok (.ifCond .gt 5, 3) := by decide +kernel
theorem dX3_pauseBehind_36 : decode cX3_pauseBehind 36 = .ok (.iconst 0, 1) := by decide +kernel
theorem dX3_pauseBehind_37 : decode cX3_pauseBehind 37 = .ok (.ireturn, 1) := by decide +kernel
theorem dX3_pauseBehind_38 : decode cX3_pauseBehind 38 = .ok (.iload_n 2, 1) := by decide +kernel
theorem dX3_pauseBehind_39 : decode cX3_pauseBehind 39 = .ok (.istore 4, 2) := by decide +kernel
theorem dX3_pauseBehind_41 : decode cX3_pauseBehind 41 = .ok (.iconst 0, 1) := by decide +kernel
theorem dX3_pauseBehind_42 : decode cX3_pauseBehind 42 = .ok (.istore 5, 2) := by decide +kernel
theorem dX3_pauseBehind_44 : decode cX3_pauseBehind 44 = .ok (.iload_n 2, 1) := by decide +kernel
theorem dX3_pauseBehind_45 : decode cX3_pauseBehind 45 = .ok (.aload_n 0, 1) := by decide +kernel
theorem dX3_pauseBehind_46 : decode cX3_pauseBehind 46 = .ok (.getfield 18, 3) := by decide +kernel
theorem dX3_pauseBehind_49 : decode cX3_pauseBehind 49 = .ok (.iload_n 1, 1) := by decide +kernel
theorem dX3_pauseBehind_50 : decode cX3_pauseBehind 50 = .ok (.iaload, 1) := by decide +kernel
theorem dX3_pauseBehind_51 : decode cX3_pauseBehind 51 = .ok (.imul, 1) := by decide +kernel
theorem dX3_pauseBehind_52 : decode cX3_pauseBehind 52 = .ok (.iload_n 3, 1) := by decide +kernel
theorem dX3_pauseBehind_53 : decode cX3_pauseBehind 53 = .ok (.irem, 1) := by decide +kernel
theorem dX3_pauseBehind_54 : decode cX3_pauseBehind 54 = .ok (.istore 6, 2) := by decide +kernel
theorem dX3_pauseBehind_56 : decode cX3_pauseBehind 56 = .ok (.iconst 0, 1) := by decide +kernel
theorem dX3_pauseBehind_57 : decode cX3_pauseBehind 57 = .ok (.istore 7, 2) := by decide +kernel
theorem dX3_pauseBehind_59 : decode cX3_pauseBehind 59 = .ok (.iload 7, 2) := by decide +kernel
theorem dX3_pauseBehind_61 : decode cX3_pauseBehind 61 = .ok (.aload_n 0, 1) := by decide +kernel
theorem dX3_pauseBehind_62 : decode cX3_pauseBehind 62 = .ok (.getfield 34, 3) := by decide +kernel
theorem dX3_pauseBehind_65 : decode cX3_pauseBehind 65 = .ok (.iconst 1, 1) := by decide +kernel
theorem dX3_pauseBehind_66 : decode cX3_pauseBehind 66 = .ok (.isub, 1) := by decide +kernel
theorem dX3_pauseBehind_67 : decode cX3_pauseBehind 67 = .ok (.if_icmp .ge 68, 3) := by decide +kernel
theorem dX3_pauseBehind_70 : decode cX3_pauseBehind 70 = .ok (.iload 4, 2) := by decide +kernel
theorem dX3_pauseBehind_72 : decode cX3_pauseBehind 72 = .ok (.iload_n 2, 1) := by decide +kernel
theorem dX3_pauseBehind_73 : decode cX3_pauseBehind 73 = .ok (.aload_n 0, 1) := by decide +kernel
theorem dX3_pauseBehind_74 : decode cX3_pauseBehind 74 = .ok (.getfield 18, 3) := by decide +kernel
theorem dX3_pauseBehind_77 : decode cX3_pauseBehind 77 = .ok (.iload 7, 2) := by decide +kernel
theorem dX3_pauseBehind_79 : decode cX3_pauseBehind 79 = .ok (.iaload, 1) := by decide +kernel
theorem dX3_pauseBehind_80 : decode cX3_pauseBehind 80 = .ok (.imul, 1) := by decide +kernel
theorem dX3_pauseBehind_81 : decode cX3_pauseBehind 81 = .ok (.iload_n 3, 1) := by decide +kernel
theorem dX3_pauseBehind_82 : decode cX3_pauseBehind 82 = .ok (.idiv, 1) := by decide +kernel
theorem dX3_pauseBehind_83 : decode cX3_pauseBehind 83 = .ok (.isub, 1) := by decide +kernel
theorem dX3_pauseBehind_84 : decode cX3_pauseBehind 84 = .ok (.istore 4, 2) := by decide +kernel
theorem dX3_pauseBehind_86 : decode cX3_pauseBehind 86 = .ok (.iload_n 2, 1) := by decide +kernel
theorem dX3_pauseBehind_87 : decode cX3_pauseBehind 87 = .ok (.aload_n 0, 1) := by decide +kernel
theorem dX3_pauseBehind_88 : decode cX3_pauseBehind 88 = .ok (.getfield 18, 3) := by decide +kernel
theorem dX3_pauseBehind_91 : decode cX3_pauseBehind 91 = .ok (.iload 7, 2) := by decide +kernel
theorem dX3_pauseBehind_93 : decode cX3_pauseBehind 93 = .ok (.iaload, 1) := by decide +kernel
theorem dX3_pauseBehind_94 : decode cX3_pauseBehind 94 = .ok (.imul, 1) := by decide +kernel
theorem dX3_pauseBehind_95 : decode cX3_pauseBehind 95 = .ok (.iload_n 3, 1) := by decide +kernel
theorem dX3_pauseBehind_96 : decode cX3_pauseBehind 96 = .ok (.irem, 1) := by decide +kernel
theorem dX3_pauseBehind_97 : decode cX3_pauseBehind 97 = .ok (.istore 8, 2) := by decide +kernel
theorem dX3_pauseBehind_99 : decode cX3_pauseBehind 99 = .ok (.iload 5, 2) := by decide +kernel
theorem dX3_pauseBehind_101 : decode cX3_pauseBehind 101 = .ok (.iload 8, 2) := by decide +kernel
theorem dX3_pauseBehind_103 : decode cX3_pauseBehind 103 = .ok (.iload 6, 2) := by decide +kernel
theorem dX3_pauseBehind_105 : decode cX3_pauseBehind 105 = .ok (.if_icmp .gt 16, 3) := by decide +kernel
theorem dX3_pauseBehind_108 : decode cX3_pauseBehind 108 = .ok (.iload 8, 2) := by decide +kernel
theorem dX3_pauseBehind_110 : decode cX3_pauseBehind 110 = .ok (.iload 6, 2) := by decide +kernel
theorem dX3_pauseBehind_112 : decode cX3_pauseBehind 112 = .ok (.if_icmp .ne 13, 3) := by decide +kernel
theorem dX3_pauseBehind_115 : decode cX3_pauseBehind 115 = .ok (.iload 7, 2) := by decide +kernel
theorem dX3_pauseBehind_117 : decode cX3_pauseBehind 117 = .ok (.iload_n 1, 1) := by decide +kernel
theorem dX3_pauseBehind_118 : decode cX3_pauseBehind 118 = .ok (.if_icmp .ge 7, 3) := by decide +kernel
theorem dX3_pauseBehind_121 : decode cX3_pauseBehind 121 = .ok (.iconst 1, 1) := by decide +kernel
theorem dX3_pauseBehind_122 : decode cX3_pauseBehind 122 = .ok (.goto 4, 3) := by decide +kernel
theorem dX3_pauseBehind_125 : decode cX3_pauseBehind 125 = .ok (.iconst 0, 1) := by decide +kernel
theorem dX3_pauseBehind_126 : decode cX3_pauseBehind 126 = .ok (.iadd, 1) := by decide +kernel
theorem dX3_pauseBehind_127 : decode cX3_pauseBehind 127 = .ok (.istore 5, 2) := by decide +kernel
theorem dX3_pauseBehind_129 : decode cX3_pauseBehind 129 = .ok (.iinc 7 1, 3) := by decide +kernel
theorem dX3_pauseBehind_132 : decode cX3_pauseBehind 132 = .ok (.goto (-73), 3) := by decide +kernel
theorem dX3_pauseBehind_135 : decode cX3_pauseBehind 135 = .ok (.iload_n 2, 1) := by decide +kernel
theorem dX3_pauseBehind_136 : decode cX3_pauseBehind 136 = .ok (.aload_n 0, 1) := by decide +kernel
theorem dX3_pauseBehind_137 : decode cX3_pauseBehind 137 = .ok (.getfield 18, 3) := by decide +kernel
theorem dX3_pauseBehind_140 : decode cX3_pauseBehind 140 = .ok (.iload_n 1, 1) := by decide +kernel
theorem dX3_pauseBehind_141 : decode cX3_pauseBehind 141 = .ok (.iaload, 1) := by decide +kernel
theorem dX3_pauseBehind_142 : decode cX3_pauseBehind 142 = .ok (.imul, 1) := by decide +kernel
theorem dX3_pauseBehind_143 : decode cX3_pauseBehind 143 = .ok (.iload_n 3, 1) := by decide +kernel
theorem dX3_pauseBehind_144 : decode cX3_pauseBehind 144 = .ok (.idiv, 1) := by decide +kernel
theorem dX3_pauseBehind_145 : decode cX3_pauseBehind 145 = .ok (.iload 5, 2) := by decide +kernel
theorem dX3_pauseBehind_147 : decode cX3_pauseBehind 147 = .ok (.iload 4, 2) := by decide +kernel
theorem dX3_pauseBehind_149 : decode cX3_pauseBehind 149 = .ok (.if_icmp .ge 7, 3) := by decide +kernel
theorem dX3_pauseBehind_152 : decode cX3_pauseBehind 152 = .ok (.iconst 1, 1) := by decide +kernel
theorem dX3_pauseBehind_153 : decode cX3_pauseBehind 153 = .ok (.goto 4, 3) := by decide +kernel
theorem dX3_pauseBehind_156 : decode cX3_pauseBehind 156 = .ok (.iconst 0, 1) := by decide +kernel
theorem dX3_pauseBehind_157 : decode cX3_pauseBehind 157 = .ok (.iadd, 1) := by decide +kernel
theorem dX3_pauseBehind_158 : decode cX3_pauseBehind 158 = .ok (.ireturn, 1) := by decide +kernel
theorem dX4_init_0 : decode cX4_init 0 = .ok (.aload_n 0, 1) := by decide +kernel
theorem dX4_init_1 : decode cX4_init 1 = .ok (.invokespecial 3, 3) := by decide +kernel
theorem dX4_init_4 : decode cX4_init 4 = .ok (.aload_n 0, 1) := by decide +kernel
theorem dX4_init_5 : decode cX4_init 5 = .ok (.bipush 16, 2) := by decide +kernel
theorem dX4_init_7 : decode cX4_init 7 = .ok (.newarray .int, 2) := by decide +kernel
theorem dX4_init_9 : decode cX4_init 9 = .ok (.putfield 9, 3) := by decide +kernel
theorem dX4_init_12 : decode cX4_init 12 = .ok (.aload_n 0, 1) := by decide +kernel
theorem dX4_init_13 : decode cX4_init 13 = .ok (.bipush 16, 2) := by decide +kernel
theorem dX4_init_15 : decode cX4_init 15 = .ok (.newarray .int, 2) := by decide +kernel
theorem dX4_init_17 : decode cX4_init 17 = .ok (.putfield 15, 3) := by decide +kernel
theorem dX4_init_20 : decode cX4_init 20 = .ok (.aload_n 0, 1) := by decide +kernel
theorem dX4_init_21 : decode cX4_init 21 = .ok (.bipush 16, 2) := by decide +kernel
theorem dX4_init_23 : decode cX4_init 23 = .ok (.newarray .int, 2) := by decide +kernel
theorem dX4_init_25 : decode cX4_init 25 = .ok (.putfield 18, 3) := by decide +kernel
theorem dX4_init_28 : decode cX4_init 28 = .ok (.aload_n 0, 1) := by decide +kernel
theorem dX4_init_29 : decode cX4_init 29 = .ok (.bipush 16, 2) := by decide +kernel
theorem dX4_init_31 : decode cX4_init 31 = .ok (.newarray .boolean, 2) := by decide +kernel
theorem dX4_init_33 : decode cX4_init 33 = .ok (.putfield 21, 3) := by decide +kernel
theorem dX4_init_36 : decode cX4_init 36 = .ok (.aload_n 0, 1) := by decide +kernel
theorem dX4_init_37 : decode cX4_init 37 = .ok (.bipush 16, 2) := by decide +kernel
theorem dX4_init_39 : decode cX4_init 39 = .ok (.newarray .boolean, 2) := by decide +kernel
theorem dX4_init_41 : decode cX4_init 41 = .ok (.putfield 25, 3) := by decide +kernel
theorem dX4_init_44 : decode cX4_init 44 = .ok (.aload_n 0, 1) := by decide +kernel
theorem dX4_init_45 : decode cX4_init 45 = .ok (.iconst 3, 1) := by decide +kernel
theorem dX4_init_46 : decode cX4_init 46 = .ok (.bipush 80, 2) := by decide +kernel
theorem dX4_init_48 : decode cX4_init 48 = .ok (.multianewarray 28 2, 4) := by decide +kernel
theorem dX4_init_52 : decode cX4_init 52 = .ok (.putfield 30, 3) := by decide +kernel
theorem dX4_init_55 : decode cX4_init 55 = .ok (.aload_n 0, 1) := by decide +kernel
theorem dX4_init_56 : decode cX4_init 56 = .ok (.iconst 0, 1) := by decide +kernel
theorem dX4_init_57 : decode cX4_init 57 = .ok (.putfield 33, 3) := by decide +kernel
theorem dX4_init_60 : decode cX4_init 60 = .ok (.aload_n 0, 1) := by decide +kernel
theorem dX4_init_61 : decode cX4_init 61 = .ok (.iconst 0, 1) := by decide +kernel
theorem dX4_init_62 : decode cX4_init 62 = .ok (.putfield 37, 3) := by decide +kernel
theorem dX4_init_65 : decode cX4_init 65 = .ok (.aload_n 0, 1) := by decide +kernel
theorem dX4_init_66 : decode cX4_init 66 = .ok (.iconst 0, 1) := by decide +kernel
theorem dX4_init_67 : decode cX4_init 67 = .ok (.putfield 40, 3) := by decide +kernel
theorem dX4_init_70 : decode cX4_init 70 = .ok (.aload_n 0, 1) := by decide +kernel
theorem dX4_init_71 : decode cX4_init 71 = .ok (.invokevirtual 43, 3) := by decide +kernel
theorem dX4_init_74 : decode cX4_init 74 = .ok (.return_, 1) := by decide +kernel
theorem dX4_clearMarks_0 : decode cX4_clearMarks 0 = .ok (.iconst 0, 1) := by decide +kernel
theorem dX4_clearMarks_1 : decode cX4_clearMarks 1 = .ok (.istore_n 1, 1) := by decide +kernel
theorem dX4_clearMarks_2 : decode cX4_clearMarks 2 = .ok (.iload_n 1, 1) := by decide +kernel
theorem dX4_clearMarks_3 : decode cX4_clearMarks 3 = .ok (.iconst 3, 1) := by decide +kernel
theorem dX4_clearMarks_4 : decode cX4_clearMarks 4 = .ok (.if_icmp .ge 19, 3) := by decide +kernel
theorem dX4_clearMarks_7 : decode cX4_clearMarks 7 = .ok (.aload_n 0, 1) := by decide +kernel
theorem dX4_clearMarks_8 : decode cX4_clearMarks 8 = .ok (.getfield 30, 3) := by decide +kernel
theorem dX4_clearMarks_11 : decode cX4_clearMarks 11 = .ok (.iload_n 1, 1) := by decide +kernel
theorem dX4_clearMarks_12 : decode cX4_clearMarks 12 = .ok (.aaload, 1) := by decide +kernel
theorem dX4_clearMarks_13 : decode cX4_clearMarks 13 = .ok (.iconst (-1), 1) := by decide +kernel
theorem dX4_clearMarks_14 : decode cX4_clearMarks 14 = .ok (.invokestatic 46, 3) := by decide +kernel
theorem dX4_clearMarks_17 : decode cX4_clearMarks 17 = .ok (.iinc 1 1, 3) := by decide +kernel
theorem dX4_clearMarks_20 : decode cX4_clearMarks 20 = .ok (.goto (-18), 3) := by decide +kernel
theorem dX4_clearMarks_23 : decode cX4_clearMarks 23 = .ok (.return_, 1) := by decide +kernel
theorem dX4_markCount_0 : decode cX4_markCount 0 = .ok (.iconst 0, 1) := by decide +kernel
theorem dX4_markCount_1 : decode cX4_markCount 1 = .ok (.istore_n 1, 1) := by decide +kernel
theorem dX4_markCount_2 : decode cX4_markCount 2 = .ok (.iconst 0, 1) := by decide +kernel
theorem dX4_markCount_3 : decode cX4_markCount 3 = .ok (.istore_n 2, 1) := by decide +kernel
theorem dX4_markCount_4 : decode cX4_markCount 4 = .ok (.iload_n 2, 1) := by decide +kernel
theorem dX4_markCount_5 : decode cX4_markCount 5 = .ok (.iconst 3, 1) := by decide +kernel
theorem dX4_markCount_6 : decode cX4_markCount 6 = .ok (.if_icmp .ge 45, 3) := by decide +kernel
theorem dX4_markCount_9 : decode cX4_markCount 9 = .ok (.iconst 0, 1) := by decide +kernel
theorem dX4_markCount_10 : decode cX4_markCount 10 = .ok (.istore_n 3, 1) := by decide +kernel
theorem dX4_markCount_11 : decode cX4_markCount 11 = .ok (.iload_n 3, 1) := by decide +kernel
theorem dX4_markCount_12 : decode cX4_markCount 12 = .ok (.aload_n 0, 1) := by decide +kernel
theorem dX4_markCount_13 : decode cX4_markCount 13 = .ok (.getfield 37, 3) := by decide +kernel
theorem dX4_markCount_16 : decode cX4_markCount 16 = .ok (.if_icmp .ge 29, 3) := by decide +kernel
theorem dX4_markCount_19 : decode cX4_markCount 19 = .ok (.iload_n 1, 1) := by decide +kernel
theorem dX4_markCount_20 : decode cX4_markCount 20 = .ok (.aload_n 0, 1) := by decide +kernel
theorem dX4_markCount_21 : decode cX4_markCount 21 = .ok (.getfield 30, 3) := by decide +kernel
theorem dX4_markCount_24 : decode cX4_markCount 24 = .ok (.iload_n 2, 1) := by decide +kernel
theorem dX4_markCount_25 : decode cX4_markCount 25 = .ok (.aaload, 1) := by decide +kernel
theorem dX4_markCount_26 : decode cX4_markCount 26 = .ok (.iload_n 3, 1) := by decide +kernel
theorem dX4_markCount_27 : decode cX4_markCount 27 = .ok (.iaload, 1) := by decide +kernel
theorem dX4_markCount_28 : decode cX4_markCount 28 = .ok (.iconst (-1), 1) := by decide +kernel
theorem dX4_markCount_29 : decode cX4_markCount 29 = .ok (.if_icmp .ne 7, 3) := by decide +kernel
theorem dX4_markCount_32 : decode cX4_markCount 32 = .ok (.iconst 0, 1) := by decide +kernel
theorem dX4_markCount_33 : decode cX4_markCount 33 = .ok (.goto 4, 3) := by decide +kernel
theorem dX4_markCount_36 : decode cX4_markCount 36 = .ok (.iconst 1, 1) := by decide +kernel
theorem dX4_markCount_37 : decode cX4_markCount 37 = .ok (.iadd, 1) := by decide +kernel
theorem dX4_markCount_38 : decode cX4_markCount 38 = .ok (.istore_n 1, 1) := by decide +kernel
theorem dX4_markCount_39 : decode cX4_markCount 39 = .ok (.iinc 3 1, 3) := by decide +kernel
theorem dX4_markCount_42 : decode cX4_markCount 42 = .ok (.goto (-31), 3) := by decide +kernel
theorem dX4_markCount_45 : decode cX4_markCount 45 = .ok (.iinc 2 1, 3) := by decide +kernel
theorem dX4_markCount_48 : decode cX4_markCount 48 = .ok (.goto (-44), 3) := by decide +kernel
theorem dX4_markCount_51 : decode cX4_markCount 51 = .ok (.iload_n 1, 1) := by decide +kernel
theorem dX4_markCount_52 : decode cX4_markCount 52 = .ok (.ireturn, 1) := by decide +kernel
theorem dX4_putWord_0 : decode cX4_putWord 0 = .ok (.aload_n 0, 1) := by decide +kernel
theorem dX4_putWord_1 : decode cX4_putWord 1 = .ok (.dup, 1) := by decide +kernel
theorem dX4_putWord_2 : decode cX4_putWord 2 = .ok (.getfield 37, 3) := by decide +kernel
theorem dX4_putWord_5 : decode cX4_putWord 5 = .ok (.iload_n 2, 1) := by decide +kernel
theorem dX4_putWord_6 : decode cX4_putWord 6 = .ok (.aload_n 0, 1) := by decide +kernel
theorem dX4_putWord_7 : decode cX4_putWord 7 = .ok (.getfield 9, 3) := by decide +kernel
theorem dX4_putWord_10 : decode cX4_putWord 10 = .ok (.iload_n 1, 1) := by decide +kernel
theorem dX4_putWord_11 : decode cX4_putWord 11 = .ok (.iaload, 1) := by decide +kernel
theorem dX4_putWord_12 : decode cX4_putWord 12 = .ok (.isub, 1) := by decide +kernel
theorem dX4_putWord_13 : decode cX4_putWord 13 = .ok (.iadd, 1) := by decide +kernel
theorem dX4_putWord_14 : decode cX4_putWord 14 = .ok (.putfield 37, 3) := by decide +kernel
theorem dX4_putWord_17 : decode cX4_putWord 17 = .ok (.aload_n 0, 1) := by decide +kernel
theorem dX4_putWord_18 : decode cX4_putWord 18 = .ok (.getfield 9, 3) := by decide +kernel
theorem dX4_putWord_21 : decode cX4_putWord 21 = .ok (.iload_n 1, 1) := by decide +kernel
theorem dX4_putWord_22 : decode cX4_putWord 22 = .ok (.iload_n 2, 1) := by decide +kernel
theorem dX4_putWord_23 : decode cX4_putWord 23 = .ok (.iastore, 1) := by decide +kernel
theorem dX4_putWord_24 : decode cX4_putWord 24 = .ok (.aload_n 0, 1) := by decide +kernel
theorem dX4_putWord_25 : decode cX4_putWord 25 = .ok (.getfield 15, 3) := by decide +kernel
theorem dX4_putWord_28 : decode cX4_putWord 28 = .ok (.iload_n 1, 1) := by decide +kernel
theorem dX4_putWord_29 : decode cX4_putWord 29 = .ok (.iload_n 3, 1) := by decide +kernel
theorem dX4_putWord_30 : decode cX4_putWord 30 = .ok (.iastore, 1) := by decide +kernel
theorem dX4_putWord_31 : decode cX4_putWord 31 = .ok (.aload_n 0, 1) := by decide +kernel
theorem dX4_putWord_32 : decode cX4_putWord 32 = .ok (.getfield 18, 3) := by decide +kernel
theorem dX4_putWord_35 : decode cX4_putWord 35 = .ok (.iload_n 1, 1) := by decide +kernel
theorem dX4_putWord_36 : decode cX4_putWord 36 = .ok (.iload 4, 2) := by decide +kernel
theorem dX4_putWord_38 : decode cX4_putWord 38 = .ok (.iastore, 1) := by decide +kernel
theorem dX4_putWord_39 : decode cX4_putWord 39 = .ok (.aload_n 0, 1) := by decide +kernel
theorem dX4_putWord_40 : decode cX4_putWord 40 = .ok (.getfield 21, 3) := by decide +kernel
theorem dX4_putWord_43 : decode cX4_putWord 43 = .ok (.iload_n 1, 1) := by decide +kernel
theorem dX4_putWord_44 : decode cX4_putWord 44 = .ok (.iload 5, 2) := by decide +kernel
theorem dX4_putWord_46 : decode cX4_putWord 46 = .ok (.bastore, 1) := by decide +kernel
theorem dX4_putWord_47 : decode cX4_putWord 47 = .ok (.aload_n 0, 1) := by decide +kernel
theorem dX4_putWord_48 : decode cX4_putWord 48 = .ok (.getfield 25, 3) := by decide +kernel
theorem dX4_putWord_51 : decode cX4_putWord 51 = .ok (.iload_n 1, 1) := by decide +kernel
theorem dX4_putWord_52 : decode cX4_putWord 52 = .ok (.iload 6, 2) := by decide +kernel
theorem dX4_putWord_54 : decode cX4_putWord 54 = .ok (.bastore, 1) := by decide +kernel
theorem dX4_putWord_55 : decode cX4_putWord 55 = .ok (.return_, 1) := by decide +kernel
theorem dX4_becomeLike_0 : decode cX4_becomeLike 0 = .ok (.iconst 0, 1) := by decide +kernel
theorem dX4_becomeLike_1 : decode cX4_becomeLike 1 = .ok (.istore_n 2, 1) := by decide +kernel
theorem dX4_becomeLike_2 : decode cX4_becomeLike 2 = .ok (.iload_n 2, 1) := by decide +kernel
theorem dX4_becomeLike_3 : decode cX4_becomeLike 3 = .ok (.aload_n 1, 1) := by decide +kernel
theorem dX4_becomeLike_4 : decode cX4_becomeLike 4 = .ok (.getfield 33, 3) := by decide +kernel
theorem dX4_becomeLike_7 : decode cX4_becomeLike 7 = .ok (.if_icmp .ge 44, 3) := by decide +kernel
theorem dX4_becomeLike_10 : decode cX4_becomeLike 10 = .ok (.aload_n 0, 1) := by decide +kernel
theorem dX4_becomeLike_11 : decode cX4_becomeLike 11 = .ok (.iload_n 2, 1) := by decide +kernel
theorem dX4_becomeLike_12 : decode cX4_becomeLike 12 = .ok (.aload_n 1, 1) := by decide +kernel
theorem dX4_becomeLike_13 : decode cX4_becomeLike 13 = .ok (.getfield 9, 3) := by decide +kernel
theorem dX4_becomeLike_16 : decode cX4_becomeLike 16 = .ok (.iload_n 2, 1) := by decide +kernel
theorem dX4_becomeLike_17 : decode cX4_becomeLike 17 = .ok (.iaload, 1) := by decide +kernel
theorem dX4_becomeLike_18 : decode cX4_becomeLike 18 = .ok (.aload_n 1, 1) := by decide +kernel
theorem dX4_becomeLike_19 : decode cX4_becomeLike 19 = .ok (.getfield 15, 3) := by decide +kernel
theorem dX4_becomeLike_22 : decode cX4_becomeLike 22 = .ok (.iload_n 2, 1) := by decide +kernel
theorem dX4_becomeLike_23 : decode cX4_becomeLike 23 = .ok (.iaload, 1) := by decide +kernel
theorem dX4_becomeLike_24 : decode cX4_becomeLike 24 = .ok (.aload_n 1, 1) := by decide +kernel
theorem dX4_becomeLike_25 : decode cX4_becomeLike 25 = .ok (.getfield 18, 3) := by decide +kernel
theorem dX4_becomeLike_28 : decode cX4_becomeLike 28 = .ok (.iload_n 2, 1) := by decide +kernel
theorem dX4_becomeLike_29 : decode cX4_becomeLike 29 = .ok (.iaload, 1) := by decide +kernel
theorem dX4_becomeLike_30 : decode cX4_becomeLike 30 = .ok (.aload_n 1, 1) := by decide +kernel
theorem dX4_becomeLike_31 : decode cX4_becomeLike 31 = .ok (.getfield 21, 3) := by decide +kernel
theorem dX4_becomeLike_34 : decode cX4_becomeLike 34 = .ok (.iload_n 2, 1) := by decide +kernel
theorem dX4_becomeLike_35 : decode cX4_becomeLike 35 = .ok (.baload, 1) := by decide +kernel
theorem dX4_becomeLike_36 : decode cX4_becomeLike 36 = .ok (.aload_n 1, 1) := by decide +kernel
theorem dX4_becomeLike_37 : decode cX4_becomeLike 37 = .ok (.getfield 25, 3) := by decide +kernel
theorem dX4_becomeLike_40 : decode cX4_becomeLike 40 = .ok (.iload_n 2, 1) := by decide +kernel
theorem dX4_becomeLike_41 : decode cX4_becomeLike 41 = .ok (.baload, 1) := by decide +kernel
theorem dX4_becomeLike_42 : decode cX4_becomeLike 42 = .ok (.invokevirtual 52, 3) := by decide +kernel
theorem dX4_becomeLike_45 : decode cX4_becomeLike 45 = .ok (.iinc 2 1, 3) := by decide +kernel
theorem dX4_becomeLike_48 : decode cX4_becomeLike 48 = .ok (.goto (-46), 3) := by decide +kernel
theorem dX4_becomeLike_51 : decode cX4_becomeLike 51 = .ok (.aload_n 0, 1) := by decide +kernel
theorem dX4_becomeLike_52 : decode cX4_becomeLike 52 = .ok (.aload_n 1, 1) := by decide +kernel
theorem dX4_becomeLike_53 : decode cX4_becomeLike 53 = .ok (.getfield 33, 3) := by decide +kernel
theorem dX4_becomeLike_56 : decode cX4_becomeLike 56 = .ok (.putfield 33, 3) := by decide +kernel
theorem dX4_becomeLike_59 : decode cX4_becomeLike 59 = .ok (.aload_n 0, 1) := by decide +kernel
theorem dX4_becomeLike_60 : decode cX4_becomeLike 60 = .ok (.aload_n 1, 1) := by decide +kernel
theorem dX4_becomeLike_61 : decode cX4_becomeLike 61 = .ok (.getfield 40, 3) := by decide +kernel
theorem dX4_becomeLike_64 : decode cX4_becomeLike 64 = .ok (.putfield 40, 3) := by decide +kernel
theorem dX4_becomeLike_67 : decode cX4_becomeLike 67 = .ok (.iconst 0, 1) := by decide +kernel
theorem dX4_becomeLike_68 : decode cX4_becomeLike 68 = .ok (.istore_n 2, 1) := by decide +kernel
theorem dX4_becomeLike_69 : decode cX4_becomeLike 69 = .ok (.iload_n 2, 1) := by decide +kernel
theorem dX4_becomeLike_70 : decode cX4_becomeLike 70 = .ok (.iconst 3, 1) := by decide +kernel
theorem dX4_becomeLike_71 : decode cX4_becomeLike 71 = .ok (.if_icmp .ge 28, 3) := by decide +kernel
theorem dX4_becomeLike_74 : decode cX4_becomeLike 74 = .ok (.aload_n 1, 1) := by decide +kernel
theorem dX4_becomeLike_75 : decode cX4_becomeLike 75 = .ok (.getfield 30, 3) := by decide +kernel
theorem dX4_becomeLike_78 : decode cX4_becomeLike 78 = .ok (.iload_n 2, 1) := by decide +kernel
theorem dX4_becomeLike_79 : decode cX4_becomeLike 79 = .ok (.aaload, 1) := by decide +kernel
theorem dX4_becomeLike_80 : decode cX4_becomeLike 80 = .ok (.iconst 0, 1) := by decide +kernel
theorem dX4_becomeLike_81 : decode cX4_becomeLike 81 = .ok (.aload_n 0, 1) := by decide +kernel
theorem dX4_becomeLike_82 : decode cX4_becomeLike 82 = .ok (.getfield 30, 3) := by decide +kernel
theorem dX4_becomeLike_85 : decode cX4_becomeLike 85 = .ok (.iload_n 2, 1) := by decide +kernel
theorem dX4_becomeLike_86 : decode cX4_becomeLike 86 = .ok (.aaload, 1) := by decide +kernel
theorem dX4_becomeLike_87 : decode cX4_becomeLike 87 = .ok (.iconst 0, 1) := by decide +kernel
theorem dX4_becomeLike_88 : decode cX4_becomeLike 88 = .ok (.bipush 80, 2) := by decide +kernel
theorem dX4_becomeLike_90 : decode cX4_becomeLike 90 = .ok (.invokestatic 56, 3) := by decide +kernel
theorem dX4_becomeLike_93 : decode cX4_becomeLike 93 = .ok (.iinc 2 1, 3) := by decide +kernel
theorem dX4_becomeLike_96 : decode cX4_becomeLike 96 = .ok (.goto (-27), 3) := by decide +kernel
theorem dX4_becomeLike_99 : decode cX4_becomeLike 99 = .ok (.return_, 1) := by decide +kernel
theorem dX5_init_0 : decode cX5_init 0 = .ok (.aload_n 0, 1) := by decide +kernel
theorem dX5_init_1 : decode cX5_init 1 = .ok (.invokespecial 3, 3) := by decide +kernel
theorem dX5_init_4 : decode cX5_init 4 = .ok (.aload_n 0, 1) := by decide +kernel
theorem dX5_init_5 : decode cX5_init 5 = .ok (.bipush 24, 2) := by decide +kernel
theorem dX5_init_7 : decode cX5_init 7 = .ok (.newarray .boolean, 2) := by decide +kernel
theorem dX5_init_9 : decode cX5_init 9 = .ok (.putfield 9, 3) := by decide +kernel
theorem dX5_init_12 : decode cX5_init 12 = .ok (.aload_n 0, 1) := by decide +kernel
theorem dX5_init_13 : decode cX5_init 13 = .ok (.bipush 24, 2) := by decide +kernel
theorem dX5_init_15 : decode cX5_init 15 = .ok (.newarray .int, 2) := by decide +kernel
theorem dX5_init_17 : decode cX5_init 17 = .ok (.putfield 15, 3) := by decide +kernel
theorem dX5_init_20 : decode cX5_init 20 = .ok (.aload_n 0, 1) := by decide +kernel
theorem dX5_init_21 : decode cX5_init 21 = .ok (.bipush 24, 2) := by decide +kernel
theorem dX5_init_23 : decode cX5_init 23 = .ok (.newarray .int, 2) := by decide +kernel
theorem dX5_init_25 : decode cX5_init 25 = .ok (.putfield 19, 3) := by decide +kernel
theorem dX5_init_28 : decode cX5_init 28 = .ok (.aload_n 0, 1) := by decide +kernel
theorem dX5_init_29 : decode cX5_init 29 = .ok (.bipush 24, 2) := by decide +kernel
theorem dX5_init_31 : decode cX5_init 31 = .ok (.newarray .int, 2) := by decide +kernel
theorem dX5_init_33 : decode cX5_init 33 = .ok (.putfield 22, 3) := by decide +kernel
theorem dX5_init_36 : decode cX5_init 36 = .ok (.aload_n 0, 1) := by decide +kernel
theorem dX5_init_37 : decode cX5_init 37 = .ok (.bipush 24, 2) := by decide +kernel
theorem dX5_init_39 : decode cX5_init 39 = .ok (.newarray .int, 2) := by decide +kernel
theorem dX5_init_41 : decode cX5_init 41 = .ok (.putfield 25, 3) := by decide +kernel
theorem dX5_init_44 : decode cX5_init 44 = .ok (.aload_n 0, 1) := by decide +kernel
theorem dX5_init_45 : decode cX5_init 45 = .ok (.iconst 0, 1) := by decide +kernel
theorem dX5_init_46 : decode cX5_init 46 = .ok (.putfield 28, 3) := by decide +kernel
theorem dX5_init_49 : decode cX5_init 49 = .ok (.aload_n 0, 1) := by decide +kernel
theorem dX5_init_50 : decode cX5_init 50 = .ok (.iconst 0, 1) := by decide +kernel
theorem dX5_init_51 : decode cX5_init 51 = .ok (.putfield 32, 3) := by decide +kernel
theorem dX5_init_54 : decode cX5_init 54 = .ok (.aload_n 0, 1) := by decide +kernel
theorem dX5_init_55 : decode cX5_init 55 = .ok (.iconst 0, 1) := by decide +kernel
theorem dX5_init_56 : decode cX5_init 56 = .ok (.iload_n 1, 1) := by decide +kernel
theorem dX5_init_57 : decode cX5_init 57 = .ok (.invokestatic 35, 3) := by decide +kernel
theorem dX5_init_60 : decode cX5_init 60 = .ok (.newarray .int, 2) := by decide +kernel
theorem dX5_init_62 : decode cX5_init 62 = .ok (.putfield 41, 3) := by decide +kernel
theorem dX5_init_65 : decode cX5_init 65 = .ok (.return_, 1) := by decide +kernel
theorem dX5_addNumber_0 : decode cX5_addNumber 0 = .ok (.aload_n 0, 1) := by decide +kernel
theorem dX5_addNumber_1 : decode cX5_addNumber 1 = .ok (.getfield 32, 3) := by decide +kernel
theorem dX5_addNumber_4 : decode cX5_addNumber 4 = .ok (.aload_n 0, 1) := by decide +kernel
theorem dX5_addNumber_5 : decode cX5_addNumber 5 = .ok (.getfield 41, 3) := by decide +kernel
theorem dX5_addNumber_8 : decode cX5_addNumber 8 = .ok (.arraylength, 1) := by decide +kernel
theorem dX5_addNumber_9 : decode cX5_addNumber 9 = .ok (.if_icmp .ge 23, 3) := by decide +kernel
theorem dX5_addNumber_12 : decode cX5_addNumber 12 = .ok (.aload_n 0, 1) := by decide +kernel
theorem dX5_addNumber_13 : decode cX5_addNumber 13 = .ok (.getfield 41, 3) := by decide +kernel
theorem dX5_addNumber_16 : decode cX5_addNumber 16 = .ok (.aload_n 0, 1) := by decide +kernel
theorem dX5_addNumber_17 : decode cX5_addNumber 17 = .ok (.getfield 32, 3) := by decide +kernel
theorem dX5_addNumber_20 : decode cX5_addNumber 20 = .ok (.iload_n 1, 1) := by decide +kernel
theorem dX5_addNumber_21 : decode cX5_addNumber 21 = .ok (.iastore, 1) := by decide +kernel
theorem dX5_addNumber_22 : decode cX5_addNumber 22 = .ok (.aload_n 0, 1) := by decide +kernel
theorem dX5_addNumber_23 : decode cX5_addNumber 23 = .ok (.dup, 1) := by decide +kernel
theorem dX5_addNumber_24 : decode cX5_addNumber 24 = .ok (.getfield 32, 3) := by decide +kernel
theorem dX5_addNumber_27 : decode cX5_addNumber 27 = .ok (.iconst 1, 1) := by decide +kernel
theorem dX5_addNumber_28 : decode cX5_addNumber 28 = .ok (.iadd, 1) := by decide +kernel
theorem dX5_addNumber_29 : decode cX5_addNumber 29 = .ok (.putfield 32, 3) := by decide +kernel
theorem dX5_addNumber_32 : decode cX5_addNumber 32 = .ok (.return_, 1) := by decide +kernel
theorem dX5_addSign_0 : decode cX5_addSign 0 = .ok (.aload_n 0, 1) := by decide +kernel
theorem dX5_addSign_1 : decode cX5_addSign 1 = .ok (.getfield 32, 3) := by decide +kernel
theorem dX5_addSign_4 : decode cX5_addSign 4 = .ok (.aload_n 0, 1) := by decide +kernel
theorem dX5_addSign_5 : decode cX5_addSign 5 = .ok (.getfield 41, 3) := by decide +kernel
theorem dX5_addSign_8 : decode cX5_addSign 8 = .ok (.arraylength, 1) := by decide +kernel
theorem dX5_addSign_9 : decode cX5_addSign 9 = .ok (.if_icmp .ge 25, 3) := by decide +kernel
theorem dX5_addSign_12 : decode cX5_addSign 12 = .ok (.aload_n 0, 1) := by decide +kernel
theorem dX5_addSign_13 : decode cX5_addSign 13 = .ok (.getfield 41, 3) := by decide +kernel
theorem dX5_addSign_16 : decode cX5_addSign 16 = .ok (.aload_n 0, 1) := by decide +kernel
theorem dX5_addSign_17 : decode cX5_addSign 17 = .ok (.getfield 32, 3) := by decide +kernel
theorem dX5_addSign_20 : decode cX5_addSign 20 = .ok (.iconst (-1), 1) := by decide +kernel
theorem dX5_addSign_21 : decode cX5_addSign 21 = .ok (.iload_n 1, 1) := by decide +kernel
theorem dX5_addSign_22 : decode cX5_addSign 22 = .ok (.isub, 1) := by decide +kernel
theorem dX5_addSign_23 : decode cX5_addSign 23 = .ok (.iastore, 1) := by decide +kernel
theorem dX5_addSign_24 : decode cX5_addSign 24 = .ok (.aload_n 0, 1) := by decide +kernel
theorem dX5_addSign_25 : decode cX5_addSign 25 = .ok (.dup, 1) := by decide +kernel
theorem dX5_addSign_26 : decode cX5_addSign 26 = .ok (.getfield 32, 3) := by decide +kernel
theorem dX5_addSign_29 : decode cX5_addSign 29 = .ok (.iconst 1, 1) := by decide +kernel
theorem dX5_addSign_30 : decode cX5_addSign 30 = .ok (.iadd, 1) := by decide +kernel
theorem dX5_addSign_31 : decode cX5_addSign 31 = .ok (.putfield 32, 3) := by decide +kernel
theorem dX5_addSign_34 : decode cX5_addSign 34 = .ok (.return_, 1) := by decide +kernel
theorem dX6_init_0 : decode cX6_init 0 = .ok (.aload_n 0, 1) := by decide +kernel
theorem dX6_init_1 : decode cX6_init 1 = .ok (.invokespecial 3, 3) := by decide +kernel
theorem dX6_init_4 : decode cX6_init 4 = .ok (.aload_n 0, 1) := by decide +kernel
theorem dX6_init_5 : decode cX6_init 5 = .ok (.new 9, 3) := by decide +kernel
theorem dX6_init_8 : decode cX6_init 8 = .ok (.dup, 1) := by decide +kernel
theorem dX6_init_9 : decode cX6_init 9 = .ok (.invokespecial 11, 3) := by decide +kernel
theorem dX6_init_12 : decode cX6_init 12 = .ok (.putfield 12, 3) := by decide +kernel
theorem dX6_init_15 : decode cX6_init 15 = .ok (.aload_n 0, 1) := by decide +kernel
theorem dX6_init_16 : decode cX6_init 16 = .ok (.bipush 14, 2) := by decide +kernel
theorem dX6_init_18 : decode cX6_init 18 = .ok (.bipush 80, 2) := by decide +kernel
theorem dX6_init_20 : decode cX6_init 20 = .ok (.multianewarray 18 2, 4) := by decide +kernel
theorem dX6_init_24 : decode cX6_init 24 = .ok (.putfield 20, 3) := by decide +kernel
theorem dX6_init_27 : decode cX6_init 27 = .ok (.aload_n 0, 1) := by decide +kernel
theorem dX6_init_28 : decode cX6_init 28 = .ok (.iconst (-1), 1) := by decide +kernel
theorem dX6_init_29 : decode cX6_init 29 = .ok (.putfield 23, 3) := by decide +kernel
theorem dX6_init_32 : decode cX6_init 32 = .ok (.aload_n 0, 1) := by decide +kernel
theorem dX6_init_33 : decode cX6_init 33 = .ok (.iconst 0, 1) := by decide +kernel
theorem dX6_init_34 : decode cX6_init 34 = .ok (.putfield 27, 3) := by decide +kernel
theorem dX6_init_37 : decode cX6_init 37 = .ok (.aload_n 0, 1) := by decide +kernel
theorem dX6_init_38 : decode cX6_init 38 = .ok (.iconst 1, 1) := by decide +kernel
theorem dX6_init_39 : decode cX6_init 39 = .ok (.putfield 30, 3) := by decide +kernel
theorem dX6_init_42 : decode cX6_init 42 = .ok (.return_, 1) := by decide +kernel
theorem dX6_layOut_0 : decode cX6_layOut 0 = .ok (.aload_n 0, 1) := by decide +kernel
theorem dX6_layOut_1 : decode cX6_layOut 1 = .ok (.getfield 12, 3) := by decide +kernel
theorem dX6_layOut_4 : decode cX6_layOut 4 = .ok (.aload_n 1, 1) := by decide +kernel
theorem dX6_layOut_5 : decode cX6_layOut 5 = .ok (.iload_n 2, 1) := by decide +kernel
theorem dX6_layOut_6 : decode cX6_layOut 6 = .ok (.invokevirtual 34, 3) := by decide +kernel
theorem dX6_layOut_9 : decode cX6_layOut 9 = .ok (.aload_n 0, 1) := by decide +kernel
theorem dX6_layOut_10 : decode cX6_layOut 10 = .ok (.iconst 0, 1) := by decide +kernel
theorem dX6_layOut_11 : decode cX6_layOut 11 = .ok (.putfield 27, 3) := by decide +kernel
theorem dX6_layOut_14 : decode cX6_layOut 14 = .ok (.iconst 0, 1) := by decide +kernel
theorem dX6_layOut_15 : decode cX6_layOut 15 = .ok (.istore_n 3, 1) := by decide +kernel
theorem dX6_layOut_16 : decode cX6_layOut 16 = .ok (.iload_n 3, 1) := by decide +kernel
theorem dX6_layOut_17 : decode cX6_layOut 17 = .ok (.aload_n 0, 1) := by decide +kernel
theorem dX6_layOut_18 : decode cX6_layOut 18 = .ok (.getfield 12, 3) := by decide +kernel
theorem dX6_layOut_21 : decode cX6_layOut 21 = .ok (.getfield 38, 3) := by decide +kernel
theorem dX6_layOut_24 : decode cX6_layOut 24 = .ok (.if_icmp .ge 70, 3) := by decide +kernel
theorem dX6_layOut_27 : decode cX6_layOut 27 = .ok (.aload_n 0, 1) := by decide +kernel
theorem dX6_layOut_28 : decode cX6_layOut 28 = .ok (.getfield 12, 3) := by decide +kernel
theorem dX6_layOut_31 : decode cX6_layOut 31 = .ok (.getfield 41, 3) := by decide +kernel
theorem dX6_layOut_34 : decode cX6_layOut 34 = .ok (.iload_n 3, 1) := by decide +kernel
theorem dX6_layOut_35 : decode cX6_layOut 35 = .ok (.iaload, 1) := by decide +kernel
theorem dX6_layOut_36 : decode cX6_layOut 36 = .ok (.aload_n 0, 1) := by decide +kernel
theorem dX6_layOut_37 : decode cX6_layOut 37 = .ok (.getfield 12, 3) := by decide +kernel
theorem dX6_layOut_40 : decode cX6_layOut 40 = .ok (.getfield 45, 3) := by decide +kernel
theorem dX6_layOut_43 : decode cX6_layOut 43 = .ok (.iload_n 3, 1) := by decide +kernel
theorem dX6_layOut_44 : decode cX6_layOut 44 = .ok (.iaload, 1) := by decide +kernel
theorem dX6_layOut_45 : decode cX6_layOut 45 = .ok (.iadd, 1) := by decide +kernel
theorem dX6_layOut_46 : decode cX6_layOut 46 = .ok (.istore 4, 2) := by decide +kernel
theorem dX6_layOut_48 : decode cX6_layOut 48 = .ok (.aload_n 0, 1) := by decide +kernel
theorem dX6_layOut_49 : decode cX6_layOut 49 = .ok (.getfield 27, 3) := by decide +kernel
theorem dX6_layOut_52 : decode cX6_layOut 52 = .ok (.istore 5, 2) := by decide +kernel
theorem dX6_layOut_54 : decode cX6_layOut 54 = .ok (.aload_n 0, 1) := by decide +kernel
theorem dX6_layOut_55 : decode cX6_layOut 55 = .ok (.getfield 12, 3) := by decide +kernel
theorem dX6_layOut_58 : decode cX6_layOut 58 = .ok (.getfield 41, 3) := by decide +kernel
theorem dX6_layOut_61 : decode cX6_layOut 61 = .ok (.iload_n 3, 1) := by decide +kernel
theorem dX6_layOut_62 : decode cX6_layOut 62 = .ok (.iaload, 1) := by decide +kernel
theorem dX6_layOut_63 : decode cX6_layOut 63 = .ok (.istore 6, 2) := by decide +kernel
theorem dX6_layOut_65 : decode cX6_layOut 65 = .ok (.iload 6, 2) := by decide +kernel
theorem dX6_layOut_67 : decode cX6_layOut 67 = .ok (.iload 4, 2) := by decide +kernel
theorem dX6_layOut_69 : decode cX6_layOut 69 = .ok (.if_icmp .ge 19, 3) := by decide +kernel
theorem dX6_layOut_72 : decode cX6_layOut 72 = .ok (.aload_n 0, 1) := by decide +kernel
theorem dX6_layOut_73 : decode cX6_layOut 73 = .ok (.aload_n 1, 1) := by decide +kernel
theorem dX6_layOut_74 : decode cX6_layOut 74 = .ok (.iload 6, 2) := by decide +kernel
theorem dX6_layOut_76 : decode cX6_layOut 76 = .ok (.iload_n 3, 1) := by decide +kernel
theorem dX6_layOut_77 : decode cX6_layOut 77 = .ok (.iload 5, 2) := by decide +kernel
theorem dX6_layOut_79 : decode cX6_layOut 79 = .ok (.invokevirtual 48, 3) := by decide +kernel
theorem dX6_layOut_82 : decode cX6_layOut 82 = .ok (.iinc 6 1, 3) := by decide +kernel
theorem dX6_layOut_85 : decode cX6_layOut 85 = .ok (.goto (-20), 3) := by decide +kernel
theorem dX6_layOut_88 : decode cX6_layOut 88 = .ok (.iinc 3 1, 3) := by decide +kernel
theorem dX6_layOut_91 : decode cX6_layOut 91 = .ok (.goto (-75), 3) := by decide +kernel
theorem dX6_layOut_94 : decode cX6_layOut 94 = .ok (.iconst 0, 1) := by decide +kernel
theorem dX6_layOut_95 : decode cX6_layOut 95 = .ok (.istore_n 3, 1) := by decide +kernel
theorem dX6_layOut_96 : decode cX6_layOut 96 = .ok (.iload_n 3, 1) := by decide +kernel
theorem dX6_layOut_97 : decode cX6_layOut 97 = .ok (.iconst 3, 1) := by decide +kernel
theorem dX6_layOut_98 : decode cX6_layOut 98 = .ok (.if_icmp .ge 23, 3) := by decide +kernel
theorem dX6_layOut_101 : decode cX6_layOut 101 = .ok (.aload_n 0, 1) := by decide +kernel
theorem dX6_layOut_102 : decode cX6_layOut 102 = .ok (.getfield 20, 3) := by decide +kernel
theorem dX6_layOut_105 : decode cX6_layOut 105 = .ok (.iload_n 3, 1) := by decide +kernel
theorem dX6_layOut_106 : decode cX6_layOut 106 = .ok (.aaload, 1) := by decide +kernel
theorem dX6_layOut_107 : decode cX6_layOut 107 = .ok (.getstatic 52, 3) := by decide +kernel
theorem dX6_layOut_110 : decode cX6_layOut 110 = .ok (.iload_n 3, 1) := by decide +kernel
theorem dX6_layOut_111 : decode cX6_layOut 111 = .ok (.iaload, 1) := by decide +kernel
theorem dX6_layOut_112 : decode cX6_layOut 112 = .ok (.invokestatic 55, 3) := by decide +kernel
theorem dX6_layOut_115 : decode cX6_layOut 115 = .ok (.iinc 3 1, 3) := by decide +kernel
theorem dX6_layOut_118 : decode cX6_layOut 118 = .ok (.goto (-22), 3) := by decide +kernel
theorem dX6_layOut_121 : decode cX6_layOut 121 = .ok (.aload_n 0, 1) := by decide +kernel
theorem dX6_layOut_122 : decode cX6_layOut 122 = .ok (.getfield 20, 3) := by decide +kernel
theorem dX6_layOut_125 : decode cX6_layOut 125 = .ok (.bipush 12, 2) := by decide +kernel
theorem dX6_layOut_127 : decode cX6_layOut 127 = .ok (.aaload, 1) := by decide +kernel
theorem dX6_layOut_128 : decode cX6_layOut 128 = .ok (.aload_n 1, 1) := by decide +kernel
theorem dX6_layOut_129 : decode cX6_layOut 129 = .ok (.getfield 61, 3) := by decide +kernel
theorem dX6_layOut_132 : decode cX6_layOut 132 = .ok (.invokestatic 55, 3) := by decide +kernel
theorem dX6_layOut_135 : decode cX6_layOut 135 = .ok (.return_, 1) := by decide +kernel
theorem dX6_layWord_0 : decode cX6_layWord 0 = .ok (.iconst 0, 1) := by decide +kernel
theorem dX6_layWord_1 : decode cX6_layWord 1 = .ok (.istore 5, 2) := by decide +kernel
theorem dX6_layWord_3 : decode cX6_layWord 3 = .ok (.iload 5, 2) := by decide +kernel
theorem dX6_layWord_5 : decode cX6_layWord 5 = .ok (.aload_n 1, 1) := by decide +kernel
theorem dX6_layWord_6 : decode cX6_layWord 6 = .ok (.getfield 66, 3) := by decide +kernel
theorem dX6_layWord_9 : decode cX6_layWord 9 = .ok (.iload_n 2, 1) := by decide +kernel
theorem dX6_layWord_10 : decode cX6_layWord 10 = .ok (.iaload, 1) := by decide +kernel
theorem dX6_layWord_11 : decode cX6_layWord 11 = .ok (.if_icmp .ge 248, 3) := by decide +kernel
theorem dX6_layWord_14 : decode cX6_layWord 14 = .ok (.iload 5, 2) := by decide +kernel
theorem dX6_layWord_16 : decode cX6_layWord 16 = .ok (.aload_n 1, 1) := by decide +kernel
theorem dX6_layWord_17 : decode cX6_layWord 17 = .ok (.getfield 69, 3) := by decide +kernel
theorem dX6_layWord_20 : decode cX6_layWord 20 = .ok (.iload_n 2, 1) := by decide +kernel
theorem dX6_layWord_21 : decode cX6_layWord 21 = .ok (.iaload, 1) := by decide +kernel
theorem dX6_layWord_22 : decode cX6_layWord 22 = .ok (.if_icmp .ne 7, 3) := by decide +kernel
theorem dX6_layWord_25 : decode cX6_layWord 25 = .ok (.iconst 1, 1) := by decide +kernel
theorem dX6_layWord_26 : decode cX6_layWord 26 = .ok (.goto 4, 3) := by decide +kernel
theorem dX6_layWord_29 : decode cX6_layWord 29 = .ok (.iconst 0, 1) := by decide +kernel
theorem dX6_layWord_30 : decode cX6_layWord 30 = .ok (.istore 6, 2) := by decide +kernel
theorem dX6_layWord_32 : decode cX6_layWord 32 = .ok (.aload_n 0, 1) := by decide +kernel
theorem dX6_layWord_33 : decode cX6_layWord 33 = .ok (.getfield 20, 3) := by decide +kernel
theorem dX6_layWord_36 : decode cX6_layWord 36 = .ok (.iconst 3, 1) := by decide +kernel
theorem dX6_layWord_37 : decode cX6_layWord 37 = .ok (.aaload, 1) := by decide +kernel
theorem dX6_layWord_38 : decode cX6_layWord 38 = .ok (.aload_n 0, 1) := by decide +kernel
theorem dX6_layWord_39 : decode cX6_layWord 39 = .ok (.getfield 27, 3) := by decide +kernel
theorem dX6_layWord_42 : decode cX6_layWord 42 = .ok (.aload_n 0, 1) := by decide +kernel
theorem dX6_layWord_43 : decode cX6_layWord 43 = .ok (.getfield 27, 3) := by decide +kernel
theorem dX6_layWord_46 : decode cX6_layWord 46 = .ok (.iload 4, 2) := by decide +kernel
theorem dX6_layWord_48 : decode cX6_layWord 48 = .ok (.isub, 1) := by decide +kernel
theorem dX6_layWord_49 : decode cX6_layWord 49 = .ok (.iastore, 1) := by decide +kernel
theorem dX6_layWord_50 : decode cX6_layWord 50 = .ok (.aload_n 0, 1) := by decide +kernel
theorem dX6_layWord_51 : decode cX6_layWord 51 = .ok (.getfield 20, 3) := by decide +kernel
theorem dX6_layWord_54 : decode cX6_layWord 54 = .ok (.iconst 4, 1) := by decide +kernel
theorem dX6_layWord_55 : decode cX6_layWord 55 = .ok (.aaload, 1) := by decide +kernel
theorem dX6_layWord_56 : decode cX6_layWord 56 = .ok (.aload_n 0, 1) := by decide +kernel
theorem dX6_layWord_57 : decode cX6_layWord 57 = .ok (.getfield 27, 3) := by decide +kernel
theorem dX6_layWord_60 : decode cX6_layWord 60 = .ok (.aload_n 0, 1) := by decide +kernel
theorem dX6_layWord_61 : decode cX6_layWord 61 = .ok (.getfield 12, 3) := by decide +kernel
theorem dX6_layWord_64 : decode cX6_layWord 64 = .ok (.getfield 72, 3) := by decide +kernel
theorem dX6_layWord_67 : decode cX6_layWord 67 = .ok (.iload_n 3, 1) := by decide +kernel
theorem dX6_layWord_68 : decode cX6_layWord 68 = .ok (.iaload, 1) := by decide +kernel
theorem dX6_layWord_69 : decode cX6_layWord 69 = .ok (.iconst 1, 1) := by decide +kernel
theorem dX6_layWord_70 : decode cX6_layWord 70 = .ok (.isub, 1) := by decide +kernel
theorem dX6_layWord_71 : decode cX6_layWord 71 = .ok (.aload_n 0, 1) := by decide +kernel
theorem dX6_layWord_72 : decode cX6_layWord 72 = .ok (.getfield 27, 3) := by decide +kernel
theorem dX6_layWord_75 : decode cX6_layWord 75 = .ok (.iload 4, 2) := by decide +kernel
theorem dX6_layWord_77 : decode cX6_layWord 77 = .ok (.isub, 1) := by decide +kernel
theorem dX6_layWord_78 : decode cX6_layWord 78 = .ok (.isub, 1) := by decide +kernel
theorem dX6_layWord_79 : decode cX6_layWord 79 = .ok (.iastore, 1) := by decide +kernel
theorem dX6_layWord_80 : decode cX6_layWord 80 = .ok (.aload_n 0, 1) := by decide +kernel
theorem dX6_layWord_81 : decode cX6_layWord 81 = .ok (.getfield 20, 3) := by decide +kernel
end
section
theorem dX6_layWord_84 : decode cX6_layWord 84 = .ok (.iconst 5, 1) := by decide +kernel
theorem dX6_layWord_85 : decode cX6_layWord 85 = .ok (.aaload, 1) := by decide +kernel
theorem dX6_layWord_86 : decode cX6_layWord 86 = .ok (.aload_n 0, 1) := by decide +kernel
theorem dX6_layWord_87 : decode cX6_layWord 87 = .ok (.getfield 27, 3) := by decide +kernel
theorem dX6_layWord_90 : decode cX6_layWord 90 = .ok (.iload 6, 2) := by decide +kernel
theorem dX6_layWord_92 : decode cX6_layWord 92 = .ok (.ifCond .eq 7, 3) := by decide +kernel
theorem dX6_layWord_95 : decode cX6_layWord 95 = .ok (.iconst 1, 1) := by decide +kernel
theorem dX6_layWord_96 : decode cX6_layWord 96 = .ok (.goto 4, 3) := by decide +kernel
theorem dX6_layWord_99 : decode cX6_layWord 99 = .ok (.iconst 0, 1) := by decide +kernel
theorem dX6_layWord_100 : decode cX6_layWord 100 = .ok (.iastore, 1) := by decide +kernel
theorem dX6_layWord_101 : decode cX6_layWord 101 = .ok (.aload_n 0, 1) := by decide +kernel
theorem dX6_layWord_102 : decode cX6_layWord 102 = .ok (.getfield 20, 3) := by decide +kernel
theorem dX6_layWord_105 : decode cX6_layWord 105 = .ok (.bipush 6, 2) := by decide +kernel
theorem dX6_layWord_107 : decode cX6_layWord 107 = .ok (.aaload, 1) := by decide +kernel
theorem dX6_layWord_108 : decode cX6_layWord 108 = .ok (.aload_n 0, 1) := by decide +kernel
theorem dX6_layWord_109 : decode cX6_layWord 109 = .ok (.getfield 27, 3) := by decide +kernel
theorem dX6_layWord_112 : decode cX6_layWord 112 = .ok (.iload 6, 2) := by decide +kernel
theorem dX6_layWord_114 : decode cX6_layWord 114 = .ok (.ifCond .eq 19, 3) := by decide +kernel
theorem dX6_layWord_117 : decode cX6_layWord 117 = .ok (.aload_n 0, 1) := by decide +kernel
theorem dX6_layWord_118 : decode cX6_layWord 118 = .ok (.getfield 12, 3) := by decide +kernel
theorem dX6_layWord_121 : decode cX6_layWord 121 = .ok (.getfield 75, 3) := by decide +kernel
theorem dX6_layWord_124 : decode cX6_layWord 124 = .ok (.iload_n 2, 1) := by decide +kernel
theorem dX6_layWord_125 : decode cX6_layWord 125 = .ok (.baload, 1) := by decide +kernel
theorem dX6_layWord_126 : decode cX6_layWord 126 = .ok (.ifCond .eq 7, 3) := by decide +kernel
theorem dX6_layWord_129 : decode cX6_layWord 129 = .ok (.iconst 1, 1) := by decide +kernel
theorem dX6_layWord_130 : decode cX6_layWord 130 = .ok (.goto 4, 3) := by decide +kernel
theorem dX6_layWord_133 : decode cX6_layWord 133 = .ok (.iconst 0, 1) := by decide +kernel
theorem dX6_layWord_134 : decode cX6_layWord 134 = .ok (.iastore, 1) := by decide +kernel
theorem dX6_layWord_135 : decode cX6_layWord 135 = .ok (.aload_n 0, 1) := by decide +kernel
theorem dX6_layWord_136 : decode cX6_layWord 136 = .ok (.getfield 20, 3) := by decide +kernel
theorem dX6_layWord_139 : decode cX6_layWord 139 = .ok (.bipush 7, 2) := by decide +kernel
theorem dX6_layWord_141 : decode cX6_layWord 141 = .ok (.aaload, 1) := by decide +kernel
theorem dX6_layWord_142 : decode cX6_layWord 142 = .ok (.aload_n 0, 1) := by decide +kernel
theorem dX6_layWord_143 : decode cX6_layWord 143 = .ok (.getfield 27, 3) := by decide +kernel
theorem dX6_layWord_146 : decode cX6_layWord 146 = .ok (.aload_n 1, 1) := by decide +kernel
theorem dX6_layWord_147 : decode cX6_layWord 147 = .ok (.getfield 79, 3) := by decide +kernel
theorem dX6_layWord_150 : decode cX6_layWord 150 = .ok (.iload_n 2, 1) := by decide +kernel
theorem dX6_layWord_151 : decode cX6_layWord 151 = .ok (.baload, 1) := by decide +kernel
theorem dX6_layWord_152 : decode cX6_layWord 152 = .ok (.ifCond .eq 7, 3) := by decide +kernel
theorem dX6_layWord_155 : decode cX6_layWord 155 = .ok (.iconst 1, 1) := by decide +kernel
theorem dX6_layWord_156 : decode cX6_layWord 156 = .ok (.goto 4, 3) := by decide +kernel
theorem dX6_layWord_159 : decode cX6_layWord 159 = .ok (.iconst 0, 1) := by decide +kernel
theorem dX6_layWord_160 : decode cX6_layWord 160 = .ok (.iastore, 1) := by decide +kernel
theorem dX6_layWord_161 : decode cX6_layWord 161 = .ok (.aload_n 0, 1) := by decide +kernel
theorem dX6_layWord_162 : decode cX6_layWord 162 = .ok (.getfield 20, 3) := by decide +kernel
theorem dX6_layWord_165 : decode cX6_layWord 165 = .ok (.bipush 8, 2) := by decide +kernel
theorem dX6_layWord_167 : decode cX6_layWord 167 = .ok (.aaload, 1) := by decide +kernel
theorem dX6_layWord_168 : decode cX6_layWord 168 = .ok (.aload_n 0, 1) := by decide +kernel
theorem dX6_layWord_169 : decode cX6_layWord 169 = .ok (.getfield 27, 3) := by decide +kernel
theorem dX6_layWord_172 : decode cX6_layWord 172 = .ok (.aload_n 1, 1) := by decide +kernel
theorem dX6_layWord_173 : decode cX6_layWord 173 = .ok (.getfield 82, 3) := by decide +kernel
theorem dX6_layWord_176 : decode cX6_layWord 176 = .ok (.iload_n 2, 1) := by decide +kernel
theorem dX6_layWord_177 : decode cX6_layWord 177 = .ok (.baload, 1) := by decide +kernel
theorem dX6_layWord_178 : decode cX6_layWord 178 = .ok (.ifCond .eq 7, 3) := by decide +kernel
theorem dX6_layWord_181 : decode cX6_layWord 181 = .ok (.iconst 1, 1) := by decide +kernel
theorem dX6_layWord_182 : decode cX6_layWord 182 = .ok (.goto 4, 3) := by decide +kernel
theorem dX6_layWord_185 : decode cX6_layWord 185 = .ok (.iconst 0, 1) := by decide +kernel
theorem dX6_layWord_186 : decode cX6_layWord 186 = .ok (.iastore, 1) := by decide +kernel
theorem dX6_layWord_187 : decode cX6_layWord 187 = .ok (.aload_n 0, 1) := by decide +kernel
theorem dX6_layWord_188 : decode cX6_layWord 188 = .ok (.getfield 20, 3) := by decide +kernel
theorem dX6_layWord_191 : decode cX6_layWord 191 = .ok (.bipush 9, 2) := by decide +kernel
theorem dX6_layWord_193 : decode cX6_layWord 193 = .ok (.aaload, 1) := by decide +kernel
theorem dX6_layWord_194 : decode cX6_layWord 194 = .ok (.aload_n 0, 1) := by decide +kernel
theorem dX6_layWord_195 : decode cX6_layWord 195 = .ok (.getfield 27, 3) := by decide +kernel
theorem dX6_layWord_198 : decode cX6_layWord 198 = .ok (.iload_n 3, 1) := by decide +kernel
theorem dX6_layWord_199 : decode cX6_layWord 199 = .ok (.iastore, 1) := by decide +kernel
theorem dX6_layWord_200 : decode cX6_layWord 200 = .ok (.aload_n 0, 1) := by decide +kernel
theorem dX6_layWord_201 : decode cX6_layWord 201 = .ok (.getfield 20, 3) := by decide +kernel
theorem dX6_layWord_204 : decode cX6_layWord 204 = .ok (.bipush 10, 2) := by decide +kernel
theorem dX6_layWord_206 : decode cX6_layWord 206 = .ok (.aaload, 1) := by decide +kernel
theorem dX6_layWord_207 : decode cX6_layWord 207 = .ok (.aload_n 0, 1) := by decide +kernel
theorem dX6_layWord_208 : decode cX6_layWord 208 = .ok (.getfield 27, 3) := by decide +kernel
theorem dX6_layWord_211 : decode cX6_layWord 211 = .ok (.iload_n 3, 1) := by decide +kernel
theorem dX6_layWord_212 : decode cX6_layWord 212 = .ok (.aload_n 0, 1) := by decide +kernel
theorem dX6_layWord_213 : decode cX6_layWord 213 = .ok (.getfield 12, 3) := by decide +kernel
theorem dX6_layWord_216 : decode cX6_layWord 216 = .ok (.getfield 38, 3) := by decide +kernel
theorem dX6_layWord_219 : decode cX6_layWord 219 = .ok (.iconst 1, 1) := by decide +kernel
theorem dX6_layWord_220 : decode cX6_layWord 220 = .ok (.isub, 1) := by decide +kernel
theorem dX6_layWord_221 : decode cX6_layWord 221 = .ok (.if_icmp .ne 7, 3) := by decide +kernel
theorem dX6_layWord_224 : decode cX6_layWord 224 = .ok (.iconst 1, 1) := by decide +kernel
theorem dX6_layWord_225 : decode cX6_layWord 225 = .ok (.goto 4, 3) := by decide +kernel
theorem dX6_layWord_228 : decode cX6_layWord 228 = .ok (.iconst 0, 1) := by decide +kernel
theorem dX6_layWord_229 : decode cX6_layWord 229 = .ok (.iastore, 1) := by decide +kernel
theorem dX6_layWord_230 : decode cX6_layWord 230 = .ok (.aload_n 0, 1) := by decide +kernel
theorem dX6_layWord_231 : decode cX6_layWord 231 = .ok (.getfield 20, 3) := by decide +kernel
theorem dX6_layWord_234 : decode cX6_layWord 234 = .ok (.bipush 11, 2) := by decide +kernel
theorem dX6_layWord_236 : decode cX6_layWord 236 = .ok (.aaload, 1) := by decide +kernel
theorem dX6_layWord_237 : decode cX6_layWord 237 = .ok (.aload_n 0, 1) := by decide +kernel
theorem dX6_layWord_238 : decode cX6_layWord 238 = .ok (.getfield 27, 3) := by decide +kernel
theorem dX6_layWord_241 : decode cX6_layWord 241 = .ok (.iload_n 2, 1) := by decide +kernel
theorem dX6_layWord_242 : decode cX6_layWord 242 = .ok (.iastore, 1) := by decide +kernel
theorem dX6_layWord_243 : decode cX6_layWord 243 = .ok (.aload_n 0, 1) := by decide +kernel
theorem dX6_layWord_244 : decode cX6_layWord 244 = .ok (.dup, 1) := by decide +kernel
theorem dX6_layWord_245 : decode cX6_layWord 245 = .ok (.getfield 27, 3) := by decide +kernel
theorem dX6_layWord_248 : decode cX6_layWord 248 = .ok (.iconst 1, 1) := by decide +kernel
theorem dX6_layWord_249 : decode cX6_layWord 249 = .ok (.iadd, 1) := by decide +kernel
theorem dX6_layWord_250 : decode cX6_layWord 250 = .ok (.putfield 27, 3) := by decide +kernel
theorem dX6_layWord_253 : decode cX6_layWord 253 = .ok (.iinc 5 1, 3) := by decide +kernel
theorem dX6_layWord_256 : decode cX6_layWord 256 = .ok (.goto (-253), 3) := by decide +kernel
theorem dX6_layWord_259 : decode cX6_layWord 259 = .ok (.return_, 1) := by decide +kernel
theorem dX6_applyLines_0 : decode cX6_applyLines 0 = .ok (.iconst 0, 1) := by decide +kernel
theorem dX6_applyLines_1 : decode cX6_applyLines 1 = .ok (.istore_n 3, 1) := by decide +kernel
theorem dX6_applyLines_2 : decode cX6_applyLines 2 = .ok (.iload_n 3, 1) := by decide +kernel
theorem dX6_applyLines_3 : decode cX6_applyLines 3 = .ok (.aload_n 1, 1) := by decide +kernel
theorem dX6_applyLines_4 : decode cX6_applyLines 4 = .ok (.getfield 85, 3) := by decide +kernel
theorem dX6_applyLines_7 : decode cX6_applyLines 7 = .ok (.if_icmp .ge 36, 3) := by decide +kernel
theorem dX6_applyLines_10 : decode cX6_applyLines 10 = .ok (.iconst 0, 1) := by decide +kernel
theorem dX6_applyLines_11 : decode cX6_applyLines 11 = .ok (.istore 4, 2) := by decide +kernel
theorem dX6_applyLines_13 : decode cX6_applyLines 13 = .ok (.iload 4, 2) := by decide +kernel
theorem dX6_applyLines_15 : decode cX6_applyLines 15 = .ok (.aload_n 0, 1) := by decide +kernel
theorem dX6_applyLines_16 : decode cX6_applyLines 16 = .ok (.getfield 27, 3) := by decide +kernel
theorem dX6_applyLines_19 : decode cX6_applyLines 19 = .ok (.if_icmp .ge 18, 3) := by decide +kernel
theorem dX6_applyLines_22 : decode cX6_applyLines 22 = .ok (.aload_n 0, 1) := by decide +kernel
theorem dX6_applyLines_23 : decode cX6_applyLines 23 = .ok (.aload_n 1, 1) := by decide +kernel
theorem dX6_applyLines_24 : decode cX6_applyLines 24 = .ok (.iload_n 3, 1) := by decide +kernel
theorem dX6_applyLines_25 : decode cX6_applyLines 25 = .ok (.aload_n 2, 1) := by decide +kernel
theorem dX6_applyLines_26 : decode cX6_applyLines 26 = .ok (.iload 4, 2) := by decide +kernel
theorem dX6_applyLines_28 : decode cX6_applyLines 28 = .ok (.invokevirtual 90, 3) := by decide +kernel
theorem dX6_applyLines_31 : decode cX6_applyLines 31 = .ok (.iinc 4 1, 3) := by decide +kernel
theorem dX6_applyLines_34 : decode cX6_applyLines 34 = .ok (.goto (-21), 3) := by decide +kernel
theorem dX6_applyLines_37 : decode cX6_applyLines 37 = .ok (.iinc 3 1, 3) := by decide +kernel
theorem dX6_applyLines_40 : decode cX6_applyLines 40 = .ok (.goto (-38), 3) := by decide +kernel
theorem dX6_applyLines_43 : decode cX6_applyLines 43 = .ok (.return_, 1) := by decide +kernel
theorem dX6_applyLine_0 : decode cX6_applyLine 0 = .ok (.aload_n 1, 1) := by decide +kernel
theorem dX6_applyLine_1 : decode cX6_applyLine 1 = .ok (.getfield 94, 3) := by decide +kernel
theorem dX6_applyLine_4 : decode cX6_applyLine 4 = .ok (.iload_n 2, 1) := by decide +kernel
theorem dX6_applyLine_5 : decode cX6_applyLine 5 = .ok (.iaload, 1) := by decide +kernel
theorem dX6_applyLine_6 : decode cX6_applyLine 6 = .ok (.istore 5, 2) := by decide +kernel
theorem dX6_applyLine_8 : decode cX6_applyLine 8 = .ok (.aload_n 1, 1) := by decide +kernel
theorem dX6_applyLine_9 : decode cX6_applyLine 9 = .ok (.getfield 97, 3) := by decide +kernel
theorem dX6_applyLine_12 : decode cX6_applyLine 12 = .ok (.iload_n 2, 1) := by decide +kernel
theorem dX6_applyLine_13 : decode cX6_applyLine 13 = .ok (.iaload, 1) := by decide +kernel
theorem dX6_applyLine_14 : decode cX6_applyLine 14 = .ok (.aload_n 1, 1) := by decide +kernel
theorem dX6_applyLine_15 : decode cX6_applyLine 15 = .ok (.getfield 100, 3) := by decide +kernel
theorem dX6_applyLine_18 : decode cX6_applyLine 18 = .ok (.iload_n 2, 1) := by decide +kernel
theorem dX6_applyLine_19 : decode cX6_applyLine 19 = .ok (.iaload, 1) := by decide +kernel
theorem dX6_applyLine_20 : decode cX6_applyLine 20 = .ok (.if_icmp .ge 7, 3) := by decide +kernel
theorem dX6_applyLine_23 : decode cX6_applyLine 23 = .ok (.iconst 1, 1) := by decide +kernel
theorem dX6_applyLine_24 : decode cX6_applyLine 24 = .ok (.goto 4, 3) := by decide +kernel
theorem dX6_applyLine_27 : decode cX6_applyLine 27 = .ok (.iconst 0, 1) := by decide +kernel
theorem dX6_applyLine_28 : decode cX6_applyLine 28 = .ok (.istore 6, 2) := by decide +kernel
theorem dX6_applyLine_30 : decode cX6_applyLine 30 = .ok (.iload 6, 2) := by decide +kernel
theorem dX6_applyLine_32 : decode cX6_applyLine 32 = .ok (.ifCond .eq 33, 3) := by decide +kernel
theorem dX6_applyLine_35 : decode cX6_applyLine 35 = .ok (.aload_n 3, 1) := by decide +kernel
theorem dX6_applyLine_36 : decode cX6_applyLine 36 = .ok (.aload_n 1, 1) := by decide +kernel
theorem dX6_applyLine_37 : decode cX6_applyLine 37 = .ok (.getfield 103, 3) := by decide +kernel
theorem dX6_applyLine_40 : decode cX6_applyLine 40 = .ok (.aload_n 1, 1) := by decide +kernel
theorem dX6_applyLine_41 : decode cX6_applyLine 41 = .ok (.getfield 97, 3) := by decide +kernel
theorem dX6_applyLine_44 : decode cX6_applyLine 44 = .ok (.iload_n 2, 1) := by decide +kernel
theorem dX6_applyLine_45 : decode cX6_applyLine 45 = .ok (.iaload, 1) := by decide +kernel
theorem dX6_applyLine_46 : decode cX6_applyLine 46 = .ok (.aload_n 1, 1) := by decide +kernel
theorem dX6_applyLine_47 : decode cX6_applyLine 47 = .ok (.getfield 100, 3) := by decide +kernel
theorem dX6_applyLine_50 : decode cX6_applyLine 50 = .ok (.iload_n 2, 1) := by decide +kernel
theorem dX6_applyLine_51 : decode cX6_applyLine 51 = .ok (.iaload, 1) := by decide +kernel
theorem dX6_applyLine_52 : decode cX6_applyLine 52 = .ok (.aload_n 0, 1) := by decide +kernel
theorem dX6_applyLine_53 : decode cX6_applyLine 53 = .ok (.getfield 20, 3) := by decide +kernel
theorem dX6_applyLine_56 : decode cX6_applyLine 56 = .ok (.iload 4, 2) := by decide +kernel
theorem dX6_applyLine_58 : decode cX6_applyLine 58 = .ok (.invokevirtual 106, 3) := by decide +kernel
theorem dX6_applyLine_61 : decode cX6_applyLine 61 = .ok (.ifCond .ne 4, 3) := by decide +kernel
theorem dX6_applyLine_64 : decode cX6_applyLine 64 = .ok (.return_, 1) := by decide +kernel
theorem dX6_applyLine_65 : decode cX6_applyLine 65 = .ok (.aload_n 3, 1) := by decide +kernel
theorem dX6_applyLine_66 : decode cX6_applyLine 66 = .ok (.aload_n 1, 1) := by decide +kernel
theorem dX6_applyLine_67 : decode cX6_applyLine 67 = .ok (.getfield 103, 3) := by decide +kernel
theorem dX6_applyLine_70 : decode cX6_applyLine 70 = .ok (.aload_n 1, 1) := by decide +kernel
theorem dX6_applyLine_71 : decode cX6_applyLine 71 = .ok (.getfield 112, 3) := by decide +kernel
theorem dX6_applyLine_74 : decode cX6_applyLine 74 = .ok (.iload_n 2, 1) := by decide +kernel
theorem dX6_applyLine_75 : decode cX6_applyLine 75 = .ok (.iaload, 1) := by decide +kernel
theorem dX6_applyLine_76 : decode cX6_applyLine 76 = .ok (.aload_n 1, 1) := by decide +kernel
theorem dX6_applyLine_77 : decode cX6_applyLine 77 = .ok (.getfield 97, 3) := by decide +kernel
theorem dX6_applyLine_80 : decode cX6_applyLine 80 = .ok (.iload_n 2, 1) := by decide +kernel
theorem dX6_applyLine_81 : decode cX6_applyLine 81 = .ok (.iaload, 1) := by decide +kernel
theorem dX6_applyLine_82 : decode cX6_applyLine 82 = .ok (.aload_n 0, 1) := by decide +kernel
theorem dX6_applyLine_83 : decode cX6_applyLine 83 = .ok (.getfield 20, 3) := by decide +kernel
theorem dX6_applyLine_86 : decode cX6_applyLine 86 = .ok (.iload 4, 2) := by decide +kernel
theorem dX6_applyLine_88 : decode cX6_applyLine 88 = .ok (.invokevirtual 106, 3) := by decide +kernel
theorem dX6_applyLine_91 : decode cX6_applyLine 91 = .ok (.istore 7, 2) := by decide +kernel
theorem dX6_applyLine_93 : decode cX6_applyLine 93 = .ok (.aload_n 1, 1) := by decide +kernel
theorem dX6_applyLine_94 : decode cX6_applyLine 94 = .ok (.getfield 115, 3) := by decide +kernel
theorem dX6_applyLine_97 : decode cX6_applyLine 97 = .ok (.iload_n 2, 1) := by decide +kernel
theorem dX6_applyLine_98 : decode cX6_applyLine 98 = .ok (.baload, 1) := by decide +kernel
theorem dX6_applyLine_99 : decode cX6_applyLine 99 = .ok (.ifCond .eq 19, 3) := by decide +kernel
theorem dX6_applyLine_102 : decode cX6_applyLine 102 = .ok (.aload_n 0, 1) := by decide +kernel
theorem dX6_applyLine_103 : decode cX6_applyLine 103 = .ok (.getfield 20, 3) := by decide +kernel
theorem dX6_applyLine_106 : decode cX6_applyLine 106 = .ok (.iload 5, 2) := by decide +kernel
theorem dX6_applyLine_108 : decode cX6_applyLine 108 = .ok (.aaload, 1) := by decide +kernel
theorem dX6_applyLine_109 : decode cX6_applyLine 109 = .ok (.iload 4, 2) := by decide +kernel
theorem dX6_applyLine_111 : decode cX6_applyLine 111 = .ok (.iaload, 1) := by decide +kernel
theorem dX6_applyLine_112 : decode cX6_applyLine 112 = .ok (.iload 7, 2) := by decide +kernel
theorem dX6_applyLine_114 : decode cX6_applyLine 114 = .ok (.iadd, 1) := by decide +kernel
theorem dX6_applyLine_115 : decode cX6_applyLine 115 = .ok (.goto 5, 3) := by decide +kernel
theorem dX6_applyLine_118 : decode cX6_applyLine 118 = .ok (.iload 7, 2) := by decide +kernel
theorem dX6_applyLine_120 : decode cX6_applyLine 120 = .ok (.istore 8, 2) := by decide +kernel
theorem dX6_applyLine_122 : decode cX6_applyLine 122 = .ok (.aload_n 0, 1) := by decide +kernel
theorem dX6_applyLine_123 : decode cX6_applyLine 123 = .ok (.getfield 20, 3) := by decide +kernel
theorem dX6_applyLine_126 : decode cX6_applyLine 126 = .ok (.iload 5, 2) := by decide +kernel
theorem dX6_applyLine_128 : decode cX6_applyLine 128 = .ok (.aaload, 1) := by decide +kernel
theorem dX6_applyLine_129 : decode cX6_applyLine 129 = .ok (.iload 4, 2) := by decide +kernel
theorem dX6_applyLine_131 : decode cX6_applyLine 131 = .ok (.iload 8, 2) := by decide +kernel
theorem dX6_applyLine_133 : decode cX6_applyLine 133 = .ok (.getstatic 118, 3) := by decide +kernel
theorem dX6_applyLine_136 : decode cX6_applyLine 136 = .ok (.iload 5, 2) := by decide +kernel
theorem dX6_applyLine_138 : decode cX6_applyLine 138 = .ok (.iaload, 1) := by decide +kernel
theorem dX6_applyLine_139 : decode cX6_applyLine 139 = .ok (.getstatic 121, 3) := by decide +kernel
theorem dX6_applyLine_142 : decode cX6_applyLine 142 = .ok (.iload 5, 2) := by decide +kernel
theorem dX6_applyLine_144 : decode cX6_applyLine 144 = .ok (.iaload, 1) := by decide +kernel
theorem dX6_applyLine_145 : decode cX6_applyLine 145 = .ok (.invokestatic 124, 3) := by decide +kernel
theorem dX6_applyLine_148 : decode cX6_applyLine 148 = .ok (.iastore, 1) := by decide +kernel
theorem dX6_applyLine_149 : decode cX6_applyLine 149 = .ok (.return_, 1) := by decide +kernel
theorem dX6_applyMarks_0 : decode cX6_applyMarks 0 = .ok (.iconst 0, 1) := by decide +kernel
theorem dX6_applyMarks_1 : decode cX6_applyMarks 1 = .ok (.istore_n 2, 1) := by decide +kernel
theorem dX6_applyMarks_2 : decode cX6_applyMarks 2 = .ok (.iload_n 2, 1) := by decide +kernel
theorem dX6_applyMarks_3 : decode cX6_applyMarks 3 = .ok (.iconst 3, 1) := by decide +kernel
theorem dX6_applyMarks_4 : decode cX6_applyMarks 4 = .ok (.if_icmp .ge 53, 3) := by decide +kernel
theorem dX6_applyMarks_7 : decode cX6_applyMarks 7 = .ok (.iconst 0, 1) := by decide +kernel
theorem dX6_applyMarks_8 : decode cX6_applyMarks 8 = .ok (.istore_n 3, 1) := by decide +kernel
theorem dX6_applyMarks_9 : decode cX6_applyMarks 9 = .ok (.iload_n 3, 1) := by decide +kernel
theorem dX6_applyMarks_10 : decode cX6_applyMarks 10 = .ok (.aload_n 0, 1) := by decide +kernel
theorem dX6_applyMarks_11 : decode cX6_applyMarks 11 = .ok (.getfield 27, 3) := by decide +kernel
theorem dX6_applyMarks_14 : decode cX6_applyMarks 14 = .ok (.if_icmp .ge 37, 3) := by decide +kernel
theorem dX6_applyMarks_17 : decode cX6_applyMarks 17 = .ok (.aload_n 1, 1) := by decide +kernel
theorem dX6_applyMarks_18 : decode cX6_applyMarks 18 = .ok (.getfield 128, 3) := by decide +kernel
theorem dX6_applyMarks_21 : decode cX6_applyMarks 21 = .ok (.iload_n 2, 1) := by decide +kernel
theorem dX6_applyMarks_22 : decode cX6_applyMarks 22 = .ok (.aaload, 1) := by decide +kernel
theorem dX6_applyMarks_23 : decode cX6_applyMarks 23 = .ok (.iload_n 3, 1) := by decide +kernel
theorem dX6_applyMarks_24 : decode cX6_applyMarks 24 = .ok (.iaload, 1) := by decide +kernel
theorem dX6_applyMarks_25 : decode cX6_applyMarks 25 = .ok (.iconst (-1), 1) := by decide +kernel
theorem dX6_applyMarks_26 : decode cX6_applyMarks 26 = .ok (.if_icmp .eq 19, 3) := by decide +kernel
theorem dX6_applyMarks_29 : decode cX6_applyMarks 29 = .ok (.aload_n 0, 1) := by decide +kernel
theorem dX6_applyMarks_30 : decode cX6_applyMarks 30 = .ok (.getfield 20, 3) := by decide +kernel
theorem dX6_applyMarks_33 : decode cX6_applyMarks 33 = .ok (.iload_n 2, 1) := by decide +kernel
theorem dX6_applyMarks_34 : decode cX6_applyMarks 34 = .ok (.aaload, 1) := by decide +kernel
theorem dX6_applyMarks_35 : decode cX6_applyMarks 35 = .ok (.iload_n 3, 1) := by decide +kernel
theorem dX6_applyMarks_36 : decode cX6_applyMarks 36 = .ok (.aload_n 1, 1) := by decide +kernel
theorem dX6_applyMarks_37 : decode cX6_applyMarks 37 = .ok (.getfield 128, 3) := by decide +kernel
theorem dX6_applyMarks_40 : decode cX6_applyMarks 40 = .ok (.iload_n 2, 1) := by decide +kernel
theorem dX6_applyMarks_41 : decode cX6_applyMarks 41 = .ok (.aaload, 1) := by decide +kernel
theorem dX6_applyMarks_42 : decode cX6_applyMarks 42 = .ok (.iload_n 3, 1) := by decide +kernel
theorem dX6_applyMarks_43 : decode cX6_applyMarks 43 = .ok (.iaload, 1) := by decide +kernel
theorem dX6_applyMarks_44 : decode cX6_applyMarks 44 = .ok (.iastore, 1) := by decide +kernel
theorem dX6_applyMarks_45 : decode cX6_applyMarks 45 = .ok (.iinc 3 1, 3) := by decide +kernel
theorem dX6_applyMarks_48 : decode cX6_applyMarks 48 = .ok (.goto (-39), 3) := by decide +kernel
theorem dX6_applyMarks_51 : decode cX6_applyMarks 51 = .ok (.iinc 2 1, 3) := by decide +kernel
theorem dX6_applyMarks_54 : decode cX6_applyMarks 54 = .ok (.goto (-52), 3) := by decide +kernel
theorem dX6_applyMarks_57 : decode cX6_applyMarks 57 = .ok (.return_, 1) := by decide +kernel
theorem dX6_settleHeights_0 : decode cX6_settleHeights 0 = .ok (.aload_n 0, 1) := by decide +kernel
theorem dX6_settleHeights_1 : decode cX6_settleHeights 1 = .ok (.getfield 20, 3) := by decide +kernel
theorem dX6_settleHeights_4 : decode cX6_settleHeights 4 = .ok (.iconst 1, 1) := by decide +kernel
theorem dX6_settleHeights_5 : decode cX6_settleHeights 5 = .ok (.aaload, 1) := by decide +kernel
theorem dX6_settleHeights_6 : decode cX6_settleHeights 6 = .ok (.astore_n 3, 1) := by decide +kernel
theorem dX6_settleHeights_7 : decode cX6_settleHeights 7 = .ok (.aload_n 1, 1) := by decide +kernel
theorem dX6_settleHeights_8 : decode cX6_settleHeights 8 = .ok (.getfield 128, 3) := by decide +kernel
theorem dX6_settleHeights_11 : decode cX6_settleHeights 11 = .ok (.iconst 1, 1) := by decide +kernel
theorem dX6_settleHeights_12 : decode cX6_settleHeights 12 = .ok (.aaload, 1) := by decide +kernel
theorem dX6_settleHeights_13 : decode cX6_settleHeights 13 = .ok (.astore 4, 2) := by decide +kernel
theorem dX6_settleHeights_15 : decode cX6_settleHeights 15 = .ok (.iconst 0, 1) := by decide +kernel
theorem dX6_settleHeights_16 : decode cX6_settleHeights 16 = .ok (.istore 5, 2) := by decide +kernel
theorem dX6_settleHeights_18 : decode cX6_settleHeights 18 = .ok (.iload 5, 2) := by decide +kernel
theorem dX6_settleHeights_20 : decode cX6_settleHeights 20 = .ok (.aload_n 0, 1) := by decide +kernel
theorem dX6_settleHeights_21 : decode cX6_settleHeights 21 = .ok (.getfield 27, 3) := by decide +kernel
theorem dX6_settleHeights_24 : decode cX6_settleHeights 24 = .ok (.if_icmp .ge 37, 3) := by decide +kernel
theorem dX6_settleHeights_27 : decode cX6_settleHeights 27 = .ok (.aload 4, 2) := by decide +kernel
theorem dX6_settleHeights_29 : decode cX6_settleHeights 29 = .ok (.iload 5, 2) := by decide +kernel
theorem dX6_settleHeights_31 : decode cX6_settleHeights 31 = .ok (.iaload, 1) := by decide +kernel
theorem dX6_settleHeights_32 : decode cX6_settleHeights 32 = .ok (.iconst (-1), 1) := by decide +kernel
theorem dX6_settleHeights_33 : decode cX6_settleHeights 33 = .ok (.if_icmp .ne 22, 3) := by decide +kernel
theorem dX6_settleHeights_36 : decode cX6_settleHeights 36 = .ok (.aload_n 3, 1) := by decide +kernel
theorem dX6_settleHeights_37 : decode cX6_settleHeights 37 = .ok (.iload 5, 2) := by decide +kernel
theorem dX6_settleHeights_39 : decode cX6_settleHeights 39 = .ok (.aload_n 3, 1) := by decide +kernel
theorem dX6_settleHeights_40 : decode cX6_settleHeights 40 = .ok (.iload 5, 2) := by decide +kernel
theorem dX6_settleHeights_42 : decode cX6_settleHeights 42 = .ok (.iaload, 1) := by decide +kernel
theorem dX6_settleHeights_43 : decode cX6_settleHeights 43 = .ok (.aload_n 2, 1) := by decide +kernel
theorem dX6_settleHeights_44 : decode cX6_settleHeights 44 = .ok (.getfield 131, 3) := by decide +kernel
theorem dX6_settleHeights_47 : decode cX6_settleHeights 47 = .ok (.aload_n 2, 1) := by decide +kernel
theorem dX6_settleHeights_48 : decode cX6_settleHeights 48 = .ok (.getfield 136, 3) := by decide +kernel
theorem dX6_settleHeights_51 : decode cX6_settleHeights 51 = .ok (.invokestatic 124, 3) := by decide +kernel
theorem dX6_settleHeights_54 : decode cX6_settleHeights 54 = .ok (.iastore, 1) := by decide +kernel
theorem dX6_settleHeights_55 : decode cX6_settleHeights 55 = .ok (.iinc 5 1, 3) := by decide +kernel
theorem dX6_settleHeights_58 : decode cX6_settleHeights 58 = .ok (.goto (-40), 3) := by decide +kernel
theorem dX6_settleHeights_61 : decode cX6_settleHeights 61 = .ok (.iconst 1, 1) := by decide +kernel
theorem dX6_settleHeights_62 : decode cX6_settleHeights 62 = .ok (.istore 5, 2) := by decide +kernel
theorem dX6_settleHeights_64 : decode cX6_settleHeights 64 = .ok (.iload 5, 2) := by decide +kernel
theorem dX6_settleHeights_66 : decode cX6_settleHeights 66 = .ok (.aload_n 0, 1) := by decide +kernel
theorem dX6_settleHeights_67 : decode cX6_settleHeights 67 = .ok (.getfield 27, 3) := by decide +kernel
theorem dX6_settleHeights_70 : decode cX6_settleHeights 70 = .ok (.if_icmp .ge 39, 3) := by decide +kernel
theorem dX6_settleHeights_73 : decode cX6_settleHeights 73 = .ok (.aload 4, 2) := by decide +kernel
theorem dX6_settleHeights_75 : decode cX6_settleHeights 75 = .ok (.iload 5, 2) := by decide +kernel
theorem dX6_settleHeights_77 : decode cX6_settleHeights 77 = .ok (.iaload, 1) := by decide +kernel
theorem dX6_settleHeights_78 : decode cX6_settleHeights 78 = .ok (.iconst (-1), 1) := by decide +kernel
theorem dX6_settleHeights_79 : decode cX6_settleHeights 79 = .ok (.if_icmp .ne 24, 3) := by decide +kernel
theorem dX6_settleHeights_82 : decode cX6_settleHeights 82 = .ok (.aload_n 3, 1) := by decide +kernel
theorem dX6_settleHeights_83 : decode cX6_settleHeights 83 = .ok (.iload 5, 2) := by decide +kernel
theorem dX6_settleHeights_85 : decode cX6_settleHeights 85 = .ok (.aload_n 3, 1) := by decide +kernel
theorem dX6_settleHeights_86 : decode cX6_settleHeights 86 = .ok (.iload 5, 2) := by decide +kernel
theorem dX6_settleHeights_88 : decode cX6_settleHeights 88 = .ok (.iaload, 1) := by decide +kernel
theorem dX6_settleHeights_89 : decode cX6_settleHeights 89 = .ok (.aload_n 3, 1) := by decide +kernel
theorem dX6_settleHeights_90 : decode cX6_settleHeights 90 = .ok (.iload 5, 2) := by decide +kernel
theorem dX6_settleHeights_92 : decode cX6_settleHeights 92 = .ok (.iconst 1, 1) := by decide +kernel
theorem dX6_settleHeights_93 : decode cX6_settleHeights 93 = .ok (.isub, 1) := by decide +kernel
theorem dX6_settleHeights_94 : decode cX6_settleHeights 94 = .ok (.iaload, 1) := by decide +kernel
theorem dX6_settleHeights_95 : decode cX6_settleHeights 95 = .ok (.aload_n 2, 1) := by decide +kernel
theorem dX6_settleHeights_96 : decode cX6_settleHeights 96 = .ok (.getfield 139, 3) := by decide +kernel
theorem dX6_settleHeights_99 : decode cX6_settleHeights 99 = .ok (.invokestatic 142, 3) := by decide +kernel
theorem dX6_settleHeights_102 : decode cX6_settleHeights 102 = .ok (.iastore, 1) := by decide +kernel
theorem dX6_settleHeights_103 : decode cX6_settleHeights 103 = .ok (.iinc 5 1, 3) := by decide +kernel
theorem dX6_settleHeights_106 : decode cX6_settleHeights 106 = .ok (.goto (-42), 3) := by decide +kernel
theorem dX6_settleHeights_109 : decode cX6_settleHeights 109 = .ok (.aload_n 0, 1) := by decide +kernel
theorem dX6_settleHeights_110 : decode cX6_settleHeights 110 = .ok (.getfield 27, 3) := by decide +kernel
theorem dX6_settleHeights_113 : decode cX6_settleHeights 113 = .ok (.iconst 2, 1) := by decide +kernel
theorem dX6_settleHeights_114 : decode cX6_settleHeights 114 = .ok (.isub, 1) := by decide +kernel
theorem dX6_settleHeights_115 : decode cX6_settleHeights 115 = .ok (.istore 5, 2) := by decide +kernel
theorem dX6_settleHeights_117 : decode cX6_settleHeights 117 = .ok (.iload 5, 2) := by decide +kernel
theorem dX6_settleHeights_119 : decode cX6_settleHeights 119 = .ok (.ifCond .lt 39, 3) := by decide +kernel
theorem dX6_settleHeights_122 : decode cX6_settleHeights 122 = .ok (.aload 4, 2) := by decide +kernel
theorem dX6_settleHeights_124 : decode cX6_settleHeights 124 = .ok (.iload 5, 2) := by decide +kernel
theorem dX6_settleHeights_126 : decode cX6_settleHeights 126 = .ok (.iaload, 1) := by decide +kernel
theorem dX6_settleHeights_127 : decode cX6_settleHeights 127 = .ok (.iconst (-1), 1) := by decide +kernel
theorem dX6_settleHeights_128 : decode cX6_settleHeights 128 = .ok (.if_icmp .ne 24, 3) := by decide +kernel
theorem dX6_settleHeights_131 : decode cX6_settleHeights 131 = .ok (.aload_n 3, 1) := by decide +kernel
theorem dX6_settleHeights_132 : decode cX6_settleHeights 132 = .ok (.iload 5, 2) := by decide +kernel
theorem dX6_settleHeights_134 : decode cX6_settleHeights 134 = .ok (.aload_n 3, 1) := by decide +kernel
theorem dX6_settleHeights_135 : decode cX6_settleHeights 135 = .ok (.iload 5, 2) := by decide +kernel
theorem dX6_settleHeights_137 : decode cX6_settleHeights 137 = .ok (.iaload, 1) := by decide +kernel
theorem dX6_settleHeights_138 : decode cX6_settleHeights 138 = .ok (.aload_n 3, 1) := by decide +kernel
theorem dX6_settleHeights_139 : decode cX6_settleHeights 139 = .ok (.iload 5, 2) := by decide +kernel
theorem dX6_settleHeights_141 : decode cX6_settleHeights 141 = .ok (.iconst 1, 1) := by decide +kernel
theorem dX6_settleHeights_142 : decode cX6_settleHeights 142 = .ok (.iadd, 1) := by decide +kernel
theorem dX6_settleHeights_143 : decode cX6_settleHeights 143 = .ok (.iaload, 1) := by decide +kernel
theorem dX6_settleHeights_144 : decode cX6_settleHeights 144 = .ok (.aload_n 2, 1) := by decide +kernel
theorem dX6_settleHeights_145 : decode cX6_settleHeights 145 = .ok (.getfield 139, 3) := by decide +kernel
theorem dX6_settleHeights_148 : decode cX6_settleHeights 148 = .ok (.invokestatic 142, 3) := by decide +kernel
theorem dX6_settleHeights_151 : decode cX6_settleHeights 151 = .ok (.iastore, 1) := by decide +kernel
theorem dX6_settleHeights_152 : decode cX6_settleHeights 152 = .ok (.iinc 5 (-1), 3) := by decide +kernel
theorem dX6_settleHeights_155 : decode cX6_settleHeights 155 = .ok (.goto (-38), 3) := by decide +kernel
theorem dX6_settleHeights_158 : decode cX6_settleHeights 158 = .ok (.aload_n 0, 1) := by decide +kernel
theorem dX6_settleHeights_159 : decode cX6_settleHeights 159 = .ok (.iconst 1, 1) := by decide +kernel
theorem dX6_settleHeights_160 : decode cX6_settleHeights 160 = .ok (.putfield 30, 3) := by decide +kernel
theorem dX6_settleHeights_163 : decode cX6_settleHeights 163 = .ok (.iconst 1, 1) := by decide +kernel
theorem dX6_settleHeights_164 : decode cX6_settleHeights 164 = .ok (.istore 5, 2) := by decide +kernel
theorem dX6_settleHeights_166 : decode cX6_settleHeights 166 = .ok (.iload 5, 2) := by decide +kernel
theorem dX6_settleHeights_168 : decode cX6_settleHeights 168 = .ok (.aload_n 0, 1) := by decide +kernel
theorem dX6_settleHeights_169 : decode cX6_settleHeights 169 = .ok (.getfield 27, 3) := by decide +kernel
theorem dX6_settleHeights_172 : decode cX6_settleHeights 172 = .ok (.if_icmp .ge 46, 3) := by decide +kernel
theorem dX6_settleHeights_175 : decode cX6_settleHeights 175 = .ok (.aload_n 0, 1) := by decide +kernel
theorem dX6_settleHeights_176 : decode cX6_settleHeights 176 = .ok (.aload_n 0, 1) := by decide +kernel
theorem dX6_settleHeights_177 : decode cX6_settleHeights 177 = .ok (.getfield 30, 3) := by decide +kernel
theorem dX6_settleHeights_180 : decode cX6_settleHeights 180 = .ok (.ifCond .eq 28, 3) := by decide +kernel
theorem dX6_settleHeights_183 : decode cX6_settleHeights 183 = .ok (.aload_n 3, 1) := by decide +kernel
theorem dX6_settleHeights_184 : decode cX6_settleHeights 184 = .ok (.iload 5, 2) := by decide +kernel
theorem dX6_settleHeights_186 : decode cX6_settleHeights 186 = .ok (.iaload, 1) := by decide +kernel
theorem dX6_settleHeights_187 : decode cX6_settleHeights 187 = .ok (.aload_n 3, 1) := by decide +kernel
theorem dX6_settleHeights_188 : decode cX6_settleHeights 188 = .ok (.iload 5, 2) := by decide +kernel
theorem dX6_settleHeights_190 : decode cX6_settleHeights 190 = .ok (.iconst 1, 1) := by decide +kernel
theorem dX6_settleHeights_191 : decode cX6_settleHeights 191 = .ok (.isub, 1) := by decide +kernel
theorem dX6_settleHeights_192 : decode cX6_settleHeights 192 = .ok (.iaload, 1) := by decide +kernel
theorem dX6_settleHeights_193 : decode cX6_settleHeights 193 = .ok (.isub, 1) := by decide +kernel
theorem dX6_settleHeights_194 : decode cX6_settleHeights 194 = .ok (.invokestatic 145, 3) := by decide +kernel
theorem dX6_settleHeights_197 : decode cX6_settleHeights 197 = .ok (.aload_n 2, 1) := by decide +kernel
theorem dX6_settleHeights_198 : decode cX6_settleHeights 198 = .ok (.getfield 139, 3) := by decide +kernel
theorem dX6_settleHeights_201 : decode cX6_settleHeights 201 = .ok (.if_icmp .gt 7, 3) := by decide +kernel
theorem dX6_settleHeights_204 : decode cX6_settleHeights 204 = .ok (.iconst 1, 1) := by decide +kernel
theorem dX6_settleHeights_205 : decode cX6_settleHeights 205 = .ok (.goto 4, 3) := by decide +kernel
theorem dX6_settleHeights_208 : decode cX6_settleHeights 208 = .ok (.iconst 0, 1) := by decide +kernel
theorem dX6_settleHeights_209 : decode cX6_settleHeights 209 = .ok (.putfield 30, 3) := by decide +kernel
theorem dX6_settleHeights_212 : decode cX6_settleHeights 212 = .ok (.iinc 5 1, 3) := by decide +kernel
theorem dX6_settleHeights_215 : decode cX6_settleHeights 215 = .ok (.goto (-49), 3) := by decide +kernel
theorem dX6_settleHeights_218 : decode cX6_settleHeights 218 = .ok (.return_, 1) := by decide +kernel
theorem dX6_bringNear_0 : decode cX6_bringNear 0 = .ok (.iload_n 0, 1) := by decide +kernel
theorem dX6_bringNear_1 : decode cX6_bringNear 1 = .ok (.iload_n 1, 1) := by decide +kernel
theorem dX6_bringNear_2 : decode cX6_bringNear 2 = .ok (.iload_n 2, 1) := by decide +kernel
theorem dX6_bringNear_3 : decode cX6_bringNear 3 = .ok (.isub, 1) := by decide +kernel
theorem dX6_bringNear_4 : decode cX6_bringNear 4 = .ok (.iload_n 1, 1) := by decide +kernel
theorem dX6_bringNear_5 : decode cX6_bringNear 5 = .ok (.iload_n 2, 1) := by decide +kernel
theorem dX6_bringNear_6 : decode cX6_bringNear 6 = .ok (.iadd, 1) := by decide +kernel
theorem dX6_bringNear_7 : decode cX6_bringNear 7 = .ok (.invokestatic 124, 3) := by decide +kernel
theorem dX6_bringNear_10 : decode cX6_bringNear 10 = .ok (.ireturn, 1) := by decide +kernel
theorem dX6_tellLengths_0 : decode cX6_tellLengths 0 = .ok (.iload_n 2, 1) := by decide +kernel
theorem dX6_tellLengths_1 : decode cX6_tellLengths 1 = .ok (.ifCond .gt 4, 3) := by decide +kernel
theorem dX6_tellLengths_4 : decode cX6_tellLengths 4 = .ok (.return_, 1) := by decide +kernel
theorem dX6_tellLengths_5 : decode cX6_tellLengths 5 = .ok (.iconst 0, 1) := by decide +kernel
theorem dX6_tellLengths_6 : decode cX6_tellLengths 6 = .ok (.istore_n 3, 1) := by decide +kernel
theorem dX6_tellLengths_7 : decode cX6_tellLengths 7 = .ok (.iconst 0, 1) := by decide +kernel
theorem dX6_tellLengths_8 : decode cX6_tellLengths 8 = .ok (.istore 4, 2) := by decide +kernel
theorem dX6_tellLengths_10 : decode cX6_tellLengths 10 = .ok (.iconst 0, 1) := by decide +kernel
theorem dX6_tellLengths_11 : decode cX6_tellLengths 11 = .ok (.istore 5, 2) := by decide +kernel
theorem dX6_tellLengths_13 : decode cX6_tellLengths 13 = .ok (.iload 5, 2) := by decide +kernel
theorem dX6_tellLengths_15 : decode cX6_tellLengths 15 = .ok (.aload_n 0, 1) := by decide +kernel
theorem dX6_tellLengths_16 : decode cX6_tellLengths 16 = .ok (.getfield 27, 3) := by decide +kernel
theorem dX6_tellLengths_19 : decode cX6_tellLengths 19 = .ok (.if_icmp .ge 47, 3) := by decide +kernel
theorem dX6_tellLengths_22 : decode cX6_tellLengths 22 = .ok (.iload_n 3, 1) := by decide +kernel
theorem dX6_tellLengths_23 : decode cX6_tellLengths 23 = .ok (.aload_n 0, 1) := by decide +kernel
theorem dX6_tellLengths_24 : decode cX6_tellLengths 24 = .ok (.getfield 20, 3) := by decide +kernel
theorem dX6_tellLengths_27 : decode cX6_tellLengths 27 = .ok (.iconst 0, 1) := by decide +kernel
theorem dX6_tellLengths_28 : decode cX6_tellLengths 28 = .ok (.aaload, 1) := by decide +kernel
theorem dX6_tellLengths_29 : decode cX6_tellLengths 29 = .ok (.iload 5, 2) := by decide +kernel
theorem dX6_tellLengths_31 : decode cX6_tellLengths 31 = .ok (.iaload, 1) := by decide +kernel
theorem dX6_tellLengths_32 : decode cX6_tellLengths 32 = .ok (.iadd, 1) := by decide +kernel
theorem dX6_tellLengths_33 : decode cX6_tellLengths 33 = .ok (.istore_n 3, 1) := by decide +kernel
theorem dX6_tellLengths_34 : decode cX6_tellLengths 34 = .ok (.iload_n 3, 1) := by decide +kernel
theorem dX6_tellLengths_35 : decode cX6_tellLengths 35 = .ok (.iload_n 1, 1) := by decide +kernel
theorem dX6_tellLengths_36 : decode cX6_tellLengths 36 = .ok (.imul, 1) := by decide +kernel
theorem dX6_tellLengths_37 : decode cX6_tellLengths 37 = .ok (.iload_n 2, 1) := by decide +kernel
theorem dX6_tellLengths_38 : decode cX6_tellLengths 38 = .ok (.idiv, 1) := by decide +kernel
theorem dX6_tellLengths_39 : decode cX6_tellLengths 39 = .ok (.istore 6, 2) := by decide +kernel
theorem dX6_tellLengths_41 : decode cX6_tellLengths 41 = .ok (.aload_n 0, 1) := by decide +kernel
theorem dX6_tellLengths_42 : decode cX6_tellLengths 42 = .ok (.getfield 20, 3) := by decide +kernel
theorem dX6_tellLengths_45 : decode cX6_tellLengths 45 = .ok (.bipush 13, 2) := by decide +kernel
theorem dX6_tellLengths_47 : decode cX6_tellLengths 47 = .ok (.aaload, 1) := by decide +kernel
theorem dX6_tellLengths_48 : decode cX6_tellLengths 48 = .ok (.iload 5, 2) := by decide +kernel
theorem dX6_tellLengths_50 : decode cX6_tellLengths 50 = .ok (.iload 6, 2) := by decide +kernel
theorem dX6_tellLengths_52 : decode cX6_tellLengths 52 = .ok (.iload 4, 2) := by decide +kernel
theorem dX6_tellLengths_54 : decode cX6_tellLengths 54 = .ok (.isub, 1) := by decide +kernel
theorem dX6_tellLengths_55 : decode cX6_tellLengths 55 = .ok (.iastore, 1) := by decide +kernel
theorem dX6_tellLengths_56 : decode cX6_tellLengths 56 = .ok (.iload 6, 2) := by decide +kernel
theorem dX6_tellLengths_58 : decode cX6_tellLengths 58 = .ok (.istore 4, 2) := by decide +kernel
theorem dX6_tellLengths_60 : decode cX6_tellLengths 60 = .ok (.iinc 5 1, 3) := by decide +kernel
theorem dX6_tellLengths_63 : decode cX6_tellLengths 63 = .ok (.goto (-50), 3) := by decide +kernel
theorem dX6_tellLengths_66 : decode cX6_tellLengths 66 = .ok (.return_, 1) := by decide +kernel
theorem dX6_firstUnlike_0 : decode cX6_firstUnlike 0 = .ok (.aload_n 0, 1) := by decide +kernel
theorem dX6_firstUnlike_1 : decode cX6_firstUnlike 1 = .ok (.getfield 27, 3) := by decide +kernel
theorem dX6_firstUnlike_4 : decode cX6_firstUnlike 4 = .ok (.aload_n 1, 1) := by decide +kernel
theorem dX6_firstUnlike_5 : decode cX6_firstUnlike 5 = .ok (.getfield 27, 3) := by decide +kernel
theorem dX6_firstUnlike_8 : decode cX6_firstUnlike 8 = .ok (.invokestatic 151, 3) := by decide +kernel
theorem dX6_firstUnlike_11 : decode cX6_firstUnlike 11 = .ok (.istore_n 2, 1) := by decide +kernel
theorem dX6_firstUnlike_12 : decode cX6_firstUnlike 12 = .ok (.iconst 0, 1) := by decide +kernel
theorem dX6_firstUnlike_13 : decode cX6_firstUnlike 13 = .ok (.istore_n 3, 1) := by decide +kernel
theorem dX6_firstUnlike_14 : decode cX6_firstUnlike 14 = .ok (.iload_n 3, 1) := by decide +kernel
theorem dX6_firstUnlike_15 : decode cX6_firstUnlike 15 = .ok (.iload_n 2, 1) := by decide +kernel
theorem dX6_firstUnlike_16 : decode cX6_firstUnlike 16 = .ok (.if_icmp .ge 20, 3) := by decide +kernel
theorem dX6_firstUnlike_19 : decode cX6_firstUnlike 19 = .ok (.aload_n 0, 1) := by decide +kernel
theorem dX6_firstUnlike_20 : decode cX6_firstUnlike 20 = .ok (.aload_n 1, 1) := by decide +kernel
theorem dX6_firstUnlike_21 : decode cX6_firstUnlike 21 = .ok (.iload_n 3, 1) := by decide +kernel
theorem dX6_firstUnlike_22 : decode cX6_firstUnlike 22 = .ok (.invokevirtual 155, 3) := by decide +kernel
theorem dX6_firstUnlike_25 : decode cX6_firstUnlike 25 = .ok (.ifCond .ne 5, 3) := by decide +kernel
theorem dX6_firstUnlike_28 : decode cX6_firstUnlike 28 = .ok (.iload_n 3, 1) := by decide +kernel
theorem dX6_firstUnlike_29 : decode cX6_firstUnlike 29 = .ok (.ireturn, 1) := by decide +kernel
theorem dX6_firstUnlike_30 : decode cX6_firstUnlike 30 = .ok (.iinc 3 1, 3) := by decide +kernel
theorem dX6_firstUnlike_33 : decode cX6_firstUnlike 33 = .ok (.goto (-19), 3) := by decide +kernel
theorem dX6_firstUnlike_36 : decode cX6_firstUnlike 36 = .ok (.aload_n 0, 1) := by decide +kernel
theorem dX6_firstUnlike_37 : decode cX6_firstUnlike 37 = .ok (.getfield 27, 3) := by decide +kernel
theorem dX6_firstUnlike_40 : decode cX6_firstUnlike 40 = .ok (.aload_n 1, 1) := by decide +kernel
theorem dX6_firstUnlike_41 : decode cX6_firstUnlike 41 = .ok (.getfield 27, 3) := by decide +kernel
theorem dX6_firstUnlike_44 : decode cX6_firstUnlike 44 = .ok (.if_icmp .ne 7, 3) := by decide +kernel
theorem dX6_firstUnlike_47 : decode cX6_firstUnlike 47 = .ok (.iconst (-1), 1) := by decide +kernel
theorem dX6_firstUnlike_48 : decode cX6_firstUnlike 48 = .ok (.goto 4, 3) := by decide +kernel
theorem dX6_firstUnlike_51 : decode cX6_firstUnlike 51 = .ok (.iload_n 2, 1) := by decide +kernel
theorem dX6_firstUnlike_52 : decode cX6_firstUnlike 52 = .ok (.ireturn, 1) := by decide +kernel
theorem dX6_isAlikeAt_0 : decode cX6_isAlikeAt 0 = .ok (.aload_n 0, 1) := by decide +kernel
theorem dX6_isAlikeAt_1 : decode cX6_isAlikeAt 1 = .ok (.getfield 20, 3) := by decide +kernel
theorem dX6_isAlikeAt_4 : decode cX6_isAlikeAt 4 = .ok (.bipush 13, 2) := by decide +kernel
theorem dX6_isAlikeAt_6 : decode cX6_isAlikeAt 6 = .ok (.aaload, 1) := by decide +kernel
theorem dX6_isAlikeAt_7 : decode cX6_isAlikeAt 7 = .ok (.iload_n 2, 1) := by decide +kernel
theorem dX6_isAlikeAt_8 : decode cX6_isAlikeAt 8 = .ok (.iaload, 1) := by decide +kernel
theorem dX6_isAlikeAt_9 : decode cX6_isAlikeAt 9 = .ok (.aload_n 1, 1) := by decide +kernel
theorem dX6_isAlikeAt_10 : decode cX6_isAlikeAt 10 = .ok (.getfield 20, 3) := by decide +kernel
theorem dX6_isAlikeAt_13 : decode cX6_isAlikeAt 13 = .ok (.bipush 13, 2) := by decide +kernel
theorem dX6_isAlikeAt_15 : decode cX6_isAlikeAt 15 = .ok (.aaload, 1) := by decide +kernel
theorem dX6_isAlikeAt_16 : decode cX6_isAlikeAt 16 = .ok (.iload_n 2, 1) := by decide +kernel
theorem dX6_isAlikeAt_17 : decode cX6_isAlikeAt 17 = .ok (.iaload, 1) := by decide +kernel
theorem dX6_isAlikeAt_18 : decode cX6_isAlikeAt 18 = .ok (.if_icmp .ne 80, 3) := by decide +kernel
theorem dX6_isAlikeAt_21 : decode cX6_isAlikeAt 21 = .ok (.aload_n 0, 1) := by decide +kernel
theorem dX6_isAlikeAt_22 : decode cX6_isAlikeAt 22 = .ok (.getfield 20, 3) := by decide +kernel
theorem dX6_isAlikeAt_25 : decode cX6_isAlikeAt 25 = .ok (.iconst 1, 1) := by decide +kernel
theorem dX6_isAlikeAt_26 : decode cX6_isAlikeAt 26 = .ok (.aaload, 1) := by decide +kernel
theorem dX6_isAlikeAt_27 : decode cX6_isAlikeAt 27 = .ok (.iload_n 2, 1) := by decide +kernel
theorem dX6_isAlikeAt_28 : decode cX6_isAlikeAt 28 = .ok (.iaload, 1) := by decide +kernel
theorem dX6_isAlikeAt_29 : decode cX6_isAlikeAt 29 = .ok (.aload_n 1, 1) := by decide +kernel
theorem dX6_isAlikeAt_30 : decode cX6_isAlikeAt 30 = .ok (.getfield 20, 3) := by decide +kernel
theorem dX6_isAlikeAt_33 : decode cX6_isAlikeAt 33 = .ok (.iconst 1, 1) := by decide +kernel
theorem dX6_isAlikeAt_34 : decode cX6_isAlikeAt 34 = .ok (.aaload, 1) := by decide +kernel
theorem dX6_isAlikeAt_35 : decode cX6_isAlikeAt 35 = .ok (.iload_n 2, 1) := by decide +kernel
theorem dX6_isAlikeAt_36 : decode cX6_isAlikeAt 36 = .ok (.iaload, 1) := by decide +kernel
theorem dX6_isAlikeAt_37 : decode cX6_isAlikeAt 37 = .ok (.if_icmp .ne 61, 3) := by decide +kernel
theorem dX6_isAlikeAt_40 : decode cX6_isAlikeAt 40 = .ok (.aload_n 0, 1) := by decide +kernel
theorem dX6_isAlikeAt_41 : decode cX6_isAlikeAt 41 = .ok (.getfield 20, 3) := by decide +kernel
theorem dX6_isAlikeAt_44 : decode cX6_isAlikeAt 44 = .ok (.iconst 2, 1) := by decide +kernel
theorem dX6_isAlikeAt_45 : decode cX6_isAlikeAt 45 = .ok (.aaload, 1) := by decide +kernel
theorem dX6_isAlikeAt_46 : decode cX6_isAlikeAt 46 = .ok (.iload_n 2, 1) := by decide +kernel
theorem dX6_isAlikeAt_47 : decode cX6_isAlikeAt 47 = .ok (.iaload, 1) := by decide +kernel
theorem dX6_isAlikeAt_48 : decode cX6_isAlikeAt 48 = .ok (.aload_n 1, 1) := by decide +kernel
theorem dX6_isAlikeAt_49 : decode cX6_isAlikeAt 49 = .ok (.getfield 20, 3) := by decide +kernel
theorem dX6_isAlikeAt_52 : decode cX6_isAlikeAt 52 = .ok (.iconst 2, 1) := by decide +kernel
theorem dX6_isAlikeAt_53 : decode cX6_isAlikeAt 53 = .ok (.aaload, 1) := by decide +kernel
theorem dX6_isAlikeAt_54 : decode cX6_isAlikeAt 54 = .ok (.iload_n 2, 1) := by decide +kernel
theorem dX6_isAlikeAt_55 : decode cX6_isAlikeAt 55 = .ok (.iaload, 1) := by decide +kernel
theorem dX6_isAlikeAt_56 : decode cX6_isAlikeAt 56 = .ok (.if_icmp .ne 42, 3) := by decide +kernel
theorem dX6_isAlikeAt_59 : decode cX6_isAlikeAt 59 = .ok (.aload_n 0, 1) := by decide +kernel
theorem dX6_isAlikeAt_60 : decode cX6_isAlikeAt 60 = .ok (.getfield 20, 3) := by decide +kernel
theorem dX6_isAlikeAt_63 : decode cX6_isAlikeAt 63 = .ok (.iconst 4, 1) := by decide +kernel
theorem dX6_isAlikeAt_64 : decode cX6_isAlikeAt 64 = .ok (.aaload, 1) := by decide +kernel
theorem dX6_isAlikeAt_65 : decode cX6_isAlikeAt 65 = .ok (.iload_n 2, 1) := by decide +kernel
theorem dX6_isAlikeAt_66 : decode cX6_isAlikeAt 66 = .ok (.iaload, 1) := by decide +kernel
theorem dX6_isAlikeAt_67 : decode cX6_isAlikeAt 67 = .ok (.ifCond .ne 7, 3) := by decide +kernel
theorem dX6_isAlikeAt_70 : decode cX6_isAlikeAt 70 = .ok (.iconst 1, 1) := by decide +kernel
theorem dX6_isAlikeAt_71 : decode cX6_isAlikeAt 71 = .ok (.goto 4, 3) := by decide +kernel
theorem dX6_isAlikeAt_74 : decode cX6_isAlikeAt 74 = .ok (.iconst 0, 1) := by decide +kernel
theorem dX6_isAlikeAt_75 : decode cX6_isAlikeAt 75 = .ok (.aload_n 1, 1) := by decide +kernel
theorem dX6_isAlikeAt_76 : decode cX6_isAlikeAt 76 = .ok (.getfield 20, 3) := by decide +kernel
theorem dX6_isAlikeAt_79 : decode cX6_isAlikeAt 79 = .ok (.iconst 4, 1) := by decide +kernel
theorem dX6_isAlikeAt_80 : decode cX6_isAlikeAt 80 = .ok (.aaload, 1) := by decide +kernel
theorem dX6_isAlikeAt_81 : decode cX6_isAlikeAt 81 = .ok (.iload_n 2, 1) := by decide +kernel
theorem dX6_isAlikeAt_82 : decode cX6_isAlikeAt 82 = .ok (.iaload, 1) := by decide +kernel
theorem dX6_isAlikeAt_83 : decode cX6_isAlikeAt 83 = .ok (.ifCond .ne 7, 3) := by decide +kernel
theorem dX6_isAlikeAt_86 : decode cX6_isAlikeAt 86 = .ok (.iconst 1, 1) := by decide +kernel
theorem dX6_isAlikeAt_87 : decode cX6_isAlikeAt 87 = .ok (.goto 4, 3) := by decide +kernel
theorem dX6_isAlikeAt_90 : decode cX6_isAlikeAt 90 = .ok (.iconst 0, 1) := by decide +kernel
theorem dX6_isAlikeAt_91 : decode cX6_isAlikeAt 91 = .ok (.if_icmp .ne 7, 3) := by decide +kernel
theorem dX6_isAlikeAt_94 : decode cX6_isAlikeAt 94 = .ok (.iconst 1, 1) := by decide +kernel
theorem dX6_isAlikeAt_95 : decode cX6_isAlikeAt 95 = .ok (.goto 4, 3) := by decide +kernel
theorem dX6_isAlikeAt_98 : decode cX6_isAlikeAt 98 = .ok (.iconst 0, 1) := by decide +kernel
theorem dX6_isAlikeAt_99 : decode cX6_isAlikeAt 99 = .ok (.ireturn, 1) := by decide +kernel
theorem dX7_init_0 : decode cX7_init 0 = .ok (.aload_n 0, 1) := by decide +kernel
theorem dX7_init_1 : decode cX7_init 1 = .ok (.invokespecial 3, 3) := by decide +kernel
theorem dX7_init_4 : decode cX7_init 4 = .ok (.aload_n 0, 1) := by decide +kernel
theorem dX7_init_5 : decode cX7_init 5 = .ok (.sipush 1000, 3) := by decide +kernel
theorem dX7_init_8 : decode cX7_init 8 = .ok (.newarray .byte, 2) := by decide +kernel
theorem dX7_init_10 : decode cX7_init 10 = .ok (.putfield 9, 3) := by decide +kernel
theorem dX7_init_13 : decode cX7_init 13 = .ok (.aload_n 0, 1) := by decide +kernel
theorem dX7_init_14 : decode cX7_init 14 = .ok (.iconst 0, 1) := by decide +kernel
theorem dX7_init_15 : decode cX7_init 15 = .ok (.putfield 15, 3) := by decide +kernel
theorem dX7_init_18 : decode cX7_init 18 = .ok (.return_, 1) := by decide +kernel
theorem dX7_layBytes_0 : decode cX7_layBytes 0 = .ok (.bipush 56, 2) := by decide +kernel
theorem dX7_layBytes_2 : decode cX7_layBytes 2 = .ok (.istore_n 3, 1) := by decide +kernel
theorem dX7_layBytes_3 : decode cX7_layBytes 3 = .ok (.iload_n 3, 1) := by decide +kernel
theorem dX7_layBytes_4 : decode cX7_layBytes 4 = .ok (.ifCond .lt 70, 3) := by decide +kernel
theorem dX7_layBytes_7 : decode cX7_layBytes 7 = .ok (.lload_n 1, 1) := by decide +kernel
theorem dX7_layBytes_8 : decode cX7_layBytes 8 = .ok (.iload_n 3, 1) := by decide +kernel
theorem dX7_layBytes_9 : decode cX7_layBytes 9 = .ok (.lushr, 1) := by decide +kernel
theorem dX7_layBytes_10 : decode cX7_layBytes 10 = .ok (.l2i, 1) := by decide +kernel
theorem dX7_layBytes_11 : decode cX7_layBytes 11 = .ok (.sipush 255, 3) := by decide +kernel
theorem dX7_layBytes_14 : decode cX7_layBytes 14 = .ok (.iand, 1) := by decide +kernel
theorem dX7_layBytes_15 : decode cX7_layBytes 15 = .ok (.istore 4, 2) := by decide +kernel
theorem dX7_layBytes_17 : decode cX7_layBytes 17 = .ok (.iload 4, 2) := by decide +kernel
theorem dX7_layBytes_19 : decode cX7_layBytes 19 = .ok (.bipush 10, 2) := by decide +kernel
theorem dX7_layBytes_21 : decode cX7_layBytes 21 = .ok (.if_icmp .eq 15, 3) := by decide +kernel
theorem dX7_layBytes_24 : decode cX7_layBytes 24 = .ok (.iload 4, 2) := by decide +kernel
theorem dX7_layBytes_26 : decode cX7_layBytes 26 = .ok (.bipush 32, 2) := by decide +kernel
theorem dX7_layBytes_28 : decode cX7_layBytes 28 = .ok (.bipush 126, 2) := by decide +kernel
theorem dX7_layBytes_30 : decode cX7_layBytes 30 = .ok (.invokestatic 19, 3) := by decide +kernel
theorem dX7_layBytes_33 : decode cX7_layBytes 33 = .ok (.ifCond .eq 35, 3) := by decide +kernel
theorem dX7_layBytes_36 : decode cX7_layBytes 36 = .ok (.aload_n 0, 1) := by decide +kernel
theorem dX7_layBytes_37 : decode cX7_layBytes 37 = .ok (.getfield 15, 3) := by decide +kernel
theorem dX7_layBytes_40 : decode cX7_layBytes 40 = .ok (.sipush 1000, 3) := by decide +kernel
theorem dX7_layBytes_43 : decode cX7_layBytes 43 = .ok (.if_icmp .ge 25, 3) := by decide +kernel
theorem dX7_layBytes_46 : decode cX7_layBytes 46 = .ok (.aload_n 0, 1) := by decide +kernel
theorem dX7_layBytes_47 : decode cX7_layBytes 47 = .ok (.getfield 9, 3) := by decide +kernel
theorem dX7_layBytes_50 : decode cX7_layBytes 50 = .ok (.aload_n 0, 1) := by decide +kernel
theorem dX7_layBytes_51 : decode cX7_layBytes 51 = .ok (.getfield 15, 3) := by decide +kernel
theorem dX7_layBytes_54 : decode cX7_layBytes 54 = .ok (.iload 4, 2) := by decide +kernel
theorem dX7_layBytes_56 : decode cX7_layBytes 56 = .ok (.i2b, 1) := by decide +kernel
theorem dX7_layBytes_57 : decode cX7_layBytes 57 = .ok (.bastore, 1) := by decide +kernel
theorem dX7_layBytes_58 : decode cX7_layBytes 58 = .ok (.aload_n 0, 1) := by decide +kernel
theorem dX7_layBytes_59 : decode cX7_layBytes 59 = .ok (.dup, 1) := by decide +kernel
theorem dX7_layBytes_60 : decode cX7_layBytes 60 = .ok (.getfield 15, 3) := by decide +kernel
theorem dX7_layBytes_63 : decode cX7_layBytes 63 = .ok (.iconst 1, 1) := by decide +kernel
theorem dX7_layBytes_64 : decode cX7_layBytes 64 = .ok (.iadd, 1) := by decide +kernel
theorem dX7_layBytes_65 : decode cX7_layBytes 65 = .ok (.putfield 15, 3) := by decide +kernel
theorem dX7_layBytes_68 : decode cX7_layBytes 68 = .ok (.iinc 3 (-8), 3) := by decide +kernel
theorem dX7_layBytes_71 : decode cX7_layBytes 71 = .ok (.goto (-68), 3) := by decide +kernel
theorem dX7_layBytes_74 : decode cX7_layBytes 74 = .ok (.return_, 1) := by decide +kernel
theorem dX8_init_0 : decode cX8_init 0 = .ok (.aload_n 0, 1) := by decide +kernel
theorem dX8_init_1 : decode cX8_init 1 = .ok (.invokespecial 3, 3) := by decide +kernel
theorem dX8_init_4 : decode cX8_init 4 = .ok (.aload_n 0, 1) := by decide +kernel
theorem dX8_init_5 : decode cX8_init 5 = .ok (.iconst 0, 1) := by decide +kernel
theorem dX8_init_6 : decode cX8_init 6 = .ok (.putfield 9, 3) := by decide +kernel
theorem dX8_init_9 : decode cX8_init 9 = .ok (.aload_n 0, 1) := by decide +kernel
theorem dX8_init_10 : decode cX8_init 10 = .ok (.iconst 0, 1) := by decide +kernel
theorem dX8_init_11 : decode cX8_init 11 = .ok (.iload_n 1, 1) := by decide +kernel
theorem dX8_init_12 : decode cX8_init 12 = .ok (.invokestatic 15, 3) := by decide +kernel
theorem dX8_init_15 : decode cX8_init 15 = .ok (.iconst 1, 1) := by decide +kernel
theorem dX8_init_16 : decode cX8_init 16 = .ok (.iadd, 1) := by decide +kernel
theorem dX8_init_17 : decode cX8_init 17 = .ok (.newarray .int, 2) := by decide +kernel
theorem dX8_init_19 : decode cX8_init 19 = .ok (.putfield 21, 3) := by decide +kernel
theorem dX8_init_22 : decode cX8_init 22 = .ok (.aload_n 0, 1) := by decide +kernel
theorem dX8_init_23 : decode cX8_init 23 = .ok (.iconst 0, 1) := by decide +kernel
theorem dX8_init_24 : decode cX8_init 24 = .ok (.iload_n 1, 1) := by decide +kernel
theorem dX8_init_25 : decode cX8_init 25 = .ok (.invokestatic 15, 3) := by decide +kernel
theorem dX8_init_28 : decode cX8_init 28 = .ok (.iconst 1, 1) := by decide +kernel
theorem dX8_init_29 : decode cX8_init 29 = .ok (.iadd, 1) := by decide +kernel
theorem dX8_init_30 : decode cX8_init 30 = .ok (.newarray .int, 2) := by decide +kernel
theorem dX8_init_32 : decode cX8_init 32 = .ok (.putfield 25, 3) := by decide +kernel
theorem dX8_init_35 : decode cX8_init 35 = .ok (.return_, 1) := by decide +kernel
theorem dX8_cutText_0 : decode cX8_cutText 0 = .ok (.aload_n 0, 1) := by decide +kernel
theorem dX8_cutText_1 : decode cX8_cutText 1 = .ok (.iconst 0, 1) := by decide +kernel
theorem dX8_cutText_2 : decode cX8_cutText 2 = .ok (.putfield 9, 3) := by decide +kernel
theorem dX8_cutText_5 : decode cX8_cutText 5 = .ok (.iconst 0, 1) := by decide +kernel
theorem dX8_cutText_6 : decode cX8_cutText 6 = .ok (.istore_n 2, 1) := by decide +kernel
theorem dX8_cutText_7 : decode cX8_cutText 7 = .ok (.iload_n 2, 1) := by decide +kernel
theorem dX8_cutText_8 : decode cX8_cutText 8 = .ok (.aload_n 1, 1) := by decide +kernel
theorem dX8_cutText_9 : decode cX8_cutText 9 = .ok (.getfield 28, 3) := by decide +kernel
theorem dX8_cutText_12 : decode cX8_cutText 12 = .ok (.if_icmp .ge 19, 3) := by decide +kernel
theorem dX8_cutText_15 : decode cX8_cutText 15 = .ok (.iload_n 2, 1) := by decide +kernel
theorem dX8_cutText_16 : decode cX8_cutText 16 = .ok (.iconst 1, 1) := by decide +kernel
theorem dX8_cutText_17 : decode cX8_cutText 17 = .ok (.iadd, 1) := by decide +kernel
theorem dX8_cutText_18 : decode cX8_cutText 18 = .ok (.aload_n 0, 1) := by decide +kernel
theorem dX8_cutText_19 : decode cX8_cutText 19 = .ok (.aload_n 1, 1) := by decide +kernel
theorem dX8_cutText_20 : decode cX8_cutText 20 = .ok (.iload_n 2, 1) := by decide +kernel
theorem dX8_cutText_21 : decode cX8_cutText 21 = .ok (.invokevirtual 33, 3) := by decide +kernel
theorem dX8_cutText_24 : decode cX8_cutText 24 = .ok (.invokestatic 15, 3) := by decide +kernel
theorem dX8_cutText_27 : decode cX8_cutText 27 = .ok (.istore_n 2, 1) := by decide +kernel
theorem dX8_cutText_28 : decode cX8_cutText 28 = .ok (.goto (-21), 3) := by decide +kernel
theorem dX8_cutText_31 : decode cX8_cutText 31 = .ok (.aload_n 0, 1) := by decide +kernel
theorem dX8_cutText_32 : decode cX8_cutText 32 = .ok (.bipush 24, 2) := by decide +kernel
theorem dX8_cutText_34 : decode cX8_cutText 34 = .ok (.aload_n 1, 1) := by decide +kernel
theorem dX8_cutText_35 : decode cX8_cutText 35 = .ok (.getfield 28, 3) := by decide +kernel
theorem dX8_cutText_38 : decode cX8_cutText 38 = .ok (.invokevirtual 37, 3) := by decide +kernel
theorem dX8_cutText_41 : decode cX8_cutText 41 = .ok (.return_, 1) := by decide +kernel
theorem dX8_cutOne_0 : decode cX8_cutOne 0 = .ok (.aload_n 1, 1) := by decide +kernel
theorem dX8_cutOne_1 : decode cX8_cutOne 1 = .ok (.getfield 41, 3) := by decide +kernel
theorem dX8_cutOne_4 : decode cX8_cutOne 4 = .ok (.iload_n 2, 1) := by decide +kernel
theorem dX8_cutOne_5 : decode cX8_cutOne 5 = .ok (.baload, 1) := by decide +kernel
theorem dX8_cutOne_6 : decode cX8_cutOne 6 = .ok (.istore_n 3, 1) := by decide +kernel
theorem dX8_cutOne_7 : decode cX8_cutOne 7 = .ok (.iload_n 3, 1) := by decide +kernel
theorem dX8_cutOne_8 : decode cX8_cutOne 8 = .ok (.invokestatic 45, 3) := by decide +kernel
theorem dX8_cutOne_11 : decode cX8_cutOne 11 = .ok (.ifCond .eq 29, 3) := by decide +kernel
theorem dX8_cutOne_14 : decode cX8_cutOne 14 = .ok (.aload_n 1, 1) := by decide +kernel
theorem dX8_cutOne_15 : decode cX8_cutOne 15 = .ok (.iload_n 2, 1) := by decide +kernel
theorem dX8_cutOne_16 : decode cX8_cutOne 16 = .ok (.bipush 97, 2) := by decide +kernel
theorem dX8_cutOne_18 : decode cX8_cutOne 18 = .ok (.bipush 122, 2) := by decide +kernel
theorem dX8_cutOne_20 : decode cX8_cutOne 20 = .ok (.invokestatic 49, 3) := by decide +kernel
theorem dX8_cutOne_23 : decode cX8_cutOne 23 = .ok (.istore 4, 2) := by decide +kernel
theorem dX8_cutOne_25 : decode cX8_cutOne 25 = .ok (.aload_n 0, 1) := by decide +kernel
theorem dX8_cutOne_26 : decode cX8_cutOne 26 = .ok (.aload_n 1, 1) := by decide +kernel
theorem dX8_cutOne_27 : decode cX8_cutOne 27 = .ok (.iload_n 2, 1) := by decide +kernel
theorem dX8_cutOne_28 : decode cX8_cutOne 28 = .ok (.iload 4, 2) := by decide +kernel
theorem dX8_cutOne_30 : decode cX8_cutOne 30 = .ok (.invokestatic 53, 3) := by decide +kernel
theorem dX8_cutOne_33 : decode cX8_cutOne 33 = .ok (.iload_n 2, 1) := by decide +kernel
theorem dX8_cutOne_34 : decode cX8_cutOne 34 = .ok (.invokevirtual 37, 3) := by decide +kernel
theorem dX8_cutOne_37 : decode cX8_cutOne 37 = .ok (.iload 4, 2) := by decide +kernel
theorem dX8_cutOne_39 : decode cX8_cutOne 39 = .ok (.ireturn, 1) := by decide +kernel
theorem dX8_cutOne_40 : decode cX8_cutOne 40 = .ok (.iload_n 3, 1) := by decide +kernel
theorem dX8_cutOne_41 : decode cX8_cutOne 41 = .ok (.bipush 48, 2) := by decide +kernel
theorem dX8_cutOne_43 : decode cX8_cutOne 43 = .ok (.bipush 57, 2) := by decide +kernel
theorem dX8_cutOne_45 : decode cX8_cutOne 45 = .ok (.invokestatic 57, 3) := by decide +kernel
theorem dX8_cutOne_48 : decode cX8_cutOne 48 = .ok (.ifCond .eq 29, 3) := by decide +kernel
theorem dX8_cutOne_51 : decode cX8_cutOne 51 = .ok (.aload_n 1, 1) := by decide +kernel
theorem dX8_cutOne_52 : decode cX8_cutOne 52 = .ok (.iload_n 2, 1) := by decide +kernel
theorem dX8_cutOne_53 : decode cX8_cutOne 53 = .ok (.bipush 48, 2) := by decide +kernel
theorem dX8_cutOne_55 : decode cX8_cutOne 55 = .ok (.bipush 57, 2) := by decide +kernel
theorem dX8_cutOne_57 : decode cX8_cutOne 57 = .ok (.invokestatic 49, 3) := by decide +kernel
theorem dX8_cutOne_60 : decode cX8_cutOne 60 = .ok (.istore 4, 2) := by decide +kernel
theorem dX8_cutOne_62 : decode cX8_cutOne 62 = .ok (.aload_n 0, 1) := by decide +kernel
theorem dX8_cutOne_63 : decode cX8_cutOne 63 = .ok (.aload_n 1, 1) := by decide +kernel
theorem dX8_cutOne_64 : decode cX8_cutOne 64 = .ok (.iload_n 2, 1) := by decide +kernel
theorem dX8_cutOne_65 : decode cX8_cutOne 65 = .ok (.iload 4, 2) := by decide +kernel
theorem dX8_cutOne_67 : decode cX8_cutOne 67 = .ok (.invokestatic 61, 3) := by decide +kernel
theorem dX8_cutOne_70 : decode cX8_cutOne 70 = .ok (.iload_n 2, 1) := by decide +kernel
theorem dX8_cutOne_71 : decode cX8_cutOne 71 = .ok (.invokevirtual 37, 3) := by decide +kernel
theorem dX8_cutOne_74 : decode cX8_cutOne 74 = .ok (.iload 4, 2) := by decide +kernel
theorem dX8_cutOne_76 : decode cX8_cutOne 76 = .ok (.ireturn, 1) := by decide +kernel
theorem dX8_cutOne_77 : decode cX8_cutOne 77 = .ok (.iload_n 3, 1) := by decide +kernel
theorem dX8_cutOne_78 : decode cX8_cutOne 78 = .ok (.bipush 10, 2) := by decide +kernel
theorem dX8_cutOne_80 : decode cX8_cutOne 80 = .ok (.if_icmp .eq 38, 3) := by decide +kernel
theorem dX8_cutOne_83 : decode cX8_cutOne 83 = .ok (.iload_n 3, 1) := by decide +kernel
theorem dX8_cutOne_84 : decode cX8_cutOne 84 = .ok (.bipush 32, 2) := by decide +kernel
theorem dX8_cutOne_86 : decode cX8_cutOne 86 = .ok (.if_icmp .eq 32, 3) := by decide +kernel
theorem dX8_cutOne_89 : decode cX8_cutOne 89 = .ok (.ldc 64, 2) := by decide +kernel
theorem dX8_cutOne_91 : decode cX8_cutOne 91 = .ok (.iload_n 3, 1) := by decide +kernel
theorem dX8_cutOne_92 : decode cX8_cutOne 92 = .ok (.i2c, 1) := by decide +kernel
theorem dX8_cutOne_93 : decode cX8_cutOne 93 = .ok (.invokevirtual 66, 3) := by decide +kernel
theorem dX8_cutOne_96 : decode cX8_cutOne 96 = .ok (.istore 4, 2) := by decide +kernel
theorem dX8_cutOne_98 : decode cX8_cutOne 98 = .ok (.aload_n 0, 1) := by decide +kernel
theorem dX8_cutOne_99 : decode cX8_cutOne 99 = .ok (.iload 4, 2) := by decide +kernel
theorem dX8_cutOne_101 : decode cX8_cutOne 101 = .ok (.ifCond .ge 8, 3) := by decide +kernel
theorem dX8_cutOne_104 : decode cX8_cutOne 104 = .ok (.bipush 25, 2) := by decide +kernel
theorem dX8_cutOne_106 : decode cX8_cutOne 106 = .ok (.goto 8, 3) := by decide +kernel
theorem dX8_cutOne_109 : decode cX8_cutOne 109 = .ok (.bipush 17, 2) := by decide +kernel
theorem dX8_cutOne_111 : decode cX8_cutOne 111 = .ok (.iload 4, 2) := by decide +kernel
theorem dX8_cutOne_113 : decode cX8_cutOne 113 = .ok (.iadd, 1) := by decide +kernel
theorem dX8_cutOne_114 : decode cX8_cutOne 114 = .ok (.iload_n 2, 1) := by decide +kernel
theorem dX8_cutOne_115 : decode cX8_cutOne 115 = .ok (.invokevirtual 37, 3) := by decide +kernel
theorem dX8_cutOne_118 : decode cX8_cutOne 118 = .ok (.iload_n 2, 1) := by decide +kernel
theorem dX8_cutOne_119 : decode cX8_cutOne 119 = .ok (.iconst 1, 1) := by decide +kernel
theorem dX8_cutOne_120 : decode cX8_cutOne 120 = .ok (.iadd, 1) := by decide +kernel
theorem dX8_cutOne_121 : decode cX8_cutOne 121 = .ok (.ireturn, 1) := by decide +kernel
theorem dX8_isLetter_0 : decode cX8_isLetter 0 = .ok (.iload_n 0, 1) := by decide +kernel
theorem dX8_isLetter_1 : decode cX8_isLetter 1 = .ok (.bipush 97, 2) := by decide +kernel
theorem dX8_isLetter_3 : decode cX8_isLetter 3 = .ok (.bipush 122, 2) := by decide +kernel
theorem dX8_isLetter_5 : decode cX8_isLetter 5 = .ok (.invokestatic 57, 3) := by decide +kernel
theorem dX8_isLetter_8 : decode cX8_isLetter 8 = .ok (.ireturn, 1) := by decide +kernel
theorem dX8_endOfRun_0 : decode cX8_endOfRun 0 = .ok (.iload_n 1, 1) := by decide +kernel
theorem dX8_endOfRun_1 : decode cX8_endOfRun 1 = .ok (.istore 4, 2) := by decide +kernel
theorem dX8_endOfRun_3 : decode cX8_endOfRun 3 = .ok (.iload 4, 2) := by decide +kernel
theorem dX8_endOfRun_5 : decode cX8_endOfRun 5 = .ok (.aload_n 0, 1) := by decide +kernel
theorem dX8_endOfRun_6 : decode cX8_endOfRun 6 = .ok (.getfield 28, 3) := by decide +kernel
theorem dX8_endOfRun_9 : decode cX8_endOfRun 9 = .ok (.if_icmp .ge 27, 3) := by decide +kernel
theorem dX8_endOfRun_12 : decode cX8_endOfRun 12 = .ok (.aload_n 0, 1) := by decide +kernel
theorem dX8_endOfRun_13 : decode cX8_endOfRun 13 = .ok (.getfield 41, 3) := by decide +kernel
theorem dX8_endOfRun_16 : decode cX8_endOfRun 16 = .ok (.iload 4, 2) := by decide +kernel
theorem dX8_endOfRun_18 : decode cX8_endOfRun 18 = .ok (.baload, 1) := by decide +kernel
theorem dX8_endOfRun_19 : decode cX8_endOfRun 19 = .ok (.iload_n 2, 1) := by decide +kernel
theorem dX8_endOfRun_20 : decode cX8_endOfRun 20 = .ok (.iload_n 3, 1) := by decide +kernel
theorem dX8_endOfRun_21 : decode cX8_endOfRun 21 = .ok (.invokestatic 57, 3) := by decide +kernel
theorem dX8_endOfRun_24 : decode cX8_endOfRun 24 = .ok (.ifCond .ne 6, 3) := by decide +kernel
theorem dX8_endOfRun_27 : decode cX8_endOfRun 27 = .ok (.iload 4, 2) := by decide +kernel
theorem dX8_endOfRun_29 : decode cX8_endOfRun 29 = .ok (.ireturn, 1) := by decide +kernel
theorem dX8_endOfRun_30 : decode cX8_endOfRun 30 = .ok (.iinc 4 1, 3) := by decide +kernel
theorem dX8_endOfRun_33 : decode cX8_endOfRun 33 = .ok (.goto (-30), 3) := by decide +kernel
theorem dX8_endOfRun_36 : decode cX8_endOfRun 36 = .ok (.aload_n 0, 1) := by decide +kernel
theorem dX8_endOfRun_37 : decode cX8_endOfRun 37 = .ok (.getfield 28, 3) := by decide +kernel
theorem dX8_endOfRun_40 : decode cX8_endOfRun 40 = .ok (.ireturn, 1) := by decide +kernel
theorem dX8_nameAt_0 : decode cX8_nameAt 0 = .ok (.iload_n 2, 1) := by decide +kernel
theorem dX8_nameAt_1 : decode cX8_nameAt 1 = .ok (.iload_n 1, 1) := by decide +kernel
theorem dX8_nameAt_2 : decode cX8_nameAt 2 = .ok (.isub, 1) := by decide +kernel
theorem dX8_nameAt_3 : decode cX8_nameAt 3 = .ok (.bipush 8, 2) := by decide +kernel
theorem dX8_nameAt_5 : decode cX8_nameAt 5 = .ok (.if_icmp .gt 35, 3) := by decide +kernel
theorem dX8_nameAt_8 : decode cX8_nameAt 8 = .ok (.iconst 0, 1) := by decide +kernel
theorem dX8_nameAt_9 : decode cX8_nameAt 9 = .ok (.istore_n 3, 1) := by decide +kernel
theorem dX8_nameAt_10 : decode cX8_nameAt 10 = .ok (.iload_n 3, 1) := by decide +kernel
theorem dX8_nameAt_11 : decode cX8_nameAt 11 = .ok (.ldc 72, 2) := by decide +kernel
theorem dX8_nameAt_13 : decode cX8_nameAt 13 = .ok (.invokevirtual 74, 3) := by decide +kernel
theorem dX8_nameAt_16 : decode cX8_nameAt 16 = .ok (.bipush 8, 2) := by decide +kernel
theorem dX8_nameAt_18 : decode cX8_nameAt 18 = .ok (.idiv, 1) := by decide +kernel
theorem dX8_nameAt_19 : decode cX8_nameAt 19 = .ok (.if_icmp .ge 21, 3) := by decide +kernel
theorem dX8_nameAt_22 : decode cX8_nameAt 22 = .ok (.iload_n 3, 1) := by decide +kernel
theorem dX8_nameAt_23 : decode cX8_nameAt 23 = .ok (.aload_n 0, 1) := by decide +kernel
theorem dX8_nameAt_24 : decode cX8_nameAt 24 = .ok (.iload_n 1, 1) := by decide +kernel
theorem dX8_nameAt_25 : decode cX8_nameAt 25 = .ok (.iload_n 2, 1) := by decide +kernel
theorem dX8_nameAt_26 : decode cX8_nameAt 26 = .ok (.invokestatic 78, 3) := by decide +kernel
theorem dX8_nameAt_29 : decode cX8_nameAt 29 = .ok (.ifCond .eq 5, 3) := by decide +kernel
theorem dX8_nameAt_32 : decode cX8_nameAt 32 = .ok (.iload_n 3, 1) := by decide +kernel
theorem dX8_nameAt_33 : decode cX8_nameAt 33 = .ok (.ireturn, 1) := by decide +kernel
theorem dX8_nameAt_34 : decode cX8_nameAt 34 = .ok (.iinc 3 1, 3) := by decide +kernel
theorem dX8_nameAt_37 : decode cX8_nameAt 37 = .ok (.goto (-27), 3) := by decide +kernel
theorem dX8_nameAt_40 : decode cX8_nameAt 40 = .ok (.bipush 25, 2) := by decide +kernel
theorem dX8_nameAt_42 : decode cX8_nameAt 42 = .ok (.ireturn, 1) := by decide +kernel
theorem dX8_isName_0 : decode cX8_isName 0 = .ok (.iconst 0, 1) := by decide +kernel
theorem dX8_isName_1 : decode cX8_isName 1 = .ok (.istore 4, 2) := by decide +kernel
theorem dX8_isName_3 : decode cX8_isName 3 = .ok (.iload 4, 2) := by decide +kernel
theorem dX8_isName_5 : decode cX8_isName 5 = .ok (.bipush 8, 2) := by decide +kernel
theorem dX8_isName_7 : decode cX8_isName 7 = .ok (.if_icmp .ge 52, 3) := by decide +kernel
theorem dX8_isName_10 : decode cX8_isName 10 = .ok (.iload_n 2, 1) := by decide +kernel
theorem dX8_isName_11 : decode cX8_isName 11 = .ok (.iload 4, 2) := by decide +kernel
theorem dX8_isName_13 : decode cX8_isName 13 = .ok (.iadd, 1) := by decide +kernel
theorem dX8_isName_14 : decode cX8_isName 14 = .ok (.iload_n 3, 1) := by decide +kernel
theorem dX8_isName_15 : decode cX8_isName 15 = .ok (.if_icmp .ge 15, 3) := by decide +kernel
theorem dX8_isName_18 : decode cX8_isName 18 = .ok (.aload_n 1, 1) := by decide +kernel
theorem dX8_isName_19 : decode cX8_isName 19 = .ok (.getfield 41, 3) := by decide +kernel
theorem dX8_isName_22 : decode cX8_isName 22 = .ok (.iload_n 2, 1) := by decide +kernel
theorem dX8_isName_23 : decode cX8_isName 23 = .ok (.iload 4, 2) := by decide +kernel
theorem dX8_isName_25 : decode cX8_isName 25 = .ok (.iadd, 1) := by decide +kernel
theorem dX8_isName_26 : decode cX8_isName 26 = .ok (.baload, 1) := by decide +kernel
theorem dX8_isName_27 : decode cX8_isName 27 = .ok (.goto 5, 3) := by decide +kernel
theorem dX8_isName_30 : decode cX8_isName 30 = .ok (.bipush 32, 2) := by decide +kernel
theorem dX8_isName_32 : decode cX8_isName 32 = .ok (.istore 5, 2) := by decide +kernel
theorem dX8_isName_34 : decode cX8_isName 34 = .ok (.ldc 72, 2) := by decide +kernel
theorem dX8_isName_36 : decode cX8_isName 36 = .ok (.iload_n 0, 1) := by decide +kernel
theorem dX8_isName_37 : decode cX8_isName 37 = .ok (.bipush 8, 2) := by decide +kernel
theorem dX8_isName_39 : decode cX8_isName 39 = .ok (.imul, 1) := by decide +kernel
theorem dX8_isName_40 : decode cX8_isName 40 = .ok (.iload 4, 2) := by decide +kernel
theorem dX8_isName_42 : decode cX8_isName 42 = .ok (.iadd, 1) := by decide +kernel
theorem dX8_isName_43 : decode cX8_isName 43 = .ok (.invokevirtual 82, 3) := by decide +kernel
theorem dX8_isName_46 : decode cX8_isName 46 = .ok (.iload 5, 2) := by decide +kernel
theorem dX8_isName_48 : decode cX8_isName 48 = .ok (.if_icmp .eq 5, 3) := by decide +kernel
theorem dX8_isName_51 : decode cX8_isName 51 = .ok (.iconst 0, 1) := by decide +kernel
theorem dX8_isName_52 : decode cX8_isName 52 = .ok (.ireturn, 1) := by decide +kernel
theorem dX8_isName_53 : decode cX8_isName 53 = .ok (.iinc 4 1, 3) := by decide +kernel
theorem dX8_isName_56 : decode cX8_isName 56 = .ok (.goto (-53), 3) := by decide +kernel
theorem dX8_isName_59 : decode cX8_isName 59 = .ok (.iconst 1, 1) := by decide +kernel
theorem dX8_isName_60 : decode cX8_isName 60 = .ok (.ireturn, 1) := by decide +kernel
theorem dX8_numberAt_0 : decode cX8_numberAt 0 = .ok (.iload_n 2, 1) := by decide +kernel
theorem dX8_numberAt_1 : decode cX8_numberAt 1 = .ok (.iload_n 1, 1) := by decide +kernel
theorem dX8_numberAt_2 : decode cX8_numberAt 2 = .ok (.isub, 1) := by decide +kernel
theorem dX8_numberAt_3 : decode cX8_numberAt 3 = .ok (.iconst 4, 1) := by decide +kernel
theorem dX8_numberAt_4 : decode cX8_numberAt 4 = .ok (.if_icmp .le 6, 3) := by decide +kernel
theorem dX8_numberAt_7 : decode cX8_numberAt 7 = .ok (.bipush 25, 2) := by decide +kernel
theorem dX8_numberAt_9 : decode cX8_numberAt 9 = .ok (.ireturn, 1) := by decide +kernel
theorem dX8_numberAt_10 : decode cX8_numberAt 10 = .ok (.iconst 0, 1) := by decide +kernel
theorem dX8_numberAt_11 : decode cX8_numberAt 11 = .ok (.istore_n 3, 1) := by decide +kernel
theorem dX8_numberAt_12 : decode cX8_numberAt 12 = .ok (.iload_n 1, 1) := by decide +kernel
theorem dX8_numberAt_13 : decode cX8_numberAt 13 = .ok (.istore 4, 2) := by decide +kernel
theorem dX8_numberAt_15 : decode cX8_numberAt 15 = .ok (.iload 4, 2) := by decide +kernel
theorem dX8_numberAt_17 : decode cX8_numberAt 17 = .ok (.iload_n 2, 1) := by decide +kernel
theorem dX8_numberAt_18 : decode cX8_numberAt 18 = .ok (.if_icmp .ge 25, 3) := by decide +kernel
theorem dX8_numberAt_21 : decode cX8_numberAt 21 = .ok (.iload_n 3, 1) := by decide +kernel
theorem dX8_numberAt_22 : decode cX8_numberAt 22 = .ok (.bipush 10, 2) := by decide +kernel
theorem dX8_numberAt_24 : decode cX8_numberAt 24 = .ok (.imul, 1) := by decide +kernel
theorem dX8_numberAt_25 : decode cX8_numberAt 25 = .ok (.aload_n 0, 1) := by decide +kernel
theorem dX8_numberAt_26 : decode cX8_numberAt 26 = .ok (.getfield 41, 3) := by decide +kernel
theorem dX8_numberAt_29 : decode cX8_numberAt 29 = .ok (.iload 4, 2) := by decide +kernel
theorem dX8_numberAt_31 : decode cX8_numberAt 31 = .ok (.baload, 1) := by decide +kernel
theorem dX8_numberAt_32 : decode cX8_numberAt 32 = .ok (.iadd, 1) := by decide +kernel
theorem dX8_numberAt_33 : decode cX8_numberAt 33 = .ok (.bipush 48, 2) := by decide +kernel
theorem dX8_numberAt_35 : decode cX8_numberAt 35 = .ok (.isub, 1) := by decide +kernel
theorem dX8_numberAt_36 : decode cX8_numberAt 36 = .ok (.istore_n 3, 1) := by decide +kernel
theorem dX8_numberAt_37 : decode cX8_numberAt 37 = .ok (.iinc 4 1, 3) := by decide +kernel
theorem dX8_numberAt_40 : decode cX8_numberAt 40 = .ok (.goto (-25), 3) := by decide +kernel
theorem dX8_numberAt_43 : decode cX8_numberAt 43 = .ok (.bipush 26, 2) := by decide +kernel
theorem dX8_numberAt_45 : decode cX8_numberAt 45 = .ok (.iload_n 3, 1) := by decide +kernel
theorem dX8_numberAt_46 : decode cX8_numberAt 46 = .ok (.iadd, 1) := by decide +kernel
theorem dX8_numberAt_47 : decode cX8_numberAt 47 = .ok (.ireturn, 1) := by decide +kernel
theorem dX8_addToken_0 : decode cX8_addToken 0 = .ok (.aload_n 0, 1) := by decide +kernel
theorem dX8_addToken_1 : decode cX8_addToken 1 = .ok (.getfield 9, 3) := by decide +kernel
theorem dX8_addToken_4 : decode cX8_addToken 4 = .ok (.aload_n 0, 1) := by decide +kernel
theorem dX8_addToken_5 : decode cX8_addToken 5 = .ok (.getfield 21, 3) := by decide +kernel
theorem dX8_addToken_8 : decode cX8_addToken 8 = .ok (.arraylength, 1) := by decide +kernel
theorem dX8_addToken_9 : decode cX8_addToken 9 = .ok (.if_icmp .ge 33, 3) := by decide +kernel
theorem dX8_addToken_12 : decode cX8_addToken 12 = .ok (.aload_n 0, 1) := by decide +kernel
theorem dX8_addToken_13 : decode cX8_addToken 13 = .ok (.getfield 21, 3) := by decide +kernel
theorem dX8_addToken_16 : decode cX8_addToken 16 = .ok (.aload_n 0, 1) := by decide +kernel
theorem dX8_addToken_17 : decode cX8_addToken 17 = .ok (.getfield 9, 3) := by decide +kernel
theorem dX8_addToken_20 : decode cX8_addToken 20 = .ok (.iload_n 1, 1) := by decide +kernel
theorem dX8_addToken_21 : decode cX8_addToken 21 = .ok (.iastore, 1) := by decide +kernel
theorem dX8_addToken_22 : decode cX8_addToken 22 = .ok (.aload_n 0, 1) := by decide +kernel
theorem dX8_addToken_23 : decode cX8_addToken 23 = .ok (.getfield 25, 3) := by decide +kernel
theorem dX8_addToken_26 : decode cX8_addToken 26 = .ok (.aload_n 0, 1) := by decide +kernel
theorem dX8_addToken_27 : decode cX8_addToken 27 = .ok (.getfield 9, 3) := by decide +kernel
theorem dX8_addToken_30 : decode cX8_addToken 30 = .ok (.iload_n 2, 1) := by decide +kernel
theorem dX8_addToken_31 : decode cX8_addToken 31 = .ok (.iastore, 1) := by decide +kernel
theorem dX8_addToken_32 : decode cX8_addToken 32 = .ok (.aload_n 0, 1) := by decide +kernel
theorem dX8_addToken_33 : decode cX8_addToken 33 = .ok (.dup, 1) := by decide +kernel
theorem dX8_addToken_34 : decode cX8_addToken 34 = .ok (.getfield 9, 3) := by decide +kernel
theorem dX8_addToken_37 : decode cX8_addToken 37 = .ok (.iconst 1, 1) := by decide +kernel
theorem dX8_addToken_38 : decode cX8_addToken 38 = .ok (.iadd, 1) := by decide +kernel
theorem dX8_addToken_39 : decode cX8_addToken 39 = .ok (.putfield 9, 3) := by decide +kernel
theorem dX8_addToken_42 : decode cX8_addToken 42 = .ok (.return_, 1) := by decide +kernel
theorem dX9_init_0 : decode cX9_init 0 = .ok (.aload_n 0, 1) := by decide +kernel
theorem dX9_init_1 : decode cX9_init 1 = .ok (.invokespecial 1, 3) := by decide +kernel
theorem dX9_init_4 : decode cX9_init 4 = .ok (.aload_n 0, 1) := by decide +kernel
theorem dX9_init_5 : decode cX9_init 5 = .ok (.iconst 4, 1) := by decide +kernel
theorem dX9_init_6 : decode cX9_init 6 = .ok (.anewarray 9, 3) := by decide +kernel
theorem dX9_init_9 : decode cX9_init 9 = .ok (.putfield 11, 3) := by decide +kernel
theorem dX9_init_12 : decode cX9_init 12 = .ok (.aload_n 0, 1) := by decide +kernel
theorem dX9_init_13 : decode cX9_init 13 = .ok (.iconst 1, 1) := by decide +kernel
theorem dX9_init_14 : decode cX9_init 14 = .ok (.putfield 15, 3) := by decide +kernel
theorem dX9_init_17 : decode cX9_init 17 = .ok (.aload_n 0, 1) := by decide +kernel
theorem dX9_init_18 : decode cX9_init 18 = .ok (.iconst 0, 1) := by decide +kernel
theorem dX9_init_19 : decode cX9_init 19 = .ok (.putfield 19, 3) := by decide +kernel
theorem dX9_init_22 : decode cX9_init 22 = .ok (.aload_n 0, 1) := by decide +kernel
theorem dX9_init_23 : decode cX9_init 23 = .ok (.iconst 4, 1) := by decide +kernel
theorem dX9_init_24 : decode cX9_init 24 = .ok (.anewarray 22, 3) := by decide +kernel
theorem dX9_init_27 : decode cX9_init 27 = .ok (.putfield 24, 3) := by decide +kernel
theorem dX9_init_30 : decode cX9_init 30 = .ok (.aload_n 0, 1) := by decide +kernel
theorem dX9_init_31 : decode cX9_init 31 = .ok (.iconst 0, 1) := by decide +kernel
theorem dX9_init_32 : decode cX9_init 32 = .ok (.putfield 28, 3) := by decide +kernel
theorem dX9_init_35 : decode cX9_init 35 = .ok (.aload_n 0, 1) := by decide +kernel
theorem dX9_init_36 : decode cX9_init 36 = .ok (.bipush 6, 2) := by decide +kernel
theorem dX9_init_38 : decode cX9_init 38 = .ok (.putfield 31, 3) := by decide +kernel
theorem dX9_init_41 : decode cX9_init 41 = .ok (.aload_n 0, 1) := by decide +kernel
theorem dX9_init_42 : decode cX9_init 42 = .ok (.iconst 1, 1) := by decide +kernel
theorem dX9_init_43 : decode cX9_init 43 = .ok (.putfield 34, 3) := by decide +kernel
theorem dX9_init_46 : decode cX9_init 46 = .ok (.aload_n 0, 1) := by decide +kernel
theorem dX9_init_47 : decode cX9_init 47 = .ok (.iconst 1, 1) := by decide +kernel
theorem dX9_init_48 : decode cX9_init 48 = .ok (.putfield 37, 3) := by decide +kernel
theorem dX9_init_51 : decode cX9_init 51 = .ok (.aload_n 0, 1) := by decide +kernel
theorem dX9_init_52 : decode cX9_init 52 = .ok (.new 40, 3) := by decide +kernel
theorem dX9_init_55 : decode cX9_init 55 = .ok (.dup, 1) := by decide +kernel
theorem dX9_init_56 : decode cX9_init 56 = .ok (.invokespecial 42, 3) := by decide +kernel
theorem dX9_init_59 : decode cX9_init 59 = .ok (.putfield 43, 3) := by decide +kernel
theorem dX9_init_62 : decode cX9_init 62 = .ok (.aload_n 0, 1) := by decide +kernel
theorem dX9_init_63 : decode cX9_init 63 = .ok (.new 47, 3) := by decide +kernel
theorem dX9_init_66 : decode cX9_init 66 = .ok (.dup, 1) := by decide +kernel
theorem dX9_init_67 : decode cX9_init 67 = .ok (.invokespecial 49, 3) := by decide +kernel
theorem dX9_init_70 : decode cX9_init 70 = .ok (.putfield 50, 3) := by decide +kernel
theorem dX9_init_73 : decode cX9_init 73 = .ok (.aload_n 0, 1) := by decide +kernel
theorem dX9_init_74 : decode cX9_init 74 = .ok (.new 54, 3) := by decide +kernel
theorem dX9_init_77 : decode cX9_init 77 = .ok (.dup, 1) := by decide +kernel
theorem dX9_init_78 : decode cX9_init 78 = .ok (.invokespecial 56, 3) := by decide +kernel
theorem dX9_init_81 : decode cX9_init 81 = .ok (.putfield 57, 3) := by decide +kernel
theorem dX9_init_84 : decode cX9_init 84 = .ok (.aload_n 0, 1) := by decide +kernel
theorem dX9_init_85 : decode cX9_init 85 = .ok (.new 54, 3) := by decide +kernel
theorem dX9_init_88 : decode cX9_init 88 = .ok (.dup, 1) := by decide +kernel
theorem dX9_init_89 : decode cX9_init 89 = .ok (.invokespecial 56, 3) := by decide +kernel
theorem dX9_init_92 : decode cX9_init 92 = .ok (.putfield 61, 3) := by decide +kernel
theorem dX9_init_95 : decode cX9_init 95 = .ok (.iconst 0, 1) := by decide +kernel
theorem dX9_init_96 : decode cX9_init 96 = .ok (.istore_n 1, 1) := by decide +kernel
theorem dX9_init_97 : decode cX9_init 97 = .ok (.iload_n 1, 1) := by decide +kernel
theorem dX9_init_98 : decode cX9_init 98 = .ok (.iconst 4, 1) := by decide +kernel
theorem dX9_init_99 : decode cX9_init 99 = .ok (.if_icmp .ge 22, 3) := by decide +kernel
theorem dX9_init_102 : decode cX9_init 102 = .ok (.aload_n 0, 1) := by decide +kernel
theorem dX9_init_103 : decode cX9_init 103 = .ok (.getfield 11, 3) := by decide +kernel
theorem dX9_init_106 : decode cX9_init 106 = .ok (.iload_n 1, 1) := by decide +kernel
theorem dX9_init_107 : decode cX9_init 107 = .ok (.new 9, 3) := by decide +kernel
theorem dX9_init_110 : decode cX9_init 110 = .ok (.dup, 1) := by decide +kernel
theorem dX9_init_111 : decode cX9_init 111 = .ok (.invokespecial 64, 3) := by decide +kernel
theorem dX9_init_114 : decode cX9_init 114 = .ok (.aastore, 1) := by decide +kernel
theorem dX9_init_115 : decode cX9_init 115 = .ok (.iinc 1 1, 3) := by decide +kernel
theorem dX9_init_118 : decode cX9_init 118 = .ok (.goto (-21), 3) := by decide +kernel
theorem dX9_init_121 : decode cX9_init 121 = .ok (.iconst 0, 1) := by decide +kernel
theorem dX9_init_122 : decode cX9_init 122 = .ok (.istore_n 1, 1) := by decide +kernel
theorem dX9_init_123 : decode cX9_init 123 = .ok (.iload_n 1, 1) := by decide +kernel
theorem dX9_init_124 : decode cX9_init 124 = .ok (.iconst 4, 1) := by decide +kernel
theorem dX9_init_125 : decode cX9_init 125 = .ok (.if_icmp .ge 22, 3) := by decide +kernel
theorem dX9_init_128 : decode cX9_init 128 = .ok (.aload_n 0, 1) := by decide +kernel
theorem dX9_init_129 : decode cX9_init 129 = .ok (.getfield 24, 3) := by decide +kernel
theorem dX9_init_132 : decode cX9_init 132 = .ok (.iload_n 1, 1) := by decide +kernel
theorem dX9_init_133 : decode cX9_init 133 = .ok (.new 22, 3) := by decide +kernel
theorem dX9_init_136 : decode cX9_init 136 = .ok (.dup, 1) := by decide +kernel
theorem dX9_init_137 : decode cX9_init 137 = .ok (.invokespecial 65, 3) := by decide +kernel
theorem dX9_init_140 : decode cX9_init 140 = .ok (.aastore, 1) := by decide +kernel
theorem dX9_init_141 : decode cX9_init 141 = .ok (.iinc 1 1, 3) := by decide +kernel
theorem dX9_init_144 : decode cX9_init 144 = .ok (.goto (-21), 3) := by decide +kernel
theorem dX9_init_147 : decode cX9_init 147 = .ok (.return_, 1) := by decide +kernel
theorem dX9_word_0 : decode cX9_word 0 = .ok (.aload_n 0, 1) := by decide +kernel
theorem dX9_word_1 : decode cX9_word 1 = .ok (.getfield 11, 3) := by decide +kernel
theorem dX9_word_4 : decode cX9_word 4 = .ok (.aload_n 0, 1) := by decide +kernel
theorem dX9_word_5 : decode cX9_word 5 = .ok (.getfield 19, 3) := by decide +kernel
theorem dX9_word_8 : decode cX9_word 8 = .ok (.aaload, 1) := by decide +kernel
theorem dX9_word_9 : decode cX9_word 9 = .ok (.astore 6, 2) := by decide +kernel
theorem dX9_word_11 : decode cX9_word 11 = .ok (.aload 6, 2) := by decide +kernel
theorem dX9_word_13 : decode cX9_word 13 = .ok (.getfield 66, 3) := by decide +kernel
theorem dX9_word_16 : decode cX9_word 16 = .ok (.bipush 16, 2) := by decide +kernel
theorem dX9_word_18 : decode cX9_word 18 = .ok (.if_icmp .ge 12, 3) := by decide +kernel
theorem dX9_word_21 : decode cX9_word 21 = .ok (.iload_n 1, 1) := by decide +kernel
theorem dX9_word_22 : decode cX9_word 22 = .ok (.iload_n 2, 1) := by decide +kernel
theorem dX9_word_23 : decode cX9_word 23 = .ok (.iload_n 3, 1) := by decide +kernel
theorem dX9_word_24 : decode cX9_word 24 = .ok (.invokestatic 69, 3) := by decide +kernel
theorem dX9_word_27 : decode cX9_word 27 = .ok (.ifCond .ne 5, 3) := by decide +kernel
theorem dX9_word_30 : decode cX9_word 30 = .ok (.iconst (-1), 1) := by decide +kernel
theorem dX9_word_31 : decode cX9_word 31 = .ok (.ireturn, 1) := by decide +kernel
theorem dX9_word_32 : decode cX9_word 32 = .ok (.aload 6, 2) := by decide +kernel
theorem dX9_word_34 : decode cX9_word 34 = .ok (.dup, 1) := by decide +kernel
theorem dX9_word_35 : decode cX9_word 35 = .ok (.getfield 66, 3) := by decide +kernel
theorem dX9_word_38 : decode cX9_word 38 = .ok (.iconst 1, 1) := by decide +kernel
theorem dX9_word_39 : decode cX9_word 39 = .ok (.iadd, 1) := by decide +kernel
theorem dX9_word_40 : decode cX9_word 40 = .ok (.putfield 66, 3) := by decide +kernel
theorem dX9_word_43 : decode cX9_word 43 = .ok (.aload 6, 2) := by decide +kernel
theorem dX9_word_45 : decode cX9_word 45 = .ok (.aload 6, 2) := by decide +kernel
theorem dX9_word_47 : decode cX9_word 47 = .ok (.getfield 66, 3) := by decide +kernel
theorem dX9_word_50 : decode cX9_word 50 = .ok (.iconst 1, 1) := by decide +kernel
theorem dX9_word_51 : decode cX9_word 51 = .ok (.isub, 1) := by decide +kernel
theorem dX9_word_52 : decode cX9_word 52 = .ok (.iload_n 1, 1) := by decide +kernel
theorem dX9_word_53 : decode cX9_word 53 = .ok (.iload_n 2, 1) := by decide +kernel
theorem dX9_word_54 : decode cX9_word 54 = .ok (.iload_n 3, 1) := by decide +kernel
theorem dX9_word_55 : decode cX9_word 55 = .ok (.iload 4, 2) := by decide +kernel
theorem dX9_word_57 : decode cX9_word 57 = .ok (.iload 5, 2) := by decide +kernel
theorem dX9_word_59 : decode cX9_word 59 = .ok (.invokevirtual 73, 3) := by decide +kernel
theorem dX9_word_62 : decode cX9_word 62 = .ok (.aload_n 0, 1) := by decide +kernel
theorem dX9_word_63 : decode cX9_word 63 = .ok (.invokevirtual 77, 3) := by decide +kernel
theorem dX9_word_66 : decode cX9_word 66 = .ok (.aload 6, 2) := by decide +kernel
theorem dX9_word_68 : decode cX9_word 68 = .ok (.getfield 66, 3) := by decide +kernel
theorem dX9_word_71 : decode cX9_word 71 = .ok (.ireturn, 1) := by decide +kernel
theorem dX9_change_0 : decode cX9_change 0 = .ok (.aload_n 0, 1) := by decide +kernel
theorem dX9_change_1 : decode cX9_change 1 = .ok (.getfield 11, 3) := by decide +kernel
theorem dX9_change_4 : decode cX9_change 4 = .ok (.aload_n 0, 1) := by decide +kernel
theorem dX9_change_5 : decode cX9_change 5 = .ok (.getfield 19, 3) := by decide +kernel
theorem dX9_change_8 : decode cX9_change 8 = .ok (.aaload, 1) := by decide +kernel
theorem dX9_change_9 : decode cX9_change 9 = .ok (.astore 7, 2) := by decide +kernel
theorem dX9_change_11 : decode cX9_change 11 = .ok (.iload_n 1, 1) := by decide +kernel
theorem dX9_change_12 : decode cX9_change 12 = .ok (.ifCond .lt 22, 3) := by decide +kernel
theorem dX9_change_15 : decode cX9_change 15 = .ok (.iload_n 1, 1) := by decide +kernel
theorem dX9_change_16 : decode cX9_change 16 = .ok (.aload 7, 2) := by decide +kernel
theorem dX9_change_18 : decode cX9_change 18 = .ok (.getfield 66, 3) := by decide +kernel
theorem dX9_change_21 : decode cX9_change 21 = .ok (.if_icmp .ge 13, 3) := by decide +kernel
theorem dX9_change_24 : decode cX9_change 24 = .ok (.iload_n 2, 1) := by decide +kernel
theorem dX9_change_25 : decode cX9_change 25 = .ok (.iload_n 3, 1) := by decide +kernel
theorem dX9_change_26 : decode cX9_change 26 = .ok (.iload 4, 2) := by decide +kernel
theorem dX9_change_28 : decode cX9_change 28 = .ok (.invokestatic 69, 3) := by decide +kernel
theorem dX9_change_31 : decode cX9_change 31 = .ok (.ifCond .ne 5, 3) := by decide +kernel
theorem dX9_change_34 : decode cX9_change 34 = .ok (.iconst 0, 1) := by decide +kernel
theorem dX9_change_35 : decode cX9_change 35 = .ok (.ireturn, 1) := by decide +kernel
theorem dX9_change_36 : decode cX9_change 36 = .ok (.aload 7, 2) := by decide +kernel
theorem dX9_change_38 : decode cX9_change 38 = .ok (.getfield 80, 3) := by decide +kernel
theorem dX9_change_41 : decode cX9_change 41 = .ok (.iload_n 1, 1) := by decide +kernel
theorem dX9_change_42 : decode cX9_change 42 = .ok (.iaload, 1) := by decide +kernel
theorem dX9_change_43 : decode cX9_change 43 = .ok (.iload_n 2, 1) := by decide +kernel
theorem dX9_change_44 : decode cX9_change 44 = .ok (.if_icmp .eq 8, 3) := by decide +kernel
theorem dX9_change_47 : decode cX9_change 47 = .ok (.aload 7, 2) := by decide +kernel
theorem dX9_change_49 : decode cX9_change 49 = .ok (.invokevirtual 84, 3) := by decide +kernel
theorem dX9_change_52 : decode cX9_change 52 = .ok (.aload 7, 2) := by decide +kernel
theorem dX9_change_54 : decode cX9_change 54 = .ok (.iload_n 1, 1) := by decide +kernel
theorem dX9_change_55 : decode cX9_change 55 = .ok (.iload_n 2, 1) := by decide +kernel
theorem dX9_change_56 : decode cX9_change 56 = .ok (.iload_n 3, 1) := by decide +kernel
theorem dX9_change_57 : decode cX9_change 57 = .ok (.iload 4, 2) := by decide +kernel
theorem dX9_change_59 : decode cX9_change 59 = .ok (.iload 5, 2) := by decide +kernel
theorem dX9_change_61 : decode cX9_change 61 = .ok (.iload 6, 2) := by decide +kernel
theorem dX9_change_63 : decode cX9_change 63 = .ok (.invokevirtual 73, 3) := by decide +kernel
theorem dX9_change_66 : decode cX9_change 66 = .ok (.aload_n 0, 1) := by decide +kernel
theorem dX9_change_67 : decode cX9_change 67 = .ok (.invokevirtual 77, 3) := by decide +kernel
theorem dX9_change_70 : decode cX9_change 70 = .ok (.iconst 1, 1) := by decide +kernel
theorem dX9_change_71 : decode cX9_change 71 = .ok (.ireturn, 1) := by decide +kernel
theorem dX9_reading_0 : decode cX9_reading 0 = .ok (.aload_n 0, 1) := by decide +kernel
theorem dX9_reading_1 : decode cX9_reading 1 = .ok (.getfield 15, 3) := by decide +kernel
theorem dX9_reading_4 : decode cX9_reading 4 = .ok (.iconst 4, 1) := by decide +kernel
theorem dX9_reading_5 : decode cX9_reading 5 = .ok (.if_icmp .lt 5, 3) := by decide +kernel
theorem dX9_reading_8 : decode cX9_reading 8 = .ok (.iconst (-1), 1) := by decide +kernel
theorem dX9_reading_9 : decode cX9_reading 9 = .ok (.ireturn, 1) := by decide +kernel
theorem dX9_reading_10 : decode cX9_reading 10 = .ok (.aload_n 0, 1) := by decide +kernel
theorem dX9_reading_11 : decode cX9_reading 11 = .ok (.getfield 11, 3) := by decide +kernel
theorem dX9_reading_14 : decode cX9_reading 14 = .ok (.aload_n 0, 1) := by decide +kernel
theorem dX9_reading_15 : decode cX9_reading 15 = .ok (.getfield 15, 3) := by decide +kernel
theorem dX9_reading_18 : decode cX9_reading 18 = .ok (.aaload, 1) := by decide +kernel
theorem dX9_reading_19 : decode cX9_reading 19 = .ok (.aload_n 0, 1) := by decide +kernel
theorem dX9_reading_20 : decode cX9_reading 20 = .ok (.getfield 11, 3) := by decide +kernel
theorem dX9_reading_23 : decode cX9_reading 23 = .ok (.aload_n 0, 1) := by decide +kernel
theorem dX9_reading_24 : decode cX9_reading 24 = .ok (.getfield 19, 3) := by decide +kernel
theorem dX9_reading_27 : decode cX9_reading 27 = .ok (.aaload, 1) := by decide +kernel
theorem dX9_reading_28 : decode cX9_reading 28 = .ok (.invokevirtual 87, 3) := by decide +kernel
theorem dX9_reading_31 : decode cX9_reading 31 = .ok (.aload_n 0, 1) := by decide +kernel
theorem dX9_reading_32 : decode cX9_reading 32 = .ok (.aload_n 0, 1) := by decide +kernel
theorem dX9_reading_33 : decode cX9_reading 33 = .ok (.getfield 15, 3) := by decide +kernel
theorem dX9_reading_36 : decode cX9_reading 36 = .ok (.putfield 19, 3) := by decide +kernel
theorem dX9_reading_39 : decode cX9_reading 39 = .ok (.aload_n 0, 1) := by decide +kernel
theorem dX9_reading_40 : decode cX9_reading 40 = .ok (.dup, 1) := by decide +kernel
theorem dX9_reading_41 : decode cX9_reading 41 = .ok (.getfield 15, 3) := by decide +kernel
theorem dX9_reading_44 : decode cX9_reading 44 = .ok (.iconst 1, 1) := by decide +kernel
theorem dX9_reading_45 : decode cX9_reading 45 = .ok (.iadd, 1) := by decide +kernel
theorem dX9_reading_46 : decode cX9_reading 46 = .ok (.putfield 15, 3) := by decide +kernel
theorem dX9_reading_49 : decode cX9_reading 49 = .ok (.aload_n 0, 1) := by decide +kernel
theorem dX9_reading_50 : decode cX9_reading 50 = .ok (.getfield 19, 3) := by decide +kernel
theorem dX9_reading_53 : decode cX9_reading 53 = .ok (.ireturn, 1) := by decide +kernel
theorem dX9_take_0 : decode cX9_take 0 = .ok (.aload_n 0, 1) := by decide +kernel
theorem dX9_take_1 : decode cX9_take 1 = .ok (.iload_n 1, 1) := by decide +kernel
theorem dX9_take_2 : decode cX9_take 2 = .ok (.invokevirtual 91, 3) := by decide +kernel
theorem dX9_take_5 : decode cX9_take 5 = .ok (.ifCond .ne 5, 3) := by decide +kernel
theorem dX9_take_8 : decode cX9_take 8 = .ok (.iconst 0, 1) := by decide +kernel
theorem dX9_take_9 : decode cX9_take 9 = .ok (.ireturn, 1) := by decide +kernel
theorem dX9_take_10 : decode cX9_take 10 = .ok (.aload_n 0, 1) := by decide +kernel
theorem dX9_take_11 : decode cX9_take 11 = .ok (.iload_n 1, 1) := by decide +kernel
theorem dX9_take_12 : decode cX9_take 12 = .ok (.putfield 19, 3) := by decide +kernel
theorem dX9_take_15 : decode cX9_take 15 = .ok (.iconst 1, 1) := by decide +kernel
theorem dX9_take_16 : decode cX9_take 16 = .ok (.ireturn, 1) := by decide +kernel
theorem dX9_tune_0 : decode cX9_tune 0 = .ok (.iload_n 1, 1) := by decide +kernel
theorem dX9_tune_1 : decode cX9_tune 1 = .ok (.iconst 0, 1) := by decide +kernel
theorem dX9_tune_2 : decode cX9_tune 2 = .ok (.iconst 3, 1) := by decide +kernel
theorem dX9_tune_3 : decode cX9_tune 3 = .ok (.invokestatic 95, 3) := by decide +kernel
theorem dX9_tune_6 : decode cX9_tune 6 = .ok (.ifCond .ne 5, 3) := by decide +kernel
theorem dX9_tune_9 : decode cX9_tune 9 = .ok (.iconst 0, 1) := by decide +kernel
theorem dX9_tune_10 : decode cX9_tune 10 = .ok (.ireturn, 1) := by decide +kernel
theorem dX9_tune_11 : decode cX9_tune 11 = .ok (.aload_n 0, 1) := by decide +kernel
theorem dX9_tune_12 : decode cX9_tune 12 = .ok (.getfield 11, 3) := by decide +kernel
theorem dX9_tune_15 : decode cX9_tune 15 = .ok (.aload_n 0, 1) := by decide +kernel
theorem dX9_tune_16 : decode cX9_tune 16 = .ok (.getfield 19, 3) := by decide +kernel
theorem dX9_tune_19 : decode cX9_tune 19 = .ok (.aaload, 1) := by decide +kernel
theorem dX9_tune_20 : decode cX9_tune 20 = .ok (.iload_n 1, 1) := by decide +kernel
theorem dX9_tune_21 : decode cX9_tune 21 = .ok (.putfield 98, 3) := by decide +kernel
theorem dX9_tune_24 : decode cX9_tune 24 = .ok (.aload_n 0, 1) := by decide +kernel
theorem dX9_tune_25 : decode cX9_tune 25 = .ok (.invokevirtual 77, 3) := by decide +kernel
theorem dX9_tune_28 : decode cX9_tune 28 = .ok (.iconst 1, 1) := by decide +kernel
theorem dX9_tune_29 : decode cX9_tune 29 = .ok (.ireturn, 1) := by decide +kernel
theorem dX9_ideal_0 : decode cX9_ideal 0 = .ok (.iload_n 1, 1) := by decide +kernel
theorem dX9_ideal_1 : decode cX9_ideal 1 = .ok (.iconst 1, 1) := by decide +kernel
theorem dX9_ideal_2 : decode cX9_ideal 2 = .ok (.bipush 20, 2) := by decide +kernel
theorem dX9_ideal_4 : decode cX9_ideal 4 = .ok (.invokestatic 95, 3) := by decide +kernel
theorem dX9_ideal_7 : decode cX9_ideal 7 = .ok (.ifCond .ne 5, 3) := by decide +kernel
theorem dX9_ideal_10 : decode cX9_ideal 10 = .ok (.iconst 0, 1) := by decide +kernel
theorem dX9_ideal_11 : decode cX9_ideal 11 = .ok (.ireturn, 1) := by decide +kernel
theorem dX9_ideal_12 : decode cX9_ideal 12 = .ok (.aload_n 0, 1) := by decide +kernel
theorem dX9_ideal_13 : decode cX9_ideal 13 = .ok (.iload_n 1, 1) := by decide +kernel
theorem dX9_ideal_14 : decode cX9_ideal 14 = .ok (.putfield 31, 3) := by decide +kernel
theorem dX9_ideal_17 : decode cX9_ideal 17 = .ok (.aload_n 0, 1) := by decide +kernel
theorem dX9_ideal_18 : decode cX9_ideal 18 = .ok (.invokevirtual 77, 3) := by decide +kernel
theorem dX9_ideal_21 : decode cX9_ideal 21 = .ok (.iconst 1, 1) := by decide +kernel
theorem dX9_ideal_22 : decode cX9_ideal 22 = .ok (.ireturn, 1) := by decide +kernel
theorem dX9_manner_0 : decode cX9_manner 0 = .ok (.iload_n 1, 1) := by decide +kernel
theorem dX9_manner_1 : decode cX9_manner 1 = .ok (.ifCond .lt 34, 3) := by decide +kernel
theorem dX9_manner_4 : decode cX9_manner 4 = .ok (.iload_n 1, 1) := by decide +kernel
theorem dX9_manner_5 : decode cX9_manner 5 = .ok (.iconst 4, 1) := by decide +kernel
theorem dX9_manner_6 : decode cX9_manner 6 = .ok (.if_icmp .ge 29, 3) := by decide +kernel
theorem dX9_manner_9 : decode cX9_manner 9 = .ok (.iload_n 2, 1) := by decide +kernel
theorem dX9_manner_10 : decode cX9_manner 10 = .ok (.ifCond .lt 25, 3) := by decide +kernel
theorem dX9_manner_13 : decode cX9_manner 13 = .ok (.iload_n 2, 1) := by decide +kernel
theorem dX9_manner_14 : decode cX9_manner 14 = .ok (.iload_n 3, 1) := by decide +kernel
theorem dX9_manner_15 : decode cX9_manner 15 = .ok (.if_icmp .gt 20, 3) := by decide +kernel
theorem dX9_manner_18 : decode cX9_manner 18 = .ok (.iload_n 3, 1) := by decide +kernel
theorem dX9_manner_19 : decode cX9_manner 19 = .ok (.bipush 99, 2) := by decide +kernel
theorem dX9_manner_21 : decode cX9_manner 21 = .ok (.if_icmp .gt 14, 3) := by decide +kernel
theorem dX9_manner_24 : decode cX9_manner 24 = .ok (.iload 4, 2) := by decide +kernel
theorem dX9_manner_26 : decode cX9_manner 26 = .ok (.iconst 1, 1) := by decide +kernel
theorem dX9_manner_27 : decode cX9_manner 27 = .ok (.bipush 99, 2) := by decide +kernel
theorem dX9_manner_29 : decode cX9_manner 29 = .ok (.invokestatic 95, 3) := by decide +kernel
theorem dX9_manner_32 : decode cX9_manner 32 = .ok (.ifCond .ne 5, 3) := by decide +kernel
theorem dX9_manner_35 : decode cX9_manner 35 = .ok (.iconst 0, 1) := by decide +kernel
theorem dX9_manner_36 : decode cX9_manner 36 = .ok (.ireturn, 1) := by decide +kernel
theorem dX9_manner_37 : decode cX9_manner 37 = .ok (.aload_n 0, 1) := by decide +kernel
theorem dX9_manner_38 : decode cX9_manner 38 = .ok (.iload_n 1, 1) := by decide +kernel
theorem dX9_manner_39 : decode cX9_manner 39 = .ok (.putfield 28, 3) := by decide +kernel
theorem dX9_manner_42 : decode cX9_manner 42 = .ok (.aload_n 0, 1) := by decide +kernel
theorem dX9_manner_43 : decode cX9_manner 43 = .ok (.getfield 24, 3) := by decide +kernel
theorem dX9_manner_46 : decode cX9_manner 46 = .ok (.iload_n 1, 1) := by decide +kernel
theorem dX9_manner_47 : decode cX9_manner 47 = .ok (.aaload, 1) := by decide +kernel
theorem dX9_manner_48 : decode cX9_manner 48 = .ok (.iload_n 2, 1) := by decide +kernel
theorem dX9_manner_49 : decode cX9_manner 49 = .ok (.putfield 101, 3) := by decide +kernel
theorem dX9_manner_52 : decode cX9_manner 52 = .ok (.aload_n 0, 1) := by decide +kernel
theorem dX9_manner_53 : decode cX9_manner 53 = .ok (.getfield 24, 3) := by decide +kernel
theorem dX9_manner_56 : decode cX9_manner 56 = .ok (.iload_n 1, 1) := by decide +kernel
theorem dX9_manner_57 : decode cX9_manner 57 = .ok (.aaload, 1) := by decide +kernel
theorem dX9_manner_58 : decode cX9_manner 58 = .ok (.iload_n 3, 1) := by decide +kernel
theorem dX9_manner_59 : decode cX9_manner 59 = .ok (.putfield 104, 3) := by decide +kernel
theorem dX9_manner_62 : decode cX9_manner 62 = .ok (.aload_n 0, 1) := by decide +kernel
theorem dX9_manner_63 : decode cX9_manner 63 = .ok (.getfield 24, 3) := by decide +kernel
theorem dX9_manner_66 : decode cX9_manner 66 = .ok (.iload_n 1, 1) := by decide +kernel
theorem dX9_manner_67 : decode cX9_manner 67 = .ok (.aaload, 1) := by decide +kernel
theorem dX9_manner_68 : decode cX9_manner 68 = .ok (.iload 4, 2) := by decide +kernel
theorem dX9_manner_70 : decode cX9_manner 70 = .ok (.putfield 107, 3) := by decide +kernel
theorem dX9_manner_73 : decode cX9_manner 73 = .ok (.aload_n 0, 1) := by decide +kernel
theorem dX9_manner_74 : decode cX9_manner 74 = .ok (.invokevirtual 77, 3) := by decide +kernel
theorem dX9_manner_77 : decode cX9_manner 77 = .ok (.iconst 1, 1) := by decide +kernel
theorem dX9_manner_78 : decode cX9_manner 78 = .ok (.ireturn, 1) := by decide +kernel
theorem dX9_feed_0 : decode cX9_feed 0 = .ok (.aload_n 0, 1) := by decide +kernel
theorem dX9_feed_1 : decode cX9_feed 1 = .ok (.getfield 43, 3) := by decide +kernel
theorem dX9_feed_4 : decode cX9_feed 4 = .ok (.lload_n 1, 1) := by decide +kernel
theorem dX9_feed_5 : decode cX9_feed 5 = .ok (.invokevirtual 110, 3) := by decide +kernel
theorem dX9_feed_8 : decode cX9_feed 8 = .ok (.aload_n 0, 1) := by decide +kernel
theorem dX9_feed_9 : decode cX9_feed 9 = .ok (.getfield 43, 3) := by decide +kernel
theorem dX9_feed_12 : decode cX9_feed 12 = .ok (.lload_n 3, 1) := by decide +kernel
theorem dX9_feed_13 : decode cX9_feed 13 = .ok (.invokevirtual 110, 3) := by decide +kernel
theorem dX9_feed_16 : decode cX9_feed 16 = .ok (.aload_n 0, 1) := by decide +kernel
theorem dX9_feed_17 : decode cX9_feed 17 = .ok (.getfield 43, 3) := by decide +kernel
theorem dX9_feed_20 : decode cX9_feed 20 = .ok (.lload 5, 2) := by decide +kernel
theorem dX9_feed_22 : decode cX9_feed 22 = .ok (.invokevirtual 110, 3) := by decide +kernel
theorem dX9_feed_25 : decode cX9_feed 25 = .ok (.aload_n 0, 1) := by decide +kernel
theorem dX9_feed_26 : decode cX9_feed 26 = .ok (.getfield 43, 3) := by decide +kernel
theorem dX9_feed_29 : decode cX9_feed 29 = .ok (.getfield 114, 3) := by decide +kernel
theorem dX9_feed_32 : decode cX9_feed 32 = .ok (.ireturn, 1) := by decide +kernel
theorem dX9_rules_0 : decode cX9_rules 0 = .ok (.new 117, 3) := by decide +kernel
theorem dX9_rules_3 : decode cX9_rules 3 = .ok (.dup, 1) := by decide +kernel
theorem dX9_rules_4 : decode cX9_rules 4 = .ok (.aload_n 0, 1) := by decide +kernel
theorem dX9_rules_5 : decode cX9_rules 5 = .ok (.getfield 43, 3) := by decide +kernel
theorem dX9_rules_8 : decode cX9_rules 8 = .ok (.getfield 114, 3) := by decide +kernel
theorem dX9_rules_11 : decode cX9_rules 11 = .ok (.invokespecial 119, 3) := by decide +kernel
theorem dX9_rules_14 : decode cX9_rules 14 = .ok (.astore_n 1, 1) := by decide +kernel
theorem dX9_rules_15 : decode cX9_rules 15 = .ok (.aload_n 1, 1) := by decide +kernel
theorem dX9_rules_16 : decode cX9_rules 16 = .ok (.aload_n 0, 1) := by decide +kernel
theorem dX9_rules_17 : decode cX9_rules 17 = .ok (.getfield 43, 3) := by decide +kernel
theorem dX9_rules_20 : decode cX9_rules 20 = .ok (.invokevirtual 122, 3) := by decide +kernel
theorem dX9_rules_23 : decode cX9_rules 23 = .ok (.istore_n 2, 1) := by decide +kernel
theorem dX9_rules_24 : decode cX9_rules 24 = .ok (.aload_n 0, 1) := by decide +kernel
theorem dX9_rules_25 : decode cX9_rules 25 = .ok (.getfield 43, 3) := by decide +kernel
theorem dX9_rules_28 : decode cX9_rules 28 = .ok (.iconst 0, 1) := by decide +kernel
theorem dX9_rules_29 : decode cX9_rules 29 = .ok (.putfield 114, 3) := by decide +kernel
theorem dX9_rules_32 : decode cX9_rules 32 = .ok (.iload_n 2, 1) := by decide +kernel
theorem dX9_rules_33 : decode cX9_rules 33 = .ok (.ifCond .ne 23, 3) := by decide +kernel
theorem dX9_rules_36 : decode cX9_rules 36 = .ok (.aload_n 0, 1) := by decide +kernel
theorem dX9_rules_37 : decode cX9_rules 37 = .ok (.getfield 24, 3) := by decide +kernel
theorem dX9_rules_40 : decode cX9_rules 40 = .ok (.aload_n 0, 1) := by decide +kernel
theorem dX9_rules_41 : decode cX9_rules 41 = .ok (.getfield 28, 3) := by decide +kernel
theorem dX9_rules_44 : decode cX9_rules 44 = .ok (.aaload, 1) := by decide +kernel
theorem dX9_rules_45 : decode cX9_rules 45 = .ok (.aload_n 1, 1) := by decide +kernel
theorem dX9_rules_46 : decode cX9_rules 46 = .ok (.getfield 126, 3) := by decide +kernel
theorem dX9_rules_49 : decode cX9_rules 49 = .ok (.putfield 130, 3) := by decide +kernel
theorem dX9_rules_52 : decode cX9_rules 52 = .ok (.aload_n 0, 1) := by decide +kernel
theorem dX9_rules_53 : decode cX9_rules 53 = .ok (.invokevirtual 77, 3) := by decide +kernel
theorem dX9_rules_56 : decode cX9_rules 56 = .ok (.iload_n 2, 1) := by decide +kernel
theorem dX9_rules_57 : decode cX9_rules 57 = .ok (.ireturn, 1) := by decide +kernel
theorem dX9_hand_0 : decode cX9_hand 0 = .ok (.aload_n 0, 1) := by decide +kernel
theorem dX9_hand_1 : decode cX9_hand 1 = .ok (.getfield 11, 3) := by decide +kernel
theorem dX9_hand_4 : decode cX9_hand 4 = .ok (.aload_n 0, 1) := by decide +kernel
theorem dX9_hand_5 : decode cX9_hand 5 = .ok (.getfield 19, 3) := by decide +kernel
theorem dX9_hand_8 : decode cX9_hand 8 = .ok (.aaload, 1) := by decide +kernel
theorem dX9_hand_9 : decode cX9_hand 9 = .ok (.astore 4, 2) := by decide +kernel
theorem dX9_hand_11 : decode cX9_hand 11 = .ok (.iload_n 1, 1) := by decide +kernel
theorem dX9_hand_12 : decode cX9_hand 12 = .ok (.ifCond .lt 21, 3) := by decide +kernel
theorem dX9_hand_15 : decode cX9_hand 15 = .ok (.iload_n 1, 1) := by decide +kernel
theorem dX9_hand_16 : decode cX9_hand 16 = .ok (.aload 4, 2) := by decide +kernel
theorem dX9_hand_18 : decode cX9_hand 18 = .ok (.getfield 133, 3) := by decide +kernel
theorem dX9_hand_21 : decode cX9_hand 21 = .ok (.if_icmp .ge 12, 3) := by decide +kernel
theorem dX9_hand_24 : decode cX9_hand 24 = .ok (.iload_n 2, 1) := by decide +kernel
theorem dX9_hand_25 : decode cX9_hand 25 = .ok (.ifCond .lt 8, 3) := by decide +kernel
theorem dX9_hand_28 : decode cX9_hand 28 = .ok (.iload_n 2, 1) := by decide +kernel
theorem dX9_hand_29 : decode cX9_hand 29 = .ok (.iconst 3, 1) := by decide +kernel
theorem dX9_hand_30 : decode cX9_hand 30 = .ok (.if_icmp .lt 5, 3) := by decide +kernel
theorem dX9_hand_33 : decode cX9_hand 33 = .ok (.iconst 0, 1) := by decide +kernel
theorem dX9_hand_34 : decode cX9_hand 34 = .ok (.ireturn, 1) := by decide +kernel
theorem dX9_hand_35 : decode cX9_hand 35 = .ok (.iload_n 3, 1) := by decide +kernel
theorem dX9_hand_36 : decode cX9_hand 36 = .ok (.iconst (-1), 1) := by decide +kernel
theorem dX9_hand_37 : decode cX9_hand 37 = .ok (.if_icmp .eq 22, 3) := by decide +kernel
theorem dX9_hand_40 : decode cX9_hand 40 = .ok (.iload_n 3, 1) := by decide +kernel
theorem dX9_hand_41 : decode cX9_hand 41 = .ok (.getstatic 136, 3) := by decide +kernel
theorem dX9_hand_44 : decode cX9_hand 44 = .ok (.iload_n 2, 1) := by decide +kernel
theorem dX9_hand_45 : decode cX9_hand 45 = .ok (.iaload, 1) := by decide +kernel
theorem dX9_hand_46 : decode cX9_hand 46 = .ok (.getstatic 139, 3) := by decide +kernel
theorem dX9_hand_49 : decode cX9_hand 49 = .ok (.iload_n 2, 1) := by decide +kernel
theorem dX9_hand_50 : decode cX9_hand 50 = .ok (.iaload, 1) := by decide +kernel
theorem dX9_hand_51 : decode cX9_hand 51 = .ok (.invokestatic 95, 3) := by decide +kernel
theorem dX9_hand_54 : decode cX9_hand 54 = .ok (.ifCond .ne 5, 3) := by decide +kernel
theorem dX9_hand_57 : decode cX9_hand 57 = .ok (.iconst 0, 1) := by decide +kernel
theorem dX9_hand_58 : decode cX9_hand 58 = .ok (.ireturn, 1) := by decide +kernel
theorem dX9_hand_59 : decode cX9_hand 59 = .ok (.aload 4, 2) := by decide +kernel
theorem dX9_hand_61 : decode cX9_hand 61 = .ok (.getfield 142, 3) := by decide +kernel
theorem dX9_hand_64 : decode cX9_hand 64 = .ok (.iload_n 2, 1) := by decide +kernel
theorem dX9_hand_65 : decode cX9_hand 65 = .ok (.aaload, 1) := by decide +kernel
theorem dX9_hand_66 : decode cX9_hand 66 = .ok (.iload_n 1, 1) := by decide +kernel
theorem dX9_hand_67 : decode cX9_hand 67 = .ok (.iload_n 3, 1) := by decide +kernel
theorem dX9_hand_68 : decode cX9_hand 68 = .ok (.iastore, 1) := by decide +kernel
theorem dX9_hand_69 : decode cX9_hand 69 = .ok (.aload_n 0, 1) := by decide +kernel
theorem dX9_hand_70 : decode cX9_hand 70 = .ok (.invokevirtual 77, 3) := by decide +kernel
theorem dX9_hand_73 : decode cX9_hand 73 = .ok (.iconst 1, 1) := by decide +kernel
theorem dX9_hand_74 : decode cX9_hand 74 = .ok (.ireturn, 1) := by decide +kernel
theorem dX9_speed_0 : decode cX9_speed 0 = .ok (.iload_n 1, 1) := by decide +kernel
theorem dX9_speed_1 : decode cX9_speed 1 = .ok (.iconst 1, 1) := by decide +kernel
theorem dX9_speed_2 : decode cX9_speed 2 = .ok (.bipush 100, 2) := by decide +kernel
theorem dX9_speed_4 : decode cX9_speed 4 = .ok (.invokestatic 95, 3) := by decide +kernel
theorem dX9_speed_7 : decode cX9_speed 7 = .ok (.ifCond .eq 13, 3) := by decide +kernel
theorem dX9_speed_10 : decode cX9_speed 10 = .ok (.iload_n 2, 1) := by decide +kernel
theorem dX9_speed_11 : decode cX9_speed 11 = .ok (.iconst 1, 1) := by decide +kernel
theorem dX9_speed_12 : decode cX9_speed 12 = .ok (.bipush 100, 2) := by decide +kernel
theorem dX9_speed_14 : decode cX9_speed 14 = .ok (.invokestatic 95, 3) := by decide +kernel
theorem dX9_speed_17 : decode cX9_speed 17 = .ok (.ifCond .ne 5, 3) := by decide +kernel
theorem dX9_speed_20 : decode cX9_speed 20 = .ok (.iconst 0, 1) := by decide +kernel
theorem dX9_speed_21 : decode cX9_speed 21 = .ok (.ireturn, 1) := by decide +kernel
theorem dX9_speed_22 : decode cX9_speed 22 = .ok (.aload_n 0, 1) := by decide +kernel
theorem dX9_speed_23 : decode cX9_speed 23 = .ok (.iload_n 1, 1) := by decide +kernel
theorem dX9_speed_24 : decode cX9_speed 24 = .ok (.putfield 34, 3) := by decide +kernel
theorem dX9_speed_27 : decode cX9_speed 27 = .ok (.aload_n 0, 1) := by decide +kernel
theorem dX9_speed_28 : decode cX9_speed 28 = .ok (.iload_n 2, 1) := by decide +kernel
theorem dX9_speed_29 : decode cX9_speed 29 = .ok (.putfield 37, 3) := by decide +kernel
theorem dX9_speed_32 : decode cX9_speed 32 = .ok (.aload_n 0, 1) := by decide +kernel
theorem dX9_speed_33 : decode cX9_speed 33 = .ok (.invokevirtual 77, 3) := by decide +kernel
theorem dX9_speed_36 : decode cX9_speed 36 = .ok (.iconst 1, 1) := by decide +kernel
theorem dX9_speed_37 : decode cX9_speed 37 = .ok (.ireturn, 1) := by decide +kernel
theorem dX9_phrases_0 : decode cX9_phrases 0 = .ok (.aload_n 0, 1) := by decide +kernel
theorem dX9_phrases_1 : decode cX9_phrases 1 = .ok (.invokevirtual 146, 3) := by decide +kernel
theorem dX9_phrases_4 : decode cX9_phrases 4 = .ok (.getfield 150, 3) := by decide +kernel
theorem dX9_phrases_7 : decode cX9_phrases 7 = .ok (.getfield 154, 3) := by decide +kernel
theorem dX9_phrases_10 : decode cX9_phrases 10 = .ok (.ireturn, 1) := by decide +kernel
theorem dX9_phrase_0 : decode cX9_phrase 0 = .ok (.aload_n 0, 1) := by decide +kernel
theorem dX9_phrase_1 : decode cX9_phrase 1 = .ok (.invokevirtual 146, 3) := by decide +kernel
theorem dX9_phrase_4 : decode cX9_phrase 4 = .ok (.getfield 150, 3) := by decide +kernel
theorem dX9_phrase_7 : decode cX9_phrase 7 = .ok (.astore_n 3, 1) := by decide +kernel
theorem dX9_phrase_8 : decode cX9_phrase 8 = .ok (.iload_n 1, 1) := by decide +kernel
theorem dX9_phrase_9 : decode cX9_phrase 9 = .ok (.ifCond .lt 11, 3) := by decide +kernel
theorem dX9_phrase_12 : decode cX9_phrase 12 = .ok (.iload_n 1, 1) := by decide +kernel
theorem dX9_phrase_13 : decode cX9_phrase 13 = .ok (.aload_n 3, 1) := by decide +kernel
theorem dX9_phrase_14 : decode cX9_phrase 14 = .ok (.getfield 154, 3) := by decide +kernel
theorem dX9_phrase_17 : decode cX9_phrase 17 = .ok (.if_icmp .lt 5, 3) := by decide +kernel
theorem dX9_phrase_20 : decode cX9_phrase 20 = .ok (.iconst (-1), 1) := by decide +kernel
theorem dX9_phrase_21 : decode cX9_phrase 21 = .ok (.ireturn, 1) := by decide +kernel
theorem dX9_phrase_22 : decode cX9_phrase 22 = .ok (.iload_n 2, 1) := by decide +kernel
theorem dX9_phrase_23 : decode cX9_phrase 23 = .ok (.tableswitch 68 0 4 #[33, 40, 47, 54, 61], 33) := by decide +kernel
theorem dX9_phrase_56 : decode cX9_phrase 56 = .ok (.aload_n 3, 1) := by decide +kernel
theorem dX9_phrase_57 : decode cX9_phrase 57 = .ok (.getfield 159, 3) := by decide +kernel
theorem dX9_phrase_60 : decode cX9_phrase 60 = .ok (.iload_n 1, 1) := by decide +kernel
theorem dX9_phrase_61 : decode cX9_phrase 61 = .ok (.iaload, 1) := by decide +kernel
theorem dX9_phrase_62 : decode cX9_phrase 62 = .ok (.ireturn, 1) := by decide +kernel
theorem dX9_phrase_63 : decode cX9_phrase 63 = .ok (.aload_n 3, 1) := by decide +kernel
theorem dX9_phrase_64 : decode cX9_phrase 64 = .ok (.getfield 162, 3) := by decide +kernel
theorem dX9_phrase_67 : decode cX9_phrase 67 = .ok (.iload_n 1, 1) := by decide +kernel
theorem dX9_phrase_68 : decode cX9_phrase 68 = .ok (.iaload, 1) := by decide +kernel
theorem dX9_phrase_69 : decode cX9_phrase 69 = .ok (.ireturn, 1) := by decide +kernel
theorem dX9_phrase_70 : decode cX9_phrase 70 = .ok (.aload_n 3, 1) := by decide +kernel
theorem dX9_phrase_71 : decode cX9_phrase 71 = .ok (.getfield 165, 3) := by decide +kernel
theorem dX9_phrase_74 : decode cX9_phrase 74 = .ok (.iload_n 1, 1) := by decide +kernel
theorem dX9_phrase_75 : decode cX9_phrase 75 = .ok (.iaload, 1) := by decide +kernel
theorem dX9_phrase_76 : decode cX9_phrase 76 = .ok (.ireturn, 1) := by decide +kernel
theorem dX9_phrase_77 : decode cX9_phrase 77 = .ok (.aload_n 3, 1) := by decide +kernel
theorem dX9_phrase_78 : decode cX9_phrase 78 = .ok (.getfield 168, 3) := by decide +kernel
theorem dX9_phrase_81 : decode cX9_phrase 81 = .ok (.iload_n 1, 1) := by decide +kernel
theorem dX9_phrase_82 : decode cX9_phrase 82 = .ok (.iaload, 1) := by decide +kernel
theorem dX9_phrase_83 : decode cX9_phrase 83 = .ok (.ireturn, 1) := by decide +kernel
theorem dX9_phrase_84 : decode cX9_phrase 84 = .ok (.aload_n 3, 1) := by decide +kernel
theorem dX9_phrase_85 : decode cX9_phrase 85 = .ok (.getfield 171, 3) := by decide +kernel
theorem dX9_phrase_88 : decode cX9_phrase 88 = .ok (.iconst 0, 1) := by decide +kernel
theorem dX9_phrase_89 : decode cX9_phrase 89 = .ok (.iaload, 1) := by decide +kernel
theorem dX9_phrase_90 : decode cX9_phrase 90 = .ok (.ireturn, 1) := by decide +kernel
theorem dX9_phrase_91 : decode cX9_phrase 91 = .ok (.iconst (-1), 1) := by decide +kernel
theorem dX9_phrase_92 : decode cX9_phrase 92 = .ok (.ireturn, 1) := by decide +kernel
theorem dX9_shape_0 : decode cX9_shape 0 = .ok (.aload_n 0, 1) := by decide +kernel
theorem dX9_shape_1 : decode cX9_shape 1 = .ok (.invokevirtual 146, 3) := by decide +kernel
theorem dX9_shape_4 : decode cX9_shape 4 = .ok (.astore_n 3, 1) := by decide +kernel
theorem dX9_shape_5 : decode cX9_shape 5 = .ok (.iload_n 1, 1) := by decide +kernel
theorem dX9_shape_6 : decode cX9_shape 6 = .ok (.ifCond .lt 11, 3) := by decide +kernel
theorem dX9_shape_9 : decode cX9_shape 9 = .ok (.iload_n 1, 1) := by decide +kernel
theorem dX9_shape_10 : decode cX9_shape 10 = .ok (.aload_n 3, 1) := by decide +kernel
theorem dX9_shape_11 : decode cX9_shape 11 = .ok (.getfield 174, 3) := by decide +kernel
theorem dX9_shape_14 : decode cX9_shape 14 = .ok (.if_icmp .lt 13, 3) := by decide +kernel
theorem dX9_shape_17 : decode cX9_shape 17 = .ok (.new 175, 3) := by decide +kernel
theorem dX9_shape_20 : decode cX9_shape 20 = .ok (.dup, 1) := by decide +kernel
theorem dX9_shape_21 : decode cX9_shape 21 = .ok (.ldc 177, 2) := by decide +kernel
theorem dX9_shape_23 : decode cX9_shape 23 = .ok (.invokespecial 179, 3) := by decide +kernel
theorem dX9_shape_26 : decode cX9_shape 26 = .ok (.athrow, 1) := by decide +kernel
theorem dX9_shape_27 : decode cX9_shape 27 = .ok (.iload_n 2, 1) := by decide +kernel
theorem dX9_shape_28 : decode cX9_shape 28 = .ok (.tableswitch 97 0 5 #[40, 50, 59, 68, 78, 88], 40) := by decide +kernel
theorem dX9_shape_68 : decode cX9_shape 68 = .ok (.aload_n 3, 1) := by decide +kernel
theorem dX9_shape_69 : decode cX9_shape 69 = .ok (.getfield 182, 3) := by decide +kernel
theorem dX9_shape_72 : decode cX9_shape 72 = .ok (.bipush 13, 2) := by decide +kernel
theorem dX9_shape_74 : decode cX9_shape 74 = .ok (.aaload, 1) := by decide +kernel
theorem dX9_shape_75 : decode cX9_shape 75 = .ok (.iload_n 1, 1) := by decide +kernel
theorem dX9_shape_76 : decode cX9_shape 76 = .ok (.iaload, 1) := by decide +kernel
theorem dX9_shape_77 : decode cX9_shape 77 = .ok (.ireturn, 1) := by decide +kernel
theorem dX9_shape_78 : decode cX9_shape 78 = .ok (.aload_n 3, 1) := by decide +kernel
theorem dX9_shape_79 : decode cX9_shape 79 = .ok (.getfield 182, 3) := by decide +kernel
theorem dX9_shape_82 : decode cX9_shape 82 = .ok (.iconst 1, 1) := by decide +kernel
theorem dX9_shape_83 : decode cX9_shape 83 = .ok (.aaload, 1) := by decide +kernel
theorem dX9_shape_84 : decode cX9_shape 84 = .ok (.iload_n 1, 1) := by decide +kernel
theorem dX9_shape_85 : decode cX9_shape 85 = .ok (.iaload, 1) := by decide +kernel
theorem dX9_shape_86 : decode cX9_shape 86 = .ok (.ireturn, 1) := by decide +kernel
theorem dX9_shape_87 : decode cX9_shape 87 = .ok (.aload_n 3, 1) := by decide +kernel
theorem dX9_shape_88 : decode cX9_shape 88 = .ok (.getfield 182, 3) := by decide +kernel
theorem dX9_shape_91 : decode cX9_shape 91 = .ok (.iconst 2, 1) := by decide +kernel
theorem dX9_shape_92 : decode cX9_shape 92 = .ok (.aaload, 1) := by decide +kernel
theorem dX9_shape_93 : decode cX9_shape 93 = .ok (.iload_n 1, 1) := by decide +kernel
theorem dX9_shape_94 : decode cX9_shape 94 = .ok (.iaload, 1) := by decide +kernel
theorem dX9_shape_95 : decode cX9_shape 95 = .ok (.ireturn, 1) := by decide +kernel
theorem dX9_shape_96 : decode cX9_shape 96 = .ok (.aload_n 3, 1) := by decide +kernel
theorem dX9_shape_97 : decode cX9_shape 97 = .ok (.getfield 182, 3) := by decide +kernel
theorem dX9_shape_100 : decode cX9_shape 100 = .ok (.bipush 11, 2) := by decide +kernel
theorem dX9_shape_102 : decode cX9_shape 102 = .ok (.aaload, 1) := by decide +kernel
theorem dX9_shape_103 : decode cX9_shape 103 = .ok (.iload_n 1, 1) := by decide +kernel
theorem dX9_shape_104 : decode cX9_shape 104 = .ok (.iaload, 1) := by decide +kernel
theorem dX9_shape_105 : decode cX9_shape 105 = .ok (.ireturn, 1) := by decide +kernel
theorem dX9_shape_106 : decode cX9_shape 106 = .ok (.aload_n 3, 1) := by decide +kernel
theorem dX9_shape_107 : decode cX9_shape 107 = .ok (.getfield 182, 3) := by decide +kernel
theorem dX9_shape_110 : decode cX9_shape 110 = .ok (.bipush 9, 2) := by decide +kernel
theorem dX9_shape_112 : decode cX9_shape 112 = .ok (.aaload, 1) := by decide +kernel
theorem dX9_shape_113 : decode cX9_shape 113 = .ok (.iload_n 1, 1) := by decide +kernel
theorem dX9_shape_114 : decode cX9_shape 114 = .ok (.iaload, 1) := by decide +kernel
theorem dX9_shape_115 : decode cX9_shape 115 = .ok (.ireturn, 1) := by decide +kernel
theorem dX9_shape_116 : decode cX9_shape 116 = .ok (.aload_n 3, 1) := by decide +kernel
theorem dX9_shape_117 : decode cX9_shape 117 = .ok (.getfield 182, 3) := by decide +kernel
theorem dX9_shape_120 : decode cX9_shape 120 = .ok (.iconst 0, 1) := by decide +kernel
theorem dX9_shape_121 : decode cX9_shape 121 = .ok (.aaload, 1) := by decide +kernel
end
section
theorem dX9_shape_122 : decode cX9_shape 122 = .ok (.iload_n 1, 1) := by decide +kernel
theorem dX9_shape_123 : decode cX9_shape 123 = .ok (.iaload, 1) := by decide +kernel
theorem dX9_shape_124 : decode cX9_shape 124 = .ok (.ireturn, 1) := by decide +kernel
theorem dX9_shape_125 : decode cX9_shape 125 = .ok (.new 175, 3) := by decide +kernel
theorem dX9_shape_128 : decode cX9_shape 128 = .ok (.dup, 1) := by decide +kernel
theorem dX9_shape_129 : decode cX9_shape 129 = .ok (.ldc 185, 2) := by decide +kernel
theorem dX9_shape_131 : decode cX9_shape 131 = .ok (.invokespecial 179, 3) := by decide +kernel
theorem dX9_shape_134 : decode cX9_shape 134 = .ok (.athrow, 1) := by decide +kernel
theorem dX9_fit_0 : decode cX9_fit 0 = .ok (.aload_n 0, 1) := by decide +kernel
theorem dX9_fit_1 : decode cX9_fit 1 = .ok (.invokevirtual 146, 3) := by decide +kernel
theorem dX9_fit_4 : decode cX9_fit 4 = .ok (.getfield 187, 3) := by decide +kernel
theorem dX9_fit_7 : decode cX9_fit 7 = .ok (.ifCond .eq 7, 3) := by decide +kernel
theorem dX9_fit_10 : decode cX9_fit 10 = .ok (.iconst 1, 1) := by decide +kernel
theorem dX9_fit_11 : decode cX9_fit 11 = .ok (.goto 4, 3) := by decide +kernel
theorem dX9_fit_14 : decode cX9_fit 14 = .ok (.iconst 0, 1) := by decide +kernel
theorem dX9_fit_15 : decode cX9_fit 15 = .ok (.ireturn, 1) := by decide +kernel
theorem dX9_pause_0 : decode cX9_pause 0 = .ok (.aload_n 0, 1) := by decide +kernel
theorem dX9_pause_1 : decode cX9_pause 1 = .ok (.invokevirtual 146, 3) := by decide +kernel
theorem dX9_pause_4 : decode cX9_pause 4 = .ok (.getfield 150, 3) := by decide +kernel
theorem dX9_pause_7 : decode cX9_pause 7 = .ok (.astore_n 3, 1) := by decide +kernel
theorem dX9_pause_8 : decode cX9_pause 8 = .ok (.iload_n 1, 1) := by decide +kernel
theorem dX9_pause_9 : decode cX9_pause 9 = .ok (.ifCond .lt 24, 3) := by decide +kernel
theorem dX9_pause_12 : decode cX9_pause 12 = .ok (.iload_n 1, 1) := by decide +kernel
theorem dX9_pause_13 : decode cX9_pause 13 = .ok (.aload_n 3, 1) := by decide +kernel
theorem dX9_pause_14 : decode cX9_pause 14 = .ok (.getfield 154, 3) := by decide +kernel
theorem dX9_pause_17 : decode cX9_pause 17 = .ok (.iconst 1, 1) := by decide +kernel
theorem dX9_pause_18 : decode cX9_pause 18 = .ok (.isub, 1) := by decide +kernel
theorem dX9_pause_19 : decode cX9_pause 19 = .ok (.if_icmp .ge 14, 3) := by decide +kernel
theorem dX9_pause_22 : decode cX9_pause 22 = .ok (.iload_n 2, 1) := by decide +kernel
theorem dX9_pause_23 : decode cX9_pause 23 = .ok (.iconst 0, 1) := by decide +kernel
theorem dX9_pause_24 : decode cX9_pause 24 = .ok (.sipush 1000, 3) := by decide +kernel
theorem dX9_pause_27 : decode cX9_pause 27 = .ok (.invokestatic 95, 3) := by decide +kernel
theorem dX9_pause_30 : decode cX9_pause 30 = .ok (.ifCond .ne 5, 3) := by decide +kernel
theorem dX9_pause_33 : decode cX9_pause 33 = .ok (.iconst (-1), 1) := by decide +kernel
theorem dX9_pause_34 : decode cX9_pause 34 = .ok (.ireturn, 1) := by decide +kernel
theorem dX9_pause_35 : decode cX9_pause 35 = .ok (.aload_n 3, 1) := by decide +kernel
theorem dX9_pause_36 : decode cX9_pause 36 = .ok (.iload_n 1, 1) := by decide +kernel
theorem dX9_pause_37 : decode cX9_pause 37 = .ok (.iload_n 2, 1) := by decide +kernel
theorem dX9_pause_38 : decode cX9_pause 38 = .ok (.invokevirtual 191, 3) := by decide +kernel
theorem dX9_pause_41 : decode cX9_pause 41 = .ok (.ireturn, 1) := by decide +kernel
theorem dX9_apart_0 : decode cX9_apart 0 = .ok (.aload_n 0, 1) := by decide +kernel
theorem dX9_apart_1 : decode cX9_apart 1 = .ok (.iload_n 1, 1) := by decide +kernel
theorem dX9_apart_2 : decode cX9_apart 2 = .ok (.invokevirtual 91, 3) := by decide +kernel
theorem dX9_apart_5 : decode cX9_apart 5 = .ok (.ifCond .eq 11, 3) := by decide +kernel
theorem dX9_apart_8 : decode cX9_apart 8 = .ok (.aload_n 0, 1) := by decide +kernel
theorem dX9_apart_9 : decode cX9_apart 9 = .ok (.iload_n 2, 1) := by decide +kernel
theorem dX9_apart_10 : decode cX9_apart 10 = .ok (.invokevirtual 91, 3) := by decide +kernel
theorem dX9_apart_13 : decode cX9_apart 13 = .ok (.ifCond .ne 6, 3) := by decide +kernel
theorem dX9_apart_16 : decode cX9_apart 16 = .ok (.bipush (-2), 2) := by decide +kernel
theorem dX9_apart_18 : decode cX9_apart 18 = .ok (.ireturn, 1) := by decide +kernel
theorem dX9_apart_19 : decode cX9_apart 19 = .ok (.aload_n 0, 1) := by decide +kernel
theorem dX9_apart_20 : decode cX9_apart 20 = .ok (.aload_n 0, 1) := by decide +kernel
theorem dX9_apart_21 : decode cX9_apart 21 = .ok (.getfield 57, 3) := by decide +kernel
theorem dX9_apart_24 : decode cX9_apart 24 = .ok (.iload_n 1, 1) := by decide +kernel
theorem dX9_apart_25 : decode cX9_apart 25 = .ok (.invokevirtual 195, 3) := by decide +kernel
theorem dX9_apart_28 : decode cX9_apart 28 = .ok (.aload_n 0, 1) := by decide +kernel
theorem dX9_apart_29 : decode cX9_apart 29 = .ok (.aload_n 0, 1) := by decide +kernel
theorem dX9_apart_30 : decode cX9_apart 30 = .ok (.getfield 61, 3) := by decide +kernel
theorem dX9_apart_33 : decode cX9_apart 33 = .ok (.iload_n 2, 1) := by decide +kernel
theorem dX9_apart_34 : decode cX9_apart 34 = .ok (.invokevirtual 195, 3) := by decide +kernel
theorem dX9_apart_37 : decode cX9_apart 37 = .ok (.aload_n 0, 1) := by decide +kernel
theorem dX9_apart_38 : decode cX9_apart 38 = .ok (.getfield 57, 3) := by decide +kernel
theorem dX9_apart_41 : decode cX9_apart 41 = .ok (.aload_n 0, 1) := by decide +kernel
theorem dX9_apart_42 : decode cX9_apart 42 = .ok (.getfield 61, 3) := by decide +kernel
theorem dX9_apart_45 : decode cX9_apart 45 = .ok (.invokevirtual 199, 3) := by decide +kernel
theorem dX9_apart_48 : decode cX9_apart 48 = .ok (.ireturn, 1) := by decide +kernel
theorem dX9_count_0 : decode cX9_count 0 = .ok (.aload_n 0, 1) := by decide +kernel
theorem dX9_count_1 : decode cX9_count 1 = .ok (.getfield 11, 3) := by decide +kernel
theorem dX9_count_4 : decode cX9_count 4 = .ok (.aload_n 0, 1) := by decide +kernel
theorem dX9_count_5 : decode cX9_count 5 = .ok (.getfield 19, 3) := by decide +kernel
theorem dX9_count_8 : decode cX9_count 8 = .ok (.aaload, 1) := by decide +kernel
theorem dX9_count_9 : decode cX9_count 9 = .ok (.astore_n 2, 1) := by decide +kernel
theorem dX9_count_10 : decode cX9_count 10 = .ok (.iload_n 1, 1) := by decide +kernel
theorem dX9_count_11 : decode cX9_count 11 = .ok (.tableswitch 99 0 7 #[45, 50, 55, 60, 65, 70, 86, 94], 45) := by decide +kernel
theorem dX9_count_56 : decode cX9_count 56 = .ok (.aload_n 0, 1) := by decide +kernel
theorem dX9_count_57 : decode cX9_count 57 = .ok (.getfield 15, 3) := by decide +kernel
theorem dX9_count_60 : decode cX9_count 60 = .ok (.ireturn, 1) := by decide +kernel
theorem dX9_count_61 : decode cX9_count 61 = .ok (.aload_n 0, 1) := by decide +kernel
theorem dX9_count_62 : decode cX9_count 62 = .ok (.getfield 19, 3) := by decide +kernel
theorem dX9_count_65 : decode cX9_count 65 = .ok (.ireturn, 1) := by decide +kernel
theorem dX9_count_66 : decode cX9_count 66 = .ok (.aload_n 2, 1) := by decide +kernel
theorem dX9_count_67 : decode cX9_count 67 = .ok (.getfield 66, 3) := by decide +kernel
theorem dX9_count_70 : decode cX9_count 70 = .ok (.ireturn, 1) := by decide +kernel
theorem dX9_count_71 : decode cX9_count 71 = .ok (.aload_n 2, 1) := by decide +kernel
theorem dX9_count_72 : decode cX9_count 72 = .ok (.getfield 133, 3) := by decide +kernel
theorem dX9_count_75 : decode cX9_count 75 = .ok (.ireturn, 1) := by decide +kernel
theorem dX9_count_76 : decode cX9_count 76 = .ok (.aload_n 0, 1) := by decide +kernel
theorem dX9_count_77 : decode cX9_count 77 = .ok (.getfield 28, 3) := by decide +kernel
theorem dX9_count_80 : decode cX9_count 80 = .ok (.ireturn, 1) := by decide +kernel
theorem dX9_count_81 : decode cX9_count 81 = .ok (.aload_n 0, 1) := by decide +kernel
theorem dX9_count_82 : decode cX9_count 82 = .ok (.getfield 24, 3) := by decide +kernel
theorem dX9_count_85 : decode cX9_count 85 = .ok (.aload_n 0, 1) := by decide +kernel
theorem dX9_count_86 : decode cX9_count 86 = .ok (.getfield 28, 3) := by decide +kernel
theorem dX9_count_89 : decode cX9_count 89 = .ok (.aaload, 1) := by decide +kernel
theorem dX9_count_90 : decode cX9_count 90 = .ok (.getfield 130, 3) := by decide +kernel
theorem dX9_count_93 : decode cX9_count 93 = .ok (.getfield 203, 3) := by decide +kernel
theorem dX9_count_96 : decode cX9_count 96 = .ok (.ireturn, 1) := by decide +kernel
theorem dX9_count_97 : decode cX9_count 97 = .ok (.aload_n 0, 1) := by decide +kernel
theorem dX9_count_98 : decode cX9_count 98 = .ok (.getfield 43, 3) := by decide +kernel
theorem dX9_count_101 : decode cX9_count 101 = .ok (.getfield 114, 3) := by decide +kernel
theorem dX9_count_104 : decode cX9_count 104 = .ok (.ireturn, 1) := by decide +kernel
theorem dX9_count_105 : decode cX9_count 105 = .ok (.aload_n 2, 1) := by decide +kernel
theorem dX9_count_106 : decode cX9_count 106 = .ok (.invokevirtual 208, 3) := by decide +kernel
theorem dX9_count_109 : decode cX9_count 109 = .ok (.ireturn, 1) := by decide +kernel
theorem dX9_count_110 : decode cX9_count 110 = .ok (.iconst (-1), 1) := by decide +kernel
theorem dX9_count_111 : decode cX9_count 111 = .ok (.ireturn, 1) := by decide +kernel
theorem dX9_isReading_0 : decode cX9_isReading 0 = .ok (.iload_n 1, 1) := by decide +kernel
theorem dX9_isReading_1 : decode cX9_isReading 1 = .ok (.ifCond .lt 15, 3) := by decide +kernel
theorem dX9_isReading_4 : decode cX9_isReading 4 = .ok (.iload_n 1, 1) := by decide +kernel
theorem dX9_isReading_5 : decode cX9_isReading 5 = .ok (.aload_n 0, 1) := by decide +kernel
theorem dX9_isReading_6 : decode cX9_isReading 6 = .ok (.getfield 15, 3) := by decide +kernel
theorem dX9_isReading_9 : decode cX9_isReading 9 = .ok (.if_icmp .ge 7, 3) := by decide +kernel
theorem dX9_isReading_12 : decode cX9_isReading 12 = .ok (.iconst 1, 1) := by decide +kernel
theorem dX9_isReading_13 : decode cX9_isReading 13 = .ok (.goto 4, 3) := by decide +kernel
theorem dX9_isReading_16 : decode cX9_isReading 16 = .ok (.iconst 0, 1) := by decide +kernel
theorem dX9_isReading_17 : decode cX9_isReading 17 = .ok (.ireturn, 1) := by decide +kernel
theorem dX9_isWithin_0 : decode cX9_isWithin 0 = .ok (.iload_n 0, 1) := by decide +kernel
theorem dX9_isWithin_1 : decode cX9_isWithin 1 = .ok (.iload_n 1, 1) := by decide +kernel
theorem dX9_isWithin_2 : decode cX9_isWithin 2 = .ok (.if_icmp .lt 12, 3) := by decide +kernel
theorem dX9_isWithin_5 : decode cX9_isWithin 5 = .ok (.iload_n 0, 1) := by decide +kernel
theorem dX9_isWithin_6 : decode cX9_isWithin 6 = .ok (.iload_n 2, 1) := by decide +kernel
theorem dX9_isWithin_7 : decode cX9_isWithin 7 = .ok (.if_icmp .gt 7, 3) := by decide +kernel
theorem dX9_isWithin_10 : decode cX9_isWithin 10 = .ok (.iconst 1, 1) := by decide +kernel
theorem dX9_isWithin_11 : decode cX9_isWithin 11 = .ok (.goto 4, 3) := by decide +kernel
theorem dX9_isWithin_14 : decode cX9_isWithin 14 = .ok (.iconst 0, 1) := by decide +kernel
theorem dX9_isWithin_15 : decode cX9_isWithin 15 = .ok (.ireturn, 1) := by decide +kernel
theorem dX9_isWord_0 : decode cX9_isWord 0 = .ok (.iload_n 0, 1) := by decide +kernel
theorem dX9_isWord_1 : decode cX9_isWord 1 = .ok (.iconst 1, 1) := by decide +kernel
theorem dX9_isWord_2 : decode cX9_isWord 2 = .ok (.iconst 5, 1) := by decide +kernel
theorem dX9_isWord_3 : decode cX9_isWord 3 = .ok (.invokestatic 95, 3) := by decide +kernel
theorem dX9_isWord_6 : decode cX9_isWord 6 = .ok (.ifCond .eq 26, 3) := by decide +kernel
theorem dX9_isWord_9 : decode cX9_isWord 9 = .ok (.iload_n 1, 1) := by decide +kernel
theorem dX9_isWord_10 : decode cX9_isWord 10 = .ok (.ifCond .lt 22, 3) := by decide +kernel
theorem dX9_isWord_13 : decode cX9_isWord 13 = .ok (.iload_n 1, 1) := by decide +kernel
theorem dX9_isWord_14 : decode cX9_isWord 14 = .ok (.iload_n 0, 1) := by decide +kernel
theorem dX9_isWord_15 : decode cX9_isWord 15 = .ok (.if_icmp .ge 17, 3) := by decide +kernel
theorem dX9_isWord_18 : decode cX9_isWord 18 = .ok (.iload_n 2, 1) := by decide +kernel
theorem dX9_isWord_19 : decode cX9_isWord 19 = .ok (.iconst 0, 1) := by decide +kernel
theorem dX9_isWord_20 : decode cX9_isWord 20 = .ok (.bipush 99, 2) := by decide +kernel
theorem dX9_isWord_22 : decode cX9_isWord 22 = .ok (.invokestatic 95, 3) := by decide +kernel
theorem dX9_isWord_25 : decode cX9_isWord 25 = .ok (.ifCond .eq 7, 3) := by decide +kernel
theorem dX9_isWord_28 : decode cX9_isWord 28 = .ok (.iconst 1, 1) := by decide +kernel
theorem dX9_isWord_29 : decode cX9_isWord 29 = .ok (.goto 4, 3) := by decide +kernel
theorem dX9_isWord_32 : decode cX9_isWord 32 = .ok (.iconst 0, 1) := by decide +kernel
theorem dX9_isWord_33 : decode cX9_isWord 33 = .ok (.ireturn, 1) := by decide +kernel
theorem dX9_bringWithin_0 : decode cX9_bringWithin 0 = .ok (.iload_n 1, 1) := by decide +kernel
theorem dX9_bringWithin_1 : decode cX9_bringWithin 1 = .ok (.iload_n 2, 1) := by decide +kernel
theorem dX9_bringWithin_2 : decode cX9_bringWithin 2 = .ok (.iload_n 0, 1) := by decide +kernel
theorem dX9_bringWithin_3 : decode cX9_bringWithin 3 = .ok (.invokestatic 212, 3) := by decide +kernel
theorem dX9_bringWithin_6 : decode cX9_bringWithin 6 = .ok (.invokestatic 217, 3) := by decide +kernel
theorem dX9_bringWithin_9 : decode cX9_bringWithin 9 = .ok (.ireturn, 1) := by decide +kernel
theorem dX9_shapeInHand_0 : decode cX9_shapeInHand 0 = .ok (.aload_n 0, 1) := by decide +kernel
theorem dX9_shapeInHand_1 : decode cX9_shapeInHand 1 = .ok (.aload_n 0, 1) := by decide +kernel
theorem dX9_shapeInHand_2 : decode cX9_shapeInHand 2 = .ok (.getfield 57, 3) := by decide +kernel
theorem dX9_shapeInHand_5 : decode cX9_shapeInHand 5 = .ok (.aload_n 0, 1) := by decide +kernel
theorem dX9_shapeInHand_6 : decode cX9_shapeInHand 6 = .ok (.getfield 19, 3) := by decide +kernel
theorem dX9_shapeInHand_9 : decode cX9_shapeInHand 9 = .ok (.invokevirtual 195, 3) := by decide +kernel
theorem dX9_shapeInHand_12 : decode cX9_shapeInHand 12 = .ok (.aload_n 0, 1) := by decide +kernel
theorem dX9_shapeInHand_13 : decode cX9_shapeInHand 13 = .ok (.getfield 57, 3) := by decide +kernel
theorem dX9_shapeInHand_16 : decode cX9_shapeInHand 16 = .ok (.areturn, 1) := by decide +kernel
theorem dX9_prepare_0 : decode cX9_prepare 0 = .ok (.aload_n 1, 1) := by decide +kernel
theorem dX9_prepare_1 : decode cX9_prepare 1 = .ok (.getfield 220, 3) := by decide +kernel
theorem dX9_prepare_4 : decode cX9_prepare 4 = .ok (.iload_n 2, 1) := by decide +kernel
theorem dX9_prepare_5 : decode cX9_prepare 5 = .ok (.if_icmp .ne 4, 3) := by decide +kernel
theorem dX9_prepare_8 : decode cX9_prepare 8 = .ok (.return_, 1) := by decide +kernel
theorem dX9_prepare_9 : decode cX9_prepare 9 = .ok (.aload_n 1, 1) := by decide +kernel
theorem dX9_prepare_10 : decode cX9_prepare 10 = .ok (.iload_n 2, 1) := by decide +kernel
theorem dX9_prepare_11 : decode cX9_prepare 11 = .ok (.putfield 220, 3) := by decide +kernel
theorem dX9_prepare_14 : decode cX9_prepare 14 = .ok (.aload_n 0, 1) := by decide +kernel
theorem dX9_prepare_15 : decode cX9_prepare 15 = .ok (.getfield 24, 3) := by decide +kernel
theorem dX9_prepare_18 : decode cX9_prepare 18 = .ok (.aload_n 0, 1) := by decide +kernel
theorem dX9_prepare_19 : decode cX9_prepare 19 = .ok (.getfield 28, 3) := by decide +kernel
theorem dX9_prepare_22 : decode cX9_prepare 22 = .ok (.aaload, 1) := by decide +kernel
theorem dX9_prepare_23 : decode cX9_prepare 23 = .ok (.astore_n 3, 1) := by decide +kernel
theorem dX9_prepare_24 : decode cX9_prepare 24 = .ok (.aload_n 1, 1) := by decide +kernel
theorem dX9_prepare_25 : decode cX9_prepare 25 = .ok (.aload_n 0, 1) := by decide +kernel
theorem dX9_prepare_26 : decode cX9_prepare 26 = .ok (.getfield 11, 3) := by decide +kernel
theorem dX9_prepare_29 : decode cX9_prepare 29 = .ok (.iload_n 2, 1) := by decide +kernel
theorem dX9_prepare_30 : decode cX9_prepare 30 = .ok (.aaload, 1) := by decide +kernel
theorem dX9_prepare_31 : decode cX9_prepare 31 = .ok (.aload_n 0, 1) := by decide +kernel
theorem dX9_prepare_32 : decode cX9_prepare 32 = .ok (.getfield 31, 3) := by decide +kernel
theorem dX9_prepare_35 : decode cX9_prepare 35 = .ok (.invokevirtual 223, 3) := by decide +kernel
theorem dX9_prepare_38 : decode cX9_prepare 38 = .ok (.aload_n 1, 1) := by decide +kernel
theorem dX9_prepare_39 : decode cX9_prepare 39 = .ok (.aload_n 3, 1) := by decide +kernel
theorem dX9_prepare_40 : decode cX9_prepare 40 = .ok (.getfield 130, 3) := by decide +kernel
theorem dX9_prepare_43 : decode cX9_prepare 43 = .ok (.aload_n 0, 1) := by decide +kernel
theorem dX9_prepare_44 : decode cX9_prepare 44 = .ok (.getfield 50, 3) := by decide +kernel
theorem dX9_prepare_47 : decode cX9_prepare 47 = .ok (.invokevirtual 227, 3) := by decide +kernel
theorem dX9_prepare_50 : decode cX9_prepare 50 = .ok (.aload_n 1, 1) := by decide +kernel
theorem dX9_prepare_51 : decode cX9_prepare 51 = .ok (.aload_n 0, 1) := by decide +kernel
theorem dX9_prepare_52 : decode cX9_prepare 52 = .ok (.getfield 11, 3) := by decide +kernel
theorem dX9_prepare_55 : decode cX9_prepare 55 = .ok (.iload_n 2, 1) := by decide +kernel
theorem dX9_prepare_56 : decode cX9_prepare 56 = .ok (.aaload, 1) := by decide +kernel
theorem dX9_prepare_57 : decode cX9_prepare 57 = .ok (.invokevirtual 231, 3) := by decide +kernel
theorem dX9_prepare_60 : decode cX9_prepare 60 = .ok (.aload_n 1, 1) := by decide +kernel
theorem dX9_prepare_61 : decode cX9_prepare 61 = .ok (.aload_n 0, 1) := by decide +kernel
theorem dX9_prepare_62 : decode cX9_prepare 62 = .ok (.getfield 11, 3) := by decide +kernel
theorem dX9_prepare_65 : decode cX9_prepare 65 = .ok (.iload_n 2, 1) := by decide +kernel
theorem dX9_prepare_66 : decode cX9_prepare 66 = .ok (.aaload, 1) := by decide +kernel
theorem dX9_prepare_67 : decode cX9_prepare 67 = .ok (.aload_n 3, 1) := by decide +kernel
theorem dX9_prepare_68 : decode cX9_prepare 68 = .ok (.invokevirtual 234, 3) := by decide +kernel
theorem dX9_prepare_71 : decode cX9_prepare 71 = .ok (.aload_n 1, 1) := by decide +kernel
theorem dX9_prepare_72 : decode cX9_prepare 72 = .ok (.aload_n 0, 1) := by decide +kernel
theorem dX9_prepare_73 : decode cX9_prepare 73 = .ok (.getfield 34, 3) := by decide +kernel
theorem dX9_prepare_76 : decode cX9_prepare 76 = .ok (.aload_n 0, 1) := by decide +kernel
theorem dX9_prepare_77 : decode cX9_prepare 77 = .ok (.getfield 37, 3) := by decide +kernel
theorem dX9_prepare_80 : decode cX9_prepare 80 = .ok (.invokevirtual 238, 3) := by decide +kernel
theorem dX9_prepare_83 : decode cX9_prepare 83 = .ok (.return_, 1) := by decide +kernel
theorem dX9_forgetShapes_0 : decode cX9_forgetShapes 0 = .ok (.aload_n 0, 1) := by decide +kernel
theorem dX9_forgetShapes_1 : decode cX9_forgetShapes 1 = .ok (.getfield 57, 3) := by decide +kernel
theorem dX9_forgetShapes_4 : decode cX9_forgetShapes 4 = .ok (.iconst (-1), 1) := by decide +kernel
theorem dX9_forgetShapes_5 : decode cX9_forgetShapes 5 = .ok (.putfield 220, 3) := by decide +kernel
theorem dX9_forgetShapes_8 : decode cX9_forgetShapes 8 = .ok (.aload_n 0, 1) := by decide +kernel
theorem dX9_forgetShapes_9 : decode cX9_forgetShapes 9 = .ok (.getfield 61, 3) := by decide +kernel
theorem dX9_forgetShapes_12 : decode cX9_forgetShapes 12 = .ok (.iconst (-1), 1) := by decide +kernel
theorem dX9_forgetShapes_13 : decode cX9_forgetShapes 13 = .ok (.putfield 220, 3) := by decide +kernel
theorem dX9_forgetShapes_16 : decode cX9_forgetShapes 16 = .ok (.return_, 1) := by decide +kernel
theorem dX10_thrown_0 : decode cX10_thrown 0 = .ok (.aload_n 0, 1) := by decide +kernel
theorem dX10_thrown_1 : decode cX10_thrown 1 = .ok (.getfield 1, 3) := by decide +kernel
theorem dX10_thrown_4 : decode cX10_thrown 4 = .ok (.ireturn, 1) := by decide +kernel
theorem dX10_feed_0 : decode cX10_feed 0 = .ok (.aload_n 0, 1) := by decide +kernel
theorem dX10_feed_1 : decode cX10_feed 1 = .ok (.iconst 0, 1) := by decide +kernel
theorem dX10_feed_2 : decode cX10_feed 2 = .ok (.putfield 1, 3) := by decide +kernel
theorem dX10_feed_5 : decode cX10_feed 5 = .ok (.aload_n 0, 1) := by decide +kernel
theorem dX10_feed_6 : decode cX10_feed 6 = .ok (.lload_n 1, 1) := by decide +kernel
theorem dX10_feed_7 : decode cX10_feed 7 = .ok (.invokevirtual 7, 3) := by decide +kernel
theorem dX10_feed_10 : decode cX10_feed 10 = .ok (.aload_n 0, 1) := by decide +kernel
theorem dX10_feed_11 : decode cX10_feed 11 = .ok (.lload_n 3, 1) := by decide +kernel
theorem dX10_feed_12 : decode cX10_feed 12 = .ok (.invokevirtual 7, 3) := by decide +kernel
theorem dX10_feed_15 : decode cX10_feed 15 = .ok (.aload_n 0, 1) := by decide +kernel
theorem dX10_feed_16 : decode cX10_feed 16 = .ok (.lload 5, 2) := by decide +kernel
theorem dX10_feed_18 : decode cX10_feed 18 = .ok (.invokevirtual 7, 3) := by decide +kernel
theorem dX10_feed_21 : decode cX10_feed 21 = .ok (.aload_n 0, 1) := by decide +kernel
theorem dX10_feed_22 : decode cX10_feed 22 = .ok (.getfield 11, 3) := by decide +kernel
theorem dX10_feed_25 : decode cX10_feed 25 = .ok (.ireturn, 1) := by decide +kernel
theorem dX10_lay_0 : decode cX10_lay 0 = .ok (.bipush 56, 2) := by decide +kernel
theorem dX10_lay_2 : decode cX10_lay 2 = .ok (.istore_n 3, 1) := by decide +kernel
theorem dX10_lay_3 : decode cX10_lay 3 = .ok (.iload_n 3, 1) := by decide +kernel
theorem dX10_lay_4 : decode cX10_lay 4 = .ok (.ifCond .lt 71, 3) := by decide +kernel
theorem dX10_lay_7 : decode cX10_lay 7 = .ok (.lload_n 1, 1) := by decide +kernel
theorem dX10_lay_8 : decode cX10_lay 8 = .ok (.iload_n 3, 1) := by decide +kernel
theorem dX10_lay_9 : decode cX10_lay 9 = .ok (.lshr, 1) := by decide +kernel
theorem dX10_lay_10 : decode cX10_lay 10 = .ok (.l2i, 1) := by decide +kernel
theorem dX10_lay_11 : decode cX10_lay 11 = .ok (.sipush 255, 3) := by decide +kernel
theorem dX10_lay_14 : decode cX10_lay 14 = .ok (.iand, 1) := by decide +kernel
theorem dX10_lay_15 : decode cX10_lay 15 = .ok (.istore 4, 2) := by decide +kernel
theorem dX10_lay_17 : decode cX10_lay 17 = .ok (.iload 4, 2) := by decide +kernel
theorem dX10_lay_19 : decode cX10_lay 19 = .ok (.bipush 10, 2) := by decide +kernel
theorem dX10_lay_21 : decode cX10_lay 21 = .ok (.if_icmp .eq 17, 3) := by decide +kernel
theorem dX10_lay_24 : decode cX10_lay 24 = .ok (.iload 4, 2) := by decide +kernel
theorem dX10_lay_26 : decode cX10_lay 26 = .ok (.bipush 32, 2) := by decide +kernel
theorem dX10_lay_28 : decode cX10_lay 28 = .ok (.if_icmp .lt 41, 3) := by decide +kernel
theorem dX10_lay_31 : decode cX10_lay 31 = .ok (.iload 4, 2) := by decide +kernel
theorem dX10_lay_33 : decode cX10_lay 33 = .ok (.bipush 126, 2) := by decide +kernel
theorem dX10_lay_35 : decode cX10_lay 35 = .ok (.if_icmp .gt 34, 3) := by decide +kernel
theorem dX10_lay_38 : decode cX10_lay 38 = .ok (.aload_n 0, 1) := by decide +kernel
theorem dX10_lay_39 : decode cX10_lay 39 = .ok (.getfield 11, 3) := by decide +kernel
theorem dX10_lay_42 : decode cX10_lay 42 = .ok (.sipush 1000, 3) := by decide +kernel
theorem dX10_lay_45 : decode cX10_lay 45 = .ok (.if_icmp .ge 24, 3) := by decide +kernel
theorem dX10_lay_48 : decode cX10_lay 48 = .ok (.aload_n 0, 1) := by decide +kernel
theorem dX10_lay_49 : decode cX10_lay 49 = .ok (.getfield 14, 3) := by decide +kernel
theorem dX10_lay_52 : decode cX10_lay 52 = .ok (.aload_n 0, 1) := by decide +kernel
theorem dX10_lay_53 : decode cX10_lay 53 = .ok (.getfield 11, 3) := by decide +kernel
theorem dX10_lay_56 : decode cX10_lay 56 = .ok (.iload 4, 2) := by decide +kernel
theorem dX10_lay_58 : decode cX10_lay 58 = .ok (.iastore, 1) := by decide +kernel
theorem dX10_lay_59 : decode cX10_lay 59 = .ok (.aload_n 0, 1) := by decide +kernel
theorem dX10_lay_60 : decode cX10_lay 60 = .ok (.dup, 1) := by decide +kernel
theorem dX10_lay_61 : decode cX10_lay 61 = .ok (.getfield 11, 3) := by decide +kernel
theorem dX10_lay_64 : decode cX10_lay 64 = .ok (.iconst 1, 1) := by decide +kernel
theorem dX10_lay_65 : decode cX10_lay 65 = .ok (.iadd, 1) := by decide +kernel
theorem dX10_lay_66 : decode cX10_lay 66 = .ok (.putfield 11, 3) := by decide +kernel
theorem dX10_lay_69 : decode cX10_lay 69 = .ok (.iinc 3 (-8), 3) := by decide +kernel
theorem dX10_lay_72 : decode cX10_lay 72 = .ok (.goto (-69), 3) := by decide +kernel
theorem dX10_lay_75 : decode cX10_lay 75 = .ok (.return_, 1) := by decide +kernel
theorem dX10_init_0 : decode cX10_init 0 = .ok (.aload_n 0, 1) := by decide +kernel
theorem dX10_init_1 : decode cX10_init 1 = .ok (.invokespecial 18, 3) := by decide +kernel
theorem dX10_init_4 : decode cX10_init 4 = .ok (.aload_n 0, 1) := by decide +kernel
theorem dX10_init_5 : decode cX10_init 5 = .ok (.sipush 1000, 3) := by decide +kernel
theorem dX10_init_8 : decode cX10_init 8 = .ok (.newarray .int, 2) := by decide +kernel
theorem dX10_init_10 : decode cX10_init 10 = .ok (.putfield 14, 3) := by decide +kernel
theorem dX10_init_13 : decode cX10_init 13 = .ok (.aload_n 0, 1) := by decide +kernel
theorem dX10_init_14 : decode cX10_init 14 = .ok (.sipush 1002, 3) := by decide +kernel
theorem dX10_init_17 : decode cX10_init 17 = .ok (.newarray .int, 2) := by decide +kernel
theorem dX10_init_19 : decode cX10_init 19 = .ok (.putfield 24, 3) := by decide +kernel
theorem dX10_init_22 : decode cX10_init 22 = .ok (.aload_n 0, 1) := by decide +kernel
theorem dX10_init_23 : decode cX10_init 23 = .ok (.sipush 1002, 3) := by decide +kernel
theorem dX10_init_26 : decode cX10_init 26 = .ok (.newarray .int, 2) := by decide +kernel
theorem dX10_init_28 : decode cX10_init 28 = .ok (.putfield 27, 3) := by decide +kernel
theorem dX10_init_31 : decode cX10_init 31 = .ok (.aload_n 0, 1) := by decide +kernel
theorem dX10_init_32 : decode cX10_init 32 = .ok (.sipush 1002, 3) := by decide +kernel
theorem dX10_init_35 : decode cX10_init 35 = .ok (.newarray .long, 2) := by decide +kernel
theorem dX10_init_37 : decode cX10_init 37 = .ok (.putfield 30, 3) := by decide +kernel
theorem dX10_init_40 : decode cX10_init 40 = .ok (.aload_n 0, 1) := by decide +kernel
theorem dX10_init_41 : decode cX10_init 41 = .ok (.bipush 17, 2) := by decide +kernel
theorem dX10_init_43 : decode cX10_init 43 = .ok (.newarray .long, 2) := by decide +kernel
theorem dX10_init_45 : decode cX10_init 45 = .ok (.dup, 1) := by decide +kernel
theorem dX10_init_46 : decode cX10_init 46 = .ok (.iconst 0, 1) := by decide +kernel
theorem dX10_init_47 : decode cX10_init 47 = .ok (.ldc2_w 34, 3) := by decide +kernel
theorem dX10_init_50 : decode cX10_init 50 = .ok (.lastore, 1) := by decide +kernel
theorem dX10_init_51 : decode cX10_init 51 = .ok (.dup, 1) := by decide +kernel
theorem dX10_init_52 : decode cX10_init 52 = .ok (.iconst 1, 1) := by decide +kernel
theorem dX10_init_53 : decode cX10_init 53 = .ok (.ldc2_w 36, 3) := by decide +kernel
theorem dX10_init_56 : decode cX10_init 56 = .ok (.lastore, 1) := by decide +kernel
theorem dX10_init_57 : decode cX10_init 57 = .ok (.dup, 1) := by decide +kernel
theorem dX10_init_58 : decode cX10_init 58 = .ok (.iconst 2, 1) := by decide +kernel
theorem dX10_init_59 : decode cX10_init 59 = .ok (.ldc2_w 38, 3) := by decide +kernel
theorem dX10_init_62 : decode cX10_init 62 = .ok (.lastore, 1) := by decide +kernel
theorem dX10_init_63 : decode cX10_init 63 = .ok (.dup, 1) := by decide +kernel
theorem dX10_init_64 : decode cX10_init 64 = .ok (.iconst 3, 1) := by decide +kernel
theorem dX10_init_65 : decode cX10_init 65 = .ok (.ldc2_w 40, 3) := by decide +kernel
theorem dX10_init_68 : decode cX10_init 68 = .ok (.lastore, 1) := by decide +kernel
theorem dX10_init_69 : decode cX10_init 69 = .ok (.dup, 1) := by decide +kernel
theorem dX10_init_70 : decode cX10_init 70 = .ok (.iconst 4, 1) := by decide +kernel
theorem dX10_init_71 : decode cX10_init 71 = .ok (.ldc2_w 42, 3) := by decide +kernel
theorem dX10_init_74 : decode cX10_init 74 = .ok (.lastore, 1) := by decide +kernel
theorem dX10_init_75 : decode cX10_init 75 = .ok (.dup, 1) := by decide +kernel
theorem dX10_init_76 : decode cX10_init 76 = .ok (.iconst 5, 1) := by decide +kernel
theorem dX10_init_77 : decode cX10_init 77 = .ok (.ldc2_w 44, 3) := by decide +kernel
theorem dX10_init_80 : decode cX10_init 80 = .ok (.lastore, 1) := by decide +kernel
theorem dX10_init_81 : decode cX10_init 81 = .ok (.dup, 1) := by decide +kernel
theorem dX10_init_82 : decode cX10_init 82 = .ok (.bipush 6, 2) := by decide +kernel
theorem dX10_init_84 : decode cX10_init 84 = .ok (.ldc2_w 46, 3) := by decide +kernel
theorem dX10_init_87 : decode cX10_init 87 = .ok (.lastore, 1) := by decide +kernel
theorem dX10_init_88 : decode cX10_init 88 = .ok (.dup, 1) := by decide +kernel
theorem dX10_init_89 : decode cX10_init 89 = .ok (.bipush 7, 2) := by decide +kernel
theorem dX10_init_91 : decode cX10_init 91 = .ok (.ldc2_w 48, 3) := by decide +kernel
theorem dX10_init_94 : decode cX10_init 94 = .ok (.lastore, 1) := by decide +kernel
theorem dX10_init_95 : decode cX10_init 95 = .ok (.dup, 1) := by decide +kernel
theorem dX10_init_96 : decode cX10_init 96 = .ok (.bipush 8, 2) := by decide +kernel
theorem dX10_init_98 : decode cX10_init 98 = .ok (.ldc2_w 50, 3) := by decide +kernel
theorem dX10_init_101 : decode cX10_init 101 = .ok (.lastore, 1) := by decide +kernel
theorem dX10_init_102 : decode cX10_init 102 = .ok (.dup, 1) := by decide +kernel
theorem dX10_init_103 : decode cX10_init 103 = .ok (.bipush 9, 2) := by decide +kernel
theorem dX10_init_105 : decode cX10_init 105 = .ok (.ldc2_w 52, 3) := by decide +kernel
theorem dX10_init_108 : decode cX10_init 108 = .ok (.lastore, 1) := by decide +kernel
theorem dX10_init_109 : decode cX10_init 109 = .ok (.dup, 1) := by decide +kernel
theorem dX10_init_110 : decode cX10_init 110 = .ok (.bipush 10, 2) := by decide +kernel
theorem dX10_init_112 : decode cX10_init 112 = .ok (.ldc2_w 54, 3) := by decide +kernel
theorem dX10_init_115 : decode cX10_init 115 = .ok (.lastore, 1) := by decide +kernel
theorem dX10_init_116 : decode cX10_init 116 = .ok (.dup, 1) := by decide +kernel
theorem dX10_init_117 : decode cX10_init 117 = .ok (.bipush 11, 2) := by decide +kernel
theorem dX10_init_119 : decode cX10_init 119 = .ok (.ldc2_w 56, 3) := by decide +kernel
theorem dX10_init_122 : decode cX10_init 122 = .ok (.lastore, 1) := by decide +kernel
theorem dX10_init_123 : decode cX10_init 123 = .ok (.dup, 1) := by decide +kernel
theorem dX10_init_124 : decode cX10_init 124 = .ok (.bipush 12, 2) := by decide +kernel
theorem dX10_init_126 : decode cX10_init 126 = .ok (.ldc2_w 58, 3) := by decide +kernel
theorem dX10_init_129 : decode cX10_init 129 = .ok (.lastore, 1) := by decide +kernel
theorem dX10_init_130 : decode cX10_init 130 = .ok (.dup, 1) := by decide +kernel
theorem dX10_init_131 : decode cX10_init 131 = .ok (.bipush 13, 2) := by decide +kernel
theorem dX10_init_133 : decode cX10_init 133 = .ok (.ldc2_w 60, 3) := by decide +kernel
theorem dX10_init_136 : decode cX10_init 136 = .ok (.lastore, 1) := by decide +kernel
theorem dX10_init_137 : decode cX10_init 137 = .ok (.dup, 1) := by decide +kernel
theorem dX10_init_138 : decode cX10_init 138 = .ok (.bipush 14, 2) := by decide +kernel
theorem dX10_init_140 : decode cX10_init 140 = .ok (.ldc2_w 62, 3) := by decide +kernel
theorem dX10_init_143 : decode cX10_init 143 = .ok (.lastore, 1) := by decide +kernel
theorem dX10_init_144 : decode cX10_init 144 = .ok (.dup, 1) := by decide +kernel
theorem dX10_init_145 : decode cX10_init 145 = .ok (.bipush 15, 2) := by decide +kernel
theorem dX10_init_147 : decode cX10_init 147 = .ok (.ldc2_w 64, 3) := by decide +kernel
theorem dX10_init_150 : decode cX10_init 150 = .ok (.lastore, 1) := by decide +kernel
theorem dX10_init_151 : decode cX10_init 151 = .ok (.dup, 1) := by decide +kernel
theorem dX10_init_152 : decode cX10_init 152 = .ok (.bipush 16, 2) := by decide +kernel
theorem dX10_init_154 : decode cX10_init 154 = .ok (.ldc2_w 66, 3) := by decide +kernel
theorem dX10_init_157 : decode cX10_init 157 = .ok (.lastore, 1) := by decide +kernel
theorem dX10_init_158 : decode cX10_init 158 = .ok (.putfield 68, 3) := by decide +kernel
theorem dX10_init_161 : decode cX10_init 161 = .ok (.aload_n 0, 1) := by decide +kernel
theorem dX10_init_162 : decode cX10_init 162 = .ok (.iconst 4, 1) := by decide +kernel
theorem dX10_init_163 : decode cX10_init 163 = .ok (.newarray .int, 2) := by decide +kernel
theorem dX10_init_165 : decode cX10_init 165 = .ok (.putfield 71, 3) := by decide +kernel
theorem dX10_init_168 : decode cX10_init 168 = .ok (.aload_n 0, 1) := by decide +kernel
theorem dX10_init_169 : decode cX10_init 169 = .ok (.iconst 4, 1) := by decide +kernel
theorem dX10_init_170 : decode cX10_init 170 = .ok (.newarray .int, 2) := by decide +kernel
theorem dX10_init_172 : decode cX10_init 172 = .ok (.putfield 74, 3) := by decide +kernel
theorem dX10_init_175 : decode cX10_init 175 = .ok (.aload_n 0, 1) := by decide +kernel
theorem dX10_init_176 : decode cX10_init 176 = .ok (.iconst 4, 1) := by decide +kernel
theorem dX10_init_177 : decode cX10_init 177 = .ok (.newarray .int, 2) := by decide +kernel
theorem dX10_init_179 : decode cX10_init 179 = .ok (.putfield 77, 3) := by decide +kernel
theorem dX10_init_182 : decode cX10_init 182 = .ok (.aload_n 0, 1) := by decide +kernel
theorem dX10_init_183 : decode cX10_init 183 = .ok (.iconst 5, 1) := by decide +kernel
theorem dX10_init_184 : decode cX10_init 184 = .ok (.newarray .int, 2) := by decide +kernel
theorem dX10_init_186 : decode cX10_init 186 = .ok (.putfield 80, 3) := by decide +kernel
theorem dX10_init_189 : decode cX10_init 189 = .ok (.aload_n 0, 1) := by decide +kernel
theorem dX10_init_190 : decode cX10_init 190 = .ok (.bipush 120, 2) := by decide +kernel
theorem dX10_init_192 : decode cX10_init 192 = .ok (.newarray .boolean, 2) := by decide +kernel
theorem dX10_init_194 : decode cX10_init 194 = .ok (.putfield 83, 3) := by decide +kernel
theorem dX10_init_197 : decode cX10_init 197 = .ok (.aload_n 0, 1) := by decide +kernel
theorem dX10_init_198 : decode cX10_init 198 = .ok (.bipush 120, 2) := by decide +kernel
theorem dX10_init_200 : decode cX10_init 200 = .ok (.newarray .int, 2) := by decide +kernel
theorem dX10_init_202 : decode cX10_init 202 = .ok (.putfield 87, 3) := by decide +kernel
theorem dX10_init_205 : decode cX10_init 205 = .ok (.aload_n 0, 1) := by decide +kernel
theorem dX10_init_206 : decode cX10_init 206 = .ok (.bipush 120, 2) := by decide +kernel
theorem dX10_init_208 : decode cX10_init 208 = .ok (.newarray .int, 2) := by decide +kernel
theorem dX10_init_210 : decode cX10_init 210 = .ok (.putfield 90, 3) := by decide +kernel
theorem dX10_init_213 : decode cX10_init 213 = .ok (.aload_n 0, 1) := by decide +kernel
theorem dX10_init_214 : decode cX10_init 214 = .ok (.bipush 120, 2) := by decide +kernel
theorem dX10_init_216 : decode cX10_init 216 = .ok (.newarray .int, 2) := by decide +kernel
theorem dX10_init_218 : decode cX10_init 218 = .ok (.putfield 93, 3) := by decide +kernel
theorem dX10_init_221 : decode cX10_init 221 = .ok (.aload_n 0, 1) := by decide +kernel
theorem dX10_init_222 : decode cX10_init 222 = .ok (.sipush 5300, 3) := by decide +kernel
theorem dX10_init_225 : decode cX10_init 225 = .ok (.newarray .int, 2) := by decide +kernel
theorem dX10_init_227 : decode cX10_init 227 = .ok (.putfield 96, 3) := by decide +kernel
theorem dX10_init_230 : decode cX10_init 230 = .ok (.aload_n 0, 1) := by decide +kernel
theorem dX10_init_231 : decode cX10_init 231 = .ok (.sipush 5300, 3) := by decide +kernel
theorem dX10_init_234 : decode cX10_init 234 = .ok (.newarray .int, 2) := by decide +kernel
theorem dX10_init_236 : decode cX10_init 236 = .ok (.putfield 99, 3) := by decide +kernel
theorem dX10_init_239 : decode cX10_init 239 = .ok (.aload_n 0, 1) := by decide +kernel
theorem dX10_init_240 : decode cX10_init 240 = .ok (.bipush 7, 2) := by decide +kernel
theorem dX10_init_242 : decode cX10_init 242 = .ok (.newarray .int, 2) := by decide +kernel
theorem dX10_init_244 : decode cX10_init 244 = .ok (.putfield 102, 3) := by decide +kernel
theorem dX10_init_247 : decode cX10_init 247 = .ok (.aload_n 0, 1) := by decide +kernel
theorem dX10_init_248 : decode cX10_init 248 = .ok (.bipush 7, 2) := by decide +kernel
theorem dX10_init_250 : decode cX10_init 250 = .ok (.newarray .int, 2) := by decide +kernel
theorem dX10_init_252 : decode cX10_init 252 = .ok (.putfield 105, 3) := by decide +kernel
theorem dX10_init_255 : decode cX10_init 255 = .ok (.aload_n 0, 1) := by decide +kernel
theorem dX10_init_256 : decode cX10_init 256 = .ok (.bipush 7, 2) := by decide +kernel
theorem dX10_init_258 : decode cX10_init 258 = .ok (.newarray .int, 2) := by decide +kernel
theorem dX10_init_260 : decode cX10_init 260 = .ok (.putfield 108, 3) := by decide +kernel
theorem dX10_init_263 : decode cX10_init 263 = .ok (.aload_n 0, 1) := by decide +kernel
theorem dX10_init_264 : decode cX10_init 264 = .ok (.bipush 13, 2) := by decide +kernel
theorem dX10_init_266 : decode cX10_init 266 = .ok (.newarray .int, 2) := by decide +kernel
theorem dX10_init_268 : decode cX10_init 268 = .ok (.putfield 111, 3) := by decide +kernel
theorem dX10_init_271 : decode cX10_init 271 = .ok (.aload_n 0, 1) := by decide +kernel
theorem dX10_init_272 : decode cX10_init 272 = .ok (.sipush 1060, 3) := by decide +kernel
theorem dX10_init_275 : decode cX10_init 275 = .ok (.newarray .int, 2) := by decide +kernel
theorem dX10_init_277 : decode cX10_init 277 = .ok (.putfield 114, 3) := by decide +kernel
theorem dX10_init_280 : decode cX10_init 280 = .ok (.aload_n 0, 1) := by decide +kernel
theorem dX10_init_281 : decode cX10_init 281 = .ok (.iconst 1, 1) := by decide +kernel
theorem dX10_init_282 : decode cX10_init 282 = .ok (.putfield 117, 3) := by decide +kernel
theorem dX10_init_285 : decode cX10_init 285 = .ok (.aload_n 0, 1) := by decide +kernel
theorem dX10_init_286 : decode cX10_init 286 = .ok (.iconst 4, 1) := by decide +kernel
theorem dX10_init_287 : decode cX10_init 287 = .ok (.newarray .int, 2) := by decide +kernel
theorem dX10_init_289 : decode cX10_init 289 = .ok (.putfield 120, 3) := by decide +kernel
theorem dX10_init_292 : decode cX10_init 292 = .ok (.aload_n 0, 1) := by decide +kernel
theorem dX10_init_293 : decode cX10_init 293 = .ok (.bipush 64, 2) := by decide +kernel
theorem dX10_init_295 : decode cX10_init 295 = .ok (.newarray .int, 2) := by decide +kernel
theorem dX10_init_297 : decode cX10_init 297 = .ok (.putfield 123, 3) := by decide +kernel
theorem dX10_init_300 : decode cX10_init 300 = .ok (.aload_n 0, 1) := by decide +kernel
theorem dX10_init_301 : decode cX10_init 301 = .ok (.bipush 64, 2) := by decide +kernel
theorem dX10_init_303 : decode cX10_init 303 = .ok (.newarray .int, 2) := by decide +kernel
theorem dX10_init_305 : decode cX10_init 305 = .ok (.putfield 126, 3) := by decide +kernel
theorem dX10_init_308 : decode cX10_init 308 = .ok (.aload_n 0, 1) := by decide +kernel
theorem dX10_init_309 : decode cX10_init 309 = .ok (.bipush 64, 2) := by decide +kernel
theorem dX10_init_311 : decode cX10_init 311 = .ok (.newarray .int, 2) := by decide +kernel
theorem dX10_init_313 : decode cX10_init 313 = .ok (.putfield 129, 3) := by decide +kernel
theorem dX10_init_316 : decode cX10_init 316 = .ok (.aload_n 0, 1) := by decide +kernel
theorem dX10_init_317 : decode cX10_init 317 = .ok (.bipush 64, 2) := by decide +kernel
theorem dX10_init_319 : decode cX10_init 319 = .ok (.newarray .boolean, 2) := by decide +kernel
theorem dX10_init_321 : decode cX10_init 321 = .ok (.putfield 132, 3) := by decide +kernel
theorem dX10_init_324 : decode cX10_init 324 = .ok (.aload_n 0, 1) := by decide +kernel
theorem dX10_init_325 : decode cX10_init 325 = .ok (.bipush 64, 2) := by decide +kernel
theorem dX10_init_327 : decode cX10_init 327 = .ok (.newarray .boolean, 2) := by decide +kernel
theorem dX10_init_329 : decode cX10_init 329 = .ok (.putfield 135, 3) := by decide +kernel
theorem dX10_init_332 : decode cX10_init 332 = .ok (.aload_n 0, 1) := by decide +kernel
theorem dX10_init_333 : decode cX10_init 333 = .ok (.iconst 4, 1) := by decide +kernel
theorem dX10_init_334 : decode cX10_init 334 = .ok (.newarray .int, 2) := by decide +kernel
theorem dX10_init_336 : decode cX10_init 336 = .ok (.putfield 138, 3) := by decide +kernel
theorem dX10_init_339 : decode cX10_init 339 = .ok (.aload_n 0, 1) := by decide +kernel
theorem dX10_init_340 : decode cX10_init 340 = .ok (.sipush 960, 3) := by decide +kernel
theorem dX10_init_343 : decode cX10_init 343 = .ok (.newarray .int, 2) := by decide +kernel
theorem dX10_init_345 : decode cX10_init 345 = .ok (.putfield 141, 3) := by decide +kernel
theorem dX10_init_348 : decode cX10_init 348 = .ok (.aload_n 0, 1) := by decide +kernel
theorem dX10_init_349 : decode cX10_init 349 = .ok (.bipush 6, 2) := by decide +kernel
theorem dX10_init_351 : decode cX10_init 351 = .ok (.putfield 144, 3) := by decide +kernel
theorem dX10_init_354 : decode cX10_init 354 = .ok (.aload_n 0, 1) := by decide +kernel
theorem dX10_init_355 : decode cX10_init 355 = .ok (.iconst 1, 1) := by decide +kernel
theorem dX10_init_356 : decode cX10_init 356 = .ok (.putfield 147, 3) := by decide +kernel
theorem dX10_init_359 : decode cX10_init 359 = .ok (.aload_n 0, 1) := by decide +kernel
theorem dX10_init_360 : decode cX10_init 360 = .ok (.iconst 1, 1) := by decide +kernel
theorem dX10_init_361 : decode cX10_init 361 = .ok (.putfield 150, 3) := by decide +kernel
theorem dX10_init_364 : decode cX10_init 364 = .ok (.aload_n 0, 1) := by decide +kernel
theorem dX10_init_365 : decode cX10_init 365 = .ok (.bipush 17, 2) := by decide +kernel
theorem dX10_init_367 : decode cX10_init 367 = .ok (.newarray .int, 2) := by decide +kernel
theorem dX10_init_369 : decode cX10_init 369 = .ok (.putfield 153, 3) := by decide +kernel
theorem dX10_init_372 : decode cX10_init 372 = .ok (.aload_n 0, 1) := by decide +kernel
theorem dX10_init_373 : decode cX10_init 373 = .ok (.bipush 16, 2) := by decide +kernel
theorem dX10_init_375 : decode cX10_init 375 = .ok (.newarray .int, 2) := by decide +kernel
theorem dX10_init_377 : decode cX10_init 377 = .ok (.putfield 156, 3) := by decide +kernel
theorem dX10_init_380 : decode cX10_init 380 = .ok (.aload_n 0, 1) := by decide +kernel
theorem dX10_init_381 : decode cX10_init 381 = .ok (.bipush 16, 2) := by decide +kernel
theorem dX10_init_383 : decode cX10_init 383 = .ok (.newarray .int, 2) := by decide +kernel
theorem dX10_init_385 : decode cX10_init 385 = .ok (.putfield 159, 3) := by decide +kernel
theorem dX10_init_388 : decode cX10_init 388 = .ok (.aload_n 0, 1) := by decide +kernel
theorem dX10_init_389 : decode cX10_init 389 = .ok (.bipush 16, 2) := by decide +kernel
theorem dX10_init_391 : decode cX10_init 391 = .ok (.newarray .int, 2) := by decide +kernel
theorem dX10_init_393 : decode cX10_init 393 = .ok (.putfield 162, 3) := by decide +kernel
theorem dX10_init_396 : decode cX10_init 396 = .ok (.aload_n 0, 1) := by decide +kernel
theorem dX10_init_397 : decode cX10_init 397 = .ok (.bipush 16, 2) := by decide +kernel
theorem dX10_init_399 : decode cX10_init 399 = .ok (.newarray .boolean, 2) := by decide +kernel
theorem dX10_init_401 : decode cX10_init 401 = .ok (.putfield 165, 3) := by decide +kernel
theorem dX10_init_404 : decode cX10_init 404 = .ok (.aload_n 0, 1) := by decide +kernel
theorem dX10_init_405 : decode cX10_init 405 = .ok (.bipush 80, 2) := by decide +kernel
theorem dX10_init_407 : decode cX10_init 407 = .ok (.newarray .int, 2) := by decide +kernel
theorem dX10_init_409 : decode cX10_init 409 = .ok (.putfield 168, 3) := by decide +kernel
theorem dX10_init_412 : decode cX10_init 412 = .ok (.aload_n 0, 1) := by decide +kernel
theorem dX10_init_413 : decode cX10_init 413 = .ok (.bipush 80, 2) := by decide +kernel
theorem dX10_init_415 : decode cX10_init 415 = .ok (.newarray .int, 2) := by decide +kernel
theorem dX10_init_417 : decode cX10_init 417 = .ok (.putfield 171, 3) := by decide +kernel
theorem dX10_init_420 : decode cX10_init 420 = .ok (.aload_n 0, 1) := by decide +kernel
theorem dX10_init_421 : decode cX10_init 421 = .ok (.bipush 80, 2) := by decide +kernel
theorem dX10_init_423 : decode cX10_init 423 = .ok (.newarray .int, 2) := by decide +kernel
theorem dX10_init_425 : decode cX10_init 425 = .ok (.putfield 174, 3) := by decide +kernel
theorem dX10_init_428 : decode cX10_init 428 = .ok (.aload_n 0, 1) := by decide +kernel
theorem dX10_init_429 : decode cX10_init 429 = .ok (.bipush 80, 2) := by decide +kernel
theorem dX10_init_431 : decode cX10_init 431 = .ok (.newarray .boolean, 2) := by decide +kernel
theorem dX10_init_433 : decode cX10_init 433 = .ok (.putfield 177, 3) := by decide +kernel
theorem dX10_init_436 : decode cX10_init 436 = .ok (.aload_n 0, 1) := by decide +kernel
theorem dX10_init_437 : decode cX10_init 437 = .ok (.sipush 240, 3) := by decide +kernel
theorem dX10_init_440 : decode cX10_init 440 = .ok (.newarray .int, 2) := by decide +kernel
theorem dX10_init_442 : decode cX10_init 442 = .ok (.putfield 180, 3) := by decide +kernel
theorem dX10_init_445 : decode cX10_init 445 = .ok (.aload_n 0, 1) := by decide +kernel
theorem dX10_init_446 : decode cX10_init 446 = .ok (.bipush 16, 2) := by decide +kernel
theorem dX10_init_448 : decode cX10_init 448 = .ok (.newarray .int, 2) := by decide +kernel
theorem dX10_init_450 : decode cX10_init 450 = .ok (.putfield 183, 3) := by decide +kernel
theorem dX10_init_453 : decode cX10_init 453 = .ok (.aload_n 0, 1) := by decide +kernel
theorem dX10_init_454 : decode cX10_init 454 = .ok (.bipush 16, 2) := by decide +kernel
theorem dX10_init_456 : decode cX10_init 456 = .ok (.newarray .int, 2) := by decide +kernel
theorem dX10_init_458 : decode cX10_init 458 = .ok (.putfield 186, 3) := by decide +kernel
theorem dX10_init_461 : decode cX10_init 461 = .ok (.aload_n 0, 1) := by decide +kernel
theorem dX10_init_462 : decode cX10_init 462 = .ok (.sipush 320, 3) := by decide +kernel
theorem dX10_init_465 : decode cX10_init 465 = .ok (.newarray .int, 2) := by decide +kernel
theorem dX10_init_467 : decode cX10_init 467 = .ok (.putfield 189, 3) := by decide +kernel
theorem dX10_init_470 : decode cX10_init 470 = .ok (.iconst 0, 1) := by decide +kernel
theorem dX10_init_471 : decode cX10_init 471 = .ok (.istore_n 1, 1) := by decide +kernel
theorem dX10_init_472 : decode cX10_init 472 = .ok (.iload_n 1, 1) := by decide +kernel
theorem dX10_init_473 : decode cX10_init 473 = .ok (.iconst 4, 1) := by decide +kernel
theorem dX10_init_474 : decode cX10_init 474 = .ok (.if_icmp .ge 25, 3) := by decide +kernel
theorem dX10_init_477 : decode cX10_init 477 = .ok (.aload_n 0, 1) := by decide +kernel
theorem dX10_init_478 : decode cX10_init 478 = .ok (.getfield 74, 3) := by decide +kernel
theorem dX10_init_481 : decode cX10_init 481 = .ok (.iload_n 1, 1) := by decide +kernel
theorem dX10_init_482 : decode cX10_init 482 = .ok (.bipush 99, 2) := by decide +kernel
theorem dX10_init_484 : decode cX10_init 484 = .ok (.iastore, 1) := by decide +kernel
theorem dX10_init_485 : decode cX10_init 485 = .ok (.aload_n 0, 1) := by decide +kernel
theorem dX10_init_486 : decode cX10_init 486 = .ok (.getfield 77, 3) := by decide +kernel
theorem dX10_init_489 : decode cX10_init 489 = .ok (.iload_n 1, 1) := by decide +kernel
theorem dX10_init_490 : decode cX10_init 490 = .ok (.bipush 99, 2) := by decide +kernel
theorem dX10_init_492 : decode cX10_init 492 = .ok (.iastore, 1) := by decide +kernel
theorem dX10_init_493 : decode cX10_init 493 = .ok (.iinc 1 1, 3) := by decide +kernel
theorem dX10_init_496 : decode cX10_init 496 = .ok (.goto (-24), 3) := by decide +kernel
theorem dX10_init_499 : decode cX10_init 499 = .ok (.iconst 0, 1) := by decide +kernel
theorem dX10_init_500 : decode cX10_init 500 = .ok (.istore_n 1, 1) := by decide +kernel
theorem dX10_init_501 : decode cX10_init 501 = .ok (.iload_n 1, 1) := by decide +kernel
theorem dX10_init_502 : decode cX10_init 502 = .ok (.sipush 960, 3) := by decide +kernel
theorem dX10_init_505 : decode cX10_init 505 = .ok (.if_icmp .ge 16, 3) := by decide +kernel
theorem dX10_init_508 : decode cX10_init 508 = .ok (.aload_n 0, 1) := by decide +kernel
theorem dX10_init_509 : decode cX10_init 509 = .ok (.getfield 141, 3) := by decide +kernel
theorem dX10_init_512 : decode cX10_init 512 = .ok (.iload_n 1, 1) := by decide +kernel
theorem dX10_init_513 : decode cX10_init 513 = .ok (.iconst (-1), 1) := by decide +kernel
theorem dX10_init_514 : decode cX10_init 514 = .ok (.iastore, 1) := by decide +kernel
theorem dX10_init_515 : decode cX10_init 515 = .ok (.iinc 1 1, 3) := by decide +kernel
theorem dX10_init_518 : decode cX10_init 518 = .ok (.goto (-17), 3) := by decide +kernel
theorem dX10_init_521 : decode cX10_init 521 = .ok (.return_, 1) := by decide +kernel
theorem dX10_isLetter_0 : decode cX10_isLetter 0 = .ok (.iload_n 0, 1) := by decide +kernel
theorem dX10_isLetter_1 : decode cX10_isLetter 1 = .ok (.bipush 97, 2) := by decide +kernel
theorem dX10_isLetter_3 : decode cX10_isLetter 3 = .ok (.if_icmp .lt 13, 3) := by decide +kernel
theorem dX10_isLetter_6 : decode cX10_isLetter 6 = .ok (.iload_n 0, 1) := by decide +kernel
theorem dX10_isLetter_7 : decode cX10_isLetter 7 = .ok (.bipush 122, 2) := by decide +kernel
theorem dX10_isLetter_9 : decode cX10_isLetter 9 = .ok (.if_icmp .gt 7, 3) := by decide +kernel
theorem dX10_isLetter_12 : decode cX10_isLetter 12 = .ok (.iconst 1, 1) := by decide +kernel
theorem dX10_isLetter_13 : decode cX10_isLetter 13 = .ok (.goto 4, 3) := by decide +kernel
theorem dX10_isLetter_16 : decode cX10_isLetter 16 = .ok (.iconst 0, 1) := by decide +kernel
theorem dX10_isLetter_17 : decode cX10_isLetter 17 = .ok (.ireturn, 1) := by decide +kernel
theorem dX10_isDigit_0 : decode cX10_isDigit 0 = .ok (.iload_n 0, 1) := by decide +kernel
theorem dX10_isDigit_1 : decode cX10_isDigit 1 = .ok (.bipush 48, 2) := by decide +kernel
theorem dX10_isDigit_3 : decode cX10_isDigit 3 = .ok (.if_icmp .lt 13, 3) := by decide +kernel
theorem dX10_isDigit_6 : decode cX10_isDigit 6 = .ok (.iload_n 0, 1) := by decide +kernel
theorem dX10_isDigit_7 : decode cX10_isDigit 7 = .ok (.bipush 57, 2) := by decide +kernel
theorem dX10_isDigit_9 : decode cX10_isDigit 9 = .ok (.if_icmp .gt 7, 3) := by decide +kernel
theorem dX10_isDigit_12 : decode cX10_isDigit 12 = .ok (.iconst 1, 1) := by decide +kernel
theorem dX10_isDigit_13 : decode cX10_isDigit 13 = .ok (.goto 4, 3) := by decide +kernel
theorem dX10_isDigit_16 : decode cX10_isDigit 16 = .ok (.iconst 0, 1) := by decide +kernel
theorem dX10_isDigit_17 : decode cX10_isDigit 17 = .ok (.ireturn, 1) := by decide +kernel
theorem dX10_rank_0 : decode cX10_rank 0 = .ok (.iload_n 0, 1) := by decide +kernel
theorem dX10_rank_1 : decode cX10_rank 1 = .ok (.invokestatic 192, 3) := by decide +kernel
theorem dX10_rank_4 : decode cX10_rank 4 = .ok (.ifCond .eq 10, 3) := by decide +kernel
theorem dX10_rank_7 : decode cX10_rank 7 = .ok (.iload_n 0, 1) := by decide +kernel
theorem dX10_rank_8 : decode cX10_rank 8 = .ok (.bipush 96, 2) := by decide +kernel
theorem dX10_rank_10 : decode cX10_rank 10 = .ok (.isub, 1) := by decide +kernel
theorem dX10_rank_11 : decode cX10_rank 11 = .ok (.goto 7, 3) := by decide +kernel
theorem dX10_rank_14 : decode cX10_rank 14 = .ok (.iload_n 0, 1) := by decide +kernel
theorem dX10_rank_15 : decode cX10_rank 15 = .ok (.bipush 21, 2) := by decide +kernel
theorem dX10_rank_17 : decode cX10_rank 17 = .ok (.isub, 1) := by decide +kernel
theorem dX10_rank_18 : decode cX10_rank 18 = .ok (.ireturn, 1) := by decide +kernel
theorem dX10_isSignOf_0 : decode cX10_isSignOf 0 = .ok (.iload_n 0, 1) := by decide +kernel
theorem dX10_isSignOf_1 : decode cX10_isSignOf 1 = .ok (.bipush 40, 2) := by decide +kernel
theorem dX10_isSignOf_3 : decode cX10_isSignOf 3 = .ok (.if_icmp .eq 39, 3) := by decide +kernel
theorem dX10_isSignOf_6 : decode cX10_isSignOf 6 = .ok (.iload_n 0, 1) := by decide +kernel
theorem dX10_isSignOf_7 : decode cX10_isSignOf 7 = .ok (.bipush 41, 2) := by decide +kernel
theorem dX10_isSignOf_9 : decode cX10_isSignOf 9 = .ok (.if_icmp .eq 33, 3) := by decide +kernel
theorem dX10_isSignOf_12 : decode cX10_isSignOf 12 = .ok (.iload_n 0, 1) := by decide +kernel
theorem dX10_isSignOf_13 : decode cX10_isSignOf 13 = .ok (.bipush 59, 2) := by decide +kernel
theorem dX10_isSignOf_15 : decode cX10_isSignOf 15 = .ok (.if_icmp .eq 27, 3) := by decide +kernel
theorem dX10_isSignOf_18 : decode cX10_isSignOf 18 = .ok (.iload_n 0, 1) := by decide +kernel
theorem dX10_isSignOf_19 : decode cX10_isSignOf 19 = .ok (.bipush 61, 2) := by decide +kernel
theorem dX10_isSignOf_21 : decode cX10_isSignOf 21 = .ok (.if_icmp .eq 21, 3) := by decide +kernel
theorem dX10_isSignOf_24 : decode cX10_isSignOf 24 = .ok (.iload_n 0, 1) := by decide +kernel
theorem dX10_isSignOf_25 : decode cX10_isSignOf 25 = .ok (.bipush 60, 2) := by decide +kernel
theorem dX10_isSignOf_27 : decode cX10_isSignOf 27 = .ok (.if_icmp .eq 15, 3) := by decide +kernel
theorem dX10_isSignOf_30 : decode cX10_isSignOf 30 = .ok (.iload_n 0, 1) := by decide +kernel
theorem dX10_isSignOf_31 : decode cX10_isSignOf 31 = .ok (.bipush 43, 2) := by decide +kernel
theorem dX10_isSignOf_33 : decode cX10_isSignOf 33 = .ok (.if_icmp .eq 9, 3) := by decide +kernel
theorem dX10_isSignOf_36 : decode cX10_isSignOf 36 = .ok (.iload_n 0, 1) := by decide +kernel
theorem dX10_isSignOf_37 : decode cX10_isSignOf 37 = .ok (.bipush 45, 2) := by decide +kernel
theorem dX10_isSignOf_39 : decode cX10_isSignOf 39 = .ok (.if_icmp .ne 7, 3) := by decide +kernel
theorem dX10_isSignOf_42 : decode cX10_isSignOf 42 = .ok (.iconst 1, 1) := by decide +kernel
theorem dX10_isSignOf_43 : decode cX10_isSignOf 43 = .ok (.goto 4, 3) := by decide +kernel
theorem dX10_isSignOf_46 : decode cX10_isSignOf 46 = .ok (.iconst 0, 1) := by decide +kernel
theorem dX10_isSignOf_47 : decode cX10_isSignOf 47 = .ok (.ireturn, 1) := by decide +kernel
theorem dX10_cutAll_0 : decode cX10_cutAll 0 = .ok (.aload_n 0, 1) := by decide +kernel
theorem dX10_cutAll_1 : decode cX10_cutAll 1 = .ok (.aload_n 0, 1) := by decide +kernel
theorem dX10_cutAll_2 : decode cX10_cutAll 2 = .ok (.getfield 11, 3) := by decide +kernel
theorem dX10_cutAll_5 : decode cX10_cutAll 5 = .ok (.putfield 196, 3) := by decide +kernel
theorem dX10_cutAll_8 : decode cX10_cutAll 8 = .ok (.aload_n 0, 1) := by decide +kernel
theorem dX10_cutAll_9 : decode cX10_cutAll 9 = .ok (.iconst 0, 1) := by decide +kernel
theorem dX10_cutAll_10 : decode cX10_cutAll 10 = .ok (.putfield 11, 3) := by decide +kernel
theorem dX10_cutAll_13 : decode cX10_cutAll 13 = .ok (.iconst 0, 1) := by decide +kernel
theorem dX10_cutAll_14 : decode cX10_cutAll 14 = .ok (.istore_n 1, 1) := by decide +kernel
theorem dX10_cutAll_15 : decode cX10_cutAll 15 = .ok (.iconst 0, 1) := by decide +kernel
theorem dX10_cutAll_16 : decode cX10_cutAll 16 = .ok (.istore_n 2, 1) := by decide +kernel
theorem dX10_cutAll_17 : decode cX10_cutAll 17 = .ok (.iload_n 2, 1) := by decide +kernel
theorem dX10_cutAll_18 : decode cX10_cutAll 18 = .ok (.aload_n 0, 1) := by decide +kernel
theorem dX10_cutAll_19 : decode cX10_cutAll 19 = .ok (.getfield 196, 3) := by decide +kernel
theorem dX10_cutAll_22 : decode cX10_cutAll 22 = .ok (.if_icmp .ge 257, 3) := by decide +kernel
theorem dX10_cutAll_25 : decode cX10_cutAll 25 = .ok (.aload_n 0, 1) := by decide +kernel
theorem dX10_cutAll_26 : decode cX10_cutAll 26 = .ok (.getfield 14, 3) := by decide +kernel
theorem dX10_cutAll_29 : decode cX10_cutAll 29 = .ok (.iload_n 2, 1) := by decide +kernel
theorem dX10_cutAll_30 : decode cX10_cutAll 30 = .ok (.iaload, 1) := by decide +kernel
theorem dX10_cutAll_31 : decode cX10_cutAll 31 = .ok (.istore_n 3, 1) := by decide +kernel
theorem dX10_cutAll_32 : decode cX10_cutAll 32 = .ok (.iload_n 3, 1) := by decide +kernel
theorem dX10_cutAll_33 : decode cX10_cutAll 33 = .ok (.bipush 10, 2) := by decide +kernel
theorem dX10_cutAll_35 : decode cX10_cutAll 35 = .ok (.if_icmp .eq 9, 3) := by decide +kernel
theorem dX10_cutAll_38 : decode cX10_cutAll 38 = .ok (.iload_n 3, 1) := by decide +kernel
theorem dX10_cutAll_39 : decode cX10_cutAll 39 = .ok (.bipush 32, 2) := by decide +kernel
theorem dX10_cutAll_41 : decode cX10_cutAll 41 = .ok (.if_icmp .ne 9, 3) := by decide +kernel
theorem dX10_cutAll_44 : decode cX10_cutAll 44 = .ok (.iinc 2 1, 3) := by decide +kernel
theorem dX10_cutAll_47 : decode cX10_cutAll 47 = .ok (.goto (-30), 3) := by decide +kernel
theorem dX10_cutAll_50 : decode cX10_cutAll 50 = .ok (.iload_n 2, 1) := by decide +kernel
theorem dX10_cutAll_51 : decode cX10_cutAll 51 = .ok (.istore 4, 2) := by decide +kernel
theorem dX10_cutAll_53 : decode cX10_cutAll 53 = .ok (.lconst 0, 1) := by decide +kernel
theorem dX10_cutAll_54 : decode cX10_cutAll 54 = .ok (.lstore 5, 2) := by decide +kernel
theorem dX10_cutAll_56 : decode cX10_cutAll 56 = .ok (.aload_n 0, 1) := by decide +kernel
theorem dX10_cutAll_57 : decode cX10_cutAll 57 = .ok (.getfield 27, 3) := by decide +kernel
theorem dX10_cutAll_60 : decode cX10_cutAll 60 = .ok (.iload_n 1, 1) := by decide +kernel
theorem dX10_cutAll_61 : decode cX10_cutAll 61 = .ok (.iload_n 2, 1) := by decide +kernel
theorem dX10_cutAll_62 : decode cX10_cutAll 62 = .ok (.iastore, 1) := by decide +kernel
theorem dX10_cutAll_63 : decode cX10_cutAll 63 = .ok (.iload_n 3, 1) := by decide +kernel
theorem dX10_cutAll_64 : decode cX10_cutAll 64 = .ok (.invokestatic 192, 3) := by decide +kernel
theorem dX10_cutAll_67 : decode cX10_cutAll 67 = .ok (.ifCond .eq 85, 3) := by decide +kernel
theorem dX10_cutAll_70 : decode cX10_cutAll 70 = .ok (.iload_n 2, 1) := by decide +kernel
theorem dX10_cutAll_71 : decode cX10_cutAll 71 = .ok (.aload_n 0, 1) := by decide +kernel
theorem dX10_cutAll_72 : decode cX10_cutAll 72 = .ok (.getfield 196, 3) := by decide +kernel
theorem dX10_cutAll_75 : decode cX10_cutAll 75 = .ok (.if_icmp .ge 54, 3) := by decide +kernel
theorem dX10_cutAll_78 : decode cX10_cutAll 78 = .ok (.aload_n 0, 1) := by decide +kernel
theorem dX10_cutAll_79 : decode cX10_cutAll 79 = .ok (.getfield 14, 3) := by decide +kernel
theorem dX10_cutAll_82 : decode cX10_cutAll 82 = .ok (.iload_n 2, 1) := by decide +kernel
theorem dX10_cutAll_83 : decode cX10_cutAll 83 = .ok (.iaload, 1) := by decide +kernel
theorem dX10_cutAll_84 : decode cX10_cutAll 84 = .ok (.invokestatic 192, 3) := by decide +kernel
theorem dX10_cutAll_87 : decode cX10_cutAll 87 = .ok (.ifCond .eq 42, 3) := by decide +kernel
theorem dX10_cutAll_90 : decode cX10_cutAll 90 = .ok (.iload_n 2, 1) := by decide +kernel
theorem dX10_cutAll_91 : decode cX10_cutAll 91 = .ok (.iload 4, 2) := by decide +kernel
theorem dX10_cutAll_93 : decode cX10_cutAll 93 = .ok (.isub, 1) := by decide +kernel
theorem dX10_cutAll_94 : decode cX10_cutAll 94 = .ok (.bipush 8, 2) := by decide +kernel
theorem dX10_cutAll_96 : decode cX10_cutAll 96 = .ok (.if_icmp .ge 23, 3) := by decide +kernel
theorem dX10_cutAll_99 : decode cX10_cutAll 99 = .ok (.ldc2_w 199, 3) := by decide +kernel
theorem dX10_cutAll_102 : decode cX10_cutAll 102 = .ok (.lload 5, 2) := by decide +kernel
theorem dX10_cutAll_104 : decode cX10_cutAll 104 = .ok (.lmul, 1) := by decide +kernel
theorem dX10_cutAll_105 : decode cX10_cutAll 105 = .ok (.aload_n 0, 1) := by decide +kernel
theorem dX10_cutAll_106 : decode cX10_cutAll 106 = .ok (.getfield 14, 3) := by decide +kernel
theorem dX10_cutAll_109 : decode cX10_cutAll 109 = .ok (.iload_n 2, 1) := by decide +kernel
theorem dX10_cutAll_110 : decode cX10_cutAll 110 = .ok (.iaload, 1) := by decide +kernel
theorem dX10_cutAll_111 : decode cX10_cutAll 111 = .ok (.invokestatic 201, 3) := by decide +kernel
theorem dX10_cutAll_114 : decode cX10_cutAll 114 = .ok (.i2l, 1) := by decide +kernel
theorem dX10_cutAll_115 : decode cX10_cutAll 115 = .ok (.ladd, 1) := by decide +kernel
theorem dX10_cutAll_116 : decode cX10_cutAll 116 = .ok (.goto 5, 3) := by decide +kernel
theorem dX10_cutAll_119 : decode cX10_cutAll 119 = .ok (.lload 5, 2) := by decide +kernel
theorem dX10_cutAll_121 : decode cX10_cutAll 121 = .ok (.lstore 5, 2) := by decide +kernel
theorem dX10_cutAll_123 : decode cX10_cutAll 123 = .ok (.iinc 2 1, 3) := by decide +kernel
theorem dX10_cutAll_126 : decode cX10_cutAll 126 = .ok (.goto (-56), 3) := by decide +kernel
theorem dX10_cutAll_129 : decode cX10_cutAll 129 = .ok (.aload_n 0, 1) := by decide +kernel
theorem dX10_cutAll_130 : decode cX10_cutAll 130 = .ok (.getfield 24, 3) := by decide +kernel
theorem dX10_cutAll_133 : decode cX10_cutAll 133 = .ok (.iload_n 1, 1) := by decide +kernel
theorem dX10_cutAll_134 : decode cX10_cutAll 134 = .ok (.iload_n 2, 1) := by decide +kernel
theorem dX10_cutAll_135 : decode cX10_cutAll 135 = .ok (.iload 4, 2) := by decide +kernel
theorem dX10_cutAll_137 : decode cX10_cutAll 137 = .ok (.isub, 1) := by decide +kernel
theorem dX10_cutAll_138 : decode cX10_cutAll 138 = .ok (.bipush 8, 2) := by decide +kernel
theorem dX10_cutAll_140 : decode cX10_cutAll 140 = .ok (.if_icmp .le 7, 3) := by decide +kernel
theorem dX10_cutAll_143 : decode cX10_cutAll 143 = .ok (.iconst 4, 1) := by decide +kernel
theorem dX10_cutAll_144 : decode cX10_cutAll 144 = .ok (.goto 4, 3) := by decide +kernel
theorem dX10_cutAll_147 : decode cX10_cutAll 147 = .ok (.iconst 1, 1) := by decide +kernel
theorem dX10_cutAll_148 : decode cX10_cutAll 148 = .ok (.iastore, 1) := by decide +kernel
theorem dX10_cutAll_149 : decode cX10_cutAll 149 = .ok (.goto 116, 3) := by decide +kernel
theorem dX10_cutAll_152 : decode cX10_cutAll 152 = .ok (.iload_n 3, 1) := by decide +kernel
theorem dX10_cutAll_153 : decode cX10_cutAll 153 = .ok (.invokestatic 205, 3) := by decide +kernel
theorem dX10_cutAll_156 : decode cX10_cutAll 156 = .ok (.ifCond .eq 84, 3) := by decide +kernel
theorem dX10_cutAll_159 : decode cX10_cutAll 159 = .ok (.iload_n 2, 1) := by decide +kernel
theorem dX10_cutAll_160 : decode cX10_cutAll 160 = .ok (.aload_n 0, 1) := by decide +kernel
theorem dX10_cutAll_161 : decode cX10_cutAll 161 = .ok (.getfield 196, 3) := by decide +kernel
theorem dX10_cutAll_164 : decode cX10_cutAll 164 = .ok (.if_icmp .ge 54, 3) := by decide +kernel
theorem dX10_cutAll_167 : decode cX10_cutAll 167 = .ok (.aload_n 0, 1) := by decide +kernel
theorem dX10_cutAll_168 : decode cX10_cutAll 168 = .ok (.getfield 14, 3) := by decide +kernel
theorem dX10_cutAll_171 : decode cX10_cutAll 171 = .ok (.iload_n 2, 1) := by decide +kernel
theorem dX10_cutAll_172 : decode cX10_cutAll 172 = .ok (.iaload, 1) := by decide +kernel
theorem dX10_cutAll_173 : decode cX10_cutAll 173 = .ok (.invokestatic 205, 3) := by decide +kernel
theorem dX10_cutAll_176 : decode cX10_cutAll 176 = .ok (.ifCond .eq 42, 3) := by decide +kernel
theorem dX10_cutAll_179 : decode cX10_cutAll 179 = .ok (.iload_n 2, 1) := by decide +kernel
theorem dX10_cutAll_180 : decode cX10_cutAll 180 = .ok (.iload 4, 2) := by decide +kernel
theorem dX10_cutAll_182 : decode cX10_cutAll 182 = .ok (.isub, 1) := by decide +kernel
theorem dX10_cutAll_183 : decode cX10_cutAll 183 = .ok (.iconst 4, 1) := by decide +kernel
theorem dX10_cutAll_184 : decode cX10_cutAll 184 = .ok (.if_icmp .ge 24, 3) := by decide +kernel
theorem dX10_cutAll_187 : decode cX10_cutAll 187 = .ok (.ldc2_w 208, 3) := by decide +kernel
theorem dX10_cutAll_190 : decode cX10_cutAll 190 = .ok (.lload 5, 2) := by decide +kernel
theorem dX10_cutAll_192 : decode cX10_cutAll 192 = .ok (.lmul, 1) := by decide +kernel
theorem dX10_cutAll_193 : decode cX10_cutAll 193 = .ok (.aload_n 0, 1) := by decide +kernel
theorem dX10_cutAll_194 : decode cX10_cutAll 194 = .ok (.getfield 14, 3) := by decide +kernel
theorem dX10_cutAll_197 : decode cX10_cutAll 197 = .ok (.iload_n 2, 1) := by decide +kernel
theorem dX10_cutAll_198 : decode cX10_cutAll 198 = .ok (.iaload, 1) := by decide +kernel
theorem dX10_cutAll_199 : decode cX10_cutAll 199 = .ok (.i2l, 1) := by decide +kernel
theorem dX10_cutAll_200 : decode cX10_cutAll 200 = .ok (.ladd, 1) := by decide +kernel
theorem dX10_cutAll_201 : decode cX10_cutAll 201 = .ok (.ldc2_w 210, 3) := by decide +kernel
theorem dX10_cutAll_204 : decode cX10_cutAll 204 = .ok (.lsub, 1) := by decide +kernel
theorem dX10_cutAll_205 : decode cX10_cutAll 205 = .ok (.goto 5, 3) := by decide +kernel
theorem dX10_cutAll_208 : decode cX10_cutAll 208 = .ok (.lload 5, 2) := by decide +kernel
theorem dX10_cutAll_210 : decode cX10_cutAll 210 = .ok (.lstore 5, 2) := by decide +kernel
theorem dX10_cutAll_212 : decode cX10_cutAll 212 = .ok (.iinc 2 1, 3) := by decide +kernel
theorem dX10_cutAll_215 : decode cX10_cutAll 215 = .ok (.goto (-56), 3) := by decide +kernel
theorem dX10_cutAll_218 : decode cX10_cutAll 218 = .ok (.aload_n 0, 1) := by decide +kernel
theorem dX10_cutAll_219 : decode cX10_cutAll 219 = .ok (.getfield 24, 3) := by decide +kernel
theorem dX10_cutAll_222 : decode cX10_cutAll 222 = .ok (.iload_n 1, 1) := by decide +kernel
theorem dX10_cutAll_223 : decode cX10_cutAll 223 = .ok (.iload_n 2, 1) := by decide +kernel
theorem dX10_cutAll_224 : decode cX10_cutAll 224 = .ok (.iload 4, 2) := by decide +kernel
theorem dX10_cutAll_226 : decode cX10_cutAll 226 = .ok (.isub, 1) := by decide +kernel
theorem dX10_cutAll_227 : decode cX10_cutAll 227 = .ok (.iconst 4, 1) := by decide +kernel
theorem dX10_cutAll_228 : decode cX10_cutAll 228 = .ok (.if_icmp .le 7, 3) := by decide +kernel
theorem dX10_cutAll_231 : decode cX10_cutAll 231 = .ok (.iconst 4, 1) := by decide +kernel
theorem dX10_cutAll_232 : decode cX10_cutAll 232 = .ok (.goto 4, 3) := by decide +kernel
theorem dX10_cutAll_235 : decode cX10_cutAll 235 = .ok (.iconst 2, 1) := by decide +kernel
theorem dX10_cutAll_236 : decode cX10_cutAll 236 = .ok (.iastore, 1) := by decide +kernel
theorem dX10_cutAll_237 : decode cX10_cutAll 237 = .ok (.goto 28, 3) := by decide +kernel
theorem dX10_cutAll_240 : decode cX10_cutAll 240 = .ok (.iload_n 3, 1) := by decide +kernel
theorem dX10_cutAll_241 : decode cX10_cutAll 241 = .ok (.i2l, 1) := by decide +kernel
theorem dX10_cutAll_242 : decode cX10_cutAll 242 = .ok (.lstore 5, 2) := by decide +kernel
theorem dX10_cutAll_244 : decode cX10_cutAll 244 = .ok (.aload_n 0, 1) := by decide +kernel
theorem dX10_cutAll_245 : decode cX10_cutAll 245 = .ok (.getfield 24, 3) := by decide +kernel
theorem dX10_cutAll_248 : decode cX10_cutAll 248 = .ok (.iload_n 1, 1) := by decide +kernel
theorem dX10_cutAll_249 : decode cX10_cutAll 249 = .ok (.iload_n 3, 1) := by decide +kernel
theorem dX10_cutAll_250 : decode cX10_cutAll 250 = .ok (.invokestatic 212, 3) := by decide +kernel
theorem dX10_cutAll_253 : decode cX10_cutAll 253 = .ok (.ifCond .eq 7, 3) := by decide +kernel
theorem dX10_cutAll_256 : decode cX10_cutAll 256 = .ok (.iconst 3, 1) := by decide +kernel
theorem dX10_cutAll_257 : decode cX10_cutAll 257 = .ok (.goto 4, 3) := by decide +kernel
theorem dX10_cutAll_260 : decode cX10_cutAll 260 = .ok (.iconst 4, 1) := by decide +kernel
theorem dX10_cutAll_261 : decode cX10_cutAll 261 = .ok (.iastore, 1) := by decide +kernel
theorem dX10_cutAll_262 : decode cX10_cutAll 262 = .ok (.iinc 2 1, 3) := by decide +kernel
theorem dX10_cutAll_265 : decode cX10_cutAll 265 = .ok (.aload_n 0, 1) := by decide +kernel
theorem dX10_cutAll_266 : decode cX10_cutAll 266 = .ok (.getfield 30, 3) := by decide +kernel
theorem dX10_cutAll_269 : decode cX10_cutAll 269 = .ok (.iload_n 1, 1) := by decide +kernel
theorem dX10_cutAll_270 : decode cX10_cutAll 270 = .ok (.lload 5, 2) := by decide +kernel
theorem dX10_cutAll_272 : decode cX10_cutAll 272 = .ok (.lastore, 1) := by decide +kernel
theorem dX10_cutAll_273 : decode cX10_cutAll 273 = .ok (.iinc 1 1, 3) := by decide +kernel
theorem dX10_cutAll_276 : decode cX10_cutAll 276 = .ok (.goto (-259), 3) := by decide +kernel
theorem dX10_cutAll_279 : decode cX10_cutAll 279 = .ok (.aload_n 0, 1) := by decide +kernel
theorem dX10_cutAll_280 : decode cX10_cutAll 280 = .ok (.getfield 24, 3) := by decide +kernel
theorem dX10_cutAll_283 : decode cX10_cutAll 283 = .ok (.iload_n 1, 1) := by decide +kernel
theorem dX10_cutAll_284 : decode cX10_cutAll 284 = .ok (.iconst 0, 1) := by decide +kernel
theorem dX10_cutAll_285 : decode cX10_cutAll 285 = .ok (.iastore, 1) := by decide +kernel
theorem dX10_cutAll_286 : decode cX10_cutAll 286 = .ok (.aload_n 0, 1) := by decide +kernel
theorem dX10_cutAll_287 : decode cX10_cutAll 287 = .ok (.getfield 27, 3) := by decide +kernel
theorem dX10_cutAll_290 : decode cX10_cutAll 290 = .ok (.iload_n 1, 1) := by decide +kernel
theorem dX10_cutAll_291 : decode cX10_cutAll 291 = .ok (.aload_n 0, 1) := by decide +kernel
theorem dX10_cutAll_292 : decode cX10_cutAll 292 = .ok (.getfield 196, 3) := by decide +kernel
theorem dX10_cutAll_295 : decode cX10_cutAll 295 = .ok (.iastore, 1) := by decide +kernel
theorem dX10_cutAll_296 : decode cX10_cutAll 296 = .ok (.aload_n 0, 1) := by decide +kernel
theorem dX10_cutAll_297 : decode cX10_cutAll 297 = .ok (.iconst 0, 1) := by decide +kernel
theorem dX10_cutAll_298 : decode cX10_cutAll 298 = .ok (.putfield 215, 3) := by decide +kernel
theorem dX10_cutAll_301 : decode cX10_cutAll 301 = .ok (.aload_n 0, 1) := by decide +kernel
theorem dX10_cutAll_302 : decode cX10_cutAll 302 = .ok (.iconst 0, 1) := by decide +kernel
theorem dX10_cutAll_303 : decode cX10_cutAll 303 = .ok (.putfield 218, 3) := by decide +kernel
theorem dX10_cutAll_306 : decode cX10_cutAll 306 = .ok (.return_, 1) := by decide +kernel
theorem dX10_wrong_0 : decode cX10_wrong 0 = .ok (.aload_n 0, 1) := by decide +kernel
theorem dX10_wrong_1 : decode cX10_wrong 1 = .ok (.getfield 218, 3) := by decide +kernel
theorem dX10_wrong_4 : decode cX10_wrong 4 = .ok (.ifCond .ne 21, 3) := by decide +kernel
theorem dX10_wrong_7 : decode cX10_wrong 7 = .ok (.aload_n 0, 1) := by decide +kernel
theorem dX10_wrong_8 : decode cX10_wrong 8 = .ok (.iload_n 1, 1) := by decide +kernel
theorem dX10_wrong_9 : decode cX10_wrong 9 = .ok (.bipush 16, 2) := by decide +kernel
theorem dX10_wrong_11 : decode cX10_wrong 11 = .ok (.aload_n 0, 1) := by decide +kernel
theorem dX10_wrong_12 : decode cX10_wrong 12 = .ok (.getfield 27, 3) := by decide +kernel
theorem dX10_wrong_15 : decode cX10_wrong 15 = .ok (.aload_n 0, 1) := by decide +kernel
theorem dX10_wrong_16 : decode cX10_wrong 16 = .ok (.getfield 215, 3) := by decide +kernel
theorem dX10_wrong_19 : decode cX10_wrong 19 = .ok (.iaload, 1) := by decide +kernel
theorem dX10_wrong_20 : decode cX10_wrong 20 = .ok (.imul, 1) := by decide +kernel
theorem dX10_wrong_21 : decode cX10_wrong 21 = .ok (.iadd, 1) := by decide +kernel
theorem dX10_wrong_22 : decode cX10_wrong 22 = .ok (.putfield 218, 3) := by decide +kernel
theorem dX10_wrong_25 : decode cX10_wrong 25 = .ok (.return_, 1) := by decide +kernel
theorem dX10_isSign_0 : decode cX10_isSign 0 = .ok (.aload_n 0, 1) := by decide +kernel
theorem dX10_isSign_1 : decode cX10_isSign 1 = .ok (.getfield 218, 3) := by decide +kernel
theorem dX10_isSign_4 : decode cX10_isSign 4 = .ok (.ifCond .ne 35, 3) := by decide +kernel
theorem dX10_isSign_7 : decode cX10_isSign 7 = .ok (.aload_n 0, 1) := by decide +kernel
theorem dX10_isSign_8 : decode cX10_isSign 8 = .ok (.getfield 24, 3) := by decide +kernel
theorem dX10_isSign_11 : decode cX10_isSign 11 = .ok (.aload_n 0, 1) := by decide +kernel
theorem dX10_isSign_12 : decode cX10_isSign 12 = .ok (.getfield 215, 3) := by decide +kernel
theorem dX10_isSign_15 : decode cX10_isSign 15 = .ok (.iaload, 1) := by decide +kernel
theorem dX10_isSign_16 : decode cX10_isSign 16 = .ok (.iconst 3, 1) := by decide +kernel
theorem dX10_isSign_17 : decode cX10_isSign 17 = .ok (.if_icmp .ne 22, 3) := by decide +kernel
theorem dX10_isSign_20 : decode cX10_isSign 20 = .ok (.aload_n 0, 1) := by decide +kernel
theorem dX10_isSign_21 : decode cX10_isSign 21 = .ok (.getfield 30, 3) := by decide +kernel
theorem dX10_isSign_24 : decode cX10_isSign 24 = .ok (.aload_n 0, 1) := by decide +kernel
theorem dX10_isSign_25 : decode cX10_isSign 25 = .ok (.getfield 215, 3) := by decide +kernel
theorem dX10_isSign_28 : decode cX10_isSign 28 = .ok (.laload, 1) := by decide +kernel
theorem dX10_isSign_29 : decode cX10_isSign 29 = .ok (.iload_n 1, 1) := by decide +kernel
theorem dX10_isSign_30 : decode cX10_isSign 30 = .ok (.i2l, 1) := by decide +kernel
theorem dX10_isSign_31 : decode cX10_isSign 31 = .ok (.lcmp, 1) := by decide +kernel
theorem dX10_isSign_32 : decode cX10_isSign 32 = .ok (.ifCond .ne 7, 3) := by decide +kernel
theorem dX10_isSign_35 : decode cX10_isSign 35 = .ok (.iconst 1, 1) := by decide +kernel
theorem dX10_isSign_36 : decode cX10_isSign 36 = .ok (.goto 4, 3) := by decide +kernel
theorem dX10_isSign_39 : decode cX10_isSign 39 = .ok (.iconst 0, 1) := by decide +kernel
theorem dX10_isSign_40 : decode cX10_isSign 40 = .ok (.ireturn, 1) := by decide +kernel
theorem dX10_isWord_0 : decode cX10_isWord 0 = .ok (.aload_n 0, 1) := by decide +kernel
theorem dX10_isWord_1 : decode cX10_isWord 1 = .ok (.getfield 218, 3) := by decide +kernel
theorem dX10_isWord_4 : decode cX10_isWord 4 = .ok (.ifCond .ne 39, 3) := by decide +kernel
theorem dX10_isWord_7 : decode cX10_isWord 7 = .ok (.aload_n 0, 1) := by decide +kernel
theorem dX10_isWord_8 : decode cX10_isWord 8 = .ok (.getfield 24, 3) := by decide +kernel
theorem dX10_isWord_11 : decode cX10_isWord 11 = .ok (.aload_n 0, 1) := by decide +kernel
theorem dX10_isWord_12 : decode cX10_isWord 12 = .ok (.getfield 215, 3) := by decide +kernel
theorem dX10_isWord_15 : decode cX10_isWord 15 = .ok (.iaload, 1) := by decide +kernel
theorem dX10_isWord_16 : decode cX10_isWord 16 = .ok (.iconst 1, 1) := by decide +kernel
theorem dX10_isWord_17 : decode cX10_isWord 17 = .ok (.if_icmp .ne 26, 3) := by decide +kernel
theorem dX10_isWord_20 : decode cX10_isWord 20 = .ok (.aload_n 0, 1) := by decide +kernel
theorem dX10_isWord_21 : decode cX10_isWord 21 = .ok (.getfield 30, 3) := by decide +kernel
theorem dX10_isWord_24 : decode cX10_isWord 24 = .ok (.aload_n 0, 1) := by decide +kernel
theorem dX10_isWord_25 : decode cX10_isWord 25 = .ok (.getfield 215, 3) := by decide +kernel
theorem dX10_isWord_28 : decode cX10_isWord 28 = .ok (.laload, 1) := by decide +kernel
theorem dX10_isWord_29 : decode cX10_isWord 29 = .ok (.aload_n 0, 1) := by decide +kernel
theorem dX10_isWord_30 : decode cX10_isWord 30 = .ok (.getfield 68, 3) := by decide +kernel
theorem dX10_isWord_33 : decode cX10_isWord 33 = .ok (.iload_n 1, 1) := by decide +kernel
theorem dX10_isWord_34 : decode cX10_isWord 34 = .ok (.laload, 1) := by decide +kernel
theorem dX10_isWord_35 : decode cX10_isWord 35 = .ok (.lcmp, 1) := by decide +kernel
theorem dX10_isWord_36 : decode cX10_isWord 36 = .ok (.ifCond .ne 7, 3) := by decide +kernel
theorem dX10_isWord_39 : decode cX10_isWord 39 = .ok (.iconst 1, 1) := by decide +kernel
theorem dX10_isWord_40 : decode cX10_isWord 40 = .ok (.goto 4, 3) := by decide +kernel
theorem dX10_isWord_43 : decode cX10_isWord 43 = .ok (.iconst 0, 1) := by decide +kernel
theorem dX10_isWord_44 : decode cX10_isWord 44 = .ok (.ireturn, 1) := by decide +kernel
theorem dX10_takeSign_0 : decode cX10_takeSign 0 = .ok (.aload_n 0, 1) := by decide +kernel
theorem dX10_takeSign_1 : decode cX10_takeSign 1 = .ok (.iload_n 1, 1) := by decide +kernel
theorem dX10_takeSign_2 : decode cX10_takeSign 2 = .ok (.invokevirtual 221, 3) := by decide +kernel
theorem dX10_takeSign_5 : decode cX10_takeSign 5 = .ok (.ifCond .eq 16, 3) := by decide +kernel
theorem dX10_takeSign_8 : decode cX10_takeSign 8 = .ok (.aload_n 0, 1) := by decide +kernel
theorem dX10_takeSign_9 : decode cX10_takeSign 9 = .ok (.dup, 1) := by decide +kernel
theorem dX10_takeSign_10 : decode cX10_takeSign 10 = .ok (.getfield 215, 3) := by decide +kernel
theorem dX10_takeSign_13 : decode cX10_takeSign 13 = .ok (.iconst 1, 1) := by decide +kernel
theorem dX10_takeSign_14 : decode cX10_takeSign 14 = .ok (.iadd, 1) := by decide +kernel
theorem dX10_takeSign_15 : decode cX10_takeSign 15 = .ok (.putfield 215, 3) := by decide +kernel
theorem dX10_takeSign_18 : decode cX10_takeSign 18 = .ok (.goto 8, 3) := by decide +kernel
theorem dX10_takeSign_21 : decode cX10_takeSign 21 = .ok (.aload_n 0, 1) := by decide +kernel
theorem dX10_takeSign_22 : decode cX10_takeSign 22 = .ok (.iconst 1, 1) := by decide +kernel
theorem dX10_takeSign_23 : decode cX10_takeSign 23 = .ok (.invokevirtual 224, 3) := by decide +kernel
theorem dX10_takeSign_26 : decode cX10_takeSign 26 = .ok (.return_, 1) := by decide +kernel
theorem dX10_hasSign_0 : decode cX10_hasSign 0 = .ok (.aload_n 0, 1) := by decide +kernel
theorem dX10_hasSign_1 : decode cX10_hasSign 1 = .ok (.iload_n 1, 1) := by decide +kernel
theorem dX10_hasSign_2 : decode cX10_hasSign 2 = .ok (.invokevirtual 221, 3) := by decide +kernel
theorem dX10_hasSign_5 : decode cX10_hasSign 5 = .ok (.istore_n 2, 1) := by decide +kernel
theorem dX10_hasSign_6 : decode cX10_hasSign 6 = .ok (.aload_n 0, 1) := by decide +kernel
theorem dX10_hasSign_7 : decode cX10_hasSign 7 = .ok (.dup, 1) := by decide +kernel
theorem dX10_hasSign_8 : decode cX10_hasSign 8 = .ok (.getfield 215, 3) := by decide +kernel
theorem dX10_hasSign_11 : decode cX10_hasSign 11 = .ok (.iload_n 2, 1) := by decide +kernel
theorem dX10_hasSign_12 : decode cX10_hasSign 12 = .ok (.ifCond .eq 7, 3) := by decide +kernel
theorem dX10_hasSign_15 : decode cX10_hasSign 15 = .ok (.iconst 1, 1) := by decide +kernel
theorem dX10_hasSign_16 : decode cX10_hasSign 16 = .ok (.goto 4, 3) := by decide +kernel
theorem dX10_hasSign_19 : decode cX10_hasSign 19 = .ok (.iconst 0, 1) := by decide +kernel
theorem dX10_hasSign_20 : decode cX10_hasSign 20 = .ok (.iadd, 1) := by decide +kernel
theorem dX10_hasSign_21 : decode cX10_hasSign 21 = .ok (.putfield 215, 3) := by decide +kernel
theorem dX10_hasSign_24 : decode cX10_hasSign 24 = .ok (.iload_n 2, 1) := by decide +kernel
theorem dX10_hasSign_25 : decode cX10_hasSign 25 = .ok (.ireturn, 1) := by decide +kernel
theorem dX10_hasWord_0 : decode cX10_hasWord 0 = .ok (.aload_n 0, 1) := by decide +kernel
theorem dX10_hasWord_1 : decode cX10_hasWord 1 = .ok (.iload_n 1, 1) := by decide +kernel
theorem dX10_hasWord_2 : decode cX10_hasWord 2 = .ok (.invokevirtual 228, 3) := by decide +kernel
theorem dX10_hasWord_5 : decode cX10_hasWord 5 = .ok (.istore_n 2, 1) := by decide +kernel
theorem dX10_hasWord_6 : decode cX10_hasWord 6 = .ok (.aload_n 0, 1) := by decide +kernel
theorem dX10_hasWord_7 : decode cX10_hasWord 7 = .ok (.dup, 1) := by decide +kernel
theorem dX10_hasWord_8 : decode cX10_hasWord 8 = .ok (.getfield 215, 3) := by decide +kernel
theorem dX10_hasWord_11 : decode cX10_hasWord 11 = .ok (.iload_n 2, 1) := by decide +kernel
theorem dX10_hasWord_12 : decode cX10_hasWord 12 = .ok (.ifCond .eq 7, 3) := by decide +kernel
theorem dX10_hasWord_15 : decode cX10_hasWord 15 = .ok (.iconst 1, 1) := by decide +kernel
theorem dX10_hasWord_16 : decode cX10_hasWord 16 = .ok (.goto 4, 3) := by decide +kernel
theorem dX10_hasWord_19 : decode cX10_hasWord 19 = .ok (.iconst 0, 1) := by decide +kernel
theorem dX10_hasWord_20 : decode cX10_hasWord 20 = .ok (.iadd, 1) := by decide +kernel
theorem dX10_hasWord_21 : decode cX10_hasWord 21 = .ok (.putfield 215, 3) := by decide +kernel
theorem dX10_hasWord_24 : decode cX10_hasWord 24 = .ok (.iload_n 2, 1) := by decide +kernel
theorem dX10_hasWord_25 : decode cX10_hasWord 25 = .ok (.ireturn, 1) := by decide +kernel
theorem dX10_emit_0 : decode cX10_emit 0 = .ok (.aload_n 0, 1) := by decide +kernel
theorem dX10_emit_1 : decode cX10_emit 1 = .ok (.getfield 96, 3) := by decide +kernel
theorem dX10_emit_4 : decode cX10_emit 4 = .ok (.sipush 4240, 3) := by decide +kernel
theorem dX10_emit_7 : decode cX10_emit 7 = .ok (.aload_n 0, 1) := by decide +kernel
theorem dX10_emit_8 : decode cX10_emit 8 = .ok (.getfield 234, 3) := by decide +kernel
theorem dX10_emit_11 : decode cX10_emit 11 = .ok (.iadd, 1) := by decide +kernel
theorem dX10_emit_12 : decode cX10_emit 12 = .ok (.iload_n 1, 1) := by decide +kernel
theorem dX10_emit_13 : decode cX10_emit 13 = .ok (.iastore, 1) := by decide +kernel
theorem dX10_emit_14 : decode cX10_emit 14 = .ok (.aload_n 0, 1) := by decide +kernel
theorem dX10_emit_15 : decode cX10_emit 15 = .ok (.getfield 99, 3) := by decide +kernel
theorem dX10_emit_18 : decode cX10_emit 18 = .ok (.sipush 4240, 3) := by decide +kernel
theorem dX10_emit_21 : decode cX10_emit 21 = .ok (.aload_n 0, 1) := by decide +kernel
theorem dX10_emit_22 : decode cX10_emit 22 = .ok (.getfield 234, 3) := by decide +kernel
theorem dX10_emit_25 : decode cX10_emit 25 = .ok (.iadd, 1) := by decide +kernel
theorem dX10_emit_26 : decode cX10_emit 26 = .ok (.iload_n 2, 1) := by decide +kernel
theorem dX10_emit_27 : decode cX10_emit 27 = .ok (.iastore, 1) := by decide +kernel
theorem dX10_emit_28 : decode cX10_emit 28 = .ok (.aload_n 0, 1) := by decide +kernel
theorem dX10_emit_29 : decode cX10_emit 29 = .ok (.dup, 1) := by decide +kernel
theorem dX10_emit_30 : decode cX10_emit 30 = .ok (.getfield 234, 3) := by decide +kernel
theorem dX10_emit_33 : decode cX10_emit 33 = .ok (.iconst 1, 1) := by decide +kernel
theorem dX10_emit_34 : decode cX10_emit 34 = .ok (.iadd, 1) := by decide +kernel
theorem dX10_emit_35 : decode cX10_emit 35 = .ok (.putfield 234, 3) := by decide +kernel
theorem dX10_emit_38 : decode cX10_emit 38 = .ok (.return_, 1) := by decide +kernel
theorem dX10_rules_0 : decode cX10_rules 0 = .ok (.aload_n 0, 1) := by decide +kernel
theorem dX10_rules_1 : decode cX10_rules 1 = .ok (.iconst 0, 1) := by decide +kernel
theorem dX10_rules_2 : decode cX10_rules 2 = .ok (.putfield 1, 3) := by decide +kernel
theorem dX10_rules_5 : decode cX10_rules 5 = .ok (.aload_n 0, 1) := by decide +kernel
theorem dX10_rules_6 : decode cX10_rules 6 = .ok (.invokevirtual 237, 3) := by decide +kernel
theorem dX10_rules_9 : decode cX10_rules 9 = .ok (.aload_n 0, 1) := by decide +kernel
theorem dX10_rules_10 : decode cX10_rules 10 = .ok (.getfield 80, 3) := by decide +kernel
theorem dX10_rules_13 : decode cX10_rules 13 = .ok (.iconst 4, 1) := by decide +kernel
theorem dX10_rules_14 : decode cX10_rules 14 = .ok (.iconst 0, 1) := by decide +kernel
theorem dX10_rules_15 : decode cX10_rules 15 = .ok (.iastore, 1) := by decide +kernel
theorem dX10_rules_16 : decode cX10_rules 16 = .ok (.aload_n 0, 1) := by decide +kernel
theorem dX10_rules_17 : decode cX10_rules 17 = .ok (.iconst 0, 1) := by decide +kernel
theorem dX10_rules_18 : decode cX10_rules 18 = .ok (.putfield 234, 3) := by decide +kernel
theorem dX10_rules_21 : decode cX10_rules 21 = .ok (.aload_n 0, 1) := by decide +kernel
theorem dX10_rules_22 : decode cX10_rules 22 = .ok (.getfield 218, 3) := by decide +kernel
theorem dX10_rules_25 : decode cX10_rules 25 = .ok (.ifCond .ne 22, 3) := by decide +kernel
theorem dX10_rules_28 : decode cX10_rules 28 = .ok (.aload_n 0, 1) := by decide +kernel
theorem dX10_rules_29 : decode cX10_rules 29 = .ok (.getfield 24, 3) := by decide +kernel
theorem dX10_rules_32 : decode cX10_rules 32 = .ok (.aload_n 0, 1) := by decide +kernel
theorem dX10_rules_33 : decode cX10_rules 33 = .ok (.getfield 215, 3) := by decide +kernel
theorem dX10_rules_36 : decode cX10_rules 36 = .ok (.iaload, 1) := by decide +kernel
theorem dX10_rules_37 : decode cX10_rules 37 = .ok (.ifCond .eq 10, 3) := by decide +kernel
theorem dX10_rules_40 : decode cX10_rules 40 = .ok (.aload_n 0, 1) := by decide +kernel
theorem dX10_rules_41 : decode cX10_rules 41 = .ok (.invokevirtual 240, 3) := by decide +kernel
theorem dX10_rules_44 : decode cX10_rules 44 = .ok (.goto (-23), 3) := by decide +kernel
theorem dX10_rules_47 : decode cX10_rules 47 = .ok (.aload_n 0, 1) := by decide +kernel
theorem dX10_rules_48 : decode cX10_rules 48 = .ok (.getfield 218, 3) := by decide +kernel
theorem dX10_rules_51 : decode cX10_rules 51 = .ok (.ifCond .ne 7, 3) := by decide +kernel
theorem dX10_rules_54 : decode cX10_rules 54 = .ok (.aload_n 0, 1) := by decide +kernel
theorem dX10_rules_55 : decode cX10_rules 55 = .ok (.invokevirtual 243, 3) := by decide +kernel
theorem dX10_rules_58 : decode cX10_rules 58 = .ok (.aload_n 0, 1) := by decide +kernel
theorem dX10_rules_59 : decode cX10_rules 59 = .ok (.getfield 218, 3) := by decide +kernel
theorem dX10_rules_62 : decode cX10_rules 62 = .ok (.ireturn, 1) := by decide +kernel
theorem dX10_keeps_0 : decode cX10_keeps 0 = .ok (.iconst 0, 1) := by decide +kernel
theorem dX10_keeps_1 : decode cX10_keeps 1 = .ok (.istore_n 1, 1) := by decide +kernel
theorem dX10_keeps_2 : decode cX10_keeps 2 = .ok (.iload_n 1, 1) := by decide +kernel
theorem dX10_keeps_3 : decode cX10_keeps 3 = .ok (.bipush 24, 2) := by decide +kernel
theorem dX10_keeps_5 : decode cX10_keeps 5 = .ok (.if_icmp .ge 101, 3) := by decide +kernel
theorem dX10_keeps_8 : decode cX10_keeps 8 = .ok (.aload_n 0, 1) := by decide +kernel
theorem dX10_keeps_9 : decode cX10_keeps 9 = .ok (.getfield 83, 3) := by decide +kernel
theorem dX10_keeps_12 : decode cX10_keeps 12 = .ok (.bipush 24, 2) := by decide +kernel
theorem dX10_keeps_14 : decode cX10_keeps 14 = .ok (.aload_n 0, 1) := by decide +kernel
theorem dX10_keeps_15 : decode cX10_keeps 15 = .ok (.getfield 246, 3) := by decide +kernel
theorem dX10_keeps_18 : decode cX10_keeps 18 = .ok (.imul, 1) := by decide +kernel
theorem dX10_keeps_19 : decode cX10_keeps 19 = .ok (.iload_n 1, 1) := by decide +kernel
theorem dX10_keeps_20 : decode cX10_keeps 20 = .ok (.iadd, 1) := by decide +kernel
theorem dX10_keeps_21 : decode cX10_keeps 21 = .ok (.aload_n 0, 1) := by decide +kernel
theorem dX10_keeps_22 : decode cX10_keeps 22 = .ok (.getfield 83, 3) := by decide +kernel
theorem dX10_keeps_25 : decode cX10_keeps 25 = .ok (.bipush 96, 2) := by decide +kernel
theorem dX10_keeps_27 : decode cX10_keeps 27 = .ok (.iload_n 1, 1) := by decide +kernel
theorem dX10_keeps_28 : decode cX10_keeps 28 = .ok (.iadd, 1) := by decide +kernel
theorem dX10_keeps_29 : decode cX10_keeps 29 = .ok (.baload, 1) := by decide +kernel
theorem dX10_keeps_30 : decode cX10_keeps 30 = .ok (.bastore, 1) := by decide +kernel
theorem dX10_keeps_31 : decode cX10_keeps 31 = .ok (.aload_n 0, 1) := by decide +kernel
theorem dX10_keeps_32 : decode cX10_keeps 32 = .ok (.getfield 87, 3) := by decide +kernel
theorem dX10_keeps_35 : decode cX10_keeps 35 = .ok (.bipush 24, 2) := by decide +kernel
theorem dX10_keeps_37 : decode cX10_keeps 37 = .ok (.aload_n 0, 1) := by decide +kernel
theorem dX10_keeps_38 : decode cX10_keeps 38 = .ok (.getfield 246, 3) := by decide +kernel
theorem dX10_keeps_41 : decode cX10_keeps 41 = .ok (.imul, 1) := by decide +kernel
theorem dX10_keeps_42 : decode cX10_keeps 42 = .ok (.iload_n 1, 1) := by decide +kernel
theorem dX10_keeps_43 : decode cX10_keeps 43 = .ok (.iadd, 1) := by decide +kernel
theorem dX10_keeps_44 : decode cX10_keeps 44 = .ok (.aload_n 0, 1) := by decide +kernel
theorem dX10_keeps_45 : decode cX10_keeps 45 = .ok (.getfield 87, 3) := by decide +kernel
theorem dX10_keeps_48 : decode cX10_keeps 48 = .ok (.bipush 96, 2) := by decide +kernel
theorem dX10_keeps_50 : decode cX10_keeps 50 = .ok (.iload_n 1, 1) := by decide +kernel
theorem dX10_keeps_51 : decode cX10_keeps 51 = .ok (.iadd, 1) := by decide +kernel
theorem dX10_keeps_52 : decode cX10_keeps 52 = .ok (.iaload, 1) := by decide +kernel
theorem dX10_keeps_53 : decode cX10_keeps 53 = .ok (.iastore, 1) := by decide +kernel
theorem dX10_keeps_54 : decode cX10_keeps 54 = .ok (.aload_n 0, 1) := by decide +kernel
theorem dX10_keeps_55 : decode cX10_keeps 55 = .ok (.getfield 90, 3) := by decide +kernel
theorem dX10_keeps_58 : decode cX10_keeps 58 = .ok (.bipush 24, 2) := by decide +kernel
theorem dX10_keeps_60 : decode cX10_keeps 60 = .ok (.aload_n 0, 1) := by decide +kernel
theorem dX10_keeps_61 : decode cX10_keeps 61 = .ok (.getfield 246, 3) := by decide +kernel
theorem dX10_keeps_64 : decode cX10_keeps 64 = .ok (.imul, 1) := by decide +kernel
theorem dX10_keeps_65 : decode cX10_keeps 65 = .ok (.iload_n 1, 1) := by decide +kernel
theorem dX10_keeps_66 : decode cX10_keeps 66 = .ok (.iadd, 1) := by decide +kernel
theorem dX10_keeps_67 : decode cX10_keeps 67 = .ok (.aload_n 0, 1) := by decide +kernel
theorem dX10_keeps_68 : decode cX10_keeps 68 = .ok (.getfield 90, 3) := by decide +kernel
theorem dX10_keeps_71 : decode cX10_keeps 71 = .ok (.bipush 96, 2) := by decide +kernel
theorem dX10_keeps_73 : decode cX10_keeps 73 = .ok (.iload_n 1, 1) := by decide +kernel
theorem dX10_keeps_74 : decode cX10_keeps 74 = .ok (.iadd, 1) := by decide +kernel
theorem dX10_keeps_75 : decode cX10_keeps 75 = .ok (.iaload, 1) := by decide +kernel
theorem dX10_keeps_76 : decode cX10_keeps 76 = .ok (.iastore, 1) := by decide +kernel
theorem dX10_keeps_77 : decode cX10_keeps 77 = .ok (.aload_n 0, 1) := by decide +kernel
theorem dX10_keeps_78 : decode cX10_keeps 78 = .ok (.getfield 93, 3) := by decide +kernel
theorem dX10_keeps_81 : decode cX10_keeps 81 = .ok (.bipush 24, 2) := by decide +kernel
theorem dX10_keeps_83 : decode cX10_keeps 83 = .ok (.aload_n 0, 1) := by decide +kernel
theorem dX10_keeps_84 : decode cX10_keeps 84 = .ok (.getfield 246, 3) := by decide +kernel
theorem dX10_keeps_87 : decode cX10_keeps 87 = .ok (.imul, 1) := by decide +kernel
theorem dX10_keeps_88 : decode cX10_keeps 88 = .ok (.iload_n 1, 1) := by decide +kernel
theorem dX10_keeps_89 : decode cX10_keeps 89 = .ok (.iadd, 1) := by decide +kernel
theorem dX10_keeps_90 : decode cX10_keeps 90 = .ok (.aload_n 0, 1) := by decide +kernel
theorem dX10_keeps_91 : decode cX10_keeps 91 = .ok (.getfield 93, 3) := by decide +kernel
theorem dX10_keeps_94 : decode cX10_keeps 94 = .ok (.bipush 96, 2) := by decide +kernel
theorem dX10_keeps_96 : decode cX10_keeps 96 = .ok (.iload_n 1, 1) := by decide +kernel
theorem dX10_keeps_97 : decode cX10_keeps 97 = .ok (.iadd, 1) := by decide +kernel
theorem dX10_keeps_98 : decode cX10_keeps 98 = .ok (.iaload, 1) := by decide +kernel
theorem dX10_keeps_99 : decode cX10_keeps 99 = .ok (.iastore, 1) := by decide +kernel
theorem dX10_keeps_100 : decode cX10_keeps 100 = .ok (.iinc 1 1, 3) := by decide +kernel
theorem dX10_keeps_103 : decode cX10_keeps 103 = .ok (.goto (-101), 3) := by decide +kernel
theorem dX10_keeps_106 : decode cX10_keeps 106 = .ok (.iconst 0, 1) := by decide +kernel
theorem dX10_keeps_107 : decode cX10_keeps 107 = .ok (.istore_n 1, 1) := by decide +kernel
theorem dX10_keeps_108 : decode cX10_keeps 108 = .ok (.iload_n 1, 1) := by decide +kernel
theorem dX10_keeps_109 : decode cX10_keeps 109 = .ok (.aload_n 0, 1) := by decide +kernel
theorem dX10_keeps_110 : decode cX10_keeps 110 = .ok (.getfield 234, 3) := by decide +kernel
theorem dX10_keeps_113 : decode cX10_keeps 113 = .ok (.if_icmp .ge 59, 3) := by decide +kernel
theorem dX10_keeps_116 : decode cX10_keeps 116 = .ok (.aload_n 0, 1) := by decide +kernel
theorem dX10_keeps_117 : decode cX10_keeps 117 = .ok (.getfield 96, 3) := by decide +kernel
theorem dX10_keeps_120 : decode cX10_keeps 120 = .ok (.sipush 1060, 3) := by decide +kernel
theorem dX10_keeps_123 : decode cX10_keeps 123 = .ok (.aload_n 0, 1) := by decide +kernel
theorem dX10_keeps_124 : decode cX10_keeps 124 = .ok (.getfield 246, 3) := by decide +kernel
theorem dX10_keeps_127 : decode cX10_keeps 127 = .ok (.imul, 1) := by decide +kernel
theorem dX10_keeps_128 : decode cX10_keeps 128 = .ok (.iload_n 1, 1) := by decide +kernel
theorem dX10_keeps_129 : decode cX10_keeps 129 = .ok (.iadd, 1) := by decide +kernel
theorem dX10_keeps_130 : decode cX10_keeps 130 = .ok (.aload_n 0, 1) := by decide +kernel
theorem dX10_keeps_131 : decode cX10_keeps 131 = .ok (.getfield 96, 3) := by decide +kernel
theorem dX10_keeps_134 : decode cX10_keeps 134 = .ok (.sipush 4240, 3) := by decide +kernel
theorem dX10_keeps_137 : decode cX10_keeps 137 = .ok (.iload_n 1, 1) := by decide +kernel
theorem dX10_keeps_138 : decode cX10_keeps 138 = .ok (.iadd, 1) := by decide +kernel
theorem dX10_keeps_139 : decode cX10_keeps 139 = .ok (.iaload, 1) := by decide +kernel
theorem dX10_keeps_140 : decode cX10_keeps 140 = .ok (.iastore, 1) := by decide +kernel
theorem dX10_keeps_141 : decode cX10_keeps 141 = .ok (.aload_n 0, 1) := by decide +kernel
theorem dX10_keeps_142 : decode cX10_keeps 142 = .ok (.getfield 99, 3) := by decide +kernel
theorem dX10_keeps_145 : decode cX10_keeps 145 = .ok (.sipush 1060, 3) := by decide +kernel
theorem dX10_keeps_148 : decode cX10_keeps 148 = .ok (.aload_n 0, 1) := by decide +kernel
theorem dX10_keeps_149 : decode cX10_keeps 149 = .ok (.getfield 246, 3) := by decide +kernel
theorem dX10_keeps_152 : decode cX10_keeps 152 = .ok (.imul, 1) := by decide +kernel
theorem dX10_keeps_153 : decode cX10_keeps 153 = .ok (.iload_n 1, 1) := by decide +kernel
theorem dX10_keeps_154 : decode cX10_keeps 154 = .ok (.iadd, 1) := by decide +kernel
theorem dX10_keeps_155 : decode cX10_keeps 155 = .ok (.aload_n 0, 1) := by decide +kernel
theorem dX10_keeps_156 : decode cX10_keeps 156 = .ok (.getfield 99, 3) := by decide +kernel
theorem dX10_keeps_159 : decode cX10_keeps 159 = .ok (.sipush 4240, 3) := by decide +kernel
theorem dX10_keeps_162 : decode cX10_keeps 162 = .ok (.iload_n 1, 1) := by decide +kernel
theorem dX10_keeps_163 : decode cX10_keeps 163 = .ok (.iadd, 1) := by decide +kernel
theorem dX10_keeps_164 : decode cX10_keeps 164 = .ok (.iaload, 1) := by decide +kernel
theorem dX10_keeps_165 : decode cX10_keeps 165 = .ok (.iastore, 1) := by decide +kernel
theorem dX10_keeps_166 : decode cX10_keeps 166 = .ok (.iinc 1 1, 3) := by decide +kernel
theorem dX10_keeps_169 : decode cX10_keeps 169 = .ok (.goto (-61), 3) := by decide +kernel
theorem dX10_keeps_172 : decode cX10_keeps 172 = .ok (.aload_n 0, 1) := by decide +kernel
theorem dX10_keeps_173 : decode cX10_keeps 173 = .ok (.getfield 80, 3) := by decide +kernel
theorem dX10_keeps_176 : decode cX10_keeps 176 = .ok (.aload_n 0, 1) := by decide +kernel
theorem dX10_keeps_177 : decode cX10_keeps 177 = .ok (.getfield 246, 3) := by decide +kernel
theorem dX10_keeps_180 : decode cX10_keeps 180 = .ok (.aload_n 0, 1) := by decide +kernel
theorem dX10_keeps_181 : decode cX10_keeps 181 = .ok (.getfield 80, 3) := by decide +kernel
theorem dX10_keeps_184 : decode cX10_keeps 184 = .ok (.iconst 4, 1) := by decide +kernel
theorem dX10_keeps_185 : decode cX10_keeps 185 = .ok (.iaload, 1) := by decide +kernel
theorem dX10_keeps_186 : decode cX10_keeps 186 = .ok (.iastore, 1) := by decide +kernel
theorem dX10_keeps_187 : decode cX10_keeps 187 = .ok (.return_, 1) := by decide +kernel
theorem dX10_line_0 : decode cX10_line 0 = .ok (.aload_n 0, 1) := by decide +kernel
theorem dX10_line_1 : decode cX10_line 1 = .ok (.iconst 1, 1) := by decide +kernel
theorem dX10_line_2 : decode cX10_line 2 = .ok (.invokevirtual 228, 3) := by decide +kernel
theorem dX10_line_5 : decode cX10_line 5 = .ok (.istore_n 1, 1) := by decide +kernel
theorem dX10_line_6 : decode cX10_line 6 = .ok (.iload_n 1, 1) := by decide +kernel
theorem dX10_line_7 : decode cX10_line 7 = .ok (.ifCond .ne 19, 3) := by decide +kernel
theorem dX10_line_10 : decode cX10_line 10 = .ok (.aload_n 0, 1) := by decide +kernel
theorem dX10_line_11 : decode cX10_line 11 = .ok (.iconst 0, 1) := by decide +kernel
theorem dX10_line_12 : decode cX10_line 12 = .ok (.invokevirtual 228, 3) := by decide +kernel
theorem dX10_line_15 : decode cX10_line 15 = .ok (.ifCond .ne 11, 3) := by decide +kernel
theorem dX10_line_18 : decode cX10_line 18 = .ok (.aload_n 0, 1) := by decide +kernel
theorem dX10_line_19 : decode cX10_line 19 = .ok (.iconst 1, 1) := by decide +kernel
theorem dX10_line_20 : decode cX10_line 20 = .ok (.invokevirtual 224, 3) := by decide +kernel
theorem dX10_line_23 : decode cX10_line 23 = .ok (.goto 19, 3) := by decide +kernel
theorem dX10_line_26 : decode cX10_line 26 = .ok (.aload_n 0, 1) := by decide +kernel
theorem dX10_line_27 : decode cX10_line 27 = .ok (.getfield 80, 3) := by decide +kernel
theorem dX10_line_30 : decode cX10_line 30 = .ok (.iconst 4, 1) := by decide +kernel
theorem dX10_line_31 : decode cX10_line 31 = .ok (.iaload, 1) := by decide +kernel
theorem dX10_line_32 : decode cX10_line 32 = .ok (.bipush 24, 2) := by decide +kernel
theorem dX10_line_34 : decode cX10_line 34 = .ok (.if_icmp .ne 8, 3) := by decide +kernel
theorem dX10_line_37 : decode cX10_line 37 = .ok (.aload_n 0, 1) := by decide +kernel
theorem dX10_line_38 : decode cX10_line 38 = .ok (.iconst 5, 1) := by decide +kernel
theorem dX10_line_39 : decode cX10_line 39 = .ok (.invokevirtual 224, 3) := by decide +kernel
theorem dX10_line_42 : decode cX10_line 42 = .ok (.aload_n 0, 1) := by decide +kernel
theorem dX10_line_43 : decode cX10_line 43 = .ok (.getfield 218, 3) := by decide +kernel
theorem dX10_line_46 : decode cX10_line 46 = .ok (.ifCond .le 4, 3) := by decide +kernel
theorem dX10_line_49 : decode cX10_line 49 = .ok (.return_, 1) := by decide +kernel
theorem dX10_line_50 : decode cX10_line 50 = .ok (.aload_n 0, 1) := by decide +kernel
theorem dX10_line_51 : decode cX10_line 51 = .ok (.dup, 1) := by decide +kernel
theorem dX10_line_52 : decode cX10_line 52 = .ok (.getfield 215, 3) := by decide +kernel
theorem dX10_line_55 : decode cX10_line 55 = .ok (.iconst 1, 1) := by decide +kernel
theorem dX10_line_56 : decode cX10_line 56 = .ok (.iadd, 1) := by decide +kernel
theorem dX10_line_57 : decode cX10_line 57 = .ok (.putfield 215, 3) := by decide +kernel
theorem dX10_line_60 : decode cX10_line 60 = .ok (.bipush 96, 2) := by decide +kernel
theorem dX10_line_62 : decode cX10_line 62 = .ok (.aload_n 0, 1) := by decide +kernel
theorem dX10_line_63 : decode cX10_line 63 = .ok (.getfield 80, 3) := by decide +kernel
theorem dX10_line_66 : decode cX10_line 66 = .ok (.iconst 4, 1) := by decide +kernel
theorem dX10_line_67 : decode cX10_line 67 = .ok (.iaload, 1) := by decide +kernel
theorem dX10_line_68 : decode cX10_line 68 = .ok (.iadd, 1) := by decide +kernel
theorem dX10_line_69 : decode cX10_line 69 = .ok (.istore_n 2, 1) := by decide +kernel
theorem dX10_line_70 : decode cX10_line 70 = .ok (.aload_n 0, 1) := by decide +kernel
theorem dX10_line_71 : decode cX10_line 71 = .ok (.getfield 83, 3) := by decide +kernel
theorem dX10_line_74 : decode cX10_line 74 = .ok (.iload_n 2, 1) := by decide +kernel
theorem dX10_line_75 : decode cX10_line 75 = .ok (.iload_n 1, 1) := by decide +kernel
theorem dX10_line_76 : decode cX10_line 76 = .ok (.bastore, 1) := by decide +kernel
theorem dX10_line_77 : decode cX10_line 77 = .ok (.aload_n 0, 1) := by decide +kernel
theorem dX10_line_78 : decode cX10_line 78 = .ok (.invokevirtual 249, 3) := by decide +kernel
theorem dX10_line_81 : decode cX10_line 81 = .ok (.istore_n 3, 1) := by decide +kernel
theorem dX10_line_82 : decode cX10_line 82 = .ok (.iload_n 3, 1) := by decide +kernel
theorem dX10_line_83 : decode cX10_line 83 = .ok (.ifCond .lt 8, 3) := by decide +kernel
theorem dX10_line_86 : decode cX10_line 86 = .ok (.iload_n 3, 1) := by decide +kernel
theorem dX10_line_87 : decode cX10_line 87 = .ok (.iconst 2, 1) := by decide +kernel
theorem dX10_line_88 : decode cX10_line 88 = .ok (.if_icmp .le 9, 3) := by decide +kernel
theorem dX10_line_91 : decode cX10_line 91 = .ok (.aload_n 0, 1) := by decide +kernel
theorem dX10_line_92 : decode cX10_line 92 = .ok (.iconst 1, 1) := by decide +kernel
theorem dX10_line_93 : decode cX10_line 93 = .ok (.invokevirtual 224, 3) := by decide +kernel
theorem dX10_line_96 : decode cX10_line 96 = .ok (.return_, 1) := by decide +kernel
theorem dX10_line_97 : decode cX10_line 97 = .ok (.aload_n 0, 1) := by decide +kernel
theorem dX10_line_98 : decode cX10_line 98 = .ok (.getfield 87, 3) := by decide +kernel
theorem dX10_line_101 : decode cX10_line 101 = .ok (.iload_n 2, 1) := by decide +kernel
theorem dX10_line_102 : decode cX10_line 102 = .ok (.iload_n 3, 1) := by decide +kernel
theorem dX10_line_103 : decode cX10_line 103 = .ok (.iastore, 1) := by decide +kernel
theorem dX10_line_104 : decode cX10_line 104 = .ok (.aload_n 0, 1) := by decide +kernel
theorem dX10_line_105 : decode cX10_line 105 = .ok (.dup, 1) := by decide +kernel
theorem dX10_line_106 : decode cX10_line 106 = .ok (.getfield 215, 3) := by decide +kernel
theorem dX10_line_109 : decode cX10_line 109 = .ok (.iconst 1, 1) := by decide +kernel
theorem dX10_line_110 : decode cX10_line 110 = .ok (.iadd, 1) := by decide +kernel
theorem dX10_line_111 : decode cX10_line 111 = .ok (.putfield 215, 3) := by decide +kernel
theorem dX10_line_114 : decode cX10_line 114 = .ok (.aload_n 0, 1) := by decide +kernel
theorem dX10_line_115 : decode cX10_line 115 = .ok (.getfield 90, 3) := by decide +kernel
theorem dX10_line_118 : decode cX10_line 118 = .ok (.iload_n 2, 1) := by decide +kernel
theorem dX10_line_119 : decode cX10_line 119 = .ok (.aload_n 0, 1) := by decide +kernel
theorem dX10_line_120 : decode cX10_line 120 = .ok (.getfield 234, 3) := by decide +kernel
theorem dX10_line_123 : decode cX10_line 123 = .ok (.iastore, 1) := by decide +kernel
theorem dX10_line_124 : decode cX10_line 124 = .ok (.aload_n 0, 1) := by decide +kernel
theorem dX10_line_125 : decode cX10_line 125 = .ok (.invokevirtual 253, 3) := by decide +kernel
theorem dX10_line_128 : decode cX10_line 128 = .ok (.aload_n 0, 1) := by decide +kernel
theorem dX10_line_129 : decode cX10_line 129 = .ok (.getfield 93, 3) := by decide +kernel
theorem dX10_line_132 : decode cX10_line 132 = .ok (.iload_n 2, 1) := by decide +kernel
theorem dX10_line_133 : decode cX10_line 133 = .ok (.iconst (-1), 1) := by decide +kernel
theorem dX10_line_134 : decode cX10_line 134 = .ok (.iastore, 1) := by decide +kernel
theorem dX10_line_135 : decode cX10_line 135 = .ok (.aload_n 0, 1) := by decide +kernel
theorem dX10_line_136 : decode cX10_line 136 = .ok (.iconst 2, 1) := by decide +kernel
theorem dX10_line_137 : decode cX10_line 137 = .ok (.invokevirtual 231, 3) := by decide +kernel
theorem dX10_line_140 : decode cX10_line 140 = .ok (.ifCond .eq 17, 3) := by decide +kernel
theorem dX10_line_143 : decode cX10_line 143 = .ok (.aload_n 0, 1) := by decide +kernel
theorem dX10_line_144 : decode cX10_line 144 = .ok (.getfield 93, 3) := by decide +kernel
theorem dX10_line_147 : decode cX10_line 147 = .ok (.iload_n 2, 1) := by decide +kernel
theorem dX10_line_148 : decode cX10_line 148 = .ok (.aload_n 0, 1) := by decide +kernel
theorem dX10_line_149 : decode cX10_line 149 = .ok (.getfield 234, 3) := by decide +kernel
theorem dX10_line_152 : decode cX10_line 152 = .ok (.iastore, 1) := by decide +kernel
theorem dX10_line_153 : decode cX10_line 153 = .ok (.aload_n 0, 1) := by decide +kernel
theorem dX10_line_154 : decode cX10_line 154 = .ok (.invokevirtual 253, 3) := by decide +kernel
theorem dX10_line_157 : decode cX10_line 157 = .ok (.aload_n 0, 1) := by decide +kernel
theorem dX10_line_158 : decode cX10_line 158 = .ok (.bipush 59, 2) := by decide +kernel
theorem dX10_line_160 : decode cX10_line 160 = .ok (.invokevirtual 256, 3) := by decide +kernel
theorem dX10_line_163 : decode cX10_line 163 = .ok (.aload_n 0, 1) := by decide +kernel
theorem dX10_line_164 : decode cX10_line 164 = .ok (.getfield 80, 3) := by decide +kernel
theorem dX10_line_167 : decode cX10_line 167 = .ok (.iconst 4, 1) := by decide +kernel
theorem dX10_line_168 : decode cX10_line 168 = .ok (.dup2, 1) := by decide +kernel
theorem dX10_line_169 : decode cX10_line 169 = .ok (.iaload, 1) := by decide +kernel
theorem dX10_line_170 : decode cX10_line 170 = .ok (.iconst 1, 1) := by decide +kernel
theorem dX10_line_171 : decode cX10_line 171 = .ok (.iadd, 1) := by decide +kernel
theorem dX10_line_172 : decode cX10_line 172 = .ok (.iastore, 1) := by decide +kernel
theorem dX10_line_173 : decode cX10_line 173 = .ok (.return_, 1) := by decide +kernel
theorem dX10_expression_0 : decode cX10_expression 0 = .ok (.aload_n 0, 1) := by decide +kernel
theorem dX10_expression_1 : decode cX10_expression 1 = .ok (.iconst 0, 1) := by decide +kernel
theorem dX10_expression_2 : decode cX10_expression 2 = .ok (.putfield 259, 3) := by decide +kernel
theorem dX10_expression_5 : decode cX10_expression 5 = .ok (.aload_n 0, 1) := by decide +kernel
theorem dX10_expression_6 : decode cX10_expression 6 = .ok (.invokevirtual 262, 3) := by decide +kernel
theorem dX10_expression_9 : decode cX10_expression 9 = .ok (.iconst 1, 1) := by decide +kernel
theorem dX10_expression_10 : decode cX10_expression 10 = .ok (.istore_n 1, 1) := by decide +kernel
theorem dX10_expression_11 : decode cX10_expression 11 = .ok (.iload_n 1, 1) := by decide +kernel
theorem dX10_expression_12 : decode cX10_expression 12 = .ok (.ifCond .eq 33, 3) := by decide +kernel
theorem dX10_expression_15 : decode cX10_expression 15 = .ok (.aload_n 0, 1) := by decide +kernel
theorem dX10_expression_16 : decode cX10_expression 16 = .ok (.getfield 218, 3) := by decide +kernel
theorem dX10_expression_19 : decode cX10_expression 19 = .ok (.ifCond .ne 26, 3) := by decide +kernel
theorem dX10_expression_22 : decode cX10_expression 22 = .ok (.aload_n 0, 1) := by decide +kernel
theorem dX10_expression_23 : decode cX10_expression 23 = .ok (.invokevirtual 265, 3) := by decide +kernel
theorem dX10_expression_26 : decode cX10_expression 26 = .ok (.ifCond .ne 10, 3) := by decide +kernel
theorem dX10_expression_29 : decode cX10_expression 29 = .ok (.aload_n 0, 1) := by decide +kernel
theorem dX10_expression_30 : decode cX10_expression 30 = .ok (.invokevirtual 269, 3) := by decide +kernel
theorem dX10_expression_33 : decode cX10_expression 33 = .ok (.ifCond .eq 7, 3) := by decide +kernel
theorem dX10_expression_36 : decode cX10_expression 36 = .ok (.iconst 1, 1) := by decide +kernel
theorem dX10_expression_37 : decode cX10_expression 37 = .ok (.goto 4, 3) := by decide +kernel
theorem dX10_expression_40 : decode cX10_expression 40 = .ok (.iconst 0, 1) := by decide +kernel
theorem dX10_expression_41 : decode cX10_expression 41 = .ok (.istore_n 1, 1) := by decide +kernel
theorem dX10_expression_42 : decode cX10_expression 42 = .ok (.goto (-31), 3) := by decide +kernel
theorem dX10_expression_45 : decode cX10_expression 45 = .ok (.aload_n 0, 1) := by decide +kernel
theorem dX10_expression_46 : decode cX10_expression 46 = .ok (.iconst 0, 1) := by decide +kernel
theorem dX10_expression_47 : decode cX10_expression 47 = .ok (.iconst 0, 1) := by decide +kernel
theorem dX10_expression_48 : decode cX10_expression 48 = .ok (.invokevirtual 272, 3) := by decide +kernel
theorem dX10_expression_51 : decode cX10_expression 51 = .ok (.return_, 1) := by decide +kernel
theorem dX10_opens_0 : decode cX10_opens 0 = .ok (.aload_n 0, 1) := by decide +kernel
theorem dX10_opens_1 : decode cX10_opens 1 = .ok (.getfield 102, 3) := by decide +kernel
theorem dX10_opens_4 : decode cX10_opens 4 = .ok (.aload_n 0, 1) := by decide +kernel
theorem dX10_opens_5 : decode cX10_opens 5 = .ok (.getfield 259, 3) := by decide +kernel
theorem dX10_opens_8 : decode cX10_opens 8 = .ok (.iconst 0, 1) := by decide +kernel
theorem dX10_opens_9 : decode cX10_opens 9 = .ok (.iastore, 1) := by decide +kernel
theorem dX10_opens_10 : decode cX10_opens 10 = .ok (.aload_n 0, 1) := by decide +kernel
theorem dX10_opens_11 : decode cX10_opens 11 = .ok (.getfield 105, 3) := by decide +kernel
theorem dX10_opens_14 : decode cX10_opens 14 = .ok (.aload_n 0, 1) := by decide +kernel
theorem dX10_opens_15 : decode cX10_opens 15 = .ok (.getfield 259, 3) := by decide +kernel
theorem dX10_opens_18 : decode cX10_opens 18 = .ok (.iconst 0, 1) := by decide +kernel
theorem dX10_opens_19 : decode cX10_opens 19 = .ok (.iastore, 1) := by decide +kernel
theorem dX10_opens_20 : decode cX10_opens 20 = .ok (.aload_n 0, 1) := by decide +kernel
theorem dX10_opens_21 : decode cX10_opens 21 = .ok (.getfield 108, 3) := by decide +kernel
theorem dX10_opens_24 : decode cX10_opens 24 = .ok (.aload_n 0, 1) := by decide +kernel
theorem dX10_opens_25 : decode cX10_opens 25 = .ok (.getfield 259, 3) := by decide +kernel
theorem dX10_opens_28 : decode cX10_opens 28 = .ok (.iconst 0, 1) := by decide +kernel
theorem dX10_opens_29 : decode cX10_opens 29 = .ok (.iastore, 1) := by decide +kernel
theorem dX10_opens_30 : decode cX10_opens 30 = .ok (.return_, 1) := by decide +kernel
theorem dX10_partWord_0 : decode cX10_partWord 0 = .ok (.iconst 0, 1) := by decide +kernel
theorem dX10_partWord_1 : decode cX10_partWord 1 = .ok (.istore_n 1, 1) := by decide +kernel
theorem dX10_partWord_2 : decode cX10_partWord 2 = .ok (.iload_n 1, 1) := by decide +kernel
theorem dX10_partWord_3 : decode cX10_partWord 3 = .ok (.bipush 13, 2) := by decide +kernel
theorem dX10_partWord_5 : decode cX10_partWord 5 = .ok (.if_icmp .ge 21, 3) := by decide +kernel
theorem dX10_partWord_8 : decode cX10_partWord 8 = .ok (.aload_n 0, 1) := by decide +kernel
theorem dX10_partWord_9 : decode cX10_partWord 9 = .ok (.iconst 4, 1) := by decide +kernel
theorem dX10_partWord_10 : decode cX10_partWord 10 = .ok (.iload_n 1, 1) := by decide +kernel
theorem dX10_partWord_11 : decode cX10_partWord 11 = .ok (.iadd, 1) := by decide +kernel
theorem dX10_partWord_12 : decode cX10_partWord 12 = .ok (.invokevirtual 228, 3) := by decide +kernel
theorem dX10_partWord_15 : decode cX10_partWord 15 = .ok (.ifCond .eq 5, 3) := by decide +kernel
theorem dX10_partWord_18 : decode cX10_partWord 18 = .ok (.iload_n 1, 1) := by decide +kernel
theorem dX10_partWord_19 : decode cX10_partWord 19 = .ok (.ireturn, 1) := by decide +kernel
theorem dX10_partWord_20 : decode cX10_partWord 20 = .ok (.iinc 1 1, 3) := by decide +kernel
theorem dX10_partWord_23 : decode cX10_partWord 23 = .ok (.goto (-21), 3) := by decide +kernel
theorem dX10_partWord_26 : decode cX10_partWord 26 = .ok (.iconst (-1), 1) := by decide +kernel
theorem dX10_partWord_27 : decode cX10_partWord 27 = .ok (.ireturn, 1) := by decide +kernel
theorem dX10_part_0 : decode cX10_part 0 = .ok (.aload_n 0, 1) := by decide +kernel
theorem dX10_part_1 : decode cX10_part 1 = .ok (.invokevirtual 249, 3) := by decide +kernel
theorem dX10_part_4 : decode cX10_part 4 = .ok (.istore_n 1, 1) := by decide +kernel
theorem dX10_part_5 : decode cX10_part 5 = .ok (.aload_n 0, 1) := by decide +kernel
theorem dX10_part_6 : decode cX10_part 6 = .ok (.getfield 218, 3) := by decide +kernel
theorem dX10_part_9 : decode cX10_part 9 = .ok (.ifCond .ne 37, 3) := by decide +kernel
theorem dX10_part_12 : decode cX10_part 12 = .ok (.aload_n 0, 1) := by decide +kernel
theorem dX10_part_13 : decode cX10_part 13 = .ok (.getfield 24, 3) := by decide +kernel
theorem dX10_part_16 : decode cX10_part 16 = .ok (.aload_n 0, 1) := by decide +kernel
theorem dX10_part_17 : decode cX10_part 17 = .ok (.getfield 215, 3) := by decide +kernel
theorem dX10_part_20 : decode cX10_part 20 = .ok (.iaload, 1) := by decide +kernel
theorem dX10_part_21 : decode cX10_part 21 = .ok (.iconst 2, 1) := by decide +kernel
theorem dX10_part_22 : decode cX10_part 22 = .ok (.if_icmp .eq 24, 3) := by decide +kernel
theorem dX10_part_25 : decode cX10_part 25 = .ok (.aload_n 0, 1) := by decide +kernel
theorem dX10_part_26 : decode cX10_part 26 = .ok (.bipush 40, 2) := by decide +kernel
theorem dX10_part_28 : decode cX10_part 28 = .ok (.invokevirtual 221, 3) := by decide +kernel
theorem dX10_part_31 : decode cX10_part 31 = .ok (.ifCond .ne 15, 3) := by decide +kernel
theorem dX10_part_34 : decode cX10_part 34 = .ok (.iload_n 1, 1) := by decide +kernel
theorem dX10_part_35 : decode cX10_part 35 = .ok (.ifCond .ge 11, 3) := by decide +kernel
theorem dX10_part_38 : decode cX10_part 38 = .ok (.aload_n 0, 1) := by decide +kernel
theorem dX10_part_39 : decode cX10_part 39 = .ok (.iconst 1, 1) := by decide +kernel
theorem dX10_part_40 : decode cX10_part 40 = .ok (.invokevirtual 224, 3) := by decide +kernel
theorem dX10_part_43 : decode cX10_part 43 = .ok (.goto 16, 3) := by decide +kernel
theorem dX10_part_46 : decode cX10_part 46 = .ok (.aload_n 0, 1) := by decide +kernel
theorem dX10_part_47 : decode cX10_part 47 = .ok (.getfield 259, 3) := by decide +kernel
theorem dX10_part_50 : decode cX10_part 50 = .ok (.iconst 5, 1) := by decide +kernel
theorem dX10_part_51 : decode cX10_part 51 = .ok (.if_icmp .ne 8, 3) := by decide +kernel
theorem dX10_part_54 : decode cX10_part 54 = .ok (.aload_n 0, 1) := by decide +kernel
theorem dX10_part_55 : decode cX10_part 55 = .ok (.iconst 5, 1) := by decide +kernel
theorem dX10_part_56 : decode cX10_part 56 = .ok (.invokevirtual 224, 3) := by decide +kernel
theorem dX10_part_59 : decode cX10_part 59 = .ok (.aload_n 0, 1) := by decide +kernel
theorem dX10_part_60 : decode cX10_part 60 = .ok (.getfield 218, 3) := by decide +kernel
theorem dX10_part_63 : decode cX10_part 63 = .ok (.ifCond .le 5, 3) := by decide +kernel
theorem dX10_part_66 : decode cX10_part 66 = .ok (.iconst 0, 1) := by decide +kernel
theorem dX10_part_67 : decode cX10_part 67 = .ok (.ireturn, 1) := by decide +kernel
theorem dX10_part_68 : decode cX10_part 68 = .ok (.aload_n 0, 1) := by decide +kernel
theorem dX10_part_69 : decode cX10_part 69 = .ok (.bipush 40, 2) := by decide +kernel
theorem dX10_part_71 : decode cX10_part 71 = .ok (.invokevirtual 276, 3) := by decide +kernel
theorem dX10_part_74 : decode cX10_part 74 = .ok (.ifCond .eq 19, 3) := by decide +kernel
theorem dX10_part_77 : decode cX10_part 77 = .ok (.aload_n 0, 1) := by decide +kernel
theorem dX10_part_78 : decode cX10_part 78 = .ok (.dup, 1) := by decide +kernel
theorem dX10_part_79 : decode cX10_part 79 = .ok (.getfield 259, 3) := by decide +kernel
theorem dX10_part_82 : decode cX10_part 82 = .ok (.iconst 1, 1) := by decide +kernel
theorem dX10_part_83 : decode cX10_part 83 = .ok (.iadd, 1) := by decide +kernel
theorem dX10_part_84 : decode cX10_part 84 = .ok (.putfield 259, 3) := by decide +kernel
theorem dX10_part_87 : decode cX10_part 87 = .ok (.aload_n 0, 1) := by decide +kernel
theorem dX10_part_88 : decode cX10_part 88 = .ok (.invokevirtual 262, 3) := by decide +kernel
theorem dX10_part_91 : decode cX10_part 91 = .ok (.iconst 1, 1) := by decide +kernel
theorem dX10_part_92 : decode cX10_part 92 = .ok (.ireturn, 1) := by decide +kernel
theorem dX10_part_93 : decode cX10_part 93 = .ok (.aload_n 0, 1) := by decide +kernel
theorem dX10_part_94 : decode cX10_part 94 = .ok (.iload_n 1, 1) := by decide +kernel
theorem dX10_part_95 : decode cX10_part 95 = .ok (.ifCond .ge 7, 3) := by decide +kernel
theorem dX10_part_98 : decode cX10_part 98 = .ok (.iconst 1, 1) := by decide +kernel
theorem dX10_part_99 : decode cX10_part 99 = .ok (.goto 4, 3) := by decide +kernel
theorem dX10_part_102 : decode cX10_part 102 = .ok (.iconst 2, 1) := by decide +kernel
theorem dX10_part_103 : decode cX10_part 103 = .ok (.iload_n 1, 1) := by decide +kernel
theorem dX10_part_104 : decode cX10_part 104 = .ok (.ifCond .ge 16, 3) := by decide +kernel
theorem dX10_part_107 : decode cX10_part 107 = .ok (.aload_n 0, 1) := by decide +kernel
theorem dX10_part_108 : decode cX10_part 108 = .ok (.getfield 30, 3) := by decide +kernel
theorem dX10_part_111 : decode cX10_part 111 = .ok (.aload_n 0, 1) := by decide +kernel
theorem dX10_part_112 : decode cX10_part 112 = .ok (.getfield 215, 3) := by decide +kernel
theorem dX10_part_115 : decode cX10_part 115 = .ok (.laload, 1) := by decide +kernel
theorem dX10_part_116 : decode cX10_part 116 = .ok (.l2i, 1) := by decide +kernel
theorem dX10_part_117 : decode cX10_part 117 = .ok (.goto 4, 3) := by decide +kernel
theorem dX10_part_120 : decode cX10_part 120 = .ok (.iload_n 1, 1) := by decide +kernel
theorem dX10_part_121 : decode cX10_part 121 = .ok (.invokevirtual 272, 3) := by decide +kernel
theorem dX10_part_124 : decode cX10_part 124 = .ok (.aload_n 0, 1) := by decide +kernel
theorem dX10_part_125 : decode cX10_part 125 = .ok (.dup, 1) := by decide +kernel
theorem dX10_part_126 : decode cX10_part 126 = .ok (.getfield 215, 3) := by decide +kernel
theorem dX10_part_129 : decode cX10_part 129 = .ok (.iconst 1, 1) := by decide +kernel
theorem dX10_part_130 : decode cX10_part 130 = .ok (.iadd, 1) := by decide +kernel
theorem dX10_part_131 : decode cX10_part 131 = .ok (.putfield 215, 3) := by decide +kernel
theorem dX10_part_134 : decode cX10_part 134 = .ok (.iconst 0, 1) := by decide +kernel
theorem dX10_part_135 : decode cX10_part 135 = .ok (.ireturn, 1) := by decide +kernel
theorem dX10_goesOnBehind_0 : decode cX10_goesOnBehind 0 = .ok (.aload_n 0, 1) := by decide +kernel
end
section
theorem dX10_goesOnBehind_1 : decode cX10_goesOnBehind 1 = .ok (.getfield 218, 3) := by decide +kernel
theorem dX10_goesOnBehind_4 : decode cX10_goesOnBehind 4 = .ok (.ifCond .ne 273, 3) := by decide +kernel
theorem dX10_goesOnBehind_7 : decode cX10_goesOnBehind 7 = .ok (.aload_n 0, 1) := by decide +kernel
theorem dX10_goesOnBehind_8 : decode cX10_goesOnBehind 8 = .ok (.getfield 102, 3) := by decide +kernel
theorem dX10_goesOnBehind_11 : decode cX10_goesOnBehind 11 = .ok (.aload_n 0, 1) := by decide +kernel
theorem dX10_goesOnBehind_12 : decode cX10_goesOnBehind 12 = .ok (.getfield 259, 3) := by decide +kernel
theorem dX10_goesOnBehind_15 : decode cX10_goesOnBehind 15 = .ok (.iaload, 1) := by decide +kernel
theorem dX10_goesOnBehind_16 : decode cX10_goesOnBehind 16 = .ok (.ifCond .eq 27, 3) := by decide +kernel
theorem dX10_goesOnBehind_19 : decode cX10_goesOnBehind 19 = .ok (.aload_n 0, 1) := by decide +kernel
theorem dX10_goesOnBehind_20 : decode cX10_goesOnBehind 20 = .ok (.aload_n 0, 1) := by decide +kernel
theorem dX10_goesOnBehind_21 : decode cX10_goesOnBehind 21 = .ok (.getfield 102, 3) := by decide +kernel
theorem dX10_goesOnBehind_24 : decode cX10_goesOnBehind 24 = .ok (.aload_n 0, 1) := by decide +kernel
theorem dX10_goesOnBehind_25 : decode cX10_goesOnBehind 25 = .ok (.getfield 259, 3) := by decide +kernel
theorem dX10_goesOnBehind_28 : decode cX10_goesOnBehind 28 = .ok (.iaload, 1) := by decide +kernel
theorem dX10_goesOnBehind_29 : decode cX10_goesOnBehind 29 = .ok (.iconst 0, 1) := by decide +kernel
theorem dX10_goesOnBehind_30 : decode cX10_goesOnBehind 30 = .ok (.invokevirtual 272, 3) := by decide +kernel
theorem dX10_goesOnBehind_33 : decode cX10_goesOnBehind 33 = .ok (.aload_n 0, 1) := by decide +kernel
theorem dX10_goesOnBehind_34 : decode cX10_goesOnBehind 34 = .ok (.getfield 102, 3) := by decide +kernel
theorem dX10_goesOnBehind_37 : decode cX10_goesOnBehind 37 = .ok (.aload_n 0, 1) := by decide +kernel
theorem dX10_goesOnBehind_38 : decode cX10_goesOnBehind 38 = .ok (.getfield 259, 3) := by decide +kernel
theorem dX10_goesOnBehind_41 : decode cX10_goesOnBehind 41 = .ok (.iconst 0, 1) := by decide +kernel
theorem dX10_goesOnBehind_42 : decode cX10_goesOnBehind 42 = .ok (.iastore, 1) := by decide +kernel
theorem dX10_goesOnBehind_43 : decode cX10_goesOnBehind 43 = .ok (.aload_n 0, 1) := by decide +kernel
theorem dX10_goesOnBehind_44 : decode cX10_goesOnBehind 44 = .ok (.bipush 43, 2) := by decide +kernel
theorem dX10_goesOnBehind_46 : decode cX10_goesOnBehind 46 = .ok (.invokevirtual 221, 3) := by decide +kernel
theorem dX10_goesOnBehind_49 : decode cX10_goesOnBehind 49 = .ok (.ifCond .ne 12, 3) := by decide +kernel
theorem dX10_goesOnBehind_52 : decode cX10_goesOnBehind 52 = .ok (.aload_n 0, 1) := by decide +kernel
theorem dX10_goesOnBehind_53 : decode cX10_goesOnBehind 53 = .ok (.bipush 45, 2) := by decide +kernel
theorem dX10_goesOnBehind_55 : decode cX10_goesOnBehind 55 = .ok (.invokevirtual 221, 3) := by decide +kernel
theorem dX10_goesOnBehind_58 : decode cX10_goesOnBehind 58 = .ok (.ifCond .eq 38, 3) := by decide +kernel
theorem dX10_goesOnBehind_61 : decode cX10_goesOnBehind 61 = .ok (.aload_n 0, 1) := by decide +kernel
theorem dX10_goesOnBehind_62 : decode cX10_goesOnBehind 62 = .ok (.getfield 102, 3) := by decide +kernel
theorem dX10_goesOnBehind_65 : decode cX10_goesOnBehind 65 = .ok (.aload_n 0, 1) := by decide +kernel
theorem dX10_goesOnBehind_66 : decode cX10_goesOnBehind 66 = .ok (.getfield 259, 3) := by decide +kernel
theorem dX10_goesOnBehind_69 : decode cX10_goesOnBehind 69 = .ok (.aload_n 0, 1) := by decide +kernel
theorem dX10_goesOnBehind_70 : decode cX10_goesOnBehind 70 = .ok (.bipush 43, 2) := by decide +kernel
theorem dX10_goesOnBehind_72 : decode cX10_goesOnBehind 72 = .ok (.invokevirtual 221, 3) := by decide +kernel
theorem dX10_goesOnBehind_75 : decode cX10_goesOnBehind 75 = .ok (.ifCond .eq 7, 3) := by decide +kernel
theorem dX10_goesOnBehind_78 : decode cX10_goesOnBehind 78 = .ok (.iconst 3, 1) := by decide +kernel
theorem dX10_goesOnBehind_79 : decode cX10_goesOnBehind 79 = .ok (.goto 4, 3) := by decide +kernel
theorem dX10_goesOnBehind_82 : decode cX10_goesOnBehind 82 = .ok (.iconst 4, 1) := by decide +kernel
theorem dX10_goesOnBehind_83 : decode cX10_goesOnBehind 83 = .ok (.iastore, 1) := by decide +kernel
theorem dX10_goesOnBehind_84 : decode cX10_goesOnBehind 84 = .ok (.aload_n 0, 1) := by decide +kernel
theorem dX10_goesOnBehind_85 : decode cX10_goesOnBehind 85 = .ok (.dup, 1) := by decide +kernel
theorem dX10_goesOnBehind_86 : decode cX10_goesOnBehind 86 = .ok (.getfield 215, 3) := by decide +kernel
theorem dX10_goesOnBehind_89 : decode cX10_goesOnBehind 89 = .ok (.iconst 1, 1) := by decide +kernel
theorem dX10_goesOnBehind_90 : decode cX10_goesOnBehind 90 = .ok (.iadd, 1) := by decide +kernel
theorem dX10_goesOnBehind_91 : decode cX10_goesOnBehind 91 = .ok (.putfield 215, 3) := by decide +kernel
theorem dX10_goesOnBehind_94 : decode cX10_goesOnBehind 94 = .ok (.iconst 1, 1) := by decide +kernel
theorem dX10_goesOnBehind_95 : decode cX10_goesOnBehind 95 = .ok (.ireturn, 1) := by decide +kernel
theorem dX10_goesOnBehind_96 : decode cX10_goesOnBehind 96 = .ok (.aload_n 0, 1) := by decide +kernel
theorem dX10_goesOnBehind_97 : decode cX10_goesOnBehind 97 = .ok (.getfield 105, 3) := by decide +kernel
theorem dX10_goesOnBehind_100 : decode cX10_goesOnBehind 100 = .ok (.aload_n 0, 1) := by decide +kernel
theorem dX10_goesOnBehind_101 : decode cX10_goesOnBehind 101 = .ok (.getfield 259, 3) := by decide +kernel
theorem dX10_goesOnBehind_104 : decode cX10_goesOnBehind 104 = .ok (.iaload, 1) := by decide +kernel
theorem dX10_goesOnBehind_105 : decode cX10_goesOnBehind 105 = .ok (.ifCond .eq 30, 3) := by decide +kernel
theorem dX10_goesOnBehind_108 : decode cX10_goesOnBehind 108 = .ok (.aload_n 0, 1) := by decide +kernel
theorem dX10_goesOnBehind_109 : decode cX10_goesOnBehind 109 = .ok (.aload_n 0, 1) := by decide +kernel
theorem dX10_goesOnBehind_110 : decode cX10_goesOnBehind 110 = .ok (.getfield 105, 3) := by decide +kernel
theorem dX10_goesOnBehind_113 : decode cX10_goesOnBehind 113 = .ok (.aload_n 0, 1) := by decide +kernel
theorem dX10_goesOnBehind_114 : decode cX10_goesOnBehind 114 = .ok (.getfield 259, 3) := by decide +kernel
theorem dX10_goesOnBehind_117 : decode cX10_goesOnBehind 117 = .ok (.iaload, 1) := by decide +kernel
theorem dX10_goesOnBehind_118 : decode cX10_goesOnBehind 118 = .ok (.iconst 0, 1) := by decide +kernel
theorem dX10_goesOnBehind_119 : decode cX10_goesOnBehind 119 = .ok (.invokevirtual 272, 3) := by decide +kernel
theorem dX10_goesOnBehind_122 : decode cX10_goesOnBehind 122 = .ok (.aload_n 0, 1) := by decide +kernel
theorem dX10_goesOnBehind_123 : decode cX10_goesOnBehind 123 = .ok (.getfield 105, 3) := by decide +kernel
theorem dX10_goesOnBehind_126 : decode cX10_goesOnBehind 126 = .ok (.aload_n 0, 1) := by decide +kernel
theorem dX10_goesOnBehind_127 : decode cX10_goesOnBehind 127 = .ok (.getfield 259, 3) := by decide +kernel
theorem dX10_goesOnBehind_130 : decode cX10_goesOnBehind 130 = .ok (.iconst 0, 1) := by decide +kernel
theorem dX10_goesOnBehind_131 : decode cX10_goesOnBehind 131 = .ok (.iastore, 1) := by decide +kernel
theorem dX10_goesOnBehind_132 : decode cX10_goesOnBehind 132 = .ok (.goto 57, 3) := by decide +kernel
theorem dX10_goesOnBehind_135 : decode cX10_goesOnBehind 135 = .ok (.aload_n 0, 1) := by decide +kernel
theorem dX10_goesOnBehind_136 : decode cX10_goesOnBehind 136 = .ok (.bipush 60, 2) := by decide +kernel
theorem dX10_goesOnBehind_138 : decode cX10_goesOnBehind 138 = .ok (.invokevirtual 221, 3) := by decide +kernel
theorem dX10_goesOnBehind_141 : decode cX10_goesOnBehind 141 = .ok (.ifCond .ne 12, 3) := by decide +kernel
theorem dX10_goesOnBehind_144 : decode cX10_goesOnBehind 144 = .ok (.aload_n 0, 1) := by decide +kernel
theorem dX10_goesOnBehind_145 : decode cX10_goesOnBehind 145 = .ok (.bipush 61, 2) := by decide +kernel
theorem dX10_goesOnBehind_147 : decode cX10_goesOnBehind 147 = .ok (.invokevirtual 221, 3) := by decide +kernel
theorem dX10_goesOnBehind_150 : decode cX10_goesOnBehind 150 = .ok (.ifCond .eq 39, 3) := by decide +kernel
theorem dX10_goesOnBehind_153 : decode cX10_goesOnBehind 153 = .ok (.aload_n 0, 1) := by decide +kernel
theorem dX10_goesOnBehind_154 : decode cX10_goesOnBehind 154 = .ok (.getfield 105, 3) := by decide +kernel
theorem dX10_goesOnBehind_157 : decode cX10_goesOnBehind 157 = .ok (.aload_n 0, 1) := by decide +kernel
theorem dX10_goesOnBehind_158 : decode cX10_goesOnBehind 158 = .ok (.getfield 259, 3) := by decide +kernel
theorem dX10_goesOnBehind_161 : decode cX10_goesOnBehind 161 = .ok (.aload_n 0, 1) := by decide +kernel
theorem dX10_goesOnBehind_162 : decode cX10_goesOnBehind 162 = .ok (.bipush 60, 2) := by decide +kernel
theorem dX10_goesOnBehind_164 : decode cX10_goesOnBehind 164 = .ok (.invokevirtual 221, 3) := by decide +kernel
theorem dX10_goesOnBehind_167 : decode cX10_goesOnBehind 167 = .ok (.ifCond .eq 7, 3) := by decide +kernel
theorem dX10_goesOnBehind_170 : decode cX10_goesOnBehind 170 = .ok (.iconst 5, 1) := by decide +kernel
theorem dX10_goesOnBehind_171 : decode cX10_goesOnBehind 171 = .ok (.goto 5, 3) := by decide +kernel
theorem dX10_goesOnBehind_174 : decode cX10_goesOnBehind 174 = .ok (.bipush 6, 2) := by decide +kernel
theorem dX10_goesOnBehind_176 : decode cX10_goesOnBehind 176 = .ok (.iastore, 1) := by decide +kernel
theorem dX10_goesOnBehind_177 : decode cX10_goesOnBehind 177 = .ok (.aload_n 0, 1) := by decide +kernel
theorem dX10_goesOnBehind_178 : decode cX10_goesOnBehind 178 = .ok (.dup, 1) := by decide +kernel
theorem dX10_goesOnBehind_179 : decode cX10_goesOnBehind 179 = .ok (.getfield 215, 3) := by decide +kernel
theorem dX10_goesOnBehind_182 : decode cX10_goesOnBehind 182 = .ok (.iconst 1, 1) := by decide +kernel
theorem dX10_goesOnBehind_183 : decode cX10_goesOnBehind 183 = .ok (.iadd, 1) := by decide +kernel
theorem dX10_goesOnBehind_184 : decode cX10_goesOnBehind 184 = .ok (.putfield 215, 3) := by decide +kernel
theorem dX10_goesOnBehind_187 : decode cX10_goesOnBehind 187 = .ok (.iconst 1, 1) := by decide +kernel
theorem dX10_goesOnBehind_188 : decode cX10_goesOnBehind 188 = .ok (.ireturn, 1) := by decide +kernel
theorem dX10_goesOnBehind_189 : decode cX10_goesOnBehind 189 = .ok (.aload_n 0, 1) := by decide +kernel
theorem dX10_goesOnBehind_190 : decode cX10_goesOnBehind 190 = .ok (.getfield 108, 3) := by decide +kernel
theorem dX10_goesOnBehind_193 : decode cX10_goesOnBehind 193 = .ok (.aload_n 0, 1) := by decide +kernel
theorem dX10_goesOnBehind_194 : decode cX10_goesOnBehind 194 = .ok (.getfield 259, 3) := by decide +kernel
theorem dX10_goesOnBehind_197 : decode cX10_goesOnBehind 197 = .ok (.iaload, 1) := by decide +kernel
theorem dX10_goesOnBehind_198 : decode cX10_goesOnBehind 198 = .ok (.ifCond .eq 20, 3) := by decide +kernel
theorem dX10_goesOnBehind_201 : decode cX10_goesOnBehind 201 = .ok (.aload_n 0, 1) := by decide +kernel
theorem dX10_goesOnBehind_202 : decode cX10_goesOnBehind 202 = .ok (.bipush 7, 2) := by decide +kernel
theorem dX10_goesOnBehind_204 : decode cX10_goesOnBehind 204 = .ok (.iconst 0, 1) := by decide +kernel
theorem dX10_goesOnBehind_205 : decode cX10_goesOnBehind 205 = .ok (.invokevirtual 272, 3) := by decide +kernel
theorem dX10_goesOnBehind_208 : decode cX10_goesOnBehind 208 = .ok (.aload_n 0, 1) := by decide +kernel
theorem dX10_goesOnBehind_209 : decode cX10_goesOnBehind 209 = .ok (.getfield 108, 3) := by decide +kernel
theorem dX10_goesOnBehind_212 : decode cX10_goesOnBehind 212 = .ok (.aload_n 0, 1) := by decide +kernel
theorem dX10_goesOnBehind_213 : decode cX10_goesOnBehind 213 = .ok (.getfield 259, 3) := by decide +kernel
theorem dX10_goesOnBehind_216 : decode cX10_goesOnBehind 216 = .ok (.iconst 0, 1) := by decide +kernel
theorem dX10_goesOnBehind_217 : decode cX10_goesOnBehind 217 = .ok (.iastore, 1) := by decide +kernel
theorem dX10_goesOnBehind_218 : decode cX10_goesOnBehind 218 = .ok (.aload_n 0, 1) := by decide +kernel
theorem dX10_goesOnBehind_219 : decode cX10_goesOnBehind 219 = .ok (.iconst 3, 1) := by decide +kernel
theorem dX10_goesOnBehind_220 : decode cX10_goesOnBehind 220 = .ok (.invokevirtual 228, 3) := by decide +kernel
theorem dX10_goesOnBehind_223 : decode cX10_goesOnBehind 223 = .ok (.ifCond .eq 26, 3) := by decide +kernel
theorem dX10_goesOnBehind_226 : decode cX10_goesOnBehind 226 = .ok (.aload_n 0, 1) := by decide +kernel
theorem dX10_goesOnBehind_227 : decode cX10_goesOnBehind 227 = .ok (.getfield 108, 3) := by decide +kernel
theorem dX10_goesOnBehind_230 : decode cX10_goesOnBehind 230 = .ok (.aload_n 0, 1) := by decide +kernel
theorem dX10_goesOnBehind_231 : decode cX10_goesOnBehind 231 = .ok (.getfield 259, 3) := by decide +kernel
theorem dX10_goesOnBehind_234 : decode cX10_goesOnBehind 234 = .ok (.bipush 7, 2) := by decide +kernel
theorem dX10_goesOnBehind_236 : decode cX10_goesOnBehind 236 = .ok (.iastore, 1) := by decide +kernel
theorem dX10_goesOnBehind_237 : decode cX10_goesOnBehind 237 = .ok (.aload_n 0, 1) := by decide +kernel
theorem dX10_goesOnBehind_238 : decode cX10_goesOnBehind 238 = .ok (.dup, 1) := by decide +kernel
theorem dX10_goesOnBehind_239 : decode cX10_goesOnBehind 239 = .ok (.getfield 215, 3) := by decide +kernel
theorem dX10_goesOnBehind_242 : decode cX10_goesOnBehind 242 = .ok (.iconst 1, 1) := by decide +kernel
theorem dX10_goesOnBehind_243 : decode cX10_goesOnBehind 243 = .ok (.iadd, 1) := by decide +kernel
theorem dX10_goesOnBehind_244 : decode cX10_goesOnBehind 244 = .ok (.putfield 215, 3) := by decide +kernel
theorem dX10_goesOnBehind_247 : decode cX10_goesOnBehind 247 = .ok (.iconst 1, 1) := by decide +kernel
theorem dX10_goesOnBehind_248 : decode cX10_goesOnBehind 248 = .ok (.ireturn, 1) := by decide +kernel
theorem dX10_goesOnBehind_249 : decode cX10_goesOnBehind 249 = .ok (.aload_n 0, 1) := by decide +kernel
theorem dX10_goesOnBehind_250 : decode cX10_goesOnBehind 250 = .ok (.getfield 259, 3) := by decide +kernel
theorem dX10_goesOnBehind_253 : decode cX10_goesOnBehind 253 = .ok (.ifCond .ne 5, 3) := by decide +kernel
theorem dX10_goesOnBehind_256 : decode cX10_goesOnBehind 256 = .ok (.iconst 0, 1) := by decide +kernel
theorem dX10_goesOnBehind_257 : decode cX10_goesOnBehind 257 = .ok (.ireturn, 1) := by decide +kernel
theorem dX10_goesOnBehind_258 : decode cX10_goesOnBehind 258 = .ok (.aload_n 0, 1) := by decide +kernel
theorem dX10_goesOnBehind_259 : decode cX10_goesOnBehind 259 = .ok (.bipush 41, 2) := by decide +kernel
theorem dX10_goesOnBehind_261 : decode cX10_goesOnBehind 261 = .ok (.invokevirtual 256, 3) := by decide +kernel
theorem dX10_goesOnBehind_264 : decode cX10_goesOnBehind 264 = .ok (.aload_n 0, 1) := by decide +kernel
theorem dX10_goesOnBehind_265 : decode cX10_goesOnBehind 265 = .ok (.dup, 1) := by decide +kernel
theorem dX10_goesOnBehind_266 : decode cX10_goesOnBehind 266 = .ok (.getfield 259, 3) := by decide +kernel
theorem dX10_goesOnBehind_269 : decode cX10_goesOnBehind 269 = .ok (.iconst 1, 1) := by decide +kernel
theorem dX10_goesOnBehind_270 : decode cX10_goesOnBehind 270 = .ok (.isub, 1) := by decide +kernel
theorem dX10_goesOnBehind_271 : decode cX10_goesOnBehind 271 = .ok (.putfield 259, 3) := by decide +kernel
theorem dX10_goesOnBehind_274 : decode cX10_goesOnBehind 274 = .ok (.goto (-274), 3) := by decide +kernel
theorem dX10_goesOnBehind_277 : decode cX10_goesOnBehind 277 = .ok (.iconst 0, 1) := by decide +kernel
theorem dX10_goesOnBehind_278 : decode cX10_goesOnBehind 278 = .ok (.ireturn, 1) := by decide +kernel
theorem dX10_worth_0 : decode cX10_worth 0 = .ok (.iload_n 1, 1) := by decide +kernel
theorem dX10_worth_1 : decode cX10_worth 1 = .ok (.istore_n 2, 1) := by decide +kernel
theorem dX10_worth_2 : decode cX10_worth 2 = .ok (.iconst 0, 1) := by decide +kernel
theorem dX10_worth_3 : decode cX10_worth 3 = .ok (.istore_n 3, 1) := by decide +kernel
theorem dX10_worth_4 : decode cX10_worth 4 = .ok (.aload_n 0, 1) := by decide +kernel
theorem dX10_worth_5 : decode cX10_worth 5 = .ok (.getfield 96, 3) := by decide +kernel
theorem dX10_worth_8 : decode cX10_worth 8 = .ok (.iload_n 2, 1) := by decide +kernel
theorem dX10_worth_9 : decode cX10_worth 9 = .ok (.iaload, 1) := by decide +kernel
theorem dX10_worth_10 : decode cX10_worth 10 = .ok (.ifCond .eq 182, 3) := by decide +kernel
theorem dX10_worth_13 : decode cX10_worth 13 = .ok (.aload_n 0, 1) := by decide +kernel
theorem dX10_worth_14 : decode cX10_worth 14 = .ok (.getfield 96, 3) := by decide +kernel
theorem dX10_worth_17 : decode cX10_worth 17 = .ok (.iload_n 2, 1) := by decide +kernel
theorem dX10_worth_18 : decode cX10_worth 18 = .ok (.iaload, 1) := by decide +kernel
theorem dX10_worth_19 : decode cX10_worth 19 = .ok (.istore 4, 2) := by decide +kernel
theorem dX10_worth_21 : decode cX10_worth 21 = .ok (.iload 4, 2) := by decide +kernel
theorem dX10_worth_23 : decode cX10_worth 23 = .ok (.iconst 1, 1) := by decide +kernel
theorem dX10_worth_24 : decode cX10_worth 24 = .ok (.if_icmp .eq 9, 3) := by decide +kernel
theorem dX10_worth_27 : decode cX10_worth 27 = .ok (.iload 4, 2) := by decide +kernel
theorem dX10_worth_29 : decode cX10_worth 29 = .ok (.iconst 2, 1) := by decide +kernel
theorem dX10_worth_30 : decode cX10_worth 30 = .ok (.if_icmp .ne 41, 3) := by decide +kernel
theorem dX10_worth_33 : decode cX10_worth 33 = .ok (.aload_n 0, 1) := by decide +kernel
theorem dX10_worth_34 : decode cX10_worth 34 = .ok (.getfield 114, 3) := by decide +kernel
theorem dX10_worth_37 : decode cX10_worth 37 = .ok (.iload_n 3, 1) := by decide +kernel
theorem dX10_worth_38 : decode cX10_worth 38 = .ok (.iload 4, 2) := by decide +kernel
theorem dX10_worth_40 : decode cX10_worth 40 = .ok (.iconst 1, 1) := by decide +kernel
theorem dX10_worth_41 : decode cX10_worth 41 = .ok (.if_icmp .ne 12, 3) := by decide +kernel
theorem dX10_worth_44 : decode cX10_worth 44 = .ok (.aload_n 0, 1) := by decide +kernel
theorem dX10_worth_45 : decode cX10_worth 45 = .ok (.getfield 99, 3) := by decide +kernel
theorem dX10_worth_48 : decode cX10_worth 48 = .ok (.iload_n 2, 1) := by decide +kernel
theorem dX10_worth_49 : decode cX10_worth 49 = .ok (.iaload, 1) := by decide +kernel
theorem dX10_worth_50 : decode cX10_worth 50 = .ok (.goto 14, 3) := by decide +kernel
theorem dX10_worth_53 : decode cX10_worth 53 = .ok (.aload_n 0, 1) := by decide +kernel
theorem dX10_worth_54 : decode cX10_worth 54 = .ok (.getfield 111, 3) := by decide +kernel
theorem dX10_worth_57 : decode cX10_worth 57 = .ok (.aload_n 0, 1) := by decide +kernel
theorem dX10_worth_58 : decode cX10_worth 58 = .ok (.getfield 99, 3) := by decide +kernel
theorem dX10_worth_61 : decode cX10_worth 61 = .ok (.iload_n 2, 1) := by decide +kernel
theorem dX10_worth_62 : decode cX10_worth 62 = .ok (.iaload, 1) := by decide +kernel
theorem dX10_worth_63 : decode cX10_worth 63 = .ok (.iaload, 1) := by decide +kernel
theorem dX10_worth_64 : decode cX10_worth 64 = .ok (.iastore, 1) := by decide +kernel
theorem dX10_worth_65 : decode cX10_worth 65 = .ok (.iinc 3 1, 3) := by decide +kernel
theorem dX10_worth_68 : decode cX10_worth 68 = .ok (.goto 118, 3) := by decide +kernel
theorem dX10_worth_71 : decode cX10_worth 71 = .ok (.iinc 3 (-1), 3) := by decide +kernel
theorem dX10_worth_74 : decode cX10_worth 74 = .ok (.aload_n 0, 1) := by decide +kernel
theorem dX10_worth_75 : decode cX10_worth 75 = .ok (.getfield 114, 3) := by decide +kernel
theorem dX10_worth_78 : decode cX10_worth 78 = .ok (.iload_n 3, 1) := by decide +kernel
theorem dX10_worth_79 : decode cX10_worth 79 = .ok (.iaload, 1) := by decide +kernel
theorem dX10_worth_80 : decode cX10_worth 80 = .ok (.istore 5, 2) := by decide +kernel
theorem dX10_worth_82 : decode cX10_worth 82 = .ok (.aload_n 0, 1) := by decide +kernel
theorem dX10_worth_83 : decode cX10_worth 83 = .ok (.getfield 114, 3) := by decide +kernel
theorem dX10_worth_86 : decode cX10_worth 86 = .ok (.iload_n 3, 1) := by decide +kernel
theorem dX10_worth_87 : decode cX10_worth 87 = .ok (.iconst 1, 1) := by decide +kernel
theorem dX10_worth_88 : decode cX10_worth 88 = .ok (.isub, 1) := by decide +kernel
theorem dX10_worth_89 : decode cX10_worth 89 = .ok (.iaload, 1) := by decide +kernel
theorem dX10_worth_90 : decode cX10_worth 90 = .ok (.istore 6, 2) := by decide +kernel
theorem dX10_worth_92 : decode cX10_worth 92 = .ok (.aload_n 0, 1) := by decide +kernel
theorem dX10_worth_93 : decode cX10_worth 93 = .ok (.getfield 114, 3) := by decide +kernel
theorem dX10_worth_96 : decode cX10_worth 96 = .ok (.iload_n 3, 1) := by decide +kernel
theorem dX10_worth_97 : decode cX10_worth 97 = .ok (.iconst 1, 1) := by decide +kernel
theorem dX10_worth_98 : decode cX10_worth 98 = .ok (.isub, 1) := by decide +kernel
theorem dX10_worth_99 : decode cX10_worth 99 = .ok (.iload 4, 2) := by decide +kernel
theorem dX10_worth_101 : decode cX10_worth 101 = .ok (.iconst 3, 1) := by decide +kernel
theorem dX10_worth_102 : decode cX10_worth 102 = .ok (.if_icmp .ne 11, 3) := by decide +kernel
theorem dX10_worth_105 : decode cX10_worth 105 = .ok (.iload 6, 2) := by decide +kernel
theorem dX10_worth_107 : decode cX10_worth 107 = .ok (.iload 5, 2) := by decide +kernel
theorem dX10_worth_109 : decode cX10_worth 109 = .ok (.iadd, 1) := by decide +kernel
theorem dX10_worth_110 : decode cX10_worth 110 = .ok (.goto 75, 3) := by decide +kernel
theorem dX10_worth_113 : decode cX10_worth 113 = .ok (.iload 4, 2) := by decide +kernel
theorem dX10_worth_115 : decode cX10_worth 115 = .ok (.iconst 4, 1) := by decide +kernel
theorem dX10_worth_116 : decode cX10_worth 116 = .ok (.if_icmp .ne 11, 3) := by decide +kernel
theorem dX10_worth_119 : decode cX10_worth 119 = .ok (.iload 6, 2) := by decide +kernel
theorem dX10_worth_121 : decode cX10_worth 121 = .ok (.iload 5, 2) := by decide +kernel
theorem dX10_worth_123 : decode cX10_worth 123 = .ok (.isub, 1) := by decide +kernel
theorem dX10_worth_124 : decode cX10_worth 124 = .ok (.goto 61, 3) := by decide +kernel
theorem dX10_worth_127 : decode cX10_worth 127 = .ok (.iload 4, 2) := by decide +kernel
theorem dX10_worth_129 : decode cX10_worth 129 = .ok (.iconst 5, 1) := by decide +kernel
theorem dX10_worth_130 : decode cX10_worth 130 = .ok (.if_icmp .ne 18, 3) := by decide +kernel
theorem dX10_worth_133 : decode cX10_worth 133 = .ok (.iload 6, 2) := by decide +kernel
theorem dX10_worth_135 : decode cX10_worth 135 = .ok (.iload 5, 2) := by decide +kernel
theorem dX10_worth_137 : decode cX10_worth 137 = .ok (.if_icmp .ge 7, 3) := by decide +kernel
theorem dX10_worth_140 : decode cX10_worth 140 = .ok (.iconst 1, 1) := by decide +kernel
theorem dX10_worth_141 : decode cX10_worth 141 = .ok (.goto 44, 3) := by decide +kernel
theorem dX10_worth_144 : decode cX10_worth 144 = .ok (.iconst 0, 1) := by decide +kernel
theorem dX10_worth_145 : decode cX10_worth 145 = .ok (.goto 40, 3) := by decide +kernel
theorem dX10_worth_148 : decode cX10_worth 148 = .ok (.iload 4, 2) := by decide +kernel
theorem dX10_worth_150 : decode cX10_worth 150 = .ok (.bipush 6, 2) := by decide +kernel
theorem dX10_worth_152 : decode cX10_worth 152 = .ok (.if_icmp .ne 18, 3) := by decide +kernel
theorem dX10_worth_155 : decode cX10_worth 155 = .ok (.iload 6, 2) := by decide +kernel
theorem dX10_worth_157 : decode cX10_worth 157 = .ok (.iload 5, 2) := by decide +kernel
theorem dX10_worth_159 : decode cX10_worth 159 = .ok (.if_icmp .ne 7, 3) := by decide +kernel
theorem dX10_worth_162 : decode cX10_worth 162 = .ok (.iconst 1, 1) := by decide +kernel
theorem dX10_worth_163 : decode cX10_worth 163 = .ok (.goto 22, 3) := by decide +kernel
theorem dX10_worth_166 : decode cX10_worth 166 = .ok (.iconst 0, 1) := by decide +kernel
theorem dX10_worth_167 : decode cX10_worth 167 = .ok (.goto 18, 3) := by decide +kernel
theorem dX10_worth_170 : decode cX10_worth 170 = .ok (.iload 6, 2) := by decide +kernel
theorem dX10_worth_172 : decode cX10_worth 172 = .ok (.ifCond .eq 12, 3) := by decide +kernel
theorem dX10_worth_175 : decode cX10_worth 175 = .ok (.iload 5, 2) := by decide +kernel
theorem dX10_worth_177 : decode cX10_worth 177 = .ok (.ifCond .eq 7, 3) := by decide +kernel
theorem dX10_worth_180 : decode cX10_worth 180 = .ok (.iconst 1, 1) := by decide +kernel
theorem dX10_worth_181 : decode cX10_worth 181 = .ok (.goto 4, 3) := by decide +kernel
theorem dX10_worth_184 : decode cX10_worth 184 = .ok (.iconst 0, 1) := by decide +kernel
theorem dX10_worth_185 : decode cX10_worth 185 = .ok (.iastore, 1) := by decide +kernel
theorem dX10_worth_186 : decode cX10_worth 186 = .ok (.iinc 2 1, 3) := by decide +kernel
theorem dX10_worth_189 : decode cX10_worth 189 = .ok (.goto (-185), 3) := by decide +kernel
theorem dX10_worth_192 : decode cX10_worth 192 = .ok (.aload_n 0, 1) := by decide +kernel
theorem dX10_worth_193 : decode cX10_worth 193 = .ok (.getfield 114, 3) := by decide +kernel
theorem dX10_worth_196 : decode cX10_worth 196 = .ok (.iconst 0, 1) := by decide +kernel
theorem dX10_worth_197 : decode cX10_worth 197 = .ok (.iaload, 1) := by decide +kernel
theorem dX10_worth_198 : decode cX10_worth 198 = .ok (.ireturn, 1) := by decide +kernel
theorem dX10_manner_0 : decode cX10_manner 0 = .ok (.aload_n 0, 1) := by decide +kernel
theorem dX10_manner_1 : decode cX10_manner 1 = .ok (.iconst 0, 1) := by decide +kernel
theorem dX10_manner_2 : decode cX10_manner 2 = .ok (.putfield 1, 3) := by decide +kernel
theorem dX10_manner_5 : decode cX10_manner 5 = .ok (.iload_n 1, 1) := by decide +kernel
theorem dX10_manner_6 : decode cX10_manner 6 = .ok (.ifCond .lt 36, 3) := by decide +kernel
theorem dX10_manner_9 : decode cX10_manner 9 = .ok (.iload_n 1, 1) := by decide +kernel
theorem dX10_manner_10 : decode cX10_manner 10 = .ok (.iconst 3, 1) := by decide +kernel
theorem dX10_manner_11 : decode cX10_manner 11 = .ok (.if_icmp .gt 31, 3) := by decide +kernel
theorem dX10_manner_14 : decode cX10_manner 14 = .ok (.iload_n 2, 1) := by decide +kernel
theorem dX10_manner_15 : decode cX10_manner 15 = .ok (.ifCond .lt 27, 3) := by decide +kernel
theorem dX10_manner_18 : decode cX10_manner 18 = .ok (.iload_n 3, 1) := by decide +kernel
theorem dX10_manner_19 : decode cX10_manner 19 = .ok (.bipush 99, 2) := by decide +kernel
theorem dX10_manner_21 : decode cX10_manner 21 = .ok (.if_icmp .gt 21, 3) := by decide +kernel
theorem dX10_manner_24 : decode cX10_manner 24 = .ok (.iload_n 2, 1) := by decide +kernel
theorem dX10_manner_25 : decode cX10_manner 25 = .ok (.iload_n 3, 1) := by decide +kernel
theorem dX10_manner_26 : decode cX10_manner 26 = .ok (.if_icmp .gt 16, 3) := by decide +kernel
theorem dX10_manner_29 : decode cX10_manner 29 = .ok (.iload 4, 2) := by decide +kernel
theorem dX10_manner_31 : decode cX10_manner 31 = .ok (.iconst 1, 1) := by decide +kernel
theorem dX10_manner_32 : decode cX10_manner 32 = .ok (.if_icmp .lt 10, 3) := by decide +kernel
theorem dX10_manner_35 : decode cX10_manner 35 = .ok (.iload 4, 2) := by decide +kernel
theorem dX10_manner_37 : decode cX10_manner 37 = .ok (.bipush 99, 2) := by decide +kernel
theorem dX10_manner_39 : decode cX10_manner 39 = .ok (.if_icmp .le 5, 3) := by decide +kernel
theorem dX10_manner_42 : decode cX10_manner 42 = .ok (.iconst 0, 1) := by decide +kernel
theorem dX10_manner_43 : decode cX10_manner 43 = .ok (.ireturn, 1) := by decide +kernel
theorem dX10_manner_44 : decode cX10_manner 44 = .ok (.aload_n 0, 1) := by decide +kernel
theorem dX10_manner_45 : decode cX10_manner 45 = .ok (.iload_n 1, 1) := by decide +kernel
theorem dX10_manner_46 : decode cX10_manner 46 = .ok (.putfield 246, 3) := by decide +kernel
theorem dX10_manner_49 : decode cX10_manner 49 = .ok (.aload_n 0, 1) := by decide +kernel
theorem dX10_manner_50 : decode cX10_manner 50 = .ok (.getfield 71, 3) := by decide +kernel
theorem dX10_manner_53 : decode cX10_manner 53 = .ok (.iload_n 1, 1) := by decide +kernel
theorem dX10_manner_54 : decode cX10_manner 54 = .ok (.iload_n 2, 1) := by decide +kernel
theorem dX10_manner_55 : decode cX10_manner 55 = .ok (.iastore, 1) := by decide +kernel
theorem dX10_manner_56 : decode cX10_manner 56 = .ok (.aload_n 0, 1) := by decide +kernel
theorem dX10_manner_57 : decode cX10_manner 57 = .ok (.getfield 74, 3) := by decide +kernel
theorem dX10_manner_60 : decode cX10_manner 60 = .ok (.iload_n 1, 1) := by decide +kernel
theorem dX10_manner_61 : decode cX10_manner 61 = .ok (.iload_n 3, 1) := by decide +kernel
theorem dX10_manner_62 : decode cX10_manner 62 = .ok (.iastore, 1) := by decide +kernel
theorem dX10_manner_63 : decode cX10_manner 63 = .ok (.aload_n 0, 1) := by decide +kernel
theorem dX10_manner_64 : decode cX10_manner 64 = .ok (.getfield 77, 3) := by decide +kernel
theorem dX10_manner_67 : decode cX10_manner 67 = .ok (.iload_n 1, 1) := by decide +kernel
theorem dX10_manner_68 : decode cX10_manner 68 = .ok (.iload 4, 2) := by decide +kernel
theorem dX10_manner_70 : decode cX10_manner 70 = .ok (.iastore, 1) := by decide +kernel
theorem dX10_manner_71 : decode cX10_manner 71 = .ok (.iconst 1, 1) := by decide +kernel
theorem dX10_manner_72 : decode cX10_manner 72 = .ok (.ireturn, 1) := by decide +kernel
theorem dX10_isWordSo_0 : decode cX10_isWordSo 0 = .ok (.iload_n 0, 1) := by decide +kernel
theorem dX10_isWordSo_1 : decode cX10_isWordSo 1 = .ok (.iconst 1, 1) := by decide +kernel
theorem dX10_isWordSo_2 : decode cX10_isWordSo 2 = .ok (.if_icmp .lt 31, 3) := by decide +kernel
theorem dX10_isWordSo_5 : decode cX10_isWordSo 5 = .ok (.iload_n 0, 1) := by decide +kernel
theorem dX10_isWordSo_6 : decode cX10_isWordSo 6 = .ok (.iconst 5, 1) := by decide +kernel
theorem dX10_isWordSo_7 : decode cX10_isWordSo 7 = .ok (.if_icmp .gt 26, 3) := by decide +kernel
theorem dX10_isWordSo_10 : decode cX10_isWordSo 10 = .ok (.iload_n 1, 1) := by decide +kernel
theorem dX10_isWordSo_11 : decode cX10_isWordSo 11 = .ok (.ifCond .lt 22, 3) := by decide +kernel
theorem dX10_isWordSo_14 : decode cX10_isWordSo 14 = .ok (.iload_n 1, 1) := by decide +kernel
theorem dX10_isWordSo_15 : decode cX10_isWordSo 15 = .ok (.iload_n 0, 1) := by decide +kernel
theorem dX10_isWordSo_16 : decode cX10_isWordSo 16 = .ok (.if_icmp .ge 17, 3) := by decide +kernel
theorem dX10_isWordSo_19 : decode cX10_isWordSo 19 = .ok (.iload_n 2, 1) := by decide +kernel
theorem dX10_isWordSo_20 : decode cX10_isWordSo 20 = .ok (.ifCond .lt 13, 3) := by decide +kernel
theorem dX10_isWordSo_23 : decode cX10_isWordSo 23 = .ok (.iload_n 2, 1) := by decide +kernel
theorem dX10_isWordSo_24 : decode cX10_isWordSo 24 = .ok (.bipush 99, 2) := by decide +kernel
theorem dX10_isWordSo_26 : decode cX10_isWordSo 26 = .ok (.if_icmp .gt 7, 3) := by decide +kernel
theorem dX10_isWordSo_29 : decode cX10_isWordSo 29 = .ok (.iconst 1, 1) := by decide +kernel
theorem dX10_isWordSo_30 : decode cX10_isWordSo 30 = .ok (.goto 4, 3) := by decide +kernel
theorem dX10_isWordSo_33 : decode cX10_isWordSo 33 = .ok (.iconst 0, 1) := by decide +kernel
theorem dX10_isWordSo_34 : decode cX10_isWordSo 34 = .ok (.ireturn, 1) := by decide +kernel
theorem dX10_tells_0 : decode cX10_tells 0 = .ok (.aload_n 0, 1) := by decide +kernel
theorem dX10_tells_1 : decode cX10_tells 1 = .ok (.getfield 123, 3) := by decide +kernel
theorem dX10_tells_4 : decode cX10_tells 4 = .ok (.iload_n 1, 1) := by decide +kernel
theorem dX10_tells_5 : decode cX10_tells 5 = .ok (.iload_n 2, 1) := by decide +kernel
theorem dX10_tells_6 : decode cX10_tells 6 = .ok (.iastore, 1) := by decide +kernel
theorem dX10_tells_7 : decode cX10_tells 7 = .ok (.aload_n 0, 1) := by decide +kernel
theorem dX10_tells_8 : decode cX10_tells 8 = .ok (.getfield 126, 3) := by decide +kernel
theorem dX10_tells_11 : decode cX10_tells 11 = .ok (.iload_n 1, 1) := by decide +kernel
theorem dX10_tells_12 : decode cX10_tells 12 = .ok (.iload_n 3, 1) := by decide +kernel
theorem dX10_tells_13 : decode cX10_tells 13 = .ok (.iastore, 1) := by decide +kernel
theorem dX10_tells_14 : decode cX10_tells 14 = .ok (.aload_n 0, 1) := by decide +kernel
theorem dX10_tells_15 : decode cX10_tells 15 = .ok (.getfield 129, 3) := by decide +kernel
theorem dX10_tells_18 : decode cX10_tells 18 = .ok (.iload_n 1, 1) := by decide +kernel
theorem dX10_tells_19 : decode cX10_tells 19 = .ok (.iload 4, 2) := by decide +kernel
theorem dX10_tells_21 : decode cX10_tells 21 = .ok (.iastore, 1) := by decide +kernel
theorem dX10_tells_22 : decode cX10_tells 22 = .ok (.aload_n 0, 1) := by decide +kernel
theorem dX10_tells_23 : decode cX10_tells 23 = .ok (.getfield 132, 3) := by decide +kernel
theorem dX10_tells_26 : decode cX10_tells 26 = .ok (.iload_n 1, 1) := by decide +kernel
theorem dX10_tells_27 : decode cX10_tells 27 = .ok (.iload 5, 2) := by decide +kernel
theorem dX10_tells_29 : decode cX10_tells 29 = .ok (.bastore, 1) := by decide +kernel
theorem dX10_tells_30 : decode cX10_tells 30 = .ok (.aload_n 0, 1) := by decide +kernel
theorem dX10_tells_31 : decode cX10_tells 31 = .ok (.getfield 135, 3) := by decide +kernel
theorem dX10_tells_34 : decode cX10_tells 34 = .ok (.iload_n 1, 1) := by decide +kernel
theorem dX10_tells_35 : decode cX10_tells 35 = .ok (.iload 6, 2) := by decide +kernel
theorem dX10_tells_37 : decode cX10_tells 37 = .ok (.bastore, 1) := by decide +kernel
theorem dX10_tells_38 : decode cX10_tells 38 = .ok (.return_, 1) := by decide +kernel
theorem dX10_word_0 : decode cX10_word 0 = .ok (.aload_n 0, 1) := by decide +kernel
theorem dX10_word_1 : decode cX10_word 1 = .ok (.iconst 0, 1) := by decide +kernel
theorem dX10_word_2 : decode cX10_word 2 = .ok (.putfield 1, 3) := by decide +kernel
theorem dX10_word_5 : decode cX10_word 5 = .ok (.iload_n 1, 1) := by decide +kernel
theorem dX10_word_6 : decode cX10_word 6 = .ok (.iload_n 2, 1) := by decide +kernel
theorem dX10_word_7 : decode cX10_word 7 = .ok (.iload_n 3, 1) := by decide +kernel
theorem dX10_word_8 : decode cX10_word 8 = .ok (.invokestatic 279, 3) := by decide +kernel
theorem dX10_word_11 : decode cX10_word 11 = .ok (.ifCond .eq 17, 3) := by decide +kernel
theorem dX10_word_14 : decode cX10_word 14 = .ok (.aload_n 0, 1) := by decide +kernel
theorem dX10_word_15 : decode cX10_word 15 = .ok (.getfield 120, 3) := by decide +kernel
theorem dX10_word_18 : decode cX10_word 18 = .ok (.aload_n 0, 1) := by decide +kernel
theorem dX10_word_19 : decode cX10_word 19 = .ok (.getfield 283, 3) := by decide +kernel
theorem dX10_word_22 : decode cX10_word 22 = .ok (.iaload, 1) := by decide +kernel
theorem dX10_word_23 : decode cX10_word 23 = .ok (.bipush 16, 2) := by decide +kernel
theorem dX10_word_25 : decode cX10_word 25 = .ok (.if_icmp .ne 5, 3) := by decide +kernel
theorem dX10_word_28 : decode cX10_word 28 = .ok (.iconst (-1), 1) := by decide +kernel
theorem dX10_word_29 : decode cX10_word 29 = .ok (.ireturn, 1) := by decide +kernel
theorem dX10_word_30 : decode cX10_word 30 = .ok (.aload_n 0, 1) := by decide +kernel
theorem dX10_word_31 : decode cX10_word 31 = .ok (.bipush 16, 2) := by decide +kernel
theorem dX10_word_33 : decode cX10_word 33 = .ok (.aload_n 0, 1) := by decide +kernel
theorem dX10_word_34 : decode cX10_word 34 = .ok (.getfield 283, 3) := by decide +kernel
theorem dX10_word_37 : decode cX10_word 37 = .ok (.imul, 1) := by decide +kernel
theorem dX10_word_38 : decode cX10_word 38 = .ok (.aload_n 0, 1) := by decide +kernel
theorem dX10_word_39 : decode cX10_word 39 = .ok (.getfield 120, 3) := by decide +kernel
theorem dX10_word_42 : decode cX10_word 42 = .ok (.aload_n 0, 1) := by decide +kernel
theorem dX10_word_43 : decode cX10_word 43 = .ok (.getfield 283, 3) := by decide +kernel
theorem dX10_word_46 : decode cX10_word 46 = .ok (.iaload, 1) := by decide +kernel
theorem dX10_word_47 : decode cX10_word 47 = .ok (.iadd, 1) := by decide +kernel
theorem dX10_word_48 : decode cX10_word 48 = .ok (.iload_n 1, 1) := by decide +kernel
theorem dX10_word_49 : decode cX10_word 49 = .ok (.iload_n 2, 1) := by decide +kernel
theorem dX10_word_50 : decode cX10_word 50 = .ok (.iload_n 3, 1) := by decide +kernel
theorem dX10_word_51 : decode cX10_word 51 = .ok (.iload 4, 2) := by decide +kernel
theorem dX10_word_53 : decode cX10_word 53 = .ok (.iload 5, 2) := by decide +kernel
theorem dX10_word_55 : decode cX10_word 55 = .ok (.invokevirtual 286, 3) := by decide +kernel
theorem dX10_word_58 : decode cX10_word 58 = .ok (.aload_n 0, 1) := by decide +kernel
theorem dX10_word_59 : decode cX10_word 59 = .ok (.getfield 120, 3) := by decide +kernel
theorem dX10_word_62 : decode cX10_word 62 = .ok (.aload_n 0, 1) := by decide +kernel
theorem dX10_word_63 : decode cX10_word 63 = .ok (.getfield 283, 3) := by decide +kernel
theorem dX10_word_66 : decode cX10_word 66 = .ok (.dup2, 1) := by decide +kernel
theorem dX10_word_67 : decode cX10_word 67 = .ok (.iaload, 1) := by decide +kernel
theorem dX10_word_68 : decode cX10_word 68 = .ok (.iconst 1, 1) := by decide +kernel
theorem dX10_word_69 : decode cX10_word 69 = .ok (.iadd, 1) := by decide +kernel
theorem dX10_word_70 : decode cX10_word 70 = .ok (.iastore, 1) := by decide +kernel
theorem dX10_word_71 : decode cX10_word 71 = .ok (.aload_n 0, 1) := by decide +kernel
theorem dX10_word_72 : decode cX10_word 72 = .ok (.getfield 120, 3) := by decide +kernel
theorem dX10_word_75 : decode cX10_word 75 = .ok (.aload_n 0, 1) := by decide +kernel
theorem dX10_word_76 : decode cX10_word 76 = .ok (.getfield 283, 3) := by decide +kernel
theorem dX10_word_79 : decode cX10_word 79 = .ok (.iaload, 1) := by decide +kernel
theorem dX10_word_80 : decode cX10_word 80 = .ok (.ireturn, 1) := by decide +kernel
theorem dX10_change_0 : decode cX10_change 0 = .ok (.aload_n 0, 1) := by decide +kernel
theorem dX10_change_1 : decode cX10_change 1 = .ok (.iconst 0, 1) := by decide +kernel
theorem dX10_change_2 : decode cX10_change 2 = .ok (.putfield 1, 3) := by decide +kernel
theorem dX10_change_5 : decode cX10_change 5 = .ok (.iload_n 1, 1) := by decide +kernel
theorem dX10_change_6 : decode cX10_change 6 = .ok (.ifCond .lt 26, 3) := by decide +kernel
theorem dX10_change_9 : decode cX10_change 9 = .ok (.iload_n 1, 1) := by decide +kernel
theorem dX10_change_10 : decode cX10_change 10 = .ok (.aload_n 0, 1) := by decide +kernel
theorem dX10_change_11 : decode cX10_change 11 = .ok (.getfield 120, 3) := by decide +kernel
theorem dX10_change_14 : decode cX10_change 14 = .ok (.aload_n 0, 1) := by decide +kernel
theorem dX10_change_15 : decode cX10_change 15 = .ok (.getfield 283, 3) := by decide +kernel
theorem dX10_change_18 : decode cX10_change 18 = .ok (.iaload, 1) := by decide +kernel
theorem dX10_change_19 : decode cX10_change 19 = .ok (.if_icmp .ge 13, 3) := by decide +kernel
theorem dX10_change_22 : decode cX10_change 22 = .ok (.iload_n 2, 1) := by decide +kernel
theorem dX10_change_23 : decode cX10_change 23 = .ok (.iload_n 3, 1) := by decide +kernel
theorem dX10_change_24 : decode cX10_change 24 = .ok (.iload 4, 2) := by decide +kernel
theorem dX10_change_26 : decode cX10_change 26 = .ok (.invokestatic 279, 3) := by decide +kernel
theorem dX10_change_29 : decode cX10_change 29 = .ok (.ifCond .ne 5, 3) := by decide +kernel
theorem dX10_change_32 : decode cX10_change 32 = .ok (.iconst 0, 1) := by decide +kernel
theorem dX10_change_33 : decode cX10_change 33 = .ok (.ireturn, 1) := by decide +kernel
theorem dX10_change_34 : decode cX10_change 34 = .ok (.aload_n 0, 1) := by decide +kernel
theorem dX10_change_35 : decode cX10_change 35 = .ok (.getfield 123, 3) := by decide +kernel
theorem dX10_change_38 : decode cX10_change 38 = .ok (.bipush 16, 2) := by decide +kernel
theorem dX10_change_40 : decode cX10_change 40 = .ok (.aload_n 0, 1) := by decide +kernel
theorem dX10_change_41 : decode cX10_change 41 = .ok (.getfield 283, 3) := by decide +kernel
theorem dX10_change_44 : decode cX10_change 44 = .ok (.imul, 1) := by decide +kernel
theorem dX10_change_45 : decode cX10_change 45 = .ok (.iload_n 1, 1) := by decide +kernel
theorem dX10_change_46 : decode cX10_change 46 = .ok (.iadd, 1) := by decide +kernel
theorem dX10_change_47 : decode cX10_change 47 = .ok (.iaload, 1) := by decide +kernel
theorem dX10_change_48 : decode cX10_change 48 = .ok (.iload_n 2, 1) := by decide +kernel
theorem dX10_change_49 : decode cX10_change 49 = .ok (.if_icmp .eq 44, 3) := by decide +kernel
theorem dX10_change_52 : decode cX10_change 52 = .ok (.sipush 240, 3) := by decide +kernel
theorem dX10_change_55 : decode cX10_change 55 = .ok (.aload_n 0, 1) := by decide +kernel
theorem dX10_change_56 : decode cX10_change 56 = .ok (.getfield 283, 3) := by decide +kernel
theorem dX10_change_59 : decode cX10_change 59 = .ok (.imul, 1) := by decide +kernel
theorem dX10_change_60 : decode cX10_change 60 = .ok (.istore 7, 2) := by decide +kernel
theorem dX10_change_62 : decode cX10_change 62 = .ok (.iload 7, 2) := by decide +kernel
theorem dX10_change_64 : decode cX10_change 64 = .ok (.sipush 240, 3) := by decide +kernel
theorem dX10_change_67 : decode cX10_change 67 = .ok (.aload_n 0, 1) := by decide +kernel
theorem dX10_change_68 : decode cX10_change 68 = .ok (.getfield 283, 3) := by decide +kernel
theorem dX10_change_71 : decode cX10_change 71 = .ok (.imul, 1) := by decide +kernel
theorem dX10_change_72 : decode cX10_change 72 = .ok (.sipush 240, 3) := by decide +kernel
theorem dX10_change_75 : decode cX10_change 75 = .ok (.iadd, 1) := by decide +kernel
theorem dX10_change_76 : decode cX10_change 76 = .ok (.if_icmp .ge 17, 3) := by decide +kernel
theorem dX10_change_79 : decode cX10_change 79 = .ok (.aload_n 0, 1) := by decide +kernel
theorem dX10_change_80 : decode cX10_change 80 = .ok (.getfield 141, 3) := by decide +kernel
theorem dX10_change_83 : decode cX10_change 83 = .ok (.iload 7, 2) := by decide +kernel
theorem dX10_change_85 : decode cX10_change 85 = .ok (.iconst (-1), 1) := by decide +kernel
theorem dX10_change_86 : decode cX10_change 86 = .ok (.iastore, 1) := by decide +kernel
theorem dX10_change_87 : decode cX10_change 87 = .ok (.iinc 7 1, 3) := by decide +kernel
theorem dX10_change_90 : decode cX10_change 90 = .ok (.goto (-28), 3) := by decide +kernel
theorem dX10_change_93 : decode cX10_change 93 = .ok (.aload_n 0, 1) := by decide +kernel
theorem dX10_change_94 : decode cX10_change 94 = .ok (.bipush 16, 2) := by decide +kernel
theorem dX10_change_96 : decode cX10_change 96 = .ok (.aload_n 0, 1) := by decide +kernel
theorem dX10_change_97 : decode cX10_change 97 = .ok (.getfield 283, 3) := by decide +kernel
theorem dX10_change_100 : decode cX10_change 100 = .ok (.imul, 1) := by decide +kernel
theorem dX10_change_101 : decode cX10_change 101 = .ok (.iload_n 1, 1) := by decide +kernel
theorem dX10_change_102 : decode cX10_change 102 = .ok (.iadd, 1) := by decide +kernel
theorem dX10_change_103 : decode cX10_change 103 = .ok (.iload_n 2, 1) := by decide +kernel
theorem dX10_change_104 : decode cX10_change 104 = .ok (.iload_n 3, 1) := by decide +kernel
theorem dX10_change_105 : decode cX10_change 105 = .ok (.iload 4, 2) := by decide +kernel
theorem dX10_change_107 : decode cX10_change 107 = .ok (.iload 5, 2) := by decide +kernel
theorem dX10_change_109 : decode cX10_change 109 = .ok (.iload 6, 2) := by decide +kernel
theorem dX10_change_111 : decode cX10_change 111 = .ok (.invokevirtual 286, 3) := by decide +kernel
theorem dX10_change_114 : decode cX10_change 114 = .ok (.iconst 1, 1) := by decide +kernel
theorem dX10_change_115 : decode cX10_change 115 = .ok (.ireturn, 1) := by decide +kernel
theorem dX10_reading_0 : decode cX10_reading 0 = .ok (.aload_n 0, 1) := by decide +kernel
theorem dX10_reading_1 : decode cX10_reading 1 = .ok (.iconst 0, 1) := by decide +kernel
theorem dX10_reading_2 : decode cX10_reading 2 = .ok (.putfield 1, 3) := by decide +kernel
theorem dX10_reading_5 : decode cX10_reading 5 = .ok (.aload_n 0, 1) := by decide +kernel
theorem dX10_reading_6 : decode cX10_reading 6 = .ok (.getfield 117, 3) := by decide +kernel
theorem dX10_reading_9 : decode cX10_reading 9 = .ok (.iconst 4, 1) := by decide +kernel
theorem dX10_reading_10 : decode cX10_reading 10 = .ok (.if_icmp .ne 5, 3) := by decide +kernel
theorem dX10_reading_13 : decode cX10_reading 13 = .ok (.iconst (-1), 1) := by decide +kernel
theorem dX10_reading_14 : decode cX10_reading 14 = .ok (.ireturn, 1) := by decide +kernel
theorem dX10_reading_15 : decode cX10_reading 15 = .ok (.aload_n 0, 1) := by decide +kernel
theorem dX10_reading_16 : decode cX10_reading 16 = .ok (.getfield 117, 3) := by decide +kernel
theorem dX10_reading_19 : decode cX10_reading 19 = .ok (.istore_n 1, 1) := by decide +kernel
theorem dX10_reading_20 : decode cX10_reading 20 = .ok (.aload_n 0, 1) := by decide +kernel
theorem dX10_reading_21 : decode cX10_reading 21 = .ok (.getfield 120, 3) := by decide +kernel
theorem dX10_reading_24 : decode cX10_reading 24 = .ok (.iload_n 1, 1) := by decide +kernel
theorem dX10_reading_25 : decode cX10_reading 25 = .ok (.aload_n 0, 1) := by decide +kernel
theorem dX10_reading_26 : decode cX10_reading 26 = .ok (.getfield 120, 3) := by decide +kernel
theorem dX10_reading_29 : decode cX10_reading 29 = .ok (.aload_n 0, 1) := by decide +kernel
theorem dX10_reading_30 : decode cX10_reading 30 = .ok (.getfield 283, 3) := by decide +kernel
theorem dX10_reading_33 : decode cX10_reading 33 = .ok (.iaload, 1) := by decide +kernel
theorem dX10_reading_34 : decode cX10_reading 34 = .ok (.iastore, 1) := by decide +kernel
theorem dX10_reading_35 : decode cX10_reading 35 = .ok (.aload_n 0, 1) := by decide +kernel
theorem dX10_reading_36 : decode cX10_reading 36 = .ok (.getfield 138, 3) := by decide +kernel
theorem dX10_reading_39 : decode cX10_reading 39 = .ok (.iload_n 1, 1) := by decide +kernel
theorem dX10_reading_40 : decode cX10_reading 40 = .ok (.aload_n 0, 1) := by decide +kernel
theorem dX10_reading_41 : decode cX10_reading 41 = .ok (.getfield 138, 3) := by decide +kernel
theorem dX10_reading_44 : decode cX10_reading 44 = .ok (.aload_n 0, 1) := by decide +kernel
theorem dX10_reading_45 : decode cX10_reading 45 = .ok (.getfield 283, 3) := by decide +kernel
theorem dX10_reading_48 : decode cX10_reading 48 = .ok (.iaload, 1) := by decide +kernel
theorem dX10_reading_49 : decode cX10_reading 49 = .ok (.iastore, 1) := by decide +kernel
theorem dX10_reading_50 : decode cX10_reading 50 = .ok (.iconst 0, 1) := by decide +kernel
theorem dX10_reading_51 : decode cX10_reading 51 = .ok (.istore_n 2, 1) := by decide +kernel
theorem dX10_reading_52 : decode cX10_reading 52 = .ok (.iload_n 2, 1) := by decide +kernel
theorem dX10_reading_53 : decode cX10_reading 53 = .ok (.bipush 16, 2) := by decide +kernel
theorem dX10_reading_55 : decode cX10_reading 55 = .ok (.if_icmp .ge 59, 3) := by decide +kernel
theorem dX10_reading_58 : decode cX10_reading 58 = .ok (.bipush 16, 2) := by decide +kernel
theorem dX10_reading_60 : decode cX10_reading 60 = .ok (.aload_n 0, 1) := by decide +kernel
theorem dX10_reading_61 : decode cX10_reading 61 = .ok (.getfield 283, 3) := by decide +kernel
theorem dX10_reading_64 : decode cX10_reading 64 = .ok (.imul, 1) := by decide +kernel
theorem dX10_reading_65 : decode cX10_reading 65 = .ok (.iload_n 2, 1) := by decide +kernel
theorem dX10_reading_66 : decode cX10_reading 66 = .ok (.iadd, 1) := by decide +kernel
theorem dX10_reading_67 : decode cX10_reading 67 = .ok (.istore_n 3, 1) := by decide +kernel
theorem dX10_reading_68 : decode cX10_reading 68 = .ok (.aload_n 0, 1) := by decide +kernel
theorem dX10_reading_69 : decode cX10_reading 69 = .ok (.bipush 16, 2) := by decide +kernel
theorem dX10_reading_71 : decode cX10_reading 71 = .ok (.iload_n 1, 1) := by decide +kernel
theorem dX10_reading_72 : decode cX10_reading 72 = .ok (.imul, 1) := by decide +kernel
theorem dX10_reading_73 : decode cX10_reading 73 = .ok (.iload_n 2, 1) := by decide +kernel
theorem dX10_reading_74 : decode cX10_reading 74 = .ok (.iadd, 1) := by decide +kernel
theorem dX10_reading_75 : decode cX10_reading 75 = .ok (.aload_n 0, 1) := by decide +kernel
theorem dX10_reading_76 : decode cX10_reading 76 = .ok (.getfield 123, 3) := by decide +kernel
theorem dX10_reading_79 : decode cX10_reading 79 = .ok (.iload_n 3, 1) := by decide +kernel
theorem dX10_reading_80 : decode cX10_reading 80 = .ok (.iaload, 1) := by decide +kernel
theorem dX10_reading_81 : decode cX10_reading 81 = .ok (.aload_n 0, 1) := by decide +kernel
theorem dX10_reading_82 : decode cX10_reading 82 = .ok (.getfield 126, 3) := by decide +kernel
theorem dX10_reading_85 : decode cX10_reading 85 = .ok (.iload_n 3, 1) := by decide +kernel
theorem dX10_reading_86 : decode cX10_reading 86 = .ok (.iaload, 1) := by decide +kernel
theorem dX10_reading_87 : decode cX10_reading 87 = .ok (.aload_n 0, 1) := by decide +kernel
theorem dX10_reading_88 : decode cX10_reading 88 = .ok (.getfield 129, 3) := by decide +kernel
theorem dX10_reading_91 : decode cX10_reading 91 = .ok (.iload_n 3, 1) := by decide +kernel
theorem dX10_reading_92 : decode cX10_reading 92 = .ok (.iaload, 1) := by decide +kernel
theorem dX10_reading_93 : decode cX10_reading 93 = .ok (.aload_n 0, 1) := by decide +kernel
theorem dX10_reading_94 : decode cX10_reading 94 = .ok (.getfield 132, 3) := by decide +kernel
theorem dX10_reading_97 : decode cX10_reading 97 = .ok (.iload_n 3, 1) := by decide +kernel
theorem dX10_reading_98 : decode cX10_reading 98 = .ok (.baload, 1) := by decide +kernel
theorem dX10_reading_99 : decode cX10_reading 99 = .ok (.aload_n 0, 1) := by decide +kernel
theorem dX10_reading_100 : decode cX10_reading 100 = .ok (.getfield 135, 3) := by decide +kernel
theorem dX10_reading_103 : decode cX10_reading 103 = .ok (.iload_n 3, 1) := by decide +kernel
theorem dX10_reading_104 : decode cX10_reading 104 = .ok (.baload, 1) := by decide +kernel
theorem dX10_reading_105 : decode cX10_reading 105 = .ok (.invokevirtual 286, 3) := by decide +kernel
theorem dX10_reading_108 : decode cX10_reading 108 = .ok (.iinc 2 1, 3) := by decide +kernel
theorem dX10_reading_111 : decode cX10_reading 111 = .ok (.goto (-59), 3) := by decide +kernel
theorem dX10_reading_114 : decode cX10_reading 114 = .ok (.iconst 0, 1) := by decide +kernel
theorem dX10_reading_115 : decode cX10_reading 115 = .ok (.istore_n 2, 1) := by decide +kernel
theorem dX10_reading_116 : decode cX10_reading 116 = .ok (.iload_n 2, 1) := by decide +kernel
theorem dX10_reading_117 : decode cX10_reading 117 = .ok (.sipush 240, 3) := by decide +kernel
theorem dX10_reading_120 : decode cX10_reading 120 = .ok (.if_icmp .ge 36, 3) := by decide +kernel
theorem dX10_reading_123 : decode cX10_reading 123 = .ok (.aload_n 0, 1) := by decide +kernel
theorem dX10_reading_124 : decode cX10_reading 124 = .ok (.getfield 141, 3) := by decide +kernel
theorem dX10_reading_127 : decode cX10_reading 127 = .ok (.sipush 240, 3) := by decide +kernel
theorem dX10_reading_130 : decode cX10_reading 130 = .ok (.iload_n 1, 1) := by decide +kernel
theorem dX10_reading_131 : decode cX10_reading 131 = .ok (.imul, 1) := by decide +kernel
theorem dX10_reading_132 : decode cX10_reading 132 = .ok (.iload_n 2, 1) := by decide +kernel
theorem dX10_reading_133 : decode cX10_reading 133 = .ok (.iadd, 1) := by decide +kernel
theorem dX10_reading_134 : decode cX10_reading 134 = .ok (.aload_n 0, 1) := by decide +kernel
theorem dX10_reading_135 : decode cX10_reading 135 = .ok (.getfield 141, 3) := by decide +kernel
theorem dX10_reading_138 : decode cX10_reading 138 = .ok (.sipush 240, 3) := by decide +kernel
theorem dX10_reading_141 : decode cX10_reading 141 = .ok (.aload_n 0, 1) := by decide +kernel
theorem dX10_reading_142 : decode cX10_reading 142 = .ok (.getfield 283, 3) := by decide +kernel
theorem dX10_reading_145 : decode cX10_reading 145 = .ok (.imul, 1) := by decide +kernel
theorem dX10_reading_146 : decode cX10_reading 146 = .ok (.iload_n 2, 1) := by decide +kernel
theorem dX10_reading_147 : decode cX10_reading 147 = .ok (.iadd, 1) := by decide +kernel
theorem dX10_reading_148 : decode cX10_reading 148 = .ok (.iaload, 1) := by decide +kernel
theorem dX10_reading_149 : decode cX10_reading 149 = .ok (.iastore, 1) := by decide +kernel
theorem dX10_reading_150 : decode cX10_reading 150 = .ok (.iinc 2 1, 3) := by decide +kernel
theorem dX10_reading_153 : decode cX10_reading 153 = .ok (.goto (-37), 3) := by decide +kernel
theorem dX10_reading_156 : decode cX10_reading 156 = .ok (.aload_n 0, 1) := by decide +kernel
theorem dX10_reading_157 : decode cX10_reading 157 = .ok (.dup, 1) := by decide +kernel
theorem dX10_reading_158 : decode cX10_reading 158 = .ok (.getfield 117, 3) := by decide +kernel
theorem dX10_reading_161 : decode cX10_reading 161 = .ok (.iconst 1, 1) := by decide +kernel
theorem dX10_reading_162 : decode cX10_reading 162 = .ok (.iadd, 1) := by decide +kernel
theorem dX10_reading_163 : decode cX10_reading 163 = .ok (.putfield 117, 3) := by decide +kernel
theorem dX10_reading_166 : decode cX10_reading 166 = .ok (.aload_n 0, 1) := by decide +kernel
theorem dX10_reading_167 : decode cX10_reading 167 = .ok (.iload_n 1, 1) := by decide +kernel
theorem dX10_reading_168 : decode cX10_reading 168 = .ok (.putfield 283, 3) := by decide +kernel
theorem dX10_reading_171 : decode cX10_reading 171 = .ok (.iload_n 1, 1) := by decide +kernel
theorem dX10_reading_172 : decode cX10_reading 172 = .ok (.ireturn, 1) := by decide +kernel
theorem dX10_isReading_0 : decode cX10_isReading 0 = .ok (.iload_n 1, 1) := by decide +kernel
theorem dX10_isReading_1 : decode cX10_isReading 1 = .ok (.ifCond .lt 15, 3) := by decide +kernel
theorem dX10_isReading_4 : decode cX10_isReading 4 = .ok (.iload_n 1, 1) := by decide +kernel
theorem dX10_isReading_5 : decode cX10_isReading 5 = .ok (.aload_n 0, 1) := by decide +kernel
theorem dX10_isReading_6 : decode cX10_isReading 6 = .ok (.getfield 117, 3) := by decide +kernel
theorem dX10_isReading_9 : decode cX10_isReading 9 = .ok (.if_icmp .ge 7, 3) := by decide +kernel
theorem dX10_isReading_12 : decode cX10_isReading 12 = .ok (.iconst 1, 1) := by decide +kernel
theorem dX10_isReading_13 : decode cX10_isReading 13 = .ok (.goto 4, 3) := by decide +kernel
theorem dX10_isReading_16 : decode cX10_isReading 16 = .ok (.iconst 0, 1) := by decide +kernel
theorem dX10_isReading_17 : decode cX10_isReading 17 = .ok (.ireturn, 1) := by decide +kernel
theorem dX10_take_0 : decode cX10_take 0 = .ok (.aload_n 0, 1) := by decide +kernel
theorem dX10_take_1 : decode cX10_take 1 = .ok (.iconst 0, 1) := by decide +kernel
theorem dX10_take_2 : decode cX10_take 2 = .ok (.putfield 1, 3) := by decide +kernel
theorem dX10_take_5 : decode cX10_take 5 = .ok (.aload_n 0, 1) := by decide +kernel
theorem dX10_take_6 : decode cX10_take 6 = .ok (.iload_n 1, 1) := by decide +kernel
theorem dX10_take_7 : decode cX10_take 7 = .ok (.invokevirtual 290, 3) := by decide +kernel
theorem dX10_take_10 : decode cX10_take 10 = .ok (.ifCond .ne 5, 3) := by decide +kernel
theorem dX10_take_13 : decode cX10_take 13 = .ok (.iconst 0, 1) := by decide +kernel
theorem dX10_take_14 : decode cX10_take 14 = .ok (.ireturn, 1) := by decide +kernel
theorem dX10_take_15 : decode cX10_take 15 = .ok (.aload_n 0, 1) := by decide +kernel
theorem dX10_take_16 : decode cX10_take 16 = .ok (.iload_n 1, 1) := by decide +kernel
theorem dX10_take_17 : decode cX10_take 17 = .ok (.putfield 283, 3) := by decide +kernel
theorem dX10_take_20 : decode cX10_take 20 = .ok (.iconst 1, 1) := by decide +kernel
theorem dX10_take_21 : decode cX10_take 21 = .ok (.ireturn, 1) := by decide +kernel
theorem dX10_tune_0 : decode cX10_tune 0 = .ok (.aload_n 0, 1) := by decide +kernel
theorem dX10_tune_1 : decode cX10_tune 1 = .ok (.iconst 0, 1) := by decide +kernel
theorem dX10_tune_2 : decode cX10_tune 2 = .ok (.putfield 1, 3) := by decide +kernel
theorem dX10_tune_5 : decode cX10_tune 5 = .ok (.iload_n 1, 1) := by decide +kernel
theorem dX10_tune_6 : decode cX10_tune 6 = .ok (.ifCond .lt 8, 3) := by decide +kernel
theorem dX10_tune_9 : decode cX10_tune 9 = .ok (.iload_n 1, 1) := by decide +kernel
theorem dX10_tune_10 : decode cX10_tune 10 = .ok (.iconst 3, 1) := by decide +kernel
theorem dX10_tune_11 : decode cX10_tune 11 = .ok (.if_icmp .le 5, 3) := by decide +kernel
theorem dX10_tune_14 : decode cX10_tune 14 = .ok (.iconst 0, 1) := by decide +kernel
theorem dX10_tune_15 : decode cX10_tune 15 = .ok (.ireturn, 1) := by decide +kernel
theorem dX10_tune_16 : decode cX10_tune 16 = .ok (.aload_n 0, 1) := by decide +kernel
theorem dX10_tune_17 : decode cX10_tune 17 = .ok (.getfield 138, 3) := by decide +kernel
theorem dX10_tune_20 : decode cX10_tune 20 = .ok (.aload_n 0, 1) := by decide +kernel
theorem dX10_tune_21 : decode cX10_tune 21 = .ok (.getfield 283, 3) := by decide +kernel
theorem dX10_tune_24 : decode cX10_tune 24 = .ok (.iload_n 1, 1) := by decide +kernel
theorem dX10_tune_25 : decode cX10_tune 25 = .ok (.iastore, 1) := by decide +kernel
theorem dX10_tune_26 : decode cX10_tune 26 = .ok (.iconst 1, 1) := by decide +kernel
theorem dX10_tune_27 : decode cX10_tune 27 = .ok (.ireturn, 1) := by decide +kernel
theorem dX10_ideal_0 : decode cX10_ideal 0 = .ok (.aload_n 0, 1) := by decide +kernel
theorem dX10_ideal_1 : decode cX10_ideal 1 = .ok (.iconst 0, 1) := by decide +kernel
theorem dX10_ideal_2 : decode cX10_ideal 2 = .ok (.putfield 1, 3) := by decide +kernel
theorem dX10_ideal_5 : decode cX10_ideal 5 = .ok (.iload_n 1, 1) := by decide +kernel
theorem dX10_ideal_6 : decode cX10_ideal 6 = .ok (.iconst 1, 1) := by decide +kernel
theorem dX10_ideal_7 : decode cX10_ideal 7 = .ok (.if_icmp .lt 9, 3) := by decide +kernel
theorem dX10_ideal_10 : decode cX10_ideal 10 = .ok (.iload_n 1, 1) := by decide +kernel
theorem dX10_ideal_11 : decode cX10_ideal 11 = .ok (.bipush 20, 2) := by decide +kernel
theorem dX10_ideal_13 : decode cX10_ideal 13 = .ok (.if_icmp .le 5, 3) := by decide +kernel
theorem dX10_ideal_16 : decode cX10_ideal 16 = .ok (.iconst 0, 1) := by decide +kernel
theorem dX10_ideal_17 : decode cX10_ideal 17 = .ok (.ireturn, 1) := by decide +kernel
theorem dX10_ideal_18 : decode cX10_ideal 18 = .ok (.aload_n 0, 1) := by decide +kernel
theorem dX10_ideal_19 : decode cX10_ideal 19 = .ok (.iload_n 1, 1) := by decide +kernel
theorem dX10_ideal_20 : decode cX10_ideal 20 = .ok (.putfield 144, 3) := by decide +kernel
theorem dX10_ideal_23 : decode cX10_ideal 23 = .ok (.iconst 1, 1) := by decide +kernel
theorem dX10_ideal_24 : decode cX10_ideal 24 = .ok (.ireturn, 1) := by decide +kernel
theorem dX10_speed_0 : decode cX10_speed 0 = .ok (.aload_n 0, 1) := by decide +kernel
theorem dX10_speed_1 : decode cX10_speed 1 = .ok (.iconst 0, 1) := by decide +kernel
theorem dX10_speed_2 : decode cX10_speed 2 = .ok (.putfield 1, 3) := by decide +kernel
theorem dX10_speed_5 : decode cX10_speed 5 = .ok (.iload_n 1, 1) := by decide +kernel
theorem dX10_speed_6 : decode cX10_speed 6 = .ok (.iconst 1, 1) := by decide +kernel
theorem dX10_speed_7 : decode cX10_speed 7 = .ok (.if_icmp .lt 20, 3) := by decide +kernel
theorem dX10_speed_10 : decode cX10_speed 10 = .ok (.iload_n 1, 1) := by decide +kernel
theorem dX10_speed_11 : decode cX10_speed 11 = .ok (.bipush 100, 2) := by decide +kernel
theorem dX10_speed_13 : decode cX10_speed 13 = .ok (.if_icmp .gt 14, 3) := by decide +kernel
theorem dX10_speed_16 : decode cX10_speed 16 = .ok (.iload_n 2, 1) := by decide +kernel
theorem dX10_speed_17 : decode cX10_speed 17 = .ok (.iconst 1, 1) := by decide +kernel
theorem dX10_speed_18 : decode cX10_speed 18 = .ok (.if_icmp .lt 9, 3) := by decide +kernel
theorem dX10_speed_21 : decode cX10_speed 21 = .ok (.iload_n 2, 1) := by decide +kernel
theorem dX10_speed_22 : decode cX10_speed 22 = .ok (.bipush 100, 2) := by decide +kernel
theorem dX10_speed_24 : decode cX10_speed 24 = .ok (.if_icmp .le 5, 3) := by decide +kernel
theorem dX10_speed_27 : decode cX10_speed 27 = .ok (.iconst 0, 1) := by decide +kernel
theorem dX10_speed_28 : decode cX10_speed 28 = .ok (.ireturn, 1) := by decide +kernel
theorem dX10_speed_29 : decode cX10_speed 29 = .ok (.aload_n 0, 1) := by decide +kernel
theorem dX10_speed_30 : decode cX10_speed 30 = .ok (.iload_n 1, 1) := by decide +kernel
theorem dX10_speed_31 : decode cX10_speed 31 = .ok (.putfield 147, 3) := by decide +kernel
theorem dX10_speed_34 : decode cX10_speed 34 = .ok (.aload_n 0, 1) := by decide +kernel
theorem dX10_speed_35 : decode cX10_speed 35 = .ok (.iload_n 2, 1) := by decide +kernel
theorem dX10_speed_36 : decode cX10_speed 36 = .ok (.putfield 150, 3) := by decide +kernel
theorem dX10_speed_39 : decode cX10_speed 39 = .ok (.iconst 1, 1) := by decide +kernel
theorem dX10_speed_40 : decode cX10_speed 40 = .ok (.ireturn, 1) := by decide +kernel
theorem dX10_soundsOf_0 : decode cX10_soundsOf 0 = .ok (.iconst 0, 1) := by decide +kernel
theorem dX10_soundsOf_1 : decode cX10_soundsOf 1 = .ok (.istore_n 2, 1) := by decide +kernel
theorem dX10_soundsOf_2 : decode cX10_soundsOf 2 = .ok (.bipush 16, 2) := by decide +kernel
theorem dX10_soundsOf_4 : decode cX10_soundsOf 4 = .ok (.iload_n 1, 1) := by decide +kernel
theorem dX10_soundsOf_5 : decode cX10_soundsOf 5 = .ok (.imul, 1) := by decide +kernel
theorem dX10_soundsOf_6 : decode cX10_soundsOf 6 = .ok (.istore_n 3, 1) := by decide +kernel
theorem dX10_soundsOf_7 : decode cX10_soundsOf 7 = .ok (.iload_n 3, 1) := by decide +kernel
theorem dX10_soundsOf_8 : decode cX10_soundsOf 8 = .ok (.bipush 16, 2) := by decide +kernel
theorem dX10_soundsOf_10 : decode cX10_soundsOf 10 = .ok (.iload_n 1, 1) := by decide +kernel
theorem dX10_soundsOf_11 : decode cX10_soundsOf 11 = .ok (.imul, 1) := by decide +kernel
theorem dX10_soundsOf_12 : decode cX10_soundsOf 12 = .ok (.aload_n 0, 1) := by decide +kernel
theorem dX10_soundsOf_13 : decode cX10_soundsOf 13 = .ok (.getfield 120, 3) := by decide +kernel
theorem dX10_soundsOf_16 : decode cX10_soundsOf 16 = .ok (.iload_n 1, 1) := by decide +kernel
theorem dX10_soundsOf_17 : decode cX10_soundsOf 17 = .ok (.iaload, 1) := by decide +kernel
theorem dX10_soundsOf_18 : decode cX10_soundsOf 18 = .ok (.iadd, 1) := by decide +kernel
theorem dX10_soundsOf_19 : decode cX10_soundsOf 19 = .ok (.if_icmp .ge 18, 3) := by decide +kernel
theorem dX10_soundsOf_22 : decode cX10_soundsOf 22 = .ok (.iload_n 2, 1) := by decide +kernel
theorem dX10_soundsOf_23 : decode cX10_soundsOf 23 = .ok (.aload_n 0, 1) := by decide +kernel
theorem dX10_soundsOf_24 : decode cX10_soundsOf 24 = .ok (.getfield 123, 3) := by decide +kernel
theorem dX10_soundsOf_27 : decode cX10_soundsOf 27 = .ok (.iload_n 3, 1) := by decide +kernel
theorem dX10_soundsOf_28 : decode cX10_soundsOf 28 = .ok (.iaload, 1) := by decide +kernel
theorem dX10_soundsOf_29 : decode cX10_soundsOf 29 = .ok (.iadd, 1) := by decide +kernel
theorem dX10_soundsOf_30 : decode cX10_soundsOf 30 = .ok (.istore_n 2, 1) := by decide +kernel
theorem dX10_soundsOf_31 : decode cX10_soundsOf 31 = .ok (.iinc 3 1, 3) := by decide +kernel
theorem dX10_soundsOf_34 : decode cX10_soundsOf 34 = .ok (.goto (-27), 3) := by decide +kernel
theorem dX10_soundsOf_37 : decode cX10_soundsOf 37 = .ok (.iload_n 2, 1) := by decide +kernel
theorem dX10_soundsOf_38 : decode cX10_soundsOf 38 = .ok (.ireturn, 1) := by decide +kernel
theorem dX10_hand_0 : decode cX10_hand 0 = .ok (.aload_n 0, 1) := by decide +kernel
theorem dX10_hand_1 : decode cX10_hand 1 = .ok (.iconst 0, 1) := by decide +kernel
theorem dX10_hand_2 : decode cX10_hand 2 = .ok (.putfield 1, 3) := by decide +kernel
theorem dX10_hand_5 : decode cX10_hand 5 = .ok (.iload_n 2, 1) := by decide +kernel
theorem dX10_hand_6 : decode cX10_hand 6 = .ok (.ifCond .ne 7, 3) := by decide +kernel
theorem dX10_hand_9 : decode cX10_hand 9 = .ok (.iconst 1, 1) := by decide +kernel
theorem dX10_hand_10 : decode cX10_hand 10 = .ok (.goto 4, 3) := by decide +kernel
theorem dX10_hand_13 : decode cX10_hand 13 = .ok (.iconst 0, 1) := by decide +kernel
theorem dX10_hand_14 : decode cX10_hand 14 = .ok (.istore 4, 2) := by decide +kernel
theorem dX10_hand_16 : decode cX10_hand 16 = .ok (.iload_n 2, 1) := by decide +kernel
theorem dX10_hand_17 : decode cX10_hand 17 = .ok (.iconst 2, 1) := by decide +kernel
theorem dX10_hand_18 : decode cX10_hand 18 = .ok (.if_icmp .ne 8, 3) := by decide +kernel
theorem dX10_hand_21 : decode cX10_hand 21 = .ok (.bipush 9, 2) := by decide +kernel
theorem dX10_hand_23 : decode cX10_hand 23 = .ok (.goto 5, 3) := by decide +kernel
theorem dX10_hand_26 : decode cX10_hand 26 = .ok (.bipush 99, 2) := by decide +kernel
theorem dX10_hand_28 : decode cX10_hand 28 = .ok (.istore 5, 2) := by decide +kernel
theorem dX10_hand_30 : decode cX10_hand 30 = .ok (.iload_n 1, 1) := by decide +kernel
theorem dX10_hand_31 : decode cX10_hand 31 = .ok (.ifCond .lt 41, 3) := by decide +kernel
theorem dX10_hand_34 : decode cX10_hand 34 = .ok (.iload_n 1, 1) := by decide +kernel
theorem dX10_hand_35 : decode cX10_hand 35 = .ok (.aload_n 0, 1) := by decide +kernel
theorem dX10_hand_36 : decode cX10_hand 36 = .ok (.aload_n 0, 1) := by decide +kernel
theorem dX10_hand_37 : decode cX10_hand 37 = .ok (.getfield 283, 3) := by decide +kernel
theorem dX10_hand_40 : decode cX10_hand 40 = .ok (.invokevirtual 293, 3) := by decide +kernel
theorem dX10_hand_43 : decode cX10_hand 43 = .ok (.if_icmp .ge 29, 3) := by decide +kernel
theorem dX10_hand_46 : decode cX10_hand 46 = .ok (.iload_n 2, 1) := by decide +kernel
theorem dX10_hand_47 : decode cX10_hand 47 = .ok (.ifCond .lt 25, 3) := by decide +kernel
theorem dX10_hand_50 : decode cX10_hand 50 = .ok (.iload_n 2, 1) := by decide +kernel
theorem dX10_hand_51 : decode cX10_hand 51 = .ok (.iconst 2, 1) := by decide +kernel
theorem dX10_hand_52 : decode cX10_hand 52 = .ok (.if_icmp .gt 20, 3) := by decide +kernel
theorem dX10_hand_55 : decode cX10_hand 55 = .ok (.iload_n 3, 1) := by decide +kernel
theorem dX10_hand_56 : decode cX10_hand 56 = .ok (.iconst (-1), 1) := by decide +kernel
theorem dX10_hand_57 : decode cX10_hand 57 = .ok (.if_icmp .eq 17, 3) := by decide +kernel
theorem dX10_hand_60 : decode cX10_hand 60 = .ok (.iload_n 3, 1) := by decide +kernel
theorem dX10_hand_61 : decode cX10_hand 61 = .ok (.iload 4, 2) := by decide +kernel
theorem dX10_hand_63 : decode cX10_hand 63 = .ok (.if_icmp .lt 9, 3) := by decide +kernel
theorem dX10_hand_66 : decode cX10_hand 66 = .ok (.iload_n 3, 1) := by decide +kernel
theorem dX10_hand_67 : decode cX10_hand 67 = .ok (.iload 5, 2) := by decide +kernel
theorem dX10_hand_69 : decode cX10_hand 69 = .ok (.if_icmp .le 5, 3) := by decide +kernel
theorem dX10_hand_72 : decode cX10_hand 72 = .ok (.iconst 0, 1) := by decide +kernel
theorem dX10_hand_73 : decode cX10_hand 73 = .ok (.ireturn, 1) := by decide +kernel
theorem dX10_hand_74 : decode cX10_hand 74 = .ok (.aload_n 0, 1) := by decide +kernel
theorem dX10_hand_75 : decode cX10_hand 75 = .ok (.getfield 141, 3) := by decide +kernel
theorem dX10_hand_78 : decode cX10_hand 78 = .ok (.iconst 3, 1) := by decide +kernel
theorem dX10_hand_79 : decode cX10_hand 79 = .ok (.bipush 80, 2) := by decide +kernel
theorem dX10_hand_81 : decode cX10_hand 81 = .ok (.aload_n 0, 1) := by decide +kernel
theorem dX10_hand_82 : decode cX10_hand 82 = .ok (.getfield 283, 3) := by decide +kernel
theorem dX10_hand_85 : decode cX10_hand 85 = .ok (.imul, 1) := by decide +kernel
theorem dX10_hand_86 : decode cX10_hand 86 = .ok (.iload_n 1, 1) := by decide +kernel
theorem dX10_hand_87 : decode cX10_hand 87 = .ok (.iadd, 1) := by decide +kernel
theorem dX10_hand_88 : decode cX10_hand 88 = .ok (.imul, 1) := by decide +kernel
theorem dX10_hand_89 : decode cX10_hand 89 = .ok (.iload_n 2, 1) := by decide +kernel
theorem dX10_hand_90 : decode cX10_hand 90 = .ok (.iadd, 1) := by decide +kernel
theorem dX10_hand_91 : decode cX10_hand 91 = .ok (.iload_n 3, 1) := by decide +kernel
theorem dX10_hand_92 : decode cX10_hand 92 = .ok (.iastore, 1) := by decide +kernel
theorem dX10_hand_93 : decode cX10_hand 93 = .ok (.iconst 1, 1) := by decide +kernel
theorem dX10_hand_94 : decode cX10_hand 94 = .ok (.ireturn, 1) := by decide +kernel
theorem dX10_costOf_0 : decode cX10_costOf 0 = .ok (.iconst 0, 1) := by decide +kernel
theorem dX10_costOf_1 : decode cX10_costOf 1 = .ok (.istore 4, 2) := by decide +kernel
theorem dX10_costOf_3 : decode cX10_costOf 3 = .ok (.bipush 16, 2) := by decide +kernel
theorem dX10_costOf_5 : decode cX10_costOf 5 = .ok (.iload_n 1, 1) := by decide +kernel
theorem dX10_costOf_6 : decode cX10_costOf 6 = .ok (.imul, 1) := by decide +kernel
theorem dX10_costOf_7 : decode cX10_costOf 7 = .ok (.iload_n 2, 1) := by decide +kernel
theorem dX10_costOf_8 : decode cX10_costOf 8 = .ok (.iadd, 1) := by decide +kernel
theorem dX10_costOf_9 : decode cX10_costOf 9 = .ok (.istore 5, 2) := by decide +kernel
theorem dX10_costOf_11 : decode cX10_costOf 11 = .ok (.iload 5, 2) := by decide +kernel
theorem dX10_costOf_13 : decode cX10_costOf 13 = .ok (.bipush 16, 2) := by decide +kernel
theorem dX10_costOf_15 : decode cX10_costOf 15 = .ok (.iload_n 1, 1) := by decide +kernel
theorem dX10_costOf_16 : decode cX10_costOf 16 = .ok (.imul, 1) := by decide +kernel
theorem dX10_costOf_17 : decode cX10_costOf 17 = .ok (.iload_n 3, 1) := by decide +kernel
theorem dX10_costOf_18 : decode cX10_costOf 18 = .ok (.iadd, 1) := by decide +kernel
theorem dX10_costOf_19 : decode cX10_costOf 19 = .ok (.if_icmp .ge 21, 3) := by decide +kernel
theorem dX10_costOf_22 : decode cX10_costOf 22 = .ok (.iload 4, 2) := by decide +kernel
theorem dX10_costOf_24 : decode cX10_costOf 24 = .ok (.aload_n 0, 1) := by decide +kernel
theorem dX10_costOf_25 : decode cX10_costOf 25 = .ok (.getfield 123, 3) := by decide +kernel
theorem dX10_costOf_28 : decode cX10_costOf 28 = .ok (.iload 5, 2) := by decide +kernel
theorem dX10_costOf_30 : decode cX10_costOf 30 = .ok (.iaload, 1) := by decide +kernel
theorem dX10_costOf_31 : decode cX10_costOf 31 = .ok (.iadd, 1) := by decide +kernel
theorem dX10_costOf_32 : decode cX10_costOf 32 = .ok (.istore 4, 2) := by decide +kernel
theorem dX10_costOf_34 : decode cX10_costOf 34 = .ok (.iinc 5 1, 3) := by decide +kernel
theorem dX10_costOf_37 : decode cX10_costOf 37 = .ok (.goto (-26), 3) := by decide +kernel
theorem dX10_costOf_40 : decode cX10_costOf 40 = .ok (.iload 4, 2) := by decide +kernel
theorem dX10_costOf_42 : decode cX10_costOf 42 = .ok (.aload_n 0, 1) := by decide +kernel
theorem dX10_costOf_43 : decode cX10_costOf 43 = .ok (.getfield 144, 3) := by decide +kernel
theorem dX10_costOf_46 : decode cX10_costOf 46 = .ok (.isub, 1) := by decide +kernel
theorem dX10_costOf_47 : decode cX10_costOf 47 = .ok (.iload 4, 2) := by decide +kernel
theorem dX10_costOf_49 : decode cX10_costOf 49 = .ok (.aload_n 0, 1) := by decide +kernel
theorem dX10_costOf_50 : decode cX10_costOf 50 = .ok (.getfield 144, 3) := by decide +kernel
theorem dX10_costOf_53 : decode cX10_costOf 53 = .ok (.isub, 1) := by decide +kernel
theorem dX10_costOf_54 : decode cX10_costOf 54 = .ok (.imul, 1) := by decide +kernel
theorem dX10_costOf_55 : decode cX10_costOf 55 = .ok (.iload_n 3, 1) := by decide +kernel
theorem dX10_costOf_56 : decode cX10_costOf 56 = .ok (.aload_n 0, 1) := by decide +kernel
theorem dX10_costOf_57 : decode cX10_costOf 57 = .ok (.getfield 120, 3) := by decide +kernel
theorem dX10_costOf_60 : decode cX10_costOf 60 = .ok (.iload_n 1, 1) := by decide +kernel
theorem dX10_costOf_61 : decode cX10_costOf 61 = .ok (.iaload, 1) := by decide +kernel
theorem dX10_costOf_62 : decode cX10_costOf 62 = .ok (.if_icmp .ge 21, 3) := by decide +kernel
theorem dX10_costOf_65 : decode cX10_costOf 65 = .ok (.iconst 1, 1) := by decide +kernel
theorem dX10_costOf_66 : decode cX10_costOf 66 = .ok (.aload_n 0, 1) := by decide +kernel
theorem dX10_costOf_67 : decode cX10_costOf 67 = .ok (.getfield 129, 3) := by decide +kernel
theorem dX10_costOf_70 : decode cX10_costOf 70 = .ok (.bipush 16, 2) := by decide +kernel
theorem dX10_costOf_72 : decode cX10_costOf 72 = .ok (.iload_n 1, 1) := by decide +kernel
theorem dX10_costOf_73 : decode cX10_costOf 73 = .ok (.imul, 1) := by decide +kernel
theorem dX10_costOf_74 : decode cX10_costOf 74 = .ok (.iload_n 3, 1) := by decide +kernel
theorem dX10_costOf_75 : decode cX10_costOf 75 = .ok (.iadd, 1) := by decide +kernel
theorem dX10_costOf_76 : decode cX10_costOf 76 = .ok (.iconst 1, 1) := by decide +kernel
theorem dX10_costOf_77 : decode cX10_costOf 77 = .ok (.isub, 1) := by decide +kernel
theorem dX10_costOf_78 : decode cX10_costOf 78 = .ok (.iaload, 1) := by decide +kernel
theorem dX10_costOf_79 : decode cX10_costOf 79 = .ok (.iadd, 1) := by decide +kernel
theorem dX10_costOf_80 : decode cX10_costOf 80 = .ok (.goto 4, 3) := by decide +kernel
theorem dX10_costOf_83 : decode cX10_costOf 83 = .ok (.iconst 0, 1) := by decide +kernel
theorem dX10_costOf_84 : decode cX10_costOf 84 = .ok (.iadd, 1) := by decide +kernel
theorem dX10_costOf_85 : decode cX10_costOf 85 = .ok (.ireturn, 1) := by decide +kernel
theorem dX10_findPhrases_0 : decode cX10_findPhrases 0 = .ok (.aload_n 0, 1) := by decide +kernel
theorem dX10_findPhrases_1 : decode cX10_findPhrases 1 = .ok (.getfield 153, 3) := by decide +kernel
theorem dX10_findPhrases_4 : decode cX10_findPhrases 4 = .ok (.aload_n 0, 1) := by decide +kernel
theorem dX10_findPhrases_5 : decode cX10_findPhrases 5 = .ok (.getfield 120, 3) := by decide +kernel
theorem dX10_findPhrases_8 : decode cX10_findPhrases 8 = .ok (.iload_n 1, 1) := by decide +kernel
theorem dX10_findPhrases_9 : decode cX10_findPhrases 9 = .ok (.iaload, 1) := by decide +kernel
theorem dX10_findPhrases_10 : decode cX10_findPhrases 10 = .ok (.iconst 0, 1) := by decide +kernel
theorem dX10_findPhrases_11 : decode cX10_findPhrases 11 = .ok (.iastore, 1) := by decide +kernel
theorem dX10_findPhrases_12 : decode cX10_findPhrases 12 = .ok (.aload_n 0, 1) := by decide +kernel
theorem dX10_findPhrases_13 : decode cX10_findPhrases 13 = .ok (.getfield 120, 3) := by decide +kernel
theorem dX10_findPhrases_16 : decode cX10_findPhrases 16 = .ok (.iload_n 1, 1) := by decide +kernel
theorem dX10_findPhrases_17 : decode cX10_findPhrases 17 = .ok (.iaload, 1) := by decide +kernel
theorem dX10_findPhrases_18 : decode cX10_findPhrases 18 = .ok (.iconst 1, 1) := by decide +kernel
theorem dX10_findPhrases_19 : decode cX10_findPhrases 19 = .ok (.isub, 1) := by decide +kernel
theorem dX10_findPhrases_20 : decode cX10_findPhrases 20 = .ok (.istore_n 2, 1) := by decide +kernel
theorem dX10_findPhrases_21 : decode cX10_findPhrases 21 = .ok (.iload_n 2, 1) := by decide +kernel
theorem dX10_findPhrases_22 : decode cX10_findPhrases 22 = .ok (.ifCond .lt 89, 3) := by decide +kernel
theorem dX10_findPhrases_25 : decode cX10_findPhrases 25 = .ok (.aload_n 0, 1) := by decide +kernel
theorem dX10_findPhrases_26 : decode cX10_findPhrases 26 = .ok (.getfield 153, 3) := by decide +kernel
theorem dX10_findPhrases_29 : decode cX10_findPhrases 29 = .ok (.iload_n 2, 1) := by decide +kernel
theorem dX10_findPhrases_30 : decode cX10_findPhrases 30 = .ok (.iconst (-1), 1) := by decide +kernel
theorem dX10_findPhrases_31 : decode cX10_findPhrases 31 = .ok (.iastore, 1) := by decide +kernel
theorem dX10_findPhrases_32 : decode cX10_findPhrases 32 = .ok (.iload_n 2, 1) := by decide +kernel
theorem dX10_findPhrases_33 : decode cX10_findPhrases 33 = .ok (.iconst 1, 1) := by decide +kernel
theorem dX10_findPhrases_34 : decode cX10_findPhrases 34 = .ok (.iadd, 1) := by decide +kernel
theorem dX10_findPhrases_35 : decode cX10_findPhrases 35 = .ok (.istore_n 3, 1) := by decide +kernel
theorem dX10_findPhrases_36 : decode cX10_findPhrases 36 = .ok (.iload_n 3, 1) := by decide +kernel
theorem dX10_findPhrases_37 : decode cX10_findPhrases 37 = .ok (.aload_n 0, 1) := by decide +kernel
theorem dX10_findPhrases_38 : decode cX10_findPhrases 38 = .ok (.getfield 120, 3) := by decide +kernel
theorem dX10_findPhrases_41 : decode cX10_findPhrases 41 = .ok (.iload_n 1, 1) := by decide +kernel
theorem dX10_findPhrases_42 : decode cX10_findPhrases 42 = .ok (.iaload, 1) := by decide +kernel
theorem dX10_findPhrases_43 : decode cX10_findPhrases 43 = .ok (.if_icmp .gt 62, 3) := by decide +kernel
theorem dX10_findPhrases_46 : decode cX10_findPhrases 46 = .ok (.aload_n 0, 1) := by decide +kernel
theorem dX10_findPhrases_47 : decode cX10_findPhrases 47 = .ok (.iload_n 1, 1) := by decide +kernel
theorem dX10_findPhrases_48 : decode cX10_findPhrases 48 = .ok (.iload_n 2, 1) := by decide +kernel
theorem dX10_findPhrases_49 : decode cX10_findPhrases 49 = .ok (.iload_n 3, 1) := by decide +kernel
theorem dX10_findPhrases_50 : decode cX10_findPhrases 50 = .ok (.invokevirtual 296, 3) := by decide +kernel
theorem dX10_findPhrases_53 : decode cX10_findPhrases 53 = .ok (.aload_n 0, 1) := by decide +kernel
theorem dX10_findPhrases_54 : decode cX10_findPhrases 54 = .ok (.getfield 153, 3) := by decide +kernel
theorem dX10_findPhrases_57 : decode cX10_findPhrases 57 = .ok (.iload_n 3, 1) := by decide +kernel
theorem dX10_findPhrases_58 : decode cX10_findPhrases 58 = .ok (.iaload, 1) := by decide +kernel
theorem dX10_findPhrases_59 : decode cX10_findPhrases 59 = .ok (.iadd, 1) := by decide +kernel
theorem dX10_findPhrases_60 : decode cX10_findPhrases 60 = .ok (.istore 4, 2) := by decide +kernel
theorem dX10_findPhrases_62 : decode cX10_findPhrases 62 = .ok (.aload_n 0, 1) := by decide +kernel
theorem dX10_findPhrases_63 : decode cX10_findPhrases 63 = .ok (.getfield 153, 3) := by decide +kernel
theorem dX10_findPhrases_66 : decode cX10_findPhrases 66 = .ok (.iload_n 2, 1) := by decide +kernel
theorem dX10_findPhrases_67 : decode cX10_findPhrases 67 = .ok (.aload_n 0, 1) := by decide +kernel
theorem dX10_findPhrases_68 : decode cX10_findPhrases 68 = .ok (.getfield 153, 3) := by decide +kernel
theorem dX10_findPhrases_71 : decode cX10_findPhrases 71 = .ok (.iload_n 2, 1) := by decide +kernel
theorem dX10_findPhrases_72 : decode cX10_findPhrases 72 = .ok (.iaload, 1) := by decide +kernel
theorem dX10_findPhrases_73 : decode cX10_findPhrases 73 = .ok (.ifCond .lt 14, 3) := by decide +kernel
theorem dX10_findPhrases_76 : decode cX10_findPhrases 76 = .ok (.iload 4, 2) := by decide +kernel
theorem dX10_findPhrases_78 : decode cX10_findPhrases 78 = .ok (.aload_n 0, 1) := by decide +kernel
theorem dX10_findPhrases_79 : decode cX10_findPhrases 79 = .ok (.getfield 153, 3) := by decide +kernel
theorem dX10_findPhrases_82 : decode cX10_findPhrases 82 = .ok (.iload_n 2, 1) := by decide +kernel
theorem dX10_findPhrases_83 : decode cX10_findPhrases 83 = .ok (.iaload, 1) := by decide +kernel
theorem dX10_findPhrases_84 : decode cX10_findPhrases 84 = .ok (.if_icmp .ge 8, 3) := by decide +kernel
theorem dX10_findPhrases_87 : decode cX10_findPhrases 87 = .ok (.iload 4, 2) := by decide +kernel
theorem dX10_findPhrases_89 : decode cX10_findPhrases 89 = .ok (.goto 9, 3) := by decide +kernel
theorem dX10_findPhrases_92 : decode cX10_findPhrases 92 = .ok (.aload_n 0, 1) := by decide +kernel
theorem dX10_findPhrases_93 : decode cX10_findPhrases 93 = .ok (.getfield 153, 3) := by decide +kernel
theorem dX10_findPhrases_96 : decode cX10_findPhrases 96 = .ok (.iload_n 2, 1) := by decide +kernel
theorem dX10_findPhrases_97 : decode cX10_findPhrases 97 = .ok (.iaload, 1) := by decide +kernel
theorem dX10_findPhrases_98 : decode cX10_findPhrases 98 = .ok (.iastore, 1) := by decide +kernel
theorem dX10_findPhrases_99 : decode cX10_findPhrases 99 = .ok (.iinc 3 1, 3) := by decide +kernel
theorem dX10_findPhrases_102 : decode cX10_findPhrases 102 = .ok (.goto (-66), 3) := by decide +kernel
theorem dX10_findPhrases_105 : decode cX10_findPhrases 105 = .ok (.iinc 2 (-1), 3) := by decide +kernel
theorem dX10_findPhrases_108 : decode cX10_findPhrases 108 = .ok (.goto (-87), 3) := by decide +kernel
theorem dX10_findPhrases_111 : decode cX10_findPhrases 111 = .ok (.aload_n 0, 1) := by decide +kernel
theorem dX10_findPhrases_112 : decode cX10_findPhrases 112 = .ok (.iconst 0, 1) := by decide +kernel
theorem dX10_findPhrases_113 : decode cX10_findPhrases 113 = .ok (.putfield 300, 3) := by decide +kernel
theorem dX10_findPhrases_116 : decode cX10_findPhrases 116 = .ok (.iconst 0, 1) := by decide +kernel
theorem dX10_findPhrases_117 : decode cX10_findPhrases 117 = .ok (.istore_n 2, 1) := by decide +kernel
theorem dX10_findPhrases_118 : decode cX10_findPhrases 118 = .ok (.iload_n 2, 1) := by decide +kernel
theorem dX10_findPhrases_119 : decode cX10_findPhrases 119 = .ok (.aload_n 0, 1) := by decide +kernel
theorem dX10_findPhrases_120 : decode cX10_findPhrases 120 = .ok (.getfield 120, 3) := by decide +kernel
theorem dX10_findPhrases_123 : decode cX10_findPhrases 123 = .ok (.iload_n 1, 1) := by decide +kernel
theorem dX10_findPhrases_124 : decode cX10_findPhrases 124 = .ok (.iaload, 1) := by decide +kernel
theorem dX10_findPhrases_125 : decode cX10_findPhrases 125 = .ok (.if_icmp .ge 130, 3) := by decide +kernel
theorem dX10_findPhrases_128 : decode cX10_findPhrases 128 = .ok (.aload_n 0, 1) := by decide +kernel
theorem dX10_findPhrases_129 : decode cX10_findPhrases 129 = .ok (.getfield 120, 3) := by decide +kernel
theorem dX10_findPhrases_132 : decode cX10_findPhrases 132 = .ok (.iload_n 1, 1) := by decide +kernel
theorem dX10_findPhrases_133 : decode cX10_findPhrases 133 = .ok (.iaload, 1) := by decide +kernel
theorem dX10_findPhrases_134 : decode cX10_findPhrases 134 = .ok (.istore_n 3, 1) := by decide +kernel
theorem dX10_findPhrases_135 : decode cX10_findPhrases 135 = .ok (.aload_n 0, 1) := by decide +kernel
theorem dX10_findPhrases_136 : decode cX10_findPhrases 136 = .ok (.iload_n 1, 1) := by decide +kernel
theorem dX10_findPhrases_137 : decode cX10_findPhrases 137 = .ok (.iload_n 2, 1) := by decide +kernel
theorem dX10_findPhrases_138 : decode cX10_findPhrases 138 = .ok (.iload_n 3, 1) := by decide +kernel
theorem dX10_findPhrases_139 : decode cX10_findPhrases 139 = .ok (.invokevirtual 296, 3) := by decide +kernel
theorem dX10_findPhrases_142 : decode cX10_findPhrases 142 = .ok (.aload_n 0, 1) := by decide +kernel
theorem dX10_findPhrases_143 : decode cX10_findPhrases 143 = .ok (.getfield 153, 3) := by decide +kernel
theorem dX10_findPhrases_146 : decode cX10_findPhrases 146 = .ok (.iload_n 3, 1) := by decide +kernel
theorem dX10_findPhrases_147 : decode cX10_findPhrases 147 = .ok (.iaload, 1) := by decide +kernel
theorem dX10_findPhrases_148 : decode cX10_findPhrases 148 = .ok (.iadd, 1) := by decide +kernel
theorem dX10_findPhrases_149 : decode cX10_findPhrases 149 = .ok (.aload_n 0, 1) := by decide +kernel
theorem dX10_findPhrases_150 : decode cX10_findPhrases 150 = .ok (.getfield 153, 3) := by decide +kernel
theorem dX10_findPhrases_153 : decode cX10_findPhrases 153 = .ok (.iload_n 2, 1) := by decide +kernel
theorem dX10_findPhrases_154 : decode cX10_findPhrases 154 = .ok (.iaload, 1) := by decide +kernel
theorem dX10_findPhrases_155 : decode cX10_findPhrases 155 = .ok (.if_icmp .eq 9, 3) := by decide +kernel
theorem dX10_findPhrases_158 : decode cX10_findPhrases 158 = .ok (.iinc 3 (-1), 3) := by decide +kernel
theorem dX10_findPhrases_161 : decode cX10_findPhrases 161 = .ok (.goto (-26), 3) := by decide +kernel
theorem dX10_findPhrases_164 : decode cX10_findPhrases 164 = .ok (.aload_n 0, 1) := by decide +kernel
theorem dX10_findPhrases_165 : decode cX10_findPhrases 165 = .ok (.getfield 156, 3) := by decide +kernel
theorem dX10_findPhrases_168 : decode cX10_findPhrases 168 = .ok (.aload_n 0, 1) := by decide +kernel
theorem dX10_findPhrases_169 : decode cX10_findPhrases 169 = .ok (.getfield 300, 3) := by decide +kernel
theorem dX10_findPhrases_172 : decode cX10_findPhrases 172 = .ok (.iload_n 2, 1) := by decide +kernel
theorem dX10_findPhrases_173 : decode cX10_findPhrases 173 = .ok (.iastore, 1) := by decide +kernel
theorem dX10_findPhrases_174 : decode cX10_findPhrases 174 = .ok (.aload_n 0, 1) := by decide +kernel
theorem dX10_findPhrases_175 : decode cX10_findPhrases 175 = .ok (.getfield 159, 3) := by decide +kernel
theorem dX10_findPhrases_178 : decode cX10_findPhrases 178 = .ok (.aload_n 0, 1) := by decide +kernel
theorem dX10_findPhrases_179 : decode cX10_findPhrases 179 = .ok (.getfield 300, 3) := by decide +kernel
theorem dX10_findPhrases_182 : decode cX10_findPhrases 182 = .ok (.iload_n 3, 1) := by decide +kernel
theorem dX10_findPhrases_183 : decode cX10_findPhrases 183 = .ok (.iload_n 2, 1) := by decide +kernel
theorem dX10_findPhrases_184 : decode cX10_findPhrases 184 = .ok (.isub, 1) := by decide +kernel
theorem dX10_findPhrases_185 : decode cX10_findPhrases 185 = .ok (.iastore, 1) := by decide +kernel
theorem dX10_findPhrases_186 : decode cX10_findPhrases 186 = .ok (.aload_n 0, 1) := by decide +kernel
theorem dX10_findPhrases_187 : decode cX10_findPhrases 187 = .ok (.getfield 162, 3) := by decide +kernel
theorem dX10_findPhrases_190 : decode cX10_findPhrases 190 = .ok (.aload_n 0, 1) := by decide +kernel
theorem dX10_findPhrases_191 : decode cX10_findPhrases 191 = .ok (.getfield 300, 3) := by decide +kernel
theorem dX10_findPhrases_194 : decode cX10_findPhrases 194 = .ok (.iconst 0, 1) := by decide +kernel
theorem dX10_findPhrases_195 : decode cX10_findPhrases 195 = .ok (.iastore, 1) := by decide +kernel
theorem dX10_findPhrases_196 : decode cX10_findPhrases 196 = .ok (.bipush 16, 2) := by decide +kernel
theorem dX10_findPhrases_198 : decode cX10_findPhrases 198 = .ok (.iload_n 1, 1) := by decide +kernel
theorem dX10_findPhrases_199 : decode cX10_findPhrases 199 = .ok (.imul, 1) := by decide +kernel
theorem dX10_findPhrases_200 : decode cX10_findPhrases 200 = .ok (.iload_n 2, 1) := by decide +kernel
theorem dX10_findPhrases_201 : decode cX10_findPhrases 201 = .ok (.iadd, 1) := by decide +kernel
theorem dX10_findPhrases_202 : decode cX10_findPhrases 202 = .ok (.istore 4, 2) := by decide +kernel
theorem dX10_findPhrases_204 : decode cX10_findPhrases 204 = .ok (.iload 4, 2) := by decide +kernel
theorem dX10_findPhrases_206 : decode cX10_findPhrases 206 = .ok (.bipush 16, 2) := by decide +kernel
theorem dX10_findPhrases_208 : decode cX10_findPhrases 208 = .ok (.iload_n 1, 1) := by decide +kernel
theorem dX10_findPhrases_209 : decode cX10_findPhrases 209 = .ok (.imul, 1) := by decide +kernel
theorem dX10_findPhrases_210 : decode cX10_findPhrases 210 = .ok (.iload_n 3, 1) := by decide +kernel
theorem dX10_findPhrases_211 : decode cX10_findPhrases 211 = .ok (.iadd, 1) := by decide +kernel
theorem dX10_findPhrases_212 : decode cX10_findPhrases 212 = .ok (.if_icmp .ge 28, 3) := by decide +kernel
theorem dX10_findPhrases_215 : decode cX10_findPhrases 215 = .ok (.aload_n 0, 1) := by decide +kernel
theorem dX10_findPhrases_216 : decode cX10_findPhrases 216 = .ok (.getfield 162, 3) := by decide +kernel
theorem dX10_findPhrases_219 : decode cX10_findPhrases 219 = .ok (.aload_n 0, 1) := by decide +kernel
theorem dX10_findPhrases_220 : decode cX10_findPhrases 220 = .ok (.getfield 300, 3) := by decide +kernel
theorem dX10_findPhrases_223 : decode cX10_findPhrases 223 = .ok (.dup2, 1) := by decide +kernel
theorem dX10_findPhrases_224 : decode cX10_findPhrases 224 = .ok (.iaload, 1) := by decide +kernel
theorem dX10_findPhrases_225 : decode cX10_findPhrases 225 = .ok (.aload_n 0, 1) := by decide +kernel
theorem dX10_findPhrases_226 : decode cX10_findPhrases 226 = .ok (.getfield 123, 3) := by decide +kernel
theorem dX10_findPhrases_229 : decode cX10_findPhrases 229 = .ok (.iload 4, 2) := by decide +kernel
theorem dX10_findPhrases_231 : decode cX10_findPhrases 231 = .ok (.iaload, 1) := by decide +kernel
theorem dX10_findPhrases_232 : decode cX10_findPhrases 232 = .ok (.iadd, 1) := by decide +kernel
theorem dX10_findPhrases_233 : decode cX10_findPhrases 233 = .ok (.iastore, 1) := by decide +kernel
theorem dX10_findPhrases_234 : decode cX10_findPhrases 234 = .ok (.iinc 4 1, 3) := by decide +kernel
theorem dX10_findPhrases_237 : decode cX10_findPhrases 237 = .ok (.goto (-33), 3) := by decide +kernel
theorem dX10_findPhrases_240 : decode cX10_findPhrases 240 = .ok (.aload_n 0, 1) := by decide +kernel
theorem dX10_findPhrases_241 : decode cX10_findPhrases 241 = .ok (.dup, 1) := by decide +kernel
theorem dX10_findPhrases_242 : decode cX10_findPhrases 242 = .ok (.getfield 300, 3) := by decide +kernel
theorem dX10_findPhrases_245 : decode cX10_findPhrases 245 = .ok (.iconst 1, 1) := by decide +kernel
theorem dX10_findPhrases_246 : decode cX10_findPhrases 246 = .ok (.iadd, 1) := by decide +kernel
theorem dX10_findPhrases_247 : decode cX10_findPhrases 247 = .ok (.putfield 300, 3) := by decide +kernel
theorem dX10_findPhrases_250 : decode cX10_findPhrases 250 = .ok (.iload_n 3, 1) := by decide +kernel
theorem dX10_findPhrases_251 : decode cX10_findPhrases 251 = .ok (.istore_n 2, 1) := by decide +kernel
theorem dX10_findPhrases_252 : decode cX10_findPhrases 252 = .ok (.goto (-134), 3) := by decide +kernel
theorem dX10_findPhrases_255 : decode cX10_findPhrases 255 = .ok (.return_, 1) := by decide +kernel
theorem dX10_accents_0 : decode cX10_accents 0 = .ok (.aload_n 0, 1) := by decide +kernel
theorem dX10_accents_1 : decode cX10_accents 1 = .ok (.getfield 156, 3) := by decide +kernel
theorem dX10_accents_4 : decode cX10_accents 4 = .ok (.iload_n 2, 1) := by decide +kernel
theorem dX10_accents_5 : decode cX10_accents 5 = .ok (.iaload, 1) := by decide +kernel
theorem dX10_accents_6 : decode cX10_accents 6 = .ok (.istore_n 3, 1) := by decide +kernel
theorem dX10_accents_7 : decode cX10_accents 7 = .ok (.iload_n 3, 1) := by decide +kernel
theorem dX10_accents_8 : decode cX10_accents 8 = .ok (.aload_n 0, 1) := by decide +kernel
theorem dX10_accents_9 : decode cX10_accents 9 = .ok (.getfield 159, 3) := by decide +kernel
theorem dX10_accents_12 : decode cX10_accents 12 = .ok (.iload_n 2, 1) := by decide +kernel
theorem dX10_accents_13 : decode cX10_accents 13 = .ok (.iaload, 1) := by decide +kernel
theorem dX10_accents_14 : decode cX10_accents 14 = .ok (.iadd, 1) := by decide +kernel
theorem dX10_accents_15 : decode cX10_accents 15 = .ok (.istore 4, 2) := by decide +kernel
theorem dX10_accents_17 : decode cX10_accents 17 = .ok (.iconst 0, 1) := by decide +kernel
theorem dX10_accents_18 : decode cX10_accents 18 = .ok (.istore 5, 2) := by decide +kernel
theorem dX10_accents_20 : decode cX10_accents 20 = .ok (.iload 4, 2) := by decide +kernel
theorem dX10_accents_22 : decode cX10_accents 22 = .ok (.iconst 1, 1) := by decide +kernel
theorem dX10_accents_23 : decode cX10_accents 23 = .ok (.isub, 1) := by decide +kernel
theorem dX10_accents_24 : decode cX10_accents 24 = .ok (.istore 6, 2) := by decide +kernel
theorem dX10_accents_26 : decode cX10_accents 26 = .ok (.iconst 0, 1) := by decide +kernel
theorem dX10_accents_27 : decode cX10_accents 27 = .ok (.istore 7, 2) := by decide +kernel
theorem dX10_accents_29 : decode cX10_accents 29 = .ok (.iload_n 3, 1) := by decide +kernel
theorem dX10_accents_30 : decode cX10_accents 30 = .ok (.istore 8, 2) := by decide +kernel
theorem dX10_accents_32 : decode cX10_accents 32 = .ok (.iload 8, 2) := by decide +kernel
theorem dX10_accents_34 : decode cX10_accents 34 = .ok (.iload 4, 2) := by decide +kernel
theorem dX10_accents_36 : decode cX10_accents 36 = .ok (.if_icmp .ge 113, 3) := by decide +kernel
theorem dX10_accents_39 : decode cX10_accents 39 = .ok (.aload_n 0, 1) := by decide +kernel
theorem dX10_accents_40 : decode cX10_accents 40 = .ok (.getfield 165, 3) := by decide +kernel
theorem dX10_accents_43 : decode cX10_accents 43 = .ok (.iload 8, 2) := by decide +kernel
theorem dX10_accents_45 : decode cX10_accents 45 = .ok (.aload_n 0, 1) := by decide +kernel
theorem dX10_accents_46 : decode cX10_accents 46 = .ok (.getfield 135, 3) := by decide +kernel
theorem dX10_accents_49 : decode cX10_accents 49 = .ok (.bipush 16, 2) := by decide +kernel
theorem dX10_accents_51 : decode cX10_accents 51 = .ok (.iload_n 1, 1) := by decide +kernel
theorem dX10_accents_52 : decode cX10_accents 52 = .ok (.imul, 1) := by decide +kernel
theorem dX10_accents_53 : decode cX10_accents 53 = .ok (.iload 8, 2) := by decide +kernel
theorem dX10_accents_55 : decode cX10_accents 55 = .ok (.iadd, 1) := by decide +kernel
theorem dX10_accents_56 : decode cX10_accents 56 = .ok (.baload, 1) := by decide +kernel
theorem dX10_accents_57 : decode cX10_accents 57 = .ok (.bastore, 1) := by decide +kernel
theorem dX10_accents_58 : decode cX10_accents 58 = .ok (.iload 5, 2) := by decide +kernel
theorem dX10_accents_60 : decode cX10_accents 60 = .ok (.aload_n 0, 1) := by decide +kernel
theorem dX10_accents_61 : decode cX10_accents 61 = .ok (.getfield 165, 3) := by decide +kernel
theorem dX10_accents_64 : decode cX10_accents 64 = .ok (.iload 8, 2) := by decide +kernel
theorem dX10_accents_66 : decode cX10_accents 66 = .ok (.baload, 1) := by decide +kernel
theorem dX10_accents_67 : decode cX10_accents 67 = .ok (.ifCond .eq 7, 3) := by decide +kernel
theorem dX10_accents_70 : decode cX10_accents 70 = .ok (.iconst 1, 1) := by decide +kernel
theorem dX10_accents_71 : decode cX10_accents 71 = .ok (.goto 4, 3) := by decide +kernel
theorem dX10_accents_74 : decode cX10_accents 74 = .ok (.iconst 0, 1) := by decide +kernel
theorem dX10_accents_75 : decode cX10_accents 75 = .ok (.iadd, 1) := by decide +kernel
theorem dX10_accents_76 : decode cX10_accents 76 = .ok (.istore 5, 2) := by decide +kernel
theorem dX10_accents_78 : decode cX10_accents 78 = .ok (.aload_n 0, 1) := by decide +kernel
theorem dX10_accents_79 : decode cX10_accents 79 = .ok (.getfield 132, 3) := by decide +kernel
theorem dX10_accents_82 : decode cX10_accents 82 = .ok (.bipush 16, 2) := by decide +kernel
theorem dX10_accents_84 : decode cX10_accents 84 = .ok (.iload_n 1, 1) := by decide +kernel
theorem dX10_accents_85 : decode cX10_accents 85 = .ok (.imul, 1) := by decide +kernel
theorem dX10_accents_86 : decode cX10_accents 86 = .ok (.iload 8, 2) := by decide +kernel
theorem dX10_accents_88 : decode cX10_accents 88 = .ok (.iadd, 1) := by decide +kernel
theorem dX10_accents_89 : decode cX10_accents 89 = .ok (.baload, 1) := by decide +kernel
theorem dX10_accents_90 : decode cX10_accents 90 = .ok (.ifCond .ne 17, 3) := by decide +kernel
theorem dX10_accents_93 : decode cX10_accents 93 = .ok (.iload 7, 2) := by decide +kernel
theorem dX10_accents_95 : decode cX10_accents 95 = .ok (.ifCond .ne 17, 3) := by decide +kernel
theorem dX10_accents_98 : decode cX10_accents 98 = .ok (.iload 8, 2) := by decide +kernel
theorem dX10_accents_100 : decode cX10_accents 100 = .ok (.iload 4, 2) := by decide +kernel
theorem dX10_accents_102 : decode cX10_accents 102 = .ok (.iconst 1, 1) := by decide +kernel
theorem dX10_accents_103 : decode cX10_accents 103 = .ok (.isub, 1) := by decide +kernel
theorem dX10_accents_104 : decode cX10_accents 104 = .ok (.if_icmp .ne 8, 3) := by decide +kernel
theorem dX10_accents_107 : decode cX10_accents 107 = .ok (.iload 8, 2) := by decide +kernel
theorem dX10_accents_109 : decode cX10_accents 109 = .ok (.goto 5, 3) := by decide +kernel
theorem dX10_accents_112 : decode cX10_accents 112 = .ok (.iload 6, 2) := by decide +kernel
theorem dX10_accents_114 : decode cX10_accents 114 = .ok (.istore 6, 2) := by decide +kernel
theorem dX10_accents_116 : decode cX10_accents 116 = .ok (.iload 7, 2) := by decide +kernel
theorem dX10_accents_118 : decode cX10_accents 118 = .ok (.ifCond .ne 18, 3) := by decide +kernel
theorem dX10_accents_121 : decode cX10_accents 121 = .ok (.aload_n 0, 1) := by decide +kernel
theorem dX10_accents_122 : decode cX10_accents 122 = .ok (.getfield 132, 3) := by decide +kernel
theorem dX10_accents_125 : decode cX10_accents 125 = .ok (.bipush 16, 2) := by decide +kernel
theorem dX10_accents_127 : decode cX10_accents 127 = .ok (.iload_n 1, 1) := by decide +kernel
theorem dX10_accents_128 : decode cX10_accents 128 = .ok (.imul, 1) := by decide +kernel
theorem dX10_accents_129 : decode cX10_accents 129 = .ok (.iload 8, 2) := by decide +kernel
theorem dX10_accents_131 : decode cX10_accents 131 = .ok (.iadd, 1) := by decide +kernel
theorem dX10_accents_132 : decode cX10_accents 132 = .ok (.baload, 1) := by decide +kernel
theorem dX10_accents_133 : decode cX10_accents 133 = .ok (.ifCond .eq 7, 3) := by decide +kernel
theorem dX10_accents_136 : decode cX10_accents 136 = .ok (.iconst 1, 1) := by decide +kernel
theorem dX10_accents_137 : decode cX10_accents 137 = .ok (.goto 4, 3) := by decide +kernel
theorem dX10_accents_140 : decode cX10_accents 140 = .ok (.iconst 0, 1) := by decide +kernel
theorem dX10_accents_141 : decode cX10_accents 141 = .ok (.istore 7, 2) := by decide +kernel
theorem dX10_accents_143 : decode cX10_accents 143 = .ok (.iinc 8 1, 3) := by decide +kernel
theorem dX10_accents_146 : decode cX10_accents 146 = .ok (.goto (-114), 3) := by decide +kernel
theorem dX10_accents_149 : decode cX10_accents 149 = .ok (.iload 5, 2) := by decide +kernel
theorem dX10_accents_151 : decode cX10_accents 151 = .ok (.ifCond .ne 13, 3) := by decide +kernel
theorem dX10_accents_154 : decode cX10_accents 154 = .ok (.aload_n 0, 1) := by decide +kernel
theorem dX10_accents_155 : decode cX10_accents 155 = .ok (.getfield 165, 3) := by decide +kernel
theorem dX10_accents_158 : decode cX10_accents 158 = .ok (.iload 6, 2) := by decide +kernel
theorem dX10_accents_160 : decode cX10_accents 160 = .ok (.iconst 1, 1) := by decide +kernel
theorem dX10_accents_161 : decode cX10_accents 161 = .ok (.bastore, 1) := by decide +kernel
theorem dX10_accents_162 : decode cX10_accents 162 = .ok (.iconst 1, 1) := by decide +kernel
theorem dX10_accents_163 : decode cX10_accents 163 = .ok (.ireturn, 1) := by decide +kernel
theorem dX10_accents_164 : decode cX10_accents 164 = .ok (.iload 5, 2) := by decide +kernel
theorem dX10_accents_166 : decode cX10_accents 166 = .ok (.ireturn, 1) := by decide +kernel
theorem dX10_phrases_0 : decode cX10_phrases 0 = .ok (.aload_n 0, 1) := by decide +kernel
theorem dX10_phrases_1 : decode cX10_phrases 1 = .ok (.iconst 0, 1) := by decide +kernel
theorem dX10_phrases_2 : decode cX10_phrases 2 = .ok (.putfield 1, 3) := by decide +kernel
theorem dX10_phrases_5 : decode cX10_phrases 5 = .ok (.aload_n 0, 1) := by decide +kernel
theorem dX10_phrases_6 : decode cX10_phrases 6 = .ok (.aload_n 0, 1) := by decide +kernel
theorem dX10_phrases_7 : decode cX10_phrases 7 = .ok (.getfield 283, 3) := by decide +kernel
theorem dX10_phrases_10 : decode cX10_phrases 10 = .ok (.invokevirtual 303, 3) := by decide +kernel
theorem dX10_phrases_13 : decode cX10_phrases 13 = .ok (.aload_n 0, 1) := by decide +kernel
theorem dX10_phrases_14 : decode cX10_phrases 14 = .ok (.getfield 300, 3) := by decide +kernel
theorem dX10_phrases_17 : decode cX10_phrases 17 = .ok (.ireturn, 1) := by decide +kernel
theorem dX10_phrase_0 : decode cX10_phrase 0 = .ok (.aload_n 0, 1) := by decide +kernel
theorem dX10_phrase_1 : decode cX10_phrase 1 = .ok (.iconst 0, 1) := by decide +kernel
theorem dX10_phrase_2 : decode cX10_phrase 2 = .ok (.putfield 1, 3) := by decide +kernel
theorem dX10_phrase_5 : decode cX10_phrase 5 = .ok (.aload_n 0, 1) := by decide +kernel
theorem dX10_phrase_6 : decode cX10_phrase 6 = .ok (.aload_n 0, 1) := by decide +kernel
theorem dX10_phrase_7 : decode cX10_phrase 7 = .ok (.getfield 283, 3) := by decide +kernel
theorem dX10_phrase_10 : decode cX10_phrase 10 = .ok (.invokevirtual 303, 3) := by decide +kernel
theorem dX10_phrase_13 : decode cX10_phrase 13 = .ok (.iload_n 1, 1) := by decide +kernel
theorem dX10_phrase_14 : decode cX10_phrase 14 = .ok (.ifCond .lt 11, 3) := by decide +kernel
theorem dX10_phrase_17 : decode cX10_phrase 17 = .ok (.iload_n 1, 1) := by decide +kernel
theorem dX10_phrase_18 : decode cX10_phrase 18 = .ok (.aload_n 0, 1) := by decide +kernel
theorem dX10_phrase_19 : decode cX10_phrase 19 = .ok (.getfield 300, 3) := by decide +kernel
theorem dX10_phrase_22 : decode cX10_phrase 22 = .ok (.if_icmp .lt 5, 3) := by decide +kernel
theorem dX10_phrase_25 : decode cX10_phrase 25 = .ok (.iconst (-1), 1) := by decide +kernel
theorem dX10_phrase_26 : decode cX10_phrase 26 = .ok (.ireturn, 1) := by decide +kernel
theorem dX10_phrase_27 : decode cX10_phrase 27 = .ok (.iload_n 2, 1) := by decide +kernel
theorem dX10_phrase_28 : decode cX10_phrase 28 = .ok (.ifCond .ne 12, 3) := by decide +kernel
theorem dX10_phrase_31 : decode cX10_phrase 31 = .ok (.aload_n 0, 1) := by decide +kernel
theorem dX10_phrase_32 : decode cX10_phrase 32 = .ok (.getfield 156, 3) := by decide +kernel
theorem dX10_phrase_35 : decode cX10_phrase 35 = .ok (.iload_n 1, 1) := by decide +kernel
theorem dX10_phrase_36 : decode cX10_phrase 36 = .ok (.iaload, 1) := by decide +kernel
theorem dX10_phrase_37 : decode cX10_phrase 37 = .ok (.goto 63, 3) := by decide +kernel
theorem dX10_phrase_40 : decode cX10_phrase 40 = .ok (.iload_n 2, 1) := by decide +kernel
theorem dX10_phrase_41 : decode cX10_phrase 41 = .ok (.iconst 1, 1) := by decide +kernel
theorem dX10_phrase_42 : decode cX10_phrase 42 = .ok (.if_icmp .ne 12, 3) := by decide +kernel
theorem dX10_phrase_45 : decode cX10_phrase 45 = .ok (.aload_n 0, 1) := by decide +kernel
theorem dX10_phrase_46 : decode cX10_phrase 46 = .ok (.getfield 159, 3) := by decide +kernel
theorem dX10_phrase_49 : decode cX10_phrase 49 = .ok (.iload_n 1, 1) := by decide +kernel
theorem dX10_phrase_50 : decode cX10_phrase 50 = .ok (.iaload, 1) := by decide +kernel
theorem dX10_phrase_51 : decode cX10_phrase 51 = .ok (.goto 49, 3) := by decide +kernel
theorem dX10_phrase_54 : decode cX10_phrase 54 = .ok (.iload_n 2, 1) := by decide +kernel
theorem dX10_phrase_55 : decode cX10_phrase 55 = .ok (.iconst 2, 1) := by decide +kernel
theorem dX10_phrase_56 : decode cX10_phrase 56 = .ok (.if_icmp .ne 12, 3) := by decide +kernel
theorem dX10_phrase_59 : decode cX10_phrase 59 = .ok (.aload_n 0, 1) := by decide +kernel
theorem dX10_phrase_60 : decode cX10_phrase 60 = .ok (.getfield 162, 3) := by decide +kernel
theorem dX10_phrase_63 : decode cX10_phrase 63 = .ok (.iload_n 1, 1) := by decide +kernel
theorem dX10_phrase_64 : decode cX10_phrase 64 = .ok (.iaload, 1) := by decide +kernel
theorem dX10_phrase_65 : decode cX10_phrase 65 = .ok (.goto 35, 3) := by decide +kernel
theorem dX10_phrase_68 : decode cX10_phrase 68 = .ok (.iload_n 2, 1) := by decide +kernel
theorem dX10_phrase_69 : decode cX10_phrase 69 = .ok (.iconst 3, 1) := by decide +kernel
theorem dX10_phrase_70 : decode cX10_phrase 70 = .ok (.if_icmp .ne 15, 3) := by decide +kernel
theorem dX10_phrase_73 : decode cX10_phrase 73 = .ok (.aload_n 0, 1) := by decide +kernel
theorem dX10_phrase_74 : decode cX10_phrase 74 = .ok (.aload_n 0, 1) := by decide +kernel
theorem dX10_phrase_75 : decode cX10_phrase 75 = .ok (.getfield 283, 3) := by decide +kernel
theorem dX10_phrase_78 : decode cX10_phrase 78 = .ok (.iload_n 1, 1) := by decide +kernel
theorem dX10_phrase_79 : decode cX10_phrase 79 = .ok (.invokevirtual 306, 3) := by decide +kernel
theorem dX10_phrase_82 : decode cX10_phrase 82 = .ok (.goto 18, 3) := by decide +kernel
theorem dX10_phrase_85 : decode cX10_phrase 85 = .ok (.iload_n 2, 1) := by decide +kernel
theorem dX10_phrase_86 : decode cX10_phrase 86 = .ok (.iconst 4, 1) := by decide +kernel
theorem dX10_phrase_87 : decode cX10_phrase 87 = .ok (.if_icmp .ne 12, 3) := by decide +kernel
theorem dX10_phrase_90 : decode cX10_phrase 90 = .ok (.aload_n 0, 1) := by decide +kernel
theorem dX10_phrase_91 : decode cX10_phrase 91 = .ok (.getfield 153, 3) := by decide +kernel
theorem dX10_phrase_94 : decode cX10_phrase 94 = .ok (.iconst 0, 1) := by decide +kernel
theorem dX10_phrase_95 : decode cX10_phrase 95 = .ok (.iaload, 1) := by decide +kernel
theorem dX10_phrase_96 : decode cX10_phrase 96 = .ok (.goto 4, 3) := by decide +kernel
theorem dX10_phrase_99 : decode cX10_phrase 99 = .ok (.iconst (-1), 1) := by decide +kernel
theorem dX10_phrase_100 : decode cX10_phrase 100 = .ok (.ireturn, 1) := by decide +kernel
theorem dX10_setsOut_0 : decode cX10_setsOut 0 = .ok (.aload_n 0, 1) := by decide +kernel
theorem dX10_setsOut_1 : decode cX10_setsOut 1 = .ok (.iload_n 1, 1) := by decide +kernel
theorem dX10_setsOut_2 : decode cX10_setsOut 2 = .ok (.invokevirtual 303, 3) := by decide +kernel
theorem dX10_setsOut_5 : decode cX10_setsOut 5 = .ok (.aload_n 0, 1) := by decide +kernel
theorem dX10_setsOut_6 : decode cX10_setsOut 6 = .ok (.iconst 0, 1) := by decide +kernel
theorem dX10_setsOut_7 : decode cX10_setsOut 7 = .ok (.putfield 310, 3) := by decide +kernel
theorem dX10_setsOut_10 : decode cX10_setsOut 10 = .ok (.iconst 0, 1) := by decide +kernel
theorem dX10_setsOut_11 : decode cX10_setsOut 11 = .ok (.istore_n 2, 1) := by decide +kernel
theorem dX10_setsOut_12 : decode cX10_setsOut 12 = .ok (.iload_n 2, 1) := by decide +kernel
theorem dX10_setsOut_13 : decode cX10_setsOut 13 = .ok (.aload_n 0, 1) := by decide +kernel
theorem dX10_setsOut_14 : decode cX10_setsOut 14 = .ok (.getfield 300, 3) := by decide +kernel
theorem dX10_setsOut_17 : decode cX10_setsOut 17 = .ok (.if_icmp .ge 201, 3) := by decide +kernel
theorem dX10_setsOut_20 : decode cX10_setsOut 20 = .ok (.aload_n 0, 1) := by decide +kernel
theorem dX10_setsOut_21 : decode cX10_setsOut 21 = .ok (.iload_n 1, 1) := by decide +kernel
theorem dX10_setsOut_22 : decode cX10_setsOut 22 = .ok (.iload_n 2, 1) := by decide +kernel
theorem dX10_setsOut_23 : decode cX10_setsOut 23 = .ok (.invokevirtual 306, 3) := by decide +kernel
theorem dX10_setsOut_26 : decode cX10_setsOut 26 = .ok (.istore_n 3, 1) := by decide +kernel
theorem dX10_setsOut_27 : decode cX10_setsOut 27 = .ok (.aload_n 0, 1) := by decide +kernel
theorem dX10_setsOut_28 : decode cX10_setsOut 28 = .ok (.getfield 310, 3) := by decide +kernel
theorem dX10_setsOut_31 : decode cX10_setsOut 31 = .ok (.istore 4, 2) := by decide +kernel
theorem dX10_setsOut_33 : decode cX10_setsOut 33 = .ok (.aload_n 0, 1) := by decide +kernel
theorem dX10_setsOut_34 : decode cX10_setsOut 34 = .ok (.getfield 156, 3) := by decide +kernel
theorem dX10_setsOut_37 : decode cX10_setsOut 37 = .ok (.iload_n 2, 1) := by decide +kernel
theorem dX10_setsOut_38 : decode cX10_setsOut 38 = .ok (.iaload, 1) := by decide +kernel
theorem dX10_setsOut_39 : decode cX10_setsOut 39 = .ok (.istore 5, 2) := by decide +kernel
theorem dX10_setsOut_41 : decode cX10_setsOut 41 = .ok (.iload 5, 2) := by decide +kernel
theorem dX10_setsOut_43 : decode cX10_setsOut 43 = .ok (.aload_n 0, 1) := by decide +kernel
theorem dX10_setsOut_44 : decode cX10_setsOut 44 = .ok (.getfield 156, 3) := by decide +kernel
theorem dX10_setsOut_47 : decode cX10_setsOut 47 = .ok (.iload_n 2, 1) := by decide +kernel
theorem dX10_setsOut_48 : decode cX10_setsOut 48 = .ok (.iaload, 1) := by decide +kernel
theorem dX10_setsOut_49 : decode cX10_setsOut 49 = .ok (.aload_n 0, 1) := by decide +kernel
theorem dX10_setsOut_50 : decode cX10_setsOut 50 = .ok (.getfield 159, 3) := by decide +kernel
theorem dX10_setsOut_53 : decode cX10_setsOut 53 = .ok (.iload_n 2, 1) := by decide +kernel
theorem dX10_setsOut_54 : decode cX10_setsOut 54 = .ok (.iaload, 1) := by decide +kernel
theorem dX10_setsOut_55 : decode cX10_setsOut 55 = .ok (.iadd, 1) := by decide +kernel
theorem dX10_setsOut_56 : decode cX10_setsOut 56 = .ok (.if_icmp .ge 156, 3) := by decide +kernel
theorem dX10_setsOut_59 : decode cX10_setsOut 59 = .ok (.iconst 0, 1) := by decide +kernel
theorem dX10_setsOut_60 : decode cX10_setsOut 60 = .ok (.istore 6, 2) := by decide +kernel
theorem dX10_setsOut_62 : decode cX10_setsOut 62 = .ok (.iload 6, 2) := by decide +kernel
theorem dX10_setsOut_64 : decode cX10_setsOut 64 = .ok (.aload_n 0, 1) := by decide +kernel
theorem dX10_setsOut_65 : decode cX10_setsOut 65 = .ok (.getfield 123, 3) := by decide +kernel
theorem dX10_setsOut_68 : decode cX10_setsOut 68 = .ok (.bipush 16, 2) := by decide +kernel
theorem dX10_setsOut_70 : decode cX10_setsOut 70 = .ok (.iload_n 1, 1) := by decide +kernel
theorem dX10_setsOut_71 : decode cX10_setsOut 71 = .ok (.imul, 1) := by decide +kernel
theorem dX10_setsOut_72 : decode cX10_setsOut 72 = .ok (.iload 5, 2) := by decide +kernel
theorem dX10_setsOut_74 : decode cX10_setsOut 74 = .ok (.iadd, 1) := by decide +kernel
theorem dX10_setsOut_75 : decode cX10_setsOut 75 = .ok (.iaload, 1) := by decide +kernel
theorem dX10_setsOut_76 : decode cX10_setsOut 76 = .ok (.if_icmp .ge 130, 3) := by decide +kernel
theorem dX10_setsOut_79 : decode cX10_setsOut 79 = .ok (.aload_n 0, 1) := by decide +kernel
theorem dX10_setsOut_80 : decode cX10_setsOut 80 = .ok (.getfield 168, 3) := by decide +kernel
theorem dX10_setsOut_83 : decode cX10_setsOut 83 = .ok (.aload_n 0, 1) := by decide +kernel
theorem dX10_setsOut_84 : decode cX10_setsOut 84 = .ok (.getfield 310, 3) := by decide +kernel
theorem dX10_setsOut_87 : decode cX10_setsOut 87 = .ok (.iload 5, 2) := by decide +kernel
theorem dX10_setsOut_89 : decode cX10_setsOut 89 = .ok (.iastore, 1) := by decide +kernel
theorem dX10_setsOut_90 : decode cX10_setsOut 90 = .ok (.aload_n 0, 1) := by decide +kernel
theorem dX10_setsOut_91 : decode cX10_setsOut 91 = .ok (.getfield 171, 3) := by decide +kernel
theorem dX10_setsOut_94 : decode cX10_setsOut 94 = .ok (.aload_n 0, 1) := by decide +kernel
theorem dX10_setsOut_95 : decode cX10_setsOut 95 = .ok (.getfield 310, 3) := by decide +kernel
theorem dX10_setsOut_98 : decode cX10_setsOut 98 = .ok (.iload_n 2, 1) := by decide +kernel
theorem dX10_setsOut_99 : decode cX10_setsOut 99 = .ok (.iastore, 1) := by decide +kernel
theorem dX10_setsOut_100 : decode cX10_setsOut 100 = .ok (.aload_n 0, 1) := by decide +kernel
theorem dX10_setsOut_101 : decode cX10_setsOut 101 = .ok (.getfield 174, 3) := by decide +kernel
theorem dX10_setsOut_104 : decode cX10_setsOut 104 = .ok (.aload_n 0, 1) := by decide +kernel
theorem dX10_setsOut_105 : decode cX10_setsOut 105 = .ok (.getfield 310, 3) := by decide +kernel
theorem dX10_setsOut_108 : decode cX10_setsOut 108 = .ok (.aload_n 0, 1) := by decide +kernel
theorem dX10_setsOut_109 : decode cX10_setsOut 109 = .ok (.getfield 310, 3) := by decide +kernel
theorem dX10_setsOut_112 : decode cX10_setsOut 112 = .ok (.iload 4, 2) := by decide +kernel
theorem dX10_setsOut_114 : decode cX10_setsOut 114 = .ok (.isub, 1) := by decide +kernel
theorem dX10_setsOut_115 : decode cX10_setsOut 115 = .ok (.iastore, 1) := by decide +kernel
theorem dX10_setsOut_116 : decode cX10_setsOut 116 = .ok (.aload_n 0, 1) := by decide +kernel
theorem dX10_setsOut_117 : decode cX10_setsOut 117 = .ok (.getfield 177, 3) := by decide +kernel
theorem dX10_setsOut_120 : decode cX10_setsOut 120 = .ok (.aload_n 0, 1) := by decide +kernel
theorem dX10_setsOut_121 : decode cX10_setsOut 121 = .ok (.getfield 310, 3) := by decide +kernel
theorem dX10_setsOut_124 : decode cX10_setsOut 124 = .ok (.aload_n 0, 1) := by decide +kernel
theorem dX10_setsOut_125 : decode cX10_setsOut 125 = .ok (.getfield 310, 3) := by decide +kernel
theorem dX10_setsOut_128 : decode cX10_setsOut 128 = .ok (.iload 4, 2) := by decide +kernel
theorem dX10_setsOut_130 : decode cX10_setsOut 130 = .ok (.isub, 1) := by decide +kernel
theorem dX10_setsOut_131 : decode cX10_setsOut 131 = .ok (.aload_n 0, 1) := by decide +kernel
theorem dX10_setsOut_132 : decode cX10_setsOut 132 = .ok (.getfield 162, 3) := by decide +kernel
theorem dX10_setsOut_135 : decode cX10_setsOut 135 = .ok (.iload_n 2, 1) := by decide +kernel
theorem dX10_setsOut_136 : decode cX10_setsOut 136 = .ok (.iaload, 1) := by decide +kernel
theorem dX10_setsOut_137 : decode cX10_setsOut 137 = .ok (.iconst 1, 1) := by decide +kernel
theorem dX10_setsOut_138 : decode cX10_setsOut 138 = .ok (.isub, 1) := by decide +kernel
theorem dX10_setsOut_139 : decode cX10_setsOut 139 = .ok (.if_icmp .ne 7, 3) := by decide +kernel
theorem dX10_setsOut_142 : decode cX10_setsOut 142 = .ok (.iconst 1, 1) := by decide +kernel
theorem dX10_setsOut_143 : decode cX10_setsOut 143 = .ok (.goto 4, 3) := by decide +kernel
theorem dX10_setsOut_146 : decode cX10_setsOut 146 = .ok (.iconst 0, 1) := by decide +kernel
theorem dX10_setsOut_147 : decode cX10_setsOut 147 = .ok (.bastore, 1) := by decide +kernel
theorem dX10_setsOut_148 : decode cX10_setsOut 148 = .ok (.aload_n 0, 1) := by decide +kernel
theorem dX10_setsOut_149 : decode cX10_setsOut 149 = .ok (.getfield 180, 3) := by decide +kernel
theorem dX10_setsOut_152 : decode cX10_setsOut 152 = .ok (.iconst 3, 1) := by decide +kernel
theorem dX10_setsOut_153 : decode cX10_setsOut 153 = .ok (.aload_n 0, 1) := by decide +kernel
theorem dX10_setsOut_154 : decode cX10_setsOut 154 = .ok (.getfield 310, 3) := by decide +kernel
theorem dX10_setsOut_157 : decode cX10_setsOut 157 = .ok (.imul, 1) := by decide +kernel
theorem dX10_setsOut_158 : decode cX10_setsOut 158 = .ok (.bipush 10, 2) := by decide +kernel
theorem dX10_setsOut_160 : decode cX10_setsOut 160 = .ok (.iastore, 1) := by decide +kernel
theorem dX10_setsOut_161 : decode cX10_setsOut 161 = .ok (.aload_n 0, 1) := by decide +kernel
theorem dX10_setsOut_162 : decode cX10_setsOut 162 = .ok (.getfield 180, 3) := by decide +kernel
theorem dX10_setsOut_165 : decode cX10_setsOut 165 = .ok (.iconst 3, 1) := by decide +kernel
theorem dX10_setsOut_166 : decode cX10_setsOut 166 = .ok (.aload_n 0, 1) := by decide +kernel
theorem dX10_setsOut_167 : decode cX10_setsOut 167 = .ok (.getfield 310, 3) := by decide +kernel
theorem dX10_setsOut_170 : decode cX10_setsOut 170 = .ok (.imul, 1) := by decide +kernel
theorem dX10_setsOut_171 : decode cX10_setsOut 171 = .ok (.iconst 1, 1) := by decide +kernel
theorem dX10_setsOut_172 : decode cX10_setsOut 172 = .ok (.iadd, 1) := by decide +kernel
theorem dX10_setsOut_173 : decode cX10_setsOut 173 = .ok (.bipush 50, 2) := by decide +kernel
theorem dX10_setsOut_175 : decode cX10_setsOut 175 = .ok (.iastore, 1) := by decide +kernel
theorem dX10_setsOut_176 : decode cX10_setsOut 176 = .ok (.aload_n 0, 1) := by decide +kernel
theorem dX10_setsOut_177 : decode cX10_setsOut 177 = .ok (.getfield 180, 3) := by decide +kernel
theorem dX10_setsOut_180 : decode cX10_setsOut 180 = .ok (.iconst 3, 1) := by decide +kernel
theorem dX10_setsOut_181 : decode cX10_setsOut 181 = .ok (.aload_n 0, 1) := by decide +kernel
theorem dX10_setsOut_182 : decode cX10_setsOut 182 = .ok (.getfield 310, 3) := by decide +kernel
theorem dX10_setsOut_185 : decode cX10_setsOut 185 = .ok (.imul, 1) := by decide +kernel
theorem dX10_setsOut_186 : decode cX10_setsOut 186 = .ok (.iconst 2, 1) := by decide +kernel
theorem dX10_setsOut_187 : decode cX10_setsOut 187 = .ok (.iadd, 1) := by decide +kernel
theorem dX10_setsOut_188 : decode cX10_setsOut 188 = .ok (.iconst 5, 1) := by decide +kernel
theorem dX10_setsOut_189 : decode cX10_setsOut 189 = .ok (.iastore, 1) := by decide +kernel
theorem dX10_setsOut_190 : decode cX10_setsOut 190 = .ok (.aload_n 0, 1) := by decide +kernel
theorem dX10_setsOut_191 : decode cX10_setsOut 191 = .ok (.dup, 1) := by decide +kernel
theorem dX10_setsOut_192 : decode cX10_setsOut 192 = .ok (.getfield 310, 3) := by decide +kernel
theorem dX10_setsOut_195 : decode cX10_setsOut 195 = .ok (.iconst 1, 1) := by decide +kernel
theorem dX10_setsOut_196 : decode cX10_setsOut 196 = .ok (.iadd, 1) := by decide +kernel
theorem dX10_setsOut_197 : decode cX10_setsOut 197 = .ok (.putfield 310, 3) := by decide +kernel
theorem dX10_setsOut_200 : decode cX10_setsOut 200 = .ok (.iinc 6 1, 3) := by decide +kernel
theorem dX10_setsOut_203 : decode cX10_setsOut 203 = .ok (.goto (-141), 3) := by decide +kernel
theorem dX10_setsOut_206 : decode cX10_setsOut 206 = .ok (.iinc 5 1, 3) := by decide +kernel
theorem dX10_setsOut_209 : decode cX10_setsOut 209 = .ok (.goto (-168), 3) := by decide +kernel
theorem dX10_setsOut_212 : decode cX10_setsOut 212 = .ok (.iinc 2 1, 3) := by decide +kernel
theorem dX10_setsOut_215 : decode cX10_setsOut 215 = .ok (.goto (-203), 3) := by decide +kernel
theorem dX10_setsOut_218 : decode cX10_setsOut 218 = .ok (.return_, 1) := by decide +kernel
theorem dX10_knows_0 : decode cX10_knows 0 = .ok (.aload_n 0, 1) := by decide +kernel
theorem dX10_knows_1 : decode cX10_knows 1 = .ok (.getfield 168, 3) := by decide +kernel
theorem dX10_knows_4 : decode cX10_knows 4 = .ok (.iload_n 2, 1) := by decide +kernel
theorem dX10_knows_5 : decode cX10_knows 5 = .ok (.iaload, 1) := by decide +kernel
theorem dX10_knows_6 : decode cX10_knows 6 = .ok (.istore_n 3, 1) := by decide +kernel
theorem dX10_knows_7 : decode cX10_knows 7 = .ok (.iload_n 2, 1) := by decide +kernel
theorem dX10_knows_8 : decode cX10_knows 8 = .ok (.istore 4, 2) := by decide +kernel
theorem dX10_knows_10 : decode cX10_knows 10 = .ok (.iload 4, 2) := by decide +kernel
theorem dX10_knows_12 : decode cX10_knows 12 = .ok (.ifCond .le 22, 3) := by decide +kernel
theorem dX10_knows_15 : decode cX10_knows 15 = .ok (.aload_n 0, 1) := by decide +kernel
theorem dX10_knows_16 : decode cX10_knows 16 = .ok (.getfield 168, 3) := by decide +kernel
theorem dX10_knows_19 : decode cX10_knows 19 = .ok (.iload 4, 2) := by decide +kernel
theorem dX10_knows_21 : decode cX10_knows 21 = .ok (.iconst 1, 1) := by decide +kernel
theorem dX10_knows_22 : decode cX10_knows 22 = .ok (.isub, 1) := by decide +kernel
theorem dX10_knows_23 : decode cX10_knows 23 = .ok (.iaload, 1) := by decide +kernel
theorem dX10_knows_24 : decode cX10_knows 24 = .ok (.iload_n 3, 1) := by decide +kernel
theorem dX10_knows_25 : decode cX10_knows 25 = .ok (.if_icmp .ne 9, 3) := by decide +kernel
theorem dX10_knows_28 : decode cX10_knows 28 = .ok (.iinc 4 (-1), 3) := by decide +kernel
theorem dX10_knows_31 : decode cX10_knows 31 = .ok (.goto (-21), 3) := by decide +kernel
theorem dX10_knows_34 : decode cX10_knows 34 = .ok (.iload_n 2, 1) := by decide +kernel
theorem dX10_knows_35 : decode cX10_knows 35 = .ok (.iload 4, 2) := by decide +kernel
theorem dX10_knows_37 : decode cX10_knows 37 = .ok (.isub, 1) := by decide +kernel
theorem dX10_knows_38 : decode cX10_knows 38 = .ok (.aload_n 0, 1) := by decide +kernel
theorem dX10_knows_39 : decode cX10_knows 39 = .ok (.getfield 126, 3) := by decide +kernel
theorem dX10_knows_42 : decode cX10_knows 42 = .ok (.bipush 16, 2) := by decide +kernel
theorem dX10_knows_44 : decode cX10_knows 44 = .ok (.iload_n 1, 1) := by decide +kernel
theorem dX10_knows_45 : decode cX10_knows 45 = .ok (.imul, 1) := by decide +kernel
theorem dX10_knows_46 : decode cX10_knows 46 = .ok (.iload_n 3, 1) := by decide +kernel
theorem dX10_knows_47 : decode cX10_knows 47 = .ok (.iadd, 1) := by decide +kernel
theorem dX10_knows_48 : decode cX10_knows 48 = .ok (.iaload, 1) := by decide +kernel
theorem dX10_knows_49 : decode cX10_knows 49 = .ok (.if_icmp .ne 7, 3) := by decide +kernel
theorem dX10_knows_52 : decode cX10_knows 52 = .ok (.iconst 1, 1) := by decide +kernel
theorem dX10_knows_53 : decode cX10_knows 53 = .ok (.goto 4, 3) := by decide +kernel
theorem dX10_knows_56 : decode cX10_knows 56 = .ok (.iconst 0, 1) := by decide +kernel
theorem dX10_knows_57 : decode cX10_knows 57 = .ok (.istore 5, 2) := by decide +kernel
theorem dX10_knows_59 : decode cX10_knows 59 = .ok (.aload_n 0, 1) := by decide +kernel
theorem dX10_knows_60 : decode cX10_knows 60 = .ok (.getfield 111, 3) := by decide +kernel
theorem dX10_knows_63 : decode cX10_knows 63 = .ok (.iconst 0, 1) := by decide +kernel
theorem dX10_knows_64 : decode cX10_knows 64 = .ok (.aload_n 0, 1) := by decide +kernel
theorem dX10_knows_65 : decode cX10_knows 65 = .ok (.getfield 180, 3) := by decide +kernel
theorem dX10_knows_68 : decode cX10_knows 68 = .ok (.iconst 3, 1) := by decide +kernel
theorem dX10_knows_69 : decode cX10_knows 69 = .ok (.iload_n 2, 1) := by decide +kernel
theorem dX10_knows_70 : decode cX10_knows 70 = .ok (.imul, 1) := by decide +kernel
theorem dX10_knows_71 : decode cX10_knows 71 = .ok (.iaload, 1) := by decide +kernel
theorem dX10_knows_72 : decode cX10_knows 72 = .ok (.iastore, 1) := by decide +kernel
theorem dX10_knows_73 : decode cX10_knows 73 = .ok (.aload_n 0, 1) := by decide +kernel
theorem dX10_knows_74 : decode cX10_knows 74 = .ok (.getfield 111, 3) := by decide +kernel
theorem dX10_knows_77 : decode cX10_knows 77 = .ok (.iconst 1, 1) := by decide +kernel
theorem dX10_knows_78 : decode cX10_knows 78 = .ok (.aload_n 0, 1) := by decide +kernel
theorem dX10_knows_79 : decode cX10_knows 79 = .ok (.getfield 180, 3) := by decide +kernel
theorem dX10_knows_82 : decode cX10_knows 82 = .ok (.iconst 3, 1) := by decide +kernel
theorem dX10_knows_83 : decode cX10_knows 83 = .ok (.iload_n 2, 1) := by decide +kernel
theorem dX10_knows_84 : decode cX10_knows 84 = .ok (.imul, 1) := by decide +kernel
theorem dX10_knows_85 : decode cX10_knows 85 = .ok (.iconst 1, 1) := by decide +kernel
theorem dX10_knows_86 : decode cX10_knows 86 = .ok (.iadd, 1) := by decide +kernel
theorem dX10_knows_87 : decode cX10_knows 87 = .ok (.iaload, 1) := by decide +kernel
theorem dX10_knows_88 : decode cX10_knows 88 = .ok (.iastore, 1) := by decide +kernel
theorem dX10_knows_89 : decode cX10_knows 89 = .ok (.aload_n 0, 1) := by decide +kernel
theorem dX10_knows_90 : decode cX10_knows 90 = .ok (.getfield 111, 3) := by decide +kernel
theorem dX10_knows_93 : decode cX10_knows 93 = .ok (.iconst 2, 1) := by decide +kernel
theorem dX10_knows_94 : decode cX10_knows 94 = .ok (.aload_n 0, 1) := by decide +kernel
end
section
theorem dX10_knows_95 : decode cX10_knows 95 = .ok (.getfield 180, 3) := by decide +kernel
theorem dX10_knows_98 : decode cX10_knows 98 = .ok (.iconst 3, 1) := by decide +kernel
theorem dX10_knows_99 : decode cX10_knows 99 = .ok (.iload_n 2, 1) := by decide +kernel
theorem dX10_knows_100 : decode cX10_knows 100 = .ok (.imul, 1) := by decide +kernel
theorem dX10_knows_101 : decode cX10_knows 101 = .ok (.iconst 2, 1) := by decide +kernel
theorem dX10_knows_102 : decode cX10_knows 102 = .ok (.iadd, 1) := by decide +kernel
theorem dX10_knows_103 : decode cX10_knows 103 = .ok (.iaload, 1) := by decide +kernel
theorem dX10_knows_104 : decode cX10_knows 104 = .ok (.iastore, 1) := by decide +kernel
theorem dX10_knows_105 : decode cX10_knows 105 = .ok (.aload_n 0, 1) := by decide +kernel
theorem dX10_knows_106 : decode cX10_knows 106 = .ok (.getfield 111, 3) := by decide +kernel
theorem dX10_knows_109 : decode cX10_knows 109 = .ok (.iconst 3, 1) := by decide +kernel
theorem dX10_knows_110 : decode cX10_knows 110 = .ok (.aload_n 0, 1) := by decide +kernel
theorem dX10_knows_111 : decode cX10_knows 111 = .ok (.getfield 174, 3) := by decide +kernel
theorem dX10_knows_114 : decode cX10_knows 114 = .ok (.iload_n 2, 1) := by decide +kernel
theorem dX10_knows_115 : decode cX10_knows 115 = .ok (.iaload, 1) := by decide +kernel
theorem dX10_knows_116 : decode cX10_knows 116 = .ok (.iastore, 1) := by decide +kernel
theorem dX10_knows_117 : decode cX10_knows 117 = .ok (.aload_n 0, 1) := by decide +kernel
theorem dX10_knows_118 : decode cX10_knows 118 = .ok (.getfield 111, 3) := by decide +kernel
theorem dX10_knows_121 : decode cX10_knows 121 = .ok (.iconst 4, 1) := by decide +kernel
theorem dX10_knows_122 : decode cX10_knows 122 = .ok (.aload_n 0, 1) := by decide +kernel
theorem dX10_knows_123 : decode cX10_knows 123 = .ok (.getfield 162, 3) := by decide +kernel
theorem dX10_knows_126 : decode cX10_knows 126 = .ok (.aload_n 0, 1) := by decide +kernel
theorem dX10_knows_127 : decode cX10_knows 127 = .ok (.getfield 171, 3) := by decide +kernel
theorem dX10_knows_130 : decode cX10_knows 130 = .ok (.iload_n 2, 1) := by decide +kernel
theorem dX10_knows_131 : decode cX10_knows 131 = .ok (.iaload, 1) := by decide +kernel
theorem dX10_knows_132 : decode cX10_knows 132 = .ok (.iaload, 1) := by decide +kernel
theorem dX10_knows_133 : decode cX10_knows 133 = .ok (.iconst 1, 1) := by decide +kernel
theorem dX10_knows_134 : decode cX10_knows 134 = .ok (.isub, 1) := by decide +kernel
theorem dX10_knows_135 : decode cX10_knows 135 = .ok (.aload_n 0, 1) := by decide +kernel
theorem dX10_knows_136 : decode cX10_knows 136 = .ok (.getfield 174, 3) := by decide +kernel
theorem dX10_knows_139 : decode cX10_knows 139 = .ok (.iload_n 2, 1) := by decide +kernel
theorem dX10_knows_140 : decode cX10_knows 140 = .ok (.iaload, 1) := by decide +kernel
theorem dX10_knows_141 : decode cX10_knows 141 = .ok (.isub, 1) := by decide +kernel
theorem dX10_knows_142 : decode cX10_knows 142 = .ok (.iastore, 1) := by decide +kernel
theorem dX10_knows_143 : decode cX10_knows 143 = .ok (.aload_n 0, 1) := by decide +kernel
theorem dX10_knows_144 : decode cX10_knows 144 = .ok (.getfield 111, 3) := by decide +kernel
theorem dX10_knows_147 : decode cX10_knows 147 = .ok (.iconst 5, 1) := by decide +kernel
theorem dX10_knows_148 : decode cX10_knows 148 = .ok (.iload 5, 2) := by decide +kernel
theorem dX10_knows_150 : decode cX10_knows 150 = .ok (.ifCond .eq 7, 3) := by decide +kernel
theorem dX10_knows_153 : decode cX10_knows 153 = .ok (.iconst 1, 1) := by decide +kernel
theorem dX10_knows_154 : decode cX10_knows 154 = .ok (.goto 4, 3) := by decide +kernel
theorem dX10_knows_157 : decode cX10_knows 157 = .ok (.iconst 0, 1) := by decide +kernel
theorem dX10_knows_158 : decode cX10_knows 158 = .ok (.iastore, 1) := by decide +kernel
theorem dX10_knows_159 : decode cX10_knows 159 = .ok (.aload_n 0, 1) := by decide +kernel
theorem dX10_knows_160 : decode cX10_knows 160 = .ok (.getfield 111, 3) := by decide +kernel
theorem dX10_knows_163 : decode cX10_knows 163 = .ok (.bipush 6, 2) := by decide +kernel
theorem dX10_knows_165 : decode cX10_knows 165 = .ok (.iload 5, 2) := by decide +kernel
theorem dX10_knows_167 : decode cX10_knows 167 = .ok (.ifCond .eq 16, 3) := by decide +kernel
theorem dX10_knows_170 : decode cX10_knows 170 = .ok (.aload_n 0, 1) := by decide +kernel
theorem dX10_knows_171 : decode cX10_knows 171 = .ok (.getfield 165, 3) := by decide +kernel
theorem dX10_knows_174 : decode cX10_knows 174 = .ok (.iload_n 3, 1) := by decide +kernel
theorem dX10_knows_175 : decode cX10_knows 175 = .ok (.baload, 1) := by decide +kernel
theorem dX10_knows_176 : decode cX10_knows 176 = .ok (.ifCond .eq 7, 3) := by decide +kernel
theorem dX10_knows_179 : decode cX10_knows 179 = .ok (.iconst 1, 1) := by decide +kernel
theorem dX10_knows_180 : decode cX10_knows 180 = .ok (.goto 4, 3) := by decide +kernel
theorem dX10_knows_183 : decode cX10_knows 183 = .ok (.iconst 0, 1) := by decide +kernel
theorem dX10_knows_184 : decode cX10_knows 184 = .ok (.iastore, 1) := by decide +kernel
theorem dX10_knows_185 : decode cX10_knows 185 = .ok (.aload_n 0, 1) := by decide +kernel
theorem dX10_knows_186 : decode cX10_knows 186 = .ok (.getfield 111, 3) := by decide +kernel
theorem dX10_knows_189 : decode cX10_knows 189 = .ok (.bipush 7, 2) := by decide +kernel
theorem dX10_knows_191 : decode cX10_knows 191 = .ok (.aload_n 0, 1) := by decide +kernel
theorem dX10_knows_192 : decode cX10_knows 192 = .ok (.getfield 132, 3) := by decide +kernel
theorem dX10_knows_195 : decode cX10_knows 195 = .ok (.bipush 16, 2) := by decide +kernel
theorem dX10_knows_197 : decode cX10_knows 197 = .ok (.iload_n 1, 1) := by decide +kernel
theorem dX10_knows_198 : decode cX10_knows 198 = .ok (.imul, 1) := by decide +kernel
theorem dX10_knows_199 : decode cX10_knows 199 = .ok (.iload_n 3, 1) := by decide +kernel
theorem dX10_knows_200 : decode cX10_knows 200 = .ok (.iadd, 1) := by decide +kernel
theorem dX10_knows_201 : decode cX10_knows 201 = .ok (.baload, 1) := by decide +kernel
theorem dX10_knows_202 : decode cX10_knows 202 = .ok (.ifCond .eq 7, 3) := by decide +kernel
theorem dX10_knows_205 : decode cX10_knows 205 = .ok (.iconst 1, 1) := by decide +kernel
theorem dX10_knows_206 : decode cX10_knows 206 = .ok (.goto 4, 3) := by decide +kernel
theorem dX10_knows_209 : decode cX10_knows 209 = .ok (.iconst 0, 1) := by decide +kernel
theorem dX10_knows_210 : decode cX10_knows 210 = .ok (.iastore, 1) := by decide +kernel
theorem dX10_knows_211 : decode cX10_knows 211 = .ok (.aload_n 0, 1) := by decide +kernel
theorem dX10_knows_212 : decode cX10_knows 212 = .ok (.getfield 111, 3) := by decide +kernel
theorem dX10_knows_215 : decode cX10_knows 215 = .ok (.bipush 8, 2) := by decide +kernel
theorem dX10_knows_217 : decode cX10_knows 217 = .ok (.aload_n 0, 1) := by decide +kernel
theorem dX10_knows_218 : decode cX10_knows 218 = .ok (.getfield 135, 3) := by decide +kernel
theorem dX10_knows_221 : decode cX10_knows 221 = .ok (.bipush 16, 2) := by decide +kernel
theorem dX10_knows_223 : decode cX10_knows 223 = .ok (.iload_n 1, 1) := by decide +kernel
theorem dX10_knows_224 : decode cX10_knows 224 = .ok (.imul, 1) := by decide +kernel
theorem dX10_knows_225 : decode cX10_knows 225 = .ok (.iload_n 3, 1) := by decide +kernel
theorem dX10_knows_226 : decode cX10_knows 226 = .ok (.iadd, 1) := by decide +kernel
theorem dX10_knows_227 : decode cX10_knows 227 = .ok (.baload, 1) := by decide +kernel
theorem dX10_knows_228 : decode cX10_knows 228 = .ok (.ifCond .eq 7, 3) := by decide +kernel
theorem dX10_knows_231 : decode cX10_knows 231 = .ok (.iconst 1, 1) := by decide +kernel
theorem dX10_knows_232 : decode cX10_knows 232 = .ok (.goto 4, 3) := by decide +kernel
theorem dX10_knows_235 : decode cX10_knows 235 = .ok (.iconst 0, 1) := by decide +kernel
theorem dX10_knows_236 : decode cX10_knows 236 = .ok (.iastore, 1) := by decide +kernel
theorem dX10_knows_237 : decode cX10_knows 237 = .ok (.aload_n 0, 1) := by decide +kernel
theorem dX10_knows_238 : decode cX10_knows 238 = .ok (.getfield 111, 3) := by decide +kernel
theorem dX10_knows_241 : decode cX10_knows 241 = .ok (.bipush 9, 2) := by decide +kernel
theorem dX10_knows_243 : decode cX10_knows 243 = .ok (.aload_n 0, 1) := by decide +kernel
theorem dX10_knows_244 : decode cX10_knows 244 = .ok (.getfield 171, 3) := by decide +kernel
theorem dX10_knows_247 : decode cX10_knows 247 = .ok (.iload_n 2, 1) := by decide +kernel
theorem dX10_knows_248 : decode cX10_knows 248 = .ok (.iaload, 1) := by decide +kernel
theorem dX10_knows_249 : decode cX10_knows 249 = .ok (.iastore, 1) := by decide +kernel
theorem dX10_knows_250 : decode cX10_knows 250 = .ok (.aload_n 0, 1) := by decide +kernel
theorem dX10_knows_251 : decode cX10_knows 251 = .ok (.getfield 111, 3) := by decide +kernel
theorem dX10_knows_254 : decode cX10_knows 254 = .ok (.bipush 10, 2) := by decide +kernel
theorem dX10_knows_256 : decode cX10_knows 256 = .ok (.aload_n 0, 1) := by decide +kernel
theorem dX10_knows_257 : decode cX10_knows 257 = .ok (.getfield 171, 3) := by decide +kernel
theorem dX10_knows_260 : decode cX10_knows 260 = .ok (.iload_n 2, 1) := by decide +kernel
theorem dX10_knows_261 : decode cX10_knows 261 = .ok (.iaload, 1) := by decide +kernel
theorem dX10_knows_262 : decode cX10_knows 262 = .ok (.aload_n 0, 1) := by decide +kernel
theorem dX10_knows_263 : decode cX10_knows 263 = .ok (.getfield 300, 3) := by decide +kernel
theorem dX10_knows_266 : decode cX10_knows 266 = .ok (.iconst 1, 1) := by decide +kernel
theorem dX10_knows_267 : decode cX10_knows 267 = .ok (.isub, 1) := by decide +kernel
theorem dX10_knows_268 : decode cX10_knows 268 = .ok (.if_icmp .ne 7, 3) := by decide +kernel
theorem dX10_knows_271 : decode cX10_knows 271 = .ok (.iconst 1, 1) := by decide +kernel
theorem dX10_knows_272 : decode cX10_knows 272 = .ok (.goto 4, 3) := by decide +kernel
theorem dX10_knows_275 : decode cX10_knows 275 = .ok (.iconst 0, 1) := by decide +kernel
theorem dX10_knows_276 : decode cX10_knows 276 = .ok (.iastore, 1) := by decide +kernel
theorem dX10_knows_277 : decode cX10_knows 277 = .ok (.aload_n 0, 1) := by decide +kernel
theorem dX10_knows_278 : decode cX10_knows 278 = .ok (.getfield 111, 3) := by decide +kernel
theorem dX10_knows_281 : decode cX10_knows 281 = .ok (.bipush 11, 2) := by decide +kernel
theorem dX10_knows_283 : decode cX10_knows 283 = .ok (.iload_n 3, 1) := by decide +kernel
theorem dX10_knows_284 : decode cX10_knows 284 = .ok (.iastore, 1) := by decide +kernel
theorem dX10_knows_285 : decode cX10_knows 285 = .ok (.aload_n 0, 1) := by decide +kernel
theorem dX10_knows_286 : decode cX10_knows 286 = .ok (.getfield 111, 3) := by decide +kernel
theorem dX10_knows_289 : decode cX10_knows 289 = .ok (.bipush 12, 2) := by decide +kernel
theorem dX10_knows_291 : decode cX10_knows 291 = .ok (.aload_n 0, 1) := by decide +kernel
theorem dX10_knows_292 : decode cX10_knows 292 = .ok (.getfield 138, 3) := by decide +kernel
theorem dX10_knows_295 : decode cX10_knows 295 = .ok (.iload_n 1, 1) := by decide +kernel
theorem dX10_knows_296 : decode cX10_knows 296 = .ok (.iaload, 1) := by decide +kernel
theorem dX10_knows_297 : decode cX10_knows 297 = .ok (.iastore, 1) := by decide +kernel
theorem dX10_knows_298 : decode cX10_knows 298 = .ok (.return_, 1) := by decide +kernel
theorem dX10_within_0 : decode cX10_within 0 = .ok (.iload_n 0, 1) := by decide +kernel
theorem dX10_within_1 : decode cX10_within 1 = .ok (.iload_n 1, 1) := by decide +kernel
theorem dX10_within_2 : decode cX10_within 2 = .ok (.if_icmp .ge 7, 3) := by decide +kernel
theorem dX10_within_5 : decode cX10_within 5 = .ok (.iload_n 1, 1) := by decide +kernel
theorem dX10_within_6 : decode cX10_within 6 = .ok (.goto 13, 3) := by decide +kernel
theorem dX10_within_9 : decode cX10_within 9 = .ok (.iload_n 0, 1) := by decide +kernel
theorem dX10_within_10 : decode cX10_within 10 = .ok (.iload_n 2, 1) := by decide +kernel
theorem dX10_within_11 : decode cX10_within 11 = .ok (.if_icmp .le 7, 3) := by decide +kernel
theorem dX10_within_14 : decode cX10_within 14 = .ok (.iload_n 2, 1) := by decide +kernel
theorem dX10_within_15 : decode cX10_within 15 = .ok (.goto 4, 3) := by decide +kernel
theorem dX10_within_18 : decode cX10_within 18 = .ok (.iload_n 0, 1) := by decide +kernel
theorem dX10_within_19 : decode cX10_within 19 = .ok (.ireturn, 1) := by decide +kernel
theorem dX10_works_0 : decode cX10_works 0 = .ok (.iconst 0, 1) := by decide +kernel
theorem dX10_works_1 : decode cX10_works 1 = .ok (.istore_n 3, 1) := by decide +kernel
theorem dX10_works_2 : decode cX10_works 2 = .ok (.iload_n 3, 1) := by decide +kernel
theorem dX10_works_3 : decode cX10_works 3 = .ok (.aload_n 0, 1) := by decide +kernel
theorem dX10_works_4 : decode cX10_works 4 = .ok (.getfield 310, 3) := by decide +kernel
theorem dX10_works_7 : decode cX10_works 7 = .ok (.if_icmp .ge 155, 3) := by decide +kernel
theorem dX10_works_10 : decode cX10_works 10 = .ok (.aload_n 0, 1) := by decide +kernel
theorem dX10_works_11 : decode cX10_works 11 = .ok (.iload_n 1, 1) := by decide +kernel
theorem dX10_works_12 : decode cX10_works 12 = .ok (.iload_n 3, 1) := by decide +kernel
theorem dX10_works_13 : decode cX10_works 13 = .ok (.invokevirtual 313, 3) := by decide +kernel
theorem dX10_works_16 : decode cX10_works 16 = .ok (.aload_n 0, 1) := by decide +kernel
theorem dX10_works_17 : decode cX10_works 17 = .ok (.getfield 87, 3) := by decide +kernel
theorem dX10_works_20 : decode cX10_works 20 = .ok (.iload_n 2, 1) := by decide +kernel
theorem dX10_works_21 : decode cX10_works 21 = .ok (.iaload, 1) := by decide +kernel
theorem dX10_works_22 : decode cX10_works 22 = .ok (.istore 4, 2) := by decide +kernel
theorem dX10_works_24 : decode cX10_works 24 = .ok (.aload_n 0, 1) := by decide +kernel
theorem dX10_works_25 : decode cX10_works 25 = .ok (.getfield 93, 3) := by decide +kernel
theorem dX10_works_28 : decode cX10_works 28 = .ok (.iload_n 2, 1) := by decide +kernel
theorem dX10_works_29 : decode cX10_works 29 = .ok (.iaload, 1) := by decide +kernel
theorem dX10_works_30 : decode cX10_works 30 = .ok (.ifCond .lt 25, 3) := by decide +kernel
theorem dX10_works_33 : decode cX10_works 33 = .ok (.aload_n 0, 1) := by decide +kernel
theorem dX10_works_34 : decode cX10_works 34 = .ok (.sipush 1060, 3) := by decide +kernel
theorem dX10_works_37 : decode cX10_works 37 = .ok (.aload_n 0, 1) := by decide +kernel
theorem dX10_works_38 : decode cX10_works 38 = .ok (.getfield 246, 3) := by decide +kernel
theorem dX10_works_41 : decode cX10_works 41 = .ok (.imul, 1) := by decide +kernel
theorem dX10_works_42 : decode cX10_works 42 = .ok (.aload_n 0, 1) := by decide +kernel
theorem dX10_works_43 : decode cX10_works 43 = .ok (.getfield 93, 3) := by decide +kernel
theorem dX10_works_46 : decode cX10_works 46 = .ok (.iload_n 2, 1) := by decide +kernel
theorem dX10_works_47 : decode cX10_works 47 = .ok (.iaload, 1) := by decide +kernel
theorem dX10_works_48 : decode cX10_works 48 = .ok (.iadd, 1) := by decide +kernel
theorem dX10_works_49 : decode cX10_works 49 = .ok (.invokevirtual 316, 3) := by decide +kernel
theorem dX10_works_52 : decode cX10_works 52 = .ok (.ifCond .eq 104, 3) := by decide +kernel
theorem dX10_works_55 : decode cX10_works 55 = .ok (.aload_n 0, 1) := by decide +kernel
theorem dX10_works_56 : decode cX10_works 56 = .ok (.sipush 1060, 3) := by decide +kernel
theorem dX10_works_59 : decode cX10_works 59 = .ok (.aload_n 0, 1) := by decide +kernel
theorem dX10_works_60 : decode cX10_works 60 = .ok (.getfield 246, 3) := by decide +kernel
theorem dX10_works_63 : decode cX10_works 63 = .ok (.imul, 1) := by decide +kernel
theorem dX10_works_64 : decode cX10_works 64 = .ok (.aload_n 0, 1) := by decide +kernel
theorem dX10_works_65 : decode cX10_works 65 = .ok (.getfield 90, 3) := by decide +kernel
theorem dX10_works_68 : decode cX10_works 68 = .ok (.iload_n 2, 1) := by decide +kernel
theorem dX10_works_69 : decode cX10_works 69 = .ok (.iaload, 1) := by decide +kernel
theorem dX10_works_70 : decode cX10_works 70 = .ok (.iadd, 1) := by decide +kernel
theorem dX10_works_71 : decode cX10_works 71 = .ok (.invokevirtual 316, 3) := by decide +kernel
theorem dX10_works_74 : decode cX10_works 74 = .ok (.aload_n 0, 1) := by decide +kernel
theorem dX10_works_75 : decode cX10_works 75 = .ok (.getfield 83, 3) := by decide +kernel
theorem dX10_works_78 : decode cX10_works 78 = .ok (.iload_n 2, 1) := by decide +kernel
theorem dX10_works_79 : decode cX10_works 79 = .ok (.baload, 1) := by decide +kernel
theorem dX10_works_80 : decode cX10_works 80 = .ok (.ifCond .eq 17, 3) := by decide +kernel
theorem dX10_works_83 : decode cX10_works 83 = .ok (.aload_n 0, 1) := by decide +kernel
theorem dX10_works_84 : decode cX10_works 84 = .ok (.getfield 180, 3) := by decide +kernel
theorem dX10_works_87 : decode cX10_works 87 = .ok (.iconst 3, 1) := by decide +kernel
theorem dX10_works_88 : decode cX10_works 88 = .ok (.iload_n 3, 1) := by decide +kernel
theorem dX10_works_89 : decode cX10_works 89 = .ok (.imul, 1) := by decide +kernel
theorem dX10_works_90 : decode cX10_works 90 = .ok (.iload 4, 2) := by decide +kernel
theorem dX10_works_92 : decode cX10_works 92 = .ok (.iadd, 1) := by decide +kernel
theorem dX10_works_93 : decode cX10_works 93 = .ok (.iaload, 1) := by decide +kernel
theorem dX10_works_94 : decode cX10_works 94 = .ok (.goto 4, 3) := by decide +kernel
theorem dX10_works_97 : decode cX10_works 97 = .ok (.iconst 0, 1) := by decide +kernel
theorem dX10_works_98 : decode cX10_works 98 = .ok (.iadd, 1) := by decide +kernel
theorem dX10_works_99 : decode cX10_works 99 = .ok (.istore 5, 2) := by decide +kernel
theorem dX10_works_101 : decode cX10_works 101 = .ok (.aload_n 0, 1) := by decide +kernel
theorem dX10_works_102 : decode cX10_works 102 = .ok (.getfield 180, 3) := by decide +kernel
theorem dX10_works_105 : decode cX10_works 105 = .ok (.iconst 3, 1) := by decide +kernel
theorem dX10_works_106 : decode cX10_works 106 = .ok (.iload_n 3, 1) := by decide +kernel
theorem dX10_works_107 : decode cX10_works 107 = .ok (.imul, 1) := by decide +kernel
theorem dX10_works_108 : decode cX10_works 108 = .ok (.iload 4, 2) := by decide +kernel
theorem dX10_works_110 : decode cX10_works 110 = .ok (.iadd, 1) := by decide +kernel
theorem dX10_works_111 : decode cX10_works 111 = .ok (.iload 4, 2) := by decide +kernel
theorem dX10_works_113 : decode cX10_works 113 = .ok (.ifCond .ne 14, 3) := by decide +kernel
theorem dX10_works_116 : decode cX10_works 116 = .ok (.iload 5, 2) := by decide +kernel
theorem dX10_works_118 : decode cX10_works 118 = .ok (.iconst 1, 1) := by decide +kernel
theorem dX10_works_119 : decode cX10_works 119 = .ok (.bipush 99, 2) := by decide +kernel
theorem dX10_works_121 : decode cX10_works 121 = .ok (.invokestatic 319, 3) := by decide +kernel
theorem dX10_works_124 : decode cX10_works 124 = .ok (.goto 31, 3) := by decide +kernel
theorem dX10_works_127 : decode cX10_works 127 = .ok (.iload 4, 2) := by decide +kernel
theorem dX10_works_129 : decode cX10_works 129 = .ok (.iconst 1, 1) := by decide +kernel
theorem dX10_works_130 : decode cX10_works 130 = .ok (.if_icmp .ne 17, 3) := by decide +kernel
theorem dX10_works_133 : decode cX10_works 133 = .ok (.iload 5, 2) := by decide +kernel
theorem dX10_works_135 : decode cX10_works 135 = .ok (.sipush (-999), 3) := by decide +kernel
theorem dX10_works_138 : decode cX10_works 138 = .ok (.sipush 999, 3) := by decide +kernel
theorem dX10_works_141 : decode cX10_works 141 = .ok (.invokestatic 319, 3) := by decide +kernel
theorem dX10_works_144 : decode cX10_works 144 = .ok (.goto 11, 3) := by decide +kernel
theorem dX10_works_147 : decode cX10_works 147 = .ok (.iload 5, 2) := by decide +kernel
theorem dX10_works_149 : decode cX10_works 149 = .ok (.iconst 0, 1) := by decide +kernel
theorem dX10_works_150 : decode cX10_works 150 = .ok (.bipush 9, 2) := by decide +kernel
theorem dX10_works_152 : decode cX10_works 152 = .ok (.invokestatic 319, 3) := by decide +kernel
theorem dX10_works_155 : decode cX10_works 155 = .ok (.iastore, 1) := by decide +kernel
theorem dX10_works_156 : decode cX10_works 156 = .ok (.iinc 3 1, 3) := by decide +kernel
theorem dX10_works_159 : decode cX10_works 159 = .ok (.goto (-157), 3) := by decide +kernel
theorem dX10_works_162 : decode cX10_works 162 = .ok (.return_, 1) := by decide +kernel
theorem dX10_handOf_0 : decode cX10_handOf 0 = .ok (.aload_n 0, 1) := by decide +kernel
theorem dX10_handOf_1 : decode cX10_handOf 1 = .ok (.getfield 141, 3) := by decide +kernel
theorem dX10_handOf_4 : decode cX10_handOf 4 = .ok (.iconst 3, 1) := by decide +kernel
theorem dX10_handOf_5 : decode cX10_handOf 5 = .ok (.bipush 80, 2) := by decide +kernel
theorem dX10_handOf_7 : decode cX10_handOf 7 = .ok (.iload_n 1, 1) := by decide +kernel
theorem dX10_handOf_8 : decode cX10_handOf 8 = .ok (.imul, 1) := by decide +kernel
theorem dX10_handOf_9 : decode cX10_handOf 9 = .ok (.iload_n 2, 1) := by decide +kernel
theorem dX10_handOf_10 : decode cX10_handOf 10 = .ok (.iadd, 1) := by decide +kernel
theorem dX10_handOf_11 : decode cX10_handOf 11 = .ok (.imul, 1) := by decide +kernel
theorem dX10_handOf_12 : decode cX10_handOf 12 = .ok (.iload_n 3, 1) := by decide +kernel
theorem dX10_handOf_13 : decode cX10_handOf 13 = .ok (.iadd, 1) := by decide +kernel
theorem dX10_handOf_14 : decode cX10_handOf 14 = .ok (.iaload, 1) := by decide +kernel
theorem dX10_handOf_15 : decode cX10_handOf 15 = .ok (.ireturn, 1) := by decide +kernel
theorem dX10_shapes_0 : decode cX10_shapes 0 = .ok (.aload_n 0, 1) := by decide +kernel
theorem dX10_shapes_1 : decode cX10_shapes 1 = .ok (.iload_n 1, 1) := by decide +kernel
theorem dX10_shapes_2 : decode cX10_shapes 2 = .ok (.invokevirtual 322, 3) := by decide +kernel
theorem dX10_shapes_5 : decode cX10_shapes 5 = .ok (.bipush 24, 2) := by decide +kernel
theorem dX10_shapes_7 : decode cX10_shapes 7 = .ok (.aload_n 0, 1) := by decide +kernel
theorem dX10_shapes_8 : decode cX10_shapes 8 = .ok (.getfield 246, 3) := by decide +kernel
theorem dX10_shapes_11 : decode cX10_shapes 11 = .ok (.imul, 1) := by decide +kernel
theorem dX10_shapes_12 : decode cX10_shapes 12 = .ok (.istore_n 2, 1) := by decide +kernel
theorem dX10_shapes_13 : decode cX10_shapes 13 = .ok (.iload_n 2, 1) := by decide +kernel
theorem dX10_shapes_14 : decode cX10_shapes 14 = .ok (.bipush 24, 2) := by decide +kernel
theorem dX10_shapes_16 : decode cX10_shapes 16 = .ok (.aload_n 0, 1) := by decide +kernel
theorem dX10_shapes_17 : decode cX10_shapes 17 = .ok (.getfield 246, 3) := by decide +kernel
theorem dX10_shapes_20 : decode cX10_shapes 20 = .ok (.imul, 1) := by decide +kernel
theorem dX10_shapes_21 : decode cX10_shapes 21 = .ok (.aload_n 0, 1) := by decide +kernel
theorem dX10_shapes_22 : decode cX10_shapes 22 = .ok (.getfield 80, 3) := by decide +kernel
theorem dX10_shapes_25 : decode cX10_shapes 25 = .ok (.aload_n 0, 1) := by decide +kernel
theorem dX10_shapes_26 : decode cX10_shapes 26 = .ok (.getfield 246, 3) := by decide +kernel
theorem dX10_shapes_29 : decode cX10_shapes 29 = .ok (.iaload, 1) := by decide +kernel
theorem dX10_shapes_30 : decode cX10_shapes 30 = .ok (.iadd, 1) := by decide +kernel
theorem dX10_shapes_31 : decode cX10_shapes 31 = .ok (.if_icmp .ge 15, 3) := by decide +kernel
theorem dX10_shapes_34 : decode cX10_shapes 34 = .ok (.aload_n 0, 1) := by decide +kernel
theorem dX10_shapes_35 : decode cX10_shapes 35 = .ok (.iload_n 1, 1) := by decide +kernel
theorem dX10_shapes_36 : decode cX10_shapes 36 = .ok (.iload_n 2, 1) := by decide +kernel
theorem dX10_shapes_37 : decode cX10_shapes 37 = .ok (.invokevirtual 325, 3) := by decide +kernel
theorem dX10_shapes_40 : decode cX10_shapes 40 = .ok (.iinc 2 1, 3) := by decide +kernel
theorem dX10_shapes_43 : decode cX10_shapes 43 = .ok (.goto (-30), 3) := by decide +kernel
theorem dX10_shapes_46 : decode cX10_shapes 46 = .ok (.iconst 0, 1) := by decide +kernel
theorem dX10_shapes_47 : decode cX10_shapes 47 = .ok (.istore_n 2, 1) := by decide +kernel
theorem dX10_shapes_48 : decode cX10_shapes 48 = .ok (.iload_n 2, 1) := by decide +kernel
theorem dX10_shapes_49 : decode cX10_shapes 49 = .ok (.aload_n 0, 1) := by decide +kernel
theorem dX10_shapes_50 : decode cX10_shapes 50 = .ok (.getfield 310, 3) := by decide +kernel
theorem dX10_shapes_53 : decode cX10_shapes 53 = .ok (.if_icmp .ge 101, 3) := by decide +kernel
theorem dX10_shapes_56 : decode cX10_shapes 56 = .ok (.iconst 0, 1) := by decide +kernel
theorem dX10_shapes_57 : decode cX10_shapes 57 = .ok (.istore_n 3, 1) := by decide +kernel
theorem dX10_shapes_58 : decode cX10_shapes 58 = .ok (.iload_n 3, 1) := by decide +kernel
theorem dX10_shapes_59 : decode cX10_shapes 59 = .ok (.iconst 3, 1) := by decide +kernel
theorem dX10_shapes_60 : decode cX10_shapes 60 = .ok (.if_icmp .ge 88, 3) := by decide +kernel
theorem dX10_shapes_63 : decode cX10_shapes 63 = .ok (.aload_n 0, 1) := by decide +kernel
theorem dX10_shapes_64 : decode cX10_shapes 64 = .ok (.getfield 180, 3) := by decide +kernel
theorem dX10_shapes_67 : decode cX10_shapes 67 = .ok (.iconst 3, 1) := by decide +kernel
theorem dX10_shapes_68 : decode cX10_shapes 68 = .ok (.iload_n 2, 1) := by decide +kernel
theorem dX10_shapes_69 : decode cX10_shapes 69 = .ok (.imul, 1) := by decide +kernel
theorem dX10_shapes_70 : decode cX10_shapes 70 = .ok (.iload_n 3, 1) := by decide +kernel
theorem dX10_shapes_71 : decode cX10_shapes 71 = .ok (.iadd, 1) := by decide +kernel
theorem dX10_shapes_72 : decode cX10_shapes 72 = .ok (.aload_n 0, 1) := by decide +kernel
theorem dX10_shapes_73 : decode cX10_shapes 73 = .ok (.iload_n 1, 1) := by decide +kernel
theorem dX10_shapes_74 : decode cX10_shapes 74 = .ok (.iload_n 2, 1) := by decide +kernel
theorem dX10_shapes_75 : decode cX10_shapes 75 = .ok (.iload_n 3, 1) := by decide +kernel
theorem dX10_shapes_76 : decode cX10_shapes 76 = .ok (.invokevirtual 328, 3) := by decide +kernel
theorem dX10_shapes_79 : decode cX10_shapes 79 = .ok (.ifCond .lt 13, 3) := by decide +kernel
theorem dX10_shapes_82 : decode cX10_shapes 82 = .ok (.aload_n 0, 1) := by decide +kernel
theorem dX10_shapes_83 : decode cX10_shapes 83 = .ok (.iload_n 1, 1) := by decide +kernel
theorem dX10_shapes_84 : decode cX10_shapes 84 = .ok (.iload_n 2, 1) := by decide +kernel
theorem dX10_shapes_85 : decode cX10_shapes 85 = .ok (.iload_n 3, 1) := by decide +kernel
theorem dX10_shapes_86 : decode cX10_shapes 86 = .ok (.invokevirtual 328, 3) := by decide +kernel
theorem dX10_shapes_89 : decode cX10_shapes 89 = .ok (.goto 52, 3) := by decide +kernel
theorem dX10_shapes_92 : decode cX10_shapes 92 = .ok (.iload_n 3, 1) := by decide +kernel
theorem dX10_shapes_93 : decode cX10_shapes 93 = .ok (.iconst 1, 1) := by decide +kernel
theorem dX10_shapes_94 : decode cX10_shapes 94 = .ok (.if_icmp .ne 37, 3) := by decide +kernel
theorem dX10_shapes_97 : decode cX10_shapes 97 = .ok (.aload_n 0, 1) := by decide +kernel
theorem dX10_shapes_98 : decode cX10_shapes 98 = .ok (.getfield 180, 3) := by decide +kernel
theorem dX10_shapes_101 : decode cX10_shapes 101 = .ok (.iconst 3, 1) := by decide +kernel
theorem dX10_shapes_102 : decode cX10_shapes 102 = .ok (.iload_n 2, 1) := by decide +kernel
theorem dX10_shapes_103 : decode cX10_shapes 103 = .ok (.imul, 1) := by decide +kernel
theorem dX10_shapes_104 : decode cX10_shapes 104 = .ok (.iconst 1, 1) := by decide +kernel
theorem dX10_shapes_105 : decode cX10_shapes 105 = .ok (.iadd, 1) := by decide +kernel
theorem dX10_shapes_106 : decode cX10_shapes 106 = .ok (.iaload, 1) := by decide +kernel
theorem dX10_shapes_107 : decode cX10_shapes 107 = .ok (.aload_n 0, 1) := by decide +kernel
theorem dX10_shapes_108 : decode cX10_shapes 108 = .ok (.getfield 71, 3) := by decide +kernel
theorem dX10_shapes_111 : decode cX10_shapes 111 = .ok (.aload_n 0, 1) := by decide +kernel
theorem dX10_shapes_112 : decode cX10_shapes 112 = .ok (.getfield 246, 3) := by decide +kernel
theorem dX10_shapes_115 : decode cX10_shapes 115 = .ok (.iaload, 1) := by decide +kernel
theorem dX10_shapes_116 : decode cX10_shapes 116 = .ok (.aload_n 0, 1) := by decide +kernel
theorem dX10_shapes_117 : decode cX10_shapes 117 = .ok (.getfield 74, 3) := by decide +kernel
theorem dX10_shapes_120 : decode cX10_shapes 120 = .ok (.aload_n 0, 1) := by decide +kernel
theorem dX10_shapes_121 : decode cX10_shapes 121 = .ok (.getfield 246, 3) := by decide +kernel
theorem dX10_shapes_124 : decode cX10_shapes 124 = .ok (.iaload, 1) := by decide +kernel
theorem dX10_shapes_125 : decode cX10_shapes 125 = .ok (.invokestatic 319, 3) := by decide +kernel
theorem dX10_shapes_128 : decode cX10_shapes 128 = .ok (.goto 13, 3) := by decide +kernel
theorem dX10_shapes_131 : decode cX10_shapes 131 = .ok (.aload_n 0, 1) := by decide +kernel
theorem dX10_shapes_132 : decode cX10_shapes 132 = .ok (.getfield 180, 3) := by decide +kernel
theorem dX10_shapes_135 : decode cX10_shapes 135 = .ok (.iconst 3, 1) := by decide +kernel
theorem dX10_shapes_136 : decode cX10_shapes 136 = .ok (.iload_n 2, 1) := by decide +kernel
theorem dX10_shapes_137 : decode cX10_shapes 137 = .ok (.imul, 1) := by decide +kernel
theorem dX10_shapes_138 : decode cX10_shapes 138 = .ok (.iload_n 3, 1) := by decide +kernel
theorem dX10_shapes_139 : decode cX10_shapes 139 = .ok (.iadd, 1) := by decide +kernel
theorem dX10_shapes_140 : decode cX10_shapes 140 = .ok (.iaload, 1) := by decide +kernel
theorem dX10_shapes_141 : decode cX10_shapes 141 = .ok (.iastore, 1) := by decide +kernel
theorem dX10_shapes_142 : decode cX10_shapes 142 = .ok (.iinc 3 1, 3) := by decide +kernel
theorem dX10_shapes_145 : decode cX10_shapes 145 = .ok (.goto (-87), 3) := by decide +kernel
theorem dX10_shapes_148 : decode cX10_shapes 148 = .ok (.iinc 2 1, 3) := by decide +kernel
theorem dX10_shapes_151 : decode cX10_shapes 151 = .ok (.goto (-103), 3) := by decide +kernel
theorem dX10_shapes_154 : decode cX10_shapes 154 = .ok (.iconst 1, 1) := by decide +kernel
theorem dX10_shapes_155 : decode cX10_shapes 155 = .ok (.istore_n 2, 1) := by decide +kernel
theorem dX10_shapes_156 : decode cX10_shapes 156 = .ok (.iload_n 2, 1) := by decide +kernel
theorem dX10_shapes_157 : decode cX10_shapes 157 = .ok (.aload_n 0, 1) := by decide +kernel
theorem dX10_shapes_158 : decode cX10_shapes 158 = .ok (.getfield 310, 3) := by decide +kernel
theorem dX10_shapes_161 : decode cX10_shapes 161 = .ok (.if_icmp .ge 18, 3) := by decide +kernel
theorem dX10_shapes_164 : decode cX10_shapes 164 = .ok (.aload_n 0, 1) := by decide +kernel
theorem dX10_shapes_165 : decode cX10_shapes 165 = .ok (.iload_n 1, 1) := by decide +kernel
theorem dX10_shapes_166 : decode cX10_shapes 166 = .ok (.iload_n 2, 1) := by decide +kernel
theorem dX10_shapes_167 : decode cX10_shapes 167 = .ok (.iload_n 2, 1) := by decide +kernel
theorem dX10_shapes_168 : decode cX10_shapes 168 = .ok (.iconst 1, 1) := by decide +kernel
theorem dX10_shapes_169 : decode cX10_shapes 169 = .ok (.isub, 1) := by decide +kernel
theorem dX10_shapes_170 : decode cX10_shapes 170 = .ok (.invokevirtual 331, 3) := by decide +kernel
theorem dX10_shapes_173 : decode cX10_shapes 173 = .ok (.iinc 2 1, 3) := by decide +kernel
theorem dX10_shapes_176 : decode cX10_shapes 176 = .ok (.goto (-20), 3) := by decide +kernel
theorem dX10_shapes_179 : decode cX10_shapes 179 = .ok (.aload_n 0, 1) := by decide +kernel
theorem dX10_shapes_180 : decode cX10_shapes 180 = .ok (.getfield 310, 3) := by decide +kernel
theorem dX10_shapes_183 : decode cX10_shapes 183 = .ok (.iconst 2, 1) := by decide +kernel
theorem dX10_shapes_184 : decode cX10_shapes 184 = .ok (.isub, 1) := by decide +kernel
theorem dX10_shapes_185 : decode cX10_shapes 185 = .ok (.istore_n 2, 1) := by decide +kernel
theorem dX10_shapes_186 : decode cX10_shapes 186 = .ok (.iload_n 2, 1) := by decide +kernel
theorem dX10_shapes_187 : decode cX10_shapes 187 = .ok (.ifCond .lt 18, 3) := by decide +kernel
theorem dX10_shapes_190 : decode cX10_shapes 190 = .ok (.aload_n 0, 1) := by decide +kernel
theorem dX10_shapes_191 : decode cX10_shapes 191 = .ok (.iload_n 1, 1) := by decide +kernel
theorem dX10_shapes_192 : decode cX10_shapes 192 = .ok (.iload_n 2, 1) := by decide +kernel
theorem dX10_shapes_193 : decode cX10_shapes 193 = .ok (.iload_n 2, 1) := by decide +kernel
theorem dX10_shapes_194 : decode cX10_shapes 194 = .ok (.iconst 1, 1) := by decide +kernel
theorem dX10_shapes_195 : decode cX10_shapes 195 = .ok (.iadd, 1) := by decide +kernel
theorem dX10_shapes_196 : decode cX10_shapes 196 = .ok (.invokevirtual 331, 3) := by decide +kernel
theorem dX10_shapes_199 : decode cX10_shapes 199 = .ok (.iinc 2 (-1), 3) := by decide +kernel
theorem dX10_shapes_202 : decode cX10_shapes 202 = .ok (.goto (-16), 3) := by decide +kernel
theorem dX10_shapes_205 : decode cX10_shapes 205 = .ok (.return_, 1) := by decide +kernel
theorem dX10_nears_0 : decode cX10_nears 0 = .ok (.aload_n 0, 1) := by decide +kernel
theorem dX10_nears_1 : decode cX10_nears 1 = .ok (.iload_n 1, 1) := by decide +kernel
theorem dX10_nears_2 : decode cX10_nears 2 = .ok (.iload_n 2, 1) := by decide +kernel
theorem dX10_nears_3 : decode cX10_nears 3 = .ok (.iconst 1, 1) := by decide +kernel
theorem dX10_nears_4 : decode cX10_nears 4 = .ok (.invokevirtual 328, 3) := by decide +kernel
theorem dX10_nears_7 : decode cX10_nears 7 = .ok (.ifCond .ge 62, 3) := by decide +kernel
theorem dX10_nears_10 : decode cX10_nears 10 = .ok (.aload_n 0, 1) := by decide +kernel
theorem dX10_nears_11 : decode cX10_nears 11 = .ok (.getfield 180, 3) := by decide +kernel
theorem dX10_nears_14 : decode cX10_nears 14 = .ok (.iconst 3, 1) := by decide +kernel
theorem dX10_nears_15 : decode cX10_nears 15 = .ok (.iload_n 3, 1) := by decide +kernel
theorem dX10_nears_16 : decode cX10_nears 16 = .ok (.imul, 1) := by decide +kernel
theorem dX10_nears_17 : decode cX10_nears 17 = .ok (.iconst 1, 1) := by decide +kernel
theorem dX10_nears_18 : decode cX10_nears 18 = .ok (.iadd, 1) := by decide +kernel
theorem dX10_nears_19 : decode cX10_nears 19 = .ok (.iaload, 1) := by decide +kernel
theorem dX10_nears_20 : decode cX10_nears 20 = .ok (.istore 4, 2) := by decide +kernel
theorem dX10_nears_22 : decode cX10_nears 22 = .ok (.aload_n 0, 1) := by decide +kernel
theorem dX10_nears_23 : decode cX10_nears 23 = .ok (.getfield 180, 3) := by decide +kernel
theorem dX10_nears_26 : decode cX10_nears 26 = .ok (.iconst 3, 1) := by decide +kernel
theorem dX10_nears_27 : decode cX10_nears 27 = .ok (.iload_n 2, 1) := by decide +kernel
theorem dX10_nears_28 : decode cX10_nears 28 = .ok (.imul, 1) := by decide +kernel
theorem dX10_nears_29 : decode cX10_nears 29 = .ok (.iconst 1, 1) := by decide +kernel
theorem dX10_nears_30 : decode cX10_nears 30 = .ok (.iadd, 1) := by decide +kernel
theorem dX10_nears_31 : decode cX10_nears 31 = .ok (.aload_n 0, 1) := by decide +kernel
theorem dX10_nears_32 : decode cX10_nears 32 = .ok (.getfield 180, 3) := by decide +kernel
theorem dX10_nears_35 : decode cX10_nears 35 = .ok (.iconst 3, 1) := by decide +kernel
theorem dX10_nears_36 : decode cX10_nears 36 = .ok (.iload_n 2, 1) := by decide +kernel
theorem dX10_nears_37 : decode cX10_nears 37 = .ok (.imul, 1) := by decide +kernel
theorem dX10_nears_38 : decode cX10_nears 38 = .ok (.iconst 1, 1) := by decide +kernel
theorem dX10_nears_39 : decode cX10_nears 39 = .ok (.iadd, 1) := by decide +kernel
theorem dX10_nears_40 : decode cX10_nears 40 = .ok (.iaload, 1) := by decide +kernel
theorem dX10_nears_41 : decode cX10_nears 41 = .ok (.iload 4, 2) := by decide +kernel
theorem dX10_nears_43 : decode cX10_nears 43 = .ok (.aload_n 0, 1) := by decide +kernel
theorem dX10_nears_44 : decode cX10_nears 44 = .ok (.getfield 77, 3) := by decide +kernel
theorem dX10_nears_47 : decode cX10_nears 47 = .ok (.aload_n 0, 1) := by decide +kernel
theorem dX10_nears_48 : decode cX10_nears 48 = .ok (.getfield 246, 3) := by decide +kernel
theorem dX10_nears_51 : decode cX10_nears 51 = .ok (.iaload, 1) := by decide +kernel
theorem dX10_nears_52 : decode cX10_nears 52 = .ok (.isub, 1) := by decide +kernel
theorem dX10_nears_53 : decode cX10_nears 53 = .ok (.iload 4, 2) := by decide +kernel
theorem dX10_nears_55 : decode cX10_nears 55 = .ok (.aload_n 0, 1) := by decide +kernel
theorem dX10_nears_56 : decode cX10_nears 56 = .ok (.getfield 77, 3) := by decide +kernel
theorem dX10_nears_59 : decode cX10_nears 59 = .ok (.aload_n 0, 1) := by decide +kernel
theorem dX10_nears_60 : decode cX10_nears 60 = .ok (.getfield 246, 3) := by decide +kernel
theorem dX10_nears_63 : decode cX10_nears 63 = .ok (.iaload, 1) := by decide +kernel
theorem dX10_nears_64 : decode cX10_nears 64 = .ok (.iadd, 1) := by decide +kernel
theorem dX10_nears_65 : decode cX10_nears 65 = .ok (.invokestatic 319, 3) := by decide +kernel
theorem dX10_nears_68 : decode cX10_nears 68 = .ok (.iastore, 1) := by decide +kernel
theorem dX10_nears_69 : decode cX10_nears 69 = .ok (.return_, 1) := by decide +kernel
theorem dX10_told_0 : decode cX10_told 0 = .ok (.iconst 0, 1) := by decide +kernel
theorem dX10_told_1 : decode cX10_told 1 = .ok (.istore_n 2, 1) := by decide +kernel
theorem dX10_told_2 : decode cX10_told 2 = .ok (.iconst 0, 1) := by decide +kernel
theorem dX10_told_3 : decode cX10_told 3 = .ok (.istore_n 3, 1) := by decide +kernel
theorem dX10_told_4 : decode cX10_told 4 = .ok (.iload_n 3, 1) := by decide +kernel
theorem dX10_told_5 : decode cX10_told 5 = .ok (.iload_n 1, 1) := by decide +kernel
theorem dX10_told_6 : decode cX10_told 6 = .ok (.if_icmp .ge 20, 3) := by decide +kernel
theorem dX10_told_9 : decode cX10_told 9 = .ok (.iload_n 2, 1) := by decide +kernel
theorem dX10_told_10 : decode cX10_told 10 = .ok (.aload_n 0, 1) := by decide +kernel
theorem dX10_told_11 : decode cX10_told 11 = .ok (.getfield 180, 3) := by decide +kernel
theorem dX10_told_14 : decode cX10_told 14 = .ok (.iconst 3, 1) := by decide +kernel
theorem dX10_told_15 : decode cX10_told 15 = .ok (.iload_n 3, 1) := by decide +kernel
theorem dX10_told_16 : decode cX10_told 16 = .ok (.imul, 1) := by decide +kernel
theorem dX10_told_17 : decode cX10_told 17 = .ok (.iaload, 1) := by decide +kernel
theorem dX10_told_18 : decode cX10_told 18 = .ok (.iadd, 1) := by decide +kernel
theorem dX10_told_19 : decode cX10_told 19 = .ok (.istore_n 2, 1) := by decide +kernel
theorem dX10_told_20 : decode cX10_told 20 = .ok (.iinc 3 1, 3) := by decide +kernel
theorem dX10_told_23 : decode cX10_told 23 = .ok (.goto (-19), 3) := by decide +kernel
theorem dX10_told_26 : decode cX10_told 26 = .ok (.iload_n 2, 1) := by decide +kernel
theorem dX10_told_27 : decode cX10_told 27 = .ok (.aload_n 0, 1) := by decide +kernel
theorem dX10_told_28 : decode cX10_told 28 = .ok (.getfield 180, 3) := by decide +kernel
theorem dX10_told_31 : decode cX10_told 31 = .ok (.iconst 3, 1) := by decide +kernel
theorem dX10_told_32 : decode cX10_told 32 = .ok (.iload_n 1, 1) := by decide +kernel
theorem dX10_told_33 : decode cX10_told 33 = .ok (.imul, 1) := by decide +kernel
theorem dX10_told_34 : decode cX10_told 34 = .ok (.iaload, 1) := by decide +kernel
theorem dX10_told_35 : decode cX10_told 35 = .ok (.iadd, 1) := by decide +kernel
theorem dX10_told_36 : decode cX10_told 36 = .ok (.aload_n 0, 1) := by decide +kernel
theorem dX10_told_37 : decode cX10_told 37 = .ok (.getfield 147, 3) := by decide +kernel
theorem dX10_told_40 : decode cX10_told 40 = .ok (.imul, 1) := by decide +kernel
theorem dX10_told_41 : decode cX10_told 41 = .ok (.aload_n 0, 1) := by decide +kernel
theorem dX10_told_42 : decode cX10_told 42 = .ok (.getfield 150, 3) := by decide +kernel
theorem dX10_told_45 : decode cX10_told 45 = .ok (.idiv, 1) := by decide +kernel
theorem dX10_told_46 : decode cX10_told 46 = .ok (.iload_n 2, 1) := by decide +kernel
theorem dX10_told_47 : decode cX10_told 47 = .ok (.aload_n 0, 1) := by decide +kernel
theorem dX10_told_48 : decode cX10_told 48 = .ok (.getfield 147, 3) := by decide +kernel
theorem dX10_told_51 : decode cX10_told 51 = .ok (.imul, 1) := by decide +kernel
theorem dX10_told_52 : decode cX10_told 52 = .ok (.aload_n 0, 1) := by decide +kernel
theorem dX10_told_53 : decode cX10_told 53 = .ok (.getfield 150, 3) := by decide +kernel
theorem dX10_told_56 : decode cX10_told 56 = .ok (.idiv, 1) := by decide +kernel
theorem dX10_told_57 : decode cX10_told 57 = .ok (.isub, 1) := by decide +kernel
theorem dX10_told_58 : decode cX10_told 58 = .ok (.ireturn, 1) := by decide +kernel
theorem dX10_shape_0 : decode cX10_shape 0 = .ok (.aload_n 0, 1) := by decide +kernel
theorem dX10_shape_1 : decode cX10_shape 1 = .ok (.iload_n 1, 1) := by decide +kernel
theorem dX10_shape_2 : decode cX10_shape 2 = .ok (.ifCond .lt 28, 3) := by decide +kernel
theorem dX10_shape_5 : decode cX10_shape 5 = .ok (.iload_n 1, 1) := by decide +kernel
theorem dX10_shape_6 : decode cX10_shape 6 = .ok (.aload_n 0, 1) := by decide +kernel
theorem dX10_shape_7 : decode cX10_shape 7 = .ok (.aload_n 0, 1) := by decide +kernel
theorem dX10_shape_8 : decode cX10_shape 8 = .ok (.getfield 283, 3) := by decide +kernel
theorem dX10_shape_11 : decode cX10_shape 11 = .ok (.invokevirtual 293, 3) := by decide +kernel
theorem dX10_shape_14 : decode cX10_shape 14 = .ok (.if_icmp .ge 16, 3) := by decide +kernel
theorem dX10_shape_17 : decode cX10_shape 17 = .ok (.iload_n 2, 1) := by decide +kernel
theorem dX10_shape_18 : decode cX10_shape 18 = .ok (.ifCond .lt 12, 3) := by decide +kernel
theorem dX10_shape_21 : decode cX10_shape 21 = .ok (.iload_n 2, 1) := by decide +kernel
theorem dX10_shape_22 : decode cX10_shape 22 = .ok (.iconst 5, 1) := by decide +kernel
theorem dX10_shape_23 : decode cX10_shape 23 = .ok (.if_icmp .gt 7, 3) := by decide +kernel
theorem dX10_shape_26 : decode cX10_shape 26 = .ok (.iconst 0, 1) := by decide +kernel
theorem dX10_shape_27 : decode cX10_shape 27 = .ok (.goto 4, 3) := by decide +kernel
theorem dX10_shape_30 : decode cX10_shape 30 = .ok (.iconst 1, 1) := by decide +kernel
theorem dX10_shape_31 : decode cX10_shape 31 = .ok (.putfield 1, 3) := by decide +kernel
theorem dX10_shape_34 : decode cX10_shape 34 = .ok (.aload_n 0, 1) := by decide +kernel
theorem dX10_shape_35 : decode cX10_shape 35 = .ok (.getfield 1, 3) := by decide +kernel
theorem dX10_shape_38 : decode cX10_shape 38 = .ok (.ifCond .le 5, 3) := by decide +kernel
theorem dX10_shape_41 : decode cX10_shape 41 = .ok (.iconst 0, 1) := by decide +kernel
theorem dX10_shape_42 : decode cX10_shape 42 = .ok (.ireturn, 1) := by decide +kernel
theorem dX10_shape_43 : decode cX10_shape 43 = .ok (.aload_n 0, 1) := by decide +kernel
theorem dX10_shape_44 : decode cX10_shape 44 = .ok (.aload_n 0, 1) := by decide +kernel
theorem dX10_shape_45 : decode cX10_shape 45 = .ok (.getfield 283, 3) := by decide +kernel
theorem dX10_shape_48 : decode cX10_shape 48 = .ok (.invokevirtual 335, 3) := by decide +kernel
theorem dX10_shape_51 : decode cX10_shape 51 = .ok (.iload_n 2, 1) := by decide +kernel
theorem dX10_shape_52 : decode cX10_shape 52 = .ok (.ifCond .ne 11, 3) := by decide +kernel
theorem dX10_shape_55 : decode cX10_shape 55 = .ok (.aload_n 0, 1) := by decide +kernel
theorem dX10_shape_56 : decode cX10_shape 56 = .ok (.iload_n 1, 1) := by decide +kernel
theorem dX10_shape_57 : decode cX10_shape 57 = .ok (.invokevirtual 338, 3) := by decide +kernel
theorem dX10_shape_60 : decode cX10_shape 60 = .ok (.goto 75, 3) := by decide +kernel
theorem dX10_shape_63 : decode cX10_shape 63 = .ok (.iload_n 2, 1) := by decide +kernel
theorem dX10_shape_64 : decode cX10_shape 64 = .ok (.iconst 1, 1) := by decide +kernel
theorem dX10_shape_65 : decode cX10_shape 65 = .ok (.if_icmp .ne 16, 3) := by decide +kernel
theorem dX10_shape_68 : decode cX10_shape 68 = .ok (.aload_n 0, 1) := by decide +kernel
theorem dX10_shape_69 : decode cX10_shape 69 = .ok (.getfield 180, 3) := by decide +kernel
theorem dX10_shape_72 : decode cX10_shape 72 = .ok (.iconst 3, 1) := by decide +kernel
theorem dX10_shape_73 : decode cX10_shape 73 = .ok (.iload_n 1, 1) := by decide +kernel
theorem dX10_shape_74 : decode cX10_shape 74 = .ok (.imul, 1) := by decide +kernel
theorem dX10_shape_75 : decode cX10_shape 75 = .ok (.iconst 1, 1) := by decide +kernel
theorem dX10_shape_76 : decode cX10_shape 76 = .ok (.iadd, 1) := by decide +kernel
theorem dX10_shape_77 : decode cX10_shape 77 = .ok (.iaload, 1) := by decide +kernel
theorem dX10_shape_78 : decode cX10_shape 78 = .ok (.goto 57, 3) := by decide +kernel
theorem dX10_shape_81 : decode cX10_shape 81 = .ok (.iload_n 2, 1) := by decide +kernel
theorem dX10_shape_82 : decode cX10_shape 82 = .ok (.iconst 2, 1) := by decide +kernel
theorem dX10_shape_83 : decode cX10_shape 83 = .ok (.if_icmp .ne 16, 3) := by decide +kernel
theorem dX10_shape_86 : decode cX10_shape 86 = .ok (.aload_n 0, 1) := by decide +kernel
theorem dX10_shape_87 : decode cX10_shape 87 = .ok (.getfield 180, 3) := by decide +kernel
theorem dX10_shape_90 : decode cX10_shape 90 = .ok (.iconst 3, 1) := by decide +kernel
theorem dX10_shape_91 : decode cX10_shape 91 = .ok (.iload_n 1, 1) := by decide +kernel
theorem dX10_shape_92 : decode cX10_shape 92 = .ok (.imul, 1) := by decide +kernel
theorem dX10_shape_93 : decode cX10_shape 93 = .ok (.iconst 2, 1) := by decide +kernel
theorem dX10_shape_94 : decode cX10_shape 94 = .ok (.iadd, 1) := by decide +kernel
theorem dX10_shape_95 : decode cX10_shape 95 = .ok (.iaload, 1) := by decide +kernel
theorem dX10_shape_96 : decode cX10_shape 96 = .ok (.goto 39, 3) := by decide +kernel
theorem dX10_shape_99 : decode cX10_shape 99 = .ok (.iload_n 2, 1) := by decide +kernel
theorem dX10_shape_100 : decode cX10_shape 100 = .ok (.iconst 3, 1) := by decide +kernel
theorem dX10_shape_101 : decode cX10_shape 101 = .ok (.if_icmp .ne 12, 3) := by decide +kernel
theorem dX10_shape_104 : decode cX10_shape 104 = .ok (.aload_n 0, 1) := by decide +kernel
theorem dX10_shape_105 : decode cX10_shape 105 = .ok (.getfield 168, 3) := by decide +kernel
theorem dX10_shape_108 : decode cX10_shape 108 = .ok (.iload_n 1, 1) := by decide +kernel
theorem dX10_shape_109 : decode cX10_shape 109 = .ok (.iaload, 1) := by decide +kernel
theorem dX10_shape_110 : decode cX10_shape 110 = .ok (.goto 25, 3) := by decide +kernel
theorem dX10_shape_113 : decode cX10_shape 113 = .ok (.iload_n 2, 1) := by decide +kernel
theorem dX10_shape_114 : decode cX10_shape 114 = .ok (.iconst 4, 1) := by decide +kernel
theorem dX10_shape_115 : decode cX10_shape 115 = .ok (.if_icmp .ne 12, 3) := by decide +kernel
theorem dX10_shape_118 : decode cX10_shape 118 = .ok (.aload_n 0, 1) := by decide +kernel
theorem dX10_shape_119 : decode cX10_shape 119 = .ok (.getfield 171, 3) := by decide +kernel
theorem dX10_shape_122 : decode cX10_shape 122 = .ok (.iload_n 1, 1) := by decide +kernel
theorem dX10_shape_123 : decode cX10_shape 123 = .ok (.iaload, 1) := by decide +kernel
theorem dX10_shape_124 : decode cX10_shape 124 = .ok (.goto 11, 3) := by decide +kernel
theorem dX10_shape_127 : decode cX10_shape 127 = .ok (.aload_n 0, 1) := by decide +kernel
theorem dX10_shape_128 : decode cX10_shape 128 = .ok (.getfield 180, 3) := by decide +kernel
theorem dX10_shape_131 : decode cX10_shape 131 = .ok (.iconst 3, 1) := by decide +kernel
theorem dX10_shape_132 : decode cX10_shape 132 = .ok (.iload_n 1, 1) := by decide +kernel
theorem dX10_shape_133 : decode cX10_shape 133 = .ok (.imul, 1) := by decide +kernel
theorem dX10_shape_134 : decode cX10_shape 134 = .ok (.iaload, 1) := by decide +kernel
theorem dX10_shape_135 : decode cX10_shape 135 = .ok (.ireturn, 1) := by decide +kernel
theorem dX10_fit_0 : decode cX10_fit 0 = .ok (.aload_n 0, 1) := by decide +kernel
theorem dX10_fit_1 : decode cX10_fit 1 = .ok (.iconst 0, 1) := by decide +kernel
theorem dX10_fit_2 : decode cX10_fit 2 = .ok (.putfield 1, 3) := by decide +kernel
theorem dX10_fit_5 : decode cX10_fit 5 = .ok (.aload_n 0, 1) := by decide +kernel
theorem dX10_fit_6 : decode cX10_fit 6 = .ok (.aload_n 0, 1) := by decide +kernel
theorem dX10_fit_7 : decode cX10_fit 7 = .ok (.getfield 283, 3) := by decide +kernel
theorem dX10_fit_10 : decode cX10_fit 10 = .ok (.invokevirtual 335, 3) := by decide +kernel
theorem dX10_fit_13 : decode cX10_fit 13 = .ok (.iconst 1, 1) := by decide +kernel
theorem dX10_fit_14 : decode cX10_fit 14 = .ok (.istore_n 1, 1) := by decide +kernel
theorem dX10_fit_15 : decode cX10_fit 15 = .ok (.iconst 1, 1) := by decide +kernel
theorem dX10_fit_16 : decode cX10_fit 16 = .ok (.istore_n 2, 1) := by decide +kernel
theorem dX10_fit_17 : decode cX10_fit 17 = .ok (.iload_n 2, 1) := by decide +kernel
theorem dX10_fit_18 : decode cX10_fit 18 = .ok (.aload_n 0, 1) := by decide +kernel
theorem dX10_fit_19 : decode cX10_fit 19 = .ok (.getfield 310, 3) := by decide +kernel
theorem dX10_fit_22 : decode cX10_fit 22 = .ok (.if_icmp .ge 68, 3) := by decide +kernel
theorem dX10_fit_25 : decode cX10_fit 25 = .ok (.aload_n 0, 1) := by decide +kernel
theorem dX10_fit_26 : decode cX10_fit 26 = .ok (.getfield 180, 3) := by decide +kernel
theorem dX10_fit_29 : decode cX10_fit 29 = .ok (.iconst 3, 1) := by decide +kernel
theorem dX10_fit_30 : decode cX10_fit 30 = .ok (.iload_n 2, 1) := by decide +kernel
theorem dX10_fit_31 : decode cX10_fit 31 = .ok (.imul, 1) := by decide +kernel
theorem dX10_fit_32 : decode cX10_fit 32 = .ok (.iconst 1, 1) := by decide +kernel
theorem dX10_fit_33 : decode cX10_fit 33 = .ok (.iadd, 1) := by decide +kernel
theorem dX10_fit_34 : decode cX10_fit 34 = .ok (.iaload, 1) := by decide +kernel
theorem dX10_fit_35 : decode cX10_fit 35 = .ok (.aload_n 0, 1) := by decide +kernel
theorem dX10_fit_36 : decode cX10_fit 36 = .ok (.getfield 180, 3) := by decide +kernel
theorem dX10_fit_39 : decode cX10_fit 39 = .ok (.iconst 3, 1) := by decide +kernel
theorem dX10_fit_40 : decode cX10_fit 40 = .ok (.iload_n 2, 1) := by decide +kernel
theorem dX10_fit_41 : decode cX10_fit 41 = .ok (.imul, 1) := by decide +kernel
theorem dX10_fit_42 : decode cX10_fit 42 = .ok (.iconst 2, 1) := by decide +kernel
theorem dX10_fit_43 : decode cX10_fit 43 = .ok (.isub, 1) := by decide +kernel
theorem dX10_fit_44 : decode cX10_fit 44 = .ok (.iaload, 1) := by decide +kernel
theorem dX10_fit_45 : decode cX10_fit 45 = .ok (.isub, 1) := by decide +kernel
theorem dX10_fit_46 : decode cX10_fit 46 = .ok (.istore_n 3, 1) := by decide +kernel
theorem dX10_fit_47 : decode cX10_fit 47 = .ok (.iload_n 1, 1) := by decide +kernel
theorem dX10_fit_48 : decode cX10_fit 48 = .ok (.ifCond .eq 34, 3) := by decide +kernel
theorem dX10_fit_51 : decode cX10_fit 51 = .ok (.iload_n 3, 1) := by decide +kernel
theorem dX10_fit_52 : decode cX10_fit 52 = .ok (.aload_n 0, 1) := by decide +kernel
theorem dX10_fit_53 : decode cX10_fit 53 = .ok (.getfield 77, 3) := by decide +kernel
theorem dX10_fit_56 : decode cX10_fit 56 = .ok (.aload_n 0, 1) := by decide +kernel
theorem dX10_fit_57 : decode cX10_fit 57 = .ok (.getfield 246, 3) := by decide +kernel
theorem dX10_fit_60 : decode cX10_fit 60 = .ok (.iaload, 1) := by decide +kernel
theorem dX10_fit_61 : decode cX10_fit 61 = .ok (.if_icmp .gt 21, 3) := by decide +kernel
theorem dX10_fit_64 : decode cX10_fit 64 = .ok (.iload_n 3, 1) := by decide +kernel
theorem dX10_fit_65 : decode cX10_fit 65 = .ok (.aload_n 0, 1) := by decide +kernel
theorem dX10_fit_66 : decode cX10_fit 66 = .ok (.getfield 77, 3) := by decide +kernel
theorem dX10_fit_69 : decode cX10_fit 69 = .ok (.aload_n 0, 1) := by decide +kernel
theorem dX10_fit_70 : decode cX10_fit 70 = .ok (.getfield 246, 3) := by decide +kernel
theorem dX10_fit_73 : decode cX10_fit 73 = .ok (.iaload, 1) := by decide +kernel
theorem dX10_fit_74 : decode cX10_fit 74 = .ok (.ineg, 1) := by decide +kernel
theorem dX10_fit_75 : decode cX10_fit 75 = .ok (.if_icmp .lt 7, 3) := by decide +kernel
theorem dX10_fit_78 : decode cX10_fit 78 = .ok (.iconst 1, 1) := by decide +kernel
theorem dX10_fit_79 : decode cX10_fit 79 = .ok (.goto 4, 3) := by decide +kernel
theorem dX10_fit_82 : decode cX10_fit 82 = .ok (.iconst 0, 1) := by decide +kernel
theorem dX10_fit_83 : decode cX10_fit 83 = .ok (.istore_n 1, 1) := by decide +kernel
theorem dX10_fit_84 : decode cX10_fit 84 = .ok (.iinc 2 1, 3) := by decide +kernel
theorem dX10_fit_87 : decode cX10_fit 87 = .ok (.goto (-70), 3) := by decide +kernel
theorem dX10_fit_90 : decode cX10_fit 90 = .ok (.iload_n 1, 1) := by decide +kernel
theorem dX10_fit_91 : decode cX10_fit 91 = .ok (.ifCond .eq 7, 3) := by decide +kernel
theorem dX10_fit_94 : decode cX10_fit 94 = .ok (.iconst 1, 1) := by decide +kernel
theorem dX10_fit_95 : decode cX10_fit 95 = .ok (.goto 4, 3) := by decide +kernel
theorem dX10_fit_98 : decode cX10_fit 98 = .ok (.iconst 0, 1) := by decide +kernel
theorem dX10_fit_99 : decode cX10_fit 99 = .ok (.ireturn, 1) := by decide +kernel
theorem dX10_pause_0 : decode cX10_pause 0 = .ok (.aload_n 0, 1) := by decide +kernel
theorem dX10_pause_1 : decode cX10_pause 1 = .ok (.iconst 0, 1) := by decide +kernel
theorem dX10_pause_2 : decode cX10_pause 2 = .ok (.putfield 1, 3) := by decide +kernel
theorem dX10_pause_5 : decode cX10_pause 5 = .ok (.aload_n 0, 1) := by decide +kernel
theorem dX10_pause_6 : decode cX10_pause 6 = .ok (.aload_n 0, 1) := by decide +kernel
theorem dX10_pause_7 : decode cX10_pause 7 = .ok (.getfield 283, 3) := by decide +kernel
theorem dX10_pause_10 : decode cX10_pause 10 = .ok (.invokevirtual 303, 3) := by decide +kernel
theorem dX10_pause_13 : decode cX10_pause 13 = .ok (.iload_n 1, 1) := by decide +kernel
theorem dX10_pause_14 : decode cX10_pause 14 = .ok (.ifCond .lt 24, 3) := by decide +kernel
theorem dX10_pause_17 : decode cX10_pause 17 = .ok (.iload_n 1, 1) := by decide +kernel
theorem dX10_pause_18 : decode cX10_pause 18 = .ok (.aload_n 0, 1) := by decide +kernel
theorem dX10_pause_19 : decode cX10_pause 19 = .ok (.getfield 300, 3) := by decide +kernel
theorem dX10_pause_22 : decode cX10_pause 22 = .ok (.iconst 1, 1) := by decide +kernel
theorem dX10_pause_23 : decode cX10_pause 23 = .ok (.isub, 1) := by decide +kernel
theorem dX10_pause_24 : decode cX10_pause 24 = .ok (.if_icmp .ge 14, 3) := by decide +kernel
theorem dX10_pause_27 : decode cX10_pause 27 = .ok (.iload_n 2, 1) := by decide +kernel
theorem dX10_pause_28 : decode cX10_pause 28 = .ok (.ifCond .lt 10, 3) := by decide +kernel
theorem dX10_pause_31 : decode cX10_pause 31 = .ok (.iload_n 2, 1) := by decide +kernel
theorem dX10_pause_32 : decode cX10_pause 32 = .ok (.sipush 1000, 3) := by decide +kernel
theorem dX10_pause_35 : decode cX10_pause 35 = .ok (.if_icmp .le 5, 3) := by decide +kernel
theorem dX10_pause_38 : decode cX10_pause 38 = .ok (.iconst (-1), 1) := by decide +kernel
theorem dX10_pause_39 : decode cX10_pause 39 = .ok (.ireturn, 1) := by decide +kernel
theorem dX10_pause_40 : decode cX10_pause 40 = .ok (.iconst 0, 1) := by decide +kernel
theorem dX10_pause_41 : decode cX10_pause 41 = .ok (.istore_n 3, 1) := by decide +kernel
theorem dX10_pause_42 : decode cX10_pause 42 = .ok (.iconst 0, 1) := by decide +kernel
theorem dX10_pause_43 : decode cX10_pause 43 = .ok (.istore 4, 2) := by decide +kernel
theorem dX10_pause_45 : decode cX10_pause 45 = .ok (.iload 4, 2) := by decide +kernel
theorem dX10_pause_47 : decode cX10_pause 47 = .ok (.aload_n 0, 1) := by decide +kernel
theorem dX10_pause_48 : decode cX10_pause 48 = .ok (.getfield 300, 3) := by decide +kernel
theorem dX10_pause_51 : decode cX10_pause 51 = .ok (.iconst 1, 1) := by decide +kernel
theorem dX10_pause_52 : decode cX10_pause 52 = .ok (.isub, 1) := by decide +kernel
theorem dX10_pause_53 : decode cX10_pause 53 = .ok (.if_icmp .ge 19, 3) := by decide +kernel
theorem dX10_pause_56 : decode cX10_pause 56 = .ok (.iload_n 3, 1) := by decide +kernel
theorem dX10_pause_57 : decode cX10_pause 57 = .ok (.aload_n 0, 1) := by decide +kernel
theorem dX10_pause_58 : decode cX10_pause 58 = .ok (.getfield 162, 3) := by decide +kernel
theorem dX10_pause_61 : decode cX10_pause 61 = .ok (.iload 4, 2) := by decide +kernel
theorem dX10_pause_63 : decode cX10_pause 63 = .ok (.iaload, 1) := by decide +kernel
theorem dX10_pause_64 : decode cX10_pause 64 = .ok (.iadd, 1) := by decide +kernel
theorem dX10_pause_65 : decode cX10_pause 65 = .ok (.istore_n 3, 1) := by decide +kernel
theorem dX10_pause_66 : decode cX10_pause 66 = .ok (.iinc 4 1, 3) := by decide +kernel
theorem dX10_pause_69 : decode cX10_pause 69 = .ok (.goto (-24), 3) := by decide +kernel
theorem dX10_pause_72 : decode cX10_pause 72 = .ok (.iload_n 2, 1) := by decide +kernel
theorem dX10_pause_73 : decode cX10_pause 73 = .ok (.istore 4, 2) := by decide +kernel
theorem dX10_pause_75 : decode cX10_pause 75 = .ok (.iconst 0, 1) := by decide +kernel
theorem dX10_pause_76 : decode cX10_pause 76 = .ok (.istore 5, 2) := by decide +kernel
theorem dX10_pause_78 : decode cX10_pause 78 = .ok (.iload 5, 2) := by decide +kernel
theorem dX10_pause_80 : decode cX10_pause 80 = .ok (.aload_n 0, 1) := by decide +kernel
theorem dX10_pause_81 : decode cX10_pause 81 = .ok (.getfield 300, 3) := by decide +kernel
theorem dX10_pause_84 : decode cX10_pause 84 = .ok (.iconst 1, 1) := by decide +kernel
theorem dX10_pause_85 : decode cX10_pause 85 = .ok (.isub, 1) := by decide +kernel
theorem dX10_pause_86 : decode cX10_pause 86 = .ok (.if_icmp .ge 57, 3) := by decide +kernel
theorem dX10_pause_89 : decode cX10_pause 89 = .ok (.aload_n 0, 1) := by decide +kernel
theorem dX10_pause_90 : decode cX10_pause 90 = .ok (.getfield 183, 3) := by decide +kernel
theorem dX10_pause_93 : decode cX10_pause 93 = .ok (.iload 5, 2) := by decide +kernel
theorem dX10_pause_95 : decode cX10_pause 95 = .ok (.iload_n 2, 1) := by decide +kernel
theorem dX10_pause_96 : decode cX10_pause 96 = .ok (.aload_n 0, 1) := by decide +kernel
theorem dX10_pause_97 : decode cX10_pause 97 = .ok (.getfield 162, 3) := by decide +kernel
theorem dX10_pause_100 : decode cX10_pause 100 = .ok (.iload 5, 2) := by decide +kernel
theorem dX10_pause_102 : decode cX10_pause 102 = .ok (.iaload, 1) := by decide +kernel
theorem dX10_pause_103 : decode cX10_pause 103 = .ok (.imul, 1) := by decide +kernel
theorem dX10_pause_104 : decode cX10_pause 104 = .ok (.iload_n 3, 1) := by decide +kernel
theorem dX10_pause_105 : decode cX10_pause 105 = .ok (.idiv, 1) := by decide +kernel
theorem dX10_pause_106 : decode cX10_pause 106 = .ok (.iastore, 1) := by decide +kernel
theorem dX10_pause_107 : decode cX10_pause 107 = .ok (.aload_n 0, 1) := by decide +kernel
theorem dX10_pause_108 : decode cX10_pause 108 = .ok (.getfield 186, 3) := by decide +kernel
theorem dX10_pause_111 : decode cX10_pause 111 = .ok (.iload 5, 2) := by decide +kernel
theorem dX10_pause_113 : decode cX10_pause 113 = .ok (.iload_n 2, 1) := by decide +kernel
theorem dX10_pause_114 : decode cX10_pause 114 = .ok (.aload_n 0, 1) := by decide +kernel
theorem dX10_pause_115 : decode cX10_pause 115 = .ok (.getfield 162, 3) := by decide +kernel
theorem dX10_pause_118 : decode cX10_pause 118 = .ok (.iload 5, 2) := by decide +kernel
theorem dX10_pause_120 : decode cX10_pause 120 = .ok (.iaload, 1) := by decide +kernel
theorem dX10_pause_121 : decode cX10_pause 121 = .ok (.imul, 1) := by decide +kernel
theorem dX10_pause_122 : decode cX10_pause 122 = .ok (.iload_n 3, 1) := by decide +kernel
theorem dX10_pause_123 : decode cX10_pause 123 = .ok (.irem, 1) := by decide +kernel
theorem dX10_pause_124 : decode cX10_pause 124 = .ok (.iastore, 1) := by decide +kernel
theorem dX10_pause_125 : decode cX10_pause 125 = .ok (.iload 4, 2) := by decide +kernel
theorem dX10_pause_127 : decode cX10_pause 127 = .ok (.aload_n 0, 1) := by decide +kernel
theorem dX10_pause_128 : decode cX10_pause 128 = .ok (.getfield 183, 3) := by decide +kernel
theorem dX10_pause_131 : decode cX10_pause 131 = .ok (.iload 5, 2) := by decide +kernel
theorem dX10_pause_133 : decode cX10_pause 133 = .ok (.iaload, 1) := by decide +kernel
theorem dX10_pause_134 : decode cX10_pause 134 = .ok (.isub, 1) := by decide +kernel
theorem dX10_pause_135 : decode cX10_pause 135 = .ok (.istore 4, 2) := by decide +kernel
theorem dX10_pause_137 : decode cX10_pause 137 = .ok (.iinc 5 1, 3) := by decide +kernel
theorem dX10_pause_140 : decode cX10_pause 140 = .ok (.goto (-62), 3) := by decide +kernel
theorem dX10_pause_143 : decode cX10_pause 143 = .ok (.iload 4, 2) := by decide +kernel
theorem dX10_pause_145 : decode cX10_pause 145 = .ok (.ifCond .le 77, 3) := by decide +kernel
theorem dX10_pause_148 : decode cX10_pause 148 = .ok (.iconst 0, 1) := by decide +kernel
theorem dX10_pause_149 : decode cX10_pause 149 = .ok (.istore 5, 2) := by decide +kernel
theorem dX10_pause_151 : decode cX10_pause 151 = .ok (.iconst 1, 1) := by decide +kernel
theorem dX10_pause_152 : decode cX10_pause 152 = .ok (.istore 6, 2) := by decide +kernel
theorem dX10_pause_154 : decode cX10_pause 154 = .ok (.iload 6, 2) := by decide +kernel
theorem dX10_pause_156 : decode cX10_pause 156 = .ok (.aload_n 0, 1) := by decide +kernel
theorem dX10_pause_157 : decode cX10_pause 157 = .ok (.getfield 300, 3) := by decide +kernel
theorem dX10_pause_160 : decode cX10_pause 160 = .ok (.iconst 1, 1) := by decide +kernel
theorem dX10_pause_161 : decode cX10_pause 161 = .ok (.isub, 1) := by decide +kernel
theorem dX10_pause_162 : decode cX10_pause 162 = .ok (.if_icmp .ge 35, 3) := by decide +kernel
theorem dX10_pause_165 : decode cX10_pause 165 = .ok (.aload_n 0, 1) := by decide +kernel
theorem dX10_pause_166 : decode cX10_pause 166 = .ok (.getfield 186, 3) := by decide +kernel
theorem dX10_pause_169 : decode cX10_pause 169 = .ok (.iload 6, 2) := by decide +kernel
theorem dX10_pause_171 : decode cX10_pause 171 = .ok (.iaload, 1) := by decide +kernel
theorem dX10_pause_172 : decode cX10_pause 172 = .ok (.aload_n 0, 1) := by decide +kernel
theorem dX10_pause_173 : decode cX10_pause 173 = .ok (.getfield 186, 3) := by decide +kernel
theorem dX10_pause_176 : decode cX10_pause 176 = .ok (.iload 5, 2) := by decide +kernel
theorem dX10_pause_178 : decode cX10_pause 178 = .ok (.iaload, 1) := by decide +kernel
theorem dX10_pause_179 : decode cX10_pause 179 = .ok (.if_icmp .le 8, 3) := by decide +kernel
theorem dX10_pause_182 : decode cX10_pause 182 = .ok (.iload 6, 2) := by decide +kernel
theorem dX10_pause_184 : decode cX10_pause 184 = .ok (.goto 5, 3) := by decide +kernel
theorem dX10_pause_187 : decode cX10_pause 187 = .ok (.iload 5, 2) := by decide +kernel
theorem dX10_pause_189 : decode cX10_pause 189 = .ok (.istore 5, 2) := by decide +kernel
theorem dX10_pause_191 : decode cX10_pause 191 = .ok (.iinc 6 1, 3) := by decide +kernel
theorem dX10_pause_194 : decode cX10_pause 194 = .ok (.goto (-40), 3) := by decide +kernel
theorem dX10_pause_197 : decode cX10_pause 197 = .ok (.aload_n 0, 1) := by decide +kernel
theorem dX10_pause_198 : decode cX10_pause 198 = .ok (.getfield 183, 3) := by decide +kernel
theorem dX10_pause_201 : decode cX10_pause 201 = .ok (.iload 5, 2) := by decide +kernel
theorem dX10_pause_203 : decode cX10_pause 203 = .ok (.dup2, 1) := by decide +kernel
theorem dX10_pause_204 : decode cX10_pause 204 = .ok (.iaload, 1) := by decide +kernel
theorem dX10_pause_205 : decode cX10_pause 205 = .ok (.iconst 1, 1) := by decide +kernel
theorem dX10_pause_206 : decode cX10_pause 206 = .ok (.iadd, 1) := by decide +kernel
theorem dX10_pause_207 : decode cX10_pause 207 = .ok (.iastore, 1) := by decide +kernel
theorem dX10_pause_208 : decode cX10_pause 208 = .ok (.aload_n 0, 1) := by decide +kernel
theorem dX10_pause_209 : decode cX10_pause 209 = .ok (.getfield 186, 3) := by decide +kernel
theorem dX10_pause_212 : decode cX10_pause 212 = .ok (.iload 5, 2) := by decide +kernel
theorem dX10_pause_214 : decode cX10_pause 214 = .ok (.iconst (-1), 1) := by decide +kernel
theorem dX10_pause_215 : decode cX10_pause 215 = .ok (.iastore, 1) := by decide +kernel
theorem dX10_pause_216 : decode cX10_pause 216 = .ok (.iinc 4 (-1), 3) := by decide +kernel
theorem dX10_pause_219 : decode cX10_pause 219 = .ok (.goto (-76), 3) := by decide +kernel
theorem dX10_pause_222 : decode cX10_pause 222 = .ok (.aload_n 0, 1) := by decide +kernel
theorem dX10_pause_223 : decode cX10_pause 223 = .ok (.getfield 183, 3) := by decide +kernel
theorem dX10_pause_226 : decode cX10_pause 226 = .ok (.iload_n 1, 1) := by decide +kernel
theorem dX10_pause_227 : decode cX10_pause 227 = .ok (.iaload, 1) := by decide +kernel
theorem dX10_pause_228 : decode cX10_pause 228 = .ok (.ireturn, 1) := by decide +kernel
theorem dX10_apart_0 : decode cX10_apart 0 = .ok (.aload_n 0, 1) := by decide +kernel
theorem dX10_apart_1 : decode cX10_apart 1 = .ok (.iconst 0, 1) := by decide +kernel
theorem dX10_apart_2 : decode cX10_apart 2 = .ok (.putfield 1, 3) := by decide +kernel
theorem dX10_apart_5 : decode cX10_apart 5 = .ok (.aload_n 0, 1) := by decide +kernel
theorem dX10_apart_6 : decode cX10_apart 6 = .ok (.iload_n 1, 1) := by decide +kernel
theorem dX10_apart_7 : decode cX10_apart 7 = .ok (.invokevirtual 290, 3) := by decide +kernel
theorem dX10_apart_10 : decode cX10_apart 10 = .ok (.ifCond .eq 11, 3) := by decide +kernel
theorem dX10_apart_13 : decode cX10_apart 13 = .ok (.aload_n 0, 1) := by decide +kernel
theorem dX10_apart_14 : decode cX10_apart 14 = .ok (.iload_n 2, 1) := by decide +kernel
theorem dX10_apart_15 : decode cX10_apart 15 = .ok (.invokevirtual 290, 3) := by decide +kernel
theorem dX10_apart_18 : decode cX10_apart 18 = .ok (.ifCond .ne 6, 3) := by decide +kernel
theorem dX10_apart_21 : decode cX10_apart 21 = .ok (.bipush (-2), 2) := by decide +kernel
theorem dX10_apart_23 : decode cX10_apart 23 = .ok (.ireturn, 1) := by decide +kernel
theorem dX10_apart_24 : decode cX10_apart 24 = .ok (.aload_n 0, 1) := by decide +kernel
theorem dX10_apart_25 : decode cX10_apart 25 = .ok (.iload_n 1, 1) := by decide +kernel
theorem dX10_apart_26 : decode cX10_apart 26 = .ok (.invokevirtual 335, 3) := by decide +kernel
theorem dX10_apart_29 : decode cX10_apart 29 = .ok (.aload_n 0, 1) := by decide +kernel
theorem dX10_apart_30 : decode cX10_apart 30 = .ok (.aload_n 0, 1) := by decide +kernel
theorem dX10_apart_31 : decode cX10_apart 31 = .ok (.getfield 310, 3) := by decide +kernel
theorem dX10_apart_34 : decode cX10_apart 34 = .ok (.putfield 341, 3) := by decide +kernel
theorem dX10_apart_37 : decode cX10_apart 37 = .ok (.iconst 0, 1) := by decide +kernel
theorem dX10_apart_38 : decode cX10_apart 38 = .ok (.istore_n 3, 1) := by decide +kernel
theorem dX10_apart_39 : decode cX10_apart 39 = .ok (.iload_n 3, 1) := by decide +kernel
theorem dX10_apart_40 : decode cX10_apart 40 = .ok (.aload_n 0, 1) := by decide +kernel
theorem dX10_apart_41 : decode cX10_apart 41 = .ok (.getfield 310, 3) := by decide +kernel
theorem dX10_apart_44 : decode cX10_apart 44 = .ok (.if_icmp .ge 86, 3) := by decide +kernel
theorem dX10_apart_47 : decode cX10_apart 47 = .ok (.aload_n 0, 1) := by decide +kernel
theorem dX10_apart_48 : decode cX10_apart 48 = .ok (.getfield 189, 3) := by decide +kernel
theorem dX10_apart_51 : decode cX10_apart 51 = .ok (.iconst 4, 1) := by decide +kernel
theorem dX10_apart_52 : decode cX10_apart 52 = .ok (.iload_n 3, 1) := by decide +kernel
theorem dX10_apart_53 : decode cX10_apart 53 = .ok (.imul, 1) := by decide +kernel
theorem dX10_apart_54 : decode cX10_apart 54 = .ok (.aload_n 0, 1) := by decide +kernel
theorem dX10_apart_55 : decode cX10_apart 55 = .ok (.iload_n 3, 1) := by decide +kernel
theorem dX10_apart_56 : decode cX10_apart 56 = .ok (.invokevirtual 338, 3) := by decide +kernel
theorem dX10_apart_59 : decode cX10_apart 59 = .ok (.iastore, 1) := by decide +kernel
theorem dX10_apart_60 : decode cX10_apart 60 = .ok (.aload_n 0, 1) := by decide +kernel
theorem dX10_apart_61 : decode cX10_apart 61 = .ok (.getfield 189, 3) := by decide +kernel
theorem dX10_apart_64 : decode cX10_apart 64 = .ok (.iconst 4, 1) := by decide +kernel
theorem dX10_apart_65 : decode cX10_apart 65 = .ok (.iload_n 3, 1) := by decide +kernel
theorem dX10_apart_66 : decode cX10_apart 66 = .ok (.imul, 1) := by decide +kernel
theorem dX10_apart_67 : decode cX10_apart 67 = .ok (.iconst 1, 1) := by decide +kernel
theorem dX10_apart_68 : decode cX10_apart 68 = .ok (.iadd, 1) := by decide +kernel
theorem dX10_apart_69 : decode cX10_apart 69 = .ok (.aload_n 0, 1) := by decide +kernel
theorem dX10_apart_70 : decode cX10_apart 70 = .ok (.getfield 180, 3) := by decide +kernel
theorem dX10_apart_73 : decode cX10_apart 73 = .ok (.iconst 3, 1) := by decide +kernel
theorem dX10_apart_74 : decode cX10_apart 74 = .ok (.iload_n 3, 1) := by decide +kernel
theorem dX10_apart_75 : decode cX10_apart 75 = .ok (.imul, 1) := by decide +kernel
theorem dX10_apart_76 : decode cX10_apart 76 = .ok (.iconst 1, 1) := by decide +kernel
theorem dX10_apart_77 : decode cX10_apart 77 = .ok (.iadd, 1) := by decide +kernel
theorem dX10_apart_78 : decode cX10_apart 78 = .ok (.iaload, 1) := by decide +kernel
theorem dX10_apart_79 : decode cX10_apart 79 = .ok (.iastore, 1) := by decide +kernel
theorem dX10_apart_80 : decode cX10_apart 80 = .ok (.aload_n 0, 1) := by decide +kernel
theorem dX10_apart_81 : decode cX10_apart 81 = .ok (.getfield 189, 3) := by decide +kernel
theorem dX10_apart_84 : decode cX10_apart 84 = .ok (.iconst 4, 1) := by decide +kernel
theorem dX10_apart_85 : decode cX10_apart 85 = .ok (.iload_n 3, 1) := by decide +kernel
theorem dX10_apart_86 : decode cX10_apart 86 = .ok (.imul, 1) := by decide +kernel
theorem dX10_apart_87 : decode cX10_apart 87 = .ok (.iconst 2, 1) := by decide +kernel
theorem dX10_apart_88 : decode cX10_apart 88 = .ok (.iadd, 1) := by decide +kernel
theorem dX10_apart_89 : decode cX10_apart 89 = .ok (.aload_n 0, 1) := by decide +kernel
theorem dX10_apart_90 : decode cX10_apart 90 = .ok (.getfield 180, 3) := by decide +kernel
theorem dX10_apart_93 : decode cX10_apart 93 = .ok (.iconst 3, 1) := by decide +kernel
theorem dX10_apart_94 : decode cX10_apart 94 = .ok (.iload_n 3, 1) := by decide +kernel
theorem dX10_apart_95 : decode cX10_apart 95 = .ok (.imul, 1) := by decide +kernel
theorem dX10_apart_96 : decode cX10_apart 96 = .ok (.iconst 2, 1) := by decide +kernel
theorem dX10_apart_97 : decode cX10_apart 97 = .ok (.iadd, 1) := by decide +kernel
theorem dX10_apart_98 : decode cX10_apart 98 = .ok (.iaload, 1) := by decide +kernel
theorem dX10_apart_99 : decode cX10_apart 99 = .ok (.iastore, 1) := by decide +kernel
theorem dX10_apart_100 : decode cX10_apart 100 = .ok (.aload_n 0, 1) := by decide +kernel
theorem dX10_apart_101 : decode cX10_apart 101 = .ok (.getfield 189, 3) := by decide +kernel
theorem dX10_apart_104 : decode cX10_apart 104 = .ok (.iconst 4, 1) := by decide +kernel
theorem dX10_apart_105 : decode cX10_apart 105 = .ok (.iload_n 3, 1) := by decide +kernel
theorem dX10_apart_106 : decode cX10_apart 106 = .ok (.imul, 1) := by decide +kernel
theorem dX10_apart_107 : decode cX10_apart 107 = .ok (.iconst 3, 1) := by decide +kernel
theorem dX10_apart_108 : decode cX10_apart 108 = .ok (.iadd, 1) := by decide +kernel
theorem dX10_apart_109 : decode cX10_apart 109 = .ok (.aload_n 0, 1) := by decide +kernel
theorem dX10_apart_110 : decode cX10_apart 110 = .ok (.getfield 177, 3) := by decide +kernel
theorem dX10_apart_113 : decode cX10_apart 113 = .ok (.iload_n 3, 1) := by decide +kernel
theorem dX10_apart_114 : decode cX10_apart 114 = .ok (.baload, 1) := by decide +kernel
theorem dX10_apart_115 : decode cX10_apart 115 = .ok (.ifCond .eq 7, 3) := by decide +kernel
theorem dX10_apart_118 : decode cX10_apart 118 = .ok (.iconst 1, 1) := by decide +kernel
theorem dX10_apart_119 : decode cX10_apart 119 = .ok (.goto 4, 3) := by decide +kernel
theorem dX10_apart_122 : decode cX10_apart 122 = .ok (.iconst 0, 1) := by decide +kernel
theorem dX10_apart_123 : decode cX10_apart 123 = .ok (.iastore, 1) := by decide +kernel
theorem dX10_apart_124 : decode cX10_apart 124 = .ok (.iinc 3 1, 3) := by decide +kernel
theorem dX10_apart_127 : decode cX10_apart 127 = .ok (.goto (-88), 3) := by decide +kernel
theorem dX10_apart_130 : decode cX10_apart 130 = .ok (.aload_n 0, 1) := by decide +kernel
theorem dX10_apart_131 : decode cX10_apart 131 = .ok (.iload_n 2, 1) := by decide +kernel
theorem dX10_apart_132 : decode cX10_apart 132 = .ok (.invokevirtual 335, 3) := by decide +kernel
theorem dX10_apart_135 : decode cX10_apart 135 = .ok (.iconst 0, 1) := by decide +kernel
theorem dX10_apart_136 : decode cX10_apart 136 = .ok (.istore_n 3, 1) := by decide +kernel
theorem dX10_apart_137 : decode cX10_apart 137 = .ok (.iload_n 3, 1) := by decide +kernel
theorem dX10_apart_138 : decode cX10_apart 138 = .ok (.aload_n 0, 1) := by decide +kernel
theorem dX10_apart_139 : decode cX10_apart 139 = .ok (.getfield 310, 3) := by decide +kernel
theorem dX10_apart_142 : decode cX10_apart 142 = .ok (.if_icmp .ge 25, 3) := by decide +kernel
theorem dX10_apart_145 : decode cX10_apart 145 = .ok (.iload_n 3, 1) := by decide +kernel
theorem dX10_apart_146 : decode cX10_apart 146 = .ok (.aload_n 0, 1) := by decide +kernel
theorem dX10_apart_147 : decode cX10_apart 147 = .ok (.getfield 341, 3) := by decide +kernel
theorem dX10_apart_150 : decode cX10_apart 150 = .ok (.if_icmp .ge 17, 3) := by decide +kernel
theorem dX10_apart_153 : decode cX10_apart 153 = .ok (.aload_n 0, 1) := by decide +kernel
theorem dX10_apart_154 : decode cX10_apart 154 = .ok (.iload_n 3, 1) := by decide +kernel
theorem dX10_apart_155 : decode cX10_apart 155 = .ok (.invokevirtual 344, 3) := by decide +kernel
theorem dX10_apart_158 : decode cX10_apart 158 = .ok (.ifCond .eq 9, 3) := by decide +kernel
theorem dX10_apart_161 : decode cX10_apart 161 = .ok (.iinc 3 1, 3) := by decide +kernel
theorem dX10_apart_164 : decode cX10_apart 164 = .ok (.goto (-27), 3) := by decide +kernel
theorem dX10_apart_167 : decode cX10_apart 167 = .ok (.iload_n 3, 1) := by decide +kernel
theorem dX10_apart_168 : decode cX10_apart 168 = .ok (.aload_n 0, 1) := by decide +kernel
theorem dX10_apart_169 : decode cX10_apart 169 = .ok (.getfield 310, 3) := by decide +kernel
theorem dX10_apart_172 : decode cX10_apart 172 = .ok (.if_icmp .ne 15, 3) := by decide +kernel
theorem dX10_apart_175 : decode cX10_apart 175 = .ok (.iload_n 3, 1) := by decide +kernel
theorem dX10_apart_176 : decode cX10_apart 176 = .ok (.aload_n 0, 1) := by decide +kernel
theorem dX10_apart_177 : decode cX10_apart 177 = .ok (.getfield 341, 3) := by decide +kernel
theorem dX10_apart_180 : decode cX10_apart 180 = .ok (.if_icmp .ne 7, 3) := by decide +kernel
theorem dX10_apart_183 : decode cX10_apart 183 = .ok (.iconst (-1), 1) := by decide +kernel
theorem dX10_apart_184 : decode cX10_apart 184 = .ok (.goto 4, 3) := by decide +kernel
theorem dX10_apart_187 : decode cX10_apart 187 = .ok (.iload_n 3, 1) := by decide +kernel
theorem dX10_apart_188 : decode cX10_apart 188 = .ok (.ireturn, 1) := by decide +kernel
theorem dX10_isAlike_0 : decode cX10_isAlike 0 = .ok (.aload_n 0, 1) := by decide +kernel
theorem dX10_isAlike_1 : decode cX10_isAlike 1 = .ok (.getfield 189, 3) := by decide +kernel
theorem dX10_isAlike_4 : decode cX10_isAlike 4 = .ok (.iconst 4, 1) := by decide +kernel
theorem dX10_isAlike_5 : decode cX10_isAlike 5 = .ok (.iload_n 1, 1) := by decide +kernel
theorem dX10_isAlike_6 : decode cX10_isAlike 6 = .ok (.imul, 1) := by decide +kernel
theorem dX10_isAlike_7 : decode cX10_isAlike 7 = .ok (.iaload, 1) := by decide +kernel
theorem dX10_isAlike_8 : decode cX10_isAlike 8 = .ok (.aload_n 0, 1) := by decide +kernel
theorem dX10_isAlike_9 : decode cX10_isAlike 9 = .ok (.iload_n 1, 1) := by decide +kernel
theorem dX10_isAlike_10 : decode cX10_isAlike 10 = .ok (.invokevirtual 338, 3) := by decide +kernel
theorem dX10_isAlike_13 : decode cX10_isAlike 13 = .ok (.if_icmp .ne 80, 3) := by decide +kernel
theorem dX10_isAlike_16 : decode cX10_isAlike 16 = .ok (.aload_n 0, 1) := by decide +kernel
theorem dX10_isAlike_17 : decode cX10_isAlike 17 = .ok (.getfield 189, 3) := by decide +kernel
theorem dX10_isAlike_20 : decode cX10_isAlike 20 = .ok (.iconst 4, 1) := by decide +kernel
theorem dX10_isAlike_21 : decode cX10_isAlike 21 = .ok (.iload_n 1, 1) := by decide +kernel
theorem dX10_isAlike_22 : decode cX10_isAlike 22 = .ok (.imul, 1) := by decide +kernel
theorem dX10_isAlike_23 : decode cX10_isAlike 23 = .ok (.iconst 1, 1) := by decide +kernel
theorem dX10_isAlike_24 : decode cX10_isAlike 24 = .ok (.iadd, 1) := by decide +kernel
theorem dX10_isAlike_25 : decode cX10_isAlike 25 = .ok (.iaload, 1) := by decide +kernel
theorem dX10_isAlike_26 : decode cX10_isAlike 26 = .ok (.aload_n 0, 1) := by decide +kernel
theorem dX10_isAlike_27 : decode cX10_isAlike 27 = .ok (.getfield 180, 3) := by decide +kernel
theorem dX10_isAlike_30 : decode cX10_isAlike 30 = .ok (.iconst 3, 1) := by decide +kernel
theorem dX10_isAlike_31 : decode cX10_isAlike 31 = .ok (.iload_n 1, 1) := by decide +kernel
theorem dX10_isAlike_32 : decode cX10_isAlike 32 = .ok (.imul, 1) := by decide +kernel
theorem dX10_isAlike_33 : decode cX10_isAlike 33 = .ok (.iconst 1, 1) := by decide +kernel
theorem dX10_isAlike_34 : decode cX10_isAlike 34 = .ok (.iadd, 1) := by decide +kernel
theorem dX10_isAlike_35 : decode cX10_isAlike 35 = .ok (.iaload, 1) := by decide +kernel
theorem dX10_isAlike_36 : decode cX10_isAlike 36 = .ok (.if_icmp .ne 57, 3) := by decide +kernel
theorem dX10_isAlike_39 : decode cX10_isAlike 39 = .ok (.aload_n 0, 1) := by decide +kernel
theorem dX10_isAlike_40 : decode cX10_isAlike 40 = .ok (.getfield 189, 3) := by decide +kernel
theorem dX10_isAlike_43 : decode cX10_isAlike 43 = .ok (.iconst 4, 1) := by decide +kernel
theorem dX10_isAlike_44 : decode cX10_isAlike 44 = .ok (.iload_n 1, 1) := by decide +kernel
theorem dX10_isAlike_45 : decode cX10_isAlike 45 = .ok (.imul, 1) := by decide +kernel
theorem dX10_isAlike_46 : decode cX10_isAlike 46 = .ok (.iconst 2, 1) := by decide +kernel
theorem dX10_isAlike_47 : decode cX10_isAlike 47 = .ok (.iadd, 1) := by decide +kernel
theorem dX10_isAlike_48 : decode cX10_isAlike 48 = .ok (.iaload, 1) := by decide +kernel
theorem dX10_isAlike_49 : decode cX10_isAlike 49 = .ok (.aload_n 0, 1) := by decide +kernel
theorem dX10_isAlike_50 : decode cX10_isAlike 50 = .ok (.getfield 180, 3) := by decide +kernel
theorem dX10_isAlike_53 : decode cX10_isAlike 53 = .ok (.iconst 3, 1) := by decide +kernel
theorem dX10_isAlike_54 : decode cX10_isAlike 54 = .ok (.iload_n 1, 1) := by decide +kernel
theorem dX10_isAlike_55 : decode cX10_isAlike 55 = .ok (.imul, 1) := by decide +kernel
theorem dX10_isAlike_56 : decode cX10_isAlike 56 = .ok (.iconst 2, 1) := by decide +kernel
theorem dX10_isAlike_57 : decode cX10_isAlike 57 = .ok (.iadd, 1) := by decide +kernel
theorem dX10_isAlike_58 : decode cX10_isAlike 58 = .ok (.iaload, 1) := by decide +kernel
theorem dX10_isAlike_59 : decode cX10_isAlike 59 = .ok (.if_icmp .ne 34, 3) := by decide +kernel
theorem dX10_isAlike_62 : decode cX10_isAlike 62 = .ok (.aload_n 0, 1) := by decide +kernel
theorem dX10_isAlike_63 : decode cX10_isAlike 63 = .ok (.getfield 189, 3) := by decide +kernel
theorem dX10_isAlike_66 : decode cX10_isAlike 66 = .ok (.iconst 4, 1) := by decide +kernel
theorem dX10_isAlike_67 : decode cX10_isAlike 67 = .ok (.iload_n 1, 1) := by decide +kernel
theorem dX10_isAlike_68 : decode cX10_isAlike 68 = .ok (.imul, 1) := by decide +kernel
theorem dX10_isAlike_69 : decode cX10_isAlike 69 = .ok (.iconst 3, 1) := by decide +kernel
theorem dX10_isAlike_70 : decode cX10_isAlike 70 = .ok (.iadd, 1) := by decide +kernel
theorem dX10_isAlike_71 : decode cX10_isAlike 71 = .ok (.iaload, 1) := by decide +kernel
theorem dX10_isAlike_72 : decode cX10_isAlike 72 = .ok (.aload_n 0, 1) := by decide +kernel
theorem dX10_isAlike_73 : decode cX10_isAlike 73 = .ok (.getfield 177, 3) := by decide +kernel
theorem dX10_isAlike_76 : decode cX10_isAlike 76 = .ok (.iload_n 1, 1) := by decide +kernel
theorem dX10_isAlike_77 : decode cX10_isAlike 77 = .ok (.baload, 1) := by decide +kernel
theorem dX10_isAlike_78 : decode cX10_isAlike 78 = .ok (.ifCond .eq 7, 3) := by decide +kernel
theorem dX10_isAlike_81 : decode cX10_isAlike 81 = .ok (.iconst 1, 1) := by decide +kernel
theorem dX10_isAlike_82 : decode cX10_isAlike 82 = .ok (.goto 4, 3) := by decide +kernel
theorem dX10_isAlike_85 : decode cX10_isAlike 85 = .ok (.iconst 0, 1) := by decide +kernel
theorem dX10_isAlike_86 : decode cX10_isAlike 86 = .ok (.if_icmp .ne 7, 3) := by decide +kernel
theorem dX10_isAlike_89 : decode cX10_isAlike 89 = .ok (.iconst 1, 1) := by decide +kernel
theorem dX10_isAlike_90 : decode cX10_isAlike 90 = .ok (.goto 4, 3) := by decide +kernel
theorem dX10_isAlike_93 : decode cX10_isAlike 93 = .ok (.iconst 0, 1) := by decide +kernel
theorem dX10_isAlike_94 : decode cX10_isAlike 94 = .ok (.ireturn, 1) := by decide +kernel
theorem dX10_count_0 : decode cX10_count 0 = .ok (.aload_n 0, 1) := by decide +kernel
theorem dX10_count_1 : decode cX10_count 1 = .ok (.iconst 0, 1) := by decide +kernel
theorem dX10_count_2 : decode cX10_count 2 = .ok (.putfield 1, 3) := by decide +kernel
theorem dX10_count_5 : decode cX10_count 5 = .ok (.iconst 0, 1) := by decide +kernel
theorem dX10_count_6 : decode cX10_count 6 = .ok (.istore_n 2, 1) := by decide +kernel
theorem dX10_count_7 : decode cX10_count 7 = .ok (.sipush 240, 3) := by decide +kernel
theorem dX10_count_10 : decode cX10_count 10 = .ok (.aload_n 0, 1) := by decide +kernel
theorem dX10_count_11 : decode cX10_count 11 = .ok (.getfield 283, 3) := by decide +kernel
theorem dX10_count_14 : decode cX10_count 14 = .ok (.imul, 1) := by decide +kernel
theorem dX10_count_15 : decode cX10_count 15 = .ok (.istore_n 3, 1) := by decide +kernel
theorem dX10_count_16 : decode cX10_count 16 = .ok (.iload_n 3, 1) := by decide +kernel
theorem dX10_count_17 : decode cX10_count 17 = .ok (.sipush 240, 3) := by decide +kernel
theorem dX10_count_20 : decode cX10_count 20 = .ok (.aload_n 0, 1) := by decide +kernel
theorem dX10_count_21 : decode cX10_count 21 = .ok (.getfield 283, 3) := by decide +kernel
theorem dX10_count_24 : decode cX10_count 24 = .ok (.imul, 1) := by decide +kernel
theorem dX10_count_25 : decode cX10_count 25 = .ok (.sipush 240, 3) := by decide +kernel
theorem dX10_count_28 : decode cX10_count 28 = .ok (.iadd, 1) := by decide +kernel
theorem dX10_count_29 : decode cX10_count 29 = .ok (.if_icmp .ge 26, 3) := by decide +kernel
theorem dX10_count_32 : decode cX10_count 32 = .ok (.iload_n 2, 1) := by decide +kernel
theorem dX10_count_33 : decode cX10_count 33 = .ok (.aload_n 0, 1) := by decide +kernel
theorem dX10_count_34 : decode cX10_count 34 = .ok (.getfield 141, 3) := by decide +kernel
theorem dX10_count_37 : decode cX10_count 37 = .ok (.iload_n 3, 1) := by decide +kernel
theorem dX10_count_38 : decode cX10_count 38 = .ok (.iaload, 1) := by decide +kernel
theorem dX10_count_39 : decode cX10_count 39 = .ok (.ifCond .lt 7, 3) := by decide +kernel
theorem dX10_count_42 : decode cX10_count 42 = .ok (.iconst 1, 1) := by decide +kernel
theorem dX10_count_43 : decode cX10_count 43 = .ok (.goto 4, 3) := by decide +kernel
theorem dX10_count_46 : decode cX10_count 46 = .ok (.iconst 0, 1) := by decide +kernel
theorem dX10_count_47 : decode cX10_count 47 = .ok (.iadd, 1) := by decide +kernel
theorem dX10_count_48 : decode cX10_count 48 = .ok (.istore_n 2, 1) := by decide +kernel
theorem dX10_count_49 : decode cX10_count 49 = .ok (.iinc 3 1, 3) := by decide +kernel
theorem dX10_count_52 : decode cX10_count 52 = .ok (.goto (-36), 3) := by decide +kernel
theorem dX10_count_55 : decode cX10_count 55 = .ok (.iload_n 1, 1) := by decide +kernel
theorem dX10_count_56 : decode cX10_count 56 = .ok (.tableswitch 99 0 7 #[48, 53, 58, 68, 77, 82, 92, 97], 48) := by decide +kernel
theorem dX10_count_104 : decode cX10_count 104 = .ok (.aload_n 0, 1) := by decide +kernel
theorem dX10_count_105 : decode cX10_count 105 = .ok (.getfield 117, 3) := by decide +kernel
theorem dX10_count_108 : decode cX10_count 108 = .ok (.ireturn, 1) := by decide +kernel
theorem dX10_count_109 : decode cX10_count 109 = .ok (.aload_n 0, 1) := by decide +kernel
theorem dX10_count_110 : decode cX10_count 110 = .ok (.getfield 283, 3) := by decide +kernel
theorem dX10_count_113 : decode cX10_count 113 = .ok (.ireturn, 1) := by decide +kernel
theorem dX10_count_114 : decode cX10_count 114 = .ok (.aload_n 0, 1) := by decide +kernel
theorem dX10_count_115 : decode cX10_count 115 = .ok (.getfield 120, 3) := by decide +kernel
theorem dX10_count_118 : decode cX10_count 118 = .ok (.aload_n 0, 1) := by decide +kernel
theorem dX10_count_119 : decode cX10_count 119 = .ok (.getfield 283, 3) := by decide +kernel
theorem dX10_count_122 : decode cX10_count 122 = .ok (.iaload, 1) := by decide +kernel
theorem dX10_count_123 : decode cX10_count 123 = .ok (.ireturn, 1) := by decide +kernel
theorem dX10_count_124 : decode cX10_count 124 = .ok (.aload_n 0, 1) := by decide +kernel
theorem dX10_count_125 : decode cX10_count 125 = .ok (.aload_n 0, 1) := by decide +kernel
theorem dX10_count_126 : decode cX10_count 126 = .ok (.getfield 283, 3) := by decide +kernel
theorem dX10_count_129 : decode cX10_count 129 = .ok (.invokevirtual 293, 3) := by decide +kernel
theorem dX10_count_132 : decode cX10_count 132 = .ok (.ireturn, 1) := by decide +kernel
theorem dX10_count_133 : decode cX10_count 133 = .ok (.aload_n 0, 1) := by decide +kernel
theorem dX10_count_134 : decode cX10_count 134 = .ok (.getfield 246, 3) := by decide +kernel
theorem dX10_count_137 : decode cX10_count 137 = .ok (.ireturn, 1) := by decide +kernel
theorem dX10_count_138 : decode cX10_count 138 = .ok (.aload_n 0, 1) := by decide +kernel
theorem dX10_count_139 : decode cX10_count 139 = .ok (.getfield 80, 3) := by decide +kernel
theorem dX10_count_142 : decode cX10_count 142 = .ok (.aload_n 0, 1) := by decide +kernel
theorem dX10_count_143 : decode cX10_count 143 = .ok (.getfield 246, 3) := by decide +kernel
theorem dX10_count_146 : decode cX10_count 146 = .ok (.iaload, 1) := by decide +kernel
theorem dX10_count_147 : decode cX10_count 147 = .ok (.ireturn, 1) := by decide +kernel
theorem dX10_count_148 : decode cX10_count 148 = .ok (.aload_n 0, 1) := by decide +kernel
theorem dX10_count_149 : decode cX10_count 149 = .ok (.getfield 11, 3) := by decide +kernel
theorem dX10_count_152 : decode cX10_count 152 = .ok (.ireturn, 1) := by decide +kernel
theorem dX10_count_153 : decode cX10_count 153 = .ok (.iload_n 2, 1) := by decide +kernel
theorem dX10_count_154 : decode cX10_count 154 = .ok (.ireturn, 1) := by decide +kernel
theorem dX10_count_155 : decode cX10_count 155 = .ok (.iconst (-1), 1) := by decide +kernel
theorem dX10_count_156 : decode cX10_count 156 = .ok (.ireturn, 1) := by decide +kernel
theorem dJ0_length_8abf5_0 : decode cJ0_length_8abf5 0 = .ok (.aload_n 0, 1) := by decide +kernel
theorem dJ0_length_8abf5_1 : decode cJ0_length_8abf5 1 = .ok (.getfield 9, 3) := by decide +kernel
theorem dJ0_length_8abf5_4 : decode cJ0_length_8abf5 4 = .ok (.arraylength, 1) := by decide +kernel
theorem dJ0_length_8abf5_5 : decode cJ0_length_8abf5 5 = .ok (.aload_n 0, 1) := by decide +kernel
theorem dJ0_length_8abf5_6 : decode cJ0_length_8abf5 6 = .ok (.invokevirtual 335, 3) := by decide +kernel
theorem dJ0_length_8abf5_9 : decode cJ0_length_8abf5 9 = .ok (.ishr, 1) := by decide +kernel
theorem dJ0_length_8abf5_10 : decode cJ0_length_8abf5 10 = .ok (.ireturn, 1) := by decide +kernel
theorem dJ0_charAt_5068e_0 : decode cJ0_charAt_5068e 0 = .ok (.aload_n 0, 1) := by decide +kernel
theorem dJ0_charAt_5068e_1 : decode cJ0_charAt_5068e 1 = .ok (.invokevirtual 492, 3) := by decide +kernel
theorem dJ0_charAt_5068e_4 : decode cJ0_charAt_5068e 4 = .ok (.ifCond .eq 12, 3) := by decide +kernel
theorem dJ0_charAt_5068e_7 : decode cJ0_charAt_5068e 7 = .ok (.aload_n 0, 1) := by decide +kernel
theorem dJ0_charAt_5068e_8 : decode cJ0_charAt_5068e 8 = .ok (.getfield 9, 3) := by decide +kernel
theorem dJ0_charAt_5068e_11 : decode cJ0_charAt_5068e 11 = .ok (.iload_n 1, 1) := by decide +kernel
theorem dJ0_charAt_5068e_12 : decode cJ0_charAt_5068e 12 = .ok (.invokestatic 495, 3) := by decide +kernel
theorem dJ0_charAt_5068e_15 : decode cJ0_charAt_5068e 15 = .ok (.ireturn, 1) := by decide +kernel
theorem dJ0_charAt_5068e_16 : decode cJ0_charAt_5068e 16 = .ok (.aload_n 0, 1) := by decide +kernel
theorem dJ0_charAt_5068e_17 : decode cJ0_charAt_5068e 17 = .ok (.getfield 9, 3) := by decide +kernel
theorem dJ0_charAt_5068e_20 : decode cJ0_charAt_5068e 20 = .ok (.iload_n 1, 1) := by decide +kernel
theorem dJ0_charAt_5068e_21 : decode cJ0_charAt_5068e 21 = .ok (.invokestatic 498, 3) := by decide +kernel
theorem dJ0_charAt_5068e_24 : decode cJ0_charAt_5068e 24 = .ok (.ireturn, 1) := by decide +kernel
theorem dJ0_indexOf_0f7a4_0 : decode cJ0_indexOf_0f7a4 0 = .ok (.aload_n 0, 1) := by decide +kernel
theorem dJ0_indexOf_0f7a4_1 : decode cJ0_indexOf_0f7a4 1 = .ok (.iload_n 1, 1) := by decide +kernel
theorem dJ0_indexOf_0f7a4_2 : decode cJ0_indexOf_0f7a4 2 = .ok (.iconst 0, 1) := by decide +kernel
theorem dJ0_indexOf_0f7a4_3 : decode cJ0_indexOf_0f7a4 3 = .ok (.invokevirtual 633, 3) := by decide +kernel
theorem dJ0_indexOf_0f7a4_6 : decode cJ0_indexOf_0f7a4 6 = .ok (.ireturn, 1) := by decide +kernel
theorem dJ0_indexOf_7cf53_0 : decode cJ0_indexOf_7cf53 0 = .ok (.aload_n 0, 1) := by decide +kernel
theorem dJ0_indexOf_7cf53_1 : decode cJ0_indexOf_7cf53 1 = .ok (.invokevirtual 492, 3) := by decide +kernel
theorem dJ0_indexOf_7cf53_4 : decode cJ0_indexOf_7cf53 4 = .ok (.ifCond .eq 19, 3) := by decide +kernel
theorem dJ0_indexOf_7cf53_7 : decode cJ0_indexOf_7cf53 7 = .ok (.aload_n 0, 1) := by decide +kernel
theorem dJ0_indexOf_7cf53_8 : decode cJ0_indexOf_7cf53 8 = .ok (.getfield 9, 3) := by decide +kernel
theorem dJ0_indexOf_7cf53_11 : decode cJ0_indexOf_7cf53 11 = .ok (.iload_n 1, 1) := by decide +kernel
theorem dJ0_indexOf_7cf53_12 : decode cJ0_indexOf_7cf53 12 = .ok (.iload_n 2, 1) := by decide +kernel
theorem dJ0_indexOf_7cf53_13 : decode cJ0_indexOf_7cf53 13 = .ok (.aload_n 0, 1) := by decide +kernel
theorem dJ0_indexOf_7cf53_14 : decode cJ0_indexOf_7cf53 14 = .ok (.invokevirtual 505, 3) := by decide +kernel
theorem dJ0_indexOf_7cf53_17 : decode cJ0_indexOf_7cf53 17 = .ok (.invokestatic 637, 3) := by decide +kernel
theorem dJ0_indexOf_7cf53_20 : decode cJ0_indexOf_7cf53 20 = .ok (.goto 16, 3) := by decide +kernel
theorem dJ0_indexOf_7cf53_23 : decode cJ0_indexOf_7cf53 23 = .ok (.aload_n 0, 1) := by decide +kernel
theorem dJ0_indexOf_7cf53_24 : decode cJ0_indexOf_7cf53 24 = .ok (.getfield 9, 3) := by decide +kernel
theorem dJ0_indexOf_7cf53_27 : decode cJ0_indexOf_7cf53 27 = .ok (.iload_n 1, 1) := by decide +kernel
theorem dJ0_indexOf_7cf53_28 : decode cJ0_indexOf_7cf53 28 = .ok (.iload_n 2, 1) := by decide +kernel
theorem dJ0_indexOf_7cf53_29 : decode cJ0_indexOf_7cf53 29 = .ok (.aload_n 0, 1) := by decide +kernel
theorem dJ0_indexOf_7cf53_30 : decode cJ0_indexOf_7cf53 30 = .ok (.invokevirtual 505, 3) := by decide +kernel
theorem dJ0_indexOf_7cf53_33 : decode cJ0_indexOf_7cf53 33 = .ok (.invokestatic 640, 3) := by decide +kernel
theorem dJ0_indexOf_7cf53_36 : decode cJ0_indexOf_7cf53 36 = .ok (.ireturn, 1) := by decide +kernel
theorem dJ0_coder_7d493_0 : decode cJ0_coder_7d493 0 = .ok (.getstatic 38, 3) := by decide +kernel
theorem dJ0_coder_7d493_3 : decode cJ0_coder_7d493 3 = .ok (.ifCond .eq 10, 3) := by decide +kernel
theorem dJ0_coder_7d493_6 : decode cJ0_coder_7d493 6 = .ok (.aload_n 0, 1) := by decide +kernel
theorem dJ0_coder_7d493_7 : decode cJ0_coder_7d493 7 = .ok (.getfield 15, 3) := by decide +kernel
theorem dJ0_coder_7d493_10 : decode cJ0_coder_7d493 10 = .ok (.goto 4, 3) := by decide +kernel
theorem dJ0_coder_7d493_13 : decode cJ0_coder_7d493 13 = .ok (.iconst 1, 1) := by decide +kernel
theorem dJ0_coder_7d493_14 : decode cJ0_coder_7d493 14 = .ok (.ireturn, 1) := by decide +kernel
theorem dJ0_isLatin1_aae02_0 : decode cJ0_isLatin1_aae02 0 = .ok (.getstatic 38, 3) := by decide +kernel
theorem dJ0_isLatin1_aae02_3 : decode cJ0_isLatin1_aae02 3 = .ok (.ifCond .eq 14, 3) := by decide +kernel
theorem dJ0_isLatin1_aae02_6 : decode cJ0_isLatin1_aae02 6 = .ok (.aload_n 0, 1) := by decide +kernel
theorem dJ0_isLatin1_aae02_7 : decode cJ0_isLatin1_aae02 7 = .ok (.getfield 15, 3) := by decide +kernel
theorem dJ0_isLatin1_aae02_10 : decode cJ0_isLatin1_aae02 10 = .ok (.ifCond .ne 7, 3) := by decide +kernel
theorem dJ0_isLatin1_aae02_13 : decode cJ0_isLatin1_aae02 13 = .ok (.iconst 1, 1) := by decide +kernel
theorem dJ0_isLatin1_aae02_14 : decode cJ0_isLatin1_aae02 14 = .ok (.goto 4, 3) := by decide +kernel
theorem dJ0_isLatin1_aae02_17 : decode cJ0_isLatin1_aae02 17 = .ok (.iconst 0, 1) := by decide +kernel
theorem dJ0_isLatin1_aae02_18 : decode cJ0_isLatin1_aae02 18 = .ok (.ireturn, 1) := by decide +kernel
theorem dJ0_checkIndex_df160_0 : decode cJ0_checkIndex_df160 0 = .ok (.iload_n 0, 1) := by decide +kernel
theorem dJ0_checkIndex_df160_1 : decode cJ0_checkIndex_df160 1 = .ok (.iload_n 1, 1) := by decide +kernel
theorem dJ0_checkIndex_df160_2 : decode cJ0_checkIndex_df160 2 = .ok (.getstatic 1053, 3) := by decide +kernel
theorem dJ0_checkIndex_df160_5 : decode cJ0_checkIndex_df160 5 = .ok (.invokestatic 1059, 3) := by decide +kernel
theorem dJ0_checkIndex_df160_8 : decode cJ0_checkIndex_df160 8 = .ok (.pop, 1) := by decide +kernel
theorem dJ0_checkIndex_df160_9 : decode cJ0_checkIndex_df160 9 = .ok (.return_, 1) := by decide +kernel
theorem dJ0_checkBoundsBeginEnd_23922_0 : decode cJ0_checkBoundsBeginEnd_23922 0 = .ok (.iload_n 0, 1) := by decide +kernel
theorem dJ0_checkBoundsBeginEnd_23922_1 : decode cJ0_checkBoundsBeginEnd_23922 1 = .ok (.iload_n 1, 1) := by decide +kernel
theorem dJ0_checkBoundsBeginEnd_23922_2 : decode cJ0_checkBoundsBeginEnd_23922 2 = .ok (.iload_n 2, 1) := by decide +kernel
theorem dJ0_checkBoundsBeginEnd_23922_3 : decode cJ0_checkBoundsBeginEnd_23922 3 = .ok (.getstatic 1053, 3) := by decide +kernel
theorem dJ0_checkBoundsBeginEnd_23922_6 : decode cJ0_checkBoundsBeginEnd_23922 6 = .ok (.invokestatic 1062, 3) := by decide +kernel
theorem dJ0_checkBoundsBeginEnd_23922_9 : decode cJ0_checkBoundsBeginEnd_23922 9 = .ok (.pop, 1) := by decide +kernel
theorem dJ0_checkBoundsBeginEnd_23922_10 : decode cJ0_checkBoundsBeginEnd_23922 10 = .ok (.return_, 1) := by decide +kernel
theorem dJ1_charAt_3b067_0 : decode cJ1_charAt_3b067 0 = .ok (.iload_n 1, 1) := by decide +kernel
theorem dJ1_charAt_3b067_1 : decode cJ1_charAt_3b067 1 = .ok (.aload_n 0, 1) := by decide +kernel
theorem dJ1_charAt_3b067_2 : decode cJ1_charAt_3b067 2 = .ok (.arraylength, 1) := by decide +kernel
theorem dJ1_charAt_3b067_3 : decode cJ1_charAt_3b067 3 = .ok (.invokestatic 9, 3) := by decide +kernel
theorem dJ1_charAt_3b067_6 : decode cJ1_charAt_3b067 6 = .ok (.aload_n 0, 1) := by decide +kernel
theorem dJ1_charAt_3b067_7 : decode cJ1_charAt_3b067 7 = .ok (.iload_n 1, 1) := by decide +kernel
theorem dJ1_charAt_3b067_8 : decode cJ1_charAt_3b067 8 = .ok (.baload, 1) := by decide +kernel
theorem dJ1_charAt_3b067_9 : decode cJ1_charAt_3b067 9 = .ok (.sipush 255, 3) := by decide +kernel
theorem dJ1_charAt_3b067_12 : decode cJ1_charAt_3b067 12 = .ok (.iand, 1) := by decide +kernel
theorem dJ1_charAt_3b067_13 : decode cJ1_charAt_3b067 13 = .ok (.i2c, 1) := by decide +kernel
theorem dJ1_charAt_3b067_14 : decode cJ1_charAt_3b067 14 = .ok (.ireturn, 1) := by decide +kernel
theorem dJ1_canEncode_9a6ad_0 : decode cJ1_canEncode_9a6ad 0 = .ok (.iload_n 0, 1) := by decide +kernel
theorem dJ1_canEncode_9a6ad_1 : decode cJ1_canEncode_9a6ad 1 = .ok (.ifCond .lt 14, 3) := by decide +kernel
theorem dJ1_canEncode_9a6ad_4 : decode cJ1_canEncode_9a6ad 4 = .ok (.iload_n 0, 1) := by decide +kernel
theorem dJ1_canEncode_9a6ad_5 : decode cJ1_canEncode_9a6ad 5 = .ok (.sipush 255, 3) := by decide +kernel
theorem dJ1_canEncode_9a6ad_8 : decode cJ1_canEncode_9a6ad 8 = .ok (.if_icmp .gt 7, 3) := by decide +kernel
theorem dJ1_canEncode_9a6ad_11 : decode cJ1_canEncode_9a6ad 11 = .ok (.iconst 1, 1) := by decide +kernel
theorem dJ1_canEncode_9a6ad_12 : decode cJ1_canEncode_9a6ad 12 = .ok (.goto 4, 3) := by decide +kernel
theorem dJ1_canEncode_9a6ad_15 : decode cJ1_canEncode_9a6ad 15 = .ok (.iconst 0, 1) := by decide +kernel
theorem dJ1_canEncode_9a6ad_16 : decode cJ1_canEncode_9a6ad 16 = .ok (.ireturn, 1) := by decide +kernel
theorem dJ1_indexOf_4cfef_0 : decode cJ1_indexOf_4cfef 0 = .ok (.iload_n 1, 1) := by decide +kernel
theorem dJ1_indexOf_4cfef_1 : decode cJ1_indexOf_4cfef 1 = .ok (.invokestatic 88, 3) := by decide +kernel
theorem dJ1_indexOf_4cfef_4 : decode cJ1_indexOf_4cfef 4 = .ok (.ifCond .ne 5, 3) := by decide +kernel
theorem dJ1_indexOf_4cfef_7 : decode cJ1_indexOf_4cfef 7 = .ok (.iconst (-1), 1) := by decide +kernel
theorem dJ1_indexOf_4cfef_8 : decode cJ1_indexOf_4cfef 8 = .ok (.ireturn, 1) := by decide +kernel
theorem dJ1_indexOf_4cfef_9 : decode cJ1_indexOf_4cfef 9 = .ok (.iload_n 2, 1) := by decide +kernel
theorem dJ1_indexOf_4cfef_10 : decode cJ1_indexOf_4cfef 10 = .ok (.iconst 0, 1) := by decide +kernel
theorem dJ1_indexOf_4cfef_11 : decode cJ1_indexOf_4cfef 11 = .ok (.invokestatic 92, 3) := by decide +kernel
theorem dJ1_indexOf_4cfef_14 : decode cJ1_indexOf_4cfef 14 = .ok (.istore_n 2, 1) := by decide +kernel
theorem dJ1_indexOf_4cfef_15 : decode cJ1_indexOf_4cfef 15 = .ok (.iload_n 3, 1) := by decide +kernel
theorem dJ1_indexOf_4cfef_16 : decode cJ1_indexOf_4cfef 16 = .ok (.aload_n 0, 1) := by decide +kernel
theorem dJ1_indexOf_4cfef_17 : decode cJ1_indexOf_4cfef 17 = .ok (.arraylength, 1) := by decide +kernel
theorem dJ1_indexOf_4cfef_18 : decode cJ1_indexOf_4cfef 18 = .ok (.invokestatic 38, 3) := by decide +kernel
theorem dJ1_indexOf_4cfef_21 : decode cJ1_indexOf_4cfef 21 = .ok (.istore_n 3, 1) := by decide +kernel
theorem dJ1_indexOf_4cfef_22 : decode cJ1_indexOf_4cfef 22 = .ok (.iload_n 2, 1) := by decide +kernel
theorem dJ1_indexOf_4cfef_23 : decode cJ1_indexOf_4cfef 23 = .ok (.iload_n 3, 1) := by decide +kernel
theorem dJ1_indexOf_4cfef_24 : decode cJ1_indexOf_4cfef 24 = .ok (.if_icmp .lt 5, 3) := by decide +kernel
theorem dJ1_indexOf_4cfef_27 : decode cJ1_indexOf_4cfef 27 = .ok (.iconst (-1), 1) := by decide +kernel
theorem dJ1_indexOf_4cfef_28 : decode cJ1_indexOf_4cfef 28 = .ok (.ireturn, 1) := by decide +kernel
theorem dJ1_indexOf_4cfef_29 : decode cJ1_indexOf_4cfef 29 = .ok (.aload_n 0, 1) := by decide +kernel
theorem dJ1_indexOf_4cfef_30 : decode cJ1_indexOf_4cfef 30 = .ok (.iload_n 1, 1) := by decide +kernel
theorem dJ1_indexOf_4cfef_31 : decode cJ1_indexOf_4cfef 31 = .ok (.iload_n 2, 1) := by decide +kernel
theorem dJ1_indexOf_4cfef_32 : decode cJ1_indexOf_4cfef 32 = .ok (.iload_n 3, 1) := by decide +kernel
theorem dJ1_indexOf_4cfef_33 : decode cJ1_indexOf_4cfef 33 = .ok (.invokestatic 95, 3) := by decide +kernel
theorem dJ1_indexOf_4cfef_36 : decode cJ1_indexOf_4cfef 36 = .ok (.ireturn, 1) := by decide +kernel
theorem dJ1_indexOfChar_4cfef_0 : decode cJ1_indexOfChar_4cfef 0 = .ok (.iload_n 1, 1) := by decide +kernel
theorem dJ1_indexOfChar_4cfef_1 : decode cJ1_indexOfChar_4cfef 1 = .ok (.i2b, 1) := by decide +kernel
theorem dJ1_indexOfChar_4cfef_2 : decode cJ1_indexOfChar_4cfef 2 = .ok (.istore 4, 2) := by decide +kernel
theorem dJ1_indexOfChar_4cfef_4 : decode cJ1_indexOfChar_4cfef 4 = .ok (.iload_n 2, 1) := by decide +kernel
theorem dJ1_indexOfChar_4cfef_5 : decode cJ1_indexOfChar_4cfef 5 = .ok (.istore 5, 2) := by decide +kernel
theorem dJ1_indexOfChar_4cfef_7 : decode cJ1_indexOfChar_4cfef 7 = .ok (.iload 5, 2) := by decide +kernel
theorem dJ1_indexOfChar_4cfef_9 : decode cJ1_indexOfChar_4cfef 9 = .ok (.iload_n 3, 1) := by decide +kernel
theorem dJ1_indexOfChar_4cfef_10 : decode cJ1_indexOfChar_4cfef 10 = .ok (.if_icmp .ge 21, 3) := by decide +kernel
theorem dJ1_indexOfChar_4cfef_13 : decode cJ1_indexOfChar_4cfef 13 = .ok (.aload_n 0, 1) := by decide +kernel
theorem dJ1_indexOfChar_4cfef_14 : decode cJ1_indexOfChar_4cfef 14 = .ok (.iload 5, 2) := by decide +kernel
theorem dJ1_indexOfChar_4cfef_16 : decode cJ1_indexOfChar_4cfef 16 = .ok (.baload, 1) := by decide +kernel
theorem dJ1_indexOfChar_4cfef_17 : decode cJ1_indexOfChar_4cfef 17 = .ok (.iload 4, 2) := by decide +kernel
theorem dJ1_indexOfChar_4cfef_19 : decode cJ1_indexOfChar_4cfef 19 = .ok (.if_icmp .ne 6, 3) := by decide +kernel
theorem dJ1_indexOfChar_4cfef_22 : decode cJ1_indexOfChar_4cfef 22 = .ok (.iload 5, 2) := by decide +kernel
theorem dJ1_indexOfChar_4cfef_24 : decode cJ1_indexOfChar_4cfef 24 = .ok (.ireturn, 1) := by decide +kernel
theorem dJ1_indexOfChar_4cfef_25 : decode cJ1_indexOfChar_4cfef 25 = .ok (.iinc 5 1, 3) := by decide +kernel
theorem dJ1_indexOfChar_4cfef_28 : decode cJ1_indexOfChar_4cfef 28 = .ok (.goto (-21), 3) := by decide +kernel
theorem dJ1_indexOfChar_4cfef_31 : decode cJ1_indexOfChar_4cfef 31 = .ok (.iconst (-1), 1) := by decide +kernel
theorem dJ1_indexOfChar_4cfef_32 : decode cJ1_indexOfChar_4cfef 32 = .ok (.ireturn, 1) := by decide +kernel
theorem dJ7_fill_53178_0 : decode cJ7_fill_53178 0 = .ok (.iconst 0, 1) := by decide +kernel
theorem dJ7_fill_53178_1 : decode cJ7_fill_53178 1 = .ok (.istore_n 2, 1) := by decide +kernel
theorem dJ7_fill_53178_2 : decode cJ7_fill_53178 2 = .ok (.aload_n 0, 1) := by decide +kernel
theorem dJ7_fill_53178_3 : decode cJ7_fill_53178 3 = .ok (.arraylength, 1) := by decide +kernel
theorem dJ7_fill_53178_4 : decode cJ7_fill_53178 4 = .ok (.istore_n 3, 1) := by decide +kernel
theorem dJ7_fill_53178_5 : decode cJ7_fill_53178 5 = .ok (.iload_n 2, 1) := by decide +kernel
theorem dJ7_fill_53178_6 : decode cJ7_fill_53178 6 = .ok (.iload_n 3, 1) := by decide +kernel
theorem dJ7_fill_53178_7 : decode cJ7_fill_53178 7 = .ok (.if_icmp .ge 13, 3) := by decide +kernel
theorem dJ7_fill_53178_10 : decode cJ7_fill_53178 10 = .ok (.aload_n 0, 1) := by decide +kernel
theorem dJ7_fill_53178_11 : decode cJ7_fill_53178 11 = .ok (.iload_n 2, 1) := by decide +kernel
theorem dJ7_fill_53178_12 : decode cJ7_fill_53178 12 = .ok (.iload_n 1, 1) := by decide +kernel
theorem dJ7_fill_53178_13 : decode cJ7_fill_53178 13 = .ok (.iastore, 1) := by decide +kernel
theorem dJ7_fill_53178_14 : decode cJ7_fill_53178 14 = .ok (.iinc 2 1, 3) := by decide +kernel
theorem dJ7_fill_53178_17 : decode cJ7_fill_53178 17 = .ok (.goto (-12), 3) := by decide +kernel
theorem dJ7_fill_53178_20 : decode cJ7_fill_53178 20 = .ok (.return_, 1) := by decide +kernel
theorem dJ3_checkIndex_8e157_0 : decode cJ3_checkIndex_8e157 0 = .ok (.iload_n 0, 1) := by decide +kernel
theorem dJ3_checkIndex_8e157_1 : decode cJ3_checkIndex_8e157 1 = .ok (.ifCond .lt 8, 3) := by decide +kernel
theorem dJ3_checkIndex_8e157_4 : decode cJ3_checkIndex_8e157 4 = .ok (.iload_n 0, 1) := by decide +kernel
theorem dJ3_checkIndex_8e157_5 : decode cJ3_checkIndex_8e157 5 = .ok (.iload_n 1, 1) := by decide +kernel
theorem dJ3_checkIndex_8e157_6 : decode cJ3_checkIndex_8e157 6 = .ok (.if_icmp .lt 10, 3) := by decide +kernel
theorem dJ3_checkIndex_8e157_9 : decode cJ3_checkIndex_8e157 9 = .ok (.aload_n 2, 1) := by decide +kernel
theorem dJ3_checkIndex_8e157_10 : decode cJ3_checkIndex_8e157 10 = .ok (.iload_n 0, 1) := by decide +kernel
theorem dJ3_checkIndex_8e157_11 : decode cJ3_checkIndex_8e157 11 = .ok (.iload_n 1, 1) := by decide +kernel
theorem dJ3_checkIndex_8e157_12 : decode cJ3_checkIndex_8e157 12 = .ok (.invokestatic 95, 3) := by decide +kernel
theorem dJ3_checkIndex_8e157_15 : decode cJ3_checkIndex_8e157 15 = .ok (.athrow, 1) := by decide +kernel
theorem dJ3_checkIndex_8e157_16 : decode cJ3_checkIndex_8e157 16 = .ok (.iload_n 0, 1) := by decide +kernel
theorem dJ3_checkIndex_8e157_17 : decode cJ3_checkIndex_8e157 17 = .ok (.ireturn, 1) := by decide +kernel
theorem dJ3_checkFromToIndex_8c36e_0 : decode cJ3_checkFromToIndex_8c36e 0 = .ok (.iload_n 0, 1) := by decide +kernel
theorem dJ3_checkFromToIndex_8c36e_1 : decode cJ3_checkFromToIndex_8c36e 1 = .ok (.ifCond .lt 13, 3) := by decide +kernel
theorem dJ3_checkFromToIndex_8c36e_4 : decode cJ3_checkFromToIndex_8c36e 4 = .ok (.iload_n 0, 1) := by decide +kernel
theorem dJ3_checkFromToIndex_8c36e_5 : decode cJ3_checkFromToIndex_8c36e 5 = .ok (.iload_n 1, 1) := by decide +kernel
theorem dJ3_checkFromToIndex_8c36e_6 : decode cJ3_checkFromToIndex_8c36e 6 = .ok (.if_icmp .gt 8, 3) := by decide +kernel
theorem dJ3_checkFromToIndex_8c36e_9 : decode cJ3_checkFromToIndex_8c36e 9 = .ok (.iload_n 1, 1) := by decide +kernel
theorem dJ3_checkFromToIndex_8c36e_10 : decode cJ3_checkFromToIndex_8c36e 10 = .ok (.iload_n 2, 1) := by decide +kernel
theorem dJ3_checkFromToIndex_8c36e_11 : decode cJ3_checkFromToIndex_8c36e 11 = .ok (.if_icmp .le 11, 3) := by decide +kernel
theorem dJ3_checkFromToIndex_8c36e_14 : decode cJ3_checkFromToIndex_8c36e 14 = .ok (.aload_n 3, 1) := by decide +kernel
theorem dJ3_checkFromToIndex_8c36e_15 : decode cJ3_checkFromToIndex_8c36e 15 = .ok (.iload_n 0, 1) := by decide +kernel
theorem dJ3_checkFromToIndex_8c36e_16 : decode cJ3_checkFromToIndex_8c36e 16 = .ok (.iload_n 1, 1) := by decide +kernel
theorem dJ3_checkFromToIndex_8c36e_17 : decode cJ3_checkFromToIndex_8c36e 17 = .ok (.iload_n 2, 1) := by decide +kernel
theorem dJ3_checkFromToIndex_8c36e_18 : decode cJ3_checkFromToIndex_8c36e 18 = .ok (.invokestatic 99, 3) := by decide +kernel
theorem dJ3_checkFromToIndex_8c36e_21 : decode cJ3_checkFromToIndex_8c36e 21 = .ok (.athrow, 1) := by decide +kernel
theorem dJ3_checkFromToIndex_8c36e_22 : decode cJ3_checkFromToIndex_8c36e 22 = .ok (.iload_n 0, 1) := by decide +kernel
theorem dJ3_checkFromToIndex_8c36e_23 : decode cJ3_checkFromToIndex_8c36e 23 = .ok (.ireturn, 1) := by decide +kernel
theorem dL_shape_0 : decode cL_shape 0 = .ok (.aload_n 3, 1) := by decide +kernel
theorem dL_shape_1 : decode cL_shape 1 = .ok (.iconst 0, 1) := by decide +kernel
theorem dL_shape_2 : decode cL_shape 2 = .ok (.aload_n 0, 1) := by decide +kernel
theorem dL_shape_3 : decode cL_shape 3 = .ok (.iload_n 1, 1) := by decide +kernel
theorem dL_shape_4 : decode cL_shape 4 = .ok (.iload_n 2, 1) := by decide +kernel
theorem dL_shape_5 : decode cL_shape 5 = .ok (.invokevirtual 7, 3) := by decide +kernel
theorem dL_shape_8 : decode cL_shape 8 = .ok (.i2l, 1) := by decide +kernel
theorem dL_shape_9 : decode cL_shape 9 = .ok (.lastore, 1) := by decide +kernel
theorem dL_shape_10 : decode cL_shape 10 = .ok (.goto 7, 3) := by decide +kernel
theorem dL_shape_13 : decode cL_shape 13 = .ok (.astore 4, 2) := by decide +kernel
theorem dL_shape_15 : decode cL_shape 15 = .ok (.iconst 1, 1) := by decide +kernel
theorem dL_shape_16 : decode cL_shape 16 = .ok (.ireturn, 1) := by decide +kernel
theorem dL_shape_17 : decode cL_shape 17 = .ok (.iconst 0, 1) := by decide +kernel
theorem dL_shape_18 : decode cL_shape 18 = .ok (.ireturn, 1) := by decide +kernel
theorem dL_law_0 : decode cL_law 0 = .ok (.new 8, 3) := by decide +kernel
theorem dL_law_3 : decode cL_law 3 = .ok (.dup, 1) := by decide +kernel
theorem dL_law_4 : decode cL_law 4 = .ok (.invokespecial 15, 3) := by decide +kernel
theorem dL_law_7 : decode cL_law 7 = .ok (.astore_n 1, 1) := by decide +kernel
theorem dL_law_8 : decode cL_law 8 = .ok (.new 16, 3) := by decide +kernel
theorem dL_law_11 : decode cL_law 11 = .ok (.dup, 1) := by decide +kernel
theorem dL_law_12 : decode cL_law 12 = .ok (.invokespecial 18, 3) := by decide +kernel
theorem dL_law_15 : decode cL_law 15 = .ok (.astore_n 2, 1) := by decide +kernel
theorem dL_law_16 : decode cL_law 16 = .ok (.iconst 1, 1) := by decide +kernel
theorem dL_law_17 : decode cL_law 17 = .ok (.newarray .long, 2) := by decide +kernel
theorem dL_law_19 : decode cL_law 19 = .ok (.astore_n 3, 1) := by decide +kernel
theorem dL_law_20 : decode cL_law 20 = .ok (.iconst 0, 1) := by decide +kernel
theorem dL_law_21 : decode cL_law 21 = .ok (.istore 4, 2) := by decide +kernel
theorem dL_law_23 : decode cL_law 23 = .ok (.iload 4, 2) := by decide +kernel
theorem dL_law_25 : decode cL_law 25 = .ok (.aload_n 0, 1) := by decide +kernel
theorem dL_law_26 : decode cL_law 26 = .ok (.arraylength, 1) := by decide +kernel
theorem dL_law_27 : decode cL_law 27 = .ok (.bipush 7, 2) := by decide +kernel
theorem dL_law_29 : decode cL_law 29 = .ok (.isub, 1) := by decide +kernel
theorem dL_law_30 : decode cL_law 30 = .ok (.if_icmp .gt 953, 3) := by decide +kernel
theorem dL_law_33 : decode cL_law 33 = .ok (.aload_n 0, 1) := by decide +kernel
theorem dL_law_34 : decode cL_law 34 = .ok (.iload 4, 2) := by decide +kernel
theorem dL_law_36 : decode cL_law 36 = .ok (.iaload, 1) := by decide +kernel
theorem dL_law_37 : decode cL_law 37 = .ok (.bipush 31, 2) := by decide +kernel
theorem dL_law_39 : decode cL_law 39 = .ok (.iand, 1) := by decide +kernel
theorem dL_law_40 : decode cL_law 40 = .ok (.tableswitch 937 0 17 #[88, 193, 312, 325, 350, 375, 400, 461, 608, 621, 670, 707, 720, 757, 825, 838, 875, 912], 88) := by decide +kernel
theorem dL_law_128 : decode cL_law 128 = .ok (.aload_n 1, 1) := by decide +kernel
theorem dL_law_129 : decode cL_law 129 = .ok (.aload_n 0, 1) := by decide +kernel
theorem dL_law_130 : decode cL_law 130 = .ok (.iload 4, 2) := by decide +kernel
theorem dL_law_132 : decode cL_law 132 = .ok (.iconst 1, 1) := by decide +kernel
theorem dL_law_133 : decode cL_law 133 = .ok (.iadd, 1) := by decide +kernel
theorem dL_law_134 : decode cL_law 134 = .ok (.iaload, 1) := by decide +kernel
theorem dL_law_135 : decode cL_law 135 = .ok (.aload_n 0, 1) := by decide +kernel
theorem dL_law_136 : decode cL_law 136 = .ok (.iload 4, 2) := by decide +kernel
theorem dL_law_138 : decode cL_law 138 = .ok (.iconst 2, 1) := by decide +kernel
theorem dL_law_139 : decode cL_law 139 = .ok (.iadd, 1) := by decide +kernel
theorem dL_law_140 : decode cL_law 140 = .ok (.iaload, 1) := by decide +kernel
theorem dL_law_141 : decode cL_law 141 = .ok (.aload_n 0, 1) := by decide +kernel
theorem dL_law_142 : decode cL_law 142 = .ok (.iload 4, 2) := by decide +kernel
theorem dL_law_144 : decode cL_law 144 = .ok (.iconst 3, 1) := by decide +kernel
theorem dL_law_145 : decode cL_law 145 = .ok (.iadd, 1) := by decide +kernel
theorem dL_law_146 : decode cL_law 146 = .ok (.iaload, 1) := by decide +kernel
theorem dL_law_147 : decode cL_law 147 = .ok (.aload_n 0, 1) := by decide +kernel
theorem dL_law_148 : decode cL_law 148 = .ok (.iload 4, 2) := by decide +kernel
theorem dL_law_150 : decode cL_law 150 = .ok (.iconst 4, 1) := by decide +kernel
theorem dL_law_151 : decode cL_law 151 = .ok (.iadd, 1) := by decide +kernel
theorem dL_law_152 : decode cL_law 152 = .ok (.iaload, 1) := by decide +kernel
theorem dL_law_153 : decode cL_law 153 = .ok (.ifCond .eq 7, 3) := by decide +kernel
theorem dL_law_156 : decode cL_law 156 = .ok (.iconst 1, 1) := by decide +kernel
theorem dL_law_157 : decode cL_law 157 = .ok (.goto 4, 3) := by decide +kernel
theorem dL_law_160 : decode cL_law 160 = .ok (.iconst 0, 1) := by decide +kernel
theorem dL_law_161 : decode cL_law 161 = .ok (.aload_n 0, 1) := by decide +kernel
theorem dL_law_162 : decode cL_law 162 = .ok (.iload 4, 2) := by decide +kernel
theorem dL_law_164 : decode cL_law 164 = .ok (.iconst 5, 1) := by decide +kernel
theorem dL_law_165 : decode cL_law 165 = .ok (.iadd, 1) := by decide +kernel
theorem dL_law_166 : decode cL_law 166 = .ok (.iaload, 1) := by decide +kernel
theorem dL_law_167 : decode cL_law 167 = .ok (.ifCond .eq 7, 3) := by decide +kernel
theorem dL_law_170 : decode cL_law 170 = .ok (.iconst 1, 1) := by decide +kernel
theorem dL_law_171 : decode cL_law 171 = .ok (.goto 4, 3) := by decide +kernel
theorem dL_law_174 : decode cL_law 174 = .ok (.iconst 0, 1) := by decide +kernel
theorem dL_law_175 : decode cL_law 175 = .ok (.invokevirtual 19, 3) := by decide +kernel
theorem dL_law_178 : decode cL_law 178 = .ok (.aload_n 2, 1) := by decide +kernel
theorem dL_law_179 : decode cL_law 179 = .ok (.aload_n 0, 1) := by decide +kernel
theorem dL_law_180 : decode cL_law 180 = .ok (.iload 4, 2) := by decide +kernel
theorem dL_law_182 : decode cL_law 182 = .ok (.iconst 1, 1) := by decide +kernel
theorem dL_law_183 : decode cL_law 183 = .ok (.iadd, 1) := by decide +kernel
theorem dL_law_184 : decode cL_law 184 = .ok (.iaload, 1) := by decide +kernel
theorem dL_law_185 : decode cL_law 185 = .ok (.aload_n 0, 1) := by decide +kernel
theorem dL_law_186 : decode cL_law 186 = .ok (.iload 4, 2) := by decide +kernel
theorem dL_law_188 : decode cL_law 188 = .ok (.iconst 2, 1) := by decide +kernel
theorem dL_law_189 : decode cL_law 189 = .ok (.iadd, 1) := by decide +kernel
theorem dL_law_190 : decode cL_law 190 = .ok (.iaload, 1) := by decide +kernel
theorem dL_law_191 : decode cL_law 191 = .ok (.aload_n 0, 1) := by decide +kernel
theorem dL_law_192 : decode cL_law 192 = .ok (.iload 4, 2) := by decide +kernel
theorem dL_law_194 : decode cL_law 194 = .ok (.iconst 3, 1) := by decide +kernel
theorem dL_law_195 : decode cL_law 195 = .ok (.iadd, 1) := by decide +kernel
theorem dL_law_196 : decode cL_law 196 = .ok (.iaload, 1) := by decide +kernel
theorem dL_law_197 : decode cL_law 197 = .ok (.aload_n 0, 1) := by decide +kernel
theorem dL_law_198 : decode cL_law 198 = .ok (.iload 4, 2) := by decide +kernel
theorem dL_law_200 : decode cL_law 200 = .ok (.iconst 4, 1) := by decide +kernel
theorem dL_law_201 : decode cL_law 201 = .ok (.iadd, 1) := by decide +kernel
theorem dL_law_202 : decode cL_law 202 = .ok (.iaload, 1) := by decide +kernel
theorem dL_law_203 : decode cL_law 203 = .ok (.ifCond .eq 7, 3) := by decide +kernel
theorem dL_law_206 : decode cL_law 206 = .ok (.iconst 1, 1) := by decide +kernel
theorem dL_law_207 : decode cL_law 207 = .ok (.goto 4, 3) := by decide +kernel
theorem dL_law_210 : decode cL_law 210 = .ok (.iconst 0, 1) := by decide +kernel
theorem dL_law_211 : decode cL_law 211 = .ok (.aload_n 0, 1) := by decide +kernel
theorem dL_law_212 : decode cL_law 212 = .ok (.iload 4, 2) := by decide +kernel
theorem dL_law_214 : decode cL_law 214 = .ok (.iconst 5, 1) := by decide +kernel
theorem dL_law_215 : decode cL_law 215 = .ok (.iadd, 1) := by decide +kernel
theorem dL_law_216 : decode cL_law 216 = .ok (.iaload, 1) := by decide +kernel
theorem dL_law_217 : decode cL_law 217 = .ok (.ifCond .eq 7, 3) := by decide +kernel
theorem dL_law_220 : decode cL_law 220 = .ok (.iconst 1, 1) := by decide +kernel
theorem dL_law_221 : decode cL_law 221 = .ok (.goto 4, 3) := by decide +kernel
theorem dL_law_224 : decode cL_law 224 = .ok (.iconst 0, 1) := by decide +kernel
theorem dL_law_225 : decode cL_law 225 = .ok (.invokevirtual 23, 3) := by decide +kernel
theorem dL_law_228 : decode cL_law 228 = .ok (.if_icmp .eq 749, 3) := by decide +kernel
theorem dL_law_231 : decode cL_law 231 = .ok (.iconst 0, 1) := by decide +kernel
theorem dL_law_232 : decode cL_law 232 = .ok (.ireturn, 1) := by decide +kernel
theorem dL_law_233 : decode cL_law 233 = .ok (.aload_n 1, 1) := by decide +kernel
theorem dL_law_234 : decode cL_law 234 = .ok (.aload_n 0, 1) := by decide +kernel
theorem dL_law_235 : decode cL_law 235 = .ok (.iload 4, 2) := by decide +kernel
theorem dL_law_237 : decode cL_law 237 = .ok (.iconst 1, 1) := by decide +kernel
theorem dL_law_238 : decode cL_law 238 = .ok (.iadd, 1) := by decide +kernel
theorem dL_law_239 : decode cL_law 239 = .ok (.iaload, 1) := by decide +kernel
theorem dL_law_240 : decode cL_law 240 = .ok (.aload_n 0, 1) := by decide +kernel
theorem dL_law_241 : decode cL_law 241 = .ok (.iload 4, 2) := by decide +kernel
theorem dL_law_243 : decode cL_law 243 = .ok (.iconst 2, 1) := by decide +kernel
theorem dL_law_244 : decode cL_law 244 = .ok (.iadd, 1) := by decide +kernel
theorem dL_law_245 : decode cL_law 245 = .ok (.iaload, 1) := by decide +kernel
theorem dL_law_246 : decode cL_law 246 = .ok (.aload_n 0, 1) := by decide +kernel
theorem dL_law_247 : decode cL_law 247 = .ok (.iload 4, 2) := by decide +kernel
theorem dL_law_249 : decode cL_law 249 = .ok (.iconst 3, 1) := by decide +kernel
theorem dL_law_250 : decode cL_law 250 = .ok (.iadd, 1) := by decide +kernel
theorem dL_law_251 : decode cL_law 251 = .ok (.iaload, 1) := by decide +kernel
theorem dL_law_252 : decode cL_law 252 = .ok (.aload_n 0, 1) := by decide +kernel
theorem dL_law_253 : decode cL_law 253 = .ok (.iload 4, 2) := by decide +kernel
theorem dL_law_255 : decode cL_law 255 = .ok (.iconst 4, 1) := by decide +kernel
theorem dL_law_256 : decode cL_law 256 = .ok (.iadd, 1) := by decide +kernel
theorem dL_law_257 : decode cL_law 257 = .ok (.iaload, 1) := by decide +kernel
theorem dL_law_258 : decode cL_law 258 = .ok (.aload_n 0, 1) := by decide +kernel
theorem dL_law_259 : decode cL_law 259 = .ok (.iload 4, 2) := by decide +kernel
theorem dL_law_261 : decode cL_law 261 = .ok (.iconst 5, 1) := by decide +kernel
theorem dL_law_262 : decode cL_law 262 = .ok (.iadd, 1) := by decide +kernel
theorem dL_law_263 : decode cL_law 263 = .ok (.iaload, 1) := by decide +kernel
theorem dL_law_264 : decode cL_law 264 = .ok (.ifCond .eq 7, 3) := by decide +kernel
theorem dL_law_267 : decode cL_law 267 = .ok (.iconst 1, 1) := by decide +kernel
theorem dL_law_268 : decode cL_law 268 = .ok (.goto 4, 3) := by decide +kernel
theorem dL_law_271 : decode cL_law 271 = .ok (.iconst 0, 1) := by decide +kernel
theorem dL_law_272 : decode cL_law 272 = .ok (.aload_n 0, 1) := by decide +kernel
theorem dL_law_273 : decode cL_law 273 = .ok (.iload 4, 2) := by decide +kernel
theorem dL_law_275 : decode cL_law 275 = .ok (.bipush 6, 2) := by decide +kernel
theorem dL_law_277 : decode cL_law 277 = .ok (.iadd, 1) := by decide +kernel
end
section
theorem dL_law_278 : decode cL_law 278 = .ok (.iaload, 1) := by decide +kernel
theorem dL_law_279 : decode cL_law 279 = .ok (.ifCond .eq 7, 3) := by decide +kernel
theorem dL_law_282 : decode cL_law 282 = .ok (.iconst 1, 1) := by decide +kernel
theorem dL_law_283 : decode cL_law 283 = .ok (.goto 4, 3) := by decide +kernel
theorem dL_law_286 : decode cL_law 286 = .ok (.iconst 0, 1) := by decide +kernel
theorem dL_law_287 : decode cL_law 287 = .ok (.invokevirtual 24, 3) := by decide +kernel
theorem dL_law_290 : decode cL_law 290 = .ok (.aload_n 2, 1) := by decide +kernel
theorem dL_law_291 : decode cL_law 291 = .ok (.aload_n 0, 1) := by decide +kernel
theorem dL_law_292 : decode cL_law 292 = .ok (.iload 4, 2) := by decide +kernel
theorem dL_law_294 : decode cL_law 294 = .ok (.iconst 1, 1) := by decide +kernel
theorem dL_law_295 : decode cL_law 295 = .ok (.iadd, 1) := by decide +kernel
theorem dL_law_296 : decode cL_law 296 = .ok (.iaload, 1) := by decide +kernel
theorem dL_law_297 : decode cL_law 297 = .ok (.aload_n 0, 1) := by decide +kernel
theorem dL_law_298 : decode cL_law 298 = .ok (.iload 4, 2) := by decide +kernel
theorem dL_law_300 : decode cL_law 300 = .ok (.iconst 2, 1) := by decide +kernel
theorem dL_law_301 : decode cL_law 301 = .ok (.iadd, 1) := by decide +kernel
theorem dL_law_302 : decode cL_law 302 = .ok (.iaload, 1) := by decide +kernel
theorem dL_law_303 : decode cL_law 303 = .ok (.aload_n 0, 1) := by decide +kernel
theorem dL_law_304 : decode cL_law 304 = .ok (.iload 4, 2) := by decide +kernel
theorem dL_law_306 : decode cL_law 306 = .ok (.iconst 3, 1) := by decide +kernel
theorem dL_law_307 : decode cL_law 307 = .ok (.iadd, 1) := by decide +kernel
theorem dL_law_308 : decode cL_law 308 = .ok (.iaload, 1) := by decide +kernel
theorem dL_law_309 : decode cL_law 309 = .ok (.aload_n 0, 1) := by decide +kernel
theorem dL_law_310 : decode cL_law 310 = .ok (.iload 4, 2) := by decide +kernel
theorem dL_law_312 : decode cL_law 312 = .ok (.iconst 4, 1) := by decide +kernel
theorem dL_law_313 : decode cL_law 313 = .ok (.iadd, 1) := by decide +kernel
theorem dL_law_314 : decode cL_law 314 = .ok (.iaload, 1) := by decide +kernel
theorem dL_law_315 : decode cL_law 315 = .ok (.aload_n 0, 1) := by decide +kernel
theorem dL_law_316 : decode cL_law 316 = .ok (.iload 4, 2) := by decide +kernel
theorem dL_law_318 : decode cL_law 318 = .ok (.iconst 5, 1) := by decide +kernel
theorem dL_law_319 : decode cL_law 319 = .ok (.iadd, 1) := by decide +kernel
theorem dL_law_320 : decode cL_law 320 = .ok (.iaload, 1) := by decide +kernel
theorem dL_law_321 : decode cL_law 321 = .ok (.ifCond .eq 7, 3) := by decide +kernel
theorem dL_law_324 : decode cL_law 324 = .ok (.iconst 1, 1) := by decide +kernel
theorem dL_law_325 : decode cL_law 325 = .ok (.goto 4, 3) := by decide +kernel
theorem dL_law_328 : decode cL_law 328 = .ok (.iconst 0, 1) := by decide +kernel
theorem dL_law_329 : decode cL_law 329 = .ok (.aload_n 0, 1) := by decide +kernel
theorem dL_law_330 : decode cL_law 330 = .ok (.iload 4, 2) := by decide +kernel
theorem dL_law_332 : decode cL_law 332 = .ok (.bipush 6, 2) := by decide +kernel
theorem dL_law_334 : decode cL_law 334 = .ok (.iadd, 1) := by decide +kernel
theorem dL_law_335 : decode cL_law 335 = .ok (.iaload, 1) := by decide +kernel
theorem dL_law_336 : decode cL_law 336 = .ok (.ifCond .eq 7, 3) := by decide +kernel
theorem dL_law_339 : decode cL_law 339 = .ok (.iconst 1, 1) := by decide +kernel
theorem dL_law_340 : decode cL_law 340 = .ok (.goto 4, 3) := by decide +kernel
theorem dL_law_343 : decode cL_law 343 = .ok (.iconst 0, 1) := by decide +kernel
theorem dL_law_344 : decode cL_law 344 = .ok (.invokevirtual 28, 3) := by decide +kernel
theorem dL_law_347 : decode cL_law 347 = .ok (.if_icmp .eq 630, 3) := by decide +kernel
theorem dL_law_350 : decode cL_law 350 = .ok (.iconst 0, 1) := by decide +kernel
theorem dL_law_351 : decode cL_law 351 = .ok (.ireturn, 1) := by decide +kernel
theorem dL_law_352 : decode cL_law 352 = .ok (.aload_n 1, 1) := by decide +kernel
theorem dL_law_353 : decode cL_law 353 = .ok (.invokevirtual 29, 3) := by decide +kernel
theorem dL_law_356 : decode cL_law 356 = .ok (.aload_n 2, 1) := by decide +kernel
theorem dL_law_357 : decode cL_law 357 = .ok (.invokevirtual 33, 3) := by decide +kernel
theorem dL_law_360 : decode cL_law 360 = .ok (.if_icmp .eq 617, 3) := by decide +kernel
theorem dL_law_363 : decode cL_law 363 = .ok (.iconst 0, 1) := by decide +kernel
theorem dL_law_364 : decode cL_law 364 = .ok (.ireturn, 1) := by decide +kernel
theorem dL_law_365 : decode cL_law 365 = .ok (.aload_n 1, 1) := by decide +kernel
theorem dL_law_366 : decode cL_law 366 = .ok (.aload_n 0, 1) := by decide +kernel
theorem dL_law_367 : decode cL_law 367 = .ok (.iload 4, 2) := by decide +kernel
theorem dL_law_369 : decode cL_law 369 = .ok (.iconst 1, 1) := by decide +kernel
theorem dL_law_370 : decode cL_law 370 = .ok (.iadd, 1) := by decide +kernel
theorem dL_law_371 : decode cL_law 371 = .ok (.iaload, 1) := by decide +kernel
theorem dL_law_372 : decode cL_law 372 = .ok (.invokevirtual 34, 3) := by decide +kernel
theorem dL_law_375 : decode cL_law 375 = .ok (.aload_n 2, 1) := by decide +kernel
theorem dL_law_376 : decode cL_law 376 = .ok (.aload_n 0, 1) := by decide +kernel
theorem dL_law_377 : decode cL_law 377 = .ok (.iload 4, 2) := by decide +kernel
theorem dL_law_379 : decode cL_law 379 = .ok (.iconst 1, 1) := by decide +kernel
theorem dL_law_380 : decode cL_law 380 = .ok (.iadd, 1) := by decide +kernel
theorem dL_law_381 : decode cL_law 381 = .ok (.iaload, 1) := by decide +kernel
theorem dL_law_382 : decode cL_law 382 = .ok (.invokevirtual 38, 3) := by decide +kernel
theorem dL_law_385 : decode cL_law 385 = .ok (.if_icmp .eq 592, 3) := by decide +kernel
theorem dL_law_388 : decode cL_law 388 = .ok (.iconst 0, 1) := by decide +kernel
theorem dL_law_389 : decode cL_law 389 = .ok (.ireturn, 1) := by decide +kernel
theorem dL_law_390 : decode cL_law 390 = .ok (.aload_n 1, 1) := by decide +kernel
theorem dL_law_391 : decode cL_law 391 = .ok (.aload_n 0, 1) := by decide +kernel
theorem dL_law_392 : decode cL_law 392 = .ok (.iload 4, 2) := by decide +kernel
theorem dL_law_394 : decode cL_law 394 = .ok (.iconst 1, 1) := by decide +kernel
theorem dL_law_395 : decode cL_law 395 = .ok (.iadd, 1) := by decide +kernel
theorem dL_law_396 : decode cL_law 396 = .ok (.iaload, 1) := by decide +kernel
theorem dL_law_397 : decode cL_law 397 = .ok (.invokevirtual 39, 3) := by decide +kernel
theorem dL_law_400 : decode cL_law 400 = .ok (.aload_n 2, 1) := by decide +kernel
theorem dL_law_401 : decode cL_law 401 = .ok (.aload_n 0, 1) := by decide +kernel
theorem dL_law_402 : decode cL_law 402 = .ok (.iload 4, 2) := by decide +kernel
theorem dL_law_404 : decode cL_law 404 = .ok (.iconst 1, 1) := by decide +kernel
theorem dL_law_405 : decode cL_law 405 = .ok (.iadd, 1) := by decide +kernel
theorem dL_law_406 : decode cL_law 406 = .ok (.iaload, 1) := by decide +kernel
theorem dL_law_407 : decode cL_law 407 = .ok (.invokevirtual 42, 3) := by decide +kernel
theorem dL_law_410 : decode cL_law 410 = .ok (.if_icmp .eq 567, 3) := by decide +kernel
theorem dL_law_413 : decode cL_law 413 = .ok (.iconst 0, 1) := by decide +kernel
theorem dL_law_414 : decode cL_law 414 = .ok (.ireturn, 1) := by decide +kernel
theorem dL_law_415 : decode cL_law 415 = .ok (.aload_n 1, 1) := by decide +kernel
theorem dL_law_416 : decode cL_law 416 = .ok (.aload_n 0, 1) := by decide +kernel
theorem dL_law_417 : decode cL_law 417 = .ok (.iload 4, 2) := by decide +kernel
theorem dL_law_419 : decode cL_law 419 = .ok (.iconst 1, 1) := by decide +kernel
theorem dL_law_420 : decode cL_law 420 = .ok (.iadd, 1) := by decide +kernel
theorem dL_law_421 : decode cL_law 421 = .ok (.iaload, 1) := by decide +kernel
theorem dL_law_422 : decode cL_law 422 = .ok (.invokevirtual 43, 3) := by decide +kernel
theorem dL_law_425 : decode cL_law 425 = .ok (.aload_n 2, 1) := by decide +kernel
theorem dL_law_426 : decode cL_law 426 = .ok (.aload_n 0, 1) := by decide +kernel
theorem dL_law_427 : decode cL_law 427 = .ok (.iload 4, 2) := by decide +kernel
theorem dL_law_429 : decode cL_law 429 = .ok (.iconst 1, 1) := by decide +kernel
theorem dL_law_430 : decode cL_law 430 = .ok (.iadd, 1) := by decide +kernel
theorem dL_law_431 : decode cL_law 431 = .ok (.iaload, 1) := by decide +kernel
theorem dL_law_432 : decode cL_law 432 = .ok (.invokevirtual 46, 3) := by decide +kernel
theorem dL_law_435 : decode cL_law 435 = .ok (.if_icmp .eq 542, 3) := by decide +kernel
theorem dL_law_438 : decode cL_law 438 = .ok (.iconst 0, 1) := by decide +kernel
theorem dL_law_439 : decode cL_law 439 = .ok (.ireturn, 1) := by decide +kernel
theorem dL_law_440 : decode cL_law 440 = .ok (.aload_n 1, 1) := by decide +kernel
theorem dL_law_441 : decode cL_law 441 = .ok (.aload_n 0, 1) := by decide +kernel
theorem dL_law_442 : decode cL_law 442 = .ok (.iload 4, 2) := by decide +kernel
theorem dL_law_444 : decode cL_law 444 = .ok (.iconst 1, 1) := by decide +kernel
theorem dL_law_445 : decode cL_law 445 = .ok (.iadd, 1) := by decide +kernel
theorem dL_law_446 : decode cL_law 446 = .ok (.iaload, 1) := by decide +kernel
theorem dL_law_447 : decode cL_law 447 = .ok (.aload_n 0, 1) := by decide +kernel
theorem dL_law_448 : decode cL_law 448 = .ok (.iload 4, 2) := by decide +kernel
theorem dL_law_450 : decode cL_law 450 = .ok (.iconst 2, 1) := by decide +kernel
theorem dL_law_451 : decode cL_law 451 = .ok (.iadd, 1) := by decide +kernel
theorem dL_law_452 : decode cL_law 452 = .ok (.iaload, 1) := by decide +kernel
theorem dL_law_453 : decode cL_law 453 = .ok (.aload_n 0, 1) := by decide +kernel
theorem dL_law_454 : decode cL_law 454 = .ok (.iload 4, 2) := by decide +kernel
theorem dL_law_456 : decode cL_law 456 = .ok (.iconst 3, 1) := by decide +kernel
theorem dL_law_457 : decode cL_law 457 = .ok (.iadd, 1) := by decide +kernel
theorem dL_law_458 : decode cL_law 458 = .ok (.iaload, 1) := by decide +kernel
theorem dL_law_459 : decode cL_law 459 = .ok (.aload_n 0, 1) := by decide +kernel
theorem dL_law_460 : decode cL_law 460 = .ok (.iload 4, 2) := by decide +kernel
theorem dL_law_462 : decode cL_law 462 = .ok (.iconst 4, 1) := by decide +kernel
theorem dL_law_463 : decode cL_law 463 = .ok (.iadd, 1) := by decide +kernel
theorem dL_law_464 : decode cL_law 464 = .ok (.iaload, 1) := by decide +kernel
theorem dL_law_465 : decode cL_law 465 = .ok (.invokevirtual 47, 3) := by decide +kernel
theorem dL_law_468 : decode cL_law 468 = .ok (.aload_n 2, 1) := by decide +kernel
theorem dL_law_469 : decode cL_law 469 = .ok (.aload_n 0, 1) := by decide +kernel
theorem dL_law_470 : decode cL_law 470 = .ok (.iload 4, 2) := by decide +kernel
theorem dL_law_472 : decode cL_law 472 = .ok (.iconst 1, 1) := by decide +kernel
theorem dL_law_473 : decode cL_law 473 = .ok (.iadd, 1) := by decide +kernel
theorem dL_law_474 : decode cL_law 474 = .ok (.iaload, 1) := by decide +kernel
theorem dL_law_475 : decode cL_law 475 = .ok (.aload_n 0, 1) := by decide +kernel
theorem dL_law_476 : decode cL_law 476 = .ok (.iload 4, 2) := by decide +kernel
theorem dL_law_478 : decode cL_law 478 = .ok (.iconst 2, 1) := by decide +kernel
theorem dL_law_479 : decode cL_law 479 = .ok (.iadd, 1) := by decide +kernel
theorem dL_law_480 : decode cL_law 480 = .ok (.iaload, 1) := by decide +kernel
theorem dL_law_481 : decode cL_law 481 = .ok (.aload_n 0, 1) := by decide +kernel
theorem dL_law_482 : decode cL_law 482 = .ok (.iload 4, 2) := by decide +kernel
theorem dL_law_484 : decode cL_law 484 = .ok (.iconst 3, 1) := by decide +kernel
theorem dL_law_485 : decode cL_law 485 = .ok (.iadd, 1) := by decide +kernel
theorem dL_law_486 : decode cL_law 486 = .ok (.iaload, 1) := by decide +kernel
theorem dL_law_487 : decode cL_law 487 = .ok (.aload_n 0, 1) := by decide +kernel
theorem dL_law_488 : decode cL_law 488 = .ok (.iload 4, 2) := by decide +kernel
theorem dL_law_490 : decode cL_law 490 = .ok (.iconst 4, 1) := by decide +kernel
theorem dL_law_491 : decode cL_law 491 = .ok (.iadd, 1) := by decide +kernel
theorem dL_law_492 : decode cL_law 492 = .ok (.iaload, 1) := by decide +kernel
theorem dL_law_493 : decode cL_law 493 = .ok (.invokevirtual 51, 3) := by decide +kernel
theorem dL_law_496 : decode cL_law 496 = .ok (.if_icmp .eq 481, 3) := by decide +kernel
theorem dL_law_499 : decode cL_law 499 = .ok (.iconst 0, 1) := by decide +kernel
theorem dL_law_500 : decode cL_law 500 = .ok (.ireturn, 1) := by decide +kernel
theorem dL_law_501 : decode cL_law 501 = .ok (.aload_n 1, 1) := by decide +kernel
theorem dL_law_502 : decode cL_law 502 = .ok (.aload_n 0, 1) := by decide +kernel
theorem dL_law_503 : decode cL_law 503 = .ok (.iload 4, 2) := by decide +kernel
theorem dL_law_505 : decode cL_law 505 = .ok (.iconst 1, 1) := by decide +kernel
theorem dL_law_506 : decode cL_law 506 = .ok (.iadd, 1) := by decide +kernel
theorem dL_law_507 : decode cL_law 507 = .ok (.iaload, 1) := by decide +kernel
theorem dL_law_508 : decode cL_law 508 = .ok (.i2l, 1) := by decide +kernel
theorem dL_law_509 : decode cL_law 509 = .ok (.bipush 32, 2) := by decide +kernel
theorem dL_law_511 : decode cL_law 511 = .ok (.lshl, 1) := by decide +kernel
theorem dL_law_512 : decode cL_law 512 = .ok (.aload_n 0, 1) := by decide +kernel
theorem dL_law_513 : decode cL_law 513 = .ok (.iload 4, 2) := by decide +kernel
theorem dL_law_515 : decode cL_law 515 = .ok (.iconst 2, 1) := by decide +kernel
theorem dL_law_516 : decode cL_law 516 = .ok (.iadd, 1) := by decide +kernel
theorem dL_law_517 : decode cL_law 517 = .ok (.iaload, 1) := by decide +kernel
theorem dL_law_518 : decode cL_law 518 = .ok (.i2l, 1) := by decide +kernel
theorem dL_law_519 : decode cL_law 519 = .ok (.ldc2_w 52, 3) := by decide +kernel
theorem dL_law_522 : decode cL_law 522 = .ok (.land, 1) := by decide +kernel
theorem dL_law_523 : decode cL_law 523 = .ok (.lor, 1) := by decide +kernel
theorem dL_law_524 : decode cL_law 524 = .ok (.aload_n 0, 1) := by decide +kernel
theorem dL_law_525 : decode cL_law 525 = .ok (.iload 4, 2) := by decide +kernel
theorem dL_law_527 : decode cL_law 527 = .ok (.iconst 3, 1) := by decide +kernel
theorem dL_law_528 : decode cL_law 528 = .ok (.iadd, 1) := by decide +kernel
theorem dL_law_529 : decode cL_law 529 = .ok (.iaload, 1) := by decide +kernel
theorem dL_law_530 : decode cL_law 530 = .ok (.i2l, 1) := by decide +kernel
theorem dL_law_531 : decode cL_law 531 = .ok (.bipush 32, 2) := by decide +kernel
theorem dL_law_533 : decode cL_law 533 = .ok (.lshl, 1) := by decide +kernel
theorem dL_law_534 : decode cL_law 534 = .ok (.aload_n 0, 1) := by decide +kernel
theorem dL_law_535 : decode cL_law 535 = .ok (.iload 4, 2) := by decide +kernel
theorem dL_law_537 : decode cL_law 537 = .ok (.iconst 4, 1) := by decide +kernel
theorem dL_law_538 : decode cL_law 538 = .ok (.iadd, 1) := by decide +kernel
theorem dL_law_539 : decode cL_law 539 = .ok (.iaload, 1) := by decide +kernel
theorem dL_law_540 : decode cL_law 540 = .ok (.i2l, 1) := by decide +kernel
theorem dL_law_541 : decode cL_law 541 = .ok (.ldc2_w 52, 3) := by decide +kernel
theorem dL_law_544 : decode cL_law 544 = .ok (.land, 1) := by decide +kernel
theorem dL_law_545 : decode cL_law 545 = .ok (.lor, 1) := by decide +kernel
theorem dL_law_546 : decode cL_law 546 = .ok (.aload_n 0, 1) := by decide +kernel
theorem dL_law_547 : decode cL_law 547 = .ok (.iload 4, 2) := by decide +kernel
theorem dL_law_549 : decode cL_law 549 = .ok (.iconst 5, 1) := by decide +kernel
theorem dL_law_550 : decode cL_law 550 = .ok (.iadd, 1) := by decide +kernel
theorem dL_law_551 : decode cL_law 551 = .ok (.iaload, 1) := by decide +kernel
theorem dL_law_552 : decode cL_law 552 = .ok (.i2l, 1) := by decide +kernel
theorem dL_law_553 : decode cL_law 553 = .ok (.bipush 32, 2) := by decide +kernel
theorem dL_law_555 : decode cL_law 555 = .ok (.lshl, 1) := by decide +kernel
theorem dL_law_556 : decode cL_law 556 = .ok (.aload_n 0, 1) := by decide +kernel
theorem dL_law_557 : decode cL_law 557 = .ok (.iload 4, 2) := by decide +kernel
theorem dL_law_559 : decode cL_law 559 = .ok (.bipush 6, 2) := by decide +kernel
theorem dL_law_561 : decode cL_law 561 = .ok (.iadd, 1) := by decide +kernel
theorem dL_law_562 : decode cL_law 562 = .ok (.iaload, 1) := by decide +kernel
theorem dL_law_563 : decode cL_law 563 = .ok (.i2l, 1) := by decide +kernel
theorem dL_law_564 : decode cL_law 564 = .ok (.ldc2_w 52, 3) := by decide +kernel
theorem dL_law_567 : decode cL_law 567 = .ok (.land, 1) := by decide +kernel
theorem dL_law_568 : decode cL_law 568 = .ok (.lor, 1) := by decide +kernel
theorem dL_law_569 : decode cL_law 569 = .ok (.invokevirtual 54, 3) := by decide +kernel
theorem dL_law_572 : decode cL_law 572 = .ok (.aload_n 2, 1) := by decide +kernel
theorem dL_law_573 : decode cL_law 573 = .ok (.aload_n 0, 1) := by decide +kernel
theorem dL_law_574 : decode cL_law 574 = .ok (.iload 4, 2) := by decide +kernel
theorem dL_law_576 : decode cL_law 576 = .ok (.iconst 1, 1) := by decide +kernel
theorem dL_law_577 : decode cL_law 577 = .ok (.iadd, 1) := by decide +kernel
theorem dL_law_578 : decode cL_law 578 = .ok (.iaload, 1) := by decide +kernel
theorem dL_law_579 : decode cL_law 579 = .ok (.i2l, 1) := by decide +kernel
theorem dL_law_580 : decode cL_law 580 = .ok (.bipush 32, 2) := by decide +kernel
theorem dL_law_582 : decode cL_law 582 = .ok (.lshl, 1) := by decide +kernel
theorem dL_law_583 : decode cL_law 583 = .ok (.aload_n 0, 1) := by decide +kernel
theorem dL_law_584 : decode cL_law 584 = .ok (.iload 4, 2) := by decide +kernel
theorem dL_law_586 : decode cL_law 586 = .ok (.iconst 2, 1) := by decide +kernel
theorem dL_law_587 : decode cL_law 587 = .ok (.iadd, 1) := by decide +kernel
theorem dL_law_588 : decode cL_law 588 = .ok (.iaload, 1) := by decide +kernel
theorem dL_law_589 : decode cL_law 589 = .ok (.i2l, 1) := by decide +kernel
theorem dL_law_590 : decode cL_law 590 = .ok (.ldc2_w 52, 3) := by decide +kernel
theorem dL_law_593 : decode cL_law 593 = .ok (.land, 1) := by decide +kernel
theorem dL_law_594 : decode cL_law 594 = .ok (.lor, 1) := by decide +kernel
theorem dL_law_595 : decode cL_law 595 = .ok (.aload_n 0, 1) := by decide +kernel
theorem dL_law_596 : decode cL_law 596 = .ok (.iload 4, 2) := by decide +kernel
theorem dL_law_598 : decode cL_law 598 = .ok (.iconst 3, 1) := by decide +kernel
theorem dL_law_599 : decode cL_law 599 = .ok (.iadd, 1) := by decide +kernel
theorem dL_law_600 : decode cL_law 600 = .ok (.iaload, 1) := by decide +kernel
theorem dL_law_601 : decode cL_law 601 = .ok (.i2l, 1) := by decide +kernel
theorem dL_law_602 : decode cL_law 602 = .ok (.bipush 32, 2) := by decide +kernel
theorem dL_law_604 : decode cL_law 604 = .ok (.lshl, 1) := by decide +kernel
theorem dL_law_605 : decode cL_law 605 = .ok (.aload_n 0, 1) := by decide +kernel
theorem dL_law_606 : decode cL_law 606 = .ok (.iload 4, 2) := by decide +kernel
theorem dL_law_608 : decode cL_law 608 = .ok (.iconst 4, 1) := by decide +kernel
theorem dL_law_609 : decode cL_law 609 = .ok (.iadd, 1) := by decide +kernel
theorem dL_law_610 : decode cL_law 610 = .ok (.iaload, 1) := by decide +kernel
theorem dL_law_611 : decode cL_law 611 = .ok (.i2l, 1) := by decide +kernel
theorem dL_law_612 : decode cL_law 612 = .ok (.ldc2_w 52, 3) := by decide +kernel
theorem dL_law_615 : decode cL_law 615 = .ok (.land, 1) := by decide +kernel
theorem dL_law_616 : decode cL_law 616 = .ok (.lor, 1) := by decide +kernel
theorem dL_law_617 : decode cL_law 617 = .ok (.aload_n 0, 1) := by decide +kernel
theorem dL_law_618 : decode cL_law 618 = .ok (.iload 4, 2) := by decide +kernel
theorem dL_law_620 : decode cL_law 620 = .ok (.iconst 5, 1) := by decide +kernel
theorem dL_law_621 : decode cL_law 621 = .ok (.iadd, 1) := by decide +kernel
theorem dL_law_622 : decode cL_law 622 = .ok (.iaload, 1) := by decide +kernel
theorem dL_law_623 : decode cL_law 623 = .ok (.i2l, 1) := by decide +kernel
theorem dL_law_624 : decode cL_law 624 = .ok (.bipush 32, 2) := by decide +kernel
theorem dL_law_626 : decode cL_law 626 = .ok (.lshl, 1) := by decide +kernel
theorem dL_law_627 : decode cL_law 627 = .ok (.aload_n 0, 1) := by decide +kernel
theorem dL_law_628 : decode cL_law 628 = .ok (.iload 4, 2) := by decide +kernel
theorem dL_law_630 : decode cL_law 630 = .ok (.bipush 6, 2) := by decide +kernel
theorem dL_law_632 : decode cL_law 632 = .ok (.iadd, 1) := by decide +kernel
theorem dL_law_633 : decode cL_law 633 = .ok (.iaload, 1) := by decide +kernel
theorem dL_law_634 : decode cL_law 634 = .ok (.i2l, 1) := by decide +kernel
theorem dL_law_635 : decode cL_law 635 = .ok (.ldc2_w 52, 3) := by decide +kernel
theorem dL_law_638 : decode cL_law 638 = .ok (.land, 1) := by decide +kernel
theorem dL_law_639 : decode cL_law 639 = .ok (.lor, 1) := by decide +kernel
theorem dL_law_640 : decode cL_law 640 = .ok (.invokevirtual 58, 3) := by decide +kernel
theorem dL_law_643 : decode cL_law 643 = .ok (.if_icmp .eq 334, 3) := by decide +kernel
theorem dL_law_646 : decode cL_law 646 = .ok (.iconst 0, 1) := by decide +kernel
theorem dL_law_647 : decode cL_law 647 = .ok (.ireturn, 1) := by decide +kernel
theorem dL_law_648 : decode cL_law 648 = .ok (.aload_n 1, 1) := by decide +kernel
theorem dL_law_649 : decode cL_law 649 = .ok (.invokevirtual 59, 3) := by decide +kernel
theorem dL_law_652 : decode cL_law 652 = .ok (.aload_n 2, 1) := by decide +kernel
theorem dL_law_653 : decode cL_law 653 = .ok (.invokevirtual 62, 3) := by decide +kernel
theorem dL_law_656 : decode cL_law 656 = .ok (.if_icmp .eq 321, 3) := by decide +kernel
theorem dL_law_659 : decode cL_law 659 = .ok (.iconst 0, 1) := by decide +kernel
theorem dL_law_660 : decode cL_law 660 = .ok (.ireturn, 1) := by decide +kernel
theorem dL_law_661 : decode cL_law 661 = .ok (.aload_n 1, 1) := by decide +kernel
theorem dL_law_662 : decode cL_law 662 = .ok (.aload_n 0, 1) := by decide +kernel
theorem dL_law_663 : decode cL_law 663 = .ok (.iload 4, 2) := by decide +kernel
theorem dL_law_665 : decode cL_law 665 = .ok (.iconst 1, 1) := by decide +kernel
theorem dL_law_666 : decode cL_law 666 = .ok (.iadd, 1) := by decide +kernel
theorem dL_law_667 : decode cL_law 667 = .ok (.iaload, 1) := by decide +kernel
theorem dL_law_668 : decode cL_law 668 = .ok (.aload_n 0, 1) := by decide +kernel
theorem dL_law_669 : decode cL_law 669 = .ok (.iload 4, 2) := by decide +kernel
theorem dL_law_671 : decode cL_law 671 = .ok (.iconst 2, 1) := by decide +kernel
theorem dL_law_672 : decode cL_law 672 = .ok (.iadd, 1) := by decide +kernel
theorem dL_law_673 : decode cL_law 673 = .ok (.iaload, 1) := by decide +kernel
theorem dL_law_674 : decode cL_law 674 = .ok (.aload_n 0, 1) := by decide +kernel
theorem dL_law_675 : decode cL_law 675 = .ok (.iload 4, 2) := by decide +kernel
theorem dL_law_677 : decode cL_law 677 = .ok (.iconst 3, 1) := by decide +kernel
theorem dL_law_678 : decode cL_law 678 = .ok (.iadd, 1) := by decide +kernel
theorem dL_law_679 : decode cL_law 679 = .ok (.iaload, 1) := by decide +kernel
theorem dL_law_680 : decode cL_law 680 = .ok (.invokevirtual 63, 3) := by decide +kernel
theorem dL_law_683 : decode cL_law 683 = .ok (.aload_n 2, 1) := by decide +kernel
theorem dL_law_684 : decode cL_law 684 = .ok (.aload_n 0, 1) := by decide +kernel
theorem dL_law_685 : decode cL_law 685 = .ok (.iload 4, 2) := by decide +kernel
theorem dL_law_687 : decode cL_law 687 = .ok (.iconst 1, 1) := by decide +kernel
theorem dL_law_688 : decode cL_law 688 = .ok (.iadd, 1) := by decide +kernel
theorem dL_law_689 : decode cL_law 689 = .ok (.iaload, 1) := by decide +kernel
theorem dL_law_690 : decode cL_law 690 = .ok (.aload_n 0, 1) := by decide +kernel
theorem dL_law_691 : decode cL_law 691 = .ok (.iload 4, 2) := by decide +kernel
theorem dL_law_693 : decode cL_law 693 = .ok (.iconst 2, 1) := by decide +kernel
theorem dL_law_694 : decode cL_law 694 = .ok (.iadd, 1) := by decide +kernel
theorem dL_law_695 : decode cL_law 695 = .ok (.iaload, 1) := by decide +kernel
theorem dL_law_696 : decode cL_law 696 = .ok (.aload_n 0, 1) := by decide +kernel
theorem dL_law_697 : decode cL_law 697 = .ok (.iload 4, 2) := by decide +kernel
theorem dL_law_699 : decode cL_law 699 = .ok (.iconst 3, 1) := by decide +kernel
theorem dL_law_700 : decode cL_law 700 = .ok (.iadd, 1) := by decide +kernel
theorem dL_law_701 : decode cL_law 701 = .ok (.iaload, 1) := by decide +kernel
theorem dL_law_702 : decode cL_law 702 = .ok (.invokevirtual 67, 3) := by decide +kernel
theorem dL_law_705 : decode cL_law 705 = .ok (.if_icmp .eq 272, 3) := by decide +kernel
theorem dL_law_708 : decode cL_law 708 = .ok (.iconst 0, 1) := by decide +kernel
theorem dL_law_709 : decode cL_law 709 = .ok (.ireturn, 1) := by decide +kernel
theorem dL_law_710 : decode cL_law 710 = .ok (.aload_n 1, 1) := by decide +kernel
theorem dL_law_711 : decode cL_law 711 = .ok (.aload_n 0, 1) := by decide +kernel
theorem dL_law_712 : decode cL_law 712 = .ok (.iload 4, 2) := by decide +kernel
theorem dL_law_714 : decode cL_law 714 = .ok (.iconst 1, 1) := by decide +kernel
theorem dL_law_715 : decode cL_law 715 = .ok (.iadd, 1) := by decide +kernel
theorem dL_law_716 : decode cL_law 716 = .ok (.iaload, 1) := by decide +kernel
theorem dL_law_717 : decode cL_law 717 = .ok (.aload_n 0, 1) := by decide +kernel
theorem dL_law_718 : decode cL_law 718 = .ok (.iload 4, 2) := by decide +kernel
theorem dL_law_720 : decode cL_law 720 = .ok (.iconst 2, 1) := by decide +kernel
theorem dL_law_721 : decode cL_law 721 = .ok (.iadd, 1) := by decide +kernel
theorem dL_law_722 : decode cL_law 722 = .ok (.iaload, 1) := by decide +kernel
theorem dL_law_723 : decode cL_law 723 = .ok (.invokevirtual 68, 3) := by decide +kernel
theorem dL_law_726 : decode cL_law 726 = .ok (.aload_n 2, 1) := by decide +kernel
theorem dL_law_727 : decode cL_law 727 = .ok (.aload_n 0, 1) := by decide +kernel
theorem dL_law_728 : decode cL_law 728 = .ok (.iload 4, 2) := by decide +kernel
theorem dL_law_730 : decode cL_law 730 = .ok (.iconst 1, 1) := by decide +kernel
theorem dL_law_731 : decode cL_law 731 = .ok (.iadd, 1) := by decide +kernel
theorem dL_law_732 : decode cL_law 732 = .ok (.iaload, 1) := by decide +kernel
theorem dL_law_733 : decode cL_law 733 = .ok (.aload_n 0, 1) := by decide +kernel
theorem dL_law_734 : decode cL_law 734 = .ok (.iload 4, 2) := by decide +kernel
theorem dL_law_736 : decode cL_law 736 = .ok (.iconst 2, 1) := by decide +kernel
theorem dL_law_737 : decode cL_law 737 = .ok (.iadd, 1) := by decide +kernel
theorem dL_law_738 : decode cL_law 738 = .ok (.iaload, 1) := by decide +kernel
theorem dL_law_739 : decode cL_law 739 = .ok (.invokevirtual 72, 3) := by decide +kernel
theorem dL_law_742 : decode cL_law 742 = .ok (.if_icmp .eq 235, 3) := by decide +kernel
theorem dL_law_745 : decode cL_law 745 = .ok (.iconst 0, 1) := by decide +kernel
theorem dL_law_746 : decode cL_law 746 = .ok (.ireturn, 1) := by decide +kernel
theorem dL_law_747 : decode cL_law 747 = .ok (.aload_n 1, 1) := by decide +kernel
theorem dL_law_748 : decode cL_law 748 = .ok (.invokevirtual 73, 3) := by decide +kernel
theorem dL_law_751 : decode cL_law 751 = .ok (.aload_n 2, 1) := by decide +kernel
theorem dL_law_752 : decode cL_law 752 = .ok (.invokevirtual 76, 3) := by decide +kernel
theorem dL_law_755 : decode cL_law 755 = .ok (.if_icmp .eq 222, 3) := by decide +kernel
theorem dL_law_758 : decode cL_law 758 = .ok (.iconst 0, 1) := by decide +kernel
theorem dL_law_759 : decode cL_law 759 = .ok (.ireturn, 1) := by decide +kernel
theorem dL_law_760 : decode cL_law 760 = .ok (.aload_n 1, 1) := by decide +kernel
theorem dL_law_761 : decode cL_law 761 = .ok (.aload_n 0, 1) := by decide +kernel
theorem dL_law_762 : decode cL_law 762 = .ok (.iload 4, 2) := by decide +kernel
theorem dL_law_764 : decode cL_law 764 = .ok (.iconst 1, 1) := by decide +kernel
theorem dL_law_765 : decode cL_law 765 = .ok (.iadd, 1) := by decide +kernel
theorem dL_law_766 : decode cL_law 766 = .ok (.iaload, 1) := by decide +kernel
theorem dL_law_767 : decode cL_law 767 = .ok (.aload_n 0, 1) := by decide +kernel
theorem dL_law_768 : decode cL_law 768 = .ok (.iload 4, 2) := by decide +kernel
theorem dL_law_770 : decode cL_law 770 = .ok (.iconst 2, 1) := by decide +kernel
theorem dL_law_771 : decode cL_law 771 = .ok (.iadd, 1) := by decide +kernel
theorem dL_law_772 : decode cL_law 772 = .ok (.iaload, 1) := by decide +kernel
theorem dL_law_773 : decode cL_law 773 = .ok (.invokevirtual 77, 3) := by decide +kernel
theorem dL_law_776 : decode cL_law 776 = .ok (.aload_n 2, 1) := by decide +kernel
theorem dL_law_777 : decode cL_law 777 = .ok (.aload_n 0, 1) := by decide +kernel
theorem dL_law_778 : decode cL_law 778 = .ok (.iload 4, 2) := by decide +kernel
theorem dL_law_780 : decode cL_law 780 = .ok (.iconst 1, 1) := by decide +kernel
theorem dL_law_781 : decode cL_law 781 = .ok (.iadd, 1) := by decide +kernel
theorem dL_law_782 : decode cL_law 782 = .ok (.iaload, 1) := by decide +kernel
theorem dL_law_783 : decode cL_law 783 = .ok (.aload_n 0, 1) := by decide +kernel
theorem dL_law_784 : decode cL_law 784 = .ok (.iload 4, 2) := by decide +kernel
theorem dL_law_786 : decode cL_law 786 = .ok (.iconst 2, 1) := by decide +kernel
theorem dL_law_787 : decode cL_law 787 = .ok (.iadd, 1) := by decide +kernel
theorem dL_law_788 : decode cL_law 788 = .ok (.iaload, 1) := by decide +kernel
theorem dL_law_789 : decode cL_law 789 = .ok (.invokevirtual 80, 3) := by decide +kernel
theorem dL_law_792 : decode cL_law 792 = .ok (.if_icmp .eq 185, 3) := by decide +kernel
theorem dL_law_795 : decode cL_law 795 = .ok (.iconst 0, 1) := by decide +kernel
theorem dL_law_796 : decode cL_law 796 = .ok (.ireturn, 1) := by decide +kernel
theorem dL_law_797 : decode cL_law 797 = .ok (.aload_n 1, 1) := by decide +kernel
theorem dL_law_798 : decode cL_law 798 = .ok (.aload_n 0, 1) := by decide +kernel
theorem dL_law_799 : decode cL_law 799 = .ok (.iload 4, 2) := by decide +kernel
theorem dL_law_801 : decode cL_law 801 = .ok (.iconst 1, 1) := by decide +kernel
theorem dL_law_802 : decode cL_law 802 = .ok (.iadd, 1) := by decide +kernel
theorem dL_law_803 : decode cL_law 803 = .ok (.iaload, 1) := by decide +kernel
theorem dL_law_804 : decode cL_law 804 = .ok (.aload_n 0, 1) := by decide +kernel
theorem dL_law_805 : decode cL_law 805 = .ok (.iload 4, 2) := by decide +kernel
theorem dL_law_807 : decode cL_law 807 = .ok (.iconst 2, 1) := by decide +kernel
theorem dL_law_808 : decode cL_law 808 = .ok (.iadd, 1) := by decide +kernel
theorem dL_law_809 : decode cL_law 809 = .ok (.iaload, 1) := by decide +kernel
theorem dL_law_810 : decode cL_law 810 = .ok (.aload_n 3, 1) := by decide +kernel
theorem dL_law_811 : decode cL_law 811 = .ok (.invokestatic 81, 3) := by decide +kernel
theorem dL_law_814 : decode cL_law 814 = .ok (.istore 5, 2) := by decide +kernel
theorem dL_law_816 : decode cL_law 816 = .ok (.aload_n 2, 1) := by decide +kernel
theorem dL_law_817 : decode cL_law 817 = .ok (.aload_n 0, 1) := by decide +kernel
theorem dL_law_818 : decode cL_law 818 = .ok (.iload 4, 2) := by decide +kernel
theorem dL_law_820 : decode cL_law 820 = .ok (.iconst 1, 1) := by decide +kernel
theorem dL_law_821 : decode cL_law 821 = .ok (.iadd, 1) := by decide +kernel
theorem dL_law_822 : decode cL_law 822 = .ok (.iaload, 1) := by decide +kernel
theorem dL_law_823 : decode cL_law 823 = .ok (.aload_n 0, 1) := by decide +kernel
theorem dL_law_824 : decode cL_law 824 = .ok (.iload 4, 2) := by decide +kernel
theorem dL_law_826 : decode cL_law 826 = .ok (.iconst 2, 1) := by decide +kernel
theorem dL_law_827 : decode cL_law 827 = .ok (.iadd, 1) := by decide +kernel
theorem dL_law_828 : decode cL_law 828 = .ok (.iaload, 1) := by decide +kernel
theorem dL_law_829 : decode cL_law 829 = .ok (.invokevirtual 86, 3) := by decide +kernel
theorem dL_law_832 : decode cL_law 832 = .ok (.istore 6, 2) := by decide +kernel
theorem dL_law_834 : decode cL_law 834 = .ok (.aload_n 2, 1) := by decide +kernel
theorem dL_law_835 : decode cL_law 835 = .ok (.invokevirtual 87, 3) := by decide +kernel
theorem dL_law_838 : decode cL_law 838 = .ok (.iload 5, 2) := by decide +kernel
theorem dL_law_840 : decode cL_law 840 = .ok (.if_icmp .eq 5, 3) := by decide +kernel
theorem dL_law_843 : decode cL_law 843 = .ok (.iconst 0, 1) := by decide +kernel
theorem dL_law_844 : decode cL_law 844 = .ok (.ireturn, 1) := by decide +kernel
theorem dL_law_845 : decode cL_law 845 = .ok (.iload 5, 2) := by decide +kernel
theorem dL_law_847 : decode cL_law 847 = .ok (.ifCond .ne 15, 3) := by decide +kernel
theorem dL_law_850 : decode cL_law 850 = .ok (.aload_n 3, 1) := by decide +kernel
theorem dL_law_851 : decode cL_law 851 = .ok (.iconst 0, 1) := by decide +kernel
theorem dL_law_852 : decode cL_law 852 = .ok (.laload, 1) := by decide +kernel
theorem dL_law_853 : decode cL_law 853 = .ok (.iload 6, 2) := by decide +kernel
theorem dL_law_855 : decode cL_law 855 = .ok (.i2l, 1) := by decide +kernel
theorem dL_law_856 : decode cL_law 856 = .ok (.lcmp, 1) := by decide +kernel
theorem dL_law_857 : decode cL_law 857 = .ok (.ifCond .eq 5, 3) := by decide +kernel
theorem dL_law_860 : decode cL_law 860 = .ok (.iconst 0, 1) := by decide +kernel
theorem dL_law_861 : decode cL_law 861 = .ok (.ireturn, 1) := by decide +kernel
theorem dL_law_862 : decode cL_law 862 = .ok (.goto 115, 3) := by decide +kernel
theorem dL_law_865 : decode cL_law 865 = .ok (.aload_n 1, 1) := by decide +kernel
theorem dL_law_866 : decode cL_law 866 = .ok (.invokevirtual 90, 3) := by decide +kernel
theorem dL_law_869 : decode cL_law 869 = .ok (.aload_n 2, 1) := by decide +kernel
theorem dL_law_870 : decode cL_law 870 = .ok (.invokevirtual 93, 3) := by decide +kernel
theorem dL_law_873 : decode cL_law 873 = .ok (.if_icmp .eq 104, 3) := by decide +kernel
theorem dL_law_876 : decode cL_law 876 = .ok (.iconst 0, 1) := by decide +kernel
theorem dL_law_877 : decode cL_law 877 = .ok (.ireturn, 1) := by decide +kernel
theorem dL_law_878 : decode cL_law 878 = .ok (.aload_n 1, 1) := by decide +kernel
theorem dL_law_879 : decode cL_law 879 = .ok (.aload_n 0, 1) := by decide +kernel
theorem dL_law_880 : decode cL_law 880 = .ok (.iload 4, 2) := by decide +kernel
theorem dL_law_882 : decode cL_law 882 = .ok (.iconst 1, 1) := by decide +kernel
theorem dL_law_883 : decode cL_law 883 = .ok (.iadd, 1) := by decide +kernel
theorem dL_law_884 : decode cL_law 884 = .ok (.iaload, 1) := by decide +kernel
theorem dL_law_885 : decode cL_law 885 = .ok (.aload_n 0, 1) := by decide +kernel
theorem dL_law_886 : decode cL_law 886 = .ok (.iload 4, 2) := by decide +kernel
theorem dL_law_888 : decode cL_law 888 = .ok (.iconst 2, 1) := by decide +kernel
theorem dL_law_889 : decode cL_law 889 = .ok (.iadd, 1) := by decide +kernel
theorem dL_law_890 : decode cL_law 890 = .ok (.iaload, 1) := by decide +kernel
theorem dL_law_891 : decode cL_law 891 = .ok (.invokevirtual 94, 3) := by decide +kernel
theorem dL_law_894 : decode cL_law 894 = .ok (.aload_n 2, 1) := by decide +kernel
theorem dL_law_895 : decode cL_law 895 = .ok (.aload_n 0, 1) := by decide +kernel
theorem dL_law_896 : decode cL_law 896 = .ok (.iload 4, 2) := by decide +kernel
theorem dL_law_898 : decode cL_law 898 = .ok (.iconst 1, 1) := by decide +kernel
theorem dL_law_899 : decode cL_law 899 = .ok (.iadd, 1) := by decide +kernel
theorem dL_law_900 : decode cL_law 900 = .ok (.iaload, 1) := by decide +kernel
theorem dL_law_901 : decode cL_law 901 = .ok (.aload_n 0, 1) := by decide +kernel
theorem dL_law_902 : decode cL_law 902 = .ok (.iload 4, 2) := by decide +kernel
theorem dL_law_904 : decode cL_law 904 = .ok (.iconst 2, 1) := by decide +kernel
theorem dL_law_905 : decode cL_law 905 = .ok (.iadd, 1) := by decide +kernel
theorem dL_law_906 : decode cL_law 906 = .ok (.iaload, 1) := by decide +kernel
theorem dL_law_907 : decode cL_law 907 = .ok (.invokevirtual 97, 3) := by decide +kernel
theorem dL_law_910 : decode cL_law 910 = .ok (.if_icmp .eq 67, 3) := by decide +kernel
theorem dL_law_913 : decode cL_law 913 = .ok (.iconst 0, 1) := by decide +kernel
theorem dL_law_914 : decode cL_law 914 = .ok (.ireturn, 1) := by decide +kernel
theorem dL_law_915 : decode cL_law 915 = .ok (.aload_n 1, 1) := by decide +kernel
theorem dL_law_916 : decode cL_law 916 = .ok (.aload_n 0, 1) := by decide +kernel
theorem dL_law_917 : decode cL_law 917 = .ok (.iload 4, 2) := by decide +kernel
theorem dL_law_919 : decode cL_law 919 = .ok (.iconst 1, 1) := by decide +kernel
theorem dL_law_920 : decode cL_law 920 = .ok (.iadd, 1) := by decide +kernel
theorem dL_law_921 : decode cL_law 921 = .ok (.iaload, 1) := by decide +kernel
theorem dL_law_922 : decode cL_law 922 = .ok (.aload_n 0, 1) := by decide +kernel
theorem dL_law_923 : decode cL_law 923 = .ok (.iload 4, 2) := by decide +kernel
theorem dL_law_925 : decode cL_law 925 = .ok (.iconst 2, 1) := by decide +kernel
theorem dL_law_926 : decode cL_law 926 = .ok (.iadd, 1) := by decide +kernel
theorem dL_law_927 : decode cL_law 927 = .ok (.iaload, 1) := by decide +kernel
theorem dL_law_928 : decode cL_law 928 = .ok (.invokevirtual 98, 3) := by decide +kernel
theorem dL_law_931 : decode cL_law 931 = .ok (.aload_n 2, 1) := by decide +kernel
theorem dL_law_932 : decode cL_law 932 = .ok (.aload_n 0, 1) := by decide +kernel
theorem dL_law_933 : decode cL_law 933 = .ok (.iload 4, 2) := by decide +kernel
theorem dL_law_935 : decode cL_law 935 = .ok (.iconst 1, 1) := by decide +kernel
theorem dL_law_936 : decode cL_law 936 = .ok (.iadd, 1) := by decide +kernel
theorem dL_law_937 : decode cL_law 937 = .ok (.iaload, 1) := by decide +kernel
theorem dL_law_938 : decode cL_law 938 = .ok (.aload_n 0, 1) := by decide +kernel
theorem dL_law_939 : decode cL_law 939 = .ok (.iload 4, 2) := by decide +kernel
theorem dL_law_941 : decode cL_law 941 = .ok (.iconst 2, 1) := by decide +kernel
theorem dL_law_942 : decode cL_law 942 = .ok (.iadd, 1) := by decide +kernel
theorem dL_law_943 : decode cL_law 943 = .ok (.iaload, 1) := by decide +kernel
theorem dL_law_944 : decode cL_law 944 = .ok (.invokevirtual 101, 3) := by decide +kernel
theorem dL_law_947 : decode cL_law 947 = .ok (.if_icmp .eq 30, 3) := by decide +kernel
theorem dL_law_950 : decode cL_law 950 = .ok (.iconst 0, 1) := by decide +kernel
theorem dL_law_951 : decode cL_law 951 = .ok (.ireturn, 1) := by decide +kernel
theorem dL_law_952 : decode cL_law 952 = .ok (.aload_n 1, 1) := by decide +kernel
theorem dL_law_953 : decode cL_law 953 = .ok (.aload_n 0, 1) := by decide +kernel
theorem dL_law_954 : decode cL_law 954 = .ok (.iload 4, 2) := by decide +kernel
theorem dL_law_956 : decode cL_law 956 = .ok (.iconst 1, 1) := by decide +kernel
theorem dL_law_957 : decode cL_law 957 = .ok (.iadd, 1) := by decide +kernel
theorem dL_law_958 : decode cL_law 958 = .ok (.iaload, 1) := by decide +kernel
theorem dL_law_959 : decode cL_law 959 = .ok (.invokevirtual 102, 3) := by decide +kernel
theorem dL_law_962 : decode cL_law 962 = .ok (.aload_n 2, 1) := by decide +kernel
theorem dL_law_963 : decode cL_law 963 = .ok (.aload_n 0, 1) := by decide +kernel
theorem dL_law_964 : decode cL_law 964 = .ok (.iload 4, 2) := by decide +kernel
theorem dL_law_966 : decode cL_law 966 = .ok (.iconst 1, 1) := by decide +kernel
theorem dL_law_967 : decode cL_law 967 = .ok (.iadd, 1) := by decide +kernel
theorem dL_law_968 : decode cL_law 968 = .ok (.iaload, 1) := by decide +kernel
theorem dL_law_969 : decode cL_law 969 = .ok (.invokevirtual 106, 3) := by decide +kernel
theorem dL_law_972 : decode cL_law 972 = .ok (.if_icmp .eq 5, 3) := by decide +kernel
theorem dL_law_975 : decode cL_law 975 = .ok (.iconst 0, 1) := by decide +kernel
theorem dL_law_976 : decode cL_law 976 = .ok (.ireturn, 1) := by decide +kernel
theorem dL_law_977 : decode cL_law 977 = .ok (.iinc 4 7, 3) := by decide +kernel
theorem dL_law_980 : decode cL_law 980 = .ok (.goto (-957), 3) := by decide +kernel
theorem dL_law_983 : decode cL_law 983 = .ok (.iconst 1, 1) := by decide +kernel
theorem dL_law_984 : decode cL_law 984 = .ok (.ireturn, 1) := by decide +kernel
end
section
/-! THE SPLIT WORLD: what the cells of the system hold, by address: sizes, kinds, int fields, ref fields, int arrays, long arrays, ref arrays -/
abbrev XG : Type := (Nat → ClassId) × (Nat → Nat → Nat) × (Nat → ClassId) × (Nat → Nat)
abbrev XW : Type := Nat × (Nat → Nat × Nat) × (Nat → Nat → Int32) × (Nat → Nat → Option Nat) × (Nat → Nat → Int32) × (Nat → Nat → Int64) × (Nat → Nat → Option Nat)
def xZ (X : XW) : Nat := X.1
def xKd (X : XW) (a : Nat) : Nat := (X.2.1 a).1
def xLn (X : XW) (a : Nat) : Nat := (X.2.1 a).2
def xI (X : XW) (a k : Nat) : Int32 := X.2.2.1 a k
def xR (X : XW) (a k : Nat) : Option Nat := X.2.2.2.1 a k
def xA (X : XW) (a i : Nat) : Int32 := X.2.2.2.2.1 a i
def xL (X : XW) (a i : Nat) : Int64 := X.2.2.2.2.2.1 a i
def xQ (X : XW) (a i : Nat) : Option Nat := X.2.2.2.2.2.2 a i
def x2 {α : Type} (f : Nat → Nat → α) (a k : Nat) (v : α) : Nat → Nat → α := fun b j => if b = a ∧ j = k then v else f b j
def wI (X : XW) (a k : Nat) (v : Int32) : XW := (X.1, X.2.1, x2 X.2.2.1 a k v, X.2.2.2)
def wR (X : XW) (a k : Nat) (v : Option Nat) : XW := (X.1, X.2.1, X.2.2.1, x2 X.2.2.2.1 a k v, X.2.2.2.2)
def wA (X : XW) (a i : Nat) (v : Int32) : XW := (X.1, X.2.1, X.2.2.1, X.2.2.2.1, x2 X.2.2.2.2.1 a i v, X.2.2.2.2.2)
def wL (X : XW) (a i : Nat) (v : Int64) : XW := (X.1, X.2.1, X.2.2.1, X.2.2.2.1, X.2.2.2.2.1, x2 X.2.2.2.2.2.1 a i v, X.2.2.2.2.2.2)
def wQ (X : XW) (a i : Nat) (v : Option Nat) : XW := (X.1, X.2.1, X.2.2.1, X.2.2.2.1, X.2.2.2.2.1, X.2.2.2.2.2.1, x2 X.2.2.2.2.2.2 a i v)
def x1 {α : Type} (f : Nat → Nat → α) (a : Nat) (v : α) : Nat → Nat → α := fun b j => if b = a then v else f b j
/-- a new cell, at the heap's end: all its places at their defaults -/
def wN (X : XW) (kd len : Nat) : XW := (X.1 + 1, (fun b => if b = X.1 then (kd, len) else X.2.1 b), x1 X.2.2.1 X.1 0, x1 X.2.2.2.1 X.1 none, x1 X.2.2.2.2.1 X.1 0, x1 X.2.2.2.2.2.1 X.1 0, x1 X.2.2.2.2.2.2 X.1 none)
/-! what a method may ask of the world: none where it would throw -/
def gK (X : XW) (a ci : Nat) : Option Unit := if xKd X a = ci + 1 then some () else none
def gI (X : XW) (a ci k : Nat) : Option Int32 := if xKd X a = ci + 1 then some (xI X a k) else none
def gR (X : XW) (a ci k : Nat) : Option Nat := if xKd X a = ci + 1 then xR X a k else none
def pI (X : XW) (a ci k : Nat) (v : Int32) : Option XW := if xKd X a = ci + 1 then some (wI X a k v) else none
def pZ (X : XW) (a ci k : Nat) (v : Int32) : Option XW := if xKd X a = ci + 1 ∧ (v = 0 ∨ v = 1) then some (wI X a k v) else none
def pR (X : XW) (a ci k v : Nat) : Option XW := if xKd X a = ci + 1 then some (wR X a k (some v)) else none
def aI (X : XW) (a t : Nat) (i : Int32) : Option Int32 := if xKd X a = 20 + t ∧ ¬ (i < 0 ∨ xLn X a ≤ i.toNatClampNeg) then some (xA X a i.toNatClampNeg) else none
def aL (X : XW) (a : Nat) (i : Int32) : Option Int64 := if xKd X a = 22 ∧ ¬ (i < 0 ∨ xLn X a ≤ i.toNatClampNeg) then some (xL X a i.toNatClampNeg) else none
def aQ (X : XW) (a t : Nat) (i : Int32) : Option Nat := if xKd X a = 20 + t ∧ ¬ (i < 0 ∨ xLn X a ≤ i.toNatClampNeg) then xQ X a i.toNatClampNeg else none
def uI (X : XW) (a : Nat) (i v : Int32) : Option XW := if xKd X a = 21 ∧ ¬ (i < 0 ∨ xLn X a ≤ i.toNatClampNeg) then some (wA X a i.toNatClampNeg v) else none
def uB (X : XW) (a : Nat) (i v : Int32) : Option XW := if xKd X a = 20 ∧ ¬ (i < 0 ∨ xLn X a ≤ i.toNatClampNeg) then some (wA X a i.toNatClampNeg (vp_nar .byte v)) else none
def uZ (X : XW) (a : Nat) (i v : Int32) : Option XW := if xKd X a = 23 ∧ ¬ (i < 0 ∨ xLn X a ≤ i.toNatClampNeg) then some (wA X a i.toNatClampNeg (vp_nar .boolean v)) else none
def uL (X : XW) (a : Nat) (i : Int32) (v : Int64) : Option XW := if xKd X a = 22 ∧ ¬ (i < 0 ∨ xLn X a ≤ i.toNatClampNeg) then some (wL X a i.toNatClampNeg v) else none
/-- a reference stored: the array's kind t, the object's class ci -/
def uQ (X : XW) (a t ci : Nat) (i : Int32) (v : Nat) : Option XW := if xKd X a = 20 + t ∧ xKd X v = ci + 1 ∧ ¬ (i < 0 ∨ xLn X a ≤ i.toNatClampNeg) then some (wQ X a i.toNatClampNeg (some v)) else none
def aN (X : XW) (a : Nat) : Option Int32 := if 20 ≤ xKd X a then some (Int32.ofNat (xLn X a)) else none
/-- new arrays of kind t with n places, at most M -/
def nA (X : XW) (t M : Nat) (n : Int32) : Option (Nat × XW) := if ¬ n < 0 ∧ n.toNatClampNeg ≤ M then some (X.1, wN X (20 + t) n.toNatClampNeg) else none
def nO (X : XW) (ci : Nat) : Nat × XW := (X.1, wN X (ci + 1) 0)
def iD (x y : Int32) : Option Int32 := if y = 0 then none else some (x / y)
def iM (x y : Int32) : Option Int32 := if y = 0 then none else some (x - x / y * y)
theorem ob {α β : Type} {o : Option α} {f : α → Option β} {r : β} (h : (o >>= f) = some r) : ∃ x, o = some x ∧ f x = some r := by
  cases o with
  | none => cases h
  | some x => exact ⟨x, rfl, h⟩
/-! the words of the tables that may be handed on -/
def xws : List Cond := lw_tbl.filter goodWord
theorem xws_in {w : Cond} (h : w ∈ lw_tbl) (hg : goodWord w = true) : w ∈ xws := List.mem_filter.mpr ⟨h, hg⟩
theorem xws_t {w : Cond} (i : Nat) (h : tables_1[i]? = some w) (hg : goodWord w = true) : w ∈ xws := xws_in (List.mem_append_right _ (List.mem_of_getElem? h)) hg
theorem xws_s {w : Cond} (i : Nat) (h : (k2_sels lw_privs)[i]? = some w) (hg : goodWord w = true) : w ∈ xws := xws_in (List.mem_append_left _ (List.mem_of_getElem? h)) hg
theorem xws_good {w : Cond} (h : w ∈ xws) : goodWord w = true := (List.mem_filter.mp h).2
theorem xws_gi {y : MethodName} {cc cc2 : ByteArray} {n n2 : Nat} {r r2 : Option FieldType} {y2 : MethodName} (h : Cond.code y cc n r ∈ xws) : GoodIn xws (Cond.code y cc n r :: xws) := fun w hw => (List.mem_cons.mp hw).elim (fun e => by rw [e]; exact ⟨h, good_of_word (xws_good h)⟩) (fun q => ⟨q, good_of_word (xws_good q)⟩)
def xfr (ci k : Nat) : Bool := match vwCl[ci]? with
  | some r => !((r.2.1 k).2.2.1 == "I" || (r.2.1 k).2.2.1 == "Z")
  | none => false
/-- a class of the world, by its number -/
def XCl (ci : Nat) (C : String) (T : u_T) (N : Nat) (ty : Nat → FieldType) : Prop := vwCl[ci]? = some (C, T, N) ∧ (∀ w ∈ u_ws C T N, w ∈ xws) ∧ (∀ k, k < N → parseFieldDescriptor (T k).2.2.1 = some (ty k)) ∧ (∀ a, a < N → ∀ b, b < N → a ≠ b → (T a).2.1 ≠ (T b).2.1)
/-- the words of a method -/
def XMc (y : MethodName) (bytes : ByteArray) (maxL : Nat) (ret : Option FieldType) (n : Nat) : Prop := Cond.code y bytes maxL ret ∈ xws ∧ Cond.initialized y.cls ∈ xws ∧ (y.cls ≠ "java/lang/invoke/MethodHandle" ∧ y.cls ≠ "java/lang/invoke/VarHandle" ∧ (parseMethodDescriptor y.desc).map (fun d => d.parameters.length) = some n)
def XMv (y : MethodName) : Prop := Cond.instanceMethod y ∈ xws ∧ Cond.selects y.cls y y ∈ xws
end
section
theorem xcl_in {C : String} {T : u_T} {N : Nat} (ps : List Nat) (e : u_ws C T N = ps.filterMap (fun i => tables_1[i]?)) (hg : (u_ws C T N).all goodWord = true) : ∀ w ∈ u_ws C T N, w ∈ xws := by
  intro w hw
  have h1 := List.all_eq_true.mp hg w hw
  rw [e] at hw
  obtain ⟨i, -, hi⟩ := List.mem_filterMap.mp hw
  exact xws_t i hi h1
theorem cl_X0 : XCl 0 RX0 TX0 2 tyX0 := ⟨rfl, xcl_in [61, 63] (by decide +kernel) (by decide +kernel), tyX0_ok, nmX0⟩
theorem dv_X0 : ∀ k, k < 2 → defaultValue (tyX0 k) = if xfr 0 k = true then .null else .int 0 := by decide +kernel
theorem cl_X1 : XCl 1 RX1 TX1 5 tyX1 := ⟨rfl, xcl_in [408, 410, 412, 414, 416] (by decide +kernel) (by decide +kernel), tyX1_ok, nmX1⟩
theorem dv_X1 : ∀ k, k < 5 → defaultValue (tyX1 k) = if xfr 1 k = true then .null else .int 0 := by decide +kernel
theorem cl_X2 : XCl 2 RX2 TX2 4 tyX2 := ⟨rfl, xcl_in [261, 263, 265, 267] (by decide +kernel) (by decide +kernel), tyX2_ok, nmX2⟩
theorem dv_X2 : ∀ k, k < 4 → defaultValue (tyX2 k) = if xfr 2 k = true then .null else .int 0 := by decide +kernel
theorem cl_X3 : XCl 3 RX3 TX3 8 tyX3 := ⟨rfl, xcl_in [98, 100, 102, 104, 106, 108, 110, 112] (by decide +kernel) (by decide +kernel), tyX3_ok, nmX3⟩
theorem dv_X3 : ∀ k, k < 8 → defaultValue (tyX3 k) = if xfr 3 k = true then .null else .int 0 := by decide +kernel
theorem cl_X4 : XCl 4 RX4 TX4 9 tyX4 := ⟨rfl, xcl_in [177, 179, 181, 183, 185, 187, 189, 191, 193] (by decide +kernel) (by decide +kernel), tyX4_ok, nmX4⟩
theorem dv_X4 : ∀ k, k < 9 → defaultValue (tyX4 k) = if xfr 4 k = true then .null else .int 0 := by decide +kernel
theorem cl_X5 : XCl 5 RX5 TX5 8 tyX5 := ⟨rfl, xcl_in [233, 235, 237, 239, 241, 243, 245, 247] (by decide +kernel) (by decide +kernel), tyX5_ok, nmX5⟩
theorem dv_X5 : ∀ k, k < 8 → defaultValue (tyX5 k) = if xfr 5 k = true then .null else .int 0 := by decide +kernel
theorem cl_X6 : XCl 6 RX6 TX6 5 tyX6 := ⟨rfl, xcl_in [128, 130, 132, 134, 136] (by decide +kernel) (by decide +kernel), tyX6_ok, nmX6⟩
theorem dv_X6 : ∀ k, k < 5 → defaultValue (tyX6 k) = if xfr 6 k = true then .null else .int 0 := by decide +kernel
theorem cl_X7 : XCl 7 RX7 TX7 2 tyX7 := ⟨rfl, xcl_in [47, 49] (by decide +kernel) (by decide +kernel), tyX7_ok, nmX7⟩
theorem dv_X7 : ∀ k, k < 2 → defaultValue (tyX7 k) = if xfr 7 k = true then .null else .int 0 := by decide +kernel
theorem cl_X8 : XCl 8 RX8 TX8 3 tyX8 := ⟨rfl, xcl_in [395, 397, 399] (by decide +kernel) (by decide +kernel), tyX8_ok, nmX8⟩
theorem dv_X8 : ∀ k, k < 3 → defaultValue (tyX8 k) = if xfr 8 k = true then .null else .int 0 := by decide +kernel
theorem cl_X9 : XCl 9 RX9 TX9 12 tyX9 := ⟨rfl, xcl_in [282, 284, 286, 288, 290, 292, 294, 296, 298, 300, 302, 304] (by decide +kernel) (by decide +kernel), tyX9_ok, nmX9⟩
theorem dv_X9 : ∀ k, k < 12 → defaultValue (tyX9 k) = if xfr 9 k = true then .null else .int 0 := by decide +kernel
theorem cl_X10 : XCl 10 RX10 TX10 57 tyX10 := ⟨rfl, xcl_in [899, 901, 903, 905, 907, 909, 911, 913, 915, 917, 919, 921, 923, 925, 927, 929, 931, 933, 935, 937, 939, 941, 943, 945, 947, 949, 951, 953, 955, 957, 959, 961, 963, 965, 967, 969, 971, 973, 975, 977, 979, 981, 983, 985, 987, 989, 991, 993, 995, 997, 999, 1001, 1003, 1005, 1007, 1009, 1011] (by decide +kernel) (by decide +kernel), tyX10_ok, nmX10⟩
theorem dv_X10 : ∀ k, k < 57 → defaultValue (tyX10 k) = if xfr 10 k = true then .null else .int 0 := by decide +kernel
theorem fl_X7_9 : Cond.fieldLink RX7 9 (TX7 0).1 (TX7 0).2.1 (TX7 0).2.2.1 ∈ xws := xws_t 42 (by decide +kernel) rfl
theorem fl_X8_41 : Cond.fieldLink RX8 41 (TX7 0).1 (TX7 0).2.1 (TX7 0).2.2.1 ∈ xws := xws_t 43 (by decide +kernel) rfl
theorem fl_X7_15 : Cond.fieldLink RX7 15 (TX7 1).1 (TX7 1).2.1 (TX7 1).2.2.1 ∈ xws := xws_t 44 (by decide +kernel) rfl
theorem fl_X8_28 : Cond.fieldLink RX8 28 (TX7 1).1 (TX7 1).2.1 (TX7 1).2.2.1 ∈ xws := xws_t 45 (by decide +kernel) rfl
theorem fl_X9_114 : Cond.fieldLink RX9 114 (TX7 1).1 (TX7 1).2.1 (TX7 1).2.2.1 ∈ xws := xws_t 46 (by decide +kernel) rfl
theorem fl_X0_9 : Cond.fieldLink RX0 9 (TX0 0).1 (TX0 0).2.1 (TX0 0).2.2.1 ∈ xws := xws_t 59 (by decide +kernel) rfl
theorem fl_X0_15 : Cond.fieldLink RX0 15 (TX0 1).1 (TX0 1).2.1 (TX0 1).2.2.1 ∈ xws := xws_t 60 (by decide +kernel) rfl
theorem fl_X3_9 : Cond.fieldLink RX3 9 (TX3 0).1 (TX3 0).2.1 (TX3 0).2.2.1 ∈ xws := xws_t 79 (by decide +kernel) rfl
theorem fl_X6_41 : Cond.fieldLink RX6 41 (TX3 0).1 (TX3 0).2.1 (TX3 0).2.2.1 ∈ xws := xws_t 80 (by decide +kernel) rfl
theorem fl_X9_159 : Cond.fieldLink RX9 159 (TX3 0).1 (TX3 0).2.1 (TX3 0).2.2.1 ∈ xws := xws_t 81 (by decide +kernel) rfl
theorem fl_X3_15 : Cond.fieldLink RX3 15 (TX3 1).1 (TX3 1).2.1 (TX3 1).2.2.1 ∈ xws := xws_t 82 (by decide +kernel) rfl
theorem fl_X6_45 : Cond.fieldLink RX6 45 (TX3 1).1 (TX3 1).2.1 (TX3 1).2.2.1 ∈ xws := xws_t 83 (by decide +kernel) rfl
theorem fl_X9_162 : Cond.fieldLink RX9 162 (TX3 1).1 (TX3 1).2.1 (TX3 1).2.2.1 ∈ xws := xws_t 84 (by decide +kernel) rfl
theorem fl_X3_18 : Cond.fieldLink RX3 18 (TX3 2).1 (TX3 2).2.1 (TX3 2).2.2.1 ∈ xws := xws_t 85 (by decide +kernel) rfl
theorem fl_X6_72 : Cond.fieldLink RX6 72 (TX3 2).1 (TX3 2).2.1 (TX3 2).2.2.1 ∈ xws := xws_t 86 (by decide +kernel) rfl
theorem fl_X9_165 : Cond.fieldLink RX9 165 (TX3 2).1 (TX3 2).2.1 (TX3 2).2.2.1 ∈ xws := xws_t 87 (by decide +kernel) rfl
theorem fl_X3_21 : Cond.fieldLink RX3 21 (TX3 3).1 (TX3 3).2.1 (TX3 3).2.2.1 ∈ xws := xws_t 88 (by decide +kernel) rfl
theorem fl_X9_168 : Cond.fieldLink RX9 168 (TX3 3).1 (TX3 3).2.1 (TX3 3).2.2.1 ∈ xws := xws_t 89 (by decide +kernel) rfl
theorem fl_X3_24 : Cond.fieldLink RX3 24 (TX3 4).1 (TX3 4).2.1 (TX3 4).2.2.1 ∈ xws := xws_t 90 (by decide +kernel) rfl
theorem fl_X6_75 : Cond.fieldLink RX6 75 (TX3 4).1 (TX3 4).2.1 (TX3 4).2.2.1 ∈ xws := xws_t 91 (by decide +kernel) rfl
theorem fl_X3_28 : Cond.fieldLink RX3 28 (TX3 5).1 (TX3 5).2.1 (TX3 5).2.2.1 ∈ xws := xws_t 92 (by decide +kernel) rfl
theorem fl_X9_171 : Cond.fieldLink RX9 171 (TX3 5).1 (TX3 5).2.1 (TX3 5).2.2.1 ∈ xws := xws_t 93 (by decide +kernel) rfl
theorem fl_X3_31 : Cond.fieldLink RX3 31 (TX3 6).1 (TX3 6).2.1 (TX3 6).2.2.1 ∈ xws := xws_t 94 (by decide +kernel) rfl
theorem fl_X3_34 : Cond.fieldLink RX3 34 (TX3 7).1 (TX3 7).2.1 (TX3 7).2.2.1 ∈ xws := xws_t 95 (by decide +kernel) rfl
theorem fl_X6_38 : Cond.fieldLink RX6 38 (TX3 7).1 (TX3 7).2.1 (TX3 7).2.2.1 ∈ xws := xws_t 96 (by decide +kernel) rfl
theorem fl_X9_154 : Cond.fieldLink RX9 154 (TX3 7).1 (TX3 7).2.1 (TX3 7).2.2.1 ∈ xws := xws_t 97 (by decide +kernel) rfl
theorem fl_X6_12 : Cond.fieldLink RX6 12 (TX6 0).1 (TX6 0).2.1 (TX6 0).2.2.1 ∈ xws := xws_t 118 (by decide +kernel) rfl
theorem fl_X9_150 : Cond.fieldLink RX9 150 (TX6 0).1 (TX6 0).2.1 (TX6 0).2.2.1 ∈ xws := xws_t 119 (by decide +kernel) rfl
theorem fl_X6_20 : Cond.fieldLink RX6 20 (TX6 1).1 (TX6 1).2.1 (TX6 1).2.2.1 ∈ xws := xws_t 120 (by decide +kernel) rfl
theorem fl_X9_182 : Cond.fieldLink RX9 182 (TX6 1).1 (TX6 1).2.1 (TX6 1).2.2.1 ∈ xws := xws_t 121 (by decide +kernel) rfl
theorem fl_X6_23 : Cond.fieldLink RX6 23 (TX6 2).1 (TX6 2).2.1 (TX6 2).2.2.1 ∈ xws := xws_t 122 (by decide +kernel) rfl
theorem fl_X9_220 : Cond.fieldLink RX9 220 (TX6 2).1 (TX6 2).2.1 (TX6 2).2.2.1 ∈ xws := xws_t 123 (by decide +kernel) rfl
theorem fl_X6_27 : Cond.fieldLink RX6 27 (TX6 3).1 (TX6 3).2.1 (TX6 3).2.2.1 ∈ xws := xws_t 124 (by decide +kernel) rfl
theorem fl_X9_174 : Cond.fieldLink RX9 174 (TX6 3).1 (TX6 3).2.1 (TX6 3).2.2.1 ∈ xws := xws_t 125 (by decide +kernel) rfl
theorem fl_X6_30 : Cond.fieldLink RX6 30 (TX6 4).1 (TX6 4).2.1 (TX6 4).2.2.1 ∈ xws := xws_t 126 (by decide +kernel) rfl
theorem fl_X9_187 : Cond.fieldLink RX9 187 (TX6 4).1 (TX6 4).2.1 (TX6 4).2.2.1 ∈ xws := xws_t 127 (by decide +kernel) rfl
theorem fl_X4_9 : Cond.fieldLink RX4 9 (TX4 0).1 (TX4 0).2.1 (TX4 0).2.2.1 ∈ xws := xws_t 152 (by decide +kernel) rfl
theorem fl_X6_66 : Cond.fieldLink RX6 66 (TX4 0).1 (TX4 0).2.1 (TX4 0).2.2.1 ∈ xws := xws_t 153 (by decide +kernel) rfl
theorem fl_X3_50 : Cond.fieldLink RX3 50 (TX4 0).1 (TX4 0).2.1 (TX4 0).2.2.1 ∈ xws := xws_t 154 (by decide +kernel) rfl
theorem fl_X9_80 : Cond.fieldLink RX9 80 (TX4 0).1 (TX4 0).2.1 (TX4 0).2.2.1 ∈ xws := xws_t 155 (by decide +kernel) rfl
theorem fl_X4_15 : Cond.fieldLink RX4 15 (TX4 1).1 (TX4 1).2.1 (TX4 1).2.2.1 ∈ xws := xws_t 156 (by decide +kernel) rfl
theorem fl_X6_69 : Cond.fieldLink RX6 69 (TX4 1).1 (TX4 1).2.1 (TX4 1).2.2.1 ∈ xws := xws_t 157 (by decide +kernel) rfl
theorem fl_X4_18 : Cond.fieldLink RX4 18 (TX4 2).1 (TX4 2).2.1 (TX4 2).2.2.1 ∈ xws := xws_t 158 (by decide +kernel) rfl
theorem fl_X3_53 : Cond.fieldLink RX3 53 (TX4 2).1 (TX4 2).2.1 (TX4 2).2.2.1 ∈ xws := xws_t 159 (by decide +kernel) rfl
theorem fl_X4_21 : Cond.fieldLink RX4 21 (TX4 3).1 (TX4 3).2.1 (TX4 3).2.2.1 ∈ xws := xws_t 160 (by decide +kernel) rfl
theorem fl_X6_79 : Cond.fieldLink RX6 79 (TX4 3).1 (TX4 3).2.1 (TX4 3).2.2.1 ∈ xws := xws_t 161 (by decide +kernel) rfl
theorem fl_X3_63 : Cond.fieldLink RX3 63 (TX4 3).1 (TX4 3).2.1 (TX4 3).2.2.1 ∈ xws := xws_t 162 (by decide +kernel) rfl
theorem fl_X4_25 : Cond.fieldLink RX4 25 (TX4 4).1 (TX4 4).2.1 (TX4 4).2.2.1 ∈ xws := xws_t 163 (by decide +kernel) rfl
theorem fl_X6_82 : Cond.fieldLink RX6 82 (TX4 4).1 (TX4 4).2.1 (TX4 4).2.2.1 ∈ xws := xws_t 164 (by decide +kernel) rfl
theorem fl_X3_60 : Cond.fieldLink RX3 60 (TX4 4).1 (TX4 4).2.1 (TX4 4).2.2.1 ∈ xws := xws_t 165 (by decide +kernel) rfl
theorem fl_X4_30 : Cond.fieldLink RX4 30 (TX4 5).1 (TX4 5).2.1 (TX4 5).2.2.1 ∈ xws := xws_t 166 (by decide +kernel) rfl
theorem fl_X6_128 : Cond.fieldLink RX6 128 (TX4 5).1 (TX4 5).2.1 (TX4 5).2.2.1 ∈ xws := xws_t 167 (by decide +kernel) rfl
theorem fl_X9_142 : Cond.fieldLink RX9 142 (TX4 5).1 (TX4 5).2.1 (TX4 5).2.2.1 ∈ xws := xws_t 168 (by decide +kernel) rfl
theorem fl_X4_33 : Cond.fieldLink RX4 33 (TX4 6).1 (TX4 6).2.1 (TX4 6).2.2.1 ∈ xws := xws_t 169 (by decide +kernel) rfl
theorem fl_X3_38 : Cond.fieldLink RX3 38 (TX4 6).1 (TX4 6).2.1 (TX4 6).2.2.1 ∈ xws := xws_t 170 (by decide +kernel) rfl
theorem fl_X9_66 : Cond.fieldLink RX9 66 (TX4 6).1 (TX4 6).2.1 (TX4 6).2.2.1 ∈ xws := xws_t 171 (by decide +kernel) rfl
theorem fl_X4_37 : Cond.fieldLink RX4 37 (TX4 7).1 (TX4 7).2.1 (TX4 7).2.2.1 ∈ xws := xws_t 172 (by decide +kernel) rfl
theorem fl_X9_133 : Cond.fieldLink RX9 133 (TX4 7).1 (TX4 7).2.1 (TX4 7).2.2.1 ∈ xws := xws_t 173 (by decide +kernel) rfl
theorem fl_X4_40 : Cond.fieldLink RX4 40 (TX4 8).1 (TX4 8).2.1 (TX4 8).2.2.1 ∈ xws := xws_t 174 (by decide +kernel) rfl
theorem fl_X6_61 : Cond.fieldLink RX6 61 (TX4 8).1 (TX4 8).2.1 (TX4 8).2.2.1 ∈ xws := xws_t 175 (by decide +kernel) rfl
theorem fl_X9_98 : Cond.fieldLink RX9 98 (TX4 8).1 (TX4 8).2.1 (TX4 8).2.2.1 ∈ xws := xws_t 176 (by decide +kernel) rfl
theorem fl_X5_9 : Cond.fieldLink RX5 9 (TX5 0).1 (TX5 0).2.1 (TX5 0).2.2.1 ∈ xws := xws_t 210 (by decide +kernel) rfl
theorem fl_X1_55 : Cond.fieldLink RX1 55 (TX5 0).1 (TX5 0).2.1 (TX5 0).2.2.1 ∈ xws := xws_t 211 (by decide +kernel) rfl
theorem fl_X6_115 : Cond.fieldLink RX6 115 (TX5 0).1 (TX5 0).2.1 (TX5 0).2.2.1 ∈ xws := xws_t 212 (by decide +kernel) rfl
theorem fl_X5_15 : Cond.fieldLink RX5 15 (TX5 1).1 (TX5 1).2.1 (TX5 1).2.2.1 ∈ xws := xws_t 213 (by decide +kernel) rfl
theorem fl_X6_94 : Cond.fieldLink RX6 94 (TX5 1).1 (TX5 1).2.1 (TX5 1).2.2.1 ∈ xws := xws_t 214 (by decide +kernel) rfl
theorem fl_X1_66 : Cond.fieldLink RX1 66 (TX5 1).1 (TX5 1).2.1 (TX5 1).2.2.1 ∈ xws := xws_t 215 (by decide +kernel) rfl
theorem fl_X5_19 : Cond.fieldLink RX5 19 (TX5 2).1 (TX5 2).2.1 (TX5 2).2.2.1 ∈ xws := xws_t 216 (by decide +kernel) rfl
theorem fl_X6_112 : Cond.fieldLink RX6 112 (TX5 2).1 (TX5 2).2.1 (TX5 2).2.2.1 ∈ xws := xws_t 217 (by decide +kernel) rfl
theorem fl_X1_69 : Cond.fieldLink RX1 69 (TX5 2).1 (TX5 2).2.1 (TX5 2).2.2.1 ∈ xws := xws_t 218 (by decide +kernel) rfl
theorem fl_X5_22 : Cond.fieldLink RX5 22 (TX5 3).1 (TX5 3).2.1 (TX5 3).2.2.1 ∈ xws := xws_t 219 (by decide +kernel) rfl
theorem fl_X6_97 : Cond.fieldLink RX6 97 (TX5 3).1 (TX5 3).2.1 (TX5 3).2.2.1 ∈ xws := xws_t 220 (by decide +kernel) rfl
theorem fl_X1_78 : Cond.fieldLink RX1 78 (TX5 3).1 (TX5 3).2.1 (TX5 3).2.2.1 ∈ xws := xws_t 221 (by decide +kernel) rfl
theorem fl_X5_25 : Cond.fieldLink RX5 25 (TX5 4).1 (TX5 4).2.1 (TX5 4).2.2.1 ∈ xws := xws_t 222 (by decide +kernel) rfl
theorem fl_X6_100 : Cond.fieldLink RX6 100 (TX5 4).1 (TX5 4).2.1 (TX5 4).2.2.1 ∈ xws := xws_t 223 (by decide +kernel) rfl
theorem fl_X1_81 : Cond.fieldLink RX1 81 (TX5 4).1 (TX5 4).2.1 (TX5 4).2.2.1 ∈ xws := xws_t 224 (by decide +kernel) rfl
theorem fl_X5_41 : Cond.fieldLink RX5 41 (TX5 5).1 (TX5 5).2.1 (TX5 5).2.2.1 ∈ xws := xws_t 225 (by decide +kernel) rfl
theorem fl_X6_103 : Cond.fieldLink RX6 103 (TX5 5).1 (TX5 5).2.1 (TX5 5).2.2.1 ∈ xws := xws_t 226 (by decide +kernel) rfl
theorem fl_X5_28 : Cond.fieldLink RX5 28 (TX5 6).1 (TX5 6).2.1 (TX5 6).2.2.1 ∈ xws := xws_t 227 (by decide +kernel) rfl
theorem fl_X6_85 : Cond.fieldLink RX6 85 (TX5 6).1 (TX5 6).2.1 (TX5 6).2.2.1 ∈ xws := xws_t 228 (by decide +kernel) rfl
theorem fl_X1_84 : Cond.fieldLink RX1 84 (TX5 6).1 (TX5 6).2.1 (TX5 6).2.2.1 ∈ xws := xws_t 229 (by decide +kernel) rfl
theorem fl_X9_203 : Cond.fieldLink RX9 203 (TX5 6).1 (TX5 6).2.1 (TX5 6).2.2.1 ∈ xws := xws_t 230 (by decide +kernel) rfl
theorem fl_X5_32 : Cond.fieldLink RX5 32 (TX5 7).1 (TX5 7).2.1 (TX5 7).2.2.1 ∈ xws := xws_t 231 (by decide +kernel) rfl
theorem fl_X1_72 : Cond.fieldLink RX1 72 (TX5 7).1 (TX5 7).2.1 (TX5 7).2.2.1 ∈ xws := xws_t 232 (by decide +kernel) rfl
theorem fl_X2_14 : Cond.fieldLink RX2 14 (TX2 0).1 (TX2 0).2.1 (TX2 0).2.2.1 ∈ xws := xws_t 250 (by decide +kernel) rfl
theorem fl_X9_130 : Cond.fieldLink RX9 130 (TX2 0).1 (TX2 0).2.1 (TX2 0).2.2.1 ∈ xws := xws_t 251 (by decide +kernel) rfl
theorem fl_X2_20 : Cond.fieldLink RX2 20 (TX2 1).1 (TX2 1).2.1 (TX2 1).2.2.1 ∈ xws := xws_t 252 (by decide +kernel) rfl
theorem fl_X6_131 : Cond.fieldLink RX6 131 (TX2 1).1 (TX2 1).2.1 (TX2 1).2.2.1 ∈ xws := xws_t 253 (by decide +kernel) rfl
theorem fl_X9_101 : Cond.fieldLink RX9 101 (TX2 1).1 (TX2 1).2.1 (TX2 1).2.2.1 ∈ xws := xws_t 254 (by decide +kernel) rfl
theorem fl_X2_24 : Cond.fieldLink RX2 24 (TX2 2).1 (TX2 2).2.1 (TX2 2).2.2.1 ∈ xws := xws_t 255 (by decide +kernel) rfl
theorem fl_X6_136 : Cond.fieldLink RX6 136 (TX2 2).1 (TX2 2).2.1 (TX2 2).2.2.1 ∈ xws := xws_t 256 (by decide +kernel) rfl
theorem fl_X9_104 : Cond.fieldLink RX9 104 (TX2 2).1 (TX2 2).2.1 (TX2 2).2.2.1 ∈ xws := xws_t 257 (by decide +kernel) rfl
theorem fl_X2_27 : Cond.fieldLink RX2 27 (TX2 3).1 (TX2 3).2.1 (TX2 3).2.2.1 ∈ xws := xws_t 258 (by decide +kernel) rfl
theorem fl_X6_139 : Cond.fieldLink RX6 139 (TX2 3).1 (TX2 3).2.1 (TX2 3).2.2.1 ∈ xws := xws_t 259 (by decide +kernel) rfl
theorem fl_X9_107 : Cond.fieldLink RX9 107 (TX2 3).1 (TX2 3).2.1 (TX2 3).2.2.1 ∈ xws := xws_t 260 (by decide +kernel) rfl
theorem fl_X9_11 : Cond.fieldLink RX9 11 (TX9 0).1 (TX9 0).2.1 (TX9 0).2.2.1 ∈ xws := xws_t 270 (by decide +kernel) rfl
theorem fl_X9_15 : Cond.fieldLink RX9 15 (TX9 1).1 (TX9 1).2.1 (TX9 1).2.2.1 ∈ xws := xws_t 271 (by decide +kernel) rfl
theorem fl_X9_19 : Cond.fieldLink RX9 19 (TX9 2).1 (TX9 2).2.1 (TX9 2).2.2.1 ∈ xws := xws_t 272 (by decide +kernel) rfl
theorem fl_X9_24 : Cond.fieldLink RX9 24 (TX9 3).1 (TX9 3).2.1 (TX9 3).2.2.1 ∈ xws := xws_t 273 (by decide +kernel) rfl
theorem fl_X9_28 : Cond.fieldLink RX9 28 (TX9 4).1 (TX9 4).2.1 (TX9 4).2.2.1 ∈ xws := xws_t 274 (by decide +kernel) rfl
theorem fl_X9_31 : Cond.fieldLink RX9 31 (TX9 5).1 (TX9 5).2.1 (TX9 5).2.2.1 ∈ xws := xws_t 275 (by decide +kernel) rfl
theorem fl_X9_34 : Cond.fieldLink RX9 34 (TX9 6).1 (TX9 6).2.1 (TX9 6).2.2.1 ∈ xws := xws_t 276 (by decide +kernel) rfl
theorem fl_X9_37 : Cond.fieldLink RX9 37 (TX9 7).1 (TX9 7).2.1 (TX9 7).2.2.1 ∈ xws := xws_t 277 (by decide +kernel) rfl
theorem fl_X9_43 : Cond.fieldLink RX9 43 (TX9 8).1 (TX9 8).2.1 (TX9 8).2.2.1 ∈ xws := xws_t 278 (by decide +kernel) rfl
theorem fl_X9_50 : Cond.fieldLink RX9 50 (TX9 9).1 (TX9 9).2.1 (TX9 9).2.2.1 ∈ xws := xws_t 279 (by decide +kernel) rfl
theorem fl_X9_57 : Cond.fieldLink RX9 57 (TX9 10).1 (TX9 10).2.1 (TX9 10).2.2.1 ∈ xws := xws_t 280 (by decide +kernel) rfl
theorem fl_X9_61 : Cond.fieldLink RX9 61 (TX9 11).1 (TX9 11).2.1 (TX9 11).2.2.1 ∈ xws := xws_t 281 (by decide +kernel) rfl
theorem fl_X8_21 : Cond.fieldLink RX8 21 (TX8 0).1 (TX8 0).2.1 (TX8 0).2.2.1 ∈ xws := xws_t 390 (by decide +kernel) rfl
theorem fl_X1_41 : Cond.fieldLink RX1 41 (TX8 0).1 (TX8 0).2.1 (TX8 0).2.2.1 ∈ xws := xws_t 391 (by decide +kernel) rfl
theorem fl_X8_25 : Cond.fieldLink RX8 25 (TX8 1).1 (TX8 1).2.1 (TX8 1).2.2.1 ∈ xws := xws_t 392 (by decide +kernel) rfl
theorem fl_X1_49 : Cond.fieldLink RX1 49 (TX8 1).1 (TX8 1).2.1 (TX8 1).2.2.1 ∈ xws := xws_t 393 (by decide +kernel) rfl
theorem fl_X8_9 : Cond.fieldLink RX8 9 (TX8 2).1 (TX8 2).2.1 (TX8 2).2.2.1 ∈ xws := xws_t 394 (by decide +kernel) rfl
theorem fl_X1_26 : Cond.fieldLink RX1 26 (TX1 0).1 (TX1 0).2.1 (TX1 0).2.2.1 ∈ xws := xws_t 402 (by decide +kernel) rfl
theorem fl_X9_126 : Cond.fieldLink RX9 126 (TX1 0).1 (TX1 0).2.1 (TX1 0).2.2.1 ∈ xws := xws_t 403 (by decide +kernel) rfl
theorem fl_X1_33 : Cond.fieldLink RX1 33 (TX1 1).1 (TX1 1).2.1 (TX1 1).2.2.1 ∈ xws := xws_t 404 (by decide +kernel) rfl
theorem fl_X1_9 : Cond.fieldLink RX1 9 (TX1 2).1 (TX1 2).2.1 (TX1 2).2.2.1 ∈ xws := xws_t 405 (by decide +kernel) rfl
theorem fl_X1_15 : Cond.fieldLink RX1 15 (TX1 3).1 (TX1 3).2.1 (TX1 3).2.2.1 ∈ xws := xws_t 406 (by decide +kernel) rfl
theorem fl_X1_18 : Cond.fieldLink RX1 18 (TX1 4).1 (TX1 4).2.1 (TX1 4).2.2.1 ∈ xws := xws_t 407 (by decide +kernel) rfl
theorem fl_X10_1 : Cond.fieldLink RX10 1 (TX10 0).1 (TX10 0).2.1 (TX10 0).2.2.1 ∈ xws := xws_t 842 (by decide +kernel) rfl
theorem fl_X10_14 : Cond.fieldLink RX10 14 (TX10 1).1 (TX10 1).2.1 (TX10 1).2.2.1 ∈ xws := xws_t 843 (by decide +kernel) rfl
theorem fl_X10_11 : Cond.fieldLink RX10 11 (TX10 2).1 (TX10 2).2.1 (TX10 2).2.2.1 ∈ xws := xws_t 844 (by decide +kernel) rfl
theorem fl_X10_196 : Cond.fieldLink RX10 196 (TX10 3).1 (TX10 3).2.1 (TX10 3).2.2.1 ∈ xws := xws_t 845 (by decide +kernel) rfl
theorem fl_X10_24 : Cond.fieldLink RX10 24 (TX10 4).1 (TX10 4).2.1 (TX10 4).2.2.1 ∈ xws := xws_t 846 (by decide +kernel) rfl
theorem fl_X10_27 : Cond.fieldLink RX10 27 (TX10 5).1 (TX10 5).2.1 (TX10 5).2.2.1 ∈ xws := xws_t 847 (by decide +kernel) rfl
theorem fl_X10_30 : Cond.fieldLink RX10 30 (TX10 6).1 (TX10 6).2.1 (TX10 6).2.2.1 ∈ xws := xws_t 848 (by decide +kernel) rfl
theorem fl_X10_215 : Cond.fieldLink RX10 215 (TX10 7).1 (TX10 7).2.1 (TX10 7).2.2.1 ∈ xws := xws_t 849 (by decide +kernel) rfl
theorem fl_X10_218 : Cond.fieldLink RX10 218 (TX10 8).1 (TX10 8).2.1 (TX10 8).2.2.1 ∈ xws := xws_t 850 (by decide +kernel) rfl
theorem fl_X10_68 : Cond.fieldLink RX10 68 (TX10 9).1 (TX10 9).2.1 (TX10 9).2.2.1 ∈ xws := xws_t 851 (by decide +kernel) rfl
theorem fl_X10_246 : Cond.fieldLink RX10 246 (TX10 10).1 (TX10 10).2.1 (TX10 10).2.2.1 ∈ xws := xws_t 852 (by decide +kernel) rfl
theorem fl_X10_71 : Cond.fieldLink RX10 71 (TX10 11).1 (TX10 11).2.1 (TX10 11).2.2.1 ∈ xws := xws_t 853 (by decide +kernel) rfl
theorem fl_X10_74 : Cond.fieldLink RX10 74 (TX10 12).1 (TX10 12).2.1 (TX10 12).2.2.1 ∈ xws := xws_t 854 (by decide +kernel) rfl
theorem fl_X10_77 : Cond.fieldLink RX10 77 (TX10 13).1 (TX10 13).2.1 (TX10 13).2.2.1 ∈ xws := xws_t 855 (by decide +kernel) rfl
theorem fl_X10_80 : Cond.fieldLink RX10 80 (TX10 14).1 (TX10 14).2.1 (TX10 14).2.2.1 ∈ xws := xws_t 856 (by decide +kernel) rfl
theorem fl_X10_83 : Cond.fieldLink RX10 83 (TX10 15).1 (TX10 15).2.1 (TX10 15).2.2.1 ∈ xws := xws_t 857 (by decide +kernel) rfl
theorem fl_X10_87 : Cond.fieldLink RX10 87 (TX10 16).1 (TX10 16).2.1 (TX10 16).2.2.1 ∈ xws := xws_t 858 (by decide +kernel) rfl
theorem fl_X10_90 : Cond.fieldLink RX10 90 (TX10 17).1 (TX10 17).2.1 (TX10 17).2.2.1 ∈ xws := xws_t 859 (by decide +kernel) rfl
theorem fl_X10_93 : Cond.fieldLink RX10 93 (TX10 18).1 (TX10 18).2.1 (TX10 18).2.2.1 ∈ xws := xws_t 860 (by decide +kernel) rfl
theorem fl_X10_96 : Cond.fieldLink RX10 96 (TX10 19).1 (TX10 19).2.1 (TX10 19).2.2.1 ∈ xws := xws_t 861 (by decide +kernel) rfl
theorem fl_X10_99 : Cond.fieldLink RX10 99 (TX10 20).1 (TX10 20).2.1 (TX10 20).2.2.1 ∈ xws := xws_t 862 (by decide +kernel) rfl
theorem fl_X10_234 : Cond.fieldLink RX10 234 (TX10 21).1 (TX10 21).2.1 (TX10 21).2.2.1 ∈ xws := xws_t 863 (by decide +kernel) rfl
theorem fl_X10_259 : Cond.fieldLink RX10 259 (TX10 22).1 (TX10 22).2.1 (TX10 22).2.2.1 ∈ xws := xws_t 864 (by decide +kernel) rfl
theorem fl_X10_102 : Cond.fieldLink RX10 102 (TX10 23).1 (TX10 23).2.1 (TX10 23).2.2.1 ∈ xws := xws_t 865 (by decide +kernel) rfl
theorem fl_X10_105 : Cond.fieldLink RX10 105 (TX10 24).1 (TX10 24).2.1 (TX10 24).2.2.1 ∈ xws := xws_t 866 (by decide +kernel) rfl
theorem fl_X10_108 : Cond.fieldLink RX10 108 (TX10 25).1 (TX10 25).2.1 (TX10 25).2.2.1 ∈ xws := xws_t 867 (by decide +kernel) rfl
theorem fl_X10_111 : Cond.fieldLink RX10 111 (TX10 26).1 (TX10 26).2.1 (TX10 26).2.2.1 ∈ xws := xws_t 868 (by decide +kernel) rfl
theorem fl_X10_114 : Cond.fieldLink RX10 114 (TX10 27).1 (TX10 27).2.1 (TX10 27).2.2.1 ∈ xws := xws_t 869 (by decide +kernel) rfl
theorem fl_X10_117 : Cond.fieldLink RX10 117 (TX10 28).1 (TX10 28).2.1 (TX10 28).2.2.1 ∈ xws := xws_t 870 (by decide +kernel) rfl
theorem fl_X10_283 : Cond.fieldLink RX10 283 (TX10 29).1 (TX10 29).2.1 (TX10 29).2.2.1 ∈ xws := xws_t 871 (by decide +kernel) rfl
theorem fl_X10_120 : Cond.fieldLink RX10 120 (TX10 30).1 (TX10 30).2.1 (TX10 30).2.2.1 ∈ xws := xws_t 872 (by decide +kernel) rfl
theorem fl_X10_123 : Cond.fieldLink RX10 123 (TX10 31).1 (TX10 31).2.1 (TX10 31).2.2.1 ∈ xws := xws_t 873 (by decide +kernel) rfl
theorem fl_X10_126 : Cond.fieldLink RX10 126 (TX10 32).1 (TX10 32).2.1 (TX10 32).2.2.1 ∈ xws := xws_t 874 (by decide +kernel) rfl
theorem fl_X10_129 : Cond.fieldLink RX10 129 (TX10 33).1 (TX10 33).2.1 (TX10 33).2.2.1 ∈ xws := xws_t 875 (by decide +kernel) rfl
theorem fl_X10_132 : Cond.fieldLink RX10 132 (TX10 34).1 (TX10 34).2.1 (TX10 34).2.2.1 ∈ xws := xws_t 876 (by decide +kernel) rfl
theorem fl_X10_135 : Cond.fieldLink RX10 135 (TX10 35).1 (TX10 35).2.1 (TX10 35).2.2.1 ∈ xws := xws_t 877 (by decide +kernel) rfl
theorem fl_X10_138 : Cond.fieldLink RX10 138 (TX10 36).1 (TX10 36).2.1 (TX10 36).2.2.1 ∈ xws := xws_t 878 (by decide +kernel) rfl
theorem fl_X10_141 : Cond.fieldLink RX10 141 (TX10 37).1 (TX10 37).2.1 (TX10 37).2.2.1 ∈ xws := xws_t 879 (by decide +kernel) rfl
theorem fl_X10_144 : Cond.fieldLink RX10 144 (TX10 38).1 (TX10 38).2.1 (TX10 38).2.2.1 ∈ xws := xws_t 880 (by decide +kernel) rfl
theorem fl_X10_147 : Cond.fieldLink RX10 147 (TX10 39).1 (TX10 39).2.1 (TX10 39).2.2.1 ∈ xws := xws_t 881 (by decide +kernel) rfl
theorem fl_X10_150 : Cond.fieldLink RX10 150 (TX10 40).1 (TX10 40).2.1 (TX10 40).2.2.1 ∈ xws := xws_t 882 (by decide +kernel) rfl
theorem fl_X10_153 : Cond.fieldLink RX10 153 (TX10 41).1 (TX10 41).2.1 (TX10 41).2.2.1 ∈ xws := xws_t 883 (by decide +kernel) rfl
theorem fl_X10_300 : Cond.fieldLink RX10 300 (TX10 42).1 (TX10 42).2.1 (TX10 42).2.2.1 ∈ xws := xws_t 884 (by decide +kernel) rfl
theorem fl_X10_156 : Cond.fieldLink RX10 156 (TX10 43).1 (TX10 43).2.1 (TX10 43).2.2.1 ∈ xws := xws_t 885 (by decide +kernel) rfl
theorem fl_X10_159 : Cond.fieldLink RX10 159 (TX10 44).1 (TX10 44).2.1 (TX10 44).2.2.1 ∈ xws := xws_t 886 (by decide +kernel) rfl
theorem fl_X10_162 : Cond.fieldLink RX10 162 (TX10 45).1 (TX10 45).2.1 (TX10 45).2.2.1 ∈ xws := xws_t 887 (by decide +kernel) rfl
theorem fl_X10_165 : Cond.fieldLink RX10 165 (TX10 46).1 (TX10 46).2.1 (TX10 46).2.2.1 ∈ xws := xws_t 888 (by decide +kernel) rfl
theorem fl_X10_310 : Cond.fieldLink RX10 310 (TX10 47).1 (TX10 47).2.1 (TX10 47).2.2.1 ∈ xws := xws_t 889 (by decide +kernel) rfl
theorem fl_X10_168 : Cond.fieldLink RX10 168 (TX10 48).1 (TX10 48).2.1 (TX10 48).2.2.1 ∈ xws := xws_t 890 (by decide +kernel) rfl
theorem fl_X10_171 : Cond.fieldLink RX10 171 (TX10 49).1 (TX10 49).2.1 (TX10 49).2.2.1 ∈ xws := xws_t 891 (by decide +kernel) rfl
theorem fl_X10_174 : Cond.fieldLink RX10 174 (TX10 50).1 (TX10 50).2.1 (TX10 50).2.2.1 ∈ xws := xws_t 892 (by decide +kernel) rfl
theorem fl_X10_177 : Cond.fieldLink RX10 177 (TX10 51).1 (TX10 51).2.1 (TX10 51).2.2.1 ∈ xws := xws_t 893 (by decide +kernel) rfl
theorem fl_X10_180 : Cond.fieldLink RX10 180 (TX10 52).1 (TX10 52).2.1 (TX10 52).2.2.1 ∈ xws := xws_t 894 (by decide +kernel) rfl
theorem fl_X10_183 : Cond.fieldLink RX10 183 (TX10 53).1 (TX10 53).2.1 (TX10 53).2.2.1 ∈ xws := xws_t 895 (by decide +kernel) rfl
theorem fl_X10_186 : Cond.fieldLink RX10 186 (TX10 54).1 (TX10 54).2.1 (TX10 54).2.2.1 ∈ xws := xws_t 896 (by decide +kernel) rfl
theorem fl_X10_341 : Cond.fieldLink RX10 341 (TX10 55).1 (TX10 55).2.1 (TX10 55).2.2.1 ∈ xws := xws_t 897 (by decide +kernel) rfl
theorem fl_X10_189 : Cond.fieldLink RX10 189 (TX10 56).1 (TX10 56).2.1 (TX10 56).2.2.1 ∈ xws := xws_t 898 (by decide +kernel) rfl
theorem mc_X0_init : XMc yX0_init cX0_init 1 none 0 := ⟨xws_t 57 (by decide +kernel) rfl, xws_t 3 (by decide +kernel) rfl, by decide +kernel⟩
theorem mi_X0_init : yX0_init.name = "<init>" ∧ Cond.instanceMethod yX0_init ∈ xws := ⟨rfl, xws_t 56 (by decide +kernel) rfl⟩
theorem mc_X0_workOut : XMc yX0_workOut cX0_workOut 9 (some .int) 5 := ⟨xws_t 657 (by decide +kernel) rfl, xws_t 3 (by decide +kernel) rfl, by decide +kernel⟩
theorem mv_X0_workOut : XMv yX0_workOut := ⟨xws_t 655 (by decide +kernel) rfl, xws_t 656 (by decide +kernel) rfl⟩
theorem mc_X0_join : XMc yX0_join cX0_join 3 (some .int) 3 := ⟨xws_t 668 (by decide +kernel) rfl, xws_t 3 (by decide +kernel) rfl, by decide +kernel⟩
theorem ms_X0_join : Cond.static yX0_join ∈ xws := xws_t 667 (by decide +kernel) rfl
theorem mc_X0_push : XMc yX0_push cX0_push 2 none 1 := ⟨xws_t 661 (by decide +kernel) rfl, xws_t 3 (by decide +kernel) rfl, by decide +kernel⟩
theorem mv_X0_push : XMv yX0_push := ⟨xws_t 660 (by decide +kernel) rfl, xws_s 18 (by decide +kernel) rfl⟩
theorem mc_X0_pop : XMc yX0_pop cX0_pop 1 (some .int) 0 := ⟨xws_t 665 (by decide +kernel) rfl, xws_t 3 (by decide +kernel) rfl, by decide +kernel⟩
theorem mv_X0_pop : XMv yX0_pop := ⟨xws_t 664 (by decide +kernel) rfl, xws_s 19 (by decide +kernel) rfl⟩
theorem mc_X1_init : XMc yX1_init cX1_init 2 none 1 := ⟨xws_t 379 (by decide +kernel) rfl, xws_t 13 (by decide +kernel) rfl, by decide +kernel⟩
theorem mi_X1_init : yX1_init.name = "<init>" ∧ Cond.instanceMethod yX1_init ∈ xws := ⟨rfl, xws_t 378 (by decide +kernel) rfl⟩
theorem mc_X1_readText : XMc yX1_readText cX1_readText 4 (some .int) 1 := ⟨xws_t 422 (by decide +kernel) rfl, xws_t 13 (by decide +kernel) rfl, by decide +kernel⟩
theorem mv_X1_readText : XMv yX1_readText := ⟨xws_t 420 (by decide +kernel) rfl, xws_t 421 (by decide +kernel) rfl⟩
theorem mc_X1_goOn : XMc yX1_goOn cX1_goOn 1 none 0 := ⟨xws_t 569 (by decide +kernel) rfl, xws_t 13 (by decide +kernel) rfl, by decide +kernel⟩
theorem mv_X1_goOn : XMv yX1_goOn := ⟨xws_t 568 (by decide +kernel) rfl, xws_s 6 (by decide +kernel) rfl⟩
theorem mc_X1_refuse : XMc yX1_refuse cX1_refuse 2 (some .boolean) 1 := ⟨xws_t 565 (by decide +kernel) rfl, xws_t 13 (by decide +kernel) rfl, by decide +kernel⟩
theorem mv_X1_refuse : XMv yX1_refuse := ⟨xws_t 564 (by decide +kernel) rfl, xws_s 5 (by decide +kernel) rfl⟩
theorem mc_X1_readLine : XMc yX1_readLine cX1_readLine 3 (some .boolean) 1 := ⟨xws_t 561 (by decide +kernel) rfl, xws_t 13 (by decide +kernel) rfl, by decide +kernel⟩
theorem mv_X1_readLine : XMv yX1_readLine := ⟨xws_t 560 (by decide +kernel) rfl, xws_s 4 (by decide +kernel) rfl⟩
theorem mc_X1_readAll : XMc yX1_readAll cX1_readAll 4 (some .boolean) 1 := ⟨xws_t 574 (by decide +kernel) rfl, xws_t 13 (by decide +kernel) rfl, by decide +kernel⟩
theorem mv_X1_readAll : XMv yX1_readAll := ⟨xws_t 573 (by decide +kernel) rfl, xws_s 7 (by decide +kernel) rfl⟩
theorem mc_X1_readTest : XMc yX1_readTest cX1_readTest 4 (some .boolean) 1 := ⟨xws_t 578 (by decide +kernel) rfl, xws_t 13 (by decide +kernel) rfl, by decide +kernel⟩
theorem mv_X1_readTest : XMv yX1_readTest := ⟨xws_t 577 (by decide +kernel) rfl, xws_s 8 (by decide +kernel) rfl⟩
theorem mc_X1_readSum : XMc yX1_readSum cX1_readSum 5 (some .boolean) 1 := ⟨xws_t 582 (by decide +kernel) rfl, xws_t 13 (by decide +kernel) rfl, by decide +kernel⟩
theorem mv_X1_readSum : XMv yX1_readSum := ⟨xws_t 581 (by decide +kernel) rfl, xws_s 9 (by decide +kernel) rfl⟩
theorem mc_X1_readPart : XMc yX1_readPart cX1_readPart 4 (some .boolean) 1 := ⟨xws_t 586 (by decide +kernel) rfl, xws_t 13 (by decide +kernel) rfl, by decide +kernel⟩
theorem mv_X1_readPart : XMv yX1_readPart := ⟨xws_t 585 (by decide +kernel) rfl, xws_s 10 (by decide +kernel) rfl⟩
theorem mc_X2_init : XMc yX2_init cX2_init 1 none 0 := ⟨xws_t 199 (by decide +kernel) rfl, xws_t 8 (by decide +kernel) rfl, by decide +kernel⟩
theorem mi_X2_init : yX2_init.name = "<init>" ∧ Cond.instanceMethod yX2_init ∈ xws := ⟨rfl, xws_t 198 (by decide +kernel) rfl⟩
theorem mc_X3_init : XMc yX3_init cX3_init 1 none 0 := ⟨xws_t 77 (by decide +kernel) rfl, xws_t 5 (by decide +kernel) rfl, by decide +kernel⟩
theorem mi_X3_init : yX3_init.name = "<init>" ∧ Cond.instanceMethod yX3_init ∈ xws := ⟨rfl, xws_t 76 (by decide +kernel) rfl⟩
theorem mc_X3_partWords : XMc yX3_partWords cX3_partWords 5 none 2 := ⟨xws_t 626 (by decide +kernel) rfl, xws_t 5 (by decide +kernel) rfl, by decide +kernel⟩
theorem mv_X3_partWords : XMv yX3_partWords := ⟨xws_t 624 (by decide +kernel) rfl, xws_t 625 (by decide +kernel) rfl⟩
theorem mc_X3_weighFrom : XMc yX3_weighFrom cX3_weighFrom 9 none 3 := ⟨xws_t 630 (by decide +kernel) rfl, xws_t 5 (by decide +kernel) rfl, by decide +kernel⟩
theorem mv_X3_weighFrom : XMv yX3_weighFrom := ⟨xws_t 629 (by decide +kernel) rfl, xws_s 13 (by decide +kernel) rfl⟩
theorem mc_X3_addPhrase : XMc yX3_addPhrase cX3_addPhrase 6 none 3 := ⟨xws_t 634 (by decide +kernel) rfl, xws_t 5 (by decide +kernel) rfl, by decide +kernel⟩
theorem mv_X3_addPhrase : XMv yX3_addPhrase := ⟨xws_t 633 (by decide +kernel) rfl, xws_s 14 (by decide +kernel) rfl⟩
theorem mc_X3_accentWords : XMc yX3_accentWords cX3_accentWords 7 (some .int) 3 := ⟨xws_t 638 (by decide +kernel) rfl, xws_t 5 (by decide +kernel) rfl, by decide +kernel⟩
theorem mv_X3_accentWords : XMv yX3_accentWords := ⟨xws_t 637 (by decide +kernel) rfl, xws_s 15 (by decide +kernel) rfl⟩
theorem mc_X3_pauseBehind : XMc yX3_pauseBehind cX3_pauseBehind 9 (some .int) 2 := ⟨xws_t 711 (by decide +kernel) rfl, xws_t 5 (by decide +kernel) rfl, by decide +kernel⟩
theorem mv_X3_pauseBehind : XMv yX3_pauseBehind := ⟨xws_t 709 (by decide +kernel) rfl, xws_t 710 (by decide +kernel) rfl⟩
theorem mc_X4_init : XMc yX4_init cX4_init 1 none 0 := ⟨xws_t 142 (by decide +kernel) rfl, xws_t 6 (by decide +kernel) rfl, by decide +kernel⟩
theorem mi_X4_init : yX4_init.name = "<init>" ∧ Cond.instanceMethod yX4_init ∈ xws := ⟨rfl, xws_t 141 (by decide +kernel) rfl⟩
theorem mc_X4_clearMarks : XMc yX4_clearMarks cX4_clearMarks 2 none 0 := ⟨xws_t 148 (by decide +kernel) rfl, xws_t 6 (by decide +kernel) rfl, by decide +kernel⟩
theorem mv_X4_clearMarks : XMv yX4_clearMarks := ⟨xws_t 146 (by decide +kernel) rfl, xws_t 147 (by decide +kernel) rfl⟩
theorem mc_X4_markCount : XMc yX4_markCount cX4_markCount 4 (some .int) 0 := ⟨xws_t 732 (by decide +kernel) rfl, xws_t 6 (by decide +kernel) rfl, by decide +kernel⟩
theorem mv_X4_markCount : XMv yX4_markCount := ⟨xws_t 730 (by decide +kernel) rfl, xws_t 731 (by decide +kernel) rfl⟩
theorem mc_X4_putWord : XMc yX4_putWord cX4_putWord 7 none 6 := ⟨xws_t 320 (by decide +kernel) rfl, xws_t 6 (by decide +kernel) rfl, by decide +kernel⟩
theorem mv_X4_putWord : XMv yX4_putWord := ⟨xws_t 318 (by decide +kernel) rfl, xws_t 319 (by decide +kernel) rfl⟩
theorem mc_X4_becomeLike : XMc yX4_becomeLike cX4_becomeLike 3 none 1 := ⟨xws_t 337 (by decide +kernel) rfl, xws_t 6 (by decide +kernel) rfl, by decide +kernel⟩
theorem mv_X4_becomeLike : XMv yX4_becomeLike := ⟨xws_t 335 (by decide +kernel) rfl, xws_t 336 (by decide +kernel) rfl⟩
theorem mc_X5_init : XMc yX5_init cX5_init 2 none 1 := ⟨xws_t 205 (by decide +kernel) rfl, xws_t 9 (by decide +kernel) rfl, by decide +kernel⟩
theorem mi_X5_init : yX5_init.name = "<init>" ∧ Cond.instanceMethod yX5_init ∈ xws := ⟨rfl, xws_t 204 (by decide +kernel) rfl⟩
theorem mc_X5_addNumber : XMc yX5_addNumber cX5_addNumber 2 none 1 := ⟨xws_t 590 (by decide +kernel) rfl, xws_t 9 (by decide +kernel) rfl, by decide +kernel⟩
theorem mv_X5_addNumber : XMv yX5_addNumber := ⟨xws_t 588 (by decide +kernel) rfl, xws_t 589 (by decide +kernel) rfl⟩
theorem mc_X5_addSign : XMc yX5_addSign cX5_addSign 2 none 1 := ⟨xws_t 594 (by decide +kernel) rfl, xws_t 9 (by decide +kernel) rfl, by decide +kernel⟩
theorem mv_X5_addSign : XMv yX5_addSign := ⟨xws_t 592 (by decide +kernel) rfl, xws_t 593 (by decide +kernel) rfl⟩
theorem mc_X6_init : XMc yX6_init cX6_init 1 none 0 := ⟨xws_t 71 (by decide +kernel) rfl, xws_t 4 (by decide +kernel) rfl, by decide +kernel⟩
theorem mi_X6_init : yX6_init.name = "<init>" ∧ Cond.instanceMethod yX6_init ∈ xws := ⟨rfl, xws_t 70 (by decide +kernel) rfl⟩
theorem mc_X6_layOut : XMc yX6_layOut cX6_layOut 7 none 2 := ⟨xws_t 622 (by decide +kernel) rfl, xws_t 4 (by decide +kernel) rfl, by decide +kernel⟩
theorem mv_X6_layOut : XMv yX6_layOut := ⟨xws_t 620 (by decide +kernel) rfl, xws_t 621 (by decide +kernel) rfl⟩
theorem mc_X6_layWord : XMc yX6_layWord cX6_layWord 7 none 4 := ⟨xws_t 642 (by decide +kernel) rfl, xws_t 4 (by decide +kernel) rfl, by decide +kernel⟩
theorem mv_X6_layWord : XMv yX6_layWord := ⟨xws_t 641 (by decide +kernel) rfl, xws_s 16 (by decide +kernel) rfl⟩
theorem mc_X6_applyLines : XMc yX6_applyLines cX6_applyLines 5 none 2 := ⟨xws_t 649 (by decide +kernel) rfl, xws_t 4 (by decide +kernel) rfl, by decide +kernel⟩
theorem mv_X6_applyLines : XMv yX6_applyLines := ⟨xws_t 647 (by decide +kernel) rfl, xws_t 648 (by decide +kernel) rfl⟩
theorem mc_X6_applyLine : XMc yX6_applyLine cX6_applyLine 9 none 4 := ⟨xws_t 653 (by decide +kernel) rfl, xws_t 4 (by decide +kernel) rfl, by decide +kernel⟩
theorem mv_X6_applyLine : XMv yX6_applyLine := ⟨xws_t 652 (by decide +kernel) rfl, xws_s 17 (by decide +kernel) rfl⟩
theorem mc_X6_applyMarks : XMc yX6_applyMarks cX6_applyMarks 4 none 1 := ⟨xws_t 681 (by decide +kernel) rfl, xws_t 4 (by decide +kernel) rfl, by decide +kernel⟩
theorem mv_X6_applyMarks : XMv yX6_applyMarks := ⟨xws_t 679 (by decide +kernel) rfl, xws_t 680 (by decide +kernel) rfl⟩
theorem mc_X6_settleHeights : XMc yX6_settleHeights cX6_settleHeights 6 none 2 := ⟨xws_t 685 (by decide +kernel) rfl, xws_t 4 (by decide +kernel) rfl, by decide +kernel⟩
theorem mv_X6_settleHeights : XMv yX6_settleHeights := ⟨xws_t 683 (by decide +kernel) rfl, xws_t 684 (by decide +kernel) rfl⟩
theorem mc_X6_bringNear : XMc yX6_bringNear cX6_bringNear 3 (some .int) 3 := ⟨xws_t 688 (by decide +kernel) rfl, xws_t 4 (by decide +kernel) rfl, by decide +kernel⟩
theorem ms_X6_bringNear : Cond.static yX6_bringNear ∈ xws := xws_t 687 (by decide +kernel) rfl
theorem mc_X6_tellLengths : XMc yX6_tellLengths cX6_tellLengths 7 none 2 := ⟨xws_t 695 (by decide +kernel) rfl, xws_t 4 (by decide +kernel) rfl, by decide +kernel⟩
theorem mv_X6_tellLengths : XMv yX6_tellLengths := ⟨xws_t 693 (by decide +kernel) rfl, xws_t 694 (by decide +kernel) rfl⟩
theorem mc_X6_firstUnlike : XMc yX6_firstUnlike cX6_firstUnlike 4 (some .int) 1 := ⟨xws_t 719 (by decide +kernel) rfl, xws_t 4 (by decide +kernel) rfl, by decide +kernel⟩
theorem mv_X6_firstUnlike : XMv yX6_firstUnlike := ⟨xws_t 717 (by decide +kernel) rfl, xws_t 718 (by decide +kernel) rfl⟩
theorem mc_X6_isAlikeAt : XMc yX6_isAlikeAt cX6_isAlikeAt 3 (some .boolean) 2 := ⟨xws_t 724 (by decide +kernel) rfl, xws_t 4 (by decide +kernel) rfl, by decide +kernel⟩
theorem mv_X6_isAlikeAt : XMv yX6_isAlikeAt := ⟨xws_t 723 (by decide +kernel) rfl, xws_s 20 (by decide +kernel) rfl⟩
theorem mc_X7_init : XMc yX7_init cX7_init 1 none 0 := ⟨xws_t 40 (by decide +kernel) rfl, xws_t 2 (by decide +kernel) rfl, by decide +kernel⟩
theorem mi_X7_init : yX7_init.name = "<init>" ∧ Cond.instanceMethod yX7_init ∈ xws := ⟨rfl, xws_t 39 (by decide +kernel) rfl⟩
theorem mc_X7_layBytes : XMc yX7_layBytes cX7_layBytes 5 none 1 := ⟨xws_t 369 (by decide +kernel) rfl, xws_t 2 (by decide +kernel) rfl, by decide +kernel⟩
theorem mv_X7_layBytes : XMv yX7_layBytes := ⟨xws_t 367 (by decide +kernel) rfl, xws_t 368 (by decide +kernel) rfl⟩
theorem mc_X8_init : XMc yX8_init cX8_init 2 none 1 := ⟨xws_t 387 (by decide +kernel) rfl, xws_t 14 (by decide +kernel) rfl, by decide +kernel⟩
theorem mi_X8_init : yX8_init.name = "<init>" ∧ Cond.instanceMethod yX8_init ∈ xws := ⟨rfl, xws_t 386 (by decide +kernel) rfl⟩
theorem mc_X8_cutText : XMc yX8_cutText cX8_cutText 3 none 1 := ⟨xws_t 426 (by decide +kernel) rfl, xws_t 14 (by decide +kernel) rfl, by decide +kernel⟩
theorem mv_X8_cutText : XMv yX8_cutText := ⟨xws_t 424 (by decide +kernel) rfl, xws_t 425 (by decide +kernel) rfl⟩
theorem mc_X8_cutOne : XMc yX8_cutOne cX8_cutOne 5 (some .int) 2 := ⟨xws_t 430 (by decide +kernel) rfl, xws_t 14 (by decide +kernel) rfl, by decide +kernel⟩
theorem mv_X8_cutOne : XMv yX8_cutOne := ⟨xws_t 429 (by decide +kernel) rfl, xws_s 2 (by decide +kernel) rfl⟩
theorem mc_X8_isLetter : XMc yX8_isLetter cX8_isLetter 1 (some .boolean) 1 := ⟨xws_t 433 (by decide +kernel) rfl, xws_t 14 (by decide +kernel) rfl, by decide +kernel⟩
theorem ms_X8_isLetter : Cond.static yX8_isLetter ∈ xws := xws_t 432 (by decide +kernel) rfl
theorem mc_X8_endOfRun : XMc yX8_endOfRun cX8_endOfRun 5 (some .int) 4 := ⟨xws_t 437 (by decide +kernel) rfl, xws_t 14 (by decide +kernel) rfl, by decide +kernel⟩
theorem ms_X8_endOfRun : Cond.static yX8_endOfRun ∈ xws := xws_t 436 (by decide +kernel) rfl
theorem mc_X8_nameAt : XMc yX8_nameAt cX8_nameAt 4 (some .int) 3 := ⟨xws_t 440 (by decide +kernel) rfl, xws_t 14 (by decide +kernel) rfl, by decide +kernel⟩
theorem ms_X8_nameAt : Cond.static yX8_nameAt ∈ xws := xws_t 439 (by decide +kernel) rfl
theorem mc_X8_isName : XMc yX8_isName cX8_isName 6 (some .boolean) 4 := ⟨xws_t 454 (by decide +kernel) rfl, xws_t 14 (by decide +kernel) rfl, by decide +kernel⟩
theorem ms_X8_isName : Cond.static yX8_isName ∈ xws := xws_t 453 (by decide +kernel) rfl
theorem mc_X8_numberAt : XMc yX8_numberAt cX8_numberAt 5 (some .int) 3 := ⟨xws_t 499 (by decide +kernel) rfl, xws_t 14 (by decide +kernel) rfl, by decide +kernel⟩
theorem ms_X8_numberAt : Cond.static yX8_numberAt ∈ xws := xws_t 498 (by decide +kernel) rfl
theorem mc_X8_addToken : XMc yX8_addToken cX8_addToken 3 none 2 := ⟨xws_t 496 (by decide +kernel) rfl, xws_t 14 (by decide +kernel) rfl, by decide +kernel⟩
theorem mv_X8_addToken : XMv yX8_addToken := ⟨xws_t 495 (by decide +kernel) rfl, xws_s 3 (by decide +kernel) rfl⟩
theorem mc_X9_init : XMc yX9_init cX9_init 2 none 0 := ⟨xws_t 28 (by decide +kernel) rfl, xws_t 1 (by decide +kernel) rfl, by decide +kernel⟩
theorem mi_X9_init : yX9_init.name = "<init>" ∧ Cond.instanceMethod yX9_init ∈ xws := ⟨rfl, xws_t 27 (by decide +kernel) rfl⟩
theorem mc_X9_word : XMc yX9_word cX9_word 7 (some .int) 5 := ⟨xws_t 310 (by decide +kernel) rfl, xws_t 1 (by decide +kernel) rfl, by decide +kernel⟩
theorem mv_X9_word : XMv yX9_word := ⟨xws_t 308 (by decide +kernel) rfl, xws_t 309 (by decide +kernel) rfl⟩
theorem mc_X9_change : XMc yX9_change cX9_change 8 (some .boolean) 6 := ⟨xws_t 328 (by decide +kernel) rfl, xws_t 1 (by decide +kernel) rfl, by decide +kernel⟩
theorem mv_X9_change : XMv yX9_change := ⟨xws_t 326 (by decide +kernel) rfl, xws_t 327 (by decide +kernel) rfl⟩
theorem mc_X9_reading : XMc yX9_reading cX9_reading 1 (some .int) 0 := ⟨xws_t 333 (by decide +kernel) rfl, xws_t 1 (by decide +kernel) rfl, by decide +kernel⟩
theorem mv_X9_reading : XMv yX9_reading := ⟨xws_t 331 (by decide +kernel) rfl, xws_t 332 (by decide +kernel) rfl⟩
theorem mc_X9_take : XMc yX9_take cX9_take 2 (some .boolean) 1 := ⟨xws_t 345 (by decide +kernel) rfl, xws_t 1 (by decide +kernel) rfl, by decide +kernel⟩
theorem mv_X9_take : XMv yX9_take := ⟨xws_t 343 (by decide +kernel) rfl, xws_t 344 (by decide +kernel) rfl⟩
theorem mc_X9_tune : XMc yX9_tune cX9_tune 2 (some .boolean) 1 := ⟨xws_t 353 (by decide +kernel) rfl, xws_t 1 (by decide +kernel) rfl, by decide +kernel⟩
theorem mv_X9_tune : XMv yX9_tune := ⟨xws_t 351 (by decide +kernel) rfl, xws_t 352 (by decide +kernel) rfl⟩
theorem mc_X9_ideal : XMc yX9_ideal cX9_ideal 2 (some .boolean) 1 := ⟨xws_t 357 (by decide +kernel) rfl, xws_t 1 (by decide +kernel) rfl, by decide +kernel⟩
theorem mv_X9_ideal : XMv yX9_ideal := ⟨xws_t 355 (by decide +kernel) rfl, xws_t 356 (by decide +kernel) rfl⟩
theorem mc_X9_manner : XMc yX9_manner cX9_manner 5 (some .boolean) 4 := ⟨xws_t 361 (by decide +kernel) rfl, xws_t 1 (by decide +kernel) rfl, by decide +kernel⟩
theorem mv_X9_manner : XMv yX9_manner := ⟨xws_t 359 (by decide +kernel) rfl, xws_t 360 (by decide +kernel) rfl⟩
theorem mc_X9_feed : XMc yX9_feed cX9_feed 7 (some .int) 3 := ⟨xws_t 365 (by decide +kernel) rfl, xws_t 1 (by decide +kernel) rfl, by decide +kernel⟩
theorem mv_X9_feed : XMv yX9_feed := ⟨xws_t 363 (by decide +kernel) rfl, xws_t 364 (by decide +kernel) rfl⟩
theorem mc_X9_rules : XMc yX9_rules cX9_rules 3 (some .int) 0 := ⟨xws_t 374 (by decide +kernel) rfl, xws_t 1 (by decide +kernel) rfl, by decide +kernel⟩
theorem mv_X9_rules : XMv yX9_rules := ⟨xws_t 372 (by decide +kernel) rfl, xws_t 373 (by decide +kernel) rfl⟩
theorem mc_X9_hand : XMc yX9_hand cX9_hand 5 (some .boolean) 3 := ⟨xws_t 598 (by decide +kernel) rfl, xws_t 1 (by decide +kernel) rfl, by decide +kernel⟩
theorem mv_X9_hand : XMv yX9_hand := ⟨xws_t 596 (by decide +kernel) rfl, xws_t 597 (by decide +kernel) rfl⟩
theorem mc_X9_speed : XMc yX9_speed cX9_speed 3 (some .boolean) 2 := ⟨xws_t 606 (by decide +kernel) rfl, xws_t 1 (by decide +kernel) rfl, by decide +kernel⟩
theorem mv_X9_speed : XMv yX9_speed := ⟨xws_t 604 (by decide +kernel) rfl, xws_t 605 (by decide +kernel) rfl⟩
theorem mc_X9_phrases : XMc yX9_phrases cX9_phrases 1 (some .int) 0 := ⟨xws_t 610 (by decide +kernel) rfl, xws_t 1 (by decide +kernel) rfl, by decide +kernel⟩
theorem mv_X9_phrases : XMv yX9_phrases := ⟨xws_t 608 (by decide +kernel) rfl, xws_t 609 (by decide +kernel) rfl⟩
theorem mc_X9_phrase : XMc yX9_phrase cX9_phrase 4 (some .int) 2 := ⟨xws_t 699 (by decide +kernel) rfl, xws_t 1 (by decide +kernel) rfl, by decide +kernel⟩
theorem mv_X9_phrase : XMv yX9_phrase := ⟨xws_t 697 (by decide +kernel) rfl, xws_t 698 (by decide +kernel) rfl⟩
theorem mc_X9_shape : XMc yX9_shape cX9_shape 4 (some .int) 2 := ⟨xws_t 740 (by decide +kernel) rfl, xws_t 1 (by decide +kernel) rfl, by decide +kernel⟩
theorem mv_X9_shape : XMv yX9_shape := ⟨xws_t 738 (by decide +kernel) rfl, xws_t 739 (by decide +kernel) rfl⟩
theorem mc_X9_fit : XMc yX9_fit cX9_fit 1 (some .int) 0 := ⟨xws_t 703 (by decide +kernel) rfl, xws_t 1 (by decide +kernel) rfl, by decide +kernel⟩
theorem mv_X9_fit : XMv yX9_fit := ⟨xws_t 701 (by decide +kernel) rfl, xws_t 702 (by decide +kernel) rfl⟩
theorem mc_X9_pause : XMc yX9_pause cX9_pause 4 (some .int) 2 := ⟨xws_t 707 (by decide +kernel) rfl, xws_t 1 (by decide +kernel) rfl, by decide +kernel⟩
theorem mv_X9_pause : XMv yX9_pause := ⟨xws_t 705 (by decide +kernel) rfl, xws_t 706 (by decide +kernel) rfl⟩
theorem mc_X9_apart : XMc yX9_apart cX9_apart 3 (some .int) 2 := ⟨xws_t 715 (by decide +kernel) rfl, xws_t 1 (by decide +kernel) rfl, by decide +kernel⟩
theorem mv_X9_apart : XMv yX9_apart := ⟨xws_t 713 (by decide +kernel) rfl, xws_t 714 (by decide +kernel) rfl⟩
theorem mc_X9_count : XMc yX9_count cX9_count 3 (some .int) 1 := ⟨xws_t 728 (by decide +kernel) rfl, xws_t 1 (by decide +kernel) rfl, by decide +kernel⟩
theorem mv_X9_count : XMv yX9_count := ⟨xws_t 726 (by decide +kernel) rfl, xws_t 727 (by decide +kernel) rfl⟩
theorem mc_X9_isReading : XMc yX9_isReading cX9_isReading 2 (some .boolean) 1 := ⟨xws_t 349 (by decide +kernel) rfl, xws_t 1 (by decide +kernel) rfl, by decide +kernel⟩
theorem mv_X9_isReading : XMv yX9_isReading := ⟨xws_t 348 (by decide +kernel) rfl, xws_s 1 (by decide +kernel) rfl⟩
theorem mc_X9_isWithin : XMc yX9_isWithin cX9_isWithin 3 (some .boolean) 3 := ⟨xws_t 316 (by decide +kernel) rfl, xws_t 1 (by decide +kernel) rfl, by decide +kernel⟩
theorem ms_X9_isWithin : Cond.static yX9_isWithin ∈ xws := xws_t 315 (by decide +kernel) rfl
theorem mc_X9_isWord : XMc yX9_isWord cX9_isWord 3 (some .boolean) 3 := ⟨xws_t 313 (by decide +kernel) rfl, xws_t 1 (by decide +kernel) rfl, by decide +kernel⟩
theorem ms_X9_isWord : Cond.static yX9_isWord ∈ xws := xws_t 312 (by decide +kernel) rfl
theorem mc_X9_bringWithin : XMc yX9_bringWithin cX9_bringWithin 3 (some .int) 3 := ⟨xws_t 675 (by decide +kernel) rfl, xws_t 1 (by decide +kernel) rfl, by decide +kernel⟩
theorem ms_X9_bringWithin : Cond.static yX9_bringWithin ∈ xws := xws_t 674 (by decide +kernel) rfl
theorem mc_X9_shapeInHand : XMc yX9_shapeInHand cX9_shapeInHand 1 (some (.object "VoiceShaper$Shape")) 0 := ⟨xws_t 614 (by decide +kernel) rfl, xws_t 1 (by decide +kernel) rfl, by decide +kernel⟩
theorem mv_X9_shapeInHand : XMv yX9_shapeInHand := ⟨xws_t 613 (by decide +kernel) rfl, xws_s 11 (by decide +kernel) rfl⟩
theorem mc_X9_prepare : XMc yX9_prepare cX9_prepare 4 none 2 := ⟨xws_t 618 (by decide +kernel) rfl, xws_t 1 (by decide +kernel) rfl, by decide +kernel⟩
theorem mv_X9_prepare : XMv yX9_prepare := ⟨xws_t 617 (by decide +kernel) rfl, xws_s 12 (by decide +kernel) rfl⟩
theorem mc_X9_forgetShapes : XMc yX9_forgetShapes cX9_forgetShapes 1 none 0 := ⟨xws_t 324 (by decide +kernel) rfl, xws_t 1 (by decide +kernel) rfl, by decide +kernel⟩
theorem mv_X9_forgetShapes : XMv yX9_forgetShapes := ⟨xws_t 323 (by decide +kernel) rfl, xws_s 0 (by decide +kernel) rfl⟩
theorem mc_X10_thrown : XMc yX10_thrown cX10_thrown 1 (some .int) 0 := ⟨xws_t 810 (by decide +kernel) rfl, xws_t 11 (by decide +kernel) rfl, by decide +kernel⟩
theorem mv_X10_thrown : XMv yX10_thrown := ⟨xws_t 808 (by decide +kernel) rfl, xws_t 809 (by decide +kernel) rfl⟩
theorem mc_X10_feed : XMc yX10_feed cX10_feed 7 (some .int) 3 := ⟨xws_t 814 (by decide +kernel) rfl, xws_t 11 (by decide +kernel) rfl, by decide +kernel⟩
theorem mv_X10_feed : XMv yX10_feed := ⟨xws_t 812 (by decide +kernel) rfl, xws_t 813 (by decide +kernel) rfl⟩
theorem mc_X10_lay : XMc yX10_lay cX10_lay 5 none 1 := ⟨xws_t 819 (by decide +kernel) rfl, xws_t 11 (by decide +kernel) rfl, by decide +kernel⟩
theorem mv_X10_lay : XMv yX10_lay := ⟨xws_t 817 (by decide +kernel) rfl, xws_s 22 (by decide +kernel) rfl⟩
theorem mc_X10_init : XMc yX10_init cX10_init 2 none 0 := ⟨xws_t 823 (by decide +kernel) rfl, xws_t 11 (by decide +kernel) rfl, by decide +kernel⟩
theorem mi_X10_init : yX10_init.name = "<init>" ∧ Cond.instanceMethod yX10_init ∈ xws := ⟨rfl, xws_t 822 (by decide +kernel) rfl⟩
theorem mc_X10_isLetter : XMc yX10_isLetter cX10_isLetter 1 (some .boolean) 1 := ⟨xws_t 1025 (by decide +kernel) rfl, xws_t 11 (by decide +kernel) rfl, by decide +kernel⟩
theorem ms_X10_isLetter : Cond.static yX10_isLetter ∈ xws := xws_t 1024 (by decide +kernel) rfl
theorem mc_X10_isDigit : XMc yX10_isDigit cX10_isDigit 1 (some .boolean) 1 := ⟨xws_t 1032 (by decide +kernel) rfl, xws_t 11 (by decide +kernel) rfl, by decide +kernel⟩
theorem ms_X10_isDigit : Cond.static yX10_isDigit ∈ xws := xws_t 1031 (by decide +kernel) rfl
theorem mc_X10_rank : XMc yX10_rank cX10_rank 1 (some .int) 1 := ⟨xws_t 1029 (by decide +kernel) rfl, xws_t 11 (by decide +kernel) rfl, by decide +kernel⟩
theorem ms_X10_rank : Cond.static yX10_rank ∈ xws := xws_t 1028 (by decide +kernel) rfl
theorem mc_X10_isSignOf : XMc yX10_isSignOf cX10_isSignOf 1 (some .boolean) 1 := ⟨xws_t 1037 (by decide +kernel) rfl, xws_t 11 (by decide +kernel) rfl, by decide +kernel⟩
theorem ms_X10_isSignOf : Cond.static yX10_isSignOf ∈ xws := xws_t 1036 (by decide +kernel) rfl
theorem mc_X10_cutAll : XMc yX10_cutAll cX10_cutAll 7 none 0 := ⟨xws_t 1022 (by decide +kernel) rfl, xws_t 11 (by decide +kernel) rfl, by decide +kernel⟩
theorem mv_X10_cutAll : XMv yX10_cutAll := ⟨xws_t 1021 (by decide +kernel) rfl, xws_s 23 (by decide +kernel) rfl⟩
theorem mc_X10_wrong : XMc yX10_wrong cX10_wrong 2 none 1 := ⟨xws_t 1049 (by decide +kernel) rfl, xws_t 11 (by decide +kernel) rfl, by decide +kernel⟩
theorem mv_X10_wrong : XMv yX10_wrong := ⟨xws_t 1048 (by decide +kernel) rfl, xws_s 26 (by decide +kernel) rfl⟩
theorem mc_X10_isSign : XMc yX10_isSign cX10_isSign 2 (some .boolean) 1 := ⟨xws_t 1069 (by decide +kernel) rfl, xws_t 11 (by decide +kernel) rfl, by decide +kernel⟩
theorem mv_X10_isSign : XMv yX10_isSign := ⟨xws_t 1068 (by decide +kernel) rfl, xws_s 31 (by decide +kernel) rfl⟩
theorem mc_X10_isWord : XMc yX10_isWord cX10_isWord 2 (some .boolean) 1 := ⟨xws_t 1045 (by decide +kernel) rfl, xws_t 11 (by decide +kernel) rfl, by decide +kernel⟩
theorem mv_X10_isWord : XMv yX10_isWord := ⟨xws_t 1044 (by decide +kernel) rfl, xws_s 25 (by decide +kernel) rfl⟩
theorem mc_X10_takeSign : XMc yX10_takeSign cX10_takeSign 2 none 1 := ⟨xws_t 1085 (by decide +kernel) rfl, xws_t 11 (by decide +kernel) rfl, by decide +kernel⟩
theorem mv_X10_takeSign : XMv yX10_takeSign := ⟨xws_t 1084 (by decide +kernel) rfl, xws_s 35 (by decide +kernel) rfl⟩
theorem mc_X10_hasSign : XMc yX10_hasSign cX10_hasSign 3 (some .boolean) 1 := ⟨xws_t 1073 (by decide +kernel) rfl, xws_t 11 (by decide +kernel) rfl, by decide +kernel⟩
theorem mv_X10_hasSign : XMv yX10_hasSign := ⟨xws_t 1072 (by decide +kernel) rfl, xws_s 32 (by decide +kernel) rfl⟩
theorem mc_X10_hasWord : XMc yX10_hasWord cX10_hasWord 3 (some .boolean) 1 := ⟨xws_t 1089 (by decide +kernel) rfl, xws_t 11 (by decide +kernel) rfl, by decide +kernel⟩
theorem mv_X10_hasWord : XMv yX10_hasWord := ⟨xws_t 1088 (by decide +kernel) rfl, xws_s 36 (by decide +kernel) rfl⟩
theorem mc_X10_emit : XMc yX10_emit cX10_emit 3 none 2 := ⟨xws_t 1077 (by decide +kernel) rfl, xws_t 11 (by decide +kernel) rfl, by decide +kernel⟩
theorem mv_X10_emit : XMv yX10_emit := ⟨xws_t 1076 (by decide +kernel) rfl, xws_s 33 (by decide +kernel) rfl⟩
theorem mc_X10_rules : XMc yX10_rules cX10_rules 1 (some .int) 0 := ⟨xws_t 1018 (by decide +kernel) rfl, xws_t 11 (by decide +kernel) rfl, by decide +kernel⟩
theorem mv_X10_rules : XMv yX10_rules := ⟨xws_t 1016 (by decide +kernel) rfl, xws_t 1017 (by decide +kernel) rfl⟩
theorem mc_X10_keeps : XMc yX10_keeps cX10_keeps 2 none 0 := ⟨xws_t 1093 (by decide +kernel) rfl, xws_t 11 (by decide +kernel) rfl, by decide +kernel⟩
theorem mv_X10_keeps : XMv yX10_keeps := ⟨xws_t 1092 (by decide +kernel) rfl, xws_s 37 (by decide +kernel) rfl⟩
theorem mc_X10_line : XMc yX10_line cX10_line 4 none 0 := ⟨xws_t 1041 (by decide +kernel) rfl, xws_t 11 (by decide +kernel) rfl, by decide +kernel⟩
theorem mv_X10_line : XMv yX10_line := ⟨xws_t 1040 (by decide +kernel) rfl, xws_s 24 (by decide +kernel) rfl⟩
theorem mc_X10_expression : XMc yX10_expression cX10_expression 2 none 0 := ⟨xws_t 1057 (by decide +kernel) rfl, xws_t 11 (by decide +kernel) rfl, by decide +kernel⟩
theorem mv_X10_expression : XMv yX10_expression := ⟨xws_t 1056 (by decide +kernel) rfl, xws_s 28 (by decide +kernel) rfl⟩
theorem mc_X10_opens : XMc yX10_opens cX10_opens 1 none 0 := ⟨xws_t 1061 (by decide +kernel) rfl, xws_t 11 (by decide +kernel) rfl, by decide +kernel⟩
theorem mv_X10_opens : XMv yX10_opens := ⟨xws_t 1060 (by decide +kernel) rfl, xws_s 29 (by decide +kernel) rfl⟩
theorem mc_X10_partWord : XMc yX10_partWord cX10_partWord 2 (some .int) 0 := ⟨xws_t 1053 (by decide +kernel) rfl, xws_t 11 (by decide +kernel) rfl, by decide +kernel⟩
theorem mv_X10_partWord : XMv yX10_partWord := ⟨xws_t 1052 (by decide +kernel) rfl, xws_s 27 (by decide +kernel) rfl⟩
theorem mc_X10_part : XMc yX10_part cX10_part 2 (some .boolean) 0 := ⟨xws_t 1065 (by decide +kernel) rfl, xws_t 11 (by decide +kernel) rfl, by decide +kernel⟩
theorem mv_X10_part : XMv yX10_part := ⟨xws_t 1064 (by decide +kernel) rfl, xws_s 30 (by decide +kernel) rfl⟩
theorem mc_X10_goesOnBehind : XMc yX10_goesOnBehind cX10_goesOnBehind 1 (some .boolean) 0 := ⟨xws_t 1081 (by decide +kernel) rfl, xws_t 11 (by decide +kernel) rfl, by decide +kernel⟩
theorem mv_X10_goesOnBehind : XMv yX10_goesOnBehind := ⟨xws_t 1080 (by decide +kernel) rfl, xws_s 34 (by decide +kernel) rfl⟩
theorem mc_X10_worth : XMc yX10_worth cX10_worth 7 (some .int) 1 := ⟨xws_t 1188 (by decide +kernel) rfl, xws_t 11 (by decide +kernel) rfl, by decide +kernel⟩
theorem mv_X10_worth : XMv yX10_worth := ⟨xws_t 1187 (by decide +kernel) rfl, xws_s 48 (by decide +kernel) rfl⟩
theorem mc_X10_manner : XMc yX10_manner cX10_manner 5 (some .boolean) 4 := ⟨xws_t 1097 (by decide +kernel) rfl, xws_t 11 (by decide +kernel) rfl, by decide +kernel⟩
theorem mv_X10_manner : XMv yX10_manner := ⟨xws_t 1095 (by decide +kernel) rfl, xws_t 1096 (by decide +kernel) rfl⟩
theorem mc_X10_isWordSo : XMc yX10_isWordSo cX10_isWordSo 3 (some .boolean) 3 := ⟨xws_t 1104 (by decide +kernel) rfl, xws_t 11 (by decide +kernel) rfl, by decide +kernel⟩
theorem ms_X10_isWordSo : Cond.static yX10_isWordSo ∈ xws := xws_t 1103 (by decide +kernel) rfl
theorem mc_X10_tells : XMc yX10_tells cX10_tells 7 none 6 := ⟨xws_t 1108 (by decide +kernel) rfl, xws_t 11 (by decide +kernel) rfl, by decide +kernel⟩
theorem mv_X10_tells : XMv yX10_tells := ⟨xws_t 1107 (by decide +kernel) rfl, xws_s 38 (by decide +kernel) rfl⟩
theorem mc_X10_word : XMc yX10_word cX10_word 6 (some .int) 5 := ⟨xws_t 1101 (by decide +kernel) rfl, xws_t 11 (by decide +kernel) rfl, by decide +kernel⟩
theorem mv_X10_word : XMv yX10_word := ⟨xws_t 1099 (by decide +kernel) rfl, xws_t 1100 (by decide +kernel) rfl⟩
theorem mc_X10_change : XMc yX10_change cX10_change 8 (some .boolean) 6 := ⟨xws_t 1112 (by decide +kernel) rfl, xws_t 11 (by decide +kernel) rfl, by decide +kernel⟩
theorem mv_X10_change : XMv yX10_change := ⟨xws_t 1110 (by decide +kernel) rfl, xws_t 1111 (by decide +kernel) rfl⟩
theorem mc_X10_reading : XMc yX10_reading cX10_reading 4 (some .int) 0 := ⟨xws_t 1116 (by decide +kernel) rfl, xws_t 11 (by decide +kernel) rfl, by decide +kernel⟩
theorem mv_X10_reading : XMv yX10_reading := ⟨xws_t 1114 (by decide +kernel) rfl, xws_t 1115 (by decide +kernel) rfl⟩
theorem mc_X10_isReading : XMc yX10_isReading cX10_isReading 2 (some .boolean) 1 := ⟨xws_t 1124 (by decide +kernel) rfl, xws_t 11 (by decide +kernel) rfl, by decide +kernel⟩
theorem mv_X10_isReading : XMv yX10_isReading := ⟨xws_t 1123 (by decide +kernel) rfl, xws_s 39 (by decide +kernel) rfl⟩
theorem mc_X10_take : XMc yX10_take cX10_take 2 (some .boolean) 1 := ⟨xws_t 1120 (by decide +kernel) rfl, xws_t 11 (by decide +kernel) rfl, by decide +kernel⟩
theorem mv_X10_take : XMv yX10_take := ⟨xws_t 1118 (by decide +kernel) rfl, xws_t 1119 (by decide +kernel) rfl⟩
theorem mc_X10_tune : XMc yX10_tune cX10_tune 2 (some .boolean) 1 := ⟨xws_t 1128 (by decide +kernel) rfl, xws_t 11 (by decide +kernel) rfl, by decide +kernel⟩
theorem mv_X10_tune : XMv yX10_tune := ⟨xws_t 1126 (by decide +kernel) rfl, xws_t 1127 (by decide +kernel) rfl⟩
theorem mc_X10_ideal : XMc yX10_ideal cX10_ideal 2 (some .boolean) 1 := ⟨xws_t 1132 (by decide +kernel) rfl, xws_t 11 (by decide +kernel) rfl, by decide +kernel⟩
theorem mv_X10_ideal : XMv yX10_ideal := ⟨xws_t 1130 (by decide +kernel) rfl, xws_t 1131 (by decide +kernel) rfl⟩
theorem mc_X10_speed : XMc yX10_speed cX10_speed 3 (some .boolean) 2 := ⟨xws_t 1136 (by decide +kernel) rfl, xws_t 11 (by decide +kernel) rfl, by decide +kernel⟩
theorem mv_X10_speed : XMv yX10_speed := ⟨xws_t 1134 (by decide +kernel) rfl, xws_t 1135 (by decide +kernel) rfl⟩
theorem mc_X10_soundsOf : XMc yX10_soundsOf cX10_soundsOf 4 (some .int) 1 := ⟨xws_t 1144 (by decide +kernel) rfl, xws_t 11 (by decide +kernel) rfl, by decide +kernel⟩
theorem mv_X10_soundsOf : XMv yX10_soundsOf := ⟨xws_t 1143 (by decide +kernel) rfl, xws_s 40 (by decide +kernel) rfl⟩
theorem mc_X10_hand : XMc yX10_hand cX10_hand 6 (some .boolean) 3 := ⟨xws_t 1140 (by decide +kernel) rfl, xws_t 11 (by decide +kernel) rfl, by decide +kernel⟩
theorem mv_X10_hand : XMv yX10_hand := ⟨xws_t 1138 (by decide +kernel) rfl, xws_t 1139 (by decide +kernel) rfl⟩
theorem mc_X10_costOf : XMc yX10_costOf cX10_costOf 6 (some .int) 3 := ⟨xws_t 1156 (by decide +kernel) rfl, xws_t 11 (by decide +kernel) rfl, by decide +kernel⟩
theorem mv_X10_costOf : XMv yX10_costOf := ⟨xws_t 1155 (by decide +kernel) rfl, xws_s 42 (by decide +kernel) rfl⟩
theorem mc_X10_findPhrases : XMc yX10_findPhrases cX10_findPhrases 5 none 1 := ⟨xws_t 1152 (by decide +kernel) rfl, xws_t 11 (by decide +kernel) rfl, by decide +kernel⟩
theorem mv_X10_findPhrases : XMv yX10_findPhrases := ⟨xws_t 1151 (by decide +kernel) rfl, xws_s 41 (by decide +kernel) rfl⟩
theorem mc_X10_accents : XMc yX10_accents cX10_accents 9 (some .int) 2 := ⟨xws_t 1164 (by decide +kernel) rfl, xws_t 11 (by decide +kernel) rfl, by decide +kernel⟩
theorem mv_X10_accents : XMv yX10_accents := ⟨xws_t 1163 (by decide +kernel) rfl, xws_s 43 (by decide +kernel) rfl⟩
theorem mc_X10_phrases : XMc yX10_phrases cX10_phrases 1 (some .int) 0 := ⟨xws_t 1148 (by decide +kernel) rfl, xws_t 11 (by decide +kernel) rfl, by decide +kernel⟩
theorem mv_X10_phrases : XMv yX10_phrases := ⟨xws_t 1146 (by decide +kernel) rfl, xws_t 1147 (by decide +kernel) rfl⟩
theorem mc_X10_phrase : XMc yX10_phrase cX10_phrase 3 (some .int) 2 := ⟨xws_t 1160 (by decide +kernel) rfl, xws_t 11 (by decide +kernel) rfl, by decide +kernel⟩
theorem mv_X10_phrase : XMv yX10_phrase := ⟨xws_t 1158 (by decide +kernel) rfl, xws_t 1159 (by decide +kernel) rfl⟩
theorem mc_X10_setsOut : XMc yX10_setsOut cX10_setsOut 7 none 1 := ⟨xws_t 1176 (by decide +kernel) rfl, xws_t 11 (by decide +kernel) rfl, by decide +kernel⟩
theorem mv_X10_setsOut : XMv yX10_setsOut := ⟨xws_t 1175 (by decide +kernel) rfl, xws_s 45 (by decide +kernel) rfl⟩
theorem mc_X10_knows : XMc yX10_knows cX10_knows 6 none 2 := ⟨xws_t 1184 (by decide +kernel) rfl, xws_t 11 (by decide +kernel) rfl, by decide +kernel⟩
theorem mv_X10_knows : XMv yX10_knows := ⟨xws_t 1183 (by decide +kernel) rfl, xws_s 47 (by decide +kernel) rfl⟩
theorem mc_X10_within : XMc yX10_within cX10_within 3 (some .int) 3 := ⟨xws_t 1191 (by decide +kernel) rfl, xws_t 11 (by decide +kernel) rfl, by decide +kernel⟩
theorem ms_X10_within : Cond.static yX10_within ∈ xws := xws_t 1190 (by decide +kernel) rfl
theorem mc_X10_works : XMc yX10_works cX10_works 6 none 2 := ⟨xws_t 1180 (by decide +kernel) rfl, xws_t 11 (by decide +kernel) rfl, by decide +kernel⟩
theorem mv_X10_works : XMv yX10_works := ⟨xws_t 1179 (by decide +kernel) rfl, xws_s 46 (by decide +kernel) rfl⟩
theorem mc_X10_handOf : XMc yX10_handOf cX10_handOf 4 (some .int) 3 := ⟨xws_t 1195 (by decide +kernel) rfl, xws_t 11 (by decide +kernel) rfl, by decide +kernel⟩
theorem mv_X10_handOf : XMv yX10_handOf := ⟨xws_t 1194 (by decide +kernel) rfl, xws_s 49 (by decide +kernel) rfl⟩
theorem mc_X10_shapes : XMc yX10_shapes cX10_shapes 4 none 1 := ⟨xws_t 1172 (by decide +kernel) rfl, xws_t 11 (by decide +kernel) rfl, by decide +kernel⟩
theorem mv_X10_shapes : XMv yX10_shapes := ⟨xws_t 1171 (by decide +kernel) rfl, xws_s 44 (by decide +kernel) rfl⟩
theorem mc_X10_nears : XMc yX10_nears cX10_nears 5 none 3 := ⟨xws_t 1199 (by decide +kernel) rfl, xws_t 11 (by decide +kernel) rfl, by decide +kernel⟩
theorem mv_X10_nears : XMv yX10_nears := ⟨xws_t 1198 (by decide +kernel) rfl, xws_s 50 (by decide +kernel) rfl⟩
theorem mc_X10_told : XMc yX10_told cX10_told 4 (some .int) 1 := ⟨xws_t 1203 (by decide +kernel) rfl, xws_t 11 (by decide +kernel) rfl, by decide +kernel⟩
theorem mv_X10_told : XMv yX10_told := ⟨xws_t 1202 (by decide +kernel) rfl, xws_s 51 (by decide +kernel) rfl⟩
theorem mc_X10_shape : XMc yX10_shape cX10_shape 3 (some .int) 2 := ⟨xws_t 1168 (by decide +kernel) rfl, xws_t 11 (by decide +kernel) rfl, by decide +kernel⟩
theorem mv_X10_shape : XMv yX10_shape := ⟨xws_t 1166 (by decide +kernel) rfl, xws_t 1167 (by decide +kernel) rfl⟩
theorem mc_X10_fit : XMc yX10_fit cX10_fit 4 (some .int) 0 := ⟨xws_t 1207 (by decide +kernel) rfl, xws_t 11 (by decide +kernel) rfl, by decide +kernel⟩
theorem mv_X10_fit : XMv yX10_fit := ⟨xws_t 1205 (by decide +kernel) rfl, xws_t 1206 (by decide +kernel) rfl⟩
theorem mc_X10_pause : XMc yX10_pause cX10_pause 7 (some .int) 2 := ⟨xws_t 1211 (by decide +kernel) rfl, xws_t 11 (by decide +kernel) rfl, by decide +kernel⟩
theorem mv_X10_pause : XMv yX10_pause := ⟨xws_t 1209 (by decide +kernel) rfl, xws_t 1210 (by decide +kernel) rfl⟩
theorem mc_X10_apart : XMc yX10_apart cX10_apart 4 (some .int) 2 := ⟨xws_t 1215 (by decide +kernel) rfl, xws_t 11 (by decide +kernel) rfl, by decide +kernel⟩
theorem mv_X10_apart : XMv yX10_apart := ⟨xws_t 1213 (by decide +kernel) rfl, xws_t 1214 (by decide +kernel) rfl⟩
theorem mc_X10_isAlike : XMc yX10_isAlike cX10_isAlike 2 (some .boolean) 1 := ⟨xws_t 1219 (by decide +kernel) rfl, xws_t 11 (by decide +kernel) rfl, by decide +kernel⟩
theorem mv_X10_isAlike : XMv yX10_isAlike := ⟨xws_t 1218 (by decide +kernel) rfl, xws_s 52 (by decide +kernel) rfl⟩
theorem mc_X10_count : XMc yX10_count cX10_count 4 (some .int) 1 := ⟨xws_t 1223 (by decide +kernel) rfl, xws_t 11 (by decide +kernel) rfl, by decide +kernel⟩
theorem mv_X10_count : XMv yX10_count := ⟨xws_t 1221 (by decide +kernel) rfl, xws_t 1222 (by decide +kernel) rfl⟩
theorem mc_J7_fill_53178 : XMc yJ7_fill_53178 cJ7_fill_53178 4 none 2 := ⟨xws_t 151 (by decide +kernel) rfl, xws_t 7 (by decide +kernel) rfl, by decide +kernel⟩
theorem ms_J7_fill_53178 : Cond.static yJ7_fill_53178 ∈ xws := xws_t 150 (by decide +kernel) rfl
theorem ml_L_15 : Cond.methodLink RL 15 yX9_init ∈ xws := xws_t 26 (by decide +kernel) rfl
theorem ml_X9_64 : Cond.methodLink RX9 64 yX4_init ∈ xws := xws_t 140 (by decide +kernel) rfl
theorem ml_X4_43 : Cond.methodLink RX4 43 yX4_clearMarks ∈ xws := xws_t 145 (by decide +kernel) rfl
theorem ml_X4_46 : Cond.methodLink RX4 46 yJ7_fill_53178 ∈ xws := xws_t 149 (by decide +kernel) rfl
theorem ml_X2_11 : Cond.methodLink RX2 11 yX5_init ∈ xws := xws_t 203 (by decide +kernel) rfl
theorem ml_X5_35 : Cond.methodLink RX5 35 yJ9_max_7cf53 ∈ xws := xws_t 207 (by decide +kernel) rfl
theorem ml_L_19 : Cond.methodLink RL 19 yX9_word ∈ xws := xws_t 307 (by decide +kernel) rfl
theorem ml_X9_69 : Cond.methodLink RX9 69 yX9_isWord ∈ xws := xws_t 311 (by decide +kernel) rfl
theorem ml_X9_95 : Cond.methodLink RX9 95 yX9_isWithin ∈ xws := xws_t 314 (by decide +kernel) rfl
theorem ml_X9_73 : Cond.methodLink RX9 73 yX4_putWord ∈ xws := xws_t 317 (by decide +kernel) rfl
theorem ml_X9_77 : Cond.methodLink RX9 77 yX9_forgetShapes ∈ xws := xws_t 321 (by decide +kernel) rfl
theorem ml_L_24 : Cond.methodLink RL 24 yX9_change ∈ xws := xws_t 325 (by decide +kernel) rfl
theorem ml_X9_84 : Cond.methodLink RX9 84 yX4_clearMarks ∈ xws := xws_t 329 (by decide +kernel) rfl
theorem ml_L_29 : Cond.methodLink RL 29 yX9_reading ∈ xws := xws_t 330 (by decide +kernel) rfl
theorem ml_X9_87 : Cond.methodLink RX9 87 yX4_becomeLike ∈ xws := xws_t 334 (by decide +kernel) rfl
theorem ml_X4_52 : Cond.methodLink RX4 52 yX4_putWord ∈ xws := xws_t 338 (by decide +kernel) rfl
theorem ml_L_34 : Cond.methodLink RL 34 yX9_take ∈ xws := xws_t 342 (by decide +kernel) rfl
theorem ml_X9_91 : Cond.methodLink RX9 91 yX9_isReading ∈ xws := xws_t 346 (by decide +kernel) rfl
theorem ml_L_39 : Cond.methodLink RL 39 yX9_tune ∈ xws := xws_t 350 (by decide +kernel) rfl
theorem ml_L_43 : Cond.methodLink RL 43 yX9_ideal ∈ xws := xws_t 354 (by decide +kernel) rfl
theorem ml_L_47 : Cond.methodLink RL 47 yX9_manner ∈ xws := xws_t 358 (by decide +kernel) rfl
theorem ml_L_54 : Cond.methodLink RL 54 yX9_feed ∈ xws := xws_t 362 (by decide +kernel) rfl
theorem ml_X9_110 : Cond.methodLink RX9 110 yX7_layBytes ∈ xws := xws_t 366 (by decide +kernel) rfl
theorem ml_L_59 : Cond.methodLink RL 59 yX9_rules ∈ xws := xws_t 371 (by decide +kernel) rfl
theorem ml_X9_119 : Cond.methodLink RX9 119 yX1_init ∈ xws := xws_t 377 (by decide +kernel) rfl
theorem ml_X1_23 : Cond.methodLink RX1 23 yX5_init ∈ xws := xws_t 382 (by decide +kernel) rfl
theorem ml_X1_32 : Cond.methodLink RX1 32 yX8_init ∈ xws := xws_t 385 (by decide +kernel) rfl
theorem ml_X8_15 : Cond.methodLink RX8 15 yJ9_max_7cf53 ∈ xws := xws_t 389 (by decide +kernel) rfl
theorem ml_X9_122 : Cond.methodLink RX9 122 yX1_readText ∈ xws := xws_t 419 (by decide +kernel) rfl
theorem ml_X1_37 : Cond.methodLink RX1 37 yX8_cutText ∈ xws := xws_t 423 (by decide +kernel) rfl
theorem ml_X8_33 : Cond.methodLink RX8 33 yX8_cutOne ∈ xws := xws_t 427 (by decide +kernel) rfl
theorem ml_X8_45 : Cond.methodLink RX8 45 yX8_isLetter ∈ xws := xws_t 431 (by decide +kernel) rfl
theorem ml_X8_49 : Cond.methodLink RX8 49 yX8_endOfRun ∈ xws := xws_t 435 (by decide +kernel) rfl
theorem ml_X8_53 : Cond.methodLink RX8 53 yX8_nameAt ∈ xws := xws_t 438 (by decide +kernel) rfl
theorem ml_X8_74 : Cond.methodLink RX8 74 yJ0_length_8abf5 ∈ xws := xws_t 442 (by decide +kernel) rfl
theorem ml_X8_78 : Cond.methodLink RX8 78 yX8_isName ∈ xws := xws_t 452 (by decide +kernel) rfl
theorem ml_X8_82 : Cond.methodLink RX8 82 yJ0_charAt_5068e ∈ xws := xws_t 455 (by decide +kernel) rfl
theorem ml_X8_37 : Cond.methodLink RX8 37 yX8_addToken ∈ xws := xws_t 493 (by decide +kernel) rfl
theorem ml_X8_61 : Cond.methodLink RX8 61 yX8_numberAt ∈ xws := xws_t 497 (by decide +kernel) rfl
theorem ml_X8_66 : Cond.methodLink RX8 66 yJ0_indexOf_0f7a4 ∈ xws := xws_t 501 (by decide +kernel) rfl
theorem ml_X1_45 : Cond.methodLink RX1 45 yX1_readLine ∈ xws := xws_t 558 (by decide +kernel) rfl
theorem ml_X1_52 : Cond.methodLink RX1 52 yX1_refuse ∈ xws := xws_t 562 (by decide +kernel) rfl
theorem ml_X1_59 : Cond.methodLink RX1 59 yX1_goOn ∈ xws := xws_t 566 (by decide +kernel) rfl
theorem ml_X1_75 : Cond.methodLink RX1 75 yX1_readAll ∈ xws := xws_t 571 (by decide +kernel) rfl
theorem ml_X1_87 : Cond.methodLink RX1 87 yX1_readTest ∈ xws := xws_t 575 (by decide +kernel) rfl
theorem ml_X1_93 : Cond.methodLink RX1 93 yX1_readSum ∈ xws := xws_t 579 (by decide +kernel) rfl
theorem ml_X1_96 : Cond.methodLink RX1 96 yX1_readPart ∈ xws := xws_t 583 (by decide +kernel) rfl
theorem ml_X1_99 : Cond.methodLink RX1 99 yX5_addNumber ∈ xws := xws_t 587 (by decide +kernel) rfl
theorem ml_X1_90 : Cond.methodLink RX1 90 yX5_addSign ∈ xws := xws_t 591 (by decide +kernel) rfl
theorem ml_L_63 : Cond.methodLink RL 63 yX9_hand ∈ xws := xws_t 595 (by decide +kernel) rfl
theorem ml_L_68 : Cond.methodLink RL 68 yX9_speed ∈ xws := xws_t 603 (by decide +kernel) rfl
theorem ml_L_73 : Cond.methodLink RL 73 yX9_phrases ∈ xws := xws_t 607 (by decide +kernel) rfl
theorem ml_X9_146 : Cond.methodLink RX9 146 yX9_shapeInHand ∈ xws := xws_t 611 (by decide +kernel) rfl
theorem ml_X9_195 : Cond.methodLink RX9 195 yX9_prepare ∈ xws := xws_t 615 (by decide +kernel) rfl
theorem ml_X9_223 : Cond.methodLink RX9 223 yX6_layOut ∈ xws := xws_t 619 (by decide +kernel) rfl
theorem ml_X6_34 : Cond.methodLink RX6 34 yX3_partWords ∈ xws := xws_t 623 (by decide +kernel) rfl
theorem ml_X3_43 : Cond.methodLink RX3 43 yX3_weighFrom ∈ xws := xws_t 627 (by decide +kernel) rfl
theorem ml_X3_47 : Cond.methodLink RX3 47 yX3_addPhrase ∈ xws := xws_t 631 (by decide +kernel) rfl
theorem ml_X3_56 : Cond.methodLink RX3 56 yX3_accentWords ∈ xws := xws_t 635 (by decide +kernel) rfl
theorem ml_X6_48 : Cond.methodLink RX6 48 yX6_layWord ∈ xws := xws_t 639 (by decide +kernel) rfl
theorem ml_X6_55 : Cond.methodLink RX6 55 yJ7_fill_53178 ∈ xws := xws_t 645 (by decide +kernel) rfl
theorem ml_X9_227 : Cond.methodLink RX9 227 yX6_applyLines ∈ xws := xws_t 646 (by decide +kernel) rfl
theorem ml_X6_90 : Cond.methodLink RX6 90 yX6_applyLine ∈ xws := xws_t 650 (by decide +kernel) rfl
theorem ml_X6_106 : Cond.methodLink RX6 106 yX0_workOut ∈ xws := xws_t 654 (by decide +kernel) rfl
theorem ml_X0_19 : Cond.methodLink RX0 19 yX0_push ∈ xws := xws_t 658 (by decide +kernel) rfl
theorem ml_X0_23 : Cond.methodLink RX0 23 yX0_pop ∈ xws := xws_t 662 (by decide +kernel) rfl
theorem ml_X0_27 : Cond.methodLink RX0 27 yX0_join ∈ xws := xws_t 666 (by decide +kernel) rfl
theorem ml_X9_212 : Cond.methodLink RX9 212 yJ9_min_7cf53 ∈ xws := xws_t 676 (by decide +kernel) rfl
theorem ml_X9_217 : Cond.methodLink RX9 217 yJ9_max_7cf53 ∈ xws := xws_t 677 (by decide +kernel) rfl
theorem ml_X9_231 : Cond.methodLink RX9 231 yX6_applyMarks ∈ xws := xws_t 678 (by decide +kernel) rfl
theorem ml_X9_234 : Cond.methodLink RX9 234 yX6_settleHeights ∈ xws := xws_t 682 (by decide +kernel) rfl
theorem ml_X6_142 : Cond.methodLink RX6 142 yX6_bringNear ∈ xws := xws_t 686 (by decide +kernel) rfl
theorem ml_X6_145 : Cond.methodLink RX6 145 yJ9_abs_0f7a4 ∈ xws := xws_t 689 (by decide +kernel) rfl
theorem ml_X9_238 : Cond.methodLink RX9 238 yX6_tellLengths ∈ xws := xws_t 692 (by decide +kernel) rfl
theorem ml_L_77 : Cond.methodLink RL 77 yX9_phrase ∈ xws := xws_t 696 (by decide +kernel) rfl
theorem ml_L_90 : Cond.methodLink RL 90 yX9_fit ∈ xws := xws_t 700 (by decide +kernel) rfl
theorem ml_L_94 : Cond.methodLink RL 94 yX9_pause ∈ xws := xws_t 704 (by decide +kernel) rfl
theorem ml_X9_191 : Cond.methodLink RX9 191 yX3_pauseBehind ∈ xws := xws_t 708 (by decide +kernel) rfl
theorem ml_L_98 : Cond.methodLink RL 98 yX9_apart ∈ xws := xws_t 712 (by decide +kernel) rfl
theorem ml_X9_199 : Cond.methodLink RX9 199 yX6_firstUnlike ∈ xws := xws_t 716 (by decide +kernel) rfl
theorem ml_X6_151 : Cond.methodLink RX6 151 yJ9_min_7cf53 ∈ xws := xws_t 720 (by decide +kernel) rfl
theorem ml_X6_155 : Cond.methodLink RX6 155 yX6_isAlikeAt ∈ xws := xws_t 721 (by decide +kernel) rfl
theorem ml_L_102 : Cond.methodLink RL 102 yX9_count ∈ xws := xws_t 725 (by decide +kernel) rfl
theorem ml_X9_208 : Cond.methodLink RX9 208 yX4_markCount ∈ xws := xws_t 729 (by decide +kernel) rfl
theorem ml_L_81 : Cond.methodLink RL 81 yL_shape ∈ xws := xws_t 733 (by decide +kernel) rfl
theorem ml_L_7 : Cond.methodLink RL 7 yX9_shape ∈ xws := xws_t 737 (by decide +kernel) rfl
theorem ml_L_87 : Cond.methodLink RL 87 yX10_thrown ∈ xws := xws_t 807 (by decide +kernel) rfl
theorem ml_L_58 : Cond.methodLink RL 58 yX10_feed ∈ xws := xws_t 811 (by decide +kernel) rfl
theorem ml_X10_7 : Cond.methodLink RX10 7 yX10_lay ∈ xws := xws_t 815 (by decide +kernel) rfl
theorem ml_L_18 : Cond.methodLink RL 18 yX10_init ∈ xws := xws_t 821 (by decide +kernel) rfl
theorem ml_L_62 : Cond.methodLink RL 62 yX10_rules ∈ xws := xws_t 1015 (by decide +kernel) rfl
theorem ml_X10_237 : Cond.methodLink RX10 237 yX10_cutAll ∈ xws := xws_t 1019 (by decide +kernel) rfl
theorem ml_X10_192 : Cond.methodLink RX10 192 yX10_isLetter ∈ xws := xws_t 1023 (by decide +kernel) rfl
theorem ml_X10_201 : Cond.methodLink RX10 201 yX10_rank ∈ xws := xws_t 1027 (by decide +kernel) rfl
theorem ml_X10_205 : Cond.methodLink RX10 205 yX10_isDigit ∈ xws := xws_t 1030 (by decide +kernel) rfl
theorem ml_X10_212 : Cond.methodLink RX10 212 yX10_isSignOf ∈ xws := xws_t 1035 (by decide +kernel) rfl
theorem ml_X10_240 : Cond.methodLink RX10 240 yX10_line ∈ xws := xws_t 1038 (by decide +kernel) rfl
theorem ml_X10_228 : Cond.methodLink RX10 228 yX10_isWord ∈ xws := xws_t 1042 (by decide +kernel) rfl
theorem ml_X10_224 : Cond.methodLink RX10 224 yX10_wrong ∈ xws := xws_t 1046 (by decide +kernel) rfl
theorem ml_X10_249 : Cond.methodLink RX10 249 yX10_partWord ∈ xws := xws_t 1050 (by decide +kernel) rfl
theorem ml_X10_253 : Cond.methodLink RX10 253 yX10_expression ∈ xws := xws_t 1054 (by decide +kernel) rfl
theorem ml_X10_262 : Cond.methodLink RX10 262 yX10_opens ∈ xws := xws_t 1058 (by decide +kernel) rfl
theorem ml_X10_265 : Cond.methodLink RX10 265 yX10_part ∈ xws := xws_t 1062 (by decide +kernel) rfl
theorem ml_X10_221 : Cond.methodLink RX10 221 yX10_isSign ∈ xws := xws_t 1066 (by decide +kernel) rfl
theorem ml_X10_276 : Cond.methodLink RX10 276 yX10_hasSign ∈ xws := xws_t 1070 (by decide +kernel) rfl
theorem ml_X10_272 : Cond.methodLink RX10 272 yX10_emit ∈ xws := xws_t 1074 (by decide +kernel) rfl
theorem ml_X10_269 : Cond.methodLink RX10 269 yX10_goesOnBehind ∈ xws := xws_t 1078 (by decide +kernel) rfl
theorem ml_X10_256 : Cond.methodLink RX10 256 yX10_takeSign ∈ xws := xws_t 1082 (by decide +kernel) rfl
theorem ml_X10_231 : Cond.methodLink RX10 231 yX10_hasWord ∈ xws := xws_t 1086 (by decide +kernel) rfl
theorem ml_X10_243 : Cond.methodLink RX10 243 yX10_keeps ∈ xws := xws_t 1090 (by decide +kernel) rfl
theorem ml_L_51 : Cond.methodLink RL 51 yX10_manner ∈ xws := xws_t 1094 (by decide +kernel) rfl
theorem ml_L_23 : Cond.methodLink RL 23 yX10_word ∈ xws := xws_t 1098 (by decide +kernel) rfl
theorem ml_X10_279 : Cond.methodLink RX10 279 yX10_isWordSo ∈ xws := xws_t 1102 (by decide +kernel) rfl
theorem ml_X10_286 : Cond.methodLink RX10 286 yX10_tells ∈ xws := xws_t 1105 (by decide +kernel) rfl
theorem ml_L_28 : Cond.methodLink RL 28 yX10_change ∈ xws := xws_t 1109 (by decide +kernel) rfl
theorem ml_L_33 : Cond.methodLink RL 33 yX10_reading ∈ xws := xws_t 1113 (by decide +kernel) rfl
theorem ml_L_38 : Cond.methodLink RL 38 yX10_take ∈ xws := xws_t 1117 (by decide +kernel) rfl
theorem ml_X10_290 : Cond.methodLink RX10 290 yX10_isReading ∈ xws := xws_t 1121 (by decide +kernel) rfl
theorem ml_L_42 : Cond.methodLink RL 42 yX10_tune ∈ xws := xws_t 1125 (by decide +kernel) rfl
theorem ml_L_46 : Cond.methodLink RL 46 yX10_ideal ∈ xws := xws_t 1129 (by decide +kernel) rfl
theorem ml_L_72 : Cond.methodLink RL 72 yX10_speed ∈ xws := xws_t 1133 (by decide +kernel) rfl
theorem ml_L_67 : Cond.methodLink RL 67 yX10_hand ∈ xws := xws_t 1137 (by decide +kernel) rfl
theorem ml_X10_293 : Cond.methodLink RX10 293 yX10_soundsOf ∈ xws := xws_t 1141 (by decide +kernel) rfl
theorem ml_L_76 : Cond.methodLink RL 76 yX10_phrases ∈ xws := xws_t 1145 (by decide +kernel) rfl
theorem ml_X10_303 : Cond.methodLink RX10 303 yX10_findPhrases ∈ xws := xws_t 1149 (by decide +kernel) rfl
theorem ml_X10_296 : Cond.methodLink RX10 296 yX10_costOf ∈ xws := xws_t 1153 (by decide +kernel) rfl
theorem ml_L_80 : Cond.methodLink RL 80 yX10_phrase ∈ xws := xws_t 1157 (by decide +kernel) rfl
theorem ml_X10_306 : Cond.methodLink RX10 306 yX10_accents ∈ xws := xws_t 1161 (by decide +kernel) rfl
theorem ml_L_86 : Cond.methodLink RL 86 yX10_shape ∈ xws := xws_t 1165 (by decide +kernel) rfl
theorem ml_X10_335 : Cond.methodLink RX10 335 yX10_shapes ∈ xws := xws_t 1169 (by decide +kernel) rfl
theorem ml_X10_322 : Cond.methodLink RX10 322 yX10_setsOut ∈ xws := xws_t 1173 (by decide +kernel) rfl
theorem ml_X10_325 : Cond.methodLink RX10 325 yX10_works ∈ xws := xws_t 1177 (by decide +kernel) rfl
theorem ml_X10_313 : Cond.methodLink RX10 313 yX10_knows ∈ xws := xws_t 1181 (by decide +kernel) rfl
theorem ml_X10_316 : Cond.methodLink RX10 316 yX10_worth ∈ xws := xws_t 1185 (by decide +kernel) rfl
theorem ml_X10_319 : Cond.methodLink RX10 319 yX10_within ∈ xws := xws_t 1189 (by decide +kernel) rfl
theorem ml_X10_328 : Cond.methodLink RX10 328 yX10_handOf ∈ xws := xws_t 1192 (by decide +kernel) rfl
theorem ml_X10_331 : Cond.methodLink RX10 331 yX10_nears ∈ xws := xws_t 1196 (by decide +kernel) rfl
theorem ml_X10_338 : Cond.methodLink RX10 338 yX10_told ∈ xws := xws_t 1200 (by decide +kernel) rfl
theorem ml_L_93 : Cond.methodLink RL 93 yX10_fit ∈ xws := xws_t 1204 (by decide +kernel) rfl
theorem ml_L_97 : Cond.methodLink RL 97 yX10_pause ∈ xws := xws_t 1208 (by decide +kernel) rfl
theorem ml_L_101 : Cond.methodLink RL 101 yX10_apart ∈ xws := xws_t 1212 (by decide +kernel) rfl
theorem ml_X10_344 : Cond.methodLink RX10 344 yX10_isAlike ∈ xws := xws_t 1216 (by decide +kernel) rfl
theorem ml_L_106 : Cond.methodLink RL 106 yX10_count ∈ xws := xws_t 1220 (by decide +kernel) rfl
theorem kl_L_8 : Cond.classLink RL 8 RX9 ∈ xws := xws_t 24 (by decide +kernel) rfl
theorem kl_X9_9 : Cond.classLink RX9 9 RX4 ∈ xws := xws_t 32 (by decide +kernel) rfl
theorem kl_X9_22 : Cond.classLink RX9 22 RX2 ∈ xws := xws_t 34 (by decide +kernel) rfl
theorem kl_X9_40 : Cond.classLink RX9 40 RX7 ∈ xws := xws_t 36 (by decide +kernel) rfl
theorem kl_X9_47 : Cond.classLink RX9 47 RX0 ∈ xws := xws_t 53 (by decide +kernel) rfl
theorem kl_X9_54 : Cond.classLink RX9 54 RX6 ∈ xws := xws_t 67 (by decide +kernel) rfl
theorem kl_X6_9 : Cond.classLink RX6 9 RX3 ∈ xws := xws_t 73 (by decide +kernel) rfl
theorem kl_X2_9 : Cond.classLink RX2 9 RX5 ∈ xws := xws_t 201 (by decide +kernel) rfl
theorem kl_X9_117 : Cond.classLink RX9 117 RX1 ∈ xws := xws_t 375 (by decide +kernel) rfl
theorem kl_X1_21 : Cond.classLink RX1 21 RX5 ∈ xws := xws_t 381 (by decide +kernel) rfl
theorem kl_X1_30 : Cond.classLink RX1 30 RX8 ∈ xws := xws_t 383 (by decide +kernel) rfl
theorem kl_L_16 : Cond.classLink RL 16 RX10 ∈ xws := xws_t 820 (by decide +kernel) rfl
theorem kn_X0 : Cond.instantiable RX0 2 ∈ xws ∧ Cond.initialized RX0 ∈ xws := ⟨xws_t 54 (by decide +kernel) rfl, xws_t 3 (by decide +kernel) rfl⟩
theorem kn_X1 : Cond.instantiable RX1 5 ∈ xws ∧ Cond.initialized RX1 ∈ xws := ⟨xws_t 376 (by decide +kernel) rfl, xws_t 13 (by decide +kernel) rfl⟩
theorem kn_X2 : Cond.instantiable RX2 4 ∈ xws ∧ Cond.initialized RX2 ∈ xws := ⟨xws_t 196 (by decide +kernel) rfl, xws_t 8 (by decide +kernel) rfl⟩
theorem kn_X3 : Cond.instantiable RX3 8 ∈ xws ∧ Cond.initialized RX3 ∈ xws := ⟨xws_t 74 (by decide +kernel) rfl, xws_t 5 (by decide +kernel) rfl⟩
theorem kn_X4 : Cond.instantiable RX4 9 ∈ xws ∧ Cond.initialized RX4 ∈ xws := ⟨xws_t 139 (by decide +kernel) rfl, xws_t 6 (by decide +kernel) rfl⟩
theorem kn_X5 : Cond.instantiable RX5 8 ∈ xws ∧ Cond.initialized RX5 ∈ xws := ⟨xws_t 202 (by decide +kernel) rfl, xws_t 9 (by decide +kernel) rfl⟩
theorem kn_X6 : Cond.instantiable RX6 5 ∈ xws ∧ Cond.initialized RX6 ∈ xws := ⟨xws_t 68 (by decide +kernel) rfl, xws_t 4 (by decide +kernel) rfl⟩
theorem kn_X7 : Cond.instantiable RX7 2 ∈ xws ∧ Cond.initialized RX7 ∈ xws := ⟨xws_t 37 (by decide +kernel) rfl, xws_t 2 (by decide +kernel) rfl⟩
theorem kn_X8 : Cond.instantiable RX8 3 ∈ xws ∧ Cond.initialized RX8 ∈ xws := ⟨xws_t 384 (by decide +kernel) rfl, xws_t 14 (by decide +kernel) rfl⟩
theorem kn_X9 : Cond.instantiable RX9 12 ∈ xws ∧ Cond.initialized RX9 ∈ xws := ⟨xws_t 25 (by decide +kernel) rfl, xws_t 1 (by decide +kernel) rfl⟩
theorem kn_X10 : Cond.instantiable RX10 57 ∈ xws ∧ Cond.initialized RX10 ∈ xws := ⟨xws_t 818 (by decide +kernel) rfl, xws_t 11 (by decide +kernel) rfl⟩
theorem ka_byte : Cond.arrayClass .byte ∈ xws := xws_t 52 (by decide +kernel) rfl
theorem ka_int : Cond.arrayClass .int ∈ xws := xws_t 66 (by decide +kernel) rfl
theorem ka_boolean : Cond.arrayClass .boolean ∈ xws := xws_t 115 (by decide +kernel) rfl
theorem ka_long : Cond.arrayClass .long ∈ xws := xws_t 1014 (by decide +kernel) rfl
theorem kj_X10_34 : Cond.constantLong RX10 34 26216 ∈ xws := xws_t 825 (by decide +kernel) rfl
theorem kj_X10_36 : Cond.constantLong RX10 36 1521 ∈ xws := xws_t 826 (by decide +kernel) rfl
theorem kj_X10_38 : Cond.constantLong RX10 38 1176170 ∈ xws := xws_t 827 (by decide +kernel) rfl
theorem kj_X10_40 : Cond.constantLong RX10 40 1891 ∈ xws := xws_t 828 (by decide +kernel) rfl
theorem kj_X10_42 : Cond.constantLong RX10 42 842217762 ∈ xws := xws_t 829 (by decide +kernel) rfl
theorem kj_X10_44 : Cond.constantLong RX10 44 564588237 ∈ xws := xws_t 830 (by decide +kernel) rfl
theorem kj_X10_46 : Cond.constantLong RX10 46 30778061 ∈ xws := xws_t 831 (by decide +kernel) rfl
theorem kj_X10_48 : Cond.constantLong RX10 48 30595897 ∈ xws := xws_t 832 (by decide +kernel) rfl
theorem kj_X10_50 : Cond.constantLong RX10 50 614923 ∈ xws := xws_t 833 (by decide +kernel) rfl
theorem kj_X10_52 : Cond.constantLong RX10 52 1355937724 ∈ xws := xws_t 834 (by decide +kernel) rfl
theorem kj_X10_54 : Cond.constantLong RX10 54 75125782 ∈ xws := xws_t 835 (by decide +kernel) rfl
theorem kj_X10_56 : Cond.constantLong RX10 56 19374 ∈ xws := xws_t 836 (by decide +kernel) rfl
theorem kj_X10_58 : Cond.constantLong RX10 58 324290739998 ∈ xws := xws_t 837 (by decide +kernel) rfl
theorem kj_X10_60 : Cond.constantLong RX10 60 1125410431 ∈ xws := xws_t 838 (by decide +kernel) rfl
theorem kj_X10_62 : Cond.constantLong RX10 62 11720058 ∈ xws := xws_t 839 (by decide +kernel) rfl
theorem kj_X10_64 : Cond.constantLong RX10 64 1186224 ∈ xws := xws_t 840 (by decide +kernel) rfl
theorem kj_X10_66 : Cond.constantLong RX10 66 1042332 ∈ xws := xws_t 841 (by decide +kernel) rfl
theorem kj_X10_199 : Cond.constantLong RX10 199 37 ∈ xws := xws_t 1026 (by decide +kernel) rfl
theorem kj_X10_208 : Cond.constantLong RX10 208 10 ∈ xws := xws_t 1033 (by decide +kernel) rfl
theorem kj_X10_210 : Cond.constantLong RX10 210 48 ∈ xws := xws_t 1034 (by decide +kernel) rfl
theorem kj_L_52 : Cond.constantLong RL 52 4294967295 ∈ xws := xws_t 1224 (by decide +kernel) rfl
end
section
def xAOA (U : State) : Prop := (Cond.arrayOver (.array .int)).before #[] U = true
theorem xAOA_moved {u U : State} (hvm : u.vm.Alike U.vm) (h : xAOA u) : xAOA U := by
  obtain ⟨comp, c, k, h1, h2, h3, h4, h5⟩ := arrayOverA_spec h
  obtain ⟨k', hk', he⟩ := hvm.2.2 _ _ h3
  have hi : (U.vm.classes.findIdx? fun (x : Class) => match x.kind with | .array component _ => component == comp | _ => false) = some c := by
    have hb : U.vm.bare = u.vm.bare := by first | exact hvm.bare_eq | exact hvm.bare_eq.symm
    refine Eq.trans (va_idx_bare U.vm comp).symm ?_
    rw [hb]
    exact (va_idx_bare u.vm comp).trans h2
  have hkind : k'.kind = .array comp (.array .int) := by rw [he]; exact h4
  have f1 : U.vm.findClass (FieldType.array .int).toString = some comp := by rw [hvm.findClass]; exact h1
  have f2 : U.vm.findClass ("[" ++ (FieldType.array .int).toString) = some c := by rw [hvm.findClass]; exact h5
  unfold xAOA Cond.before Cond.holds
  simp only [Cond.value]
  rw [f1, Option.bind_some]
  refine (congrArg (fun o : Option Nat => (o.bind (fun c => (U.vm.classes[c]?).map fun (k : Class) => match k.kind with | .array _ ty => decide (ty = FieldType.array .int) && decide (U.vm.findClass ("[" ++ (FieldType.array .int).toString) = some c) | _ => false) == some true)) hi).trans ?_
  simp [hk', hkind, f2]
/-- the constant texts: to be said -/
def xsr (_ : XG) (_ : Nat → Prop) (_ : State) (_ : Heap) : Prop := True
theorem xsr_moved {G : XG} {A : Nat → Prop} {u U : State} {H : Heap} (hvm : u.vm.Alike U.vm) (h : xsr G A u H) : xsr G A U H := h
theorem xsr_kept {G : XG} {A : Nat → Prop} {U : State} {H H1 : Heap} (h : xsr G A U H) (hq : ∀ a : Nat, a < H.size → ¬ A a → H1[a]? = H[a]?) : xsr G A U H1 := h
theorem xsr_narrow {G : XG} {A B : Nat → Prop} {U : State} {H : Heap} (h : xsr G A U H) (hAB : ∀ q, B q → A q) : xsr G B U H := h
/-! the links between nest mates: they are no words that can be handed on, so they are carried -/
def xn_38 : Cond := Jvm.Cond.methodLinkNest "VoiceShaper" (42 : Nat) ({ cls := "VoiceShaper$Tape", name := "<init>", desc := "()V" } : Jvm.MethodName) "VoiceShaper"
def xn_55 : Cond := Jvm.Cond.methodLinkNest "VoiceShaper" (49 : Nat) ({ cls := "VoiceShaper$Calculator", name := "<init>", desc := "()V" } : Jvm.MethodName) "VoiceShaper"
def xn_69 : Cond := Jvm.Cond.methodLinkNest "VoiceShaper" (56 : Nat) ({ cls := "VoiceShaper$Shape", name := "<init>", desc := "()V" } : Jvm.MethodName) "VoiceShaper"
def xn_75 : Cond := Jvm.Cond.methodLinkNest "VoiceShaper$Shape" (11 : Nat) ({ cls := "VoiceShaper$Parting", name := "<init>", desc := "()V" } : Jvm.MethodName) "VoiceShaper"
def xn_197 : Cond := Jvm.Cond.methodLinkNest "VoiceShaper" (65 : Nat) ({ cls := "VoiceShaper$Manner", name := "<init>", desc := "()V" } : Jvm.MethodName) "VoiceShaper"
def xn_370 : Cond := Jvm.Cond.methodLinkNest "VoiceShaper$Tape" (19 : Nat) ({ cls := "VoiceShaper", name := "isWithin", desc := "(III)Z" } : Jvm.MethodName) "VoiceShaper"
def xn_434 : Cond := Jvm.Cond.methodLinkNest "VoiceShaper$Tokens" (57 : Nat) ({ cls := "VoiceShaper", name := "isWithin", desc := "(III)Z" } : Jvm.MethodName) "VoiceShaper"
def xn_570 : Cond := Jvm.Cond.methodLinkNest "VoiceShaper$Grammar" (62 : Nat) ({ cls := "VoiceShaper", name := "isWithin", desc := "(III)Z" } : Jvm.MethodName) "VoiceShaper"
def xn_643 : Cond := Jvm.Cond.fieldLinkNest "VoiceShaper$Shape" (52 : Nat) "VoiceShaper" "AT_FIRST" "[I" "VoiceShaper"
def xn_669 : Cond := Jvm.Cond.fieldLinkNest "VoiceShaper$Shape" (118 : Nat) "VoiceShaper" "LEAST_BY_LINE" "[I" "VoiceShaper"
def xn_671 : Cond := Jvm.Cond.fieldLinkNest "VoiceShaper$Shape" (121 : Nat) "VoiceShaper" "MOST_BY_LINE" "[I" "VoiceShaper"
def xn_673 : Cond := Jvm.Cond.methodLinkNest "VoiceShaper$Shape" (124 : Nat) ({ cls := "VoiceShaper", name := "bringWithin", desc := "(III)I" } : Jvm.MethodName) "VoiceShaper"
def xnw (U : State) : Prop := va_Nw xn_38 U ∧ va_Nw xn_55 U ∧ va_Nw xn_69 U ∧ va_Nw xn_75 U ∧ va_Nw xn_197 U ∧ va_Nw xn_370 U ∧ va_Nw xn_434 U ∧ va_Nw xn_570 U ∧ va_Nw xn_643 U ∧ va_Nw xn_669 U ∧ va_Nw xn_671 U ∧ va_Nw xn_673 U ∧ va_AO "VoiceShaper$Manner" U ∧ va_AO "VoiceShaper$Reading" U ∧ xAOA U
theorem xnw_moved {s U : State} (hW : s.WarmedH U.vm) (h : xnw s) : xnw U := by
  obtain ⟨h38, h55, h69, h75, h197, h370, h434, h570, h643, h669, h671, h673, hm, hr, ha⟩ := h
  exact ⟨va_Nw.warmM hW h38, va_Nw.warmM hW h55, va_Nw.warmM hW h69, va_Nw.warmM hW h75, va_Nw.warmM hW h197, va_Nw.warmM hW h370, va_Nw.warmM hW h434, va_Nw.warmM hW h570, va_Nw.warmF hW h643, va_Nw.warmF hW h669, va_Nw.warmF hW h671, va_Nw.warmM hW h673, va_AO.moved hW.alike hm, va_AO.moved hW.alike hr, xAOA_moved hW.alike ha⟩
theorem xnw_same {s U : State} (hv : s.vm = U.vm) (h : xnw s) : xnw U := by
  obtain ⟨h38, h55, h69, h75, h197, h370, h434, h570, h643, h669, h671, h673, hm, hr, ha⟩ := h
  exact ⟨va_Nw.same rfl hv h38, va_Nw.same rfl hv h55, va_Nw.same rfl hv h69, va_Nw.same rfl hv h75, va_Nw.same rfl hv h197, va_Nw.same rfl hv h370, va_Nw.same rfl hv h434, va_Nw.same rfl hv h570, va_Nw.same rfl hv h643, va_Nw.same rfl hv h669, va_Nw.same rfl hv h671, va_Nw.same rfl hv h673, va_AO.moved (hv ▸ Vm.Alike.refl s.vm) hm, va_AO.moved (hv ▸ Vm.Alike.refl s.vm) hr, xAOA_moved (hv ▸ Vm.Alike.refl s.vm) ha⟩
theorem xnw_38 {U : State} (h : xnw U) : va_Nw xn_38 U := h.1
theorem xnw_55 {U : State} (h : xnw U) : va_Nw xn_55 U := h.2.1
theorem xnw_69 {U : State} (h : xnw U) : va_Nw xn_69 U := h.2.2.1
theorem xnw_75 {U : State} (h : xnw U) : va_Nw xn_75 U := h.2.2.2.1
theorem xnw_197 {U : State} (h : xnw U) : va_Nw xn_197 U := h.2.2.2.2.1
theorem xnw_370 {U : State} (h : xnw U) : va_Nw xn_370 U := h.2.2.2.2.2.1
theorem xnw_434 {U : State} (h : xnw U) : va_Nw xn_434 U := h.2.2.2.2.2.2.1
theorem xnw_570 {U : State} (h : xnw U) : va_Nw xn_570 U := h.2.2.2.2.2.2.2.1
theorem xnw_643 {U : State} (h : xnw U) : va_Nw xn_643 U := h.2.2.2.2.2.2.2.2.1
theorem xnw_669 {U : State} (h : xnw U) : va_Nw xn_669 U := h.2.2.2.2.2.2.2.2.2.1
theorem xnw_671 {U : State} (h : xnw U) : va_Nw xn_671 U := h.2.2.2.2.2.2.2.2.2.2.1
theorem xnw_673 {U : State} (h : xnw U) : va_Nw xn_673 U := h.2.2.2.2.2.2.2.2.2.2.2.1
theorem xnw_aoM {U : State} (h : xnw U) : va_AO "VoiceShaper$Manner" U := h.2.2.2.2.2.2.2.2.2.2.2.2.1
theorem xnw_aoR {U : State} (h : xnw U) : va_AO "VoiceShaper$Reading" U := h.2.2.2.2.2.2.2.2.2.2.2.2.2.1
theorem xnw_aoA {U : State} (h : xnw U) : xAOA U := h.2.2.2.2.2.2.2.2.2.2.2.2.2.2
/-! the static arrays: nobody writes them -/
def xsn : Nat → String := fun n => match n with
  | 0 => "LEAST_MARK"
  | 1 => "MOST_MARK"
  | 2 => "AT_FIRST"
  | 3 => "LEAST_BY_LINE"
  | _ => "MOST_BY_LINE"
def xsv : Nat → Nat → Int32 := fun n j => match n, j with
  | 0, 0 => 1
  | 0, 1 => 0
  | 0, 2 => 0
  | 1, 0 => 99
  | 1, 1 => 99
  | 1, 2 => 9
  | 2, 0 => 10
  | 2, 1 => 50
  | 2, 2 => 5
  | 3, 0 => 1
  | 3, 1 => (-999)
  | 3, 2 => 0
  | 4, 0 => 99
  | 4, 1 => 999
  | 4, 2 => 9
  | _, _ => 0
def xst (G : XG) (A : Nat → Prop) (U : State) (H : Heap) : Prop := (∀ n, n < 5 → va_Z "VoiceShaper" (xsn n) "[I" (.ref (G.2.2.2 n)) A U H ∧ va_T .int (G.2.2.2 n) 3 (fun j => .int (xsv n j)) A U H) ∧ xsr G A U H
theorem xst.moved {G : XG} {A : Nat → Prop} {u U : State} {H : Heap} (hvm : u.vm.Alike U.vm) (h : xst G A u H) : xst G A U H := ⟨fun n hn => ⟨va_Z.moved hvm (h.1 n hn).1, va_T.moved hvm (h.1 n hn).2⟩, xsr_moved hvm h.2⟩
theorem xst.kept {G : XG} {A : Nat → Prop} {U : State} {H H1 : Heap} (h : xst G A U H) (hq : ∀ a : Nat, a < H.size → ¬ A a → H1[a]? = H[a]?) : xst G A U H1 := ⟨fun n hn => ⟨(h.1 n hn).1.kept hq, (h.1 n hn).2.kept hq⟩, xsr_kept h.2 hq⟩
theorem xst.narrow {G : XG} {A B : Nat → Prop} {U : State} {H : Heap} (h : xst G A U H) (hAB : ∀ q, B q → A q) : xst G B U H := ⟨fun n hn => ⟨(h.1 n hn).1.narrow hAB, (h.1 n hn).2.narrow hAB⟩, xsr_narrow h.2 hAB⟩
/-! THE WORLD IN THE HEAP -/
def xval (X : XW) (a ci k : Nat) : Value := if xfr ci k = true then va_rf (xR X a k) else .int (xI X a k)
def xarr (X : XW) (a t : Nat) : vp_A := (xLn X a, if t = 2 then .inr (.inl (xL X a)) else if 4 ≤ t then .inr (.inr (.inr (.inr (xQ X a)))) else .inl (xA X a))
def xAty : Nat → FieldType := fun t => match t with
  | 0 => .byte
  | 1 => .int
  | 2 => .long
  | 3 => .boolean
  | 4 => .object "VoiceShaper$Manner"
  | 5 => .object "VoiceShaper$Reading"
  | _ => .array .int
def xat (G : XG) (X : XW) (H : Heap) (a : Nat) : Prop :=
  (∀ (ci : Nat) (r : vw_C), xKd X a = ci + 1 → vwCl[ci]? = some r → t_OB a (G.1 ci) r.2.2 (G.2.1 ci) H (xval X a ci)) ∧
  (∀ t : Nat, xKd X a = 20 + t → H[a]? = some (vp_cell (G.2.2.1 t) (xarr X a t))) ∧
  (xKd X a ≠ 0 → a < H.size)
def xw (G : XG) (X : XW) (H : Heap) : Prop := H.size = xZ X ∧ ∀ a, xat G X H a
def xtys (G : XG) : List (ClassId × FieldType) := [(G.2.2.1 0, .byte), (G.2.2.1 1, .int), (G.2.2.1 2, .long), (G.2.2.1 3, .boolean), (G.2.2.1 4, .object "VoiceShaper$Manner"), (G.2.2.1 5, .object "VoiceShaper$Reading"), (G.2.2.1 6, .array .int)]
def xk (G : XG) (U : State) : Prop := va_K (G.1, G.2.1) vwCl (xtys G) U ∧ xnw U
theorem xk.moved {G : XG} {s U : State} (hW : s.WarmedH U.vm) (h : xk G s) : xk G U := ⟨va_K.moved hW.alike h.1, xnw_moved hW h.2⟩
/-- the cells that may change from X on -/
def xAd (X : XW) : Nat → Prop := fun q => xKd X q ≠ 0 ∨ xZ X ≤ q
def XPre (G : XG) (X : XW) (U : State) : Prop := xw G X U.heap ∧ xk G U ∧ xst G (xAd X) U U.heap
def XQ (G : XG) (X : XW) (r : Option Value × XW) : Array Value → State → Outcome → State → Prop := fun _ st oc t => oc = .returned r.1 ∧ xw G r.2 t.heap ∧ (∀ a, xKd r.2 a ≠ 0 → xAd X a) ∧ va_F (xAd X) st t
def XM (l : Launch) (G : XG) (y : MethodName) (cc : ByteArray) (maxL : Nat) (ret : Option FieldType) (fr lo mc ms : Nat) (As : List Value) (X : XW) (r : Option Value × XW) : Prop :=
  Met l y (.code y cc maxL ret :: xws) { frames := fr, cells := mc, slots := ms, locals := lo } (va_Pc As (XPre G X)) (XQ G X r) mc ms (xAd X)
/-- what holds of the method's frame all along -/
def XC (p : Program) (s : State) (m : MethodId) (args : Array Value) (meth : Method) (c : Code) (own : String) (cc : ByteArray) (nL : Nat) (G : XG) : Prop :=
  p.tables.exec = Jvm.exec ∧ c.code = cc ∧ c.maxLocals = nL ∧ s.vm.findClass own = some m.cls ∧ (∀ w ∈ xws, w.before args s = true) ∧ xk G s ∧ meth.locks = false
/-- what holds of the heap now -/
def XD (G : XG) (X0 X : XW) (s : State) (H : Heap) (locs : List Loc) : Prop :=
  xw G X H ∧ (∀ a, xKd X a ≠ 0 → xAd X0 a) ∧ va_S (xAd X0) s.heap H locs ∧ xZ X0 = s.heap.size ∧ xst G (xAd X0) s s.heap
theorem xarr_i {X : XW} {a t : Nat} (h : t = 0 ∨ t = 1 ∨ t = 3) : xarr X a t = (xLn X a, .inl (xA X a)) := by
  rcases h with rfl | rfl | rfl <;> rfl
theorem xarr_l {X : XW} {a : Nat} : xarr X a 2 = (xLn X a, .inr (.inl (xL X a))) := rfl
theorem xarr_q {X : XW} {a t : Nat} (h : 4 ≤ t) : xarr X a t = (xLn X a, .inr (.inr (.inr (.inr (xQ X a))))) := by
  unfold xarr
  rw [if_neg (by omega), if_pos h]
/-- X1 is X but at the cell a -/
def xbut (a : Nat) (X X1 : XW) : Prop := xZ X1 = xZ X ∧ (∀ b, X1.2.1 b = X.2.1 b) ∧ ∀ b, b ≠ a → xI X1 b = xI X b ∧ xR X1 b = xR X b ∧ xA X1 b = xA X b ∧ xL X1 b = xL X b ∧ xQ X1 b = xQ X b
theorem x2_ne {α : Type} {f : Nat → Nat → α} {a k b : Nat} {v : α} (h : b ≠ a) : x2 f a k v b = f b := by
  funext j
  simp [x2, h]
theorem x2_eq {α : Type} {f : Nat → Nat → α} {a k : Nat} {v : α} : x2 f a k v a = va_up (f a) k v := by
  funext j
  simp [x2, va_up]
theorem wI_but (X : XW) (a k : Nat) (v : Int32) : xbut a X (wI X a k v) := ⟨rfl, fun _ => rfl, fun b h => ⟨funext fun j => congrFun (x2_ne h) j, rfl, rfl, rfl, rfl⟩⟩
theorem wR_but (X : XW) (a k : Nat) (v : Option Nat) : xbut a X (wR X a k v) := ⟨rfl, fun _ => rfl, fun b h => ⟨rfl, funext fun j => congrFun (x2_ne h) j, rfl, rfl, rfl⟩⟩
theorem wA_but (X : XW) (a k : Nat) (v : Int32) : xbut a X (wA X a k v) := ⟨rfl, fun _ => rfl, fun b h => ⟨rfl, rfl, funext fun j => congrFun (x2_ne h) j, rfl, rfl⟩⟩
theorem wL_but (X : XW) (a k : Nat) (v : Int64) : xbut a X (wL X a k v) := ⟨rfl, fun _ => rfl, fun b h => ⟨rfl, rfl, rfl, funext fun j => congrFun (x2_ne h) j, rfl⟩⟩
theorem wQ_but (X : XW) (a k : Nat) (v : Option Nat) : xbut a X (wQ X a k v) := ⟨rfl, fun _ => rfl, fun b h => ⟨rfl, rfl, rfl, rfl, funext fun j => congrFun (x2_ne h) j⟩⟩
theorem xbut.kd {a : Nat} {X X1 : XW} (h : xbut a X X1) (b : Nat) : xKd X1 b = xKd X b := congrArg Prod.fst (h.2.1 b)
theorem xbut.ln {a : Nat} {X X1 : XW} (h : xbut a X X1) (b : Nat) : xLn X1 b = xLn X b := congrArg Prod.snd (h.2.1 b)
theorem xat.kept {G : XG} {X X1 : XW} {H H1 : Heap} {b : Nat} (h : xat G X H b) (hk : X1.2.1 b = X.2.1 b) (e1 : xI X1 b = xI X b) (e2 : xR X1 b = xR X b) (e3 : xA X1 b = xA X b) (e4 : xL X1 b = xL X b) (e5 : xQ X1 b = xQ X b) (hH : xKd X b ≠ 0 → H1[b]? = H[b]?) (hz : H.size ≤ H1.size) : xat G X1 H1 b := by
  have kd : xKd X1 b = xKd X b := congrArg Prod.fst hk
  have ln : xLn X1 b = xLn X b := congrArg Prod.snd hk
  refine ⟨fun ci r h1 h2 => ?_, fun t h1 => ?_, fun h1 => ?_⟩
  · have hv : xval X1 b ci = xval X b ci := by funext k; unfold xval; rw [e1, e2]
    rw [hv]
    rw [kd] at h1
    exact (h.1 ci r h1 h2).kept (hH (by omega))
  · rw [kd] at h1
    have hv : xarr X1 b t = xarr X b t := by unfold xarr; rw [ln, e3, e4, e5]
    rw [hv, hH (by omega)]
    exact h.2.1 t h1
  · rw [kd] at h1
    exact Nat.lt_of_lt_of_le (h.2.2 h1) hz
theorem XD.put {G : XG} {X0 X X1 : XW} {s : State} {H H1 : Heap} {locs : List Loc} {a i : Nat} (h : XD G X0 X s H locs) (hX : xbut a X X1) (hk : xKd X a ≠ 0) (z : H1.size = H.size) (oq : ∀ q : Nat, q ≠ a → H1[q]? = H[q]?) (ha : xat G X1 H1 a) : XD G X0 X1 s H1 (locs ++ [⟨a, i⟩]) := by
  obtain ⟨⟨h1, h2⟩, h3, h4, h5, h6⟩ := h
  refine ⟨⟨z.trans (h1.trans hX.1.symm), fun b => ?_⟩, fun b hb => h3 b (by rw [← hX.kd b]; exact hb), h4.put z oq (h3 a hk), h5, h6⟩
  by_cases hb : b = a
  · subst hb; exact ha
  · obtain ⟨e1, e2, e3, e4, e5⟩ := hX.2.2 b hb
    exact (h2 b).kept (hX.2.1 b) e1 e2 e3 e4 e5 (fun _ => oq b hb) (Nat.le_of_eq z.symm)
theorem XD.fresh {G : XG} {X0 X : XW} {s : State} {H H1 : Heap} {locs : List Loc} {kd len : Nat} (h : XD G X0 X s H locs) (z : H1.size = H.size + 1) (oq : ∀ q : Nat, q < H.size → H1[q]? = H[q]?) (ha : xat G (wN X kd len) H1 H.size) : XD G X0 (wN X kd len) s H1 locs := by
  obtain ⟨⟨h1, h2⟩, h3, h4, h5, h6⟩ := h
  have hX1 : X.1 = H.size := h1.symm
  refine ⟨⟨by rw [z, h1]; rfl, fun b => ?_⟩, fun b hb => ?_, ⟨Nat.le_trans h4.1 (by omega), fun q q1 q2 => (oq q (Nat.lt_of_lt_of_le q1 h4.1)).trans (h4.2.1 q q1 q2), h4.2.2⟩, h5, h6⟩
  · by_cases hb : b = H.size
    · rw [hb]; exact ha
    · have hb' : b ≠ X.1 := by rw [hX1]; exact hb
      have e0 : (wN X kd len).2.1 b = X.2.1 b := if_neg hb'
      refine (h2 b).kept e0 (funext fun j => if_neg hb') (funext fun j => if_neg hb') (funext fun j => if_neg hb') (funext fun j => if_neg hb') (funext fun j => if_neg hb') (fun q => oq b ((h2 b).2.2 q)) (by omega)
  · by_cases e : b = X.1
    · right; rw [h5, e, hX1]; exact h4.1
    · have e0 : (wN X kd len).2.1 b = X.2.1 b := if_neg e
      exact h3 b (by unfold xKd at hb ⊢; rw [e0] at hb; exact hb)
theorem xAd_sub {G : XG} {X0 X : XW} {s : State} {H : Heap} {locs : List Loc} (h : XD G X0 X s H locs) : ∀ q, xAd X q → xAd X0 q := by
  obtain ⟨⟨h1, h2⟩, h3, h4, h5, h6⟩ := h
  intro q hq
  rcases hq with hq | hq
  · exact h3 q hq
  · right; rw [h5]; exact Nat.le_trans h4.1 (by rw [h1]; exact hq)
section XR
variable {p : Program} {l : Launch} {e : Env} {R : Room} {s : State} {m : MethodId} {args : Array Value} {below : List Frame} {meth : Method} {c : Code} {H : Heap} {locs : List Loc} {cells slots : Nat} {Q : State → Prop}
variable {own : String} {cc : ByteArray} {nL : Nat} {G : XG} {X0 X : XW} {pc : Nat} {ls : Array Slot} {rest : List Value}
variable {ci : Nat} {C : String} {T : u_T} {N : Nat} {ty : Nat → FieldType}
theorem xr_get0 (C0 : XC p s m args meth c own cc nL G) (W0 : XD G X0 X s H locs) (hc : XCl ci C T N ty) (k : Nat) (hk : k < N) {idx : Nat} (hl : Cond.fieldLink own idx (T k).1 (T k).2.1 (T k).2.2.1 ∈ xws) {a : Nat} {v : Value} (hkd : xKd X a = ci + 1) (hv : xval X a ci k = v) (hdg : decode cc pc = .ok (.getfield idx, 3))
    (kk : W p l e R s m args below meth c H locs cells slots Q (F0 m (pc + 3) ls (v :: rest))) : W p l e R s m args below meth c H locs cells slots Q (F0 m pc ls (.ref a :: rest)) := by
  obtain ⟨hx, hb, -, hown, hts, hK, -⟩ := C0
  obtain ⟨hc1, hc2, hc3, hc4⟩ := hc
  obtain ⟨cell, q1, q2, q3, q4⟩ := (W0.1.2 a).1 ci _ hkd hc1
  obtain ⟨hS, hfc, kC, hkC, hkind⟩ := hK.1.1 ci _ hc1
  obtain ⟨cf, kf, fi, f, hi, hsl⟩ := hS k hk
  refine W.getf hx hb hown (hts _ hl) hi (u_facts hfc hkC (u_lays hts hc2 hk) hi).1 q1 (by rw [q3]; exact fun h => by cases h) (v := v) ?_ rfl rfl hdg kk
  rw [hsl, q4 k hk, hv]
theorem xr_getI (C0 : XC p s m args meth c own cc nL G) (W0 : XD G X0 X s H locs) (hc : XCl ci C T N ty) (k : Nat) (hk : k < N) {idx : Nat} (hl : Cond.fieldLink own idx (T k).1 (T k).2.1 (T k).2.2.1 ∈ xws) (hf : xfr ci k = false) {a : Nat} {v : Int32} (hg : gI X a ci k = some v) (hdg : decode cc pc = .ok (.getfield idx, 3))
    (kk : W p l e R s m args below meth c H locs cells slots Q (F0 m (pc + 3) ls (.int v :: rest))) : W p l e R s m args below meth c H locs cells slots Q (F0 m pc ls (.ref a :: rest)) := by
  unfold gI at hg
  split at hg
  · rename_i hkd
    cases hg
    exact xr_get0 C0 W0 hc k hk hl hkd (by unfold xval; rw [hf]; rfl) hdg kk
  · cases hg
theorem xr_getR (C0 : XC p s m args meth c own cc nL G) (W0 : XD G X0 X s H locs) (hc : XCl ci C T N ty) (k : Nat) (hk : k < N) {idx : Nat} (hl : Cond.fieldLink own idx (T k).1 (T k).2.1 (T k).2.2.1 ∈ xws) (hf : xfr ci k = true) {a v : Nat} (hg : gR X a ci k = some v) (hdg : decode cc pc = .ok (.getfield idx, 3))
    (kk : W p l e R s m args below meth c H locs cells slots Q (F0 m (pc + 3) ls (.ref v :: rest))) : W p l e R s m args below meth c H locs cells slots Q (F0 m pc ls (.ref a :: rest)) := by
  unfold gR at hg
  split at hg
  · rename_i hkd
    exact xr_get0 C0 W0 hc k hk hl hkd (by unfold xval; rw [hf, if_pos rfl, hg]; rfl) hdg kk
  · cases hg
/-- the fields of a, the k-th changed -/
theorem xob_put {cell : Cell} {iS : Nat → Nat} {cC : ClassId} {X1 : XW} {H1 : Heap} {a k : Nat} {v : Value} (q2 : cell.cls = cC) (q3 : cell.vm = .none) (q4 : ∀ k, k < N → cell.slots[iS k]? = some (xval X a ci k)) (hap : ∀ a b, a < N → b < N → a ≠ b → iS a ≠ iS b) (hk : k < N) (e1 : H1[a]? = some (cell.setSlot (iS k) v)) (hv : ∀ j, xval X1 a ci j = updV (xval X a ci) k v j) : t_OB a cC N iS H1 (xval X1 a ci) :=
  t_OB.to (V := updV (xval X a ci) k v) ⟨_, e1, q2, q3, t_set q4 hap hk v⟩ (fun j _ => (hv j).symm)
theorem xr_put0 (C0 : XC p s m args meth c own cc nL G) (W0 : XD G X0 X s H locs) (hc : XCl ci C T N ty) (k : Nat) (hk : k < N) {idx : Nat} (hl : Cond.fieldLink own idx (T k).1 (T k).2.1 (T k).2.2.1 ∈ xws) (hfin : (T k).2.2.2 = false ∨ ((T k).2.2.2 = true ∧ meth.name = "<init>" ∧ (T k).1 = own)) {a : Nat} {v : Value} {X1 : XW} (hkd : xKd X a = ci + 1) (hci : ci < 11) (hX : xbut a X X1) (hv : ∀ j, xval X1 a ci j = updV (xval X a ci) k v j) (hn : narrow (ty k) v = v) (hfit : fits (ty k) v = true) (hdg : decode cc pc = .ok (.putfield idx, 3))
    (kk : ∀ (H1 : Heap) (locs1 : List Loc), XD G X0 X1 s H1 locs1 → W p l e R s m args below meth c H1 locs1 cells slots Q (F0 m (pc + 3) ls rest)) : W p l e R s m args below meth c H locs cells slots Q (F0 m pc ls (v :: .ref a :: rest)) := by
  obtain ⟨hx, hb, -, hown, hts, hK, -⟩ := C0
  obtain ⟨hc1, hc2, hc3, hc4⟩ := hc
  have hap := va_apart (own := own) hts hc2 ty hc3 hc4 hK.1 hc1
  obtain ⟨cell, q1, q2, q3, q4⟩ := (W0.1.2 a).1 ci _ hkd hc1
  obtain ⟨hS, hfc, kC, hkC, hkind⟩ := hK.1.1 ci _ hc1
  obtain ⟨cf, kf, fi, f, hi, hsl⟩ := hS k hk
  have hst := (u_facts hfc hkC (u_lays hts hc2 hk) hi).1
  have hlay := hts _ (hc2 _ (u_in_lay hk))
  have fin : ∀ H' : Heap, H'[a]? = some (cell.setSlot f.slot v) → H'.size = H.size → (∀ q, q ≠ a → H'[q]? = H[q]?) → W p l e R s m args below meth c H' (locs ++ [⟨a, f.slot⟩]) cells slots Q (F0 m (pc + 3) ls rest) := by
    intro H' e1 e2 e3
    refine kk H' _ (W0.put hX (by omega) e2 e3 ⟨fun ci' r' h1 h2 => ?_, fun t h1 => ?_, fun _ => ?_⟩)
    · have hci' : ci' = ci := by rw [hX.kd a, hkd] at h1; omega
      subst hci'
      cases hc1.symm.trans h2
      rw [hsl] at e1
      exact xob_put q2 q3 q4 hap hk e1 hv
    · rw [hX.kd a, hkd] at h1; omega
    · exact (Array.getElem?_eq_some_iff.mp e1).1
  unfold u_lay at hlay
  rcases hfin with hfin | ⟨hfin, hin2, hdecl⟩
  · rw [if_neg (by rw [hfin]; decide)] at hlay
    have h6 := u_store hfc hkC hkind hlay hi (hc3 k hk) hn hfit
    exact W.putK hx hb (f := f) ⟨hown, hts _ hl, ⟨_, _, _, hi⟩, hst⟩ (by rw [q2]; exact h6) q1 q3 (by rw [hsl]; exact k2_hasslot (q4 k hk)) rfl rfl hdg fin
  · rw [if_pos hfin] at hlay
    have hcf : m.cls = cf := by
      obtain ⟨_, _, c', _, _, _, -, -, hf', -, -, -, hown2, -⟩ := Cond.laysFinal_spec hlay
      have e1 : c' = cf := by have := hi.symm.trans hf'; simp at this; exact this.1.symm
      rw [hdecl] at hown2
      rw [← e1]; exact Option.some.inj (hown.symm.trans hown2)
    have h6 := u_fits hfc hkC hkind (Or.inr hlay) hi (hc3 k hk) hn hfit
    exact W.putFinK hx hb hown (hts _ hl) hi hst hcf hin2 (by rw [q2]; exact h6) q1 q3 (by rw [hsl]; exact k2_hasslot (q4 k hk)) rfl rfl hdg fin
theorem xval_wI {a k : Nat} {v : Int32} (hf : xfr ci k = false) (j : Nat) : xval (wI X a k v) a ci j = updV (xval X a ci) k (.int v) j := by
  unfold updV xval
  by_cases hj : j = k
  · subst hj; simp [hf, xI, wI, x2]
  · simp [hj, xI, wI, x2, xR]
theorem xval_wR {a k : Nat} {v : Option Nat} (hf : xfr ci k = true) (j : Nat) : xval (wR X a k v) a ci j = updV (xval X a ci) k (va_rf v) j := by
  unfold updV xval
  by_cases hj : j = k
  · subst hj; simp [hf, xR, wR, x2]
  · simp [hj, xR, wR, x2, xI]
theorem xr_putI (C0 : XC p s m args meth c own cc nL G) (W0 : XD G X0 X s H locs) (hc : XCl ci C T N ty) (k : Nat) (hk : k < N) {idx : Nat} (hl : Cond.fieldLink own idx (T k).1 (T k).2.1 (T k).2.2.1 ∈ xws) (hfin : (T k).2.2.2 = false) (hf : xfr ci k = false) (hty : ty k = .int) {a : Nat} {v : Int32} {X1 : XW} (hci : ci < 11) (hp : pI X a ci k v = some X1) (hdg : decode cc pc = .ok (.putfield idx, 3))
    (kk : ∀ (H1 : Heap) (locs1 : List Loc), XD G X0 X1 s H1 locs1 → W p l e R s m args below meth c H1 locs1 cells slots Q (F0 m (pc + 3) ls rest)) : W p l e R s m args below meth c H locs cells slots Q (F0 m pc ls (.int v :: .ref a :: rest)) := by
  unfold pI at hp
  split at hp
  · rename_i hkd
    cases hp
    exact xr_put0 C0 W0 hc k hk hl (Or.inl hfin) hkd hci (wI_but X a k v) (xval_wI hf) (by rw [hty]; rfl) (by rw [hty]; rfl) hdg kk
  · cases hp
theorem xr_putZ (C0 : XC p s m args meth c own cc nL G) (W0 : XD G X0 X s H locs) (hc : XCl ci C T N ty) (k : Nat) (hk : k < N) {idx : Nat} (hl : Cond.fieldLink own idx (T k).1 (T k).2.1 (T k).2.2.1 ∈ xws) (hfin : (T k).2.2.2 = false) (hf : xfr ci k = false) (hty : ty k = .boolean) {a : Nat} {v : Int32} {X1 : XW} (hci : ci < 11) (hp : pZ X a ci k v = some X1) (hdg : decode cc pc = .ok (.putfield idx, 3))
    (kk : ∀ (H1 : Heap) (locs1 : List Loc), XD G X0 X1 s H1 locs1 → W p l e R s m args below meth c H1 locs1 cells slots Q (F0 m (pc + 3) ls rest)) : W p l e R s m args below meth c H locs cells slots Q (F0 m pc ls (.int v :: .ref a :: rest)) := by
  unfold pZ at hp
  split at hp
  · rename_i hkd
    cases hp
    refine xr_put0 C0 W0 hc k hk hl (Or.inl hfin) hkd.1 hci (wI_but X a k v) (xval_wI hf) ?_ ?_ hdg kk
    · rw [hty]; rcases hkd.2 with rfl | rfl <;> decide
    · rw [hty]; rcases hkd.2 with rfl | rfl <;> decide
  · cases hp
theorem xr_putR (C0 : XC p s m args meth c own cc nL G) (W0 : XD G X0 X s H locs) (hc : XCl ci C T N ty) (k : Nat) (hk : k < N) {idx : Nat} (hl : Cond.fieldLink own idx (T k).1 (T k).2.1 (T k).2.2.1 ∈ xws) (hfin : (T k).2.2.2 = false ∨ ((T k).2.2.2 = true ∧ meth.name = "<init>" ∧ (T k).1 = own)) (hf : xfr ci k = true) {a v : Nat} (hty : narrow (ty k) (.ref v) = .ref v ∧ fits (ty k) (.ref v) = true) {X1 : XW} (hci : ci < 11) (hp : pR X a ci k v = some X1) (hdg : decode cc pc = .ok (.putfield idx, 3))
    (kk : ∀ (H1 : Heap) (locs1 : List Loc), XD G X0 X1 s H1 locs1 → W p l e R s m args below meth c H1 locs1 cells slots Q (F0 m (pc + 3) ls rest)) : W p l e R s m args below meth c H locs cells slots Q (F0 m pc ls (.ref v :: .ref a :: rest)) := by
  unfold pR at hp
  split at hp
  · rename_i hkd
    cases hp
    exact xr_put0 C0 W0 hc k hk hl hfin hkd hci (wR_but X a k (some v)) (xval_wR hf) hty.1 hty.2 hdg kk
  · cases hp
end XR
end
section
def aE (X : XW) (a t : Nat) : Option Int32 := if xKd X a = 20 + t then some (Int32.ofNat (xLn X a)) else none
section XR2
variable {p : Program} {l : Launch} {e : Env} {R : Room} {s : State} {m : MethodId} {args : Array Value} {below : List Frame} {meth : Method} {c : Code} {H : Heap} {locs : List Loc} {cells slots : Nat} {Q : State → Prop}
variable {own : String} {cc : ByteArray} {nL : Nat} {G : XG} {X0 X : XW} {pc : Nat} {ls : Array Slot} {rest : List Value}
theorem xr_kA {t : Nat} {ty : FieldType} (hK : xk G s) (h : (xtys G)[t]? = some (G.2.2.1 t, ty)) : ArrOfT s (G.2.2.1 t) ty ∧ va_RA s (G.2.2.1 t) ty := hK.1.2 t _ h
theorem xr_iald (C0 : XC p s m args meth c own cc nL G) (W0 : XD G X0 X s H locs) {a : Nat} {i v : Int32} (hg : aI X a 1 i = some v) (hdg : decode cc pc = .ok (.iaload, 1))
    (kk : W p l e R s m args below meth c H locs cells slots Q (F0 m (pc + 1) ls (.int v :: rest))) : W p l e R s m args below meth c H locs cells slots Q (F0 m pc ls (.int i :: .ref a :: rest)) := by
  obtain ⟨hx, hb, -, hown, hts, hK, -⟩ := C0
  unfold aI at hg
  split at hg
  · rename_i h1
    cases hg
    obtain ⟨h1, hin⟩ := h1
    have hcell := (W0.1.2 a).2.1 1 h1
    rw [xarr_i (Or.inr (Or.inl rfl)), vp_cell_i] at hcell
    have hlt : i.toNatClampNeg < xLn X a := Nat.not_le.mp fun q => hin (Or.inr q)
    exact W.iald hx hb hcell ((xr_kA hK (t := 1) rfl).1 _ (fun j => .int (xA X a j))) (fun q => by cases q) (by rw [arrV_size]; exact hin) (by rw [arrV_read _ _ hlt]) rfl rfl hdg kk
  · cases hg
theorem xr_zald (C0 : XC p s m args meth c own cc nL G) (W0 : XD G X0 X s H locs) {a : Nat} {i v : Int32} (hg : aI X a 3 i = some v) (hdg : decode cc pc = .ok (.baload, 1))
    (kk : W p l e R s m args below meth c H locs cells slots Q (F0 m (pc + 1) ls (.int v :: rest))) : W p l e R s m args below meth c H locs cells slots Q (F0 m pc ls (.int i :: .ref a :: rest)) := by
  obtain ⟨hx, hb, -, hown, hts, hK, -⟩ := C0
  unfold aI at hg
  split at hg
  · rename_i h1
    cases hg
    obtain ⟨h1, hin⟩ := h1
    have hcell := (W0.1.2 a).2.1 3 h1
    rw [xarr_i (Or.inr (Or.inr rfl)), vp_cell_i] at hcell
    have hlt : i.toNatClampNeg < xLn X a := Nat.not_le.mp fun q => hin (Or.inr q)
    exact W.zald hx hb hcell ((xr_kA hK (t := 3) rfl).1 _ (fun j => .int (xA X a j))) (fun q => by cases q) (by rw [arrV_size]; exact hin) (by rw [arrV_read _ _ hlt]) rfl rfl hdg kk
  · cases hg
theorem xr_bald (C0 : XC p s m args meth c own cc nL G) (W0 : XD G X0 X s H locs) {a : Nat} {i v : Int32} (hg : aI X a 0 i = some v) (hdg : decode cc pc = .ok (.baload, 1))
    (kk : W p l e R s m args below meth c H locs cells slots Q (F0 m (pc + 1) ls (.int v :: rest))) : W p l e R s m args below meth c H locs cells slots Q (F0 m pc ls (.int i :: .ref a :: rest)) := by
  obtain ⟨hx, hb, -, hown, hts, hK, -⟩ := C0
  unfold aI at hg
  split at hg
  · rename_i h1
    cases hg
    obtain ⟨h1, hin⟩ := h1
    have hcell := (W0.1.2 a).2.1 0 h1
    rw [xarr_i (Or.inl rfl), vp_cell_i] at hcell
    have hlt : i.toNatClampNeg < xLn X a := Nat.not_le.mp fun q => hin (Or.inr q)
    exact W.bald hx hb hcell ((xr_kA hK (t := 0) rfl).1 _ (fun j => .int (xA X a j))) (fun q => by cases q) (by rw [arrV_size]; exact hin) (by rw [arrV_read _ _ hlt]) rfl rfl hdg kk
  · cases hg
theorem xr_lald (C0 : XC p s m args meth c own cc nL G) (W0 : XD G X0 X s H locs) {a : Nat} {i : Int32} {v : Int64} (hg : aL X a i = some v) (hdg : decode cc pc = .ok (.laload, 1))
    (kk : W p l e R s m args below meth c H locs cells slots Q (F0 m (pc + 1) ls (.long v :: rest))) : W p l e R s m args below meth c H locs cells slots Q (F0 m pc ls (.int i :: .ref a :: rest)) := by
  obtain ⟨hx, hb, -, hown, hts, hK, -⟩ := C0
  unfold aL at hg
  split at hg
  · rename_i h1
    cases hg
    obtain ⟨h1, hin⟩ := h1
    have hcell := (W0.1.2 a).2.1 2 h1
    rw [xarr_l, vp_cell_l] at hcell
    have hlt : i.toNatClampNeg < xLn X a := Nat.not_le.mp fun q => hin (Or.inr q)
    exact W.lald hx hb hcell ((xr_kA hK (t := 2) rfl).1 _ (fun j => .long (xL X a j))) (fun q => by cases q) (by rw [arrV_size]; exact hin) (by rw [arrV_read _ _ hlt]) rfl rfl hdg kk
  · cases hg
theorem xr_aldq (C0 : XC p s m args meth c own cc nL G) (W0 : XD G X0 X s H locs) {a : Nat} (t : Nat) (ht : 4 ≤ t) {ty : FieldType} (hty : (xtys G)[t]? = some (G.2.2.1 t, ty)) (hry : isReferenceType ty = true) {i : Int32} {v : Nat} (hg : aQ X a t i = some v) (hdg : decode cc pc = .ok (.aaload, 1))
    (kk : W p l e R s m args below meth c H locs cells slots Q (F0 m (pc + 1) ls (.ref v :: rest))) : W p l e R s m args below meth c H locs cells slots Q (F0 m pc ls (.int i :: .ref a :: rest)) := by
  obtain ⟨hx, hb, -, hown, hts, hK, -⟩ := C0
  unfold aQ at hg
  split at hg
  · rename_i h1
    obtain ⟨h1, hin⟩ := h1
    have hcell := (W0.1.2 a).2.1 t h1
    rw [xarr_q ht, vp_cell_q] at hcell
    have hlt : i.toNatClampNeg < xLn X a := Nat.not_le.mp fun q => hin (Or.inr q)
    exact W.aald (v := .ref v) (ty := ty) hx hb hcell ((xr_kA hK hty).1 _ (fun j => va_rf (xQ X a j))) hry (fun q => by cases q) (by rw [arrV_size]; exact hin) (by rw [arrV_read _ _ hlt, hg]; rfl) rfl rfl hdg kk
  · cases hg
theorem xat_arr {X1 : XW} {H1 : Heap} {a t : Nat} (hk : xKd X1 a = 20 + t) (h : H1[a]? = some (vp_cell (G.2.2.1 t) (xarr X1 a t))) : xat G X1 H1 a :=
  ⟨fun ci r h1 h2 => by
    have hlt : ci < 11 := (List.getElem?_eq_some_iff.mp h2).1
    omega, fun t' h1 => by
    have e : t' = t := by omega
    subst e; exact h, fun _ => (Array.getElem?_eq_some_iff.mp h).1⟩
theorem updV_i {f : Nat → Int32} {k : Nat} {v : Int32} : updV (fun j => Value.int (f j)) k (.int v) = fun j => Value.int (va_up f k v j) := by
  funext q
  by_cases hq : q = k <;> simp [updV, va_up, hq]
theorem updV_l {f : Nat → Int64} {k : Nat} {v : Int64} : updV (fun j => Value.long (f j)) k (.long v) = fun j => Value.long (va_up f k v j) := by
  funext q
  by_cases hq : q = k <;> simp [updV, va_up, hq]
theorem updV_q {f : Nat → Option Nat} {k : Nat} {v : Nat} : updV (fun j => va_rf (f j)) k (.ref v) = fun j => va_rf (va_up f k (some v) j) := by
  funext q
  by_cases hq : q = k <;> simp [updV, va_up, hq, va_rf]
theorem xA_wA {a i : Nat} {v : Int32} : xA (wA X a i v) a = va_up (xA X a) i v := funext fun j => congrFun x2_eq j
theorem xL_wL {a i : Nat} {v : Int64} : xL (wL X a i v) a = va_up (xL X a) i v := funext fun j => congrFun x2_eq j
theorem xQ_wQ {a i : Nat} {v : Option Nat} : xQ (wQ X a i v) a = va_up (xQ X a) i v := funext fun j => congrFun x2_eq j
theorem xr_iast (C0 : XC p s m args meth c own cc nL G) (W0 : XD G X0 X s H locs) {a : Nat} {i v : Int32} {X1 : XW} (hg : uI X a i v = some X1) (hdg : decode cc pc = .ok (.iastore, 1))
    (kk : ∀ (H1 : Heap) (locs1 : List Loc), XD G X0 X1 s H1 locs1 → W p l e R s m args below meth c H1 locs1 cells slots Q (F0 m (pc + 1) ls rest)) : W p l e R s m args below meth c H locs cells slots Q (F0 m pc ls (.int v :: .int i :: .ref a :: rest)) := by
  obtain ⟨hx, hb, -, hown, hts, hK, -⟩ := C0
  unfold uI at hg
  split at hg
  · rename_i h1
    cases hg
    obtain ⟨h1, hin⟩ := h1
    have hcell := (W0.1.2 a).2.1 1 h1
    rw [xarr_i (Or.inr (Or.inl rfl)), vp_cell_i] at hcell
    refine W.iast hx hb hcell ((xr_kA hK (t := 1) rfl).1 _ (fun j => .int (xA X a j))) (fun q => by cases q) (by rw [arrV_size]; exact hin) rfl rfl hdg fun H1 e1 z oq => ?_
    refine kk H1 _ (W0.put (wA_but X a _ v) (by omega) z oq (xat_arr (t := 1) h1 ?_))
    rw [e1, arrV_store, xarr_i (Or.inr (Or.inl rfl)), vp_cell_i, xA_wA, updV_i]
    rfl
  · cases hg
theorem xr_zast (C0 : XC p s m args meth c own cc nL G) (W0 : XD G X0 X s H locs) {a : Nat} {i v : Int32} {X1 : XW} (hg : uZ X a i v = some X1) (hdg : decode cc pc = .ok (.bastore, 1))
    (kk : ∀ (H1 : Heap) (locs1 : List Loc), XD G X0 X1 s H1 locs1 → W p l e R s m args below meth c H1 locs1 cells slots Q (F0 m (pc + 1) ls rest)) : W p l e R s m args below meth c H locs cells slots Q (F0 m pc ls (.int v :: .int i :: .ref a :: rest)) := by
  obtain ⟨hx, hb, -, hown, hts, hK, -⟩ := C0
  unfold uZ at hg
  split at hg
  · rename_i h1
    cases hg
    obtain ⟨h1, hin⟩ := h1
    have hcell := (W0.1.2 a).2.1 3 h1
    rw [xarr_i (Or.inr (Or.inr rfl)), vp_cell_i] at hcell
    refine W.zast hx hb hcell ((xr_kA hK (t := 3) rfl).1 _ (fun j => .int (xA X a j))) (fun q => by cases q) (by rw [arrV_size]; exact hin) rfl rfl hdg fun H1 e1 z oq => ?_
    refine kk H1 _ (W0.put (wA_but X a _ _) (by omega) z oq (xat_arr (t := 3) h1 ?_))
    rw [xarr_i (Or.inr (Or.inr rfl)), vp_cell_i, xA_wA, e1, arrV_store]
    refine (congrArg (fun f => some (arrV (G.2.2.1 3) (xLn X a) f)) ?_)
    funext q
    by_cases hq : q = i.toNatClampNeg
    · subst hq
      simp [updV, va_up, vp_nar]
      try rfl
    · simp [updV, va_up, hq]
  · cases hg
theorem xr_bast (C0 : XC p s m args meth c own cc nL G) (W0 : XD G X0 X s H locs) {a : Nat} {i v : Int32} {X1 : XW} (hg : uB X a i v = some X1) (hdg : decode cc pc = .ok (.bastore, 1))
    (kk : ∀ (H1 : Heap) (locs1 : List Loc), XD G X0 X1 s H1 locs1 → W p l e R s m args below meth c H1 locs1 cells slots Q (F0 m (pc + 1) ls rest)) : W p l e R s m args below meth c H locs cells slots Q (F0 m pc ls (.int v :: .int i :: .ref a :: rest)) := by
  obtain ⟨hx, hb, -, hown, hts, hK, -⟩ := C0
  unfold uB at hg
  split at hg
  · rename_i h1
    cases hg
    obtain ⟨h1, hin⟩ := h1
    have hcell := (W0.1.2 a).2.1 0 h1
    rw [xarr_i (Or.inl rfl), vp_cell_i] at hcell
    refine W.bast hx hb hcell ((xr_kA hK (t := 0) rfl).1 _ (fun j => .int (xA X a j))) (fun q => by cases q) (by rw [arrV_size]; exact hin) rfl rfl hdg fun H1 e1 z oq => ?_
    refine kk H1 _ (W0.put (wA_but X a _ _) (by omega) z oq (xat_arr (t := 0) h1 ?_))
    rw [xarr_i (Or.inl rfl), vp_cell_i, xA_wA, e1, arrV_store]
    refine (congrArg (fun f => some (arrV (G.2.2.1 0) (xLn X a) f)) ?_)
    funext q
    by_cases hq : q = i.toNatClampNeg
    · subst hq
      simp [updV, va_up, vp_nar]
      try rfl
    · simp [updV, va_up, hq]
  · cases hg
theorem xr_last (C0 : XC p s m args meth c own cc nL G) (W0 : XD G X0 X s H locs) {a : Nat} {i : Int32} {v : Int64} {X1 : XW} (hg : uL X a i v = some X1) (hdg : decode cc pc = .ok (.lastore, 1))
    (kk : ∀ (H1 : Heap) (locs1 : List Loc), XD G X0 X1 s H1 locs1 → W p l e R s m args below meth c H1 locs1 cells slots Q (F0 m (pc + 1) ls rest)) : W p l e R s m args below meth c H locs cells slots Q (F0 m pc ls (.long v :: .int i :: .ref a :: rest)) := by
  obtain ⟨hx, hb, -, hown, hts, hK, -⟩ := C0
  unfold uL at hg
  split at hg
  · rename_i h1
    cases hg
    obtain ⟨h1, hin⟩ := h1
    have hcell := (W0.1.2 a).2.1 2 h1
    rw [xarr_l, vp_cell_l] at hcell
    refine W.last hx hb hcell ((xr_kA hK (t := 2) rfl).1 _ (fun j => .long (xL X a j))) (fun q => by cases q) (by rw [arrV_size]; exact hin) rfl rfl hdg fun H1 e1 z oq => ?_
    refine kk H1 _ (W0.put (wL_but X a _ v) (by omega) z oq (xat_arr (t := 2) h1 ?_))
    rw [e1, arrV_store, xarr_l, vp_cell_l, xL_wL, updV_l]
    rfl
  · cases hg
theorem xr_astq (C0 : XC p s m args meth c own cc nL G) (W0 : XD G X0 X s H locs) {a : Nat} (t ci : Nat) (ht : 4 ≤ t) {r : vw_C} (hty : (xtys G)[t]? = some (G.2.2.1 t, .object r.1)) (hc : vwCl[ci]? = some r) {i : Int32} {v : Nat} {X1 : XW} (hg : uQ X a t ci i v = some X1) (hdg : decode cc pc = .ok (.aastore, 1))
    (kk : ∀ (H1 : Heap) (locs1 : List Loc), XD G X0 X1 s H1 locs1 → W p l e R s m args below meth c H1 locs1 cells slots Q (F0 m (pc + 1) ls rest)) : W p l e R s m args below meth c H locs cells slots Q (F0 m pc ls (.ref v :: .int i :: .ref a :: rest)) := by
  obtain ⟨hx, hb, -, hown, hts, hK, -⟩ := C0
  unfold uQ at hg
  split at hg
  · rename_i h1
    cases hg
    obtain ⟨h1, hkv, hin⟩ := h1
    have hcell := (W0.1.2 a).2.1 t h1
    rw [xarr_q ht, vp_cell_q] at hcell
    have hlt : i.toNatClampNeg < xLn X a := Nat.not_le.mp fun q => hin (Or.inr q)
    have h0 : ¬ i < 0 := fun q => hin (Or.inl q)
    obtain ⟨cellV, g1, g2, g3, -⟩ := (W0.1.2 v).1 ci r hkv hc
    have hcls := (hK.1.1 ci r hc).2
    obtain ⟨kA, comp, k1, k2, k3, -⟩ := (xr_kA hK hty).2
    have hcomp : comp = G.1 ci := Option.some.inj (k3.symm.trans hcls.1)
    subst hcomp
    obtain ⟨kC, hkC, -⟩ := hcls.2
    refine W.aast hx hb hcell (fun q h => by cases h) (fun h => by cases h) k1 k2 rfl hkC ⟨h0, by rw [arrV_size]; exact hlt⟩ g1 (fun q h => by rw [g3] at h; cases h) (by rw [g2]; exact hkC) (by rw [g2]; exact va_assign hcls) rfl rfl hdg fun H1 e1 z oq => ?_
    refine kk H1 _ (W0.put (wQ_but X a _ _) (by omega) z oq (xat_arr (t := t) h1 ?_))
    rw [e1, arrV_store, xarr_q ht, vp_cell_q, xQ_wQ, updV_q]
    rfl
  · cases hg
theorem xr_alen (C0 : XC p s m args meth c own cc nL G) (W0 : XD G X0 X s H locs) {a : Nat} {v : Int32} (t : Nat) {ty : FieldType} (hty : (xtys G)[t]? = some (G.2.2.1 t, ty)) (hg : aE X a t = some v) (hdg : decode cc pc = .ok (.arraylength, 1))
    (kk : W p l e R s m args below meth c H locs cells slots Q (F0 m (pc + 1) ls (.int v :: rest))) : W p l e R s m args below meth c H locs cells slots Q (F0 m pc ls (.ref a :: rest)) := by
  obtain ⟨hx, hb, -, hown, hts, hK, -⟩ := C0
  unfold aE at hg
  split at hg
  · rename_i hk
    cases hg
    have hcell := (W0.1.2 a).2.1 t hk
    have hA := (xr_kA hK hty).1
    unfold xarr at hcell
    split at hcell
    · rw [vp_cell_l] at hcell
      exact W.alen (n := Int32.ofNat (xLn X a)) hx hb hcell (hA _ (fun j => .long (xL X a j))) (by rw [arrV_size] <;> rfl) rfl rfl hdg kk
    · split at hcell
      · rw [vp_cell_q] at hcell
        exact W.alen (n := Int32.ofNat (xLn X a)) hx hb hcell (hA _ (fun j => va_rf (xQ X a j))) (by rw [arrV_size] <;> rfl) rfl rfl hdg kk
      · rw [vp_cell_i] at hcell
        exact W.alen (n := Int32.ofNat (xLn X a)) hx hb hcell (hA _ (fun j => .int (xA X a j))) (by rw [arrV_size] <;> rfl) rfl rfl hdg kk
  · cases hg
theorem xr_newa (C0 : XC p s m args meth c own cc nL G) (W0 : XD G X0 X s H locs) {atype : ArrayType} (t M : Nat) {ty : FieldType} (hta : newarray.typeOf atype = ty) (ht4 : t < 4) (hM : M ≤ 60000000) (hty : (xtys G)[t]? = some (G.2.2.1 t, ty)) (hw : Cond.arrayClass ty ∈ xws) (hdf : ∀ N : Nat, arrV (G.2.2.1 t) N (fun _ => defaultValue ty) = vp_cell (G.2.2.1 t) (xarr (wN X (20 + t) N) X.1 t)) (hcb : componentBytes ty ≤ 8) {n : Int32} {r : Nat × XW} (hg : nA X t M n = some r) (hcells : cells + 1 ≤ R.cells) (hslots : slots + M ≤ R.slots) (hdg : decode cc pc = .ok (.newarray atype, 2))
    (kk : ∀ (H1 : Heap), XD G X0 r.2 s H1 locs → W p l e R s m args below meth c H1 locs (cells + 1) (slots + M) Q (F0 m (pc + 2) ls (.ref r.1 :: rest))) : W p l e R s m args below meth c H locs cells slots Q (F0 m pc ls (.int n :: rest)) := by
  obtain ⟨hx, hb, -, hown, hts, hK, -⟩ := C0
  unfold nA at hg
  split at hg
  · rename_i h1
    cases hg
    obtain ⟨hn, hnM⟩ := h1
    subst hta
    have hX1 : X.1 = H.size := W0.1.1.symm
    refine va_newaK hx hb (hts _ hw) rfl hdg rfl hn rfl ?_ hcells (by omega) rfl fun H1 cA e1 z1 o1 hAr hNm => ?_
    · exact Nat.le_trans (Nat.mul_le_mul (Nat.le_trans hnM hM) hcb) (by decide)
    · have hcA : cA = G.2.2.1 t := by
        have h2 := (xr_kA hK hty).2
        have h3 : s.vm.findClass ("[" ++ (newarray.typeOf atype).toString) = some (G.2.2.1 t) := by cases atype <;> exact h2
        exact Option.some.inj (hNm.symm.trans h3)
      subst hcA
      refine W.widen (k := cells + 1) (n := slots + M) (Nat.le_refl _) (by omega) ?_
      have hD := XD.fresh (kd := 20 + t) (len := n.toNatClampNeg) W0 z1 o1 (xat_arr (t := t) ?_ ?_)
      · have hk := kk H1 hD
        rw [hX1] at hk
        exact hk
      · show (if H.size = X.1 then (20 + t, n.toNatClampNeg) else X.2.1 H.size).1 = 20 + t
        rw [if_pos hX1.symm]
      · rw [e1, hdf, hX1]
  · cases hg
end XR2
end
section
theorem xst_at {G : XG} {X0 X : XW} {s : State} {H : Heap} {locs : List Loc} (W0 : XD G X0 X s H locs) {U : State} (hU : U.heap = H) (hW : s.WarmedH U.vm) : xst G (xAd X) U U.heap := by
  rw [hU]
  exact xst.narrow (xst.moved hW.alike (xst.kept W0.2.2.2.2 (fun a h1 h2 => W0.2.2.1.2.1 a h1 h2))) (xAd_sub W0)
theorem xpre {G : XG} {X0 X : XW} {s : State} {H : Heap} {locs : List Loc} (W0 : XD G X0 X s H locs) (hK : xk G s) (As : List Value) : ∀ U : State, U.heap = H → s.WarmedH U.vm → va_Pc As (XPre G X) As.toArray U :=
  fun U hU hW => ⟨rfl, by rw [hU]; exact W0.1, xk.moved hW hK, xst_at W0 hU hW⟩
theorem xblind {G : XG} {X : XW} {As : List Value} : FrameBlind (va_Pc As (XPre G X)) := fun a U g mk q => by
  obtain ⟨q0, q1, q2, q3⟩ := q
  exact ⟨q0, q1, ⟨va_K.moved (u := U) (U := U.calling g mk a) (Vm.Alike.refl U.vm) q2.1, xnw_same (s := U) (U := U.calling g mk a) rfl q2.2⟩, xst.moved (u := U) (U := U.calling g mk a) (Vm.Alike.refl U.vm) q3⟩
section XR3
variable {p : Program} {l : Launch} {e : Env} {R : Room} {s : State} {m : MethodId} {args : Array Value} {below : List Frame} {meth : Method} {c : Code} {H : Heap} {locs : List Loc} {cells slots : Nat} {Q : State → Prop}
variable {own : String} {cc : ByteArray} {nL : Nat} {G : XG} {X0 X : XW} {pc : Nat} {ls : Array Slot} {rest : List Value}
variable {y : MethodName} {bytes : ByteArray} {maxL mc ms fr lo n idx : Nat} {ret : Option FieldType} {r : Option Value × XW} {st0 As : List Value} {b ci : Nat} {host : String}
theorem xr_go {av : Array Value} (hr : va_Run p l e R s m args below meth c H locs cells slots mc ms (F0 m pc ls st0) rest (XQ G X r av) (xAd X)) (W0 : XD G X0 X s H locs)
    (kk : ∀ (H1 : Heap) (locs1 : List Loc), XD G X0 r.2 s H1 locs1 → W p l e R s m args below meth c H1 locs1 (cells + mc) (slots + ms) Q (F0 m (pc + 3) ls (r.1.toList ++ rest))) : W p l e R s m args below meth c H locs cells slots Q (F0 m pc ls st0) := by
  intro T hT Xs
  obtain ⟨v, st₀, t, T', L, h0, X', hL, e1, e2, ⟨hv, hw, hkd, hz, hk⟩, st⟩ := hr T hT Xs
  have hv' : v = r.1 := Outcome.returned.inj hv
  subst hv'
  rw [h0] at hz hk
  have hA := xAd_sub W0
  obtain ⟨t2, a1, b1⟩ := kk T'.heap (locs ++ L) ⟨by rw [e1]; exact hw, fun a ha => hA a (hkd a ha), ⟨Nat.le_trans W0.2.2.1.1 (by rw [e1]; exact hz), fun q h1 h2 => by rw [e1, hk q (Nat.lt_of_lt_of_le h1 W0.2.2.1.1) (fun z => h2 (hA q z))]; exact W0.2.2.1.2.1 q h1 h2, fun q hq => (List.mem_append.mp hq).elim (W0.2.2.1.2.2 q) (fun h => hA _ (hL q h))⟩, W0.2.2.2⟩ T' rfl X'
  exact ⟨t2, st t2 a1, b1⟩
theorem xcb (C0 : XC p s m args meth c own cc nL G) (hc : XMc y bytes maxL ret n) (hl : Cond.methodLink own idx y ∈ xws) (hR : fr + 1 ≤ R.frames ∧ 8 + (maxL + 11) + lo ≤ R.locals) : CallB R s args own idx y bytes maxL ret (.code y bytes maxL ret :: xws) { frames := fr, cells := mc, slots := ms, locals := lo } mc ms n :=
  callB_of n C0.2.2.2.2.1 (xws_gi (cc2 := bytes) (n2 := n) (r2 := ret) (y2 := y) hc.1) rfl rfl rfl (C0.2.2.2.2.1 _ hc.2.1) (C0.2.2.2.2.1 _ hl) hc.2.2 hR
theorem xrecv (C0 : XC p s m args meth c own cc nL G) (W0 : XD G X0 X s H locs) {rr : vw_C} (hk : xKd X b = ci + 1) (hc : vwCl[ci]? = some rr) (hy : rr.1 = y.cls) : ∃ cellB : Cell, H[b]? = some cellB ∧ cellB.vm.isStatics = false ∧ s.vm.findClass y.cls = some cellB.cls := by
  obtain ⟨cell, q1, q2, q3, -⟩ := (W0.1.2 b).1 ci rr hk hc
  exact ⟨cell, q1, by rw [q3]; rfl, by rw [q2, ← hy]; exact (C0.2.2.2.2.2.1.1.1 ci rr hc).2.1⟩
theorem gK_of {X : XW} {a ci : Nat} {u : Unit} (h : gK X a ci = some u) : xKd X a = ci + 1 := by
  unfold gK at h
  split at h
  · assumption
  · cases h
theorem xr_V (C0 : XC p s m args meth c own cc nL G) (W0 : XD G X0 X s H locs) (hM : XM l G y bytes maxL ret fr lo mc ms (.ref b :: As) X r) {rr : vw_C} (hk : xKd X b = ci + 1) (hc : vwCl[ci]? = some rr) (hy : rr.1 = y.cls) (hw : XMc y bytes maxL ret n) (hv : XMv y) (hl : Cond.methodLink own idx y ∈ xws) (hR : fr + 1 ≤ R.frames ∧ 8 + (maxL + 11) + lo ≤ R.locals) (hn : As.length = n) (hls : ls.size = nL) (hst : st0 = As.reverse ++ .ref b :: rest) (hr : (rest.map fun v => v.category).sum ≤ 8) (hf : cells + mc ≤ R.cells ∧ slots + ms ≤ R.slots) (hdg : decode cc pc = .ok (.invokevirtual idx, 3))
    (kk : ∀ (H1 : Heap) (locs1 : List Loc), XD G X0 r.2 s H1 locs1 → W p l e R s m args below meth c H1 locs1 (cells + mc) (slots + ms) Q (F0 m (pc + 3) ls (r.1.toList ++ rest))) : W p l e R s m args below meth c H locs cells slots Q (F0 m pc ls st0) :=
  xr_go (va_runV (As := As) (rest := rest) (b := b) ⟨C0.1, C0.2.1, C0.2.2.1, C0.2.2.2.1, C0.2.2.2.2.1⟩ hM ⟨xcb C0 hw hl hR, C0.2.2.2.2.1 _ hv.1, C0.2.2.2.2.1 _ hv.2⟩ ⟨xblind, xrecv C0 W0 hk hc hy, xpre W0 C0.2.2.2.2.2.1 _⟩ rfl hn hls hst (lv_room hr) hdg hf) W0 kk
theorem xr_S (C0 : XC p s m args meth c own cc nL G) (W0 : XD G X0 X s H locs) (hM : XM l G y bytes maxL ret fr lo mc ms As X r) (hw : XMc y bytes maxL ret n) (hv : Cond.static y ∈ xws) (hl : Cond.methodLink own idx y ∈ xws) (hR : fr + 1 ≤ R.frames ∧ 8 + (maxL + 11) + lo ≤ R.locals) (hn : As.length = n) (hls : ls.size = nL) (hst : st0 = As.reverse ++ rest) (hr : (rest.map fun v => v.category).sum ≤ 8) (hf : cells + mc ≤ R.cells ∧ slots + ms ≤ R.slots) (hdg : decode cc pc = .ok (.invokestatic idx, 3))
    (kk : ∀ (H1 : Heap) (locs1 : List Loc), XD G X0 r.2 s H1 locs1 → W p l e R s m args below meth c H1 locs1 (cells + mc) (slots + ms) Q (F0 m (pc + 3) ls (r.1.toList ++ rest))) : W p l e R s m args below meth c H locs cells slots Q (F0 m pc ls st0) :=
  xr_go (va_runS (As := As) (rest := rest) ⟨C0.1, C0.2.1, C0.2.2.1, C0.2.2.2.1, C0.2.2.2.2.1⟩ hM ⟨xcb C0 hw hl hR, C0.2.2.2.2.1 _ hv⟩ ⟨xblind, xpre W0 C0.2.2.2.2.2.1 _⟩ rfl hn hls hst (lv_room hr) hdg hf) W0 kk
theorem xr_I (C0 : XC p s m args meth c own cc nL G) (W0 : XD G X0 X s H locs) (hM : XM l G y bytes maxL none fr lo mc ms (.ref b :: As) X r) (hw : XMc y bytes maxL none n) (hv : y.name = "<init>" ∧ Cond.instanceMethod y ∈ xws) (hl : Cond.methodLink own idx y ∈ xws) (hR : fr + 1 ≤ R.frames ∧ 8 + (maxL + 11) + lo ≤ R.locals) (hn : As.length = n) (hls : ls.size = nL) (hst : st0 = As.reverse ++ .ref b :: rest) (hr : (rest.map fun v => v.category).sum ≤ 8) (hf : cells + mc ≤ R.cells ∧ slots + ms ≤ R.slots) (hdg : decode cc pc = .ok (.invokespecial idx, 3))
    (kk : ∀ (H1 : Heap) (locs1 : List Loc), XD G X0 r.2 s H1 locs1 → W p l e R s m args below meth c H1 locs1 (cells + mc) (slots + ms) Q (F0 m (pc + 3) ls (r.1.toList ++ rest))) : W p l e R s m args below meth c H locs cells slots Q (F0 m pc ls st0) :=
  xr_go (va_runI (As := As) (rest := rest) (b := b) ⟨C0.1, C0.2.1, C0.2.2.1, C0.2.2.2.1, C0.2.2.2.2.1⟩ hM ⟨xcb C0 hw hl hR, hv.1, C0.2.2.2.2.1 _ hv.2⟩ ⟨xblind, xpre W0 C0.2.2.2.2.2.1 _⟩ rfl hn hls hst (lv_room hr) hdg hf) W0 kk
theorem xcn (C0 : XC p s m args meth c own cc nL G) (hc : XMc y bytes maxL ret n) (hl : va_Nw (.methodLinkNest own idx y host) s) (hR : fr + 1 ≤ R.frames ∧ 8 + (maxL + 11) + lo ≤ R.locals) : va_CN R s args own idx y host bytes maxL ret (.code y bytes maxL ret :: xws) { frames := fr, cells := mc, slots := ms, locals := lo } mc ms n :=
  va_cnB n C0.2.2.2.2.1 (xws_gi (cc2 := bytes) (n2 := n) (r2 := ret) (y2 := y) hc.1) rfl rfl rfl hl (C0.2.2.2.2.1 _ hc.2.1) hc.2.2 hR
theorem xr_SN (C0 : XC p s m args meth c own cc nL G) (W0 : XD G X0 X s H locs) (hM : XM l G y bytes maxL ret fr lo mc ms As X r) (hw : XMc y bytes maxL ret n) (hv : Cond.static y ∈ xws) (hl : va_Nw (.methodLinkNest own idx y host) s) (hR : fr + 1 ≤ R.frames ∧ 8 + (maxL + 11) + lo ≤ R.locals) (hn : As.length = n) (hls : ls.size = nL) (hst : st0 = As.reverse ++ rest) (hr : (rest.map fun v => v.category).sum ≤ 8) (hf : cells + mc ≤ R.cells ∧ slots + ms ≤ R.slots) (hdg : decode cc pc = .ok (.invokestatic idx, 3))
    (kk : ∀ (H1 : Heap) (locs1 : List Loc), XD G X0 r.2 s H1 locs1 → W p l e R s m args below meth c H1 locs1 (cells + mc) (slots + ms) Q (F0 m (pc + 3) ls (r.1.toList ++ rest))) : W p l e R s m args below meth c H locs cells slots Q (F0 m pc ls st0) :=
  xr_go (va_runSN (As := As) (rest := rest) ⟨C0.1, C0.2.1, C0.2.2.1, C0.2.2.2.1, C0.2.2.2.2.1⟩ hM ⟨xcn C0 hw hl hR, C0.2.2.2.2.1 _ hv, trivial⟩ ⟨xblind, xpre W0 C0.2.2.2.2.2.1 _⟩ rfl hn hls hst (lv_room hr) hdg hf) W0 kk
theorem xr_IN (C0 : XC p s m args meth c own cc nL G) (W0 : XD G X0 X s H locs) (hM : XM l G y bytes maxL none fr lo mc ms (.ref b :: As) X r) (hw : XMc y bytes maxL none n) (hv : y.name = "<init>" ∧ Cond.instanceMethod y ∈ xws) (hl : va_Nw (.methodLinkNest own idx y host) s) (hR : fr + 1 ≤ R.frames ∧ 8 + (maxL + 11) + lo ≤ R.locals) (hn : As.length = n) (hls : ls.size = nL) (hst : st0 = As.reverse ++ .ref b :: rest) (hr : (rest.map fun v => v.category).sum ≤ 8) (hf : cells + mc ≤ R.cells ∧ slots + ms ≤ R.slots) (hdg : decode cc pc = .ok (.invokespecial idx, 3))
    (kk : ∀ (H1 : Heap) (locs1 : List Loc), XD G X0 r.2 s H1 locs1 → W p l e R s m args below meth c H1 locs1 (cells + mc) (slots + ms) Q (F0 m (pc + 3) ls (r.1.toList ++ rest))) : W p l e R s m args below meth c H locs cells slots Q (F0 m pc ls st0) :=
  xr_go (va_runIN (As := As) (rest := rest) (b := b) ⟨C0.1, C0.2.1, C0.2.2.1, C0.2.2.2.1, C0.2.2.2.2.1⟩ hM ⟨xcn C0 hw hl hR, hv.1, C0.2.2.2.2.1 _ hv.2⟩ ⟨xblind, xpre W0 C0.2.2.2.2.2.1 _⟩ rfl hn hls hst (lv_room hr) hdg hf) W0 kk
theorem xr_new (C0 : XC p s m args meth c own cc nL G) (W0 : XD G X0 X s H locs) {C : String} {T : u_T} {N : Nat} {ty : Nat → FieldType} (hc : XCl ci C T N ty) (hci : ci < 11) (hdf : ∀ k, k < N → defaultValue (ty k) = if xfr ci k = true then .null else .int 0) (hcl : Cond.classLink own idx C ∈ xws) (hinst : Cond.instantiable C N ∈ xws) (hini : Cond.initialized C ∈ xws) (hcells : cells + 1 ≤ R.cells) (hslots : slots + N ≤ R.slots) (hdg : decode cc pc = .ok (.new idx, 3))
    (kk : ∀ (H1 : Heap), XD G X0 (nO X ci).2 s H1 locs → W p l e R s m args below meth c H1 locs (cells + 1) (slots + N) Q (F0 m (pc + 3) ls (.ref (nO X ci).1 :: rest))) : W p l e R s m args below meth c H locs cells slots Q (F0 m pc ls rest) := by
  obtain ⟨hx, hb, -, hown, hts, hK, -⟩ := C0
  obtain ⟨hc1, hc2, hc3, hc4⟩ := hc
  have hKn := hK.1.1 ci _ hc1
  have hX1 : X.1 = H.size := W0.1.1.symm
  refine W.newcK hx hb hown (hts _ hcl) (hts _ hinst) (hts _ hini) rfl hdg hcells hslots hKn.2.1 rfl fun H1 kC hkC e1 z1 o1 => ?_
  have hk := kk H1 (XD.fresh (kd := ci + 1) (len := 0) W0 z1 o1 ⟨fun ci' r' h1 h2 => ?_, fun t h1 => ?_, fun _ => by omega⟩)
  · rw [show (nO X ci).1 = H.size from hX1] at hk
    exact hk
  · have hkd : xKd (wN X (ci + 1) 0) H.size = ci + 1 := by
      show (if H.size = X.1 then (ci + 1, 0) else X.2.1 H.size).1 = ci + 1
      rw [if_pos hX1.symm]
    have hci' : ci' = ci := by omega
    subst hci'
    cases hc1.symm.trans h2
    refine (u_born ty hts hc2 hKn hkC e1 hc3).to (fun k hk => ?_)
    rw [hdf k hk]
    unfold xval xR xI wN
    dsimp only [x1]
    rw [if_pos hX1.symm, if_pos hX1.symm]
    rfl
  · have hkd : xKd (wN X (ci + 1) 0) H.size = ci + 1 := by
      show (if H.size = X.1 then (ci + 1, 0) else X.2.1 H.size).1 = ci + 1
      rw [if_pos hX1.symm]
    omega
theorem xr_vret {X' : XW} (C0 : XC p s m args meth c own cc nL G) (W0 : XD G X0 X s H locs) (hr : meth.sig.returnType = none) (hX : X' = X) (hdg : decode cc pc = .ok (.return_, 1)) : W p l e R s m args below meth c H locs cells slots (MQ below (XQ G X0 (none, X')) args s cells slots (xAd X0)) (F0 m pc ls []) := by
  subst hX
  exact W.vret C0.1 C0.2.1 hr (fun t ht hW => ⟨rfl, by rw [ht]; exact W0.1, W0.2.1, W0.2.2.1.F ht⟩) W0.2.2.1.2.2 hdg C0.2.2.2.2.2.2
theorem xr_iret {r : Int32 × XW} {v : Int32} (C0 : XC p s m args meth c own cc nL G) (W0 : XD G X0 X s H locs) (hr : meth.sig.returnType = some .int) (hX : (v, X) = r) (hdg : decode cc pc = .ok (.ireturn, 1)) : W p l e R s m args below meth c H locs cells slots (MQ below (XQ G X0 (some (.int r.1), r.2)) args s cells slots (xAd X0)) (F0 m pc ls [.int v]) := by
  subst hX
  exact W.iret C0.1 C0.2.1 hr (fun t ht hW => ⟨rfl, by rw [ht]; exact W0.1, W0.2.1, W0.2.2.1.F ht⟩) W0.2.2.1.2.2 hdg C0.2.2.2.2.2.2
theorem xr_zret {r : Int32 × XW} {v : Int32} (C0 : XC p s m args meth c own cc nL G) (W0 : XD G X0 X s H locs) (hr : meth.sig.returnType = some .boolean) (h01 : v = 0 ∨ v = 1) (hX : (v, X) = r) (hdg : decode cc pc = .ok (.ireturn, 1)) : W p l e R s m args below meth c H locs cells slots (MQ below (XQ G X0 (some (.int r.1), r.2)) args s cells slots (xAd X0)) (F0 m pc ls [.int v]) := by
  subst hX
  exact W.zret C0.1 C0.2.1 hr (by rcases h01 with rfl | rfl <;> decide) (fun t ht hW => ⟨rfl, by rw [ht]; exact W0.1, W0.2.1, W0.2.2.1.F ht⟩) W0.2.2.1.2.2 hdg C0.2.2.2.2.2.2
theorem xr_aret {r : Nat × XW} {v : Nat} {rt : String} (C0 : XC p s m args meth c own cc nL G) (W0 : XD G X0 X s H locs) (hr : meth.sig.returnType = some (.object rt)) (hX : (v, X) = r) (hdg : decode cc pc = .ok (.areturn, 1)) : W p l e R s m args below meth c H locs cells slots (MQ below (XQ G X0 (some (.ref r.1), r.2)) args s cells slots (xAd X0)) (F0 m pc ls [.ref v]) := by
  subst hX
  exact W.aret C0.1 C0.2.1 hr (Or.inl ⟨_, rfl⟩) (Or.inr ⟨_, rfl⟩) (fun t ht hW => ⟨rfl, by rw [ht]; exact W0.1, W0.2.1, W0.2.2.1.F ht⟩) W0.2.2.1.2.2 hdg C0.2.2.2.2.2.2
end XR3
theorem xm_of {l : Launch} {G : XG} {y : MethodName} {cc : ByteArray} {maxL : Nat} {ret : Option FieldType} {fr lo mc ms : Nat} {As : List Value} {X : XW} {r : Option Value × XW} {own : String} (hy : plainName y.cls = true) (hown : y.cls = own) (hl : (lg_sl As).length ≤ maxL)
    (body : ∀ (p : Program) (e : Env) (s : State) (m : MethodId) (below : List Frame) (meth : Method) (c : Code) (ls : Array Slot), XC p s m As.toArray meth c own cc maxL G → XD G X X s s.heap [] → meth.sig.returnType = ret → meth.name = y.name → lv_has ls maxL (lv_args 0 As) →
      W p l e { frames := fr, cells := mc, slots := ms, locals := lo } s m As.toArray below meth c s.heap [] 0 0 (MQ below (XQ G X r) As.toArray s mc ms (xAd X)) (F0 m 0 ls [])) : XM l G y cc maxL ret fr lo mc ms As X r := by
  refine Met.ofW (cc := cc) (maxL := maxL) (ret := ret) hy rfl ?_
  intro p e s m args below meth c s₁ B hml hv
  obtain ⟨rfl, hw, hk, hst⟩ := hv
  have hts := atoms_spec (ws := .code y cc maxL ret :: xws) B.pre
  have hl' := lv_entry As (n := maxL) hl
  rw [lg_entry_eq]
  exact body p e s m below meth c _ ⟨B.exec, B.bytes, hml, by rw [← hown]; exact findClass_of_methodNamed B.named, fun w h => hts w (List.mem_cons_of_mem _ h), hk, B.notSynchronized⟩ ⟨hw, fun a ha => Or.inl ha, va_S.rf, hw.1.symm, hst⟩ B.returns (name_of_methodNamed B.named B.method).1 hl'
end
section
def iter {α : Type} (b : α → α) (z : α) : Nat → α
  | 0 => z
  | n + 1 => b (iter b z n)
def FU : Nat := 5000
theorem it_t {α : Type} {c : Prop} [Decidable c] {A B : Option α} {r : α} (hc : c) (h : (if c then A else B) = some r) : A = some r := by rwa [if_pos hc] at h
theorem it_f {α : Type} {c : Prop} [Decidable c] {A B : Option α} {r : α} (hc : ¬ c) (h : (if c then A else B) = some r) : B = some r := by rwa [if_neg hc] at h
theorem ii {x : Int32} {n : Int} {k : Int32} (h : Int32.ofInt n = k) : x + Int32.ofInt n = x + k := by rw [h]
def zG (v : Int32) : Option Unit := if v = 0 ∨ v = 1 then some () else none
theorem zG_of {v : Int32} {u : Unit} (h : zG v = some u) : v = 0 ∨ v = 1 := by
  unfold zG at h
  split at h
  · assumption
  · cases h
theorem xoi1 : Cond.instanceMethod objectInit ∈ xws := xws_t 30 (by decide +kernel) rfl
theorem xoi2 : Cond.code objectInit ⟨#[0xb1]⟩ 1 none ∈ xws := xws_t 31 (by decide +kernel) rfl
theorem xnw_i {G : XG} {X : XW} {N t : Nat} (ht : t = 0 ∨ t = 1 ∨ t = 3) : arrV (G.2.2.1 t) N (fun _ => .int 0) = vp_cell (G.2.2.1 t) (xarr (wN X (20 + t) N) X.1 t) := by
  rw [xarr_i ht, vp_cell_i]
  simp [xA, xLn, wN, x1]
theorem nw_byte {G : XG} {X : XW} {N : Nat} : arrV (G.2.2.1 0) N (fun _ => .int 0) = vp_cell (G.2.2.1 0) (xarr (wN X 20 N) X.1 0) := xnw_i (Or.inl rfl)
theorem nw_int {G : XG} {X : XW} {N : Nat} : arrV (G.2.2.1 1) N (fun _ => .int 0) = vp_cell (G.2.2.1 1) (xarr (wN X 21 N) X.1 1) := xnw_i (Or.inr (Or.inl rfl))
theorem nw_boolean {G : XG} {X : XW} {N : Nat} : arrV (G.2.2.1 3) N (fun _ => .int 0) = vp_cell (G.2.2.1 3) (xarr (wN X 23 N) X.1 3) := xnw_i (Or.inr (Or.inr rfl))
theorem nw_long {G : XG} {X : XW} {N : Nat} : arrV (G.2.2.1 2) N (fun _ => .long 0) = vp_cell (G.2.2.1 2) (xarr (wN X 22 N) X.1 2) := by
  rw [xarr_l, vp_cell_l]
  simp [xL, xLn, wN, x1]
def iMx (x y : Int32) : Int32 := if x < y then y else x
def iMn (x y : Int32) : Int32 := if y < x then y else x
def iAb (x : Int32) : Int32 := if 0 ≤ x then x else 0 - x
def sA (n : Nat) (i : Int32) : Option Int32 := if ¬ (i < 0 ∨ 3 ≤ i.toNatClampNeg) then some (xsv n i.toNatClampNeg) else none
section XR4
variable {p : Program} {l : Launch} {e : Env} {R : Room} {s : State} {m : MethodId} {args : Array Value} {below : List Frame} {meth : Method} {c : Code} {H : Heap} {locs : List Loc} {cells slots : Nat} {Q : State → Prop}
variable {own : String} {cc : ByteArray} {nL : Nat} {G : XG} {X0 X : XW} {pc : Nat} {ls : Array Slot} {rest : List Value} {idx : Nat}
theorem xr_idiv (C0 : XC p s m args meth c own cc nL G) {x y v : Int32} (hg : iD x y = some v) (hdg : decode cc pc = .ok (.idiv, 1)) (kk : W p l e R s m args below meth c H locs cells slots Q (F0 m (pc + 1) ls (.int v :: rest))) : W p l e R s m args below meth c H locs cells slots Q (F0 m pc ls (.int y :: .int x :: rest)) := by
  unfold iD at hg
  split at hg
  · cases hg
  · cases hg; exact lv_idiv C0.1 C0.2.1 hdg (by assumption) kk
theorem xr_irem (C0 : XC p s m args meth c own cc nL G) {x y v : Int32} (hg : iM x y = some v) (hdg : decode cc pc = .ok (.irem, 1)) (kk : W p l e R s m args below meth c H locs cells slots Q (F0 m (pc + 1) ls (.int v :: rest))) : W p l e R s m args below meth c H locs cells slots Q (F0 m pc ls (.int y :: .int x :: rest)) := by
  unfold iM at hg
  split at hg
  · cases hg
  · cases hg; exact lv_irem C0.1 C0.2.1 hdg (by assumption) kk
theorem xr_mmax (C0 : XC p s m args meth c own cc nL G) (hls : ls.size = nL) (hl : Cond.methodLink own idx Lib.Math.max.name ∈ xws) (hf : 1 ≤ R.frames) (ho : (rest.map fun v => v.category).sum + 13 ≤ R.locals) (hc : cells ≤ R.cells) (hs : slots ≤ R.slots) {x y : Int32} (hdg : decode cc pc = .ok (.invokestatic idx, 3))
    (kk : W p l e R s m args below meth c H locs cells slots Q (F0 m (pc + 3) ls (.int (iMx x y) :: rest))) : W p l e R s m args below meth c H locs cells slots Q (F0 m pc ls (.int y :: .int x :: rest)) :=
  va_mmax C0.1 C0.2.1 (by rw [hls]; exact C0.2.2.1) C0.2.2.2.1 (C0.2.2.2.2.1 _ hl) (C0.2.2.2.2.1 _ (xws_t 208 (by decide +kernel) rfl)) (C0.2.2.2.2.1 _ (xws_t 10 (by decide +kernel) rfl)) (C0.2.2.2.2.1 _ (xws_t 209 (by decide +kernel) rfl)) hf ho hc hs hdg kk
theorem xr_mmin (C0 : XC p s m args meth c own cc nL G) (hls : ls.size = nL) (hl : Cond.methodLink own idx Lib.Math.min.name ∈ xws) (hf : 1 ≤ R.frames) (ho : (rest.map fun v => v.category).sum + 13 ≤ R.locals) (hc : cells ≤ R.cells) (hs : slots ≤ R.slots) {x y : Int32} (hdg : decode cc pc = .ok (.invokestatic idx, 3))
    (kk : W p l e R s m args below meth c H locs cells slots Q (F0 m (pc + 3) ls (.int (iMn x y) :: rest))) : W p l e R s m args below meth c H locs cells slots Q (F0 m pc ls (.int y :: .int x :: rest)) :=
  va_mmin C0.1 C0.2.1 (by rw [hls]; exact C0.2.2.1) C0.2.2.2.1 (C0.2.2.2.2.1 _ hl) (C0.2.2.2.2.1 _ (xws_t 518 (by decide +kernel) rfl)) (C0.2.2.2.2.1 _ (xws_t 10 (by decide +kernel) rfl)) (C0.2.2.2.2.1 _ (xws_t 519 (by decide +kernel) rfl)) hf ho hc hs hdg kk
theorem xr_mabs (C0 : XC p s m args meth c own cc nL G) (hls : ls.size = nL) (hl : Cond.methodLink own idx Lib.Math.abs.name ∈ xws) (hf : 1 ≤ R.frames) (ho : (rest.map fun v => v.category).sum + 13 ≤ R.locals) (hc : cells ≤ R.cells) (hs : slots ≤ R.slots) {x : Int32} (hdg : decode cc pc = .ok (.invokestatic idx, 3))
    (kk : W p l e R s m args below meth c H locs cells slots Q (F0 m (pc + 3) ls (.int (iAb x) :: rest))) : W p l e R s m args below meth c H locs cells slots Q (F0 m pc ls (.int x :: rest)) :=
  va_mabs C0.1 C0.2.1 (by rw [hls]; exact C0.2.2.1) C0.2.2.2.1 (C0.2.2.2.2.1 _ hl) (C0.2.2.2.2.1 _ (xws_t 690 (by decide +kernel) rfl)) (C0.2.2.2.2.1 _ (xws_t 10 (by decide +kernel) rfl)) (C0.2.2.2.2.1 _ (xws_t 691 (by decide +kernel) rfl)) hf ho hc hs hdg kk
theorem xr_gets (C0 : XC p s m args meth c own cc nL G) (W0 : XD G X0 X s H locs) (n : Nat) (hn : n < 5) (hl : Cond.fieldLink own idx "VoiceShaper" (xsn n) "[I" ∈ xws) (hdg : decode cc pc = .ok (.getstatic idx, 3))
    (kk : W p l e R s m args below meth c H locs cells slots Q (F0 m (pc + 3) ls (.ref (G.2.2.2 n) :: rest))) : W p l e R s m args below meth c H locs cells slots Q (F0 m pc ls rest) :=
  va_gets C0.1 C0.2.1 (W0.2.2.2.2.1 n hn).1 W0.2.2.1 C0.2.2.2.1 (C0.2.2.2.2.1 _ hl) (fun _ h => h) hdg kk
theorem xr_getsN (C0 : XC p s m args meth c own cc nL G) (W0 : XD G X0 X s H locs) (n : Nat) (hn : n < 5) {host : String} (hl : va_Nw (.fieldLinkNest own idx "VoiceShaper" (xsn n) "[I" host) s) (hdg : decode cc pc = .ok (.getstatic idx, 3))
    (kk : W p l e R s m args below meth c H locs cells slots Q (F0 m (pc + 3) ls (.ref (G.2.2.2 n) :: rest))) : W p l e R s m args below meth c H locs cells slots Q (F0 m pc ls rest) :=
  va_getsN C0.1 C0.2.1 (W0.2.2.2.2.1 n hn).1 W0.2.2.1 C0.2.2.2.1 (va_Nw.use rfl hl) (fun _ h => h) hdg kk
theorem xr_sald (C0 : XC p s m args meth c own cc nL G) (W0 : XD G X0 X s H locs) (n : Nat) (hn : n < 5) {i v : Int32} (hg : sA n i = some v) (hdg : decode cc pc = .ok (.iaload, 1))
    (kk : W p l e R s m args below meth c H locs cells slots Q (F0 m (pc + 1) ls (.int v :: rest))) : W p l e R s m args below meth c H locs cells slots Q (F0 m pc ls (.int i :: .ref (G.2.2.2 n) :: rest)) := by
  unfold sA at hg
  split at hg
  · cases hg
    exact va_ti C0.1 C0.2.1 (W0.2.2.2.2.1 n hn).2 W0.2.2.1 (by assumption) rfl hdg kk
  · cases hg
end XR4
end
