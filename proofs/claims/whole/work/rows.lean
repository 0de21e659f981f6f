section
-- ===== PART A: goes FIRST, ahead of the names: the tables' words, and 'selects' of the private methods out of them =====
/-- a private method of a class that the tables say can be made, by its rows of tables_1 -/
def lw_okq (q : MethodName × Nat) : Prop := (q.1.cls ≠ "java/lang/invoke/MethodHandle" ∧ q.1.cls ≠ "java/lang/invoke/VarHandle") ∧ Cond.instantiable q.1.cls q.2 ∈ tables_1 ∧ Cond.privateMethod q.1 ∈ tables_1 ∧ Cond.instanceMethod q.1 ∈ tables_1
theorem lw_p0 : lw_okq (⟨"SamplePacks$FramePacker", "mixChannels", "()V"⟩, 9) := ⟨⟨by decide +kernel, by decide +kernel⟩, List.mem_of_getElem? (i := 84) (by decide +kernel), List.mem_of_getElem? (i := 429) (by decide +kernel), List.mem_of_getElem? (i := 430) (by decide +kernel)⟩
theorem lw_p1 : lw_okq (⟨"SamplePacks$RowChooser", "weighForetold", "(I)I"⟩, 5) := ⟨⟨by decide +kernel, by decide +kernel⟩, List.mem_of_getElem? (i := 135) (by decide +kernel), List.mem_of_getElem? (i := 459) (by decide +kernel), List.mem_of_getElem? (i := 460) (by decide +kernel)⟩
theorem lw_p2 : lw_okq (⟨"SamplePacks$PartChooser", "tally", "(II)V"⟩, 7) := ⟨⟨by decide +kernel, by decide +kernel⟩, List.mem_of_getElem? (i := 168) (by decide +kernel), List.mem_of_getElem? (i := 495) (by decide +kernel), List.mem_of_getElem? (i := 496) (by decide +kernel)⟩
theorem lw_p3 : lw_okq (⟨"SamplePacks$PartChooser", "weighPart", "(II)I"⟩, 7) := ⟨⟨by decide +kernel, by decide +kernel⟩, List.mem_of_getElem? (i := 168) (by decide +kernel), List.mem_of_getElem? (i := 503) (by decide +kernel), List.mem_of_getElem? (i := 504) (by decide +kernel)⟩
theorem lw_p4 : lw_okq (⟨"SamplePacks$PartChooser", "joinPairs", "(I)V"⟩, 7) := ⟨⟨by decide +kernel, by decide +kernel⟩, List.mem_of_getElem? (i := 168) (by decide +kernel), List.mem_of_getElem? (i := 515) (by decide +kernel), List.mem_of_getElem? (i := 516) (by decide +kernel)⟩
theorem lw_p5 : lw_okq (⟨"SamplePacks$FramePacker", "chooseTurn", "()V"⟩, 9) := ⟨⟨by decide +kernel, by decide +kernel⟩, List.mem_of_getElem? (i := 84) (by decide +kernel), List.mem_of_getElem? (i := 524) (by decide +kernel), List.mem_of_getElem? (i := 525) (by decide +kernel)⟩
theorem lw_p6 : lw_okq (⟨"SamplePacks$BitStream", "writeBit", "(I)V"⟩, 4) := ⟨⟨by decide +kernel, by decide +kernel⟩, List.mem_of_getElem? (i := 61) (by decide +kernel), List.mem_of_getElem? (i := 547) (by decide +kernel), List.mem_of_getElem? (i := 548) (by decide +kernel)⟩
theorem lw_p7 : lw_okq (⟨"SamplePacks$FramePacker", "writeRow", "(I)V"⟩, 9) := ⟨⟨by decide +kernel, by decide +kernel⟩, List.mem_of_getElem? (i := 84) (by decide +kernel), List.mem_of_getElem? (i := 551) (by decide +kernel), List.mem_of_getElem? (i := 552) (by decide +kernel)⟩
theorem lw_p8 : lw_okq (⟨"SamplePacks$FramePacker", "writeValues", "(I)V"⟩, 9) := ⟨⟨by decide +kernel, by decide +kernel⟩, List.mem_of_getElem? (i := 84) (by decide +kernel), List.mem_of_getElem? (i := 556) (by decide +kernel), List.mem_of_getElem? (i := 557) (by decide +kernel)⟩
theorem lw_p9 : lw_okq (⟨"SamplePacks$FramePacker", "writeForetold", "(LSamplePacks$RowForm;)V"⟩, 9) := ⟨⟨by decide +kernel, by decide +kernel⟩, List.mem_of_getElem? (i := 84) (by decide +kernel), List.mem_of_getElem? (i := 560) (by decide +kernel), List.mem_of_getElem? (i := 561) (by decide +kernel)⟩
theorem lw_p10 : lw_okq (⟨"SamplePacks$FramePacker", "writeRests", "(LSamplePacks$Foretelling;IIII)V"⟩, 9) := ⟨⟨by decide +kernel, by decide +kernel⟩, List.mem_of_getElem? (i := 84) (by decide +kernel), List.mem_of_getElem? (i := 569) (by decide +kernel), List.mem_of_getElem? (i := 570) (by decide +kernel)⟩
theorem lw_p11 : lw_okq (⟨"SamplePacks$FrameReader", "readHead", "(LSamplePacks$OpenedFrame;)V"⟩, 2) := ⟨⟨by decide +kernel, by decide +kernel⟩, List.mem_of_getElem? (i := 286) (by decide +kernel), List.mem_of_getElem? (i := 658) (by decide +kernel), List.mem_of_getElem? (i := 659) (by decide +kernel)⟩
theorem lw_p12 : lw_okq (⟨"SamplePacks$RowReader", "fillRow", "([II)V"⟩, 4) := ⟨⟨by decide +kernel, by decide +kernel⟩, List.mem_of_getElem? (i := 292) (by decide +kernel), List.mem_of_getElem? (i := 685) (by decide +kernel), List.mem_of_getElem? (i := 686) (by decide +kernel)⟩
theorem lw_p13 : lw_okq (⟨"SamplePacks$RowReader", "readValues", "([II)V"⟩, 4) := ⟨⟨by decide +kernel, by decide +kernel⟩, List.mem_of_getElem? (i := 292) (by decide +kernel), List.mem_of_getElem? (i := 689) (by decide +kernel), List.mem_of_getElem? (i := 690) (by decide +kernel)⟩
theorem lw_p14 : lw_okq (⟨"SamplePacks$RowReader", "readForetold", "([II)V"⟩, 4) := ⟨⟨by decide +kernel, by decide +kernel⟩, List.mem_of_getElem? (i := 292) (by decide +kernel), List.mem_of_getElem? (i := 693) (by decide +kernel), List.mem_of_getElem? (i := 694) (by decide +kernel)⟩
theorem lw_p15 : lw_okq (⟨"SamplePacks$RowReader", "readCoefficients", "(I)V"⟩, 4) := ⟨⟨by decide +kernel, by decide +kernel⟩, List.mem_of_getElem? (i := 292) (by decide +kernel), List.mem_of_getElem? (i := 697) (by decide +kernel), List.mem_of_getElem? (i := 698) (by decide +kernel)⟩
def lw_privs_1 : List (MethodName × Nat) := [(⟨"SamplePacks$FramePacker", "mixChannels", "()V"⟩, 9), (⟨"SamplePacks$RowChooser", "weighForetold", "(I)I"⟩, 5), (⟨"SamplePacks$PartChooser", "tally", "(II)V"⟩, 7), (⟨"SamplePacks$PartChooser", "weighPart", "(II)I"⟩, 7), (⟨"SamplePacks$PartChooser", "joinPairs", "(I)V"⟩, 7), (⟨"SamplePacks$FramePacker", "chooseTurn", "()V"⟩, 9), (⟨"SamplePacks$BitStream", "writeBit", "(I)V"⟩, 4), (⟨"SamplePacks$FramePacker", "writeRow", "(I)V"⟩, 9), (⟨"SamplePacks$FramePacker", "writeValues", "(I)V"⟩, 9), (⟨"SamplePacks$FramePacker", "writeForetold", "(LSamplePacks$RowForm;)V"⟩, 9), (⟨"SamplePacks$FramePacker", "writeRests", "(LSamplePacks$Foretelling;IIII)V"⟩, 9), (⟨"SamplePacks$FrameReader", "readHead", "(LSamplePacks$OpenedFrame;)V"⟩, 2), (⟨"SamplePacks$RowReader", "fillRow", "([II)V"⟩, 4), (⟨"SamplePacks$RowReader", "readValues", "([II)V"⟩, 4), (⟨"SamplePacks$RowReader", "readForetold", "([II)V"⟩, 4), (⟨"SamplePacks$RowReader", "readCoefficients", "(I)V"⟩, 4)]
theorem lw_r1 : ∀ q ∈ lw_privs_1, lw_okq q := List.forall_mem_cons.mpr ⟨lw_p0, List.forall_mem_cons.mpr ⟨lw_p1, List.forall_mem_cons.mpr ⟨lw_p2, List.forall_mem_cons.mpr ⟨lw_p3, List.forall_mem_cons.mpr ⟨lw_p4, List.forall_mem_cons.mpr ⟨lw_p5, List.forall_mem_cons.mpr ⟨lw_p6, List.forall_mem_cons.mpr ⟨lw_p7, List.forall_mem_cons.mpr ⟨lw_p8, List.forall_mem_cons.mpr ⟨lw_p9, List.forall_mem_cons.mpr ⟨lw_p10, List.forall_mem_cons.mpr ⟨lw_p11, List.forall_mem_cons.mpr ⟨lw_p12, List.forall_mem_cons.mpr ⟨lw_p13, List.forall_mem_cons.mpr ⟨lw_p14, List.forall_mem_cons.mpr ⟨lw_p15, fun _ h => absurd h List.not_mem_nil⟩⟩⟩⟩⟩⟩⟩⟩⟩⟩⟩⟩⟩⟩⟩⟩
theorem lw_p16 : lw_okq (⟨"SamplePacks$RowReader", "readPart", "([III)V"⟩, 4) := ⟨⟨by decide +kernel, by decide +kernel⟩, List.mem_of_getElem? (i := 292) (by decide +kernel), List.mem_of_getElem? (i := 703) (by decide +kernel), List.mem_of_getElem? (i := 704) (by decide +kernel)⟩
theorem lw_p17 : lw_okq (⟨"SamplePacks$FrameReader", "readEnd", "(ILSamplePacks$OpenedFrame;)V"⟩, 2) := ⟨⟨by decide +kernel, by decide +kernel⟩, List.mem_of_getElem? (i := 286) (by decide +kernel), List.mem_of_getElem? (i := 715) (by decide +kernel), List.mem_of_getElem? (i := 716) (by decide +kernel)⟩
theorem lw_p18 : lw_okq (⟨"java/lang/Throwable", "fillInStackTrace", "(I)Ljava/lang/Throwable;"⟩, 6) := ⟨⟨by decide +kernel, by decide +kernel⟩, List.mem_of_getElem? (i := 771) (by decide +kernel), List.mem_of_getElem? (i := 769) (by decide +kernel), List.mem_of_getElem? (i := 770) (by decide +kernel)⟩
theorem lw_p19 : lw_okq (⟨"SamplePacksModel", "valuesOf", "(II)V"⟩, 38) := ⟨⟨by decide +kernel, by decide +kernel⟩, List.mem_of_getElem? (i := 828) (by decide +kernel), List.mem_of_getElem? (i := 979) (by decide +kernel), List.mem_of_getElem? (i := 980) (by decide +kernel)⟩
theorem lw_p20 : lw_okq (⟨"SamplePacksModel", "takeOut", "(I)V"⟩, 38) := ⟨⟨by decide +kernel, by decide +kernel⟩, List.mem_of_getElem? (i := 828) (by decide +kernel), List.mem_of_getElem? (i := 983) (by decide +kernel), List.mem_of_getElem? (i := 984) (by decide +kernel)⟩
theorem lw_p21 : lw_okq (⟨"SamplePacksModel", "bestKind", "()I"⟩, 38) := ⟨⟨by decide +kernel, by decide +kernel⟩, List.mem_of_getElem? (i := 828) (by decide +kernel), List.mem_of_getElem? (i := 987) (by decide +kernel), List.mem_of_getElem? (i := 988) (by decide +kernel)⟩
theorem lw_p22 : lw_okq (⟨"SamplePacksModel", "bitsOf", "(I)J"⟩, 38) := ⟨⟨by decide +kernel, by decide +kernel⟩, List.mem_of_getElem? (i := 828) (by decide +kernel), List.mem_of_getElem? (i := 991) (by decide +kernel), List.mem_of_getElem? (i := 992) (by decide +kernel)⟩
theorem lw_p23 : lw_okq (⟨"SamplePacksModel", "orderOf", "(I)I"⟩, 38) := ⟨⟨by decide +kernel, by decide +kernel⟩, List.mem_of_getElem? (i := 828) (by decide +kernel), List.mem_of_getElem? (i := 996) (by decide +kernel), List.mem_of_getElem? (i := 997) (by decide +kernel)⟩
theorem lw_p24 : lw_okq (⟨"SamplePacksModel", "foretold", "(II)J"⟩, 38) := ⟨⟨by decide +kernel, by decide +kernel⟩, List.mem_of_getElem? (i := 828) (by decide +kernel), List.mem_of_getElem? (i := 1000) (by decide +kernel), List.mem_of_getElem? (i := 1001) (by decide +kernel)⟩
theorem lw_p25 : lw_okq (⟨"SamplePacksModel", "before", "(II)J"⟩, 38) := ⟨⟨by decide +kernel, by decide +kernel⟩, List.mem_of_getElem? (i := 828) (by decide +kernel), List.mem_of_getElem? (i := 1004) (by decide +kernel), List.mem_of_getElem? (i := 1005) (by decide +kernel)⟩
theorem lw_p26 : lw_okq (⟨"SamplePacksModel", "restBits", "(I)J"⟩, 38) := ⟨⟨by decide +kernel, by decide +kernel⟩, List.mem_of_getElem? (i := 828) (by decide +kernel), List.mem_of_getElem? (i := 1016) (by decide +kernel), List.mem_of_getElem? (i := 1017) (by decide +kernel)⟩
theorem lw_p27 : lw_okq (⟨"SamplePacksModel", "mayPart", "(II)Z"⟩, 38) := ⟨⟨by decide +kernel, by decide +kernel⟩, List.mem_of_getElem? (i := 828) (by decide +kernel), List.mem_of_getElem? (i := 1020) (by decide +kernel), List.mem_of_getElem? (i := 1021) (by decide +kernel)⟩
theorem lw_p28 : lw_okq (⟨"SamplePacksModel", "partBits", "(II)J"⟩, 38) := ⟨⟨by decide +kernel, by decide +kernel⟩, List.mem_of_getElem? (i := 828) (by decide +kernel), List.mem_of_getElem? (i := 1024) (by decide +kernel), List.mem_of_getElem? (i := 1025) (by decide +kernel)⟩
theorem lw_p29 : lw_okq (⟨"SamplePacksModel", "put", "(JI)V"⟩, 38) := ⟨⟨by decide +kernel, by decide +kernel⟩, List.mem_of_getElem? (i := 828) (by decide +kernel), List.mem_of_getElem? (i := 1032) (by decide +kernel), List.mem_of_getElem? (i := 1033) (by decide +kernel)⟩
theorem lw_p30 : lw_okq (⟨"SamplePacksModel", "putRow", "(II)V"⟩, 38) := ⟨⟨by decide +kernel, by decide +kernel⟩, List.mem_of_getElem? (i := 828) (by decide +kernel), List.mem_of_getElem? (i := 1036) (by decide +kernel), List.mem_of_getElem? (i := 1037) (by decide +kernel)⟩
theorem lw_p31 : lw_okq (⟨"SamplePacksModel", "putRests", "(II)V"⟩, 38) := ⟨⟨by decide +kernel, by decide +kernel⟩, List.mem_of_getElem? (i := 828) (by decide +kernel), List.mem_of_getElem? (i := 1040) (by decide +kernel), List.mem_of_getElem? (i := 1041) (by decide +kernel)⟩
def lw_privs_2 : List (MethodName × Nat) := [(⟨"SamplePacks$RowReader", "readPart", "([III)V"⟩, 4), (⟨"SamplePacks$FrameReader", "readEnd", "(ILSamplePacks$OpenedFrame;)V"⟩, 2), (⟨"java/lang/Throwable", "fillInStackTrace", "(I)Ljava/lang/Throwable;"⟩, 6), (⟨"SamplePacksModel", "valuesOf", "(II)V"⟩, 38), (⟨"SamplePacksModel", "takeOut", "(I)V"⟩, 38), (⟨"SamplePacksModel", "bestKind", "()I"⟩, 38), (⟨"SamplePacksModel", "bitsOf", "(I)J"⟩, 38), (⟨"SamplePacksModel", "orderOf", "(I)I"⟩, 38), (⟨"SamplePacksModel", "foretold", "(II)J"⟩, 38), (⟨"SamplePacksModel", "before", "(II)J"⟩, 38), (⟨"SamplePacksModel", "restBits", "(I)J"⟩, 38), (⟨"SamplePacksModel", "mayPart", "(II)Z"⟩, 38), (⟨"SamplePacksModel", "partBits", "(II)J"⟩, 38), (⟨"SamplePacksModel", "put", "(JI)V"⟩, 38), (⟨"SamplePacksModel", "putRow", "(II)V"⟩, 38), (⟨"SamplePacksModel", "putRests", "(II)V"⟩, 38)]
theorem lw_r2 : ∀ q ∈ lw_privs_2, lw_okq q := List.forall_mem_cons.mpr ⟨lw_p16, List.forall_mem_cons.mpr ⟨lw_p17, List.forall_mem_cons.mpr ⟨lw_p18, List.forall_mem_cons.mpr ⟨lw_p19, List.forall_mem_cons.mpr ⟨lw_p20, List.forall_mem_cons.mpr ⟨lw_p21, List.forall_mem_cons.mpr ⟨lw_p22, List.forall_mem_cons.mpr ⟨lw_p23, List.forall_mem_cons.mpr ⟨lw_p24, List.forall_mem_cons.mpr ⟨lw_p25, List.forall_mem_cons.mpr ⟨lw_p26, List.forall_mem_cons.mpr ⟨lw_p27, List.forall_mem_cons.mpr ⟨lw_p28, List.forall_mem_cons.mpr ⟨lw_p29, List.forall_mem_cons.mpr ⟨lw_p30, List.forall_mem_cons.mpr ⟨lw_p31, fun _ h => absurd h List.not_mem_nil⟩⟩⟩⟩⟩⟩⟩⟩⟩⟩⟩⟩⟩⟩⟩⟩
theorem lw_p32 : lw_okq (⟨"SamplePacksModel", "sumOf", "([III)I"⟩, 38) := ⟨⟨by decide +kernel, by decide +kernel⟩, List.mem_of_getElem? (i := 828) (by decide +kernel), List.mem_of_getElem? (i := 1044) (by decide +kernel), List.mem_of_getElem? (i := 1045) (by decide +kernel)⟩
theorem lw_p33 : lw_okq (⟨"SamplePacksModel", "openAt", "(I)I"⟩, 38) := ⟨⟨by decide +kernel, by decide +kernel⟩, List.mem_of_getElem? (i := 828) (by decide +kernel), List.mem_of_getElem? (i := 1089) (by decide +kernel), List.mem_of_getElem? (i := 1090) (by decide +kernel)⟩
theorem lw_p34 : lw_okq (⟨"SamplePacksModel", "number", "(I)J"⟩, 38) := ⟨⟨by decide +kernel, by decide +kernel⟩, List.mem_of_getElem? (i := 828) (by decide +kernel), List.mem_of_getElem? (i := 1093) (by decide +kernel), List.mem_of_getElem? (i := 1094) (by decide +kernel)⟩
theorem lw_p35 : lw_okq (⟨"SamplePacksModel", "bit", "()I"⟩, 38) := ⟨⟨by decide +kernel, by decide +kernel⟩, List.mem_of_getElem? (i := 828) (by decide +kernel), List.mem_of_getElem? (i := 1097) (by decide +kernel), List.mem_of_getElem? (i := 1098) (by decide +kernel)⟩
theorem lw_p36 : lw_okq (⟨"SamplePacksModel", "wrong", "(I)V"⟩, 38) := ⟨⟨by decide +kernel, by decide +kernel⟩, List.mem_of_getElem? (i := 828) (by decide +kernel), List.mem_of_getElem? (i := 1101) (by decide +kernel), List.mem_of_getElem? (i := 1102) (by decide +kernel)⟩
theorem lw_p37 : lw_okq (⟨"SamplePacksModel", "readRow", "(II)V"⟩, 38) := ⟨⟨by decide +kernel, by decide +kernel⟩, List.mem_of_getElem? (i := 828) (by decide +kernel), List.mem_of_getElem? (i := 1105) (by decide +kernel), List.mem_of_getElem? (i := 1106) (by decide +kernel)⟩
theorem lw_p38 : lw_okq (⟨"SamplePacksModel", "signed", "(I)J"⟩, 38) := ⟨⟨by decide +kernel, by decide +kernel⟩, List.mem_of_getElem? (i := 828) (by decide +kernel), List.mem_of_getElem? (i := 1109) (by decide +kernel), List.mem_of_getElem? (i := 1110) (by decide +kernel)⟩
theorem lw_p39 : lw_okq (⟨"SamplePacksModel", "readRests", "(IIII)V"⟩, 38) := ⟨⟨by decide +kernel, by decide +kernel⟩, List.mem_of_getElem? (i := 828) (by decide +kernel), List.mem_of_getElem? (i := 1113) (by decide +kernel), List.mem_of_getElem? (i := 1114) (by decide +kernel)⟩
theorem lw_p40 : lw_okq (⟨"SamplePacksModel", "foreseen", "(IIII)J"⟩, 38) := ⟨⟨by decide +kernel, by decide +kernel⟩, List.mem_of_getElem? (i := 828) (by decide +kernel), List.mem_of_getElem? (i := 1117) (by decide +kernel), List.mem_of_getElem? (i := 1118) (by decide +kernel)⟩
theorem lw_p41 : lw_okq (⟨"SamplePacksModel", "back", "(III)J"⟩, 38) := ⟨⟨by decide +kernel, by decide +kernel⟩, List.mem_of_getElem? (i := 828) (by decide +kernel), List.mem_of_getElem? (i := 1121) (by decide +kernel), List.mem_of_getElem? (i := 1122) (by decide +kernel)⟩
theorem lw_p42 : lw_okq (⟨"SamplePacksModel", "readRest", "(II)J"⟩, 38) := ⟨⟨by decide +kernel, by decide +kernel⟩, List.mem_of_getElem? (i := 828) (by decide +kernel), List.mem_of_getElem? (i := 1125) (by decide +kernel), List.mem_of_getElem? (i := 1126) (by decide +kernel)⟩
theorem lw_p43 : lw_okq (⟨"SamplePacksModel", "untwist", "()V"⟩, 38) := ⟨⟨by decide +kernel, by decide +kernel⟩, List.mem_of_getElem? (i := 828) (by decide +kernel), List.mem_of_getElem? (i := 1129) (by decide +kernel), List.mem_of_getElem? (i := 1130) (by decide +kernel)⟩
def lw_privs_3 : List (MethodName × Nat) := [(⟨"SamplePacksModel", "sumOf", "([III)I"⟩, 38), (⟨"SamplePacksModel", "openAt", "(I)I"⟩, 38), (⟨"SamplePacksModel", "number", "(I)J"⟩, 38), (⟨"SamplePacksModel", "bit", "()I"⟩, 38), (⟨"SamplePacksModel", "wrong", "(I)V"⟩, 38), (⟨"SamplePacksModel", "readRow", "(II)V"⟩, 38), (⟨"SamplePacksModel", "signed", "(I)J"⟩, 38), (⟨"SamplePacksModel", "readRests", "(IIII)V"⟩, 38), (⟨"SamplePacksModel", "foreseen", "(IIII)J"⟩, 38), (⟨"SamplePacksModel", "back", "(III)J"⟩, 38), (⟨"SamplePacksModel", "readRest", "(II)J"⟩, 38), (⟨"SamplePacksModel", "untwist", "()V"⟩, 38)]
theorem lw_r3 : ∀ q ∈ lw_privs_3, lw_okq q := List.forall_mem_cons.mpr ⟨lw_p32, List.forall_mem_cons.mpr ⟨lw_p33, List.forall_mem_cons.mpr ⟨lw_p34, List.forall_mem_cons.mpr ⟨lw_p35, List.forall_mem_cons.mpr ⟨lw_p36, List.forall_mem_cons.mpr ⟨lw_p37, List.forall_mem_cons.mpr ⟨lw_p38, List.forall_mem_cons.mpr ⟨lw_p39, List.forall_mem_cons.mpr ⟨lw_p40, List.forall_mem_cons.mpr ⟨lw_p41, List.forall_mem_cons.mpr ⟨lw_p42, List.forall_mem_cons.mpr ⟨lw_p43, fun _ h => absurd h List.not_mem_nil⟩⟩⟩⟩⟩⟩⟩⟩⟩⟩⟩⟩
def lw_privs : List (MethodName × Nat) := lw_privs_1 ++ (lw_privs_2 ++ (lw_privs_3))
def lw_tbl : List Cond := k2_sels lw_privs ++ tables_1
theorem lw_privs_ok : ∀ q ∈ lw_privs, lw_okq q := by
  show ∀ q ∈ lw_privs_1 ++ (lw_privs_2 ++ (lw_privs_3)), lw_okq q
  exact List.forall_mem_append.mpr ⟨lw_r1, List.forall_mem_append.mpr ⟨lw_r2, lw_r3⟩⟩
end
section
def RX0 : String := "SamplePacks$BitStream"
def TX0 : u_T := fun k => match k with
  | 0 => ("SamplePacks$BitStream", "bytes", "[I", true)
  | 1 => ("SamplePacks$BitStream", "length", "I", false)
  | 2 => ("SamplePacks$BitStream", "fault", "I", false)
  | _ => ("SamplePacks$BitStream", "position", "I", false)
def tyX0 : Nat → FieldType := fun k => match k with
  | 0 => .array .int
  | 1 => .int
  | 2 => .int
  | _ => .int
theorem nmX0 : ∀ a, a < 4 → ∀ b, b < 4 → a ≠ b → (TX0 a).2.1 ≠ (TX0 b).2.1 := by decide +kernel
theorem tyX0_ok : ∀ k, k < 4 → parseFieldDescriptor (TX0 k).2.2.1 = some (tyX0 k) := by decide +kernel
abbrev cX0_init : ByteArray := prog_2_method_1_code
def yX0_init : MethodName := ⟨RX0, "<init>", "()V"⟩
abbrev cX0_has : ByteArray := prog_2_method_2_code
def yX0_has : MethodName := ⟨RX0, "has", "(I)Z"⟩
abbrev cX0_begin : ByteArray := prog_2_method_3_code
def yX0_begin : MethodName := ⟨RX0, "begin", "(I)V"⟩
abbrev cX0_placeNow : ByteArray := prog_2_method_4_code
def yX0_placeNow : MethodName := ⟨RX0, "placeNow", "()I"⟩
abbrev cX0_bitsToByte : ByteArray := prog_2_method_5_code
def yX0_bitsToByte : MethodName := ⟨RX0, "bitsToByte", "()I"⟩
abbrev cX0_sumOf : ByteArray := prog_2_method_6_code
def yX0_sumOf : MethodName := ⟨RX0, "sumOf", "(II)I"⟩
abbrev cX0_write : ByteArray := prog_2_method_7_code
def yX0_write : MethodName := ⟨RX0, "write", "(II)V"⟩
abbrev cX0_writeBit : ByteArray := prog_2_method_8_code
def yX0_writeBit : MethodName := ⟨RX0, "writeBit", "(I)V"⟩
abbrev cX0_writeFolded : ByteArray := prog_2_method_9_code
def yX0_writeFolded : MethodName := ⟨RX0, "writeFolded", "(II)V"⟩
abbrev cX0_faultIf : ByteArray := prog_2_method_10_code
def yX0_faultIf : MethodName := ⟨RX0, "faultIf", "(ZI)Z"⟩
abbrev cX0_read : ByteArray := prog_2_method_11_code
def yX0_read : MethodName := ⟨RX0, "read", "(I)I"⟩
abbrev cX0_readSigned : ByteArray := prog_2_method_12_code
def yX0_readSigned : MethodName := ⟨RX0, "readSigned", "(I)I"⟩
abbrev cX0_readFolded : ByteArray := prog_2_method_13_code
def yX0_readFolded : MethodName := ⟨RX0, "readFolded", "(I)I"⟩
def RX1 : String := "SamplePacks$Foretelling"
def TX1 : u_T := fun k => match k with
  | 0 => ("SamplePacks$Foretelling", "c", "[I", true)
  | 1 => ("SamplePacks$Foretelling", "order", "I", false)
  | _ => ("SamplePacks$Foretelling", "shift", "I", false)
def tyX1 : Nat → FieldType := fun k => match k with
  | 0 => .array .int
  | 1 => .int
  | _ => .int
theorem nmX1 : ∀ a, a < 3 → ∀ b, b < 3 → a ≠ b → (TX1 a).2.1 ≠ (TX1 b).2.1 := by decide +kernel
theorem tyX1_ok : ∀ k, k < 3 → parseFieldDescriptor (TX1 k).2.2.1 = some (tyX1 k) := by decide +kernel
abbrev cX1_init : ByteArray := prog_3_method_1_code
def yX1_init : MethodName := ⟨RX1, "<init>", "()V"⟩
abbrev cX1_becomeFixed : ByteArray := prog_3_method_2_code
def yX1_becomeFixed : MethodName := ⟨RX1, "becomeFixed", "(I)V"⟩
abbrev cX1_becomeTold : ByteArray := prog_3_method_3_code
def yX1_becomeTold : MethodName := ⟨RX1, "becomeTold", "(IIJ)V"⟩
abbrev cX1_foretell : ByteArray := prog_3_method_4_code
def yX1_foretell : MethodName := ⟨RX1, "foretell", "([II)I"⟩
def RX2 : String := "SamplePacks$FramePacker"
def TX2 : u_T := fun k => match k with
  | 0 => ("SamplePacks$FramePacker", "chooser", "LSamplePacks$RowChooser;", true)
  | 1 => ("SamplePacks$FramePacker", "forms", "[LSamplePacks$RowForm;", true)
  | 2 => ("SamplePacks$FramePacker", "n", "I", false)
  | 3 => ("SamplePacks$FramePacker", "channels", "I", false)
  | 4 => ("SamplePacks$FramePacker", "turn", "I", false)
  | 5 => ("SamplePacks$FramePacker", "bits", "I", false)
  | 6 => ("SamplePacks$FramePacker", "stream", "LSamplePacks$BitStream;", true)
  | 7 => ("SamplePacks$FramePacker", "rows", "[[I", true)
  | _ => ("SamplePacks$FramePacker", "sampleBits", "I", false)
def tyX2 : Nat → FieldType := fun k => match k with
  | 0 => .object "SamplePacks$RowChooser"
  | 1 => .array (.object "SamplePacks$RowForm")
  | 2 => .int
  | 3 => .int
  | 4 => .int
  | 5 => .int
  | 6 => .object "SamplePacks$BitStream"
  | 7 => .array (.array .int)
  | _ => .int
theorem nmX2 : ∀ a, a < 9 → ∀ b, b < 9 → a ≠ b → (TX2 a).2.1 ≠ (TX2 b).2.1 := by decide +kernel
theorem tyX2_ok : ∀ k, k < 9 → parseFieldDescriptor (TX2 k).2.2.1 = some (tyX2 k) := by decide +kernel
abbrev cX2_init : ByteArray := prog_4_method_1_code
def yX2_init : MethodName := ⟨RX2, "<init>", "([[ILSamplePacks$Foretelling;LSamplePacks$BitStream;)V"⟩
abbrev cX2_chooseFrame : ByteArray := prog_4_method_2_code
def yX2_chooseFrame : MethodName := ⟨RX2, "chooseFrame", "(III)V"⟩
abbrev cX2_mixChannels : ByteArray := prog_4_method_3_code
def yX2_mixChannels : MethodName := ⟨RX2, "mixChannels", "()V"⟩
abbrev cX2_chooseTurn : ByteArray := prog_4_method_4_code
def yX2_chooseTurn : MethodName := ⟨RX2, "chooseTurn", "()V"⟩
abbrev cX2_writeFrame : ByteArray := prog_4_method_5_code
def yX2_writeFrame : MethodName := ⟨RX2, "writeFrame", "()V"⟩
abbrev cX2_writeRow : ByteArray := prog_4_method_6_code
def yX2_writeRow : MethodName := ⟨RX2, "writeRow", "(I)V"⟩
abbrev cX2_writeValues : ByteArray := prog_4_method_7_code
def yX2_writeValues : MethodName := ⟨RX2, "writeValues", "(I)V"⟩
abbrev cX2_writeForetold : ByteArray := prog_4_method_8_code
def yX2_writeForetold : MethodName := ⟨RX2, "writeForetold", "(LSamplePacks$RowForm;)V"⟩
abbrev cX2_writeRests : ByteArray := prog_4_method_9_code
def yX2_writeRests : MethodName := ⟨RX2, "writeRests", "(LSamplePacks$Foretelling;IIII)V"⟩
def RX3 : String := "SamplePacks$FrameReader"
def TX3 : u_T := fun k => match k with
  | 0 => ("SamplePacks$FrameReader", "stream", "LSamplePacks$BitStream;", true)
  | _ => ("SamplePacks$FrameReader", "rowReader", "LSamplePacks$RowReader;", true)
def tyX3 : Nat → FieldType := fun k => match k with
  | 0 => .object "SamplePacks$BitStream"
  | _ => .object "SamplePacks$RowReader"
theorem nmX3 : ∀ a, a < 2 → ∀ b, b < 2 → a ≠ b → (TX3 a).2.1 ≠ (TX3 b).2.1 := by decide +kernel
theorem tyX3_ok : ∀ k, k < 2 → parseFieldDescriptor (TX3 k).2.2.1 = some (tyX3 k) := by decide +kernel
abbrev cX3_init : ByteArray := prog_5_method_1_code
def yX3_init : MethodName := ⟨RX3, "<init>", "(LSamplePacks$BitStream;)V"⟩
abbrev cX3_readFrame : ByteArray := prog_5_method_2_code
def yX3_readFrame : MethodName := ⟨RX3, "readFrame", "(ILSamplePacks$OpenedFrame;)I"⟩
abbrev cX3_readHead : ByteArray := prog_5_method_3_code
def yX3_readHead : MethodName := ⟨RX3, "readHead", "(LSamplePacks$OpenedFrame;)V"⟩
abbrev cX3_readEnd : ByteArray := prog_5_method_4_code
def yX3_readEnd : MethodName := ⟨RX3, "readEnd", "(ILSamplePacks$OpenedFrame;)V"⟩
def RX4 : String := "SamplePacks$OpenedFrame"
def TX4 : u_T := fun k => match k with
  | 0 => ("SamplePacks$OpenedFrame", "rows", "[[I", true)
  | 1 => ("SamplePacks$OpenedFrame", "kinds", "[I", true)
  | 2 => ("SamplePacks$OpenedFrame", "n", "I", false)
  | 3 => ("SamplePacks$OpenedFrame", "channels", "I", false)
  | 4 => ("SamplePacks$OpenedFrame", "turn", "I", false)
  | 5 => ("SamplePacks$OpenedFrame", "sampleBits", "I", false)
  | _ => ("SamplePacks$OpenedFrame", "behind", "I", false)
def tyX4 : Nat → FieldType := fun k => match k with
  | 0 => .array (.array .int)
  | 1 => .array .int
  | 2 => .int
  | 3 => .int
  | 4 => .int
  | 5 => .int
  | _ => .int
theorem nmX4 : ∀ a, a < 7 → ∀ b, b < 7 → a ≠ b → (TX4 a).2.1 ≠ (TX4 b).2.1 := by decide +kernel
theorem tyX4_ok : ∀ k, k < 7 → parseFieldDescriptor (TX4 k).2.2.1 = some (tyX4 k) := by decide +kernel
abbrev cX4_init : ByteArray := prog_6_method_1_code
def yX4_init : MethodName := ⟨RX4, "<init>", "()V"⟩
abbrev cX4_unturn : ByteArray := prog_6_method_2_code
def yX4_unturn : MethodName := ⟨RX4, "unturn", "()Z"⟩
def RX5 : String := "SamplePacks$PackedFrame"
def TX5 : u_T := fun k => match k with
  | 0 => ("SamplePacks$PackedFrame", "first", "LSamplePacks$RowForm;", true)
  | 1 => ("SamplePacks$PackedFrame", "second", "LSamplePacks$RowForm;", true)
  | 2 => ("SamplePacks$PackedFrame", "n", "I", false)
  | 3 => ("SamplePacks$PackedFrame", "channels", "I", false)
  | 4 => ("SamplePacks$PackedFrame", "turn", "I", false)
  | _ => ("SamplePacks$PackedFrame", "bits", "I", false)
def tyX5 : Nat → FieldType := fun k => match k with
  | 0 => .object "SamplePacks$RowForm"
  | 1 => .object "SamplePacks$RowForm"
  | 2 => .int
  | 3 => .int
  | 4 => .int
  | _ => .int
theorem nmX5 : ∀ a, a < 6 → ∀ b, b < 6 → a ≠ b → (TX5 a).2.1 ≠ (TX5 b).2.1 := by decide +kernel
theorem tyX5_ok : ∀ k, k < 6 → parseFieldDescriptor (TX5 k).2.2.1 = some (tyX5 k) := by decide +kernel
abbrev cX5_init : ByteArray := prog_7_method_1_code
def yX5_init : MethodName := ⟨RX5, "<init>", "()V"⟩
abbrev cX5_keep : ByteArray := prog_7_method_2_code
def yX5_keep : MethodName := ⟨RX5, "keep", "(LSamplePacks$FramePacker;)V"⟩
def RX6 : String := "SamplePacks$PartChooser"
def TX6 : u_T := fun k => match k with
  | 0 => ("SamplePacks$PartChooser", "ones", "[J", true)
  | 1 => ("SamplePacks$PartChooser", "union", "[I", true)
  | 2 => ("SamplePacks$PartChooser", "k", "[I", true)
  | 3 => ("SamplePacks$PartChooser", "x", "[I", true)
  | 4 => ("SamplePacks$PartChooser", "n", "I", false)
  | 5 => ("SamplePacks$PartChooser", "order", "I", false)
  | _ => ("SamplePacks$PartChooser", "finest", "I", false)
def tyX6 : Nat → FieldType := fun k => match k with
  | 0 => .array .long
  | 1 => .array .int
  | 2 => .array .int
  | 3 => .array .int
  | 4 => .int
  | 5 => .int
  | _ => .int
theorem nmX6 : ∀ a, a < 7 → ∀ b, b < 7 → a ≠ b → (TX6 a).2.1 ≠ (TX6 b).2.1 := by decide +kernel
theorem tyX6_ok : ∀ k, k < 7 → parseFieldDescriptor (TX6 k).2.2.1 = some (tyX6 k) := by decide +kernel
abbrev cX6_init : ByteArray := prog_8_method_1_code
def yX6_init : MethodName := ⟨RX6, "<init>", "()V"⟩
abbrev cX6_gather : ByteArray := prog_8_method_2_code
def yX6_gather : MethodName := ⟨RX6, "gather", "(LSamplePacks$RowValues;LSamplePacks$Foretelling;)Z"⟩
abbrev cX6_tally : ByteArray := prog_8_method_3_code
def yX6_tally : MethodName := ⟨RX6, "tally", "(II)V"⟩
abbrev cX6_chooseParts : ByteArray := prog_8_method_4_code
def yX6_chooseParts : MethodName := ⟨RX6, "chooseParts", "(LSamplePacks$RowForm;)I"⟩
abbrev cX6_weighPart : ByteArray := prog_8_method_5_code
def yX6_weighPart : MethodName := ⟨RX6, "weighPart", "(II)I"⟩
abbrev cX6_joinPairs : ByteArray := prog_8_method_6_code
def yX6_joinPairs : MethodName := ⟨RX6, "joinPairs", "(I)V"⟩
def RX7 : String := "SamplePacks$RowChooser"
def TX7 : u_T := fun k => match k with
  | 0 => ("SamplePacks$RowChooser", "values", "LSamplePacks$RowValues;", true)
  | 1 => ("SamplePacks$RowChooser", "own", "LSamplePacks$Foretelling;", true)
  | 2 => ("SamplePacks$RowChooser", "fixed", "LSamplePacks$Foretelling;", true)
  | 3 => ("SamplePacks$RowChooser", "parts", "LSamplePacks$PartChooser;", true)
  | _ => ("SamplePacks$RowChooser", "trial", "LSamplePacks$RowForm;", true)
def tyX7 : Nat → FieldType := fun k => match k with
  | 0 => .object "SamplePacks$RowValues"
  | 1 => .object "SamplePacks$Foretelling"
  | 2 => .object "SamplePacks$Foretelling"
  | 3 => .object "SamplePacks$PartChooser"
  | _ => .object "SamplePacks$RowForm"
theorem nmX7 : ∀ a, a < 5 → ∀ b, b < 5 → a ≠ b → (TX7 a).2.1 ≠ (TX7 b).2.1 := by decide +kernel
theorem tyX7_ok : ∀ k, k < 5 → parseFieldDescriptor (TX7 k).2.2.1 = some (tyX7 k) := by decide +kernel
abbrev cX7_init : ByteArray := prog_9_method_1_code
def yX7_init : MethodName := ⟨RX7, "<init>", "(LSamplePacks$Foretelling;)V"⟩
abbrev cX7_foretellingOf : ByteArray := prog_9_method_2_code
def yX7_foretellingOf : MethodName := ⟨RX7, "foretellingOf", "(I)LSamplePacks$Foretelling;"⟩
abbrev cX7_chooseRow : ByteArray := prog_9_method_3_code
def yX7_chooseRow : MethodName := ⟨RX7, "chooseRow", "([IIILSamplePacks$RowForm;)V"⟩
abbrev cX7_weigh : ByteArray := prog_9_method_4_code
def yX7_weigh : MethodName := ⟨RX7, "weigh", "(I)I"⟩
abbrev cX7_weighForetold : ByteArray := prog_9_method_5_code
def yX7_weighForetold : MethodName := ⟨RX7, "weighForetold", "(I)I"⟩
def RX8 : String := "SamplePacks$RowForm"
def TX8 : u_T := fun k => match k with
  | 0 => ("SamplePacks$RowForm", "k", "[I", true)
  | 1 => ("SamplePacks$RowForm", "x", "[I", true)
  | 2 => ("SamplePacks$RowForm", "kind", "I", false)
  | 3 => ("SamplePacks$RowForm", "wasted", "I", false)
  | 4 => ("SamplePacks$RowForm", "bits", "I", false)
  | _ => ("SamplePacks$RowForm", "p", "I", false)
def tyX8 : Nat → FieldType := fun k => match k with
  | 0 => .array .int
  | 1 => .array .int
  | 2 => .int
  | 3 => .int
  | 4 => .int
  | _ => .int
theorem nmX8 : ∀ a, a < 6 → ∀ b, b < 6 → a ≠ b → (TX8 a).2.1 ≠ (TX8 b).2.1 := by decide +kernel
theorem tyX8_ok : ∀ k, k < 6 → parseFieldDescriptor (TX8 k).2.2.1 = some (tyX8 k) := by decide +kernel
abbrev cX8_init : ByteArray := prog_10_method_1_code
def yX8_init : MethodName := ⟨RX8, "<init>", "()V"⟩
abbrev cX8_countParts : ByteArray := prog_10_method_2_code
def yX8_countParts : MethodName := ⟨RX8, "countParts", "()I"⟩
abbrev cX8_copyFrom : ByteArray := prog_10_method_3_code
def yX8_copyFrom : MethodName := ⟨RX8, "copyFrom", "(LSamplePacks$RowForm;)V"⟩
def RX9 : String := "SamplePacks$RowReader"
def TX9 : u_T := fun k => match k with
  | 0 => ("SamplePacks$RowReader", "stream", "LSamplePacks$BitStream;", true)
  | 1 => ("SamplePacks$RowReader", "f", "LSamplePacks$Foretelling;", true)
  | 2 => ("SamplePacks$RowReader", "n", "I", false)
  | _ => ("SamplePacks$RowReader", "b", "I", false)
def tyX9 : Nat → FieldType := fun k => match k with
  | 0 => .object "SamplePacks$BitStream"
  | 1 => .object "SamplePacks$Foretelling"
  | 2 => .int
  | _ => .int
theorem nmX9 : ∀ a, a < 4 → ∀ b, b < 4 → a ≠ b → (TX9 a).2.1 ≠ (TX9 b).2.1 := by decide +kernel
theorem tyX9_ok : ∀ k, k < 4 → parseFieldDescriptor (TX9 k).2.2.1 = some (tyX9 k) := by decide +kernel
abbrev cX9_init : ByteArray := prog_11_method_1_code
def yX9_init : MethodName := ⟨RX9, "<init>", "(LSamplePacks$BitStream;)V"⟩
abbrev cX9_readRow : ByteArray := prog_11_method_2_code
def yX9_readRow : MethodName := ⟨RX9, "readRow", "([III)I"⟩
abbrev cX9_fillRow : ByteArray := prog_11_method_3_code
def yX9_fillRow : MethodName := ⟨RX9, "fillRow", "([II)V"⟩
abbrev cX9_readValues : ByteArray := prog_11_method_4_code
def yX9_readValues : MethodName := ⟨RX9, "readValues", "([II)V"⟩
abbrev cX9_readForetold : ByteArray := prog_11_method_5_code
def yX9_readForetold : MethodName := ⟨RX9, "readForetold", "([II)V"⟩
abbrev cX9_readCoefficients : ByteArray := prog_11_method_6_code
def yX9_readCoefficients : MethodName := ⟨RX9, "readCoefficients", "(I)V"⟩
abbrev cX9_readPart : ByteArray := prog_11_method_7_code
def yX9_readPart : MethodName := ⟨RX9, "readPart", "([III)V"⟩
def RX10 : String := "SamplePacks$RowValues"
def TX10 : u_T := fun k => match k with
  | 0 => ("SamplePacks$RowValues", "v", "[I", true)
  | 1 => ("SamplePacks$RowValues", "n", "I", false)
  | 2 => ("SamplePacks$RowValues", "b", "I", false)
  | _ => ("SamplePacks$RowValues", "wasted", "I", false)
def tyX10 : Nat → FieldType := fun k => match k with
  | 0 => .array .int
  | 1 => .int
  | 2 => .int
  | _ => .int
theorem nmX10 : ∀ a, a < 4 → ∀ b, b < 4 → a ≠ b → (TX10 a).2.1 ≠ (TX10 b).2.1 := by decide +kernel
theorem tyX10_ok : ∀ k, k < 4 → parseFieldDescriptor (TX10 k).2.2.1 = some (tyX10 k) := by decide +kernel
abbrev cX10_init : ByteArray := prog_12_method_1_code
def yX10_init : MethodName := ⟨RX10, "<init>", "()V"⟩
abbrev cX10_strip : ByteArray := prog_12_method_2_code
def yX10_strip : MethodName := ⟨RX10, "strip", "([III)V"⟩
abbrev cX10_areAlike : ByteArray := prog_12_method_3_code
def yX10_areAlike : MethodName := ⟨RX10, "areAlike", "()Z"⟩
abbrev cX10_foldedRest : ByteArray := prog_12_method_4_code
def yX10_foldedRest : MethodName := ⟨RX10, "foldedRest", "(LSamplePacks$Foretelling;I)I"⟩
def RX11 : String := "SamplePacks"
def TX11 : u_T := fun k => match k with
  | 0 => ("SamplePacks", "samples", "[[I", true)
  | 1 => ("SamplePacks", "counts", "[I", true)
  | 2 => ("SamplePacks", "sampleBits", "I", false)
  | 3 => ("SamplePacks", "own", "LSamplePacks$Foretelling;", true)
  | 4 => ("SamplePacks", "stream", "LSamplePacks$BitStream;", true)
  | 5 => ("SamplePacks", "packer", "LSamplePacks$FramePacker;", true)
  | 6 => ("SamplePacks", "packed", "LSamplePacks$PackedFrame;", true)
  | 7 => ("SamplePacks", "reader", "LSamplePacks$FrameReader;", true)
  | 8 => ("SamplePacks", "opened", "LSamplePacks$OpenedFrame;", false)
  | _ => ("SamplePacks", "spare", "LSamplePacks$OpenedFrame;", false)
def tyX11 : Nat → FieldType := fun k => match k with
  | 0 => .array (.array .int)
  | 1 => .array .int
  | 2 => .int
  | 3 => .object "SamplePacks$Foretelling"
  | 4 => .object "SamplePacks$BitStream"
  | 5 => .object "SamplePacks$FramePacker"
  | 6 => .object "SamplePacks$PackedFrame"
  | 7 => .object "SamplePacks$FrameReader"
  | 8 => .object "SamplePacks$OpenedFrame"
  | _ => .object "SamplePacks$OpenedFrame"
theorem nmX11 : ∀ a, a < 10 → ∀ b, b < 10 → a ≠ b → (TX11 a).2.1 ≠ (TX11 b).2.1 := by decide +kernel
theorem tyX11_ok : ∀ k, k < 10 → parseFieldDescriptor (TX11 k).2.2.1 = some (tyX11 k) := by decide +kernel
abbrev cX11_init : ByteArray := prog_1_method_1_code
def yX11_init : MethodName := ⟨RX11, "<init>", "()V"⟩
abbrev cX11_depth : ByteArray := prog_1_method_2_code
def yX11_depth : MethodName := ⟨RX11, "depth", "(I)I"⟩
abbrev cX11_sample : ByteArray := prog_1_method_3_code
def yX11_sample : MethodName := ⟨RX11, "sample", "(II)I"⟩
abbrev cX11_drop : ByteArray := prog_1_method_4_code
def yX11_drop : MethodName := ⟨RX11, "drop", "(I)I"⟩
abbrev cX11_coefficients : ByteArray := prog_1_method_5_code
def yX11_coefficients : MethodName := ⟨RX11, "coefficients", "(IIJ)I"⟩
abbrev cX11_pack : ByteArray := prog_1_method_6_code
def yX11_pack : MethodName := ⟨RX11, "pack", "()I"⟩
abbrev cX11_told : ByteArray := prog_1_method_7_code
def yX11_told : MethodName := ⟨RX11, "told", "(I)I"⟩
abbrev cX11_row : ByteArray := prog_1_method_8_code
def yX11_row : MethodName := ⟨RX11, "row", "(II)I"⟩
abbrev cX11_price : ByteArray := prog_1_method_9_code
def yX11_price : MethodName := ⟨RX11, "price", "(II)I"⟩
abbrev cX11_size : ByteArray := prog_1_method_10_code
def yX11_size : MethodName := ⟨RX11, "size", "()I"⟩
abbrev cX11_at : ByteArray := prog_1_method_11_code
def yX11_at : MethodName := ⟨RX11, "at", "(I)I"⟩
abbrev cX11_alter : ByteArray := prog_1_method_12_code
def yX11_alter : MethodName := ⟨RX11, "alter", "(II)I"⟩
abbrev cX11_add : ByteArray := prog_1_method_13_code
def yX11_add : MethodName := ⟨RX11, "add", "(I)I"⟩
abbrev cX11_cut : ByteArray := prog_1_method_14_code
def yX11_cut : MethodName := ⟨RX11, "cut", "(I)I"⟩
abbrev cX11_open : ByteArray := prog_1_method_15_code
def yX11_open : MethodName := ⟨RX11, "open", "(I)I"⟩
abbrev cX11_shown : ByteArray := prog_1_method_16_code
def yX11_shown : MethodName := ⟨RX11, "shown", "(I)I"⟩
abbrev cX11_got : ByteArray := prog_1_method_17_code
def yX11_got : MethodName := ⟨RX11, "got", "(II)I"⟩
abbrev cX11_take : ByteArray := prog_1_method_18_code
def yX11_take : MethodName := ⟨RX11, "take", "()I"⟩
abbrev cX11_frames : ByteArray := prog_1_method_19_code
def yX11_frames : MethodName := ⟨RX11, "frames", "()I"⟩
abbrev cX11_isChannel : ByteArray := prog_1_method_20_code
def yX11_isChannel : MethodName := ⟨RX11, "isChannel", "(I)Z"⟩
abbrev cX11_isByte : ByteArray := prog_1_method_21_code
def yX11_isByte : MethodName := ⟨RX11, "isByte", "(I)Z"⟩
abbrev cX11_isPartOf : ByteArray := prog_1_method_22_code
def yX11_isPartOf : MethodName := ⟨RX11, "isPartOf", "(II)Z"⟩
abbrev cX11_partTold : ByteArray := prog_1_method_23_code
def yX11_partTold : MethodName := ⟨RX11, "partTold", "(LSamplePacks$RowForm;I)I"⟩
abbrev cX11_fits : ByteArray := prog_1_method_24_code
def yX11_fits : MethodName := ⟨RX11, "fits", "(II)Z"⟩
abbrev cX11_bytesOf : ByteArray := prog_1_method_25_code
def yX11_bytesOf : MethodName := ⟨RX11, "bytesOf", "(I)I"⟩
abbrev cX11_bitsOfRow : ByteArray := prog_1_method_26_code
def yX11_bitsOfRow : MethodName := ⟨RX11, "bitsOfRow", "(II)I"⟩
abbrev cX11_mayBeP : ByteArray := prog_1_method_27_code
def yX11_mayBeP : MethodName := ⟨RX11, "mayBeP", "(III)Z"⟩
abbrev cX11_signed : ByteArray := prog_1_method_28_code
def yX11_signed : MethodName := ⟨RX11, "signed", "(II)I"⟩
abbrev cX11_unfold : ByteArray := prog_1_method_29_code
def yX11_unfold : MethodName := ⟨RX11, "unfold", "(I)I"⟩
def RX12 : String := "SamplePacksModel"
def TX12 : u_T := fun k => match k with
  | 0 => ("SamplePacksModel", "thrown", "I", false)
  | 1 => ("SamplePacksModel", "depth", "I", false)
  | 2 => ("SamplePacksModel", "many", "[I", true)
  | 3 => ("SamplePacksModel", "sample", "[I", true)
  | 4 => ("SamplePacksModel", "stream", "[I", true)
  | 5 => ("SamplePacksModel", "size", "I", false)
  | 6 => ("SamplePacksModel", "order", "I", false)
  | 7 => ("SamplePacksModel", "shift", "I", false)
  | 8 => ("SamplePacksModel", "by", "[I", true)
  | 9 => ("SamplePacksModel", "hasPacked", "Z", false)
  | 10 => ("SamplePacksModel", "packed", "[I", true)
  | 11 => ("SamplePacksModel", "rowTold", "[I", true)
  | 12 => ("SamplePacksModel", "rowK", "[I", true)
  | 13 => ("SamplePacksModel", "rowX", "[I", true)
  | 14 => ("SamplePacksModel", "hasShown", "Z", false)
  | 15 => ("SamplePacksModel", "shownIs", "[I", true)
  | 16 => ("SamplePacksModel", "got", "[I", true)
  | 17 => ("SamplePacksModel", "value", "[I", true)
  | 18 => ("SamplePacksModel", "n", "I", false)
  | 19 => ("SamplePacksModel", "wide", "I", false)
  | 20 => ("SamplePacksModel", "wasted", "I", false)
  | 21 => ("SamplePacksModel", "rest", "[J", true)
  | 22 => ("SamplePacksModel", "up", "[J", true)
  | 23 => ("SamplePacksModel", "partK", "I", false)
  | 24 => ("SamplePacksModel", "partX", "I", false)
  | 25 => ("SamplePacksModel", "bestP", "I", false)
  | 26 => ("SamplePacksModel", "made", "[I", true)
  | 27 => ("SamplePacksModel", "bits", "I", false)
  | 28 => ("SamplePacksModel", "place", "I", false)
  | 29 => ("SamplePacksModel", "code", "I", false)
  | 30 => ("SamplePacksModel", "readN", "I", false)
  | 31 => ("SamplePacksModel", "readChannels", "I", false)
  | 32 => ("SamplePacksModel", "readTurn", "I", false)
  | 33 => ("SamplePacksModel", "readDepth", "I", false)
  | 34 => ("SamplePacksModel", "readKind", "[I", true)
  | 35 => ("SamplePacksModel", "read", "[I", true)
  | 36 => ("SamplePacksModel", "readBy", "[I", true)
  | _ => ("SamplePacksModel", "readShift", "I", false)
def tyX12 : Nat → FieldType := fun k => match k with
  | 0 => .int
  | 1 => .int
  | 2 => .array .int
  | 3 => .array .int
  | 4 => .array .int
  | 5 => .int
  | 6 => .int
  | 7 => .int
  | 8 => .array .int
  | 9 => .boolean
  | 10 => .array .int
  | 11 => .array .int
  | 12 => .array .int
  | 13 => .array .int
  | 14 => .boolean
  | 15 => .array .int
  | 16 => .array .int
  | 17 => .array .int
  | 18 => .int
  | 19 => .int
  | 20 => .int
  | 21 => .array .long
  | 22 => .array .long
  | 23 => .int
  | 24 => .int
  | 25 => .int
  | 26 => .array .int
  | 27 => .int
  | 28 => .int
  | 29 => .int
  | 30 => .int
  | 31 => .int
  | 32 => .int
  | 33 => .int
  | 34 => .array .int
  | 35 => .array .int
  | 36 => .array .int
  | _ => .int
theorem nmX12 : ∀ a, a < 38 → ∀ b, b < 38 → a ≠ b → (TX12 a).2.1 ≠ (TX12 b).2.1 := by decide +kernel
theorem tyX12_ok : ∀ k, k < 38 → parseFieldDescriptor (TX12 k).2.2.1 = some (tyX12 k) := by decide +kernel
abbrev cX12_thrown : ByteArray := prog_14_method_1_code
def yX12_thrown : MethodName := ⟨RX12, "thrown", "()I"⟩
abbrev cX12_init : ByteArray := prog_14_method_2_code
def yX12_init : MethodName := ⟨RX12, "<init>", "()V"⟩
abbrev cX12_in : ByteArray := prog_14_method_3_code
def yX12_in : MethodName := ⟨RX12, "in", "(JJJ)Z"⟩
abbrev cX12_fits : ByteArray := prog_14_method_4_code
def yX12_fits : MethodName := ⟨RX12, "fits", "(JI)Z"⟩
abbrev cX12_depth : ByteArray := prog_14_method_5_code
def yX12_depth : MethodName := ⟨RX12, "depth", "(I)I"⟩
abbrev cX12_sample : ByteArray := prog_14_method_6_code
def yX12_sample : MethodName := ⟨RX12, "sample", "(II)I"⟩
abbrev cX12_drop : ByteArray := prog_14_method_7_code
def yX12_drop : MethodName := ⟨RX12, "drop", "(I)I"⟩
abbrev cX12_coefficients : ByteArray := prog_14_method_8_code
def yX12_coefficients : MethodName := ⟨RX12, "coefficients", "(IIJ)I"⟩
abbrev cX12_takeOut : ByteArray := prog_14_method_9_code
def yX12_takeOut : MethodName := ⟨RX12, "takeOut", "(I)V"⟩
abbrev cX12_fixed : ByteArray := prog_14_method_10_code
def yX12_fixed : MethodName := ⟨RX12, "fixed", "(IJJJJ)J"⟩
abbrev cX12_before : ByteArray := prog_14_method_11_code
def yX12_before : MethodName := ⟨RX12, "before", "(II)J"⟩
abbrev cX12_foretold : ByteArray := prog_14_method_12_code
def yX12_foretold : MethodName := ⟨RX12, "foretold", "(II)J"⟩
abbrev cX12_orderOf : ByteArray := prog_14_method_13_code
def yX12_orderOf : MethodName := ⟨RX12, "orderOf", "(I)I"⟩
abbrev cX12_roomOf : ByteArray := prog_14_method_14_code
def yX12_roomOf : MethodName := ⟨RX12, "roomOf", "(J)I"⟩
abbrev cX12_partBits : ByteArray := prog_14_method_15_code
def yX12_partBits : MethodName := ⟨RX12, "partBits", "(II)J"⟩
abbrev cX12_mayPart : ByteArray := prog_14_method_16_code
def yX12_mayPart : MethodName := ⟨RX12, "mayPart", "(II)Z"⟩
abbrev cX12_restBits : ByteArray := prog_14_method_17_code
def yX12_restBits : MethodName := ⟨RX12, "restBits", "(I)J"⟩
abbrev cX12_bitsOf : ByteArray := prog_14_method_18_code
def yX12_bitsOf : MethodName := ⟨RX12, "bitsOf", "(I)J"⟩
abbrev cX12_bestKind : ByteArray := prog_14_method_19_code
def yX12_bestKind : MethodName := ⟨RX12, "bestKind", "()I"⟩
abbrev cX12_valuesOf : ByteArray := prog_14_method_20_code
def yX12_valuesOf : MethodName := ⟨RX12, "valuesOf", "(II)V"⟩
abbrev cX12_put : ByteArray := prog_14_method_21_code
def yX12_put : MethodName := ⟨RX12, "put", "(JI)V"⟩
abbrev cX12_putRow : ByteArray := prog_14_method_22_code
def yX12_putRow : MethodName := ⟨RX12, "putRow", "(II)V"⟩
abbrev cX12_putRests : ByteArray := prog_14_method_23_code
def yX12_putRests : MethodName := ⟨RX12, "putRests", "(II)V"⟩
abbrev cX12_sumOf : ByteArray := prog_14_method_24_code
def yX12_sumOf : MethodName := ⟨RX12, "sumOf", "([III)I"⟩
abbrev cX12_pack : ByteArray := prog_14_method_25_code
def yX12_pack : MethodName := ⟨RX12, "pack", "()I"⟩
abbrev cX12_told : ByteArray := prog_14_method_26_code
def yX12_told : MethodName := ⟨RX12, "told", "(I)I"⟩
abbrev cX12_row : ByteArray := prog_14_method_27_code
def yX12_row : MethodName := ⟨RX12, "row", "(II)I"⟩
abbrev cX12_price : ByteArray := prog_14_method_28_code
def yX12_price : MethodName := ⟨RX12, "price", "(II)I"⟩
abbrev cX12_size : ByteArray := prog_14_method_29_code
def yX12_size : MethodName := ⟨RX12, "size", "()I"⟩
abbrev cX12_at : ByteArray := prog_14_method_30_code
def yX12_at : MethodName := ⟨RX12, "at", "(I)I"⟩
abbrev cX12_alter : ByteArray := prog_14_method_31_code
def yX12_alter : MethodName := ⟨RX12, "alter", "(II)I"⟩
abbrev cX12_add : ByteArray := prog_14_method_32_code
def yX12_add : MethodName := ⟨RX12, "add", "(I)I"⟩
abbrev cX12_cut : ByteArray := prog_14_method_33_code
def yX12_cut : MethodName := ⟨RX12, "cut", "(I)I"⟩
abbrev cX12_wrong : ByteArray := prog_14_method_34_code
def yX12_wrong : MethodName := ⟨RX12, "wrong", "(I)V"⟩
abbrev cX12_bit : ByteArray := prog_14_method_35_code
def yX12_bit : MethodName := ⟨RX12, "bit", "()I"⟩
abbrev cX12_number : ByteArray := prog_14_method_36_code
def yX12_number : MethodName := ⟨RX12, "number", "(I)J"⟩
abbrev cX12_signed : ByteArray := prog_14_method_37_code
def yX12_signed : MethodName := ⟨RX12, "signed", "(I)J"⟩
abbrev cX12_back : ByteArray := prog_14_method_38_code
def yX12_back : MethodName := ⟨RX12, "back", "(III)J"⟩
abbrev cX12_foreseen : ByteArray := prog_14_method_39_code
def yX12_foreseen : MethodName := ⟨RX12, "foreseen", "(IIII)J"⟩
abbrev cX12_readRow : ByteArray := prog_14_method_40_code
def yX12_readRow : MethodName := ⟨RX12, "readRow", "(II)V"⟩
abbrev cX12_readRests : ByteArray := prog_14_method_41_code
def yX12_readRests : MethodName := ⟨RX12, "readRests", "(IIII)V"⟩
abbrev cX12_readRest : ByteArray := prog_14_method_42_code
def yX12_readRest : MethodName := ⟨RX12, "readRest", "(II)J"⟩
abbrev cX12_openAt : ByteArray := prog_14_method_43_code
def yX12_openAt : MethodName := ⟨RX12, "openAt", "(I)I"⟩
abbrev cX12_untwist : ByteArray := prog_14_method_44_code
def yX12_untwist : MethodName := ⟨RX12, "untwist", "()V"⟩
abbrev cX12_open : ByteArray := prog_14_method_45_code
def yX12_open : MethodName := ⟨RX12, "open", "(I)I"⟩
abbrev cX12_shown : ByteArray := prog_14_method_46_code
def yX12_shown : MethodName := ⟨RX12, "shown", "(I)I"⟩
abbrev cX12_got : ByteArray := prog_14_method_47_code
def yX12_got : MethodName := ⟨RX12, "got", "(II)I"⟩
abbrev cX12_take : ByteArray := prog_14_method_48_code
def yX12_take : MethodName := ⟨RX12, "take", "()I"⟩
abbrev cX12_frames : ByteArray := prog_14_method_49_code
def yX12_frames : MethodName := ⟨RX12, "frames", "()I"⟩
def RJx00060 : String := "java/lang/ArrayIndexOutOfBoundsException"
def TJx00060 : u_T := fun k => match k with
  | 0 => ("java/lang/Throwable", "backtrace", "Ljava/lang/Object;", false)
  | 1 => ("java/lang/Throwable", "detailMessage", "Ljava/lang/String;", false)
  | 2 => ("java/lang/Throwable", "cause", "Ljava/lang/Throwable;", false)
  | 3 => ("java/lang/Throwable", "stackTrace", "[Ljava/lang/StackTraceElement;", false)
  | 4 => ("java/lang/Throwable", "depth", "I", false)
  | _ => ("java/lang/Throwable", "suppressedExceptions", "Ljava/util/List;", false)
def tyJx00060 : Nat → FieldType := fun k => match k with
  | 0 => .object "java/lang/Object"
  | 1 => .object "java/lang/String"
  | 2 => .object "java/lang/Throwable"
  | 3 => .array (.object "java/lang/StackTraceElement")
  | 4 => .int
  | _ => .object "java/util/List"
theorem nmJx00060 : ∀ a, a < 6 → ∀ b, b < 6 → a ≠ b → (TJx00060 a).2.1 ≠ (TJx00060 b).2.1 := by decide +kernel
theorem tyJx00060_ok : ∀ k, k < 6 → parseFieldDescriptor (TJx00060 k).2.2.1 = some (tyJx00060 k) := by decide +kernel
abbrev cJx00060_init_a7421 : ByteArray := prog_15_method_2_code
def yJx00060_init_a7421 : MethodName := ⟨RJx00060, "<init>", "(Ljava/lang/String;)V"⟩
def RJ6 : String := "java/lang/Integer"
def TJ6 : u_T := fun k => match k with
  | _ => ("", "", "", false)
def tyJ6 : Nat → FieldType := fun k => match k with
  | _ => .int
theorem nmJ6 : ∀ a, a < 0 → ∀ b, b < 0 → a ≠ b → (TJ6 a).2.1 ≠ (TJ6 b).2.1 := by decide +kernel
theorem tyJ6_ok : ∀ k, k < 0 → parseFieldDescriptor (TJ6 k).2.2.1 = some (tyJ6 k) := by decide +kernel
abbrev cJ6_numberOfLeadingZeros_0f7a4 : ByteArray := prog_18_method_47_code
def yJ6_numberOfLeadingZeros_0f7a4 : MethodName := ⟨RJ6, "numberOfLeadingZeros", "(I)I"⟩
abbrev cJ6_numberOfTrailingZeros_0f7a4 : ByteArray := prog_18_method_48_code
def yJ6_numberOfTrailingZeros_0f7a4 : MethodName := ⟨RJ6, "numberOfTrailingZeros", "(I)I"⟩
def RJ9 : String := "java/lang/Math"
def TJ9 : u_T := fun k => match k with
  | _ => ("", "", "", false)
def tyJ9 : Nat → FieldType := fun k => match k with
  | _ => .int
theorem nmJ9 : ∀ a, a < 0 → ∀ b, b < 0 → a ≠ b → (TJ9 a).2.1 ≠ (TJ9 b).2.1 := by decide +kernel
theorem tyJ9_ok : ∀ k, k < 0 → parseFieldDescriptor (TJ9 k).2.2.1 = some (tyJ9 k) := by decide +kernel
abbrev cJ9_min_7cf53 : ByteArray := prog_19_method_69_code
def yJ9_min_7cf53 : MethodName := ⟨RJ9, "min", "(II)I"⟩
def RJ0 : String := "java/lang/String"
def TJ0 : u_T := fun k => match k with
  | 0 => ("java/lang/String", "value", "[B", true)
  | _ => ("java/lang/String", "coder", "B", true)
def tyJ0 : Nat → FieldType := fun k => match k with
  | 0 => .array .byte
  | _ => .byte
theorem nmJ0 : ∀ a, a < 2 → ∀ b, b < 2 → a ≠ b → (TJ0 a).2.1 ≠ (TJ0 b).2.1 := by decide +kernel
theorem tyJ0_ok : ∀ k, k < 2 → parseFieldDescriptor (TJ0 k).2.2.1 = some (tyJ0 k) := by decide +kernel
def RJ10 : String := "java/lang/System"
def TJ10 : u_T := fun k => match k with
  | _ => ("", "", "", false)
def tyJ10 : Nat → FieldType := fun k => match k with
  | _ => .int
theorem nmJ10 : ∀ a, a < 0 → ∀ b, b < 0 → a ≠ b → (TJ10 a).2.1 ≠ (TJ10 b).2.1 := by decide +kernel
theorem tyJ10_ok : ∀ k, k < 0 → parseFieldDescriptor (TJ10 k).2.2.1 = some (tyJ10 k) := by decide +kernel
def RJ7 : String := "java/util/Arrays"
def TJ7 : u_T := fun k => match k with
  | _ => ("", "", "", false)
def tyJ7 : Nat → FieldType := fun k => match k with
  | _ => .int
theorem nmJ7 : ∀ a, a < 0 → ∀ b, b < 0 → a ≠ b → (TJ7 a).2.1 ≠ (TJ7 b).2.1 := by decide +kernel
theorem tyJ7_ok : ∀ k, k < 0 → parseFieldDescriptor (TJ7 k).2.2.1 = some (tyJ7 k) := by decide +kernel
abbrev cJ7_fill_d0a16 : ByteArray := prog_24_method_101_code
def yJ7_fill_d0a16 : MethodName := ⟨RJ7, "fill", "([JJ)V"⟩
abbrev cJ7_fill_53178 : ByteArray := prog_24_method_103_code
def yJ7_fill_53178 : MethodName := ⟨RJ7, "fill", "([II)V"⟩
def RL : String := "SamplePacksLaw"
abbrev cL_got : ByteArray := method_3_code
def yL_got : MethodName := ⟨RL, "got", "(LSamplePacks;II[J)I"⟩
abbrev cL_law : ByteArray := code
def yL_law : MethodName := ⟨RL, "law", "([I)Z"⟩
abbrev vwCl : List vw_C := [(RJ0, TJ0, 2), (RJx00060, TJx00060, 6), (RX0, TX0, 4), (RX1, TX1, 3), (RX2, TX2, 9), (RX3, TX3, 2), (RX4, TX4, 7), (RX5, TX5, 6), (RX6, TX6, 7), (RX7, TX7, 5), (RX8, TX8, 6), (RX9, TX9, 4), (RX10, TX10, 4), (RX11, TX11, 10), (RX12, TX12, 38)]
end
section
theorem dX0_init_0 : decode cX0_init 0 = .ok (.aload_n 0, 1) := by decide +kernel
theorem dX0_init_1 : decode cX0_init 1 = .ok (.invokespecial 3, 3) := by decide +kernel
theorem dX0_init_4 : decode cX0_init 4 = .ok (.aload_n 0, 1) := by decide +kernel
theorem dX0_init_5 : decode cX0_init 5 = .ok (.sipush 2400, 3) := by decide +kernel
theorem dX0_init_8 : decode cX0_init 8 = .ok (.newarray .int, 2) := by decide +kernel
theorem dX0_init_10 : decode cX0_init 10 = .ok (.putfield 9, 3) := by decide +kernel
theorem dX0_init_13 : decode cX0_init 13 = .ok (.return_, 1) := by decide +kernel
theorem dX0_has_0 : decode cX0_has 0 = .ok (.iload_n 1, 1) := by decide +kernel
theorem dX0_has_1 : decode cX0_has 1 = .ok (.ifCond .lt 15, 3) := by decide +kernel
theorem dX0_has_4 : decode cX0_has 4 = .ok (.iload_n 1, 1) := by decide +kernel
theorem dX0_has_5 : decode cX0_has 5 = .ok (.aload_n 0, 1) := by decide +kernel
theorem dX0_has_6 : decode cX0_has 6 = .ok (.getfield 15, 3) := by decide +kernel
theorem dX0_has_9 : decode cX0_has 9 = .ok (.if_icmp .ge 7, 3) := by decide +kernel
theorem dX0_has_12 : decode cX0_has 12 = .ok (.iconst 1, 1) := by decide +kernel
theorem dX0_has_13 : decode cX0_has 13 = .ok (.goto 4, 3) := by decide +kernel
theorem dX0_has_16 : decode cX0_has 16 = .ok (.iconst 0, 1) := by decide +kernel
theorem dX0_has_17 : decode cX0_has 17 = .ok (.ireturn, 1) := by decide +kernel
theorem dX0_begin_0 : decode cX0_begin 0 = .ok (.aload_n 0, 1) := by decide +kernel
theorem dX0_begin_1 : decode cX0_begin 1 = .ok (.bipush 8, 2) := by decide +kernel
theorem dX0_begin_3 : decode cX0_begin 3 = .ok (.iload_n 1, 1) := by decide +kernel
theorem dX0_begin_4 : decode cX0_begin 4 = .ok (.imul, 1) := by decide +kernel
theorem dX0_begin_5 : decode cX0_begin 5 = .ok (.putfield 19, 3) := by decide +kernel
theorem dX0_begin_8 : decode cX0_begin 8 = .ok (.aload_n 0, 1) := by decide +kernel
theorem dX0_begin_9 : decode cX0_begin 9 = .ok (.iconst 0, 1) := by decide +kernel
theorem dX0_begin_10 : decode cX0_begin 10 = .ok (.putfield 22, 3) := by decide +kernel
theorem dX0_begin_13 : decode cX0_begin 13 = .ok (.return_, 1) := by decide +kernel
theorem dX0_placeNow_0 : decode cX0_placeNow 0 = .ok (.aload_n 0, 1) := by decide +kernel
theorem dX0_placeNow_1 : decode cX0_placeNow 1 = .ok (.getfield 19, 3) := by decide +kernel
theorem dX0_placeNow_4 : decode cX0_placeNow 4 = .ok (.iconst 3, 1) := by decide +kernel
theorem dX0_placeNow_5 : decode cX0_placeNow 5 = .ok (.ishr, 1) := by decide +kernel
theorem dX0_placeNow_6 : decode cX0_placeNow 6 = .ok (.ireturn, 1) := by decide +kernel
theorem dX0_bitsToByte_0 : decode cX0_bitsToByte 0 = .ok (.aload_n 0, 1) := by decide +kernel
theorem dX0_bitsToByte_1 : decode cX0_bitsToByte 1 = .ok (.getfield 19, 3) := by decide +kernel
theorem dX0_bitsToByte_4 : decode cX0_bitsToByte 4 = .ok (.ineg, 1) := by decide +kernel
theorem dX0_bitsToByte_5 : decode cX0_bitsToByte 5 = .ok (.bipush 7, 2) := by decide +kernel
theorem dX0_bitsToByte_7 : decode cX0_bitsToByte 7 = .ok (.iand, 1) := by decide +kernel
theorem dX0_bitsToByte_8 : decode cX0_bitsToByte 8 = .ok (.ireturn, 1) := by decide +kernel
theorem dX0_sumOf_0 : decode cX0_sumOf 0 = .ok (.iconst 0, 1) := by decide +kernel
theorem dX0_sumOf_1 : decode cX0_sumOf 1 = .ok (.istore_n 3, 1) := by decide +kernel
theorem dX0_sumOf_2 : decode cX0_sumOf 2 = .ok (.iload_n 1, 1) := by decide +kernel
theorem dX0_sumOf_3 : decode cX0_sumOf 3 = .ok (.istore 4, 2) := by decide +kernel
theorem dX0_sumOf_5 : decode cX0_sumOf 5 = .ok (.iload 4, 2) := by decide +kernel
theorem dX0_sumOf_7 : decode cX0_sumOf 7 = .ok (.iload_n 2, 1) := by decide +kernel
theorem dX0_sumOf_8 : decode cX0_sumOf 8 = .ok (.if_icmp .ge 60, 3) := by decide +kernel
theorem dX0_sumOf_11 : decode cX0_sumOf 11 = .ok (.iload 4, 2) := by decide +kernel
theorem dX0_sumOf_13 : decode cX0_sumOf 13 = .ok (.sipush 2400, 3) := by decide +kernel
theorem dX0_sumOf_16 : decode cX0_sumOf 16 = .ok (.if_icmp .ge 52, 3) := by decide +kernel
theorem dX0_sumOf_19 : decode cX0_sumOf 19 = .ok (.iload_n 3, 1) := by decide +kernel
theorem dX0_sumOf_20 : decode cX0_sumOf 20 = .ok (.aload_n 0, 1) := by decide +kernel
theorem dX0_sumOf_21 : decode cX0_sumOf 21 = .ok (.getfield 9, 3) := by decide +kernel
theorem dX0_sumOf_24 : decode cX0_sumOf 24 = .ok (.iload 4, 2) := by decide +kernel
theorem dX0_sumOf_26 : decode cX0_sumOf 26 = .ok (.iaload, 1) := by decide +kernel
theorem dX0_sumOf_27 : decode cX0_sumOf 27 = .ok (.ixor, 1) := by decide +kernel
theorem dX0_sumOf_28 : decode cX0_sumOf 28 = .ok (.istore_n 3, 1) := by decide +kernel
theorem dX0_sumOf_29 : decode cX0_sumOf 29 = .ok (.iconst 0, 1) := by decide +kernel
theorem dX0_sumOf_30 : decode cX0_sumOf 30 = .ok (.istore 5, 2) := by decide +kernel
theorem dX0_sumOf_32 : decode cX0_sumOf 32 = .ok (.iload 5, 2) := by decide +kernel
theorem dX0_sumOf_34 : decode cX0_sumOf 34 = .ok (.bipush 8, 2) := by decide +kernel
theorem dX0_sumOf_36 : decode cX0_sumOf 36 = .ok (.if_icmp .ge 26, 3) := by decide +kernel
theorem dX0_sumOf_39 : decode cX0_sumOf 39 = .ok (.iload_n 3, 1) := by decide +kernel
theorem dX0_sumOf_40 : decode cX0_sumOf 40 = .ok (.iconst 2, 1) := by decide +kernel
theorem dX0_sumOf_41 : decode cX0_sumOf 41 = .ok (.imul, 1) := by decide +kernel
theorem dX0_sumOf_42 : decode cX0_sumOf 42 = .ok (.istore_n 3, 1) := by decide +kernel
theorem dX0_sumOf_43 : decode cX0_sumOf 43 = .ok (.iload_n 3, 1) := by decide +kernel
theorem dX0_sumOf_44 : decode cX0_sumOf 44 = .ok (.sipush 255, 3) := by decide +kernel
theorem dX0_sumOf_47 : decode cX0_sumOf 47 = .ok (.if_icmp .le 9, 3) := by decide +kernel
theorem dX0_sumOf_50 : decode cX0_sumOf 50 = .ok (.iload_n 3, 1) := by decide +kernel
theorem dX0_sumOf_51 : decode cX0_sumOf 51 = .ok (.sipush 263, 3) := by decide +kernel
theorem dX0_sumOf_54 : decode cX0_sumOf 54 = .ok (.ixor, 1) := by decide +kernel
theorem dX0_sumOf_55 : decode cX0_sumOf 55 = .ok (.istore_n 3, 1) := by decide +kernel
theorem dX0_sumOf_56 : decode cX0_sumOf 56 = .ok (.iinc 5 1, 3) := by decide +kernel
theorem dX0_sumOf_59 : decode cX0_sumOf 59 = .ok (.goto (-27), 3) := by decide +kernel
theorem dX0_sumOf_62 : decode cX0_sumOf 62 = .ok (.iinc 4 1, 3) := by decide +kernel
theorem dX0_sumOf_65 : decode cX0_sumOf 65 = .ok (.goto (-60), 3) := by decide +kernel
theorem dX0_sumOf_68 : decode cX0_sumOf 68 = .ok (.iload_n 3, 1) := by decide +kernel
theorem dX0_sumOf_69 : decode cX0_sumOf 69 = .ok (.ireturn, 1) := by decide +kernel
theorem dX0_write_0 : decode cX0_write 0 = .ok (.iload_n 2, 1) := by decide +kernel
theorem dX0_write_1 : decode cX0_write 1 = .ok (.iconst 1, 1) := by decide +kernel
theorem dX0_write_2 : decode cX0_write 2 = .ok (.isub, 1) := by decide +kernel
theorem dX0_write_3 : decode cX0_write 3 = .ok (.istore_n 3, 1) := by decide +kernel
theorem dX0_write_4 : decode cX0_write 4 = .ok (.iload_n 3, 1) := by decide +kernel
theorem dX0_write_5 : decode cX0_write 5 = .ok (.ifCond .lt 18, 3) := by decide +kernel
theorem dX0_write_8 : decode cX0_write 8 = .ok (.aload_n 0, 1) := by decide +kernel
theorem dX0_write_9 : decode cX0_write 9 = .ok (.iload_n 1, 1) := by decide +kernel
theorem dX0_write_10 : decode cX0_write 10 = .ok (.iload_n 3, 1) := by decide +kernel
theorem dX0_write_11 : decode cX0_write 11 = .ok (.ishr, 1) := by decide +kernel
theorem dX0_write_12 : decode cX0_write 12 = .ok (.iconst 1, 1) := by decide +kernel
theorem dX0_write_13 : decode cX0_write 13 = .ok (.iand, 1) := by decide +kernel
theorem dX0_write_14 : decode cX0_write 14 = .ok (.invokevirtual 25, 3) := by decide +kernel
theorem dX0_write_17 : decode cX0_write 17 = .ok (.iinc 3 (-1), 3) := by decide +kernel
theorem dX0_write_20 : decode cX0_write 20 = .ok (.goto (-16), 3) := by decide +kernel
theorem dX0_write_23 : decode cX0_write 23 = .ok (.return_, 1) := by decide +kernel
theorem dX0_writeBit_0 : decode cX0_writeBit 0 = .ok (.aload_n 0, 1) := by decide +kernel
theorem dX0_writeBit_1 : decode cX0_writeBit 1 = .ok (.getfield 19, 3) := by decide +kernel
theorem dX0_writeBit_4 : decode cX0_writeBit 4 = .ok (.iconst 3, 1) := by decide +kernel
theorem dX0_writeBit_5 : decode cX0_writeBit 5 = .ok (.ishr, 1) := by decide +kernel
theorem dX0_writeBit_6 : decode cX0_writeBit 6 = .ok (.istore_n 2, 1) := by decide +kernel
theorem dX0_writeBit_7 : decode cX0_writeBit 7 = .ok (.iload_n 2, 1) := by decide +kernel
theorem dX0_writeBit_8 : decode cX0_writeBit 8 = .ok (.sipush 2400, 3) := by decide +kernel
theorem dX0_writeBit_11 : decode cX0_writeBit 11 = .ok (.if_icmp .ge 56, 3) := by decide +kernel
theorem dX0_writeBit_14 : decode cX0_writeBit 14 = .ok (.sipush 128, 3) := by decide +kernel
theorem dX0_writeBit_17 : decode cX0_writeBit 17 = .ok (.aload_n 0, 1) := by decide +kernel
theorem dX0_writeBit_18 : decode cX0_writeBit 18 = .ok (.getfield 19, 3) := by decide +kernel
theorem dX0_writeBit_21 : decode cX0_writeBit 21 = .ok (.bipush 7, 2) := by decide +kernel
theorem dX0_writeBit_23 : decode cX0_writeBit 23 = .ok (.iand, 1) := by decide +kernel
theorem dX0_writeBit_24 : decode cX0_writeBit 24 = .ok (.ishr, 1) := by decide +kernel
theorem dX0_writeBit_25 : decode cX0_writeBit 25 = .ok (.istore_n 3, 1) := by decide +kernel
theorem dX0_writeBit_26 : decode cX0_writeBit 26 = .ok (.aload_n 0, 1) := by decide +kernel
theorem dX0_writeBit_27 : decode cX0_writeBit 27 = .ok (.getfield 9, 3) := by decide +kernel
theorem dX0_writeBit_30 : decode cX0_writeBit 30 = .ok (.iload_n 2, 1) := by decide +kernel
theorem dX0_writeBit_31 : decode cX0_writeBit 31 = .ok (.iload_n 1, 1) := by decide +kernel
theorem dX0_writeBit_32 : decode cX0_writeBit 32 = .ok (.ifCond .ne 16, 3) := by decide +kernel
theorem dX0_writeBit_35 : decode cX0_writeBit 35 = .ok (.aload_n 0, 1) := by decide +kernel
theorem dX0_writeBit_36 : decode cX0_writeBit 36 = .ok (.getfield 9, 3) := by decide +kernel
theorem dX0_writeBit_39 : decode cX0_writeBit 39 = .ok (.iload_n 2, 1) := by decide +kernel
theorem dX0_writeBit_40 : decode cX0_writeBit 40 = .ok (.iaload, 1) := by decide +kernel
theorem dX0_writeBit_41 : decode cX0_writeBit 41 = .ok (.iload_n 3, 1) := by decide +kernel
theorem dX0_writeBit_42 : decode cX0_writeBit 42 = .ok (.iconst (-1), 1) := by decide +kernel
theorem dX0_writeBit_43 : decode cX0_writeBit 43 = .ok (.ixor, 1) := by decide +kernel
theorem dX0_writeBit_44 : decode cX0_writeBit 44 = .ok (.iand, 1) := by decide +kernel
theorem dX0_writeBit_45 : decode cX0_writeBit 45 = .ok (.goto 11, 3) := by decide +kernel
theorem dX0_writeBit_48 : decode cX0_writeBit 48 = .ok (.aload_n 0, 1) := by decide +kernel
theorem dX0_writeBit_49 : decode cX0_writeBit 49 = .ok (.getfield 9, 3) := by decide +kernel
theorem dX0_writeBit_52 : decode cX0_writeBit 52 = .ok (.iload_n 2, 1) := by decide +kernel
theorem dX0_writeBit_53 : decode cX0_writeBit 53 = .ok (.iaload, 1) := by decide +kernel
theorem dX0_writeBit_54 : decode cX0_writeBit 54 = .ok (.iload_n 3, 1) := by decide +kernel
theorem dX0_writeBit_55 : decode cX0_writeBit 55 = .ok (.ior, 1) := by decide +kernel
theorem dX0_writeBit_56 : decode cX0_writeBit 56 = .ok (.iastore, 1) := by decide +kernel
theorem dX0_writeBit_57 : decode cX0_writeBit 57 = .ok (.aload_n 0, 1) := by decide +kernel
theorem dX0_writeBit_58 : decode cX0_writeBit 58 = .ok (.dup, 1) := by decide +kernel
theorem dX0_writeBit_59 : decode cX0_writeBit 59 = .ok (.getfield 19, 3) := by decide +kernel
theorem dX0_writeBit_62 : decode cX0_writeBit 62 = .ok (.iconst 1, 1) := by decide +kernel
theorem dX0_writeBit_63 : decode cX0_writeBit 63 = .ok (.iadd, 1) := by decide +kernel
theorem dX0_writeBit_64 : decode cX0_writeBit 64 = .ok (.putfield 19, 3) := by decide +kernel
theorem dX0_writeBit_67 : decode cX0_writeBit 67 = .ok (.return_, 1) := by decide +kernel
theorem dX0_writeFolded_0 : decode cX0_writeFolded 0 = .ok (.iconst 0, 1) := by decide +kernel
theorem dX0_writeFolded_1 : decode cX0_writeFolded 1 = .ok (.istore_n 3, 1) := by decide +kernel
theorem dX0_writeFolded_2 : decode cX0_writeFolded 2 = .ok (.iload_n 3, 1) := by decide +kernel
theorem dX0_writeFolded_3 : decode cX0_writeFolded 3 = .ok (.iload_n 1, 1) := by decide +kernel
theorem dX0_writeFolded_4 : decode cX0_writeFolded 4 = .ok (.iload_n 2, 1) := by decide +kernel
theorem dX0_writeFolded_5 : decode cX0_writeFolded 5 = .ok (.ishr, 1) := by decide +kernel
theorem dX0_writeFolded_6 : decode cX0_writeFolded 6 = .ok (.if_icmp .ge 14, 3) := by decide +kernel
theorem dX0_writeFolded_9 : decode cX0_writeFolded 9 = .ok (.aload_n 0, 1) := by decide +kernel
theorem dX0_writeFolded_10 : decode cX0_writeFolded 10 = .ok (.iconst 1, 1) := by decide +kernel
theorem dX0_writeFolded_11 : decode cX0_writeFolded 11 = .ok (.invokevirtual 25, 3) := by decide +kernel
theorem dX0_writeFolded_14 : decode cX0_writeFolded 14 = .ok (.iinc 3 1, 3) := by decide +kernel
theorem dX0_writeFolded_17 : decode cX0_writeFolded 17 = .ok (.goto (-15), 3) := by decide +kernel
theorem dX0_writeFolded_20 : decode cX0_writeFolded 20 = .ok (.aload_n 0, 1) := by decide +kernel
theorem dX0_writeFolded_21 : decode cX0_writeFolded 21 = .ok (.iconst 0, 1) := by decide +kernel
theorem dX0_writeFolded_22 : decode cX0_writeFolded 22 = .ok (.invokevirtual 25, 3) := by decide +kernel
theorem dX0_writeFolded_25 : decode cX0_writeFolded 25 = .ok (.aload_n 0, 1) := by decide +kernel
theorem dX0_writeFolded_26 : decode cX0_writeFolded 26 = .ok (.iload_n 1, 1) := by decide +kernel
theorem dX0_writeFolded_27 : decode cX0_writeFolded 27 = .ok (.iload_n 2, 1) := by decide +kernel
theorem dX0_writeFolded_28 : decode cX0_writeFolded 28 = .ok (.invokevirtual 29, 3) := by decide +kernel
theorem dX0_writeFolded_31 : decode cX0_writeFolded 31 = .ok (.return_, 1) := by decide +kernel
theorem dX0_faultIf_0 : decode cX0_faultIf 0 = .ok (.iload_n 1, 1) := by decide +kernel
theorem dX0_faultIf_1 : decode cX0_faultIf 1 = .ok (.ifCond .eq 15, 3) := by decide +kernel
theorem dX0_faultIf_4 : decode cX0_faultIf 4 = .ok (.aload_n 0, 1) := by decide +kernel
theorem dX0_faultIf_5 : decode cX0_faultIf 5 = .ok (.getfield 22, 3) := by decide +kernel
theorem dX0_faultIf_8 : decode cX0_faultIf 8 = .ok (.ifCond .ne 8, 3) := by decide +kernel
theorem dX0_faultIf_11 : decode cX0_faultIf 11 = .ok (.aload_n 0, 1) := by decide +kernel
theorem dX0_faultIf_12 : decode cX0_faultIf 12 = .ok (.iload_n 2, 1) := by decide +kernel
theorem dX0_faultIf_13 : decode cX0_faultIf 13 = .ok (.putfield 22, 3) := by decide +kernel
theorem dX0_faultIf_16 : decode cX0_faultIf 16 = .ok (.aload_n 0, 1) := by decide +kernel
theorem dX0_faultIf_17 : decode cX0_faultIf 17 = .ok (.getfield 22, 3) := by decide +kernel
theorem dX0_faultIf_20 : decode cX0_faultIf 20 = .ok (.ifCond .eq 7, 3) := by decide +kernel
theorem dX0_faultIf_23 : decode cX0_faultIf 23 = .ok (.iconst 1, 1) := by decide +kernel
theorem dX0_faultIf_24 : decode cX0_faultIf 24 = .ok (.goto 4, 3) := by decide +kernel
theorem dX0_faultIf_27 : decode cX0_faultIf 27 = .ok (.iconst 0, 1) := by decide +kernel
theorem dX0_faultIf_28 : decode cX0_faultIf 28 = .ok (.ireturn, 1) := by decide +kernel
theorem dX0_read_0 : decode cX0_read 0 = .ok (.aload_n 0, 1) := by decide +kernel
theorem dX0_read_1 : decode cX0_read 1 = .ok (.aload_n 0, 1) := by decide +kernel
theorem dX0_read_2 : decode cX0_read 2 = .ok (.getfield 19, 3) := by decide +kernel
theorem dX0_read_5 : decode cX0_read 5 = .ok (.iload_n 1, 1) := by decide +kernel
theorem dX0_read_6 : decode cX0_read 6 = .ok (.iadd, 1) := by decide +kernel
theorem dX0_read_7 : decode cX0_read 7 = .ok (.bipush 8, 2) := by decide +kernel
theorem dX0_read_9 : decode cX0_read 9 = .ok (.aload_n 0, 1) := by decide +kernel
theorem dX0_read_10 : decode cX0_read 10 = .ok (.getfield 15, 3) := by decide +kernel
theorem dX0_read_13 : decode cX0_read 13 = .ok (.imul, 1) := by decide +kernel
theorem dX0_read_14 : decode cX0_read 14 = .ok (.if_icmp .le 7, 3) := by decide +kernel
theorem dX0_read_17 : decode cX0_read 17 = .ok (.iconst 1, 1) := by decide +kernel
theorem dX0_read_18 : decode cX0_read 18 = .ok (.goto 4, 3) := by decide +kernel
theorem dX0_read_21 : decode cX0_read 21 = .ok (.iconst 0, 1) := by decide +kernel
theorem dX0_read_22 : decode cX0_read 22 = .ok (.iconst 1, 1) := by decide +kernel
theorem dX0_read_23 : decode cX0_read 23 = .ok (.invokevirtual 33, 3) := by decide +kernel
theorem dX0_read_26 : decode cX0_read 26 = .ok (.ifCond .eq 5, 3) := by decide +kernel
theorem dX0_read_29 : decode cX0_read 29 = .ok (.iconst 0, 1) := by decide +kernel
theorem dX0_read_30 : decode cX0_read 30 = .ok (.ireturn, 1) := by decide +kernel
theorem dX0_read_31 : decode cX0_read 31 = .ok (.iconst 0, 1) := by decide +kernel
theorem dX0_read_32 : decode cX0_read 32 = .ok (.istore_n 2, 1) := by decide +kernel
theorem dX0_read_33 : decode cX0_read 33 = .ok (.iconst 0, 1) := by decide +kernel
theorem dX0_read_34 : decode cX0_read 34 = .ok (.istore_n 3, 1) := by decide +kernel
theorem dX0_read_35 : decode cX0_read 35 = .ok (.iload_n 3, 1) := by decide +kernel
theorem dX0_read_36 : decode cX0_read 36 = .ok (.iload_n 1, 1) := by decide +kernel
theorem dX0_read_37 : decode cX0_read 37 = .ok (.if_icmp .ge 48, 3) := by decide +kernel
theorem dX0_read_40 : decode cX0_read 40 = .ok (.iconst 2, 1) := by decide +kernel
theorem dX0_read_41 : decode cX0_read 41 = .ok (.iload_n 2, 1) := by decide +kernel
theorem dX0_read_42 : decode cX0_read 42 = .ok (.imul, 1) := by decide +kernel
theorem dX0_read_43 : decode cX0_read 43 = .ok (.aload_n 0, 1) := by decide +kernel
theorem dX0_read_44 : decode cX0_read 44 = .ok (.getfield 9, 3) := by decide +kernel
theorem dX0_read_47 : decode cX0_read 47 = .ok (.aload_n 0, 1) := by decide +kernel
theorem dX0_read_48 : decode cX0_read 48 = .ok (.getfield 19, 3) := by decide +kernel
theorem dX0_read_51 : decode cX0_read 51 = .ok (.iconst 3, 1) := by decide +kernel
theorem dX0_read_52 : decode cX0_read 52 = .ok (.ishr, 1) := by decide +kernel
theorem dX0_read_53 : decode cX0_read 53 = .ok (.iaload, 1) := by decide +kernel
theorem dX0_read_54 : decode cX0_read 54 = .ok (.bipush 7, 2) := by decide +kernel
theorem dX0_read_56 : decode cX0_read 56 = .ok (.aload_n 0, 1) := by decide +kernel
theorem dX0_read_57 : decode cX0_read 57 = .ok (.getfield 19, 3) := by decide +kernel
theorem dX0_read_60 : decode cX0_read 60 = .ok (.bipush 7, 2) := by decide +kernel
theorem dX0_read_62 : decode cX0_read 62 = .ok (.iand, 1) := by decide +kernel
theorem dX0_read_63 : decode cX0_read 63 = .ok (.isub, 1) := by decide +kernel
theorem dX0_read_64 : decode cX0_read 64 = .ok (.ishr, 1) := by decide +kernel
theorem dX0_read_65 : decode cX0_read 65 = .ok (.iconst 1, 1) := by decide +kernel
theorem dX0_read_66 : decode cX0_read 66 = .ok (.iand, 1) := by decide +kernel
theorem dX0_read_67 : decode cX0_read 67 = .ok (.iadd, 1) := by decide +kernel
theorem dX0_read_68 : decode cX0_read 68 = .ok (.istore_n 2, 1) := by decide +kernel
theorem dX0_read_69 : decode cX0_read 69 = .ok (.aload_n 0, 1) := by decide +kernel
theorem dX0_read_70 : decode cX0_read 70 = .ok (.dup, 1) := by decide +kernel
theorem dX0_read_71 : decode cX0_read 71 = .ok (.getfield 19, 3) := by decide +kernel
theorem dX0_read_74 : decode cX0_read 74 = .ok (.iconst 1, 1) := by decide +kernel
theorem dX0_read_75 : decode cX0_read 75 = .ok (.iadd, 1) := by decide +kernel
theorem dX0_read_76 : decode cX0_read 76 = .ok (.putfield 19, 3) := by decide +kernel
theorem dX0_read_79 : decode cX0_read 79 = .ok (.iinc 3 1, 3) := by decide +kernel
theorem dX0_read_82 : decode cX0_read 82 = .ok (.goto (-47), 3) := by decide +kernel
theorem dX0_read_85 : decode cX0_read 85 = .ok (.iload_n 2, 1) := by decide +kernel
theorem dX0_read_86 : decode cX0_read 86 = .ok (.ireturn, 1) := by decide +kernel
theorem dX0_readSigned_0 : decode cX0_readSigned 0 = .ok (.iload_n 1, 1) := by decide +kernel
theorem dX0_readSigned_1 : decode cX0_readSigned 1 = .ok (.ifCond .ne 7, 3) := by decide +kernel
theorem dX0_readSigned_4 : decode cX0_readSigned 4 = .ok (.iconst 0, 1) := by decide +kernel
theorem dX0_readSigned_5 : decode cX0_readSigned 5 = .ok (.goto 12, 3) := by decide +kernel
theorem dX0_readSigned_8 : decode cX0_readSigned 8 = .ok (.aload_n 0, 1) := by decide +kernel
theorem dX0_readSigned_9 : decode cX0_readSigned 9 = .ok (.iload_n 1, 1) := by decide +kernel
theorem dX0_readSigned_10 : decode cX0_readSigned 10 = .ok (.invokevirtual 37, 3) := by decide +kernel
theorem dX0_readSigned_13 : decode cX0_readSigned 13 = .ok (.iload_n 1, 1) := by decide +kernel
theorem dX0_readSigned_14 : decode cX0_readSigned 14 = .ok (.invokestatic 41, 3) := by decide +kernel
theorem dX0_readSigned_17 : decode cX0_readSigned 17 = .ok (.ireturn, 1) := by decide +kernel
theorem dX0_readFolded_0 : decode cX0_readFolded 0 = .ok (.iconst 1, 1) := by decide +kernel
theorem dX0_readFolded_1 : decode cX0_readFolded 1 = .ok (.bipush 24, 2) := by decide +kernel
theorem dX0_readFolded_3 : decode cX0_readFolded 3 = .ok (.iload_n 1, 1) := by decide +kernel
theorem dX0_readFolded_4 : decode cX0_readFolded 4 = .ok (.isub, 1) := by decide +kernel
theorem dX0_readFolded_5 : decode cX0_readFolded 5 = .ok (.ishl, 1) := by decide +kernel
theorem dX0_readFolded_6 : decode cX0_readFolded 6 = .ok (.istore_n 2, 1) := by decide +kernel
theorem dX0_readFolded_7 : decode cX0_readFolded 7 = .ok (.iconst 0, 1) := by decide +kernel
theorem dX0_readFolded_8 : decode cX0_readFolded 8 = .ok (.istore_n 3, 1) := by decide +kernel
theorem dX0_readFolded_9 : decode cX0_readFolded 9 = .ok (.iload_n 3, 1) := by decide +kernel
theorem dX0_readFolded_10 : decode cX0_readFolded 10 = .ok (.iload_n 2, 1) := by decide +kernel
theorem dX0_readFolded_11 : decode cX0_readFolded 11 = .ok (.if_icmp .ge 30, 3) := by decide +kernel
theorem dX0_readFolded_14 : decode cX0_readFolded 14 = .ok (.aload_n 0, 1) := by decide +kernel
theorem dX0_readFolded_15 : decode cX0_readFolded 15 = .ok (.iconst 1, 1) := by decide +kernel
theorem dX0_readFolded_16 : decode cX0_readFolded 16 = .ok (.invokevirtual 37, 3) := by decide +kernel
theorem dX0_readFolded_19 : decode cX0_readFolded 19 = .ok (.ifCond .ne 16, 3) := by decide +kernel
theorem dX0_readFolded_22 : decode cX0_readFolded 22 = .ok (.iload_n 3, 1) := by decide +kernel
theorem dX0_readFolded_23 : decode cX0_readFolded 23 = .ok (.iload_n 1, 1) := by decide +kernel
theorem dX0_readFolded_24 : decode cX0_readFolded 24 = .ok (.ishl, 1) := by decide +kernel
theorem dX0_readFolded_25 : decode cX0_readFolded 25 = .ok (.aload_n 0, 1) := by decide +kernel
theorem dX0_readFolded_26 : decode cX0_readFolded 26 = .ok (.iload_n 1, 1) := by decide +kernel
theorem dX0_readFolded_27 : decode cX0_readFolded 27 = .ok (.invokevirtual 37, 3) := by decide +kernel
theorem dX0_readFolded_30 : decode cX0_readFolded 30 = .ok (.iadd, 1) := by decide +kernel
theorem dX0_readFolded_31 : decode cX0_readFolded 31 = .ok (.invokestatic 45, 3) := by decide +kernel
theorem dX0_readFolded_34 : decode cX0_readFolded 34 = .ok (.ireturn, 1) := by decide +kernel
theorem dX0_readFolded_35 : decode cX0_readFolded 35 = .ok (.iinc 3 1, 3) := by decide +kernel
theorem dX0_readFolded_38 : decode cX0_readFolded 38 = .ok (.goto (-29), 3) := by decide +kernel
theorem dX0_readFolded_41 : decode cX0_readFolded 41 = .ok (.aload_n 0, 1) := by decide +kernel
theorem dX0_readFolded_42 : decode cX0_readFolded 42 = .ok (.iconst 1, 1) := by decide +kernel
theorem dX0_readFolded_43 : decode cX0_readFolded 43 = .ok (.bipush 8, 2) := by decide +kernel
theorem dX0_readFolded_45 : decode cX0_readFolded 45 = .ok (.invokevirtual 33, 3) := by decide +kernel
theorem dX0_readFolded_48 : decode cX0_readFolded 48 = .ok (.pop, 1) := by decide +kernel
theorem dX0_readFolded_49 : decode cX0_readFolded 49 = .ok (.iconst 0, 1) := by decide +kernel
theorem dX0_readFolded_50 : decode cX0_readFolded 50 = .ok (.ireturn, 1) := by decide +kernel
theorem dX1_init_0 : decode cX1_init 0 = .ok (.aload_n 0, 1) := by decide +kernel
theorem dX1_init_1 : decode cX1_init 1 = .ok (.invokespecial 3, 3) := by decide +kernel
theorem dX1_init_4 : decode cX1_init 4 = .ok (.aload_n 0, 1) := by decide +kernel
theorem dX1_init_5 : decode cX1_init 5 = .ok (.iconst 4, 1) := by decide +kernel
theorem dX1_init_6 : decode cX1_init 6 = .ok (.newarray .int, 2) := by decide +kernel
theorem dX1_init_8 : decode cX1_init 8 = .ok (.putfield 9, 3) := by decide +kernel
theorem dX1_init_11 : decode cX1_init 11 = .ok (.return_, 1) := by decide +kernel
theorem dX1_becomeFixed_0 : decode cX1_becomeFixed 0 = .ok (.aload_n 0, 1) := by decide +kernel
theorem dX1_becomeFixed_1 : decode cX1_becomeFixed 1 = .ok (.iload_n 1, 1) := by decide +kernel
theorem dX1_becomeFixed_2 : decode cX1_becomeFixed 2 = .ok (.putfield 15, 3) := by decide +kernel
theorem dX1_becomeFixed_5 : decode cX1_becomeFixed 5 = .ok (.aload_n 0, 1) := by decide +kernel
theorem dX1_becomeFixed_6 : decode cX1_becomeFixed 6 = .ok (.iconst 0, 1) := by decide +kernel
theorem dX1_becomeFixed_7 : decode cX1_becomeFixed 7 = .ok (.putfield 19, 3) := by decide +kernel
theorem dX1_becomeFixed_10 : decode cX1_becomeFixed 10 = .ok (.iconst 0, 1) := by decide +kernel
theorem dX1_becomeFixed_11 : decode cX1_becomeFixed 11 = .ok (.istore_n 2, 1) := by decide +kernel
theorem dX1_becomeFixed_12 : decode cX1_becomeFixed 12 = .ok (.iload_n 2, 1) := by decide +kernel
theorem dX1_becomeFixed_13 : decode cX1_becomeFixed 13 = .ok (.iconst 4, 1) := by decide +kernel
theorem dX1_becomeFixed_14 : decode cX1_becomeFixed 14 = .ok (.if_icmp .ge 24, 3) := by decide +kernel
theorem dX1_becomeFixed_17 : decode cX1_becomeFixed 17 = .ok (.aload_n 0, 1) := by decide +kernel
theorem dX1_becomeFixed_18 : decode cX1_becomeFixed 18 = .ok (.getfield 9, 3) := by decide +kernel
theorem dX1_becomeFixed_21 : decode cX1_becomeFixed 21 = .ok (.iload_n 2, 1) := by decide +kernel
theorem dX1_becomeFixed_22 : decode cX1_becomeFixed 22 = .ok (.getstatic 22, 3) := by decide +kernel
theorem dX1_becomeFixed_25 : decode cX1_becomeFixed 25 = .ok (.iload_n 1, 1) := by decide +kernel
theorem dX1_becomeFixed_26 : decode cX1_becomeFixed 26 = .ok (.iconst 4, 1) := by decide +kernel
theorem dX1_becomeFixed_27 : decode cX1_becomeFixed 27 = .ok (.imul, 1) := by decide +kernel
theorem dX1_becomeFixed_28 : decode cX1_becomeFixed 28 = .ok (.iload_n 2, 1) := by decide +kernel
theorem dX1_becomeFixed_29 : decode cX1_becomeFixed 29 = .ok (.iadd, 1) := by decide +kernel
theorem dX1_becomeFixed_30 : decode cX1_becomeFixed 30 = .ok (.iaload, 1) := by decide +kernel
theorem dX1_becomeFixed_31 : decode cX1_becomeFixed 31 = .ok (.iastore, 1) := by decide +kernel
theorem dX1_becomeFixed_32 : decode cX1_becomeFixed 32 = .ok (.iinc 2 1, 3) := by decide +kernel
theorem dX1_becomeFixed_35 : decode cX1_becomeFixed 35 = .ok (.goto (-23), 3) := by decide +kernel
theorem dX1_becomeFixed_38 : decode cX1_becomeFixed 38 = .ok (.return_, 1) := by decide +kernel
theorem dX1_becomeTold_0 : decode cX1_becomeTold 0 = .ok (.aload_n 0, 1) := by decide +kernel
theorem dX1_becomeTold_1 : decode cX1_becomeTold 1 = .ok (.iload_n 1, 1) := by decide +kernel
theorem dX1_becomeTold_2 : decode cX1_becomeTold 2 = .ok (.putfield 15, 3) := by decide +kernel
theorem dX1_becomeTold_5 : decode cX1_becomeTold 5 = .ok (.aload_n 0, 1) := by decide +kernel
theorem dX1_becomeTold_6 : decode cX1_becomeTold 6 = .ok (.iload_n 2, 1) := by decide +kernel
theorem dX1_becomeTold_7 : decode cX1_becomeTold 7 = .ok (.putfield 19, 3) := by decide +kernel
theorem dX1_becomeTold_10 : decode cX1_becomeTold 10 = .ok (.iconst 0, 1) := by decide +kernel
theorem dX1_becomeTold_11 : decode cX1_becomeTold 11 = .ok (.istore 5, 2) := by decide +kernel
theorem dX1_becomeTold_13 : decode cX1_becomeTold 13 = .ok (.iload 5, 2) := by decide +kernel
theorem dX1_becomeTold_15 : decode cX1_becomeTold 15 = .ok (.iload_n 1, 1) := by decide +kernel
theorem dX1_becomeTold_16 : decode cX1_becomeTold 16 = .ok (.if_icmp .ge 29, 3) := by decide +kernel
theorem dX1_becomeTold_19 : decode cX1_becomeTold 19 = .ok (.aload_n 0, 1) := by decide +kernel
theorem dX1_becomeTold_20 : decode cX1_becomeTold 20 = .ok (.getfield 9, 3) := by decide +kernel
theorem dX1_becomeTold_23 : decode cX1_becomeTold 23 = .ok (.iload 5, 2) := by decide +kernel
theorem dX1_becomeTold_25 : decode cX1_becomeTold 25 = .ok (.lload_n 3, 1) := by decide +kernel
theorem dX1_becomeTold_26 : decode cX1_becomeTold 26 = .ok (.iload 5, 2) := by decide +kernel
theorem dX1_becomeTold_28 : decode cX1_becomeTold 28 = .ok (.bipush 10, 2) := by decide +kernel
theorem dX1_becomeTold_30 : decode cX1_becomeTold 30 = .ok (.imul, 1) := by decide +kernel
theorem dX1_becomeTold_31 : decode cX1_becomeTold 31 = .ok (.lshr, 1) := by decide +kernel
theorem dX1_becomeTold_32 : decode cX1_becomeTold 32 = .ok (.l2i, 1) := by decide +kernel
theorem dX1_becomeTold_33 : decode cX1_becomeTold 33 = .ok (.bipush 10, 2) := by decide +kernel
theorem dX1_becomeTold_35 : decode cX1_becomeTold 35 = .ok (.invokestatic 25, 3) := by decide +kernel
theorem dX1_becomeTold_38 : decode cX1_becomeTold 38 = .ok (.iastore, 1) := by decide +kernel
theorem dX1_becomeTold_39 : decode cX1_becomeTold 39 = .ok (.iinc 5 1, 3) := by decide +kernel
theorem dX1_becomeTold_42 : decode cX1_becomeTold 42 = .ok (.goto (-29), 3) := by decide +kernel
theorem dX1_becomeTold_45 : decode cX1_becomeTold 45 = .ok (.return_, 1) := by decide +kernel
theorem dX1_foretell_0 : decode cX1_foretell 0 = .ok (.iconst 0, 1) := by decide +kernel
theorem dX1_foretell_1 : decode cX1_foretell 1 = .ok (.istore_n 3, 1) := by decide +kernel
theorem dX1_foretell_2 : decode cX1_foretell 2 = .ok (.iconst 0, 1) := by decide +kernel
theorem dX1_foretell_3 : decode cX1_foretell 3 = .ok (.istore 4, 2) := by decide +kernel
theorem dX1_foretell_5 : decode cX1_foretell 5 = .ok (.iload 4, 2) := by decide +kernel
theorem dX1_foretell_7 : decode cX1_foretell 7 = .ok (.aload_n 0, 1) := by decide +kernel
theorem dX1_foretell_8 : decode cX1_foretell 8 = .ok (.getfield 15, 3) := by decide +kernel
theorem dX1_foretell_11 : decode cX1_foretell 11 = .ok (.if_icmp .ge 34, 3) := by decide +kernel
theorem dX1_foretell_14 : decode cX1_foretell 14 = .ok (.iload 4, 2) := by decide +kernel
theorem dX1_foretell_16 : decode cX1_foretell 16 = .ok (.iload_n 2, 1) := by decide +kernel
theorem dX1_foretell_17 : decode cX1_foretell 17 = .ok (.if_icmp .ge 28, 3) := by decide +kernel
theorem dX1_foretell_20 : decode cX1_foretell 20 = .ok (.iload_n 3, 1) := by decide +kernel
theorem dX1_foretell_21 : decode cX1_foretell 21 = .ok (.aload_n 0, 1) := by decide +kernel
theorem dX1_foretell_22 : decode cX1_foretell 22 = .ok (.getfield 9, 3) := by decide +kernel
theorem dX1_foretell_25 : decode cX1_foretell 25 = .ok (.iload 4, 2) := by decide +kernel
theorem dX1_foretell_27 : decode cX1_foretell 27 = .ok (.iaload, 1) := by decide +kernel
theorem dX1_foretell_28 : decode cX1_foretell 28 = .ok (.aload_n 1, 1) := by decide +kernel
theorem dX1_foretell_29 : decode cX1_foretell 29 = .ok (.iload_n 2, 1) := by decide +kernel
theorem dX1_foretell_30 : decode cX1_foretell 30 = .ok (.iconst 1, 1) := by decide +kernel
theorem dX1_foretell_31 : decode cX1_foretell 31 = .ok (.isub, 1) := by decide +kernel
theorem dX1_foretell_32 : decode cX1_foretell 32 = .ok (.iload 4, 2) := by decide +kernel
theorem dX1_foretell_34 : decode cX1_foretell 34 = .ok (.isub, 1) := by decide +kernel
theorem dX1_foretell_35 : decode cX1_foretell 35 = .ok (.iaload, 1) := by decide +kernel
theorem dX1_foretell_36 : decode cX1_foretell 36 = .ok (.imul, 1) := by decide +kernel
theorem dX1_foretell_37 : decode cX1_foretell 37 = .ok (.iadd, 1) := by decide +kernel
theorem dX1_foretell_38 : decode cX1_foretell 38 = .ok (.istore_n 3, 1) := by decide +kernel
theorem dX1_foretell_39 : decode cX1_foretell 39 = .ok (.iinc 4 1, 3) := by decide +kernel
theorem dX1_foretell_42 : decode cX1_foretell 42 = .ok (.goto (-37), 3) := by decide +kernel
theorem dX1_foretell_45 : decode cX1_foretell 45 = .ok (.iload_n 3, 1) := by decide +kernel
theorem dX1_foretell_46 : decode cX1_foretell 46 = .ok (.aload_n 0, 1) := by decide +kernel
theorem dX1_foretell_47 : decode cX1_foretell 47 = .ok (.getfield 19, 3) := by decide +kernel
theorem dX1_foretell_50 : decode cX1_foretell 50 = .ok (.ishr, 1) := by decide +kernel
theorem dX1_foretell_51 : decode cX1_foretell 51 = .ok (.ireturn, 1) := by decide +kernel
theorem dX2_init_0 : decode cX2_init 0 = .ok (.aload_n 0, 1) := by decide +kernel
theorem dX2_init_1 : decode cX2_init 1 = .ok (.invokespecial 3, 3) := by decide +kernel
theorem dX2_init_4 : decode cX2_init 4 = .ok (.aload_n 0, 1) := by decide +kernel
theorem dX2_init_5 : decode cX2_init 5 = .ok (.iconst 4, 1) := by decide +kernel
theorem dX2_init_6 : decode cX2_init 6 = .ok (.anewarray 9, 3) := by decide +kernel
theorem dX2_init_9 : decode cX2_init 9 = .ok (.dup, 1) := by decide +kernel
theorem dX2_init_10 : decode cX2_init 10 = .ok (.iconst 0, 1) := by decide +kernel
theorem dX2_init_11 : decode cX2_init 11 = .ok (.new 9, 3) := by decide +kernel
theorem dX2_init_14 : decode cX2_init 14 = .ok (.dup, 1) := by decide +kernel
theorem dX2_init_15 : decode cX2_init 15 = .ok (.invokespecial 11, 3) := by decide +kernel
theorem dX2_init_18 : decode cX2_init 18 = .ok (.aastore, 1) := by decide +kernel
theorem dX2_init_19 : decode cX2_init 19 = .ok (.dup, 1) := by decide +kernel
theorem dX2_init_20 : decode cX2_init 20 = .ok (.iconst 1, 1) := by decide +kernel
theorem dX2_init_21 : decode cX2_init 21 = .ok (.new 9, 3) := by decide +kernel
theorem dX2_init_24 : decode cX2_init 24 = .ok (.dup, 1) := by decide +kernel
theorem dX2_init_25 : decode cX2_init 25 = .ok (.invokespecial 11, 3) := by decide +kernel
theorem dX2_init_28 : decode cX2_init 28 = .ok (.aastore, 1) := by decide +kernel
theorem dX2_init_29 : decode cX2_init 29 = .ok (.dup, 1) := by decide +kernel
theorem dX2_init_30 : decode cX2_init 30 = .ok (.iconst 2, 1) := by decide +kernel
theorem dX2_init_31 : decode cX2_init 31 = .ok (.new 9, 3) := by decide +kernel
theorem dX2_init_34 : decode cX2_init 34 = .ok (.dup, 1) := by decide +kernel
theorem dX2_init_35 : decode cX2_init 35 = .ok (.invokespecial 11, 3) := by decide +kernel
theorem dX2_init_38 : decode cX2_init 38 = .ok (.aastore, 1) := by decide +kernel
theorem dX2_init_39 : decode cX2_init 39 = .ok (.dup, 1) := by decide +kernel
theorem dX2_init_40 : decode cX2_init 40 = .ok (.iconst 3, 1) := by decide +kernel
theorem dX2_init_41 : decode cX2_init 41 = .ok (.new 9, 3) := by decide +kernel
theorem dX2_init_44 : decode cX2_init 44 = .ok (.dup, 1) := by decide +kernel
theorem dX2_init_45 : decode cX2_init 45 = .ok (.invokespecial 11, 3) := by decide +kernel
theorem dX2_init_48 : decode cX2_init 48 = .ok (.aastore, 1) := by decide +kernel
theorem dX2_init_49 : decode cX2_init 49 = .ok (.putfield 12, 3) := by decide +kernel
theorem dX2_init_52 : decode cX2_init 52 = .ok (.aload_n 0, 1) := by decide +kernel
theorem dX2_init_53 : decode cX2_init 53 = .ok (.new 18, 3) := by decide +kernel
theorem dX2_init_56 : decode cX2_init 56 = .ok (.dup, 1) := by decide +kernel
theorem dX2_init_57 : decode cX2_init 57 = .ok (.aload_n 2, 1) := by decide +kernel
theorem dX2_init_58 : decode cX2_init 58 = .ok (.invokespecial 20, 3) := by decide +kernel
theorem dX2_init_61 : decode cX2_init 61 = .ok (.putfield 23, 3) := by decide +kernel
theorem dX2_init_64 : decode cX2_init 64 = .ok (.aload_n 0, 1) := by decide +kernel
theorem dX2_init_65 : decode cX2_init 65 = .ok (.aload_n 3, 1) := by decide +kernel
theorem dX2_init_66 : decode cX2_init 66 = .ok (.putfield 27, 3) := by decide +kernel
theorem dX2_init_69 : decode cX2_init 69 = .ok (.aload_n 0, 1) := by decide +kernel
theorem dX2_init_70 : decode cX2_init 70 = .ok (.iconst 4, 1) := by decide +kernel
theorem dX2_init_71 : decode cX2_init 71 = .ok (.anewarray 31, 3) := by decide +kernel
theorem dX2_init_74 : decode cX2_init 74 = .ok (.dup, 1) := by decide +kernel
theorem dX2_init_75 : decode cX2_init 75 = .ok (.iconst 0, 1) := by decide +kernel
theorem dX2_init_76 : decode cX2_init 76 = .ok (.aload_n 1, 1) := by decide +kernel
theorem dX2_init_77 : decode cX2_init 77 = .ok (.iconst 0, 1) := by decide +kernel
theorem dX2_init_78 : decode cX2_init 78 = .ok (.aaload, 1) := by decide +kernel
theorem dX2_init_79 : decode cX2_init 79 = .ok (.aastore, 1) := by decide +kernel
theorem dX2_init_80 : decode cX2_init 80 = .ok (.dup, 1) := by decide +kernel
theorem dX2_init_81 : decode cX2_init 81 = .ok (.iconst 1, 1) := by decide +kernel
theorem dX2_init_82 : decode cX2_init 82 = .ok (.aload_n 1, 1) := by decide +kernel
theorem dX2_init_83 : decode cX2_init 83 = .ok (.iconst 1, 1) := by decide +kernel
theorem dX2_init_84 : decode cX2_init 84 = .ok (.aaload, 1) := by decide +kernel
theorem dX2_init_85 : decode cX2_init 85 = .ok (.aastore, 1) := by decide +kernel
theorem dX2_init_86 : decode cX2_init 86 = .ok (.dup, 1) := by decide +kernel
theorem dX2_init_87 : decode cX2_init 87 = .ok (.iconst 2, 1) := by decide +kernel
theorem dX2_init_88 : decode cX2_init 88 = .ok (.sipush 400, 3) := by decide +kernel
theorem dX2_init_91 : decode cX2_init 91 = .ok (.newarray .int, 2) := by decide +kernel
theorem dX2_init_93 : decode cX2_init 93 = .ok (.aastore, 1) := by decide +kernel
theorem dX2_init_94 : decode cX2_init 94 = .ok (.dup, 1) := by decide +kernel
theorem dX2_init_95 : decode cX2_init 95 = .ok (.iconst 3, 1) := by decide +kernel
theorem dX2_init_96 : decode cX2_init 96 = .ok (.sipush 400, 3) := by decide +kernel
theorem dX2_init_99 : decode cX2_init 99 = .ok (.newarray .int, 2) := by decide +kernel
theorem dX2_init_101 : decode cX2_init 101 = .ok (.aastore, 1) := by decide +kernel
theorem dX2_init_102 : decode cX2_init 102 = .ok (.putfield 33, 3) := by decide +kernel
theorem dX2_init_105 : decode cX2_init 105 = .ok (.return_, 1) := by decide +kernel
theorem dX2_chooseFrame_0 : decode cX2_chooseFrame 0 = .ok (.aload_n 0, 1) := by decide +kernel
theorem dX2_chooseFrame_1 : decode cX2_chooseFrame 1 = .ok (.iload_n 1, 1) := by decide +kernel
theorem dX2_chooseFrame_2 : decode cX2_chooseFrame 2 = .ok (.putfield 37, 3) := by decide +kernel
theorem dX2_chooseFrame_5 : decode cX2_chooseFrame 5 = .ok (.aload_n 0, 1) := by decide +kernel
theorem dX2_chooseFrame_6 : decode cX2_chooseFrame 6 = .ok (.iload_n 2, 1) := by decide +kernel
theorem dX2_chooseFrame_7 : decode cX2_chooseFrame 7 = .ok (.putfield 41, 3) := by decide +kernel
theorem dX2_chooseFrame_10 : decode cX2_chooseFrame 10 = .ok (.aload_n 0, 1) := by decide +kernel
theorem dX2_chooseFrame_11 : decode cX2_chooseFrame 11 = .ok (.iload_n 3, 1) := by decide +kernel
theorem dX2_chooseFrame_12 : decode cX2_chooseFrame 12 = .ok (.putfield 44, 3) := by decide +kernel
theorem dX2_chooseFrame_15 : decode cX2_chooseFrame 15 = .ok (.aload_n 0, 1) := by decide +kernel
theorem dX2_chooseFrame_16 : decode cX2_chooseFrame 16 = .ok (.getfield 41, 3) := by decide +kernel
theorem dX2_chooseFrame_19 : decode cX2_chooseFrame 19 = .ok (.iconst 2, 1) := by decide +kernel
theorem dX2_chooseFrame_20 : decode cX2_chooseFrame 20 = .ok (.if_icmp .ne 7, 3) := by decide +kernel
theorem dX2_chooseFrame_23 : decode cX2_chooseFrame 23 = .ok (.aload_n 0, 1) := by decide +kernel
theorem dX2_chooseFrame_24 : decode cX2_chooseFrame 24 = .ok (.invokevirtual 47, 3) := by decide +kernel
theorem dX2_chooseFrame_27 : decode cX2_chooseFrame 27 = .ok (.aload_n 0, 1) := by decide +kernel
theorem dX2_chooseFrame_28 : decode cX2_chooseFrame 28 = .ok (.getfield 41, 3) := by decide +kernel
theorem dX2_chooseFrame_31 : decode cX2_chooseFrame 31 = .ok (.iconst 2, 1) := by decide +kernel
theorem dX2_chooseFrame_32 : decode cX2_chooseFrame 32 = .ok (.if_icmp .ne 11, 3) := by decide +kernel
theorem dX2_chooseFrame_35 : decode cX2_chooseFrame 35 = .ok (.aload_n 0, 1) := by decide +kernel
theorem dX2_chooseFrame_36 : decode cX2_chooseFrame 36 = .ok (.getfield 33, 3) := by decide +kernel
theorem dX2_chooseFrame_39 : decode cX2_chooseFrame 39 = .ok (.arraylength, 1) := by decide +kernel
theorem dX2_chooseFrame_40 : decode cX2_chooseFrame 40 = .ok (.goto 4, 3) := by decide +kernel
theorem dX2_chooseFrame_43 : decode cX2_chooseFrame 43 = .ok (.iconst 1, 1) := by decide +kernel
theorem dX2_chooseFrame_44 : decode cX2_chooseFrame 44 = .ok (.istore 4, 2) := by decide +kernel
theorem dX2_chooseFrame_46 : decode cX2_chooseFrame 46 = .ok (.iconst 0, 1) := by decide +kernel
theorem dX2_chooseFrame_47 : decode cX2_chooseFrame 47 = .ok (.istore 5, 2) := by decide +kernel
theorem dX2_chooseFrame_49 : decode cX2_chooseFrame 49 = .ok (.iload 5, 2) := by decide +kernel
theorem dX2_chooseFrame_51 : decode cX2_chooseFrame 51 = .ok (.iload 4, 2) := by decide +kernel
theorem dX2_chooseFrame_53 : decode cX2_chooseFrame 53 = .ok (.if_icmp .ge 43, 3) := by decide +kernel
theorem dX2_chooseFrame_56 : decode cX2_chooseFrame 56 = .ok (.aload_n 0, 1) := by decide +kernel
theorem dX2_chooseFrame_57 : decode cX2_chooseFrame 57 = .ok (.getfield 23, 3) := by decide +kernel
theorem dX2_chooseFrame_60 : decode cX2_chooseFrame 60 = .ok (.aload_n 0, 1) := by decide +kernel
theorem dX2_chooseFrame_61 : decode cX2_chooseFrame 61 = .ok (.getfield 33, 3) := by decide +kernel
theorem dX2_chooseFrame_64 : decode cX2_chooseFrame 64 = .ok (.iload 5, 2) := by decide +kernel
theorem dX2_chooseFrame_66 : decode cX2_chooseFrame 66 = .ok (.aaload, 1) := by decide +kernel
theorem dX2_chooseFrame_67 : decode cX2_chooseFrame 67 = .ok (.aload_n 0, 1) := by decide +kernel
theorem dX2_chooseFrame_68 : decode cX2_chooseFrame 68 = .ok (.getfield 37, 3) := by decide +kernel
theorem dX2_chooseFrame_71 : decode cX2_chooseFrame 71 = .ok (.iload 5, 2) := by decide +kernel
theorem dX2_chooseFrame_73 : decode cX2_chooseFrame 73 = .ok (.aload_n 0, 1) := by decide +kernel
theorem dX2_chooseFrame_74 : decode cX2_chooseFrame 74 = .ok (.getfield 44, 3) := by decide +kernel
theorem dX2_chooseFrame_77 : decode cX2_chooseFrame 77 = .ok (.invokestatic 50, 3) := by decide +kernel
theorem dX2_chooseFrame_80 : decode cX2_chooseFrame 80 = .ok (.aload_n 0, 1) := by decide +kernel
theorem dX2_chooseFrame_81 : decode cX2_chooseFrame 81 = .ok (.getfield 12, 3) := by decide +kernel
theorem dX2_chooseFrame_84 : decode cX2_chooseFrame 84 = .ok (.iload 5, 2) := by decide +kernel
theorem dX2_chooseFrame_86 : decode cX2_chooseFrame 86 = .ok (.aaload, 1) := by decide +kernel
theorem dX2_chooseFrame_87 : decode cX2_chooseFrame 87 = .ok (.invokevirtual 54, 3) := by decide +kernel
theorem dX2_chooseFrame_90 : decode cX2_chooseFrame 90 = .ok (.iinc 5 1, 3) := by decide +kernel
theorem dX2_chooseFrame_93 : decode cX2_chooseFrame 93 = .ok (.goto (-44), 3) := by decide +kernel
theorem dX2_chooseFrame_96 : decode cX2_chooseFrame 96 = .ok (.aload_n 0, 1) := by decide +kernel
theorem dX2_chooseFrame_97 : decode cX2_chooseFrame 97 = .ok (.invokevirtual 58, 3) := by decide +kernel
theorem dX2_chooseFrame_100 : decode cX2_chooseFrame 100 = .ok (.return_, 1) := by decide +kernel
theorem dX2_mixChannels_0 : decode cX2_mixChannels 0 = .ok (.iconst 0, 1) := by decide +kernel
theorem dX2_mixChannels_1 : decode cX2_mixChannels 1 = .ok (.istore_n 1, 1) := by decide +kernel
theorem dX2_mixChannels_2 : decode cX2_mixChannels 2 = .ok (.iload_n 1, 1) := by decide +kernel
theorem dX2_mixChannels_3 : decode cX2_mixChannels 3 = .ok (.aload_n 0, 1) := by decide +kernel
theorem dX2_mixChannels_4 : decode cX2_mixChannels 4 = .ok (.getfield 37, 3) := by decide +kernel
theorem dX2_mixChannels_7 : decode cX2_mixChannels 7 = .ok (.if_icmp .ge 61, 3) := by decide +kernel
theorem dX2_mixChannels_10 : decode cX2_mixChannels 10 = .ok (.aload_n 0, 1) := by decide +kernel
theorem dX2_mixChannels_11 : decode cX2_mixChannels 11 = .ok (.getfield 33, 3) := by decide +kernel
theorem dX2_mixChannels_14 : decode cX2_mixChannels 14 = .ok (.iconst 2, 1) := by decide +kernel
theorem dX2_mixChannels_15 : decode cX2_mixChannels 15 = .ok (.aaload, 1) := by decide +kernel
theorem dX2_mixChannels_16 : decode cX2_mixChannels 16 = .ok (.iload_n 1, 1) := by decide +kernel
theorem dX2_mixChannels_17 : decode cX2_mixChannels 17 = .ok (.aload_n 0, 1) := by decide +kernel
theorem dX2_mixChannels_18 : decode cX2_mixChannels 18 = .ok (.getfield 33, 3) := by decide +kernel
theorem dX2_mixChannels_21 : decode cX2_mixChannels 21 = .ok (.iconst 0, 1) := by decide +kernel
theorem dX2_mixChannels_22 : decode cX2_mixChannels 22 = .ok (.aaload, 1) := by decide +kernel
theorem dX2_mixChannels_23 : decode cX2_mixChannels 23 = .ok (.iload_n 1, 1) := by decide +kernel
theorem dX2_mixChannels_24 : decode cX2_mixChannels 24 = .ok (.iaload, 1) := by decide +kernel
theorem dX2_mixChannels_25 : decode cX2_mixChannels 25 = .ok (.aload_n 0, 1) := by decide +kernel
theorem dX2_mixChannels_26 : decode cX2_mixChannels 26 = .ok (.getfield 33, 3) := by decide +kernel
theorem dX2_mixChannels_29 : decode cX2_mixChannels 29 = .ok (.iconst 1, 1) := by decide +kernel
theorem dX2_mixChannels_30 : decode cX2_mixChannels 30 = .ok (.aaload, 1) := by decide +kernel
theorem dX2_mixChannels_31 : decode cX2_mixChannels 31 = .ok (.iload_n 1, 1) := by decide +kernel
theorem dX2_mixChannels_32 : decode cX2_mixChannels 32 = .ok (.iaload, 1) := by decide +kernel
theorem dX2_mixChannels_33 : decode cX2_mixChannels 33 = .ok (.isub, 1) := by decide +kernel
theorem dX2_mixChannels_34 : decode cX2_mixChannels 34 = .ok (.iastore, 1) := by decide +kernel
theorem dX2_mixChannels_35 : decode cX2_mixChannels 35 = .ok (.aload_n 0, 1) := by decide +kernel
theorem dX2_mixChannels_36 : decode cX2_mixChannels 36 = .ok (.getfield 33, 3) := by decide +kernel
theorem dX2_mixChannels_39 : decode cX2_mixChannels 39 = .ok (.iconst 3, 1) := by decide +kernel
theorem dX2_mixChannels_40 : decode cX2_mixChannels 40 = .ok (.aaload, 1) := by decide +kernel
theorem dX2_mixChannels_41 : decode cX2_mixChannels 41 = .ok (.iload_n 1, 1) := by decide +kernel
theorem dX2_mixChannels_42 : decode cX2_mixChannels 42 = .ok (.aload_n 0, 1) := by decide +kernel
theorem dX2_mixChannels_43 : decode cX2_mixChannels 43 = .ok (.getfield 33, 3) := by decide +kernel
theorem dX2_mixChannels_46 : decode cX2_mixChannels 46 = .ok (.iconst 0, 1) := by decide +kernel
theorem dX2_mixChannels_47 : decode cX2_mixChannels 47 = .ok (.aaload, 1) := by decide +kernel
theorem dX2_mixChannels_48 : decode cX2_mixChannels 48 = .ok (.iload_n 1, 1) := by decide +kernel
theorem dX2_mixChannels_49 : decode cX2_mixChannels 49 = .ok (.iaload, 1) := by decide +kernel
theorem dX2_mixChannels_50 : decode cX2_mixChannels 50 = .ok (.aload_n 0, 1) := by decide +kernel
theorem dX2_mixChannels_51 : decode cX2_mixChannels 51 = .ok (.getfield 33, 3) := by decide +kernel
theorem dX2_mixChannels_54 : decode cX2_mixChannels 54 = .ok (.iconst 1, 1) := by decide +kernel
theorem dX2_mixChannels_55 : decode cX2_mixChannels 55 = .ok (.aaload, 1) := by decide +kernel
theorem dX2_mixChannels_56 : decode cX2_mixChannels 56 = .ok (.iload_n 1, 1) := by decide +kernel
theorem dX2_mixChannels_57 : decode cX2_mixChannels 57 = .ok (.iaload, 1) := by decide +kernel
theorem dX2_mixChannels_58 : decode cX2_mixChannels 58 = .ok (.iadd, 1) := by decide +kernel
theorem dX2_mixChannels_59 : decode cX2_mixChannels 59 = .ok (.iconst 1, 1) := by decide +kernel
theorem dX2_mixChannels_60 : decode cX2_mixChannels 60 = .ok (.ishr, 1) := by decide +kernel
theorem dX2_mixChannels_61 : decode cX2_mixChannels 61 = .ok (.iastore, 1) := by decide +kernel
theorem dX2_mixChannels_62 : decode cX2_mixChannels 62 = .ok (.iinc 1 1, 3) := by decide +kernel
theorem dX2_mixChannels_65 : decode cX2_mixChannels 65 = .ok (.goto (-63), 3) := by decide +kernel
theorem dX2_mixChannels_68 : decode cX2_mixChannels 68 = .ok (.return_, 1) := by decide +kernel
theorem dX2_chooseTurn_0 : decode cX2_chooseTurn 0 = .ok (.aload_n 0, 1) := by decide +kernel
theorem dX2_chooseTurn_1 : decode cX2_chooseTurn 1 = .ok (.iconst 0, 1) := by decide +kernel
theorem dX2_chooseTurn_2 : decode cX2_chooseTurn 2 = .ok (.putfield 61, 3) := by decide +kernel
theorem dX2_chooseTurn_5 : decode cX2_chooseTurn 5 = .ok (.aload_n 0, 1) := by decide +kernel
theorem dX2_chooseTurn_6 : decode cX2_chooseTurn 6 = .ok (.getfield 41, 3) := by decide +kernel
theorem dX2_chooseTurn_9 : decode cX2_chooseTurn 9 = .ok (.iconst 1, 1) := by decide +kernel
theorem dX2_chooseTurn_10 : decode cX2_chooseTurn 10 = .ok (.if_icmp .ne 20, 3) := by decide +kernel
theorem dX2_chooseTurn_13 : decode cX2_chooseTurn 13 = .ok (.aload_n 0, 1) := by decide +kernel
theorem dX2_chooseTurn_14 : decode cX2_chooseTurn 14 = .ok (.bipush 16, 2) := by decide +kernel
theorem dX2_chooseTurn_16 : decode cX2_chooseTurn 16 = .ok (.aload_n 0, 1) := by decide +kernel
theorem dX2_chooseTurn_17 : decode cX2_chooseTurn 17 = .ok (.getfield 12, 3) := by decide +kernel
theorem dX2_chooseTurn_20 : decode cX2_chooseTurn 20 = .ok (.iconst 0, 1) := by decide +kernel
theorem dX2_chooseTurn_21 : decode cX2_chooseTurn 21 = .ok (.aaload, 1) := by decide +kernel
theorem dX2_chooseTurn_22 : decode cX2_chooseTurn 22 = .ok (.getfield 64, 3) := by decide +kernel
theorem dX2_chooseTurn_25 : decode cX2_chooseTurn 25 = .ok (.iadd, 1) := by decide +kernel
theorem dX2_chooseTurn_26 : decode cX2_chooseTurn 26 = .ok (.putfield 67, 3) := by decide +kernel
theorem dX2_chooseTurn_29 : decode cX2_chooseTurn 29 = .ok (.return_, 1) := by decide +kernel
theorem dX2_chooseTurn_30 : decode cX2_chooseTurn 30 = .ok (.aload_n 0, 1) := by decide +kernel
theorem dX2_chooseTurn_31 : decode cX2_chooseTurn 31 = .ok (.iconst (-1), 1) := by decide +kernel
theorem dX2_chooseTurn_32 : decode cX2_chooseTurn 32 = .ok (.putfield 67, 3) := by decide +kernel
theorem dX2_chooseTurn_35 : decode cX2_chooseTurn 35 = .ok (.iconst 0, 1) := by decide +kernel
theorem dX2_chooseTurn_36 : decode cX2_chooseTurn 36 = .ok (.istore_n 1, 1) := by decide +kernel
theorem dX2_chooseTurn_37 : decode cX2_chooseTurn 37 = .ok (.iload_n 1, 1) := by decide +kernel
theorem dX2_chooseTurn_38 : decode cX2_chooseTurn 38 = .ok (.iconst 4, 1) := by decide +kernel
theorem dX2_chooseTurn_39 : decode cX2_chooseTurn 39 = .ok (.if_icmp .ge 66, 3) := by decide +kernel
theorem dX2_chooseTurn_42 : decode cX2_chooseTurn 42 = .ok (.bipush 16, 2) := by decide +kernel
theorem dX2_chooseTurn_44 : decode cX2_chooseTurn 44 = .ok (.aload_n 0, 1) := by decide +kernel
theorem dX2_chooseTurn_45 : decode cX2_chooseTurn 45 = .ok (.getfield 12, 3) := by decide +kernel
theorem dX2_chooseTurn_48 : decode cX2_chooseTurn 48 = .ok (.getstatic 68, 3) := by decide +kernel
theorem dX2_chooseTurn_51 : decode cX2_chooseTurn 51 = .ok (.iload_n 1, 1) := by decide +kernel
theorem dX2_chooseTurn_52 : decode cX2_chooseTurn 52 = .ok (.iaload, 1) := by decide +kernel
theorem dX2_chooseTurn_53 : decode cX2_chooseTurn 53 = .ok (.aaload, 1) := by decide +kernel
theorem dX2_chooseTurn_54 : decode cX2_chooseTurn 54 = .ok (.getfield 64, 3) := by decide +kernel
theorem dX2_chooseTurn_57 : decode cX2_chooseTurn 57 = .ok (.iadd, 1) := by decide +kernel
theorem dX2_chooseTurn_58 : decode cX2_chooseTurn 58 = .ok (.aload_n 0, 1) := by decide +kernel
theorem dX2_chooseTurn_59 : decode cX2_chooseTurn 59 = .ok (.getfield 12, 3) := by decide +kernel
theorem dX2_chooseTurn_62 : decode cX2_chooseTurn 62 = .ok (.getstatic 71, 3) := by decide +kernel
theorem dX2_chooseTurn_65 : decode cX2_chooseTurn 65 = .ok (.iload_n 1, 1) := by decide +kernel
theorem dX2_chooseTurn_66 : decode cX2_chooseTurn 66 = .ok (.iaload, 1) := by decide +kernel
theorem dX2_chooseTurn_67 : decode cX2_chooseTurn 67 = .ok (.aaload, 1) := by decide +kernel
theorem dX2_chooseTurn_68 : decode cX2_chooseTurn 68 = .ok (.getfield 64, 3) := by decide +kernel
theorem dX2_chooseTurn_71 : decode cX2_chooseTurn 71 = .ok (.iadd, 1) := by decide +kernel
theorem dX2_chooseTurn_72 : decode cX2_chooseTurn 72 = .ok (.istore_n 2, 1) := by decide +kernel
theorem dX2_chooseTurn_73 : decode cX2_chooseTurn 73 = .ok (.aload_n 0, 1) := by decide +kernel
theorem dX2_chooseTurn_74 : decode cX2_chooseTurn 74 = .ok (.getfield 67, 3) := by decide +kernel
theorem dX2_chooseTurn_77 : decode cX2_chooseTurn 77 = .ok (.iconst (-1), 1) := by decide +kernel
theorem dX2_chooseTurn_78 : decode cX2_chooseTurn 78 = .ok (.if_icmp .eq 11, 3) := by decide +kernel
theorem dX2_chooseTurn_81 : decode cX2_chooseTurn 81 = .ok (.iload_n 2, 1) := by decide +kernel
theorem dX2_chooseTurn_82 : decode cX2_chooseTurn 82 = .ok (.aload_n 0, 1) := by decide +kernel
theorem dX2_chooseTurn_83 : decode cX2_chooseTurn 83 = .ok (.getfield 67, 3) := by decide +kernel
theorem dX2_chooseTurn_86 : decode cX2_chooseTurn 86 = .ok (.if_icmp .ge 13, 3) := by decide +kernel
theorem dX2_chooseTurn_89 : decode cX2_chooseTurn 89 = .ok (.aload_n 0, 1) := by decide +kernel
theorem dX2_chooseTurn_90 : decode cX2_chooseTurn 90 = .ok (.iload_n 2, 1) := by decide +kernel
theorem dX2_chooseTurn_91 : decode cX2_chooseTurn 91 = .ok (.putfield 67, 3) := by decide +kernel
theorem dX2_chooseTurn_94 : decode cX2_chooseTurn 94 = .ok (.aload_n 0, 1) := by decide +kernel
theorem dX2_chooseTurn_95 : decode cX2_chooseTurn 95 = .ok (.iload_n 1, 1) := by decide +kernel
theorem dX2_chooseTurn_96 : decode cX2_chooseTurn 96 = .ok (.putfield 61, 3) := by decide +kernel
theorem dX2_chooseTurn_99 : decode cX2_chooseTurn 99 = .ok (.iinc 1 1, 3) := by decide +kernel
theorem dX2_chooseTurn_102 : decode cX2_chooseTurn 102 = .ok (.goto (-65), 3) := by decide +kernel
theorem dX2_chooseTurn_105 : decode cX2_chooseTurn 105 = .ok (.return_, 1) := by decide +kernel
theorem dX2_writeFrame_0 : decode cX2_writeFrame 0 = .ok (.aload_n 0, 1) := by decide +kernel
theorem dX2_writeFrame_1 : decode cX2_writeFrame 1 = .ok (.getfield 27, 3) := by decide +kernel
theorem dX2_writeFrame_4 : decode cX2_writeFrame 4 = .ok (.getfield 74, 3) := by decide +kernel
theorem dX2_writeFrame_7 : decode cX2_writeFrame 7 = .ok (.istore_n 1, 1) := by decide +kernel
theorem dX2_writeFrame_8 : decode cX2_writeFrame 8 = .ok (.aload_n 0, 1) := by decide +kernel
theorem dX2_writeFrame_9 : decode cX2_writeFrame 9 = .ok (.getfield 27, 3) := by decide +kernel
theorem dX2_writeFrame_12 : decode cX2_writeFrame 12 = .ok (.iload_n 1, 1) := by decide +kernel
theorem dX2_writeFrame_13 : decode cX2_writeFrame 13 = .ok (.invokevirtual 79, 3) := by decide +kernel
theorem dX2_writeFrame_16 : decode cX2_writeFrame 16 = .ok (.aload_n 0, 1) := by decide +kernel
theorem dX2_writeFrame_17 : decode cX2_writeFrame 17 = .ok (.getfield 27, 3) := by decide +kernel
theorem dX2_writeFrame_20 : decode cX2_writeFrame 20 = .ok (.aload_n 0, 1) := by decide +kernel
theorem dX2_writeFrame_21 : decode cX2_writeFrame 21 = .ok (.getfield 37, 3) := by decide +kernel
theorem dX2_writeFrame_24 : decode cX2_writeFrame 24 = .ok (.iconst 1, 1) := by decide +kernel
theorem dX2_writeFrame_25 : decode cX2_writeFrame 25 = .ok (.isub, 1) := by decide +kernel
theorem dX2_writeFrame_26 : decode cX2_writeFrame 26 = .ok (.bipush 9, 2) := by decide +kernel
theorem dX2_writeFrame_28 : decode cX2_writeFrame 28 = .ok (.invokevirtual 83, 3) := by decide +kernel
theorem dX2_writeFrame_31 : decode cX2_writeFrame 31 = .ok (.aload_n 0, 1) := by decide +kernel
theorem dX2_writeFrame_32 : decode cX2_writeFrame 32 = .ok (.getfield 27, 3) := by decide +kernel
theorem dX2_writeFrame_35 : decode cX2_writeFrame 35 = .ok (.aload_n 0, 1) := by decide +kernel
theorem dX2_writeFrame_36 : decode cX2_writeFrame 36 = .ok (.getfield 41, 3) := by decide +kernel
theorem dX2_writeFrame_39 : decode cX2_writeFrame 39 = .ok (.iconst 1, 1) := by decide +kernel
theorem dX2_writeFrame_40 : decode cX2_writeFrame 40 = .ok (.isub, 1) := by decide +kernel
theorem dX2_writeFrame_41 : decode cX2_writeFrame 41 = .ok (.iconst 1, 1) := by decide +kernel
theorem dX2_writeFrame_42 : decode cX2_writeFrame 42 = .ok (.invokevirtual 83, 3) := by decide +kernel
theorem dX2_writeFrame_45 : decode cX2_writeFrame 45 = .ok (.aload_n 0, 1) := by decide +kernel
theorem dX2_writeFrame_46 : decode cX2_writeFrame 46 = .ok (.getfield 27, 3) := by decide +kernel
theorem dX2_writeFrame_49 : decode cX2_writeFrame 49 = .ok (.aload_n 0, 1) := by decide +kernel
theorem dX2_writeFrame_50 : decode cX2_writeFrame 50 = .ok (.getfield 61, 3) := by decide +kernel
theorem dX2_writeFrame_53 : decode cX2_writeFrame 53 = .ok (.iconst 2, 1) := by decide +kernel
theorem dX2_writeFrame_54 : decode cX2_writeFrame 54 = .ok (.invokevirtual 83, 3) := by decide +kernel
theorem dX2_writeFrame_57 : decode cX2_writeFrame 57 = .ok (.aload_n 0, 1) := by decide +kernel
theorem dX2_writeFrame_58 : decode cX2_writeFrame 58 = .ok (.getfield 27, 3) := by decide +kernel
theorem dX2_writeFrame_61 : decode cX2_writeFrame 61 = .ok (.aload_n 0, 1) := by decide +kernel
theorem dX2_writeFrame_62 : decode cX2_writeFrame 62 = .ok (.getfield 44, 3) := by decide +kernel
theorem dX2_writeFrame_65 : decode cX2_writeFrame 65 = .ok (.iconst 1, 1) := by decide +kernel
theorem dX2_writeFrame_66 : decode cX2_writeFrame 66 = .ok (.isub, 1) := by decide +kernel
theorem dX2_writeFrame_67 : decode cX2_writeFrame 67 = .ok (.iconst 4, 1) := by decide +kernel
theorem dX2_writeFrame_68 : decode cX2_writeFrame 68 = .ok (.invokevirtual 83, 3) := by decide +kernel
theorem dX2_writeFrame_71 : decode cX2_writeFrame 71 = .ok (.aload_n 0, 1) := by decide +kernel
theorem dX2_writeFrame_72 : decode cX2_writeFrame 72 = .ok (.getstatic 68, 3) := by decide +kernel
theorem dX2_writeFrame_75 : decode cX2_writeFrame 75 = .ok (.aload_n 0, 1) := by decide +kernel
theorem dX2_writeFrame_76 : decode cX2_writeFrame 76 = .ok (.getfield 61, 3) := by decide +kernel
theorem dX2_writeFrame_79 : decode cX2_writeFrame 79 = .ok (.iaload, 1) := by decide +kernel
theorem dX2_writeFrame_80 : decode cX2_writeFrame 80 = .ok (.invokevirtual 87, 3) := by decide +kernel
theorem dX2_writeFrame_83 : decode cX2_writeFrame 83 = .ok (.aload_n 0, 1) := by decide +kernel
theorem dX2_writeFrame_84 : decode cX2_writeFrame 84 = .ok (.getfield 41, 3) := by decide +kernel
theorem dX2_writeFrame_87 : decode cX2_writeFrame 87 = .ok (.iconst 2, 1) := by decide +kernel
theorem dX2_writeFrame_88 : decode cX2_writeFrame 88 = .ok (.if_icmp .ne 15, 3) := by decide +kernel
theorem dX2_writeFrame_91 : decode cX2_writeFrame 91 = .ok (.aload_n 0, 1) := by decide +kernel
theorem dX2_writeFrame_92 : decode cX2_writeFrame 92 = .ok (.getstatic 71, 3) := by decide +kernel
theorem dX2_writeFrame_95 : decode cX2_writeFrame 95 = .ok (.aload_n 0, 1) := by decide +kernel
theorem dX2_writeFrame_96 : decode cX2_writeFrame 96 = .ok (.getfield 61, 3) := by decide +kernel
theorem dX2_writeFrame_99 : decode cX2_writeFrame 99 = .ok (.iaload, 1) := by decide +kernel
theorem dX2_writeFrame_100 : decode cX2_writeFrame 100 = .ok (.invokevirtual 87, 3) := by decide +kernel
theorem dX2_writeFrame_103 : decode cX2_writeFrame 103 = .ok (.aload_n 0, 1) := by decide +kernel
theorem dX2_writeFrame_104 : decode cX2_writeFrame 104 = .ok (.getfield 27, 3) := by decide +kernel
theorem dX2_writeFrame_107 : decode cX2_writeFrame 107 = .ok (.iconst 0, 1) := by decide +kernel
theorem dX2_writeFrame_108 : decode cX2_writeFrame 108 = .ok (.aload_n 0, 1) := by decide +kernel
theorem dX2_writeFrame_109 : decode cX2_writeFrame 109 = .ok (.getfield 27, 3) := by decide +kernel
theorem dX2_writeFrame_112 : decode cX2_writeFrame 112 = .ok (.invokevirtual 90, 3) := by decide +kernel
theorem dX2_writeFrame_115 : decode cX2_writeFrame 115 = .ok (.invokevirtual 83, 3) := by decide +kernel
theorem dX2_writeFrame_118 : decode cX2_writeFrame 118 = .ok (.aload_n 0, 1) := by decide +kernel
theorem dX2_writeFrame_119 : decode cX2_writeFrame 119 = .ok (.getfield 27, 3) := by decide +kernel
theorem dX2_writeFrame_122 : decode cX2_writeFrame 122 = .ok (.aload_n 0, 1) := by decide +kernel
theorem dX2_writeFrame_123 : decode cX2_writeFrame 123 = .ok (.getfield 27, 3) := by decide +kernel
theorem dX2_writeFrame_126 : decode cX2_writeFrame 126 = .ok (.iload_n 1, 1) := by decide +kernel
theorem dX2_writeFrame_127 : decode cX2_writeFrame 127 = .ok (.aload_n 0, 1) := by decide +kernel
theorem dX2_writeFrame_128 : decode cX2_writeFrame 128 = .ok (.getfield 27, 3) := by decide +kernel
theorem dX2_writeFrame_131 : decode cX2_writeFrame 131 = .ok (.invokevirtual 94, 3) := by decide +kernel
theorem dX2_writeFrame_134 : decode cX2_writeFrame 134 = .ok (.invokevirtual 97, 3) := by decide +kernel
theorem dX2_writeFrame_137 : decode cX2_writeFrame 137 = .ok (.bipush 8, 2) := by decide +kernel
theorem dX2_writeFrame_139 : decode cX2_writeFrame 139 = .ok (.invokevirtual 83, 3) := by decide +kernel
theorem dX2_writeFrame_142 : decode cX2_writeFrame 142 = .ok (.aload_n 0, 1) := by decide +kernel
theorem dX2_writeFrame_143 : decode cX2_writeFrame 143 = .ok (.getfield 27, 3) := by decide +kernel
theorem dX2_writeFrame_146 : decode cX2_writeFrame 146 = .ok (.aload_n 0, 1) := by decide +kernel
theorem dX2_writeFrame_147 : decode cX2_writeFrame 147 = .ok (.getfield 27, 3) := by decide +kernel
theorem dX2_writeFrame_150 : decode cX2_writeFrame 150 = .ok (.invokevirtual 94, 3) := by decide +kernel
theorem dX2_writeFrame_153 : decode cX2_writeFrame 153 = .ok (.putfield 74, 3) := by decide +kernel
theorem dX2_writeFrame_156 : decode cX2_writeFrame 156 = .ok (.return_, 1) := by decide +kernel
theorem dX2_writeRow_0 : decode cX2_writeRow 0 = .ok (.aload_n 0, 1) := by decide +kernel
theorem dX2_writeRow_1 : decode cX2_writeRow 1 = .ok (.getfield 12, 3) := by decide +kernel
theorem dX2_writeRow_4 : decode cX2_writeRow 4 = .ok (.iload_n 1, 1) := by decide +kernel
theorem dX2_writeRow_5 : decode cX2_writeRow 5 = .ok (.aaload, 1) := by decide +kernel
theorem dX2_writeRow_6 : decode cX2_writeRow 6 = .ok (.astore_n 2, 1) := by decide +kernel
theorem dX2_writeRow_7 : decode cX2_writeRow 7 = .ok (.aload_n 0, 1) := by decide +kernel
theorem dX2_writeRow_8 : decode cX2_writeRow 8 = .ok (.getfield 23, 3) := by decide +kernel
theorem dX2_writeRow_11 : decode cX2_writeRow 11 = .ok (.getfield 100, 3) := by decide +kernel
theorem dX2_writeRow_14 : decode cX2_writeRow 14 = .ok (.aload_n 0, 1) := by decide +kernel
theorem dX2_writeRow_15 : decode cX2_writeRow 15 = .ok (.getfield 33, 3) := by decide +kernel
theorem dX2_writeRow_18 : decode cX2_writeRow 18 = .ok (.iload_n 1, 1) := by decide +kernel
theorem dX2_writeRow_19 : decode cX2_writeRow 19 = .ok (.aaload, 1) := by decide +kernel
theorem dX2_writeRow_20 : decode cX2_writeRow 20 = .ok (.aload_n 0, 1) := by decide +kernel
theorem dX2_writeRow_21 : decode cX2_writeRow 21 = .ok (.getfield 37, 3) := by decide +kernel
theorem dX2_writeRow_24 : decode cX2_writeRow 24 = .ok (.iload_n 1, 1) := by decide +kernel
theorem dX2_writeRow_25 : decode cX2_writeRow 25 = .ok (.aload_n 0, 1) := by decide +kernel
theorem dX2_writeRow_26 : decode cX2_writeRow 26 = .ok (.getfield 44, 3) := by decide +kernel
theorem dX2_writeRow_29 : decode cX2_writeRow 29 = .ok (.invokestatic 50, 3) := by decide +kernel
theorem dX2_writeRow_32 : decode cX2_writeRow 32 = .ok (.invokevirtual 104, 3) := by decide +kernel
theorem dX2_writeRow_35 : decode cX2_writeRow 35 = .ok (.aload_n 0, 1) := by decide +kernel
theorem dX2_writeRow_36 : decode cX2_writeRow 36 = .ok (.getfield 27, 3) := by decide +kernel
theorem dX2_writeRow_39 : decode cX2_writeRow 39 = .ok (.aload_n 2, 1) := by decide +kernel
theorem dX2_writeRow_40 : decode cX2_writeRow 40 = .ok (.getfield 110, 3) := by decide +kernel
theorem dX2_writeRow_43 : decode cX2_writeRow 43 = .ok (.iconst 3, 1) := by decide +kernel
theorem dX2_writeRow_44 : decode cX2_writeRow 44 = .ok (.invokevirtual 83, 3) := by decide +kernel
theorem dX2_writeRow_47 : decode cX2_writeRow 47 = .ok (.aload_n 0, 1) := by decide +kernel
theorem dX2_writeRow_48 : decode cX2_writeRow 48 = .ok (.getfield 27, 3) := by decide +kernel
theorem dX2_writeRow_51 : decode cX2_writeRow 51 = .ok (.aload_n 2, 1) := by decide +kernel
theorem dX2_writeRow_52 : decode cX2_writeRow 52 = .ok (.getfield 113, 3) := by decide +kernel
theorem dX2_writeRow_55 : decode cX2_writeRow 55 = .ok (.iconst 4, 1) := by decide +kernel
theorem dX2_writeRow_56 : decode cX2_writeRow 56 = .ok (.invokevirtual 83, 3) := by decide +kernel
theorem dX2_writeRow_59 : decode cX2_writeRow 59 = .ok (.aload_n 2, 1) := by decide +kernel
theorem dX2_writeRow_60 : decode cX2_writeRow 60 = .ok (.getfield 110, 3) := by decide +kernel
theorem dX2_writeRow_63 : decode cX2_writeRow 63 = .ok (.ifCond .ne 11, 3) := by decide +kernel
theorem dX2_writeRow_66 : decode cX2_writeRow 66 = .ok (.aload_n 0, 1) := by decide +kernel
theorem dX2_writeRow_67 : decode cX2_writeRow 67 = .ok (.iconst 1, 1) := by decide +kernel
theorem dX2_writeRow_68 : decode cX2_writeRow 68 = .ok (.invokevirtual 116, 3) := by decide +kernel
theorem dX2_writeRow_71 : decode cX2_writeRow 71 = .ok (.goto 27, 3) := by decide +kernel
theorem dX2_writeRow_74 : decode cX2_writeRow 74 = .ok (.aload_n 2, 1) := by decide +kernel
theorem dX2_writeRow_75 : decode cX2_writeRow 75 = .ok (.getfield 110, 3) := by decide +kernel
theorem dX2_writeRow_78 : decode cX2_writeRow 78 = .ok (.iconst 1, 1) := by decide +kernel
theorem dX2_writeRow_79 : decode cX2_writeRow 79 = .ok (.if_icmp .ne 14, 3) := by decide +kernel
theorem dX2_writeRow_82 : decode cX2_writeRow 82 = .ok (.aload_n 0, 1) := by decide +kernel
theorem dX2_writeRow_83 : decode cX2_writeRow 83 = .ok (.aload_n 0, 1) := by decide +kernel
theorem dX2_writeRow_84 : decode cX2_writeRow 84 = .ok (.getfield 37, 3) := by decide +kernel
theorem dX2_writeRow_87 : decode cX2_writeRow 87 = .ok (.invokevirtual 116, 3) := by decide +kernel
theorem dX2_writeRow_90 : decode cX2_writeRow 90 = .ok (.goto 8, 3) := by decide +kernel
theorem dX2_writeRow_93 : decode cX2_writeRow 93 = .ok (.aload_n 0, 1) := by decide +kernel
theorem dX2_writeRow_94 : decode cX2_writeRow 94 = .ok (.aload_n 2, 1) := by decide +kernel
theorem dX2_writeRow_95 : decode cX2_writeRow 95 = .ok (.invokevirtual 119, 3) := by decide +kernel
theorem dX2_writeRow_98 : decode cX2_writeRow 98 = .ok (.return_, 1) := by decide +kernel
theorem dX2_writeValues_0 : decode cX2_writeValues 0 = .ok (.iconst 0, 1) := by decide +kernel
theorem dX2_writeValues_1 : decode cX2_writeValues 1 = .ok (.istore_n 2, 1) := by decide +kernel
theorem dX2_writeValues_2 : decode cX2_writeValues 2 = .ok (.iload_n 2, 1) := by decide +kernel
theorem dX2_writeValues_3 : decode cX2_writeValues 3 = .ok (.iload_n 1, 1) := by decide +kernel
theorem dX2_writeValues_4 : decode cX2_writeValues 4 = .ok (.if_icmp .ge 38, 3) := by decide +kernel
theorem dX2_writeValues_7 : decode cX2_writeValues 7 = .ok (.aload_n 0, 1) := by decide +kernel
theorem dX2_writeValues_8 : decode cX2_writeValues 8 = .ok (.getfield 27, 3) := by decide +kernel
theorem dX2_writeValues_11 : decode cX2_writeValues 11 = .ok (.aload_n 0, 1) := by decide +kernel
theorem dX2_writeValues_12 : decode cX2_writeValues 12 = .ok (.getfield 23, 3) := by decide +kernel
theorem dX2_writeValues_15 : decode cX2_writeValues 15 = .ok (.getfield 100, 3) := by decide +kernel
theorem dX2_writeValues_18 : decode cX2_writeValues 18 = .ok (.getfield 123, 3) := by decide +kernel
theorem dX2_writeValues_21 : decode cX2_writeValues 21 = .ok (.iload_n 2, 1) := by decide +kernel
theorem dX2_writeValues_22 : decode cX2_writeValues 22 = .ok (.iaload, 1) := by decide +kernel
theorem dX2_writeValues_23 : decode cX2_writeValues 23 = .ok (.aload_n 0, 1) := by decide +kernel
theorem dX2_writeValues_24 : decode cX2_writeValues 24 = .ok (.getfield 23, 3) := by decide +kernel
theorem dX2_writeValues_27 : decode cX2_writeValues 27 = .ok (.getfield 100, 3) := by decide +kernel
theorem dX2_writeValues_30 : decode cX2_writeValues 30 = .ok (.getfield 126, 3) := by decide +kernel
theorem dX2_writeValues_33 : decode cX2_writeValues 33 = .ok (.invokevirtual 83, 3) := by decide +kernel
theorem dX2_writeValues_36 : decode cX2_writeValues 36 = .ok (.iinc 2 1, 3) := by decide +kernel
theorem dX2_writeValues_39 : decode cX2_writeValues 39 = .ok (.goto (-37), 3) := by decide +kernel
theorem dX2_writeValues_42 : decode cX2_writeValues 42 = .ok (.return_, 1) := by decide +kernel
theorem dX2_writeForetold_0 : decode cX2_writeForetold 0 = .ok (.aload_n 0, 1) := by decide +kernel
theorem dX2_writeForetold_1 : decode cX2_writeForetold 1 = .ok (.getfield 23, 3) := by decide +kernel
theorem dX2_writeForetold_4 : decode cX2_writeForetold 4 = .ok (.aload_n 1, 1) := by decide +kernel
theorem dX2_writeForetold_5 : decode cX2_writeForetold 5 = .ok (.getfield 110, 3) := by decide +kernel
theorem dX2_writeForetold_8 : decode cX2_writeForetold 8 = .ok (.invokevirtual 129, 3) := by decide +kernel
theorem dX2_writeForetold_11 : decode cX2_writeForetold 11 = .ok (.astore_n 2, 1) := by decide +kernel
theorem dX2_writeForetold_12 : decode cX2_writeForetold 12 = .ok (.aload_n 1, 1) := by decide +kernel
theorem dX2_writeForetold_13 : decode cX2_writeForetold 13 = .ok (.getfield 110, 3) := by decide +kernel
theorem dX2_writeForetold_16 : decode cX2_writeForetold 16 = .ok (.bipush 7, 2) := by decide +kernel
theorem dX2_writeForetold_18 : decode cX2_writeForetold 18 = .ok (.if_icmp .ne 60, 3) := by decide +kernel
theorem dX2_writeForetold_21 : decode cX2_writeForetold 21 = .ok (.aload_n 0, 1) := by decide +kernel
theorem dX2_writeForetold_22 : decode cX2_writeForetold 22 = .ok (.getfield 27, 3) := by decide +kernel
theorem dX2_writeForetold_25 : decode cX2_writeForetold 25 = .ok (.aload_n 2, 1) := by decide +kernel
theorem dX2_writeForetold_26 : decode cX2_writeForetold 26 = .ok (.getfield 133, 3) := by decide +kernel
theorem dX2_writeForetold_29 : decode cX2_writeForetold 29 = .ok (.iconst 1, 1) := by decide +kernel
theorem dX2_writeForetold_30 : decode cX2_writeForetold 30 = .ok (.isub, 1) := by decide +kernel
theorem dX2_writeForetold_31 : decode cX2_writeForetold 31 = .ok (.iconst 2, 1) := by decide +kernel
theorem dX2_writeForetold_32 : decode cX2_writeForetold 32 = .ok (.invokevirtual 83, 3) := by decide +kernel
theorem dX2_writeForetold_35 : decode cX2_writeForetold 35 = .ok (.aload_n 0, 1) := by decide +kernel
theorem dX2_writeForetold_36 : decode cX2_writeForetold 36 = .ok (.getfield 27, 3) := by decide +kernel
theorem dX2_writeForetold_39 : decode cX2_writeForetold 39 = .ok (.aload_n 2, 1) := by decide +kernel
theorem dX2_writeForetold_40 : decode cX2_writeForetold 40 = .ok (.getfield 138, 3) := by decide +kernel
theorem dX2_writeForetold_43 : decode cX2_writeForetold 43 = .ok (.iconst 4, 1) := by decide +kernel
theorem dX2_writeForetold_44 : decode cX2_writeForetold 44 = .ok (.invokevirtual 83, 3) := by decide +kernel
theorem dX2_writeForetold_47 : decode cX2_writeForetold 47 = .ok (.iconst 0, 1) := by decide +kernel
theorem dX2_writeForetold_48 : decode cX2_writeForetold 48 = .ok (.istore_n 3, 1) := by decide +kernel
theorem dX2_writeForetold_49 : decode cX2_writeForetold 49 = .ok (.iload_n 3, 1) := by decide +kernel
theorem dX2_writeForetold_50 : decode cX2_writeForetold 50 = .ok (.aload_n 2, 1) := by decide +kernel
theorem dX2_writeForetold_51 : decode cX2_writeForetold 51 = .ok (.getfield 133, 3) := by decide +kernel
theorem dX2_writeForetold_54 : decode cX2_writeForetold 54 = .ok (.if_icmp .ge 24, 3) := by decide +kernel
theorem dX2_writeForetold_57 : decode cX2_writeForetold 57 = .ok (.aload_n 0, 1) := by decide +kernel
theorem dX2_writeForetold_58 : decode cX2_writeForetold 58 = .ok (.getfield 27, 3) := by decide +kernel
theorem dX2_writeForetold_61 : decode cX2_writeForetold 61 = .ok (.aload_n 2, 1) := by decide +kernel
theorem dX2_writeForetold_62 : decode cX2_writeForetold 62 = .ok (.getfield 141, 3) := by decide +kernel
theorem dX2_writeForetold_65 : decode cX2_writeForetold 65 = .ok (.iload_n 3, 1) := by decide +kernel
theorem dX2_writeForetold_66 : decode cX2_writeForetold 66 = .ok (.iaload, 1) := by decide +kernel
theorem dX2_writeForetold_67 : decode cX2_writeForetold 67 = .ok (.bipush 10, 2) := by decide +kernel
theorem dX2_writeForetold_69 : decode cX2_writeForetold 69 = .ok (.invokevirtual 83, 3) := by decide +kernel
theorem dX2_writeForetold_72 : decode cX2_writeForetold 72 = .ok (.iinc 3 1, 3) := by decide +kernel
theorem dX2_writeForetold_75 : decode cX2_writeForetold 75 = .ok (.goto (-26), 3) := by decide +kernel
theorem dX2_writeForetold_78 : decode cX2_writeForetold 78 = .ok (.aload_n 0, 1) := by decide +kernel
theorem dX2_writeForetold_79 : decode cX2_writeForetold 79 = .ok (.aload_n 2, 1) := by decide +kernel
theorem dX2_writeForetold_80 : decode cX2_writeForetold 80 = .ok (.getfield 133, 3) := by decide +kernel
theorem dX2_writeForetold_83 : decode cX2_writeForetold 83 = .ok (.invokevirtual 116, 3) := by decide +kernel
theorem dX2_writeForetold_86 : decode cX2_writeForetold 86 = .ok (.aload_n 0, 1) := by decide +kernel
theorem dX2_writeForetold_87 : decode cX2_writeForetold 87 = .ok (.getfield 27, 3) := by decide +kernel
theorem dX2_writeForetold_90 : decode cX2_writeForetold 90 = .ok (.aload_n 1, 1) := by decide +kernel
theorem dX2_writeForetold_91 : decode cX2_writeForetold 91 = .ok (.getfield 144, 3) := by decide +kernel
theorem dX2_writeForetold_94 : decode cX2_writeForetold 94 = .ok (.iconst 3, 1) := by decide +kernel
theorem dX2_writeForetold_95 : decode cX2_writeForetold 95 = .ok (.invokevirtual 83, 3) := by decide +kernel
theorem dX2_writeForetold_98 : decode cX2_writeForetold 98 = .ok (.aload_n 0, 1) := by decide +kernel
theorem dX2_writeForetold_99 : decode cX2_writeForetold 99 = .ok (.getfield 37, 3) := by decide +kernel
theorem dX2_writeForetold_102 : decode cX2_writeForetold 102 = .ok (.aload_n 1, 1) := by decide +kernel
theorem dX2_writeForetold_103 : decode cX2_writeForetold 103 = .ok (.getfield 144, 3) := by decide +kernel
theorem dX2_writeForetold_106 : decode cX2_writeForetold 106 = .ok (.ishr, 1) := by decide +kernel
theorem dX2_writeForetold_107 : decode cX2_writeForetold 107 = .ok (.istore_n 3, 1) := by decide +kernel
theorem dX2_writeForetold_108 : decode cX2_writeForetold 108 = .ok (.iconst 0, 1) := by decide +kernel
theorem dX2_writeForetold_109 : decode cX2_writeForetold 109 = .ok (.istore 4, 2) := by decide +kernel
theorem dX2_writeForetold_111 : decode cX2_writeForetold 111 = .ok (.iload 4, 2) := by decide +kernel
theorem dX2_writeForetold_113 : decode cX2_writeForetold 113 = .ok (.aload_n 1, 1) := by decide +kernel
theorem dX2_writeForetold_114 : decode cX2_writeForetold 114 = .ok (.invokevirtual 147, 3) := by decide +kernel
theorem dX2_writeForetold_117 : decode cX2_writeForetold 117 = .ok (.if_icmp .ge 96, 3) := by decide +kernel
theorem dX2_writeForetold_120 : decode cX2_writeForetold 120 = .ok (.aload_n 0, 1) := by decide +kernel
theorem dX2_writeForetold_121 : decode cX2_writeForetold 121 = .ok (.getfield 27, 3) := by decide +kernel
theorem dX2_writeForetold_124 : decode cX2_writeForetold 124 = .ok (.aload_n 1, 1) := by decide +kernel
theorem dX2_writeForetold_125 : decode cX2_writeForetold 125 = .ok (.getfield 150, 3) := by decide +kernel
theorem dX2_writeForetold_128 : decode cX2_writeForetold 128 = .ok (.iload 4, 2) := by decide +kernel
theorem dX2_writeForetold_130 : decode cX2_writeForetold 130 = .ok (.iaload, 1) := by decide +kernel
theorem dX2_writeForetold_131 : decode cX2_writeForetold 131 = .ok (.iconst 4, 1) := by decide +kernel
theorem dX2_writeForetold_132 : decode cX2_writeForetold 132 = .ok (.invokevirtual 83, 3) := by decide +kernel
theorem dX2_writeForetold_135 : decode cX2_writeForetold 135 = .ok (.aload_n 1, 1) := by decide +kernel
theorem dX2_writeForetold_136 : decode cX2_writeForetold 136 = .ok (.getfield 150, 3) := by decide +kernel
theorem dX2_writeForetold_139 : decode cX2_writeForetold 139 = .ok (.iload 4, 2) := by decide +kernel
theorem dX2_writeForetold_141 : decode cX2_writeForetold 141 = .ok (.iaload, 1) := by decide +kernel
theorem dX2_writeForetold_142 : decode cX2_writeForetold 142 = .ok (.bipush 15, 2) := by decide +kernel
theorem dX2_writeForetold_144 : decode cX2_writeForetold 144 = .ok (.if_icmp .ne 18, 3) := by decide +kernel
theorem dX2_writeForetold_147 : decode cX2_writeForetold 147 = .ok (.aload_n 0, 1) := by decide +kernel
theorem dX2_writeForetold_148 : decode cX2_writeForetold 148 = .ok (.getfield 27, 3) := by decide +kernel
theorem dX2_writeForetold_151 : decode cX2_writeForetold 151 = .ok (.aload_n 1, 1) := by decide +kernel
theorem dX2_writeForetold_152 : decode cX2_writeForetold 152 = .ok (.getfield 153, 3) := by decide +kernel
theorem dX2_writeForetold_155 : decode cX2_writeForetold 155 = .ok (.iload 4, 2) := by decide +kernel
theorem dX2_writeForetold_157 : decode cX2_writeForetold 157 = .ok (.iaload, 1) := by decide +kernel
theorem dX2_writeForetold_158 : decode cX2_writeForetold 158 = .ok (.iconst 5, 1) := by decide +kernel
theorem dX2_writeForetold_159 : decode cX2_writeForetold 159 = .ok (.invokevirtual 83, 3) := by decide +kernel
theorem dX2_writeForetold_162 : decode cX2_writeForetold 162 = .ok (.iload 4, 2) := by decide +kernel
theorem dX2_writeForetold_164 : decode cX2_writeForetold 164 = .ok (.ifCond .ne 10, 3) := by decide +kernel
theorem dX2_writeForetold_167 : decode cX2_writeForetold 167 = .ok (.aload_n 2, 1) := by decide +kernel
theorem dX2_writeForetold_168 : decode cX2_writeForetold 168 = .ok (.getfield 133, 3) := by decide +kernel
theorem dX2_writeForetold_171 : decode cX2_writeForetold 171 = .ok (.goto 7, 3) := by decide +kernel
theorem dX2_writeForetold_174 : decode cX2_writeForetold 174 = .ok (.iload 4, 2) := by decide +kernel
theorem dX2_writeForetold_176 : decode cX2_writeForetold 176 = .ok (.iload_n 3, 1) := by decide +kernel
theorem dX2_writeForetold_177 : decode cX2_writeForetold 177 = .ok (.imul, 1) := by decide +kernel
theorem dX2_writeForetold_178 : decode cX2_writeForetold 178 = .ok (.istore 5, 2) := by decide +kernel
theorem dX2_writeForetold_180 : decode cX2_writeForetold 180 = .ok (.aload_n 0, 1) := by decide +kernel
theorem dX2_writeForetold_181 : decode cX2_writeForetold 181 = .ok (.aload_n 2, 1) := by decide +kernel
theorem dX2_writeForetold_182 : decode cX2_writeForetold 182 = .ok (.iload 5, 2) := by decide +kernel
theorem dX2_writeForetold_184 : decode cX2_writeForetold 184 = .ok (.iload 4, 2) := by decide +kernel
theorem dX2_writeForetold_186 : decode cX2_writeForetold 186 = .ok (.iconst 1, 1) := by decide +kernel
theorem dX2_writeForetold_187 : decode cX2_writeForetold 187 = .ok (.iadd, 1) := by decide +kernel
theorem dX2_writeForetold_188 : decode cX2_writeForetold 188 = .ok (.iload_n 3, 1) := by decide +kernel
theorem dX2_writeForetold_189 : decode cX2_writeForetold 189 = .ok (.imul, 1) := by decide +kernel
theorem dX2_writeForetold_190 : decode cX2_writeForetold 190 = .ok (.aload_n 1, 1) := by decide +kernel
theorem dX2_writeForetold_191 : decode cX2_writeForetold 191 = .ok (.getfield 150, 3) := by decide +kernel
theorem dX2_writeForetold_194 : decode cX2_writeForetold 194 = .ok (.iload 4, 2) := by decide +kernel
theorem dX2_writeForetold_196 : decode cX2_writeForetold 196 = .ok (.iaload, 1) := by decide +kernel
theorem dX2_writeForetold_197 : decode cX2_writeForetold 197 = .ok (.aload_n 1, 1) := by decide +kernel
theorem dX2_writeForetold_198 : decode cX2_writeForetold 198 = .ok (.getfield 153, 3) := by decide +kernel
theorem dX2_writeForetold_201 : decode cX2_writeForetold 201 = .ok (.iload 4, 2) := by decide +kernel
theorem dX2_writeForetold_203 : decode cX2_writeForetold 203 = .ok (.iaload, 1) := by decide +kernel
theorem dX2_writeForetold_204 : decode cX2_writeForetold 204 = .ok (.invokevirtual 156, 3) := by decide +kernel
theorem dX2_writeForetold_207 : decode cX2_writeForetold 207 = .ok (.iinc 4 1, 3) := by decide +kernel
theorem dX2_writeForetold_210 : decode cX2_writeForetold 210 = .ok (.goto (-99), 3) := by decide +kernel
theorem dX2_writeForetold_213 : decode cX2_writeForetold 213 = .ok (.return_, 1) := by decide +kernel
theorem dX2_writeRests_0 : decode cX2_writeRests 0 = .ok (.iload_n 2, 1) := by decide +kernel
theorem dX2_writeRests_1 : decode cX2_writeRests 1 = .ok (.istore 6, 2) := by decide +kernel
theorem dX2_writeRests_3 : decode cX2_writeRests 3 = .ok (.iload 6, 2) := by decide +kernel
theorem dX2_writeRests_5 : decode cX2_writeRests 5 = .ok (.iload_n 3, 1) := by decide +kernel
theorem dX2_writeRests_6 : decode cX2_writeRests 6 = .ok (.if_icmp .ge 59, 3) := by decide +kernel
theorem dX2_writeRests_9 : decode cX2_writeRests 9 = .ok (.aload_n 0, 1) := by decide +kernel
theorem dX2_writeRests_10 : decode cX2_writeRests 10 = .ok (.getfield 23, 3) := by decide +kernel
theorem dX2_writeRests_13 : decode cX2_writeRests 13 = .ok (.getfield 100, 3) := by decide +kernel
theorem dX2_writeRests_16 : decode cX2_writeRests 16 = .ok (.aload_n 1, 1) := by decide +kernel
theorem dX2_writeRests_17 : decode cX2_writeRests 17 = .ok (.iload 6, 2) := by decide +kernel
theorem dX2_writeRests_19 : decode cX2_writeRests 19 = .ok (.invokevirtual 160, 3) := by decide +kernel
theorem dX2_writeRests_22 : decode cX2_writeRests 22 = .ok (.istore 7, 2) := by decide +kernel
theorem dX2_writeRests_24 : decode cX2_writeRests 24 = .ok (.iload 4, 2) := by decide +kernel
theorem dX2_writeRests_26 : decode cX2_writeRests 26 = .ok (.bipush 15, 2) := by decide +kernel
theorem dX2_writeRests_28 : decode cX2_writeRests 28 = .ok (.if_icmp .ne 20, 3) := by decide +kernel
theorem dX2_writeRests_31 : decode cX2_writeRests 31 = .ok (.aload_n 0, 1) := by decide +kernel
theorem dX2_writeRests_32 : decode cX2_writeRests 32 = .ok (.getfield 27, 3) := by decide +kernel
theorem dX2_writeRests_35 : decode cX2_writeRests 35 = .ok (.iload 7, 2) := by decide +kernel
theorem dX2_writeRests_37 : decode cX2_writeRests 37 = .ok (.invokestatic 164, 3) := by decide +kernel
theorem dX2_writeRests_40 : decode cX2_writeRests 40 = .ok (.iload 5, 2) := by decide +kernel
theorem dX2_writeRests_42 : decode cX2_writeRests 42 = .ok (.invokevirtual 83, 3) := by decide +kernel
theorem dX2_writeRests_45 : decode cX2_writeRests 45 = .ok (.goto 14, 3) := by decide +kernel
theorem dX2_writeRests_48 : decode cX2_writeRests 48 = .ok (.aload_n 0, 1) := by decide +kernel
theorem dX2_writeRests_49 : decode cX2_writeRests 49 = .ok (.getfield 27, 3) := by decide +kernel
theorem dX2_writeRests_52 : decode cX2_writeRests 52 = .ok (.iload 7, 2) := by decide +kernel
theorem dX2_writeRests_54 : decode cX2_writeRests 54 = .ok (.iload 4, 2) := by decide +kernel
theorem dX2_writeRests_56 : decode cX2_writeRests 56 = .ok (.invokevirtual 168, 3) := by decide +kernel
theorem dX2_writeRests_59 : decode cX2_writeRests 59 = .ok (.iinc 6 1, 3) := by decide +kernel
theorem dX2_writeRests_62 : decode cX2_writeRests 62 = .ok (.goto (-59), 3) := by decide +kernel
theorem dX2_writeRests_65 : decode cX2_writeRests 65 = .ok (.return_, 1) := by decide +kernel
theorem dX3_init_0 : decode cX3_init 0 = .ok (.aload_n 0, 1) := by decide +kernel
theorem dX3_init_1 : decode cX3_init 1 = .ok (.invokespecial 3, 3) := by decide +kernel
theorem dX3_init_4 : decode cX3_init 4 = .ok (.aload_n 0, 1) := by decide +kernel
theorem dX3_init_5 : decode cX3_init 5 = .ok (.aload_n 1, 1) := by decide +kernel
theorem dX3_init_6 : decode cX3_init 6 = .ok (.putfield 9, 3) := by decide +kernel
theorem dX3_init_9 : decode cX3_init 9 = .ok (.aload_n 0, 1) := by decide +kernel
theorem dX3_init_10 : decode cX3_init 10 = .ok (.new 15, 3) := by decide +kernel
theorem dX3_init_13 : decode cX3_init 13 = .ok (.dup, 1) := by decide +kernel
theorem dX3_init_14 : decode cX3_init 14 = .ok (.aload_n 1, 1) := by decide +kernel
theorem dX3_init_15 : decode cX3_init 15 = .ok (.invokespecial 17, 3) := by decide +kernel
theorem dX3_init_18 : decode cX3_init 18 = .ok (.putfield 20, 3) := by decide +kernel
theorem dX3_init_21 : decode cX3_init 21 = .ok (.return_, 1) := by decide +kernel
theorem dX3_readFrame_0 : decode cX3_readFrame 0 = .ok (.aload_n 0, 1) := by decide +kernel
theorem dX3_readFrame_1 : decode cX3_readFrame 1 = .ok (.getfield 9, 3) := by decide +kernel
theorem dX3_readFrame_4 : decode cX3_readFrame 4 = .ok (.iload_n 1, 1) := by decide +kernel
theorem dX3_readFrame_5 : decode cX3_readFrame 5 = .ok (.invokevirtual 24, 3) := by decide +kernel
theorem dX3_readFrame_8 : decode cX3_readFrame 8 = .ok (.aload_n 0, 1) := by decide +kernel
theorem dX3_readFrame_9 : decode cX3_readFrame 9 = .ok (.aload_n 2, 1) := by decide +kernel
theorem dX3_readFrame_10 : decode cX3_readFrame 10 = .ok (.invokevirtual 30, 3) := by decide +kernel
theorem dX3_readFrame_13 : decode cX3_readFrame 13 = .ok (.aload_n 2, 1) := by decide +kernel
theorem dX3_readFrame_14 : decode cX3_readFrame 14 = .ok (.getfield 34, 3) := by decide +kernel
theorem dX3_readFrame_17 : decode cX3_readFrame 17 = .ok (.iconst 1, 1) := by decide +kernel
theorem dX3_readFrame_18 : decode cX3_readFrame 18 = .ok (.iconst (-1), 1) := by decide +kernel
theorem dX3_readFrame_19 : decode cX3_readFrame 19 = .ok (.iastore, 1) := by decide +kernel
theorem dX3_readFrame_20 : decode cX3_readFrame 20 = .ok (.aload_n 0, 1) := by decide +kernel
theorem dX3_readFrame_21 : decode cX3_readFrame 21 = .ok (.getfield 9, 3) := by decide +kernel
theorem dX3_readFrame_24 : decode cX3_readFrame 24 = .ok (.getfield 40, 3) := by decide +kernel
theorem dX3_readFrame_27 : decode cX3_readFrame 27 = .ok (.ifCond .ne 43, 3) := by decide +kernel
theorem dX3_readFrame_30 : decode cX3_readFrame 30 = .ok (.getstatic 44, 3) := by decide +kernel
theorem dX3_readFrame_33 : decode cX3_readFrame 33 = .ok (.aload_n 2, 1) := by decide +kernel
theorem dX3_readFrame_34 : decode cX3_readFrame 34 = .ok (.getfield 47, 3) := by decide +kernel
theorem dX3_readFrame_37 : decode cX3_readFrame 37 = .ok (.iaload, 1) := by decide +kernel
theorem dX3_readFrame_38 : decode cX3_readFrame 38 = .ok (.aload_n 2, 1) := by decide +kernel
theorem dX3_readFrame_39 : decode cX3_readFrame 39 = .ok (.getfield 50, 3) := by decide +kernel
theorem dX3_readFrame_42 : decode cX3_readFrame 42 = .ok (.invokestatic 53, 3) := by decide +kernel
theorem dX3_readFrame_45 : decode cX3_readFrame 45 = .ok (.istore_n 3, 1) := by decide +kernel
theorem dX3_readFrame_46 : decode cX3_readFrame 46 = .ok (.aload_n 2, 1) := by decide +kernel
theorem dX3_readFrame_47 : decode cX3_readFrame 47 = .ok (.getfield 34, 3) := by decide +kernel
theorem dX3_readFrame_50 : decode cX3_readFrame 50 = .ok (.iconst 0, 1) := by decide +kernel
theorem dX3_readFrame_51 : decode cX3_readFrame 51 = .ok (.aload_n 0, 1) := by decide +kernel
theorem dX3_readFrame_52 : decode cX3_readFrame 52 = .ok (.getfield 20, 3) := by decide +kernel
theorem dX3_readFrame_55 : decode cX3_readFrame 55 = .ok (.aload_n 2, 1) := by decide +kernel
theorem dX3_readFrame_56 : decode cX3_readFrame 56 = .ok (.getfield 57, 3) := by decide +kernel
theorem dX3_readFrame_59 : decode cX3_readFrame 59 = .ok (.iconst 0, 1) := by decide +kernel
theorem dX3_readFrame_60 : decode cX3_readFrame 60 = .ok (.aaload, 1) := by decide +kernel
theorem dX3_readFrame_61 : decode cX3_readFrame 61 = .ok (.aload_n 2, 1) := by decide +kernel
theorem dX3_readFrame_62 : decode cX3_readFrame 62 = .ok (.getfield 61, 3) := by decide +kernel
theorem dX3_readFrame_65 : decode cX3_readFrame 65 = .ok (.iload_n 3, 1) := by decide +kernel
theorem dX3_readFrame_66 : decode cX3_readFrame 66 = .ok (.invokevirtual 64, 3) := by decide +kernel
theorem dX3_readFrame_69 : decode cX3_readFrame 69 = .ok (.iastore, 1) := by decide +kernel
theorem dX3_readFrame_70 : decode cX3_readFrame 70 = .ok (.aload_n 0, 1) := by decide +kernel
theorem dX3_readFrame_71 : decode cX3_readFrame 71 = .ok (.getfield 9, 3) := by decide +kernel
theorem dX3_readFrame_74 : decode cX3_readFrame 74 = .ok (.getfield 40, 3) := by decide +kernel
theorem dX3_readFrame_77 : decode cX3_readFrame 77 = .ok (.ifCond .ne 51, 3) := by decide +kernel
theorem dX3_readFrame_80 : decode cX3_readFrame 80 = .ok (.aload_n 2, 1) := by decide +kernel
theorem dX3_readFrame_81 : decode cX3_readFrame 81 = .ok (.getfield 68, 3) := by decide +kernel
theorem dX3_readFrame_84 : decode cX3_readFrame 84 = .ok (.iconst 2, 1) := by decide +kernel
theorem dX3_readFrame_85 : decode cX3_readFrame 85 = .ok (.if_icmp .ne 43, 3) := by decide +kernel
theorem dX3_readFrame_88 : decode cX3_readFrame 88 = .ok (.getstatic 71, 3) := by decide +kernel
theorem dX3_readFrame_91 : decode cX3_readFrame 91 = .ok (.aload_n 2, 1) := by decide +kernel
theorem dX3_readFrame_92 : decode cX3_readFrame 92 = .ok (.getfield 47, 3) := by decide +kernel
theorem dX3_readFrame_95 : decode cX3_readFrame 95 = .ok (.iaload, 1) := by decide +kernel
theorem dX3_readFrame_96 : decode cX3_readFrame 96 = .ok (.aload_n 2, 1) := by decide +kernel
theorem dX3_readFrame_97 : decode cX3_readFrame 97 = .ok (.getfield 50, 3) := by decide +kernel
theorem dX3_readFrame_100 : decode cX3_readFrame 100 = .ok (.invokestatic 53, 3) := by decide +kernel
theorem dX3_readFrame_103 : decode cX3_readFrame 103 = .ok (.istore_n 3, 1) := by decide +kernel
theorem dX3_readFrame_104 : decode cX3_readFrame 104 = .ok (.aload_n 2, 1) := by decide +kernel
theorem dX3_readFrame_105 : decode cX3_readFrame 105 = .ok (.getfield 34, 3) := by decide +kernel
theorem dX3_readFrame_108 : decode cX3_readFrame 108 = .ok (.iconst 1, 1) := by decide +kernel
theorem dX3_readFrame_109 : decode cX3_readFrame 109 = .ok (.aload_n 0, 1) := by decide +kernel
theorem dX3_readFrame_110 : decode cX3_readFrame 110 = .ok (.getfield 20, 3) := by decide +kernel
theorem dX3_readFrame_113 : decode cX3_readFrame 113 = .ok (.aload_n 2, 1) := by decide +kernel
theorem dX3_readFrame_114 : decode cX3_readFrame 114 = .ok (.getfield 57, 3) := by decide +kernel
theorem dX3_readFrame_117 : decode cX3_readFrame 117 = .ok (.iconst 1, 1) := by decide +kernel
theorem dX3_readFrame_118 : decode cX3_readFrame 118 = .ok (.aaload, 1) := by decide +kernel
theorem dX3_readFrame_119 : decode cX3_readFrame 119 = .ok (.aload_n 2, 1) := by decide +kernel
theorem dX3_readFrame_120 : decode cX3_readFrame 120 = .ok (.getfield 61, 3) := by decide +kernel
theorem dX3_readFrame_123 : decode cX3_readFrame 123 = .ok (.iload_n 3, 1) := by decide +kernel
theorem dX3_readFrame_124 : decode cX3_readFrame 124 = .ok (.invokevirtual 64, 3) := by decide +kernel
theorem dX3_readFrame_127 : decode cX3_readFrame 127 = .ok (.iastore, 1) := by decide +kernel
theorem dX3_readFrame_128 : decode cX3_readFrame 128 = .ok (.aload_n 0, 1) := by decide +kernel
theorem dX3_readFrame_129 : decode cX3_readFrame 129 = .ok (.getfield 9, 3) := by decide +kernel
theorem dX3_readFrame_132 : decode cX3_readFrame 132 = .ok (.getfield 40, 3) := by decide +kernel
theorem dX3_readFrame_135 : decode cX3_readFrame 135 = .ok (.ifCond .ne 9, 3) := by decide +kernel
theorem dX3_readFrame_138 : decode cX3_readFrame 138 = .ok (.aload_n 0, 1) := by decide +kernel
theorem dX3_readFrame_139 : decode cX3_readFrame 139 = .ok (.iload_n 1, 1) := by decide +kernel
theorem dX3_readFrame_140 : decode cX3_readFrame 140 = .ok (.aload_n 2, 1) := by decide +kernel
theorem dX3_readFrame_141 : decode cX3_readFrame 141 = .ok (.invokevirtual 74, 3) := by decide +kernel
theorem dX3_readFrame_144 : decode cX3_readFrame 144 = .ok (.aload_n 0, 1) := by decide +kernel
theorem dX3_readFrame_145 : decode cX3_readFrame 145 = .ok (.getfield 9, 3) := by decide +kernel
theorem dX3_readFrame_148 : decode cX3_readFrame 148 = .ok (.getfield 40, 3) := by decide +kernel
theorem dX3_readFrame_151 : decode cX3_readFrame 151 = .ok (.ireturn, 1) := by decide +kernel
theorem dX3_readHead_0 : decode cX3_readHead 0 = .ok (.aload_n 1, 1) := by decide +kernel
theorem dX3_readHead_1 : decode cX3_readHead 1 = .ok (.iconst 1, 1) := by decide +kernel
theorem dX3_readHead_2 : decode cX3_readHead 2 = .ok (.aload_n 0, 1) := by decide +kernel
theorem dX3_readHead_3 : decode cX3_readHead 3 = .ok (.getfield 9, 3) := by decide +kernel
theorem dX3_readHead_6 : decode cX3_readHead 6 = .ok (.bipush 9, 2) := by decide +kernel
theorem dX3_readHead_8 : decode cX3_readHead 8 = .ok (.invokevirtual 78, 3) := by decide +kernel
theorem dX3_readHead_11 : decode cX3_readHead 11 = .ok (.iadd, 1) := by decide +kernel
theorem dX3_readHead_12 : decode cX3_readHead 12 = .ok (.putfield 61, 3) := by decide +kernel
theorem dX3_readHead_15 : decode cX3_readHead 15 = .ok (.aload_n 0, 1) := by decide +kernel
theorem dX3_readHead_16 : decode cX3_readHead 16 = .ok (.getfield 9, 3) := by decide +kernel
theorem dX3_readHead_19 : decode cX3_readHead 19 = .ok (.aload_n 1, 1) := by decide +kernel
theorem dX3_readHead_20 : decode cX3_readHead 20 = .ok (.getfield 61, 3) := by decide +kernel
theorem dX3_readHead_23 : decode cX3_readHead 23 = .ok (.sipush 400, 3) := by decide +kernel
theorem dX3_readHead_26 : decode cX3_readHead 26 = .ok (.if_icmp .le 7, 3) := by decide +kernel
theorem dX3_readHead_29 : decode cX3_readHead 29 = .ok (.iconst 1, 1) := by decide +kernel
theorem dX3_readHead_30 : decode cX3_readHead 30 = .ok (.goto 4, 3) := by decide +kernel
theorem dX3_readHead_33 : decode cX3_readHead 33 = .ok (.iconst 0, 1) := by decide +kernel
theorem dX3_readHead_34 : decode cX3_readHead 34 = .ok (.iconst 2, 1) := by decide +kernel
theorem dX3_readHead_35 : decode cX3_readHead 35 = .ok (.invokevirtual 82, 3) := by decide +kernel
theorem dX3_readHead_38 : decode cX3_readHead 38 = .ok (.ifCond .eq 4, 3) := by decide +kernel
theorem dX3_readHead_41 : decode cX3_readHead 41 = .ok (.return_, 1) := by decide +kernel
theorem dX3_readHead_42 : decode cX3_readHead 42 = .ok (.aload_n 1, 1) := by decide +kernel
theorem dX3_readHead_43 : decode cX3_readHead 43 = .ok (.iconst 1, 1) := by decide +kernel
theorem dX3_readHead_44 : decode cX3_readHead 44 = .ok (.aload_n 0, 1) := by decide +kernel
theorem dX3_readHead_45 : decode cX3_readHead 45 = .ok (.getfield 9, 3) := by decide +kernel
theorem dX3_readHead_48 : decode cX3_readHead 48 = .ok (.iconst 1, 1) := by decide +kernel
theorem dX3_readHead_49 : decode cX3_readHead 49 = .ok (.invokevirtual 78, 3) := by decide +kernel
theorem dX3_readHead_52 : decode cX3_readHead 52 = .ok (.iadd, 1) := by decide +kernel
theorem dX3_readHead_53 : decode cX3_readHead 53 = .ok (.putfield 68, 3) := by decide +kernel
theorem dX3_readHead_56 : decode cX3_readHead 56 = .ok (.aload_n 1, 1) := by decide +kernel
theorem dX3_readHead_57 : decode cX3_readHead 57 = .ok (.aload_n 0, 1) := by decide +kernel
theorem dX3_readHead_58 : decode cX3_readHead 58 = .ok (.getfield 9, 3) := by decide +kernel
theorem dX3_readHead_61 : decode cX3_readHead 61 = .ok (.iconst 2, 1) := by decide +kernel
theorem dX3_readHead_62 : decode cX3_readHead 62 = .ok (.invokevirtual 78, 3) := by decide +kernel
theorem dX3_readHead_65 : decode cX3_readHead 65 = .ok (.putfield 47, 3) := by decide +kernel
theorem dX3_readHead_68 : decode cX3_readHead 68 = .ok (.aload_n 0, 1) := by decide +kernel
theorem dX3_readHead_69 : decode cX3_readHead 69 = .ok (.getfield 9, 3) := by decide +kernel
theorem dX3_readHead_72 : decode cX3_readHead 72 = .ok (.aload_n 1, 1) := by decide +kernel
theorem dX3_readHead_73 : decode cX3_readHead 73 = .ok (.getfield 68, 3) := by decide +kernel
theorem dX3_readHead_76 : decode cX3_readHead 76 = .ok (.iconst 1, 1) := by decide +kernel
theorem dX3_readHead_77 : decode cX3_readHead 77 = .ok (.if_icmp .ne 14, 3) := by decide +kernel
theorem dX3_readHead_80 : decode cX3_readHead 80 = .ok (.aload_n 1, 1) := by decide +kernel
theorem dX3_readHead_81 : decode cX3_readHead 81 = .ok (.getfield 47, 3) := by decide +kernel
theorem dX3_readHead_84 : decode cX3_readHead 84 = .ok (.ifCond .eq 7, 3) := by decide +kernel
theorem dX3_readHead_87 : decode cX3_readHead 87 = .ok (.iconst 1, 1) := by decide +kernel
theorem dX3_readHead_88 : decode cX3_readHead 88 = .ok (.goto 4, 3) := by decide +kernel
theorem dX3_readHead_91 : decode cX3_readHead 91 = .ok (.iconst 0, 1) := by decide +kernel
theorem dX3_readHead_92 : decode cX3_readHead 92 = .ok (.iconst 3, 1) := by decide +kernel
theorem dX3_readHead_93 : decode cX3_readHead 93 = .ok (.invokevirtual 82, 3) := by decide +kernel
theorem dX3_readHead_96 : decode cX3_readHead 96 = .ok (.ifCond .eq 4, 3) := by decide +kernel
theorem dX3_readHead_99 : decode cX3_readHead 99 = .ok (.return_, 1) := by decide +kernel
theorem dX3_readHead_100 : decode cX3_readHead 100 = .ok (.aload_n 1, 1) := by decide +kernel
theorem dX3_readHead_101 : decode cX3_readHead 101 = .ok (.iconst 1, 1) := by decide +kernel
theorem dX3_readHead_102 : decode cX3_readHead 102 = .ok (.aload_n 0, 1) := by decide +kernel
theorem dX3_readHead_103 : decode cX3_readHead 103 = .ok (.getfield 9, 3) := by decide +kernel
theorem dX3_readHead_106 : decode cX3_readHead 106 = .ok (.iconst 4, 1) := by decide +kernel
theorem dX3_readHead_107 : decode cX3_readHead 107 = .ok (.invokevirtual 78, 3) := by decide +kernel
theorem dX3_readHead_110 : decode cX3_readHead 110 = .ok (.iadd, 1) := by decide +kernel
theorem dX3_readHead_111 : decode cX3_readHead 111 = .ok (.putfield 50, 3) := by decide +kernel
theorem dX3_readHead_114 : decode cX3_readHead 114 = .ok (.return_, 1) := by decide +kernel
theorem dX3_readEnd_0 : decode cX3_readEnd 0 = .ok (.aload_n 0, 1) := by decide +kernel
theorem dX3_readEnd_1 : decode cX3_readEnd 1 = .ok (.getfield 9, 3) := by decide +kernel
theorem dX3_readEnd_4 : decode cX3_readEnd 4 = .ok (.aload_n 0, 1) := by decide +kernel
theorem dX3_readEnd_5 : decode cX3_readEnd 5 = .ok (.getfield 9, 3) := by decide +kernel
theorem dX3_readEnd_8 : decode cX3_readEnd 8 = .ok (.invokevirtual 86, 3) := by decide +kernel
theorem dX3_readEnd_11 : decode cX3_readEnd 11 = .ok (.invokevirtual 78, 3) := by decide +kernel
theorem dX3_readEnd_14 : decode cX3_readEnd 14 = .ok (.istore_n 3, 1) := by decide +kernel
theorem dX3_readEnd_15 : decode cX3_readEnd 15 = .ok (.aload_n 0, 1) := by decide +kernel
theorem dX3_readEnd_16 : decode cX3_readEnd 16 = .ok (.getfield 9, 3) := by decide +kernel
theorem dX3_readEnd_19 : decode cX3_readEnd 19 = .ok (.iload_n 3, 1) := by decide +kernel
theorem dX3_readEnd_20 : decode cX3_readEnd 20 = .ok (.ifCond .eq 7, 3) := by decide +kernel
theorem dX3_readEnd_23 : decode cX3_readEnd 23 = .ok (.iconst 1, 1) := by decide +kernel
theorem dX3_readEnd_24 : decode cX3_readEnd 24 = .ok (.goto 4, 3) := by decide +kernel
theorem dX3_readEnd_27 : decode cX3_readEnd 27 = .ok (.iconst 0, 1) := by decide +kernel
theorem dX3_readEnd_28 : decode cX3_readEnd 28 = .ok (.bipush 9, 2) := by decide +kernel
theorem dX3_readEnd_30 : decode cX3_readEnd 30 = .ok (.invokevirtual 82, 3) := by decide +kernel
theorem dX3_readEnd_33 : decode cX3_readEnd 33 = .ok (.ifCond .eq 4, 3) := by decide +kernel
theorem dX3_readEnd_36 : decode cX3_readEnd 36 = .ok (.return_, 1) := by decide +kernel
theorem dX3_readEnd_37 : decode cX3_readEnd 37 = .ok (.aload_n 0, 1) := by decide +kernel
theorem dX3_readEnd_38 : decode cX3_readEnd 38 = .ok (.getfield 9, 3) := by decide +kernel
theorem dX3_readEnd_41 : decode cX3_readEnd 41 = .ok (.iload_n 1, 1) := by decide +kernel
theorem dX3_readEnd_42 : decode cX3_readEnd 42 = .ok (.aload_n 0, 1) := by decide +kernel
theorem dX3_readEnd_43 : decode cX3_readEnd 43 = .ok (.getfield 9, 3) := by decide +kernel
theorem dX3_readEnd_46 : decode cX3_readEnd 46 = .ok (.invokevirtual 90, 3) := by decide +kernel
theorem dX3_readEnd_49 : decode cX3_readEnd 49 = .ok (.invokevirtual 93, 3) := by decide +kernel
theorem dX3_readEnd_52 : decode cX3_readEnd 52 = .ok (.istore 4, 2) := by decide +kernel
theorem dX3_readEnd_54 : decode cX3_readEnd 54 = .ok (.aload_n 0, 1) := by decide +kernel
theorem dX3_readEnd_55 : decode cX3_readEnd 55 = .ok (.getfield 9, 3) := by decide +kernel
theorem dX3_readEnd_58 : decode cX3_readEnd 58 = .ok (.bipush 8, 2) := by decide +kernel
theorem dX3_readEnd_60 : decode cX3_readEnd 60 = .ok (.invokevirtual 78, 3) := by decide +kernel
theorem dX3_readEnd_63 : decode cX3_readEnd 63 = .ok (.istore 5, 2) := by decide +kernel
theorem dX3_readEnd_65 : decode cX3_readEnd 65 = .ok (.aload_n 0, 1) := by decide +kernel
theorem dX3_readEnd_66 : decode cX3_readEnd 66 = .ok (.getfield 9, 3) := by decide +kernel
theorem dX3_readEnd_69 : decode cX3_readEnd 69 = .ok (.iload 5, 2) := by decide +kernel
theorem dX3_readEnd_71 : decode cX3_readEnd 71 = .ok (.iload 4, 2) := by decide +kernel
theorem dX3_readEnd_73 : decode cX3_readEnd 73 = .ok (.if_icmp .eq 7, 3) := by decide +kernel
theorem dX3_readEnd_76 : decode cX3_readEnd 76 = .ok (.iconst 1, 1) := by decide +kernel
theorem dX3_readEnd_77 : decode cX3_readEnd 77 = .ok (.goto 4, 3) := by decide +kernel
theorem dX3_readEnd_80 : decode cX3_readEnd 80 = .ok (.iconst 0, 1) := by decide +kernel
theorem dX3_readEnd_81 : decode cX3_readEnd 81 = .ok (.bipush 10, 2) := by decide +kernel
theorem dX3_readEnd_83 : decode cX3_readEnd 83 = .ok (.invokevirtual 82, 3) := by decide +kernel
theorem dX3_readEnd_86 : decode cX3_readEnd 86 = .ok (.ifCond .eq 4, 3) := by decide +kernel
theorem dX3_readEnd_89 : decode cX3_readEnd 89 = .ok (.return_, 1) := by decide +kernel
theorem dX3_readEnd_90 : decode cX3_readEnd 90 = .ok (.aload_n 2, 1) := by decide +kernel
theorem dX3_readEnd_91 : decode cX3_readEnd 91 = .ok (.aload_n 0, 1) := by decide +kernel
theorem dX3_readEnd_92 : decode cX3_readEnd 92 = .ok (.getfield 9, 3) := by decide +kernel
theorem dX3_readEnd_95 : decode cX3_readEnd 95 = .ok (.invokevirtual 90, 3) := by decide +kernel
theorem dX3_readEnd_98 : decode cX3_readEnd 98 = .ok (.putfield 96, 3) := by decide +kernel
theorem dX3_readEnd_101 : decode cX3_readEnd 101 = .ok (.aload_n 0, 1) := by decide +kernel
theorem dX3_readEnd_102 : decode cX3_readEnd 102 = .ok (.getfield 9, 3) := by decide +kernel
theorem dX3_readEnd_105 : decode cX3_readEnd 105 = .ok (.aload_n 2, 1) := by decide +kernel
theorem dX3_readEnd_106 : decode cX3_readEnd 106 = .ok (.invokevirtual 99, 3) := by decide +kernel
theorem dX3_readEnd_109 : decode cX3_readEnd 109 = .ok (.ifCond .ne 7, 3) := by decide +kernel
theorem dX3_readEnd_112 : decode cX3_readEnd 112 = .ok (.iconst 1, 1) := by decide +kernel
theorem dX3_readEnd_113 : decode cX3_readEnd 113 = .ok (.goto 4, 3) := by decide +kernel
theorem dX3_readEnd_116 : decode cX3_readEnd 116 = .ok (.iconst 0, 1) := by decide +kernel
theorem dX3_readEnd_117 : decode cX3_readEnd 117 = .ok (.bipush 11, 2) := by decide +kernel
theorem dX3_readEnd_119 : decode cX3_readEnd 119 = .ok (.invokevirtual 82, 3) := by decide +kernel
theorem dX3_readEnd_122 : decode cX3_readEnd 122 = .ok (.pop, 1) := by decide +kernel
theorem dX3_readEnd_123 : decode cX3_readEnd 123 = .ok (.return_, 1) := by decide +kernel
theorem dX4_init_0 : decode cX4_init 0 = .ok (.aload_n 0, 1) := by decide +kernel
theorem dX4_init_1 : decode cX4_init 1 = .ok (.invokespecial 3, 3) := by decide +kernel
theorem dX4_init_4 : decode cX4_init 4 = .ok (.aload_n 0, 1) := by decide +kernel
theorem dX4_init_5 : decode cX4_init 5 = .ok (.iconst 2, 1) := by decide +kernel
theorem dX4_init_6 : decode cX4_init 6 = .ok (.sipush 400, 3) := by decide +kernel
theorem dX4_init_9 : decode cX4_init 9 = .ok (.multianewarray 9 2, 4) := by decide +kernel
theorem dX4_init_13 : decode cX4_init 13 = .ok (.putfield 11, 3) := by decide +kernel
theorem dX4_init_16 : decode cX4_init 16 = .ok (.aload_n 0, 1) := by decide +kernel
theorem dX4_init_17 : decode cX4_init 17 = .ok (.iconst 2, 1) := by decide +kernel
theorem dX4_init_18 : decode cX4_init 18 = .ok (.newarray .int, 2) := by decide +kernel
theorem dX4_init_20 : decode cX4_init 20 = .ok (.putfield 16, 3) := by decide +kernel
theorem dX4_init_23 : decode cX4_init 23 = .ok (.return_, 1) := by decide +kernel
theorem dX4_unturn_0 : decode cX4_unturn 0 = .ok (.iconst 0, 1) := by decide +kernel
theorem dX4_unturn_1 : decode cX4_unturn 1 = .ok (.istore_n 1, 1) := by decide +kernel
theorem dX4_unturn_2 : decode cX4_unturn 2 = .ok (.iload_n 1, 1) := by decide +kernel
theorem dX4_unturn_3 : decode cX4_unturn 3 = .ok (.aload_n 0, 1) := by decide +kernel
theorem dX4_unturn_4 : decode cX4_unturn 4 = .ok (.getfield 20, 3) := by decide +kernel
theorem dX4_unturn_7 : decode cX4_unturn 7 = .ok (.if_icmp .ge 132, 3) := by decide +kernel
theorem dX4_unturn_10 : decode cX4_unturn 10 = .ok (.aload_n 0, 1) := by decide +kernel
theorem dX4_unturn_11 : decode cX4_unturn 11 = .ok (.getfield 24, 3) := by decide +kernel
theorem dX4_unturn_14 : decode cX4_unturn 14 = .ok (.ifCond .eq 125, 3) := by decide +kernel
theorem dX4_unturn_17 : decode cX4_unturn 17 = .ok (.aload_n 0, 1) := by decide +kernel
theorem dX4_unturn_18 : decode cX4_unturn 18 = .ok (.getfield 11, 3) := by decide +kernel
theorem dX4_unturn_21 : decode cX4_unturn 21 = .ok (.iconst 0, 1) := by decide +kernel
theorem dX4_unturn_22 : decode cX4_unturn 22 = .ok (.aaload, 1) := by decide +kernel
theorem dX4_unturn_23 : decode cX4_unturn 23 = .ok (.iload_n 1, 1) := by decide +kernel
theorem dX4_unturn_24 : decode cX4_unturn 24 = .ok (.iaload, 1) := by decide +kernel
theorem dX4_unturn_25 : decode cX4_unturn 25 = .ok (.istore_n 2, 1) := by decide +kernel
theorem dX4_unturn_26 : decode cX4_unturn 26 = .ok (.aload_n 0, 1) := by decide +kernel
theorem dX4_unturn_27 : decode cX4_unturn 27 = .ok (.getfield 11, 3) := by decide +kernel
theorem dX4_unturn_30 : decode cX4_unturn 30 = .ok (.iconst 1, 1) := by decide +kernel
theorem dX4_unturn_31 : decode cX4_unturn 31 = .ok (.aaload, 1) := by decide +kernel
theorem dX4_unturn_32 : decode cX4_unturn 32 = .ok (.iload_n 1, 1) := by decide +kernel
theorem dX4_unturn_33 : decode cX4_unturn 33 = .ok (.iaload, 1) := by decide +kernel
theorem dX4_unturn_34 : decode cX4_unturn 34 = .ok (.istore_n 3, 1) := by decide +kernel
theorem dX4_unturn_35 : decode cX4_unturn 35 = .ok (.aload_n 0, 1) := by decide +kernel
theorem dX4_unturn_36 : decode cX4_unturn 36 = .ok (.getfield 24, 3) := by decide +kernel
theorem dX4_unturn_39 : decode cX4_unturn 39 = .ok (.iconst 1, 1) := by decide +kernel
theorem dX4_unturn_40 : decode cX4_unturn 40 = .ok (.if_icmp .ne 10, 3) := by decide +kernel
theorem dX4_unturn_43 : decode cX4_unturn 43 = .ok (.iload_n 2, 1) := by decide +kernel
theorem dX4_unturn_44 : decode cX4_unturn 44 = .ok (.iload_n 3, 1) := by decide +kernel
theorem dX4_unturn_45 : decode cX4_unturn 45 = .ok (.isub, 1) := by decide +kernel
theorem dX4_unturn_46 : decode cX4_unturn 46 = .ok (.istore_n 3, 1) := by decide +kernel
theorem dX4_unturn_47 : decode cX4_unturn 47 = .ok (.goto 44, 3) := by decide +kernel
theorem dX4_unturn_50 : decode cX4_unturn 50 = .ok (.aload_n 0, 1) := by decide +kernel
theorem dX4_unturn_51 : decode cX4_unturn 51 = .ok (.getfield 24, 3) := by decide +kernel
theorem dX4_unturn_54 : decode cX4_unturn 54 = .ok (.iconst 2, 1) := by decide +kernel
theorem dX4_unturn_55 : decode cX4_unturn 55 = .ok (.if_icmp .ne 10, 3) := by decide +kernel
theorem dX4_unturn_58 : decode cX4_unturn 58 = .ok (.iload_n 2, 1) := by decide +kernel
theorem dX4_unturn_59 : decode cX4_unturn 59 = .ok (.iload_n 3, 1) := by decide +kernel
theorem dX4_unturn_60 : decode cX4_unturn 60 = .ok (.iadd, 1) := by decide +kernel
theorem dX4_unturn_61 : decode cX4_unturn 61 = .ok (.istore_n 2, 1) := by decide +kernel
theorem dX4_unturn_62 : decode cX4_unturn 62 = .ok (.goto 29, 3) := by decide +kernel
theorem dX4_unturn_65 : decode cX4_unturn 65 = .ok (.iload_n 3, 1) := by decide +kernel
theorem dX4_unturn_66 : decode cX4_unturn 66 = .ok (.istore 4, 2) := by decide +kernel
theorem dX4_unturn_68 : decode cX4_unturn 68 = .ok (.iconst 2, 1) := by decide +kernel
theorem dX4_unturn_69 : decode cX4_unturn 69 = .ok (.iload_n 2, 1) := by decide +kernel
theorem dX4_unturn_70 : decode cX4_unturn 70 = .ok (.imul, 1) := by decide +kernel
theorem dX4_unturn_71 : decode cX4_unturn 71 = .ok (.iload 4, 2) := by decide +kernel
theorem dX4_unturn_73 : decode cX4_unturn 73 = .ok (.iconst 1, 1) := by decide +kernel
theorem dX4_unturn_74 : decode cX4_unturn 74 = .ok (.iand, 1) := by decide +kernel
theorem dX4_unturn_75 : decode cX4_unturn 75 = .ok (.iadd, 1) := by decide +kernel
theorem dX4_unturn_76 : decode cX4_unturn 76 = .ok (.istore 5, 2) := by decide +kernel
theorem dX4_unturn_78 : decode cX4_unturn 78 = .ok (.iload 5, 2) := by decide +kernel
theorem dX4_unturn_80 : decode cX4_unturn 80 = .ok (.iload 4, 2) := by decide +kernel
theorem dX4_unturn_82 : decode cX4_unturn 82 = .ok (.iadd, 1) := by decide +kernel
theorem dX4_unturn_83 : decode cX4_unturn 83 = .ok (.iconst 1, 1) := by decide +kernel
theorem dX4_unturn_84 : decode cX4_unturn 84 = .ok (.ishr, 1) := by decide +kernel
theorem dX4_unturn_85 : decode cX4_unturn 85 = .ok (.istore_n 2, 1) := by decide +kernel
theorem dX4_unturn_86 : decode cX4_unturn 86 = .ok (.iload_n 2, 1) := by decide +kernel
theorem dX4_unturn_87 : decode cX4_unturn 87 = .ok (.iload 4, 2) := by decide +kernel
theorem dX4_unturn_89 : decode cX4_unturn 89 = .ok (.isub, 1) := by decide +kernel
theorem dX4_unturn_90 : decode cX4_unturn 90 = .ok (.istore_n 3, 1) := by decide +kernel
theorem dX4_unturn_91 : decode cX4_unturn 91 = .ok (.iload_n 2, 1) := by decide +kernel
theorem dX4_unturn_92 : decode cX4_unturn 92 = .ok (.aload_n 0, 1) := by decide +kernel
theorem dX4_unturn_93 : decode cX4_unturn 93 = .ok (.getfield 27, 3) := by decide +kernel
theorem dX4_unturn_96 : decode cX4_unturn 96 = .ok (.invokestatic 30, 3) := by decide +kernel
theorem dX4_unturn_99 : decode cX4_unturn 99 = .ok (.ifCond .eq 14, 3) := by decide +kernel
theorem dX4_unturn_102 : decode cX4_unturn 102 = .ok (.iload_n 3, 1) := by decide +kernel
theorem dX4_unturn_103 : decode cX4_unturn 103 = .ok (.aload_n 0, 1) := by decide +kernel
theorem dX4_unturn_104 : decode cX4_unturn 104 = .ok (.getfield 27, 3) := by decide +kernel
theorem dX4_unturn_107 : decode cX4_unturn 107 = .ok (.invokestatic 30, 3) := by decide +kernel
theorem dX4_unturn_110 : decode cX4_unturn 110 = .ok (.ifCond .ne 5, 3) := by decide +kernel
theorem dX4_unturn_113 : decode cX4_unturn 113 = .ok (.iconst 0, 1) := by decide +kernel
theorem dX4_unturn_114 : decode cX4_unturn 114 = .ok (.ireturn, 1) := by decide +kernel
theorem dX4_unturn_115 : decode cX4_unturn 115 = .ok (.aload_n 0, 1) := by decide +kernel
theorem dX4_unturn_116 : decode cX4_unturn 116 = .ok (.getfield 11, 3) := by decide +kernel
theorem dX4_unturn_119 : decode cX4_unturn 119 = .ok (.iconst 0, 1) := by decide +kernel
theorem dX4_unturn_120 : decode cX4_unturn 120 = .ok (.aaload, 1) := by decide +kernel
theorem dX4_unturn_121 : decode cX4_unturn 121 = .ok (.iload_n 1, 1) := by decide +kernel
theorem dX4_unturn_122 : decode cX4_unturn 122 = .ok (.iload_n 2, 1) := by decide +kernel
theorem dX4_unturn_123 : decode cX4_unturn 123 = .ok (.iastore, 1) := by decide +kernel
theorem dX4_unturn_124 : decode cX4_unturn 124 = .ok (.aload_n 0, 1) := by decide +kernel
theorem dX4_unturn_125 : decode cX4_unturn 125 = .ok (.getfield 11, 3) := by decide +kernel
theorem dX4_unturn_128 : decode cX4_unturn 128 = .ok (.iconst 1, 1) := by decide +kernel
theorem dX4_unturn_129 : decode cX4_unturn 129 = .ok (.aaload, 1) := by decide +kernel
theorem dX4_unturn_130 : decode cX4_unturn 130 = .ok (.iload_n 1, 1) := by decide +kernel
theorem dX4_unturn_131 : decode cX4_unturn 131 = .ok (.iload_n 3, 1) := by decide +kernel
theorem dX4_unturn_132 : decode cX4_unturn 132 = .ok (.iastore, 1) := by decide +kernel
theorem dX4_unturn_133 : decode cX4_unturn 133 = .ok (.iinc 1 1, 3) := by decide +kernel
theorem dX4_unturn_136 : decode cX4_unturn 136 = .ok (.goto (-134), 3) := by decide +kernel
theorem dX4_unturn_139 : decode cX4_unturn 139 = .ok (.iconst 1, 1) := by decide +kernel
theorem dX4_unturn_140 : decode cX4_unturn 140 = .ok (.ireturn, 1) := by decide +kernel
theorem dX5_init_0 : decode cX5_init 0 = .ok (.aload_n 0, 1) := by decide +kernel
theorem dX5_init_1 : decode cX5_init 1 = .ok (.invokespecial 1, 3) := by decide +kernel
theorem dX5_init_4 : decode cX5_init 4 = .ok (.aload_n 0, 1) := by decide +kernel
theorem dX5_init_5 : decode cX5_init 5 = .ok (.new 7, 3) := by decide +kernel
theorem dX5_init_8 : decode cX5_init 8 = .ok (.dup, 1) := by decide +kernel
theorem dX5_init_9 : decode cX5_init 9 = .ok (.invokespecial 9, 3) := by decide +kernel
theorem dX5_init_12 : decode cX5_init 12 = .ok (.putfield 10, 3) := by decide +kernel
theorem dX5_init_15 : decode cX5_init 15 = .ok (.aload_n 0, 1) := by decide +kernel
theorem dX5_init_16 : decode cX5_init 16 = .ok (.new 7, 3) := by decide +kernel
theorem dX5_init_19 : decode cX5_init 19 = .ok (.dup, 1) := by decide +kernel
theorem dX5_init_20 : decode cX5_init 20 = .ok (.invokespecial 9, 3) := by decide +kernel
theorem dX5_init_23 : decode cX5_init 23 = .ok (.putfield 16, 3) := by decide +kernel
theorem dX5_init_26 : decode cX5_init 26 = .ok (.return_, 1) := by decide +kernel
theorem dX5_keep_0 : decode cX5_keep 0 = .ok (.aload_n 0, 1) := by decide +kernel
theorem dX5_keep_1 : decode cX5_keep 1 = .ok (.aload_n 1, 1) := by decide +kernel
theorem dX5_keep_2 : decode cX5_keep 2 = .ok (.getfield 19, 3) := by decide +kernel
theorem dX5_keep_5 : decode cX5_keep 5 = .ok (.putfield 25, 3) := by decide +kernel
theorem dX5_keep_8 : decode cX5_keep 8 = .ok (.aload_n 0, 1) := by decide +kernel
theorem dX5_keep_9 : decode cX5_keep 9 = .ok (.aload_n 1, 1) := by decide +kernel
theorem dX5_keep_10 : decode cX5_keep 10 = .ok (.getfield 26, 3) := by decide +kernel
theorem dX5_keep_13 : decode cX5_keep 13 = .ok (.putfield 29, 3) := by decide +kernel
theorem dX5_keep_16 : decode cX5_keep 16 = .ok (.aload_n 0, 1) := by decide +kernel
theorem dX5_keep_17 : decode cX5_keep 17 = .ok (.aload_n 1, 1) := by decide +kernel
theorem dX5_keep_18 : decode cX5_keep 18 = .ok (.getfield 30, 3) := by decide +kernel
theorem dX5_keep_21 : decode cX5_keep 21 = .ok (.putfield 33, 3) := by decide +kernel
theorem dX5_keep_24 : decode cX5_keep 24 = .ok (.aload_n 0, 1) := by decide +kernel
theorem dX5_keep_25 : decode cX5_keep 25 = .ok (.aload_n 1, 1) := by decide +kernel
theorem dX5_keep_26 : decode cX5_keep 26 = .ok (.getfield 34, 3) := by decide +kernel
theorem dX5_keep_29 : decode cX5_keep 29 = .ok (.putfield 37, 3) := by decide +kernel
theorem dX5_keep_32 : decode cX5_keep 32 = .ok (.aload_n 0, 1) := by decide +kernel
theorem dX5_keep_33 : decode cX5_keep 33 = .ok (.getfield 10, 3) := by decide +kernel
theorem dX5_keep_36 : decode cX5_keep 36 = .ok (.aload_n 1, 1) := by decide +kernel
theorem dX5_keep_37 : decode cX5_keep 37 = .ok (.getfield 38, 3) := by decide +kernel
theorem dX5_keep_40 : decode cX5_keep 40 = .ok (.getstatic 42, 3) := by decide +kernel
theorem dX5_keep_43 : decode cX5_keep 43 = .ok (.aload_n 0, 1) := by decide +kernel
theorem dX5_keep_44 : decode cX5_keep 44 = .ok (.getfield 33, 3) := by decide +kernel
theorem dX5_keep_47 : decode cX5_keep 47 = .ok (.iaload, 1) := by decide +kernel
theorem dX5_keep_48 : decode cX5_keep 48 = .ok (.aaload, 1) := by decide +kernel
theorem dX5_keep_49 : decode cX5_keep 49 = .ok (.invokevirtual 48, 3) := by decide +kernel
theorem dX5_keep_52 : decode cX5_keep 52 = .ok (.aload_n 0, 1) := by decide +kernel
theorem dX5_keep_53 : decode cX5_keep 53 = .ok (.getfield 29, 3) := by decide +kernel
theorem dX5_keep_56 : decode cX5_keep 56 = .ok (.iconst 2, 1) := by decide +kernel
theorem dX5_keep_57 : decode cX5_keep 57 = .ok (.if_icmp .ne 23, 3) := by decide +kernel
theorem dX5_keep_60 : decode cX5_keep 60 = .ok (.aload_n 0, 1) := by decide +kernel
theorem dX5_keep_61 : decode cX5_keep 61 = .ok (.getfield 16, 3) := by decide +kernel
theorem dX5_keep_64 : decode cX5_keep 64 = .ok (.aload_n 1, 1) := by decide +kernel
theorem dX5_keep_65 : decode cX5_keep 65 = .ok (.getfield 38, 3) := by decide +kernel
theorem dX5_keep_68 : decode cX5_keep 68 = .ok (.getstatic 52, 3) := by decide +kernel
theorem dX5_keep_71 : decode cX5_keep 71 = .ok (.aload_n 0, 1) := by decide +kernel
theorem dX5_keep_72 : decode cX5_keep 72 = .ok (.getfield 33, 3) := by decide +kernel
theorem dX5_keep_75 : decode cX5_keep 75 = .ok (.iaload, 1) := by decide +kernel
theorem dX5_keep_76 : decode cX5_keep 76 = .ok (.aaload, 1) := by decide +kernel
theorem dX5_keep_77 : decode cX5_keep 77 = .ok (.invokevirtual 48, 3) := by decide +kernel
theorem dX5_keep_80 : decode cX5_keep 80 = .ok (.return_, 1) := by decide +kernel
theorem dX6_init_0 : decode cX6_init 0 = .ok (.aload_n 0, 1) := by decide +kernel
theorem dX6_init_1 : decode cX6_init 1 = .ok (.invokespecial 3, 3) := by decide +kernel
theorem dX6_init_4 : decode cX6_init 4 = .ok (.aload_n 0, 1) := by decide +kernel
theorem dX6_init_5 : decode cX6_init 5 = .ok (.sipush 240, 3) := by decide +kernel
theorem dX6_init_8 : decode cX6_init 8 = .ok (.newarray .long, 2) := by decide +kernel
theorem dX6_init_10 : decode cX6_init 10 = .ok (.putfield 9, 3) := by decide +kernel
theorem dX6_init_13 : decode cX6_init 13 = .ok (.aload_n 0, 1) := by decide +kernel
theorem dX6_init_14 : decode cX6_init 14 = .ok (.bipush 16, 2) := by decide +kernel
theorem dX6_init_16 : decode cX6_init 16 = .ok (.newarray .int, 2) := by decide +kernel
theorem dX6_init_18 : decode cX6_init 18 = .ok (.putfield 15, 3) := by decide +kernel
theorem dX6_init_21 : decode cX6_init 21 = .ok (.aload_n 0, 1) := by decide +kernel
theorem dX6_init_22 : decode cX6_init 22 = .ok (.bipush 16, 2) := by decide +kernel
theorem dX6_init_24 : decode cX6_init 24 = .ok (.newarray .int, 2) := by decide +kernel
theorem dX6_init_26 : decode cX6_init 26 = .ok (.putfield 19, 3) := by decide +kernel
theorem dX6_init_29 : decode cX6_init 29 = .ok (.aload_n 0, 1) := by decide +kernel
theorem dX6_init_30 : decode cX6_init 30 = .ok (.bipush 16, 2) := by decide +kernel
theorem dX6_init_32 : decode cX6_init 32 = .ok (.newarray .int, 2) := by decide +kernel
theorem dX6_init_34 : decode cX6_init 34 = .ok (.putfield 22, 3) := by decide +kernel
theorem dX6_init_37 : decode cX6_init 37 = .ok (.return_, 1) := by decide +kernel
theorem dX6_gather_0 : decode cX6_gather 0 = .ok (.aload_n 0, 1) := by decide +kernel
theorem dX6_gather_1 : decode cX6_gather 1 = .ok (.aload_n 1, 1) := by decide +kernel
theorem dX6_gather_2 : decode cX6_gather 2 = .ok (.getfield 25, 3) := by decide +kernel
theorem dX6_gather_5 : decode cX6_gather 5 = .ok (.putfield 31, 3) := by decide +kernel
theorem dX6_gather_8 : decode cX6_gather 8 = .ok (.aload_n 0, 1) := by decide +kernel
theorem dX6_gather_9 : decode cX6_gather 9 = .ok (.aload_n 2, 1) := by decide +kernel
theorem dX6_gather_10 : decode cX6_gather 10 = .ok (.getfield 32, 3) := by decide +kernel
theorem dX6_gather_13 : decode cX6_gather 13 = .ok (.putfield 37, 3) := by decide +kernel
theorem dX6_gather_16 : decode cX6_gather 16 = .ok (.aload_n 0, 1) := by decide +kernel
theorem dX6_gather_17 : decode cX6_gather 17 = .ok (.iconst 0, 1) := by decide +kernel
theorem dX6_gather_18 : decode cX6_gather 18 = .ok (.putfield 38, 3) := by decide +kernel
theorem dX6_gather_21 : decode cX6_gather 21 = .ok (.aload_n 0, 1) := by decide +kernel
theorem dX6_gather_22 : decode cX6_gather 22 = .ok (.getfield 38, 3) := by decide +kernel
theorem dX6_gather_25 : decode cX6_gather 25 = .ok (.iconst 4, 1) := by decide +kernel
theorem dX6_gather_26 : decode cX6_gather 26 = .ok (.if_icmp .ge 36, 3) := by decide +kernel
theorem dX6_gather_29 : decode cX6_gather 29 = .ok (.aload_n 0, 1) := by decide +kernel
theorem dX6_gather_30 : decode cX6_gather 30 = .ok (.getfield 38, 3) := by decide +kernel
theorem dX6_gather_33 : decode cX6_gather 33 = .ok (.iconst 1, 1) := by decide +kernel
theorem dX6_gather_34 : decode cX6_gather 34 = .ok (.iadd, 1) := by decide +kernel
theorem dX6_gather_35 : decode cX6_gather 35 = .ok (.aload_n 0, 1) := by decide +kernel
theorem dX6_gather_36 : decode cX6_gather 36 = .ok (.getfield 31, 3) := by decide +kernel
theorem dX6_gather_39 : decode cX6_gather 39 = .ok (.aload_n 0, 1) := by decide +kernel
theorem dX6_gather_40 : decode cX6_gather 40 = .ok (.getfield 37, 3) := by decide +kernel
theorem dX6_gather_43 : decode cX6_gather 43 = .ok (.invokestatic 41, 3) := by decide +kernel
theorem dX6_gather_46 : decode cX6_gather 46 = .ok (.ifCond .eq 16, 3) := by decide +kernel
theorem dX6_gather_49 : decode cX6_gather 49 = .ok (.aload_n 0, 1) := by decide +kernel
theorem dX6_gather_50 : decode cX6_gather 50 = .ok (.dup, 1) := by decide +kernel
theorem dX6_gather_51 : decode cX6_gather 51 = .ok (.getfield 38, 3) := by decide +kernel
theorem dX6_gather_54 : decode cX6_gather 54 = .ok (.iconst 1, 1) := by decide +kernel
theorem dX6_gather_55 : decode cX6_gather 55 = .ok (.iadd, 1) := by decide +kernel
theorem dX6_gather_56 : decode cX6_gather 56 = .ok (.putfield 38, 3) := by decide +kernel
theorem dX6_gather_59 : decode cX6_gather 59 = .ok (.goto (-38), 3) := by decide +kernel
theorem dX6_gather_62 : decode cX6_gather 62 = .ok (.aload_n 0, 1) := by decide +kernel
theorem dX6_gather_63 : decode cX6_gather 63 = .ok (.getfield 9, 3) := by decide +kernel
theorem dX6_gather_66 : decode cX6_gather 66 = .ok (.lconst 0, 1) := by decide +kernel
theorem dX6_gather_67 : decode cX6_gather 67 = .ok (.invokestatic 45, 3) := by decide +kernel
theorem dX6_gather_70 : decode cX6_gather 70 = .ok (.aload_n 0, 1) := by decide +kernel
theorem dX6_gather_71 : decode cX6_gather 71 = .ok (.getfield 15, 3) := by decide +kernel
theorem dX6_gather_74 : decode cX6_gather 74 = .ok (.iconst 0, 1) := by decide +kernel
theorem dX6_gather_75 : decode cX6_gather 75 = .ok (.invokestatic 51, 3) := by decide +kernel
theorem dX6_gather_78 : decode cX6_gather 78 = .ok (.aload_n 0, 1) := by decide +kernel
theorem dX6_gather_79 : decode cX6_gather 79 = .ok (.getfield 31, 3) := by decide +kernel
theorem dX6_gather_82 : decode cX6_gather 82 = .ok (.aload_n 0, 1) := by decide +kernel
theorem dX6_gather_83 : decode cX6_gather 83 = .ok (.getfield 38, 3) := by decide +kernel
theorem dX6_gather_86 : decode cX6_gather 86 = .ok (.ishr, 1) := by decide +kernel
theorem dX6_gather_87 : decode cX6_gather 87 = .ok (.istore_n 3, 1) := by decide +kernel
theorem dX6_gather_88 : decode cX6_gather 88 = .ok (.iconst 0, 1) := by decide +kernel
theorem dX6_gather_89 : decode cX6_gather 89 = .ok (.istore 4, 2) := by decide +kernel
theorem dX6_gather_91 : decode cX6_gather 91 = .ok (.iload_n 3, 1) := by decide +kernel
theorem dX6_gather_92 : decode cX6_gather 92 = .ok (.istore 5, 2) := by decide +kernel
theorem dX6_gather_94 : decode cX6_gather 94 = .ok (.aload_n 0, 1) := by decide +kernel
theorem dX6_gather_95 : decode cX6_gather 95 = .ok (.getfield 37, 3) := by decide +kernel
theorem dX6_gather_98 : decode cX6_gather 98 = .ok (.istore 6, 2) := by decide +kernel
theorem dX6_gather_100 : decode cX6_gather 100 = .ok (.iload 6, 2) := by decide +kernel
theorem dX6_gather_102 : decode cX6_gather 102 = .ok (.aload_n 0, 1) := by decide +kernel
theorem dX6_gather_103 : decode cX6_gather 103 = .ok (.getfield 31, 3) := by decide +kernel
theorem dX6_gather_106 : decode cX6_gather 106 = .ok (.if_icmp .ge 51, 3) := by decide +kernel
theorem dX6_gather_109 : decode cX6_gather 109 = .ok (.iload 6, 2) := by decide +kernel
theorem dX6_gather_111 : decode cX6_gather 111 = .ok (.iload 5, 2) := by decide +kernel
theorem dX6_gather_113 : decode cX6_gather 113 = .ok (.if_icmp .lt 12, 3) := by decide +kernel
theorem dX6_gather_116 : decode cX6_gather 116 = .ok (.iinc 4 1, 3) := by decide +kernel
theorem dX6_gather_119 : decode cX6_gather 119 = .ok (.iload 5, 2) := by decide +kernel
theorem dX6_gather_121 : decode cX6_gather 121 = .ok (.iload_n 3, 1) := by decide +kernel
theorem dX6_gather_122 : decode cX6_gather 122 = .ok (.iadd, 1) := by decide +kernel
theorem dX6_gather_123 : decode cX6_gather 123 = .ok (.istore 5, 2) := by decide +kernel
theorem dX6_gather_125 : decode cX6_gather 125 = .ok (.aload_n 1, 1) := by decide +kernel
theorem dX6_gather_126 : decode cX6_gather 126 = .ok (.aload_n 2, 1) := by decide +kernel
theorem dX6_gather_127 : decode cX6_gather 127 = .ok (.iload 6, 2) := by decide +kernel
theorem dX6_gather_129 : decode cX6_gather 129 = .ok (.invokevirtual 54, 3) := by decide +kernel
theorem dX6_gather_132 : decode cX6_gather 132 = .ok (.istore 7, 2) := by decide +kernel
theorem dX6_gather_134 : decode cX6_gather 134 = .ok (.iload 7, 2) := by decide +kernel
theorem dX6_gather_136 : decode cX6_gather 136 = .ok (.ldc 58, 2) := by decide +kernel
theorem dX6_gather_138 : decode cX6_gather 138 = .ok (.if_icmp .lt 5, 3) := by decide +kernel
theorem dX6_gather_141 : decode cX6_gather 141 = .ok (.iconst 0, 1) := by decide +kernel
theorem dX6_gather_142 : decode cX6_gather 142 = .ok (.ireturn, 1) := by decide +kernel
theorem dX6_gather_143 : decode cX6_gather 143 = .ok (.aload_n 0, 1) := by decide +kernel
theorem dX6_gather_144 : decode cX6_gather 144 = .ok (.iload 4, 2) := by decide +kernel
theorem dX6_gather_146 : decode cX6_gather 146 = .ok (.iload 7, 2) := by decide +kernel
theorem dX6_gather_148 : decode cX6_gather 148 = .ok (.invokevirtual 59, 3) := by decide +kernel
theorem dX6_gather_151 : decode cX6_gather 151 = .ok (.iinc 6 1, 3) := by decide +kernel
theorem dX6_gather_154 : decode cX6_gather 154 = .ok (.goto (-54), 3) := by decide +kernel
theorem dX6_gather_157 : decode cX6_gather 157 = .ok (.iconst 1, 1) := by decide +kernel
theorem dX6_gather_158 : decode cX6_gather 158 = .ok (.ireturn, 1) := by decide +kernel
theorem dX6_tally_0 : decode cX6_tally 0 = .ok (.aload_n 0, 1) := by decide +kernel
theorem dX6_tally_1 : decode cX6_tally 1 = .ok (.getfield 15, 3) := by decide +kernel
theorem dX6_tally_4 : decode cX6_tally 4 = .ok (.iload_n 1, 1) := by decide +kernel
theorem dX6_tally_5 : decode cX6_tally 5 = .ok (.dup2, 1) := by decide +kernel
theorem dX6_tally_6 : decode cX6_tally 6 = .ok (.iaload, 1) := by decide +kernel
theorem dX6_tally_7 : decode cX6_tally 7 = .ok (.iload_n 2, 1) := by decide +kernel
theorem dX6_tally_8 : decode cX6_tally 8 = .ok (.ior, 1) := by decide +kernel
theorem dX6_tally_9 : decode cX6_tally 9 = .ok (.iastore, 1) := by decide +kernel
theorem dX6_tally_10 : decode cX6_tally 10 = .ok (.iload_n 2, 1) := by decide +kernel
theorem dX6_tally_11 : decode cX6_tally 11 = .ok (.istore_n 3, 1) := by decide +kernel
theorem dX6_tally_12 : decode cX6_tally 12 = .ok (.iconst 0, 1) := by decide +kernel
theorem dX6_tally_13 : decode cX6_tally 13 = .ok (.istore 4, 2) := by decide +kernel
theorem dX6_tally_15 : decode cX6_tally 15 = .ok (.iload 4, 2) := by decide +kernel
theorem dX6_tally_17 : decode cX6_tally 17 = .ok (.bipush 15, 2) := by decide +kernel
theorem dX6_tally_19 : decode cX6_tally 19 = .ok (.if_icmp .ge 34, 3) := by decide +kernel
theorem dX6_tally_22 : decode cX6_tally 22 = .ok (.iload_n 3, 1) := by decide +kernel
theorem dX6_tally_23 : decode cX6_tally 23 = .ok (.ifCond .eq 30, 3) := by decide +kernel
theorem dX6_tally_26 : decode cX6_tally 26 = .ok (.aload_n 0, 1) := by decide +kernel
theorem dX6_tally_27 : decode cX6_tally 27 = .ok (.getfield 9, 3) := by decide +kernel
theorem dX6_tally_30 : decode cX6_tally 30 = .ok (.iload_n 1, 1) := by decide +kernel
theorem dX6_tally_31 : decode cX6_tally 31 = .ok (.bipush 15, 2) := by decide +kernel
theorem dX6_tally_33 : decode cX6_tally 33 = .ok (.imul, 1) := by decide +kernel
theorem dX6_tally_34 : decode cX6_tally 34 = .ok (.iload 4, 2) := by decide +kernel
theorem dX6_tally_36 : decode cX6_tally 36 = .ok (.iadd, 1) := by decide +kernel
theorem dX6_tally_37 : decode cX6_tally 37 = .ok (.dup2, 1) := by decide +kernel
theorem dX6_tally_38 : decode cX6_tally 38 = .ok (.laload, 1) := by decide +kernel
theorem dX6_tally_39 : decode cX6_tally 39 = .ok (.iload_n 3, 1) := by decide +kernel
theorem dX6_tally_40 : decode cX6_tally 40 = .ok (.i2l, 1) := by decide +kernel
theorem dX6_tally_41 : decode cX6_tally 41 = .ok (.ladd, 1) := by decide +kernel
theorem dX6_tally_42 : decode cX6_tally 42 = .ok (.lastore, 1) := by decide +kernel
theorem dX6_tally_43 : decode cX6_tally 43 = .ok (.iload_n 3, 1) := by decide +kernel
theorem dX6_tally_44 : decode cX6_tally 44 = .ok (.iconst 1, 1) := by decide +kernel
theorem dX6_tally_45 : decode cX6_tally 45 = .ok (.ishr, 1) := by decide +kernel
theorem dX6_tally_46 : decode cX6_tally 46 = .ok (.istore_n 3, 1) := by decide +kernel
theorem dX6_tally_47 : decode cX6_tally 47 = .ok (.iinc 4 1, 3) := by decide +kernel
theorem dX6_tally_50 : decode cX6_tally 50 = .ok (.goto (-35), 3) := by decide +kernel
theorem dX6_tally_53 : decode cX6_tally 53 = .ok (.return_, 1) := by decide +kernel
theorem dX6_chooseParts_0 : decode cX6_chooseParts 0 = .ok (.iconst (-1), 1) := by decide +kernel
theorem dX6_chooseParts_1 : decode cX6_chooseParts 1 = .ok (.istore_n 2, 1) := by decide +kernel
theorem dX6_chooseParts_2 : decode cX6_chooseParts 2 = .ok (.aload_n 0, 1) := by decide +kernel
theorem dX6_chooseParts_3 : decode cX6_chooseParts 3 = .ok (.getfield 38, 3) := by decide +kernel
theorem dX6_chooseParts_6 : decode cX6_chooseParts 6 = .ok (.istore_n 3, 1) := by decide +kernel
theorem dX6_chooseParts_7 : decode cX6_chooseParts 7 = .ok (.iload_n 3, 1) := by decide +kernel
theorem dX6_chooseParts_8 : decode cX6_chooseParts 8 = .ok (.ifCond .lt 123, 3) := by decide +kernel
theorem dX6_chooseParts_11 : decode cX6_chooseParts 11 = .ok (.iconst 3, 1) := by decide +kernel
theorem dX6_chooseParts_12 : decode cX6_chooseParts 12 = .ok (.istore 4, 2) := by decide +kernel
theorem dX6_chooseParts_14 : decode cX6_chooseParts 14 = .ok (.iconst 0, 1) := by decide +kernel
theorem dX6_chooseParts_15 : decode cX6_chooseParts 15 = .ok (.istore 5, 2) := by decide +kernel
theorem dX6_chooseParts_17 : decode cX6_chooseParts 17 = .ok (.iload 5, 2) := by decide +kernel
theorem dX6_chooseParts_19 : decode cX6_chooseParts 19 = .ok (.iconst 1, 1) := by decide +kernel
theorem dX6_chooseParts_20 : decode cX6_chooseParts 20 = .ok (.iload_n 3, 1) := by decide +kernel
theorem dX6_chooseParts_21 : decode cX6_chooseParts 21 = .ok (.ishl, 1) := by decide +kernel
theorem dX6_chooseParts_22 : decode cX6_chooseParts 22 = .ok (.if_icmp .ge 45, 3) := by decide +kernel
theorem dX6_chooseParts_25 : decode cX6_chooseParts 25 = .ok (.iload 4, 2) := by decide +kernel
theorem dX6_chooseParts_27 : decode cX6_chooseParts 27 = .ok (.aload_n 0, 1) := by decide +kernel
theorem dX6_chooseParts_28 : decode cX6_chooseParts 28 = .ok (.iload 5, 2) := by decide +kernel
theorem dX6_chooseParts_30 : decode cX6_chooseParts 30 = .ok (.iload 5, 2) := by decide +kernel
theorem dX6_chooseParts_32 : decode cX6_chooseParts 32 = .ok (.ifCond .ne 17, 3) := by decide +kernel
theorem dX6_chooseParts_35 : decode cX6_chooseParts 35 = .ok (.aload_n 0, 1) := by decide +kernel
theorem dX6_chooseParts_36 : decode cX6_chooseParts 36 = .ok (.getfield 31, 3) := by decide +kernel
theorem dX6_chooseParts_39 : decode cX6_chooseParts 39 = .ok (.iload_n 3, 1) := by decide +kernel
theorem dX6_chooseParts_40 : decode cX6_chooseParts 40 = .ok (.ishr, 1) := by decide +kernel
theorem dX6_chooseParts_41 : decode cX6_chooseParts 41 = .ok (.aload_n 0, 1) := by decide +kernel
theorem dX6_chooseParts_42 : decode cX6_chooseParts 42 = .ok (.getfield 37, 3) := by decide +kernel
theorem dX6_chooseParts_45 : decode cX6_chooseParts 45 = .ok (.isub, 1) := by decide +kernel
theorem dX6_chooseParts_46 : decode cX6_chooseParts 46 = .ok (.goto 9, 3) := by decide +kernel
theorem dX6_chooseParts_49 : decode cX6_chooseParts 49 = .ok (.aload_n 0, 1) := by decide +kernel
theorem dX6_chooseParts_50 : decode cX6_chooseParts 50 = .ok (.getfield 31, 3) := by decide +kernel
theorem dX6_chooseParts_53 : decode cX6_chooseParts 53 = .ok (.iload_n 3, 1) := by decide +kernel
theorem dX6_chooseParts_54 : decode cX6_chooseParts 54 = .ok (.ishr, 1) := by decide +kernel
theorem dX6_chooseParts_55 : decode cX6_chooseParts 55 = .ok (.invokevirtual 63, 3) := by decide +kernel
theorem dX6_chooseParts_58 : decode cX6_chooseParts 58 = .ok (.iadd, 1) := by decide +kernel
theorem dX6_chooseParts_59 : decode cX6_chooseParts 59 = .ok (.istore 4, 2) := by decide +kernel
theorem dX6_chooseParts_61 : decode cX6_chooseParts 61 = .ok (.iinc 5 1, 3) := by decide +kernel
theorem dX6_chooseParts_64 : decode cX6_chooseParts 64 = .ok (.goto (-47), 3) := by decide +kernel
theorem dX6_chooseParts_67 : decode cX6_chooseParts 67 = .ok (.iload_n 2, 1) := by decide +kernel
theorem dX6_chooseParts_68 : decode cX6_chooseParts 68 = .ok (.iconst (-1), 1) := by decide +kernel
theorem dX6_chooseParts_69 : decode cX6_chooseParts 69 = .ok (.if_icmp .eq 9, 3) := by decide +kernel
theorem dX6_chooseParts_72 : decode cX6_chooseParts 72 = .ok (.iload 4, 2) := by decide +kernel
theorem dX6_chooseParts_74 : decode cX6_chooseParts 74 = .ok (.iload_n 2, 1) := by decide +kernel
theorem dX6_chooseParts_75 : decode cX6_chooseParts 75 = .ok (.if_icmp .gt 41, 3) := by decide +kernel
theorem dX6_chooseParts_78 : decode cX6_chooseParts 78 = .ok (.iload 4, 2) := by decide +kernel
theorem dX6_chooseParts_80 : decode cX6_chooseParts 80 = .ok (.istore_n 2, 1) := by decide +kernel
theorem dX6_chooseParts_81 : decode cX6_chooseParts 81 = .ok (.aload_n 1, 1) := by decide +kernel
theorem dX6_chooseParts_82 : decode cX6_chooseParts 82 = .ok (.iload_n 3, 1) := by decide +kernel
theorem dX6_chooseParts_83 : decode cX6_chooseParts 83 = .ok (.putfield 67, 3) := by decide +kernel
theorem dX6_chooseParts_86 : decode cX6_chooseParts 86 = .ok (.aload_n 0, 1) := by decide +kernel
theorem dX6_chooseParts_87 : decode cX6_chooseParts 87 = .ok (.getfield 19, 3) := by decide +kernel
theorem dX6_chooseParts_90 : decode cX6_chooseParts 90 = .ok (.iconst 0, 1) := by decide +kernel
theorem dX6_chooseParts_91 : decode cX6_chooseParts 91 = .ok (.aload_n 1, 1) := by decide +kernel
theorem dX6_chooseParts_92 : decode cX6_chooseParts 92 = .ok (.getfield 72, 3) := by decide +kernel
theorem dX6_chooseParts_95 : decode cX6_chooseParts 95 = .ok (.iconst 0, 1) := by decide +kernel
theorem dX6_chooseParts_96 : decode cX6_chooseParts 96 = .ok (.bipush 16, 2) := by decide +kernel
theorem dX6_chooseParts_98 : decode cX6_chooseParts 98 = .ok (.invokestatic 73, 3) := by decide +kernel
theorem dX6_chooseParts_101 : decode cX6_chooseParts 101 = .ok (.aload_n 0, 1) := by decide +kernel
theorem dX6_chooseParts_102 : decode cX6_chooseParts 102 = .ok (.getfield 22, 3) := by decide +kernel
theorem dX6_chooseParts_105 : decode cX6_chooseParts 105 = .ok (.iconst 0, 1) := by decide +kernel
theorem dX6_chooseParts_106 : decode cX6_chooseParts 106 = .ok (.aload_n 1, 1) := by decide +kernel
theorem dX6_chooseParts_107 : decode cX6_chooseParts 107 = .ok (.getfield 79, 3) := by decide +kernel
theorem dX6_chooseParts_110 : decode cX6_chooseParts 110 = .ok (.iconst 0, 1) := by decide +kernel
theorem dX6_chooseParts_111 : decode cX6_chooseParts 111 = .ok (.bipush 16, 2) := by decide +kernel
theorem dX6_chooseParts_113 : decode cX6_chooseParts 113 = .ok (.invokestatic 73, 3) := by decide +kernel
theorem dX6_chooseParts_116 : decode cX6_chooseParts 116 = .ok (.aload_n 0, 1) := by decide +kernel
theorem dX6_chooseParts_117 : decode cX6_chooseParts 117 = .ok (.iconst 1, 1) := by decide +kernel
theorem dX6_chooseParts_118 : decode cX6_chooseParts 118 = .ok (.iload_n 3, 1) := by decide +kernel
theorem dX6_chooseParts_119 : decode cX6_chooseParts 119 = .ok (.ishl, 1) := by decide +kernel
theorem dX6_chooseParts_120 : decode cX6_chooseParts 120 = .ok (.iconst 2, 1) := by decide +kernel
theorem dX6_chooseParts_121 : decode cX6_chooseParts 121 = .ok (.idiv, 1) := by decide +kernel
theorem dX6_chooseParts_122 : decode cX6_chooseParts 122 = .ok (.invokevirtual 80, 3) := by decide +kernel
theorem dX6_chooseParts_125 : decode cX6_chooseParts 125 = .ok (.iinc 3 (-1), 3) := by decide +kernel
theorem dX6_chooseParts_128 : decode cX6_chooseParts 128 = .ok (.goto (-121), 3) := by decide +kernel
theorem dX6_chooseParts_131 : decode cX6_chooseParts 131 = .ok (.iload_n 2, 1) := by decide +kernel
theorem dX6_chooseParts_132 : decode cX6_chooseParts 132 = .ok (.ireturn, 1) := by decide +kernel
theorem dX6_weighPart_0 : decode cX6_weighPart 0 = .ok (.bipush 32, 2) := by decide +kernel
theorem dX6_weighPart_2 : decode cX6_weighPart 2 = .ok (.aload_n 0, 1) := by decide +kernel
theorem dX6_weighPart_3 : decode cX6_weighPart 3 = .ok (.getfield 15, 3) := by decide +kernel
theorem dX6_weighPart_6 : decode cX6_weighPart 6 = .ok (.iload_n 1, 1) := by decide +kernel
theorem dX6_weighPart_7 : decode cX6_weighPart 7 = .ok (.iaload, 1) := by decide +kernel
theorem dX6_weighPart_8 : decode cX6_weighPart 8 = .ok (.invokestatic 84, 3) := by decide +kernel
theorem dX6_weighPart_11 : decode cX6_weighPart 11 = .ok (.isub, 1) := by decide +kernel
theorem dX6_weighPart_12 : decode cX6_weighPart 12 = .ok (.istore_n 3, 1) := by decide +kernel
theorem dX6_weighPart_13 : decode cX6_weighPart 13 = .ok (.ldc2_w 90, 3) := by decide +kernel
theorem dX6_weighPart_16 : decode cX6_weighPart 16 = .ok (.lstore 4, 2) := by decide +kernel
theorem dX6_weighPart_18 : decode cX6_weighPart 18 = .ok (.iconst 0, 1) := by decide +kernel
theorem dX6_weighPart_19 : decode cX6_weighPart 19 = .ok (.istore 6, 2) := by decide +kernel
theorem dX6_weighPart_21 : decode cX6_weighPart 21 = .ok (.iload 6, 2) := by decide +kernel
theorem dX6_weighPart_23 : decode cX6_weighPart 23 = .ok (.bipush 15, 2) := by decide +kernel
theorem dX6_weighPart_25 : decode cX6_weighPart 25 = .ok (.if_icmp .ge 72, 3) := by decide +kernel
theorem dX6_weighPart_28 : decode cX6_weighPart 28 = .ok (.ldc2_w 92, 3) := by decide +kernel
theorem dX6_weighPart_31 : decode cX6_weighPart 31 = .ok (.aload_n 0, 1) := by decide +kernel
theorem dX6_weighPart_32 : decode cX6_weighPart 32 = .ok (.getfield 9, 3) := by decide +kernel
theorem dX6_weighPart_35 : decode cX6_weighPart 35 = .ok (.iload_n 1, 1) := by decide +kernel
theorem dX6_weighPart_36 : decode cX6_weighPart 36 = .ok (.bipush 15, 2) := by decide +kernel
theorem dX6_weighPart_38 : decode cX6_weighPart 38 = .ok (.imul, 1) := by decide +kernel
theorem dX6_weighPart_39 : decode cX6_weighPart 39 = .ok (.iload 6, 2) := by decide +kernel
theorem dX6_weighPart_41 : decode cX6_weighPart 41 = .ok (.iadd, 1) := by decide +kernel
theorem dX6_weighPart_42 : decode cX6_weighPart 42 = .ok (.laload, 1) := by decide +kernel
theorem dX6_weighPart_43 : decode cX6_weighPart 43 = .ok (.ladd, 1) := by decide +kernel
theorem dX6_weighPart_44 : decode cX6_weighPart 44 = .ok (.iload_n 2, 1) := by decide +kernel
theorem dX6_weighPart_45 : decode cX6_weighPart 45 = .ok (.i2l, 1) := by decide +kernel
theorem dX6_weighPart_46 : decode cX6_weighPart 46 = .ok (.iconst 1, 1) := by decide +kernel
theorem dX6_weighPart_47 : decode cX6_weighPart 47 = .ok (.iload 6, 2) := by decide +kernel
theorem dX6_weighPart_49 : decode cX6_weighPart 49 = .ok (.iadd, 1) := by decide +kernel
theorem dX6_weighPart_50 : decode cX6_weighPart 50 = .ok (.i2l, 1) := by decide +kernel
theorem dX6_weighPart_51 : decode cX6_weighPart 51 = .ok (.lmul, 1) := by decide +kernel
theorem dX6_weighPart_52 : decode cX6_weighPart 52 = .ok (.ladd, 1) := by decide +kernel
theorem dX6_weighPart_53 : decode cX6_weighPart 53 = .ok (.lstore 7, 2) := by decide +kernel
theorem dX6_weighPart_55 : decode cX6_weighPart 55 = .ok (.lload 4, 2) := by decide +kernel
theorem dX6_weighPart_57 : decode cX6_weighPart 57 = .ok (.ldc2_w 90, 3) := by decide +kernel
theorem dX6_weighPart_60 : decode cX6_weighPart 60 = .ok (.lcmp, 1) := by decide +kernel
theorem dX6_weighPart_61 : decode cX6_weighPart 61 = .ok (.ifCond .eq 11, 3) := by decide +kernel
theorem dX6_weighPart_64 : decode cX6_weighPart 64 = .ok (.lload 7, 2) := by decide +kernel
theorem dX6_weighPart_66 : decode cX6_weighPart 66 = .ok (.lload 4, 2) := by decide +kernel
theorem dX6_weighPart_68 : decode cX6_weighPart 68 = .ok (.lcmp, 1) := by decide +kernel
theorem dX6_weighPart_69 : decode cX6_weighPart 69 = .ok (.ifCond .ge 22, 3) := by decide +kernel
theorem dX6_weighPart_72 : decode cX6_weighPart 72 = .ok (.lload 7, 2) := by decide +kernel
theorem dX6_weighPart_74 : decode cX6_weighPart 74 = .ok (.lstore 4, 2) := by decide +kernel
theorem dX6_weighPart_76 : decode cX6_weighPart 76 = .ok (.aload_n 0, 1) := by decide +kernel
theorem dX6_weighPart_77 : decode cX6_weighPart 77 = .ok (.getfield 19, 3) := by decide +kernel
theorem dX6_weighPart_80 : decode cX6_weighPart 80 = .ok (.iload_n 1, 1) := by decide +kernel
theorem dX6_weighPart_81 : decode cX6_weighPart 81 = .ok (.iload 6, 2) := by decide +kernel
theorem dX6_weighPart_83 : decode cX6_weighPart 83 = .ok (.iastore, 1) := by decide +kernel
theorem dX6_weighPart_84 : decode cX6_weighPart 84 = .ok (.aload_n 0, 1) := by decide +kernel
theorem dX6_weighPart_85 : decode cX6_weighPart 85 = .ok (.getfield 22, 3) := by decide +kernel
theorem dX6_weighPart_88 : decode cX6_weighPart 88 = .ok (.iload_n 1, 1) := by decide +kernel
theorem dX6_weighPart_89 : decode cX6_weighPart 89 = .ok (.iconst (-1), 1) := by decide +kernel
theorem dX6_weighPart_90 : decode cX6_weighPart 90 = .ok (.iastore, 1) := by decide +kernel
theorem dX6_weighPart_91 : decode cX6_weighPart 91 = .ok (.iinc 6 1, 3) := by decide +kernel
theorem dX6_weighPart_94 : decode cX6_weighPart 94 = .ok (.goto (-73), 3) := by decide +kernel
theorem dX6_weighPart_97 : decode cX6_weighPart 97 = .ok (.bipush 9, 2) := by decide +kernel
theorem dX6_weighPart_99 : decode cX6_weighPart 99 = .ok (.iload_n 2, 1) := by decide +kernel
theorem dX6_weighPart_100 : decode cX6_weighPart 100 = .ok (.iload_n 3, 1) := by decide +kernel
theorem dX6_weighPart_101 : decode cX6_weighPart 101 = .ok (.imul, 1) := by decide +kernel
theorem dX6_weighPart_102 : decode cX6_weighPart 102 = .ok (.iadd, 1) := by decide +kernel
theorem dX6_weighPart_103 : decode cX6_weighPart 103 = .ok (.istore 6, 2) := by decide +kernel
theorem dX6_weighPart_105 : decode cX6_weighPart 105 = .ok (.iload 6, 2) := by decide +kernel
theorem dX6_weighPart_107 : decode cX6_weighPart 107 = .ok (.i2l, 1) := by decide +kernel
theorem dX6_weighPart_108 : decode cX6_weighPart 108 = .ok (.lload 4, 2) := by decide +kernel
theorem dX6_weighPart_110 : decode cX6_weighPart 110 = .ok (.lcmp, 1) := by decide +kernel
theorem dX6_weighPart_111 : decode cX6_weighPart 111 = .ok (.ifCond .ge 23, 3) := by decide +kernel
theorem dX6_weighPart_114 : decode cX6_weighPart 114 = .ok (.iload 6, 2) := by decide +kernel
theorem dX6_weighPart_116 : decode cX6_weighPart 116 = .ok (.i2l, 1) := by decide +kernel
theorem dX6_weighPart_117 : decode cX6_weighPart 117 = .ok (.lstore 4, 2) := by decide +kernel
theorem dX6_weighPart_119 : decode cX6_weighPart 119 = .ok (.aload_n 0, 1) := by decide +kernel
theorem dX6_weighPart_120 : decode cX6_weighPart 120 = .ok (.getfield 19, 3) := by decide +kernel
theorem dX6_weighPart_123 : decode cX6_weighPart 123 = .ok (.iload_n 1, 1) := by decide +kernel
theorem dX6_weighPart_124 : decode cX6_weighPart 124 = .ok (.bipush 15, 2) := by decide +kernel
theorem dX6_weighPart_126 : decode cX6_weighPart 126 = .ok (.iastore, 1) := by decide +kernel
theorem dX6_weighPart_127 : decode cX6_weighPart 127 = .ok (.aload_n 0, 1) := by decide +kernel
theorem dX6_weighPart_128 : decode cX6_weighPart 128 = .ok (.getfield 22, 3) := by decide +kernel
theorem dX6_weighPart_131 : decode cX6_weighPart 131 = .ok (.iload_n 1, 1) := by decide +kernel
theorem dX6_weighPart_132 : decode cX6_weighPart 132 = .ok (.iload_n 3, 1) := by decide +kernel
theorem dX6_weighPart_133 : decode cX6_weighPart 133 = .ok (.iastore, 1) := by decide +kernel
theorem dX6_weighPart_134 : decode cX6_weighPart 134 = .ok (.lload 4, 2) := by decide +kernel
theorem dX6_weighPart_136 : decode cX6_weighPart 136 = .ok (.l2i, 1) := by decide +kernel
theorem dX6_weighPart_137 : decode cX6_weighPart 137 = .ok (.ireturn, 1) := by decide +kernel
theorem dX6_joinPairs_0 : decode cX6_joinPairs 0 = .ok (.iconst 0, 1) := by decide +kernel
theorem dX6_joinPairs_1 : decode cX6_joinPairs 1 = .ok (.istore_n 2, 1) := by decide +kernel
theorem dX6_joinPairs_2 : decode cX6_joinPairs 2 = .ok (.iload_n 2, 1) := by decide +kernel
theorem dX6_joinPairs_3 : decode cX6_joinPairs 3 = .ok (.iload_n 1, 1) := by decide +kernel
theorem dX6_joinPairs_4 : decode cX6_joinPairs 4 = .ok (.if_icmp .ge 88, 3) := by decide +kernel
theorem dX6_joinPairs_7 : decode cX6_joinPairs 7 = .ok (.aload_n 0, 1) := by decide +kernel
theorem dX6_joinPairs_8 : decode cX6_joinPairs 8 = .ok (.getfield 15, 3) := by decide +kernel
theorem dX6_joinPairs_11 : decode cX6_joinPairs 11 = .ok (.iload_n 2, 1) := by decide +kernel
theorem dX6_joinPairs_12 : decode cX6_joinPairs 12 = .ok (.aload_n 0, 1) := by decide +kernel
theorem dX6_joinPairs_13 : decode cX6_joinPairs 13 = .ok (.getfield 15, 3) := by decide +kernel
theorem dX6_joinPairs_16 : decode cX6_joinPairs 16 = .ok (.iconst 2, 1) := by decide +kernel
theorem dX6_joinPairs_17 : decode cX6_joinPairs 17 = .ok (.iload_n 2, 1) := by decide +kernel
theorem dX6_joinPairs_18 : decode cX6_joinPairs 18 = .ok (.imul, 1) := by decide +kernel
theorem dX6_joinPairs_19 : decode cX6_joinPairs 19 = .ok (.iaload, 1) := by decide +kernel
theorem dX6_joinPairs_20 : decode cX6_joinPairs 20 = .ok (.aload_n 0, 1) := by decide +kernel
theorem dX6_joinPairs_21 : decode cX6_joinPairs 21 = .ok (.getfield 15, 3) := by decide +kernel
theorem dX6_joinPairs_24 : decode cX6_joinPairs 24 = .ok (.iconst 2, 1) := by decide +kernel
theorem dX6_joinPairs_25 : decode cX6_joinPairs 25 = .ok (.iload_n 2, 1) := by decide +kernel
theorem dX6_joinPairs_26 : decode cX6_joinPairs 26 = .ok (.imul, 1) := by decide +kernel
theorem dX6_joinPairs_27 : decode cX6_joinPairs 27 = .ok (.iconst 1, 1) := by decide +kernel
theorem dX6_joinPairs_28 : decode cX6_joinPairs 28 = .ok (.iadd, 1) := by decide +kernel
theorem dX6_joinPairs_29 : decode cX6_joinPairs 29 = .ok (.iaload, 1) := by decide +kernel
theorem dX6_joinPairs_30 : decode cX6_joinPairs 30 = .ok (.ior, 1) := by decide +kernel
theorem dX6_joinPairs_31 : decode cX6_joinPairs 31 = .ok (.iastore, 1) := by decide +kernel
theorem dX6_joinPairs_32 : decode cX6_joinPairs 32 = .ok (.iconst 0, 1) := by decide +kernel
theorem dX6_joinPairs_33 : decode cX6_joinPairs 33 = .ok (.istore_n 3, 1) := by decide +kernel
theorem dX6_joinPairs_34 : decode cX6_joinPairs 34 = .ok (.iload_n 3, 1) := by decide +kernel
theorem dX6_joinPairs_35 : decode cX6_joinPairs 35 = .ok (.bipush 15, 2) := by decide +kernel
theorem dX6_joinPairs_37 : decode cX6_joinPairs 37 = .ok (.if_icmp .ge 49, 3) := by decide +kernel
theorem dX6_joinPairs_40 : decode cX6_joinPairs 40 = .ok (.aload_n 0, 1) := by decide +kernel
theorem dX6_joinPairs_41 : decode cX6_joinPairs 41 = .ok (.getfield 9, 3) := by decide +kernel
theorem dX6_joinPairs_44 : decode cX6_joinPairs 44 = .ok (.iload_n 2, 1) := by decide +kernel
theorem dX6_joinPairs_45 : decode cX6_joinPairs 45 = .ok (.bipush 15, 2) := by decide +kernel
theorem dX6_joinPairs_47 : decode cX6_joinPairs 47 = .ok (.imul, 1) := by decide +kernel
theorem dX6_joinPairs_48 : decode cX6_joinPairs 48 = .ok (.iload_n 3, 1) := by decide +kernel
theorem dX6_joinPairs_49 : decode cX6_joinPairs 49 = .ok (.iadd, 1) := by decide +kernel
theorem dX6_joinPairs_50 : decode cX6_joinPairs 50 = .ok (.aload_n 0, 1) := by decide +kernel
theorem dX6_joinPairs_51 : decode cX6_joinPairs 51 = .ok (.getfield 9, 3) := by decide +kernel
theorem dX6_joinPairs_54 : decode cX6_joinPairs 54 = .ok (.iconst 2, 1) := by decide +kernel
theorem dX6_joinPairs_55 : decode cX6_joinPairs 55 = .ok (.iload_n 2, 1) := by decide +kernel
theorem dX6_joinPairs_56 : decode cX6_joinPairs 56 = .ok (.imul, 1) := by decide +kernel
theorem dX6_joinPairs_57 : decode cX6_joinPairs 57 = .ok (.bipush 15, 2) := by decide +kernel
theorem dX6_joinPairs_59 : decode cX6_joinPairs 59 = .ok (.imul, 1) := by decide +kernel
theorem dX6_joinPairs_60 : decode cX6_joinPairs 60 = .ok (.iload_n 3, 1) := by decide +kernel
theorem dX6_joinPairs_61 : decode cX6_joinPairs 61 = .ok (.iadd, 1) := by decide +kernel
theorem dX6_joinPairs_62 : decode cX6_joinPairs 62 = .ok (.laload, 1) := by decide +kernel
theorem dX6_joinPairs_63 : decode cX6_joinPairs 63 = .ok (.aload_n 0, 1) := by decide +kernel
theorem dX6_joinPairs_64 : decode cX6_joinPairs 64 = .ok (.getfield 9, 3) := by decide +kernel
theorem dX6_joinPairs_67 : decode cX6_joinPairs 67 = .ok (.iconst 2, 1) := by decide +kernel
theorem dX6_joinPairs_68 : decode cX6_joinPairs 68 = .ok (.iload_n 2, 1) := by decide +kernel
theorem dX6_joinPairs_69 : decode cX6_joinPairs 69 = .ok (.imul, 1) := by decide +kernel
theorem dX6_joinPairs_70 : decode cX6_joinPairs 70 = .ok (.iconst 1, 1) := by decide +kernel
theorem dX6_joinPairs_71 : decode cX6_joinPairs 71 = .ok (.iadd, 1) := by decide +kernel
theorem dX6_joinPairs_72 : decode cX6_joinPairs 72 = .ok (.bipush 15, 2) := by decide +kernel
theorem dX6_joinPairs_74 : decode cX6_joinPairs 74 = .ok (.imul, 1) := by decide +kernel
theorem dX6_joinPairs_75 : decode cX6_joinPairs 75 = .ok (.iload_n 3, 1) := by decide +kernel
theorem dX6_joinPairs_76 : decode cX6_joinPairs 76 = .ok (.iadd, 1) := by decide +kernel
theorem dX6_joinPairs_77 : decode cX6_joinPairs 77 = .ok (.laload, 1) := by decide +kernel
theorem dX6_joinPairs_78 : decode cX6_joinPairs 78 = .ok (.ladd, 1) := by decide +kernel
theorem dX6_joinPairs_79 : decode cX6_joinPairs 79 = .ok (.lastore, 1) := by decide +kernel
theorem dX6_joinPairs_80 : decode cX6_joinPairs 80 = .ok (.iinc 3 1, 3) := by decide +kernel
theorem dX6_joinPairs_83 : decode cX6_joinPairs 83 = .ok (.goto (-49), 3) := by decide +kernel
theorem dX6_joinPairs_86 : decode cX6_joinPairs 86 = .ok (.iinc 2 1, 3) := by decide +kernel
theorem dX6_joinPairs_89 : decode cX6_joinPairs 89 = .ok (.goto (-87), 3) := by decide +kernel
theorem dX6_joinPairs_92 : decode cX6_joinPairs 92 = .ok (.return_, 1) := by decide +kernel
theorem dX7_init_0 : decode cX7_init 0 = .ok (.aload_n 0, 1) := by decide +kernel
theorem dX7_init_1 : decode cX7_init 1 = .ok (.invokespecial 3, 3) := by decide +kernel
theorem dX7_init_4 : decode cX7_init 4 = .ok (.aload_n 0, 1) := by decide +kernel
theorem dX7_init_5 : decode cX7_init 5 = .ok (.new 9, 3) := by decide +kernel
theorem dX7_init_8 : decode cX7_init 8 = .ok (.dup, 1) := by decide +kernel
theorem dX7_init_9 : decode cX7_init 9 = .ok (.invokespecial 11, 3) := by decide +kernel
theorem dX7_init_12 : decode cX7_init 12 = .ok (.putfield 12, 3) := by decide +kernel
theorem dX7_init_15 : decode cX7_init 15 = .ok (.aload_n 0, 1) := by decide +kernel
theorem dX7_init_16 : decode cX7_init 16 = .ok (.new 18, 3) := by decide +kernel
theorem dX7_init_19 : decode cX7_init 19 = .ok (.dup, 1) := by decide +kernel
theorem dX7_init_20 : decode cX7_init 20 = .ok (.invokespecial 20, 3) := by decide +kernel
theorem dX7_init_23 : decode cX7_init 23 = .ok (.putfield 21, 3) := by decide +kernel
theorem dX7_init_26 : decode cX7_init 26 = .ok (.aload_n 0, 1) := by decide +kernel
theorem dX7_init_27 : decode cX7_init 27 = .ok (.new 25, 3) := by decide +kernel
theorem dX7_init_30 : decode cX7_init 30 = .ok (.dup, 1) := by decide +kernel
theorem dX7_init_31 : decode cX7_init 31 = .ok (.invokespecial 27, 3) := by decide +kernel
theorem dX7_init_34 : decode cX7_init 34 = .ok (.putfield 28, 3) := by decide +kernel
theorem dX7_init_37 : decode cX7_init 37 = .ok (.aload_n 0, 1) := by decide +kernel
theorem dX7_init_38 : decode cX7_init 38 = .ok (.new 32, 3) := by decide +kernel
theorem dX7_init_41 : decode cX7_init 41 = .ok (.dup, 1) := by decide +kernel
theorem dX7_init_42 : decode cX7_init 42 = .ok (.invokespecial 34, 3) := by decide +kernel
theorem dX7_init_45 : decode cX7_init 45 = .ok (.putfield 35, 3) := by decide +kernel
theorem dX7_init_48 : decode cX7_init 48 = .ok (.aload_n 0, 1) := by decide +kernel
theorem dX7_init_49 : decode cX7_init 49 = .ok (.aload_n 1, 1) := by decide +kernel
theorem dX7_init_50 : decode cX7_init 50 = .ok (.putfield 39, 3) := by decide +kernel
theorem dX7_init_53 : decode cX7_init 53 = .ok (.return_, 1) := by decide +kernel
theorem dX7_foretellingOf_0 : decode cX7_foretellingOf 0 = .ok (.iload_n 1, 1) := by decide +kernel
theorem dX7_foretellingOf_1 : decode cX7_foretellingOf 1 = .ok (.bipush 7, 2) := by decide +kernel
theorem dX7_foretellingOf_3 : decode cX7_foretellingOf 3 = .ok (.if_icmp .ne 8, 3) := by decide +kernel
theorem dX7_foretellingOf_6 : decode cX7_foretellingOf 6 = .ok (.aload_n 0, 1) := by decide +kernel
theorem dX7_foretellingOf_7 : decode cX7_foretellingOf 7 = .ok (.getfield 39, 3) := by decide +kernel
theorem dX7_foretellingOf_10 : decode cX7_foretellingOf 10 = .ok (.areturn, 1) := by decide +kernel
theorem dX7_foretellingOf_11 : decode cX7_foretellingOf 11 = .ok (.aload_n 0, 1) := by decide +kernel
theorem dX7_foretellingOf_12 : decode cX7_foretellingOf 12 = .ok (.getfield 21, 3) := by decide +kernel
theorem dX7_foretellingOf_15 : decode cX7_foretellingOf 15 = .ok (.iload_n 1, 1) := by decide +kernel
theorem dX7_foretellingOf_16 : decode cX7_foretellingOf 16 = .ok (.iconst 2, 1) := by decide +kernel
theorem dX7_foretellingOf_17 : decode cX7_foretellingOf 17 = .ok (.isub, 1) := by decide +kernel
theorem dX7_foretellingOf_18 : decode cX7_foretellingOf 18 = .ok (.invokevirtual 42, 3) := by decide +kernel
theorem dX7_foretellingOf_21 : decode cX7_foretellingOf 21 = .ok (.aload_n 0, 1) := by decide +kernel
theorem dX7_foretellingOf_22 : decode cX7_foretellingOf 22 = .ok (.getfield 21, 3) := by decide +kernel
theorem dX7_foretellingOf_25 : decode cX7_foretellingOf 25 = .ok (.areturn, 1) := by decide +kernel
theorem dX7_chooseRow_0 : decode cX7_chooseRow 0 = .ok (.aload_n 0, 1) := by decide +kernel
theorem dX7_chooseRow_1 : decode cX7_chooseRow 1 = .ok (.getfield 12, 3) := by decide +kernel
theorem dX7_chooseRow_4 : decode cX7_chooseRow 4 = .ok (.aload_n 1, 1) := by decide +kernel
theorem dX7_chooseRow_5 : decode cX7_chooseRow 5 = .ok (.iload_n 2, 1) := by decide +kernel
theorem dX7_chooseRow_6 : decode cX7_chooseRow 6 = .ok (.iload_n 3, 1) := by decide +kernel
theorem dX7_chooseRow_7 : decode cX7_chooseRow 7 = .ok (.invokevirtual 46, 3) := by decide +kernel
theorem dX7_chooseRow_10 : decode cX7_chooseRow 10 = .ok (.aload 4, 2) := by decide +kernel
theorem dX7_chooseRow_12 : decode cX7_chooseRow 12 = .ok (.iconst (-1), 1) := by decide +kernel
theorem dX7_chooseRow_13 : decode cX7_chooseRow 13 = .ok (.putfield 50, 3) := by decide +kernel
theorem dX7_chooseRow_16 : decode cX7_chooseRow 16 = .ok (.iconst 0, 1) := by decide +kernel
theorem dX7_chooseRow_17 : decode cX7_chooseRow 17 = .ok (.istore 5, 2) := by decide +kernel
theorem dX7_chooseRow_19 : decode cX7_chooseRow 19 = .ok (.iload 5, 2) := by decide +kernel
theorem dX7_chooseRow_21 : decode cX7_chooseRow 21 = .ok (.bipush 8, 2) := by decide +kernel
theorem dX7_chooseRow_23 : decode cX7_chooseRow 23 = .ok (.if_icmp .ge 51, 3) := by decide +kernel
theorem dX7_chooseRow_26 : decode cX7_chooseRow 26 = .ok (.aload_n 0, 1) := by decide +kernel
theorem dX7_chooseRow_27 : decode cX7_chooseRow 27 = .ok (.iload 5, 2) := by decide +kernel
theorem dX7_chooseRow_29 : decode cX7_chooseRow 29 = .ok (.invokevirtual 54, 3) := by decide +kernel
theorem dX7_chooseRow_32 : decode cX7_chooseRow 32 = .ok (.istore 6, 2) := by decide +kernel
theorem dX7_chooseRow_34 : decode cX7_chooseRow 34 = .ok (.iload 6, 2) := by decide +kernel
theorem dX7_chooseRow_36 : decode cX7_chooseRow 36 = .ok (.iconst (-1), 1) := by decide +kernel
theorem dX7_chooseRow_37 : decode cX7_chooseRow 37 = .ok (.if_icmp .eq 31, 3) := by decide +kernel
theorem dX7_chooseRow_40 : decode cX7_chooseRow 40 = .ok (.aload 4, 2) := by decide +kernel
theorem dX7_chooseRow_42 : decode cX7_chooseRow 42 = .ok (.getfield 50, 3) := by decide +kernel
theorem dX7_chooseRow_45 : decode cX7_chooseRow 45 = .ok (.iconst (-1), 1) := by decide +kernel
theorem dX7_chooseRow_46 : decode cX7_chooseRow 46 = .ok (.if_icmp .eq 13, 3) := by decide +kernel
theorem dX7_chooseRow_49 : decode cX7_chooseRow 49 = .ok (.iload 6, 2) := by decide +kernel
theorem dX7_chooseRow_51 : decode cX7_chooseRow 51 = .ok (.aload 4, 2) := by decide +kernel
theorem dX7_chooseRow_53 : decode cX7_chooseRow 53 = .ok (.getfield 50, 3) := by decide +kernel
theorem dX7_chooseRow_56 : decode cX7_chooseRow 56 = .ok (.if_icmp .ge 12, 3) := by decide +kernel
theorem dX7_chooseRow_59 : decode cX7_chooseRow 59 = .ok (.aload 4, 2) := by decide +kernel
theorem dX7_chooseRow_61 : decode cX7_chooseRow 61 = .ok (.aload_n 0, 1) := by decide +kernel
theorem dX7_chooseRow_62 : decode cX7_chooseRow 62 = .ok (.getfield 35, 3) := by decide +kernel
theorem dX7_chooseRow_65 : decode cX7_chooseRow 65 = .ok (.invokevirtual 58, 3) := by decide +kernel
theorem dX7_chooseRow_68 : decode cX7_chooseRow 68 = .ok (.iinc 5 1, 3) := by decide +kernel
theorem dX7_chooseRow_71 : decode cX7_chooseRow 71 = .ok (.goto (-52), 3) := by decide +kernel
theorem dX7_chooseRow_74 : decode cX7_chooseRow 74 = .ok (.return_, 1) := by decide +kernel
theorem dX7_weigh_0 : decode cX7_weigh 0 = .ok (.aload_n 0, 1) := by decide +kernel
theorem dX7_weigh_1 : decode cX7_weigh 1 = .ok (.getfield 35, 3) := by decide +kernel
theorem dX7_weigh_4 : decode cX7_weigh 4 = .ok (.iload_n 1, 1) := by decide +kernel
theorem dX7_weigh_5 : decode cX7_weigh 5 = .ok (.putfield 62, 3) := by decide +kernel
theorem dX7_weigh_8 : decode cX7_weigh 8 = .ok (.aload_n 0, 1) := by decide +kernel
theorem dX7_weigh_9 : decode cX7_weigh 9 = .ok (.getfield 35, 3) := by decide +kernel
theorem dX7_weigh_12 : decode cX7_weigh 12 = .ok (.aload_n 0, 1) := by decide +kernel
theorem dX7_weigh_13 : decode cX7_weigh 13 = .ok (.getfield 12, 3) := by decide +kernel
theorem dX7_weigh_16 : decode cX7_weigh 16 = .ok (.getfield 65, 3) := by decide +kernel
theorem dX7_weigh_19 : decode cX7_weigh 19 = .ok (.putfield 68, 3) := by decide +kernel
theorem dX7_weigh_22 : decode cX7_weigh 22 = .ok (.aload_n 0, 1) := by decide +kernel
theorem dX7_weigh_23 : decode cX7_weigh 23 = .ok (.getfield 35, 3) := by decide +kernel
theorem dX7_weigh_26 : decode cX7_weigh 26 = .ok (.iconst (-1), 1) := by decide +kernel
theorem dX7_weigh_27 : decode cX7_weigh 27 = .ok (.putfield 69, 3) := by decide +kernel
theorem dX7_weigh_30 : decode cX7_weigh 30 = .ok (.iload_n 1, 1) := by decide +kernel
theorem dX7_weigh_31 : decode cX7_weigh 31 = .ok (.ifCond .ne 37, 3) := by decide +kernel
theorem dX7_weigh_34 : decode cX7_weigh 34 = .ok (.aload_n 0, 1) := by decide +kernel
theorem dX7_weigh_35 : decode cX7_weigh 35 = .ok (.getfield 35, 3) := by decide +kernel
theorem dX7_weigh_38 : decode cX7_weigh 38 = .ok (.aload_n 0, 1) := by decide +kernel
theorem dX7_weigh_39 : decode cX7_weigh 39 = .ok (.getfield 12, 3) := by decide +kernel
theorem dX7_weigh_42 : decode cX7_weigh 42 = .ok (.invokevirtual 72, 3) := by decide +kernel
theorem dX7_weigh_45 : decode cX7_weigh 45 = .ok (.ifCond .eq 16, 3) := by decide +kernel
theorem dX7_weigh_48 : decode cX7_weigh 48 = .ok (.bipush 7, 2) := by decide +kernel
theorem dX7_weigh_50 : decode cX7_weigh 50 = .ok (.aload_n 0, 1) := by decide +kernel
theorem dX7_weigh_51 : decode cX7_weigh 51 = .ok (.getfield 12, 3) := by decide +kernel
theorem dX7_weigh_54 : decode cX7_weigh 54 = .ok (.getfield 76, 3) := by decide +kernel
theorem dX7_weigh_57 : decode cX7_weigh 57 = .ok (.iadd, 1) := by decide +kernel
theorem dX7_weigh_58 : decode cX7_weigh 58 = .ok (.goto 4, 3) := by decide +kernel
theorem dX7_weigh_61 : decode cX7_weigh 61 = .ok (.iconst (-1), 1) := by decide +kernel
theorem dX7_weigh_62 : decode cX7_weigh 62 = .ok (.putfield 50, 3) := by decide +kernel
theorem dX7_weigh_65 : decode cX7_weigh 65 = .ok (.goto 48, 3) := by decide +kernel
theorem dX7_weigh_68 : decode cX7_weigh 68 = .ok (.iload_n 1, 1) := by decide +kernel
theorem dX7_weigh_69 : decode cX7_weigh 69 = .ok (.iconst 1, 1) := by decide +kernel
theorem dX7_weigh_70 : decode cX7_weigh 70 = .ok (.if_icmp .ne 31, 3) := by decide +kernel
theorem dX7_weigh_73 : decode cX7_weigh 73 = .ok (.aload_n 0, 1) := by decide +kernel
theorem dX7_weigh_74 : decode cX7_weigh 74 = .ok (.getfield 35, 3) := by decide +kernel
theorem dX7_weigh_77 : decode cX7_weigh 77 = .ok (.bipush 7, 2) := by decide +kernel
theorem dX7_weigh_79 : decode cX7_weigh 79 = .ok (.aload_n 0, 1) := by decide +kernel
theorem dX7_weigh_80 : decode cX7_weigh 80 = .ok (.getfield 12, 3) := by decide +kernel
theorem dX7_weigh_83 : decode cX7_weigh 83 = .ok (.getfield 79, 3) := by decide +kernel
theorem dX7_weigh_86 : decode cX7_weigh 86 = .ok (.aload_n 0, 1) := by decide +kernel
theorem dX7_weigh_87 : decode cX7_weigh 87 = .ok (.getfield 12, 3) := by decide +kernel
theorem dX7_weigh_90 : decode cX7_weigh 90 = .ok (.getfield 76, 3) := by decide +kernel
theorem dX7_weigh_93 : decode cX7_weigh 93 = .ok (.imul, 1) := by decide +kernel
theorem dX7_weigh_94 : decode cX7_weigh 94 = .ok (.iadd, 1) := by decide +kernel
theorem dX7_weigh_95 : decode cX7_weigh 95 = .ok (.putfield 50, 3) := by decide +kernel
theorem dX7_weigh_98 : decode cX7_weigh 98 = .ok (.goto 15, 3) := by decide +kernel
theorem dX7_weigh_101 : decode cX7_weigh 101 = .ok (.aload_n 0, 1) := by decide +kernel
theorem dX7_weigh_102 : decode cX7_weigh 102 = .ok (.getfield 35, 3) := by decide +kernel
theorem dX7_weigh_105 : decode cX7_weigh 105 = .ok (.aload_n 0, 1) := by decide +kernel
theorem dX7_weigh_106 : decode cX7_weigh 106 = .ok (.iload_n 1, 1) := by decide +kernel
theorem dX7_weigh_107 : decode cX7_weigh 107 = .ok (.invokevirtual 82, 3) := by decide +kernel
theorem dX7_weigh_110 : decode cX7_weigh 110 = .ok (.putfield 50, 3) := by decide +kernel
theorem dX7_weigh_113 : decode cX7_weigh 113 = .ok (.aload_n 0, 1) := by decide +kernel
theorem dX7_weigh_114 : decode cX7_weigh 114 = .ok (.getfield 35, 3) := by decide +kernel
theorem dX7_weigh_117 : decode cX7_weigh 117 = .ok (.getfield 50, 3) := by decide +kernel
theorem dX7_weigh_120 : decode cX7_weigh 120 = .ok (.ireturn, 1) := by decide +kernel
theorem dX7_weighForetold_0 : decode cX7_weighForetold 0 = .ok (.aload_n 0, 1) := by decide +kernel
theorem dX7_weighForetold_1 : decode cX7_weighForetold 1 = .ok (.iload_n 1, 1) := by decide +kernel
theorem dX7_weighForetold_2 : decode cX7_weighForetold 2 = .ok (.invokevirtual 85, 3) := by decide +kernel
theorem dX7_weighForetold_5 : decode cX7_weighForetold 5 = .ok (.astore_n 2, 1) := by decide +kernel
theorem dX7_weighForetold_6 : decode cX7_weighForetold 6 = .ok (.iload_n 1, 1) := by decide +kernel
theorem dX7_weighForetold_7 : decode cX7_weighForetold 7 = .ok (.bipush 7, 2) := by decide +kernel
theorem dX7_weighForetold_9 : decode cX7_weighForetold 9 = .ok (.if_icmp .ne 14, 3) := by decide +kernel
theorem dX7_weighForetold_12 : decode cX7_weighForetold 12 = .ok (.aload_n 2, 1) := by decide +kernel
theorem dX7_weighForetold_13 : decode cX7_weighForetold 13 = .ok (.getfield 89, 3) := by decide +kernel
theorem dX7_weighForetold_16 : decode cX7_weighForetold 16 = .ok (.ifCond .ne 7, 3) := by decide +kernel
theorem dX7_weighForetold_19 : decode cX7_weighForetold 19 = .ok (.iconst 1, 1) := by decide +kernel
theorem dX7_weighForetold_20 : decode cX7_weighForetold 20 = .ok (.goto 4, 3) := by decide +kernel
theorem dX7_weighForetold_23 : decode cX7_weighForetold 23 = .ok (.iconst 0, 1) := by decide +kernel
theorem dX7_weighForetold_24 : decode cX7_weighForetold 24 = .ok (.istore_n 3, 1) := by decide +kernel
theorem dX7_weighForetold_25 : decode cX7_weighForetold 25 = .ok (.iload_n 3, 1) := by decide +kernel
theorem dX7_weighForetold_26 : decode cX7_weighForetold 26 = .ok (.ifCond .ne 32, 3) := by decide +kernel
theorem dX7_weighForetold_29 : decode cX7_weighForetold 29 = .ok (.aload_n 2, 1) := by decide +kernel
theorem dX7_weighForetold_30 : decode cX7_weighForetold 30 = .ok (.getfield 89, 3) := by decide +kernel
theorem dX7_weighForetold_33 : decode cX7_weighForetold 33 = .ok (.aload_n 0, 1) := by decide +kernel
theorem dX7_weighForetold_34 : decode cX7_weighForetold 34 = .ok (.getfield 12, 3) := by decide +kernel
theorem dX7_weighForetold_37 : decode cX7_weighForetold 37 = .ok (.getfield 79, 3) := by decide +kernel
theorem dX7_weighForetold_40 : decode cX7_weighForetold 40 = .ok (.if_icmp .gt 18, 3) := by decide +kernel
theorem dX7_weighForetold_43 : decode cX7_weighForetold 43 = .ok (.aload_n 0, 1) := by decide +kernel
theorem dX7_weighForetold_44 : decode cX7_weighForetold 44 = .ok (.getfield 28, 3) := by decide +kernel
theorem dX7_weighForetold_47 : decode cX7_weighForetold 47 = .ok (.aload_n 0, 1) := by decide +kernel
theorem dX7_weighForetold_48 : decode cX7_weighForetold 48 = .ok (.getfield 12, 3) := by decide +kernel
theorem dX7_weighForetold_51 : decode cX7_weighForetold 51 = .ok (.aload_n 2, 1) := by decide +kernel
theorem dX7_weighForetold_52 : decode cX7_weighForetold 52 = .ok (.invokevirtual 92, 3) := by decide +kernel
theorem dX7_weighForetold_55 : decode cX7_weighForetold 55 = .ok (.ifCond .ne 5, 3) := by decide +kernel
theorem dX7_weighForetold_58 : decode cX7_weighForetold 58 = .ok (.iconst (-1), 1) := by decide +kernel
theorem dX7_weighForetold_59 : decode cX7_weighForetold 59 = .ok (.ireturn, 1) := by decide +kernel
theorem dX7_weighForetold_60 : decode cX7_weighForetold 60 = .ok (.bipush 7, 2) := by decide +kernel
theorem dX7_weighForetold_62 : decode cX7_weighForetold 62 = .ok (.aload_n 2, 1) := by decide +kernel
theorem dX7_weighForetold_63 : decode cX7_weighForetold 63 = .ok (.getfield 89, 3) := by decide +kernel
theorem dX7_weighForetold_66 : decode cX7_weighForetold 66 = .ok (.aload_n 0, 1) := by decide +kernel
theorem dX7_weighForetold_67 : decode cX7_weighForetold 67 = .ok (.getfield 12, 3) := by decide +kernel
theorem dX7_weighForetold_70 : decode cX7_weighForetold 70 = .ok (.getfield 76, 3) := by decide +kernel
theorem dX7_weighForetold_73 : decode cX7_weighForetold 73 = .ok (.imul, 1) := by decide +kernel
theorem dX7_weighForetold_74 : decode cX7_weighForetold 74 = .ok (.iadd, 1) := by decide +kernel
theorem dX7_weighForetold_75 : decode cX7_weighForetold 75 = .ok (.istore 4, 2) := by decide +kernel
theorem dX7_weighForetold_77 : decode cX7_weighForetold 77 = .ok (.iload_n 1, 1) := by decide +kernel
theorem dX7_weighForetold_78 : decode cX7_weighForetold 78 = .ok (.bipush 7, 2) := by decide +kernel
theorem dX7_weighForetold_80 : decode cX7_weighForetold 80 = .ok (.if_icmp .ne 18, 3) := by decide +kernel
theorem dX7_weighForetold_83 : decode cX7_weighForetold 83 = .ok (.iload 4, 2) := by decide +kernel
theorem dX7_weighForetold_85 : decode cX7_weighForetold 85 = .ok (.bipush 6, 2) := by decide +kernel
theorem dX7_weighForetold_87 : decode cX7_weighForetold 87 = .ok (.aload_n 2, 1) := by decide +kernel
theorem dX7_weighForetold_88 : decode cX7_weighForetold 88 = .ok (.getfield 89, 3) := by decide +kernel
theorem dX7_weighForetold_91 : decode cX7_weighForetold 91 = .ok (.bipush 10, 2) := by decide +kernel
theorem dX7_weighForetold_93 : decode cX7_weighForetold 93 = .ok (.imul, 1) := by decide +kernel
theorem dX7_weighForetold_94 : decode cX7_weighForetold 94 = .ok (.iadd, 1) := by decide +kernel
theorem dX7_weighForetold_95 : decode cX7_weighForetold 95 = .ok (.iadd, 1) := by decide +kernel
theorem dX7_weighForetold_96 : decode cX7_weighForetold 96 = .ok (.istore 4, 2) := by decide +kernel
theorem dX7_weighForetold_98 : decode cX7_weighForetold 98 = .ok (.iload 4, 2) := by decide +kernel
theorem dX7_weighForetold_100 : decode cX7_weighForetold 100 = .ok (.aload_n 0, 1) := by decide +kernel
theorem dX7_weighForetold_101 : decode cX7_weighForetold 101 = .ok (.getfield 28, 3) := by decide +kernel
theorem dX7_weighForetold_104 : decode cX7_weighForetold 104 = .ok (.aload_n 0, 1) := by decide +kernel
theorem dX7_weighForetold_105 : decode cX7_weighForetold 105 = .ok (.getfield 35, 3) := by decide +kernel
theorem dX7_weighForetold_108 : decode cX7_weighForetold 108 = .ok (.invokevirtual 96, 3) := by decide +kernel
theorem dX7_weighForetold_111 : decode cX7_weighForetold 111 = .ok (.iadd, 1) := by decide +kernel
theorem dX7_weighForetold_112 : decode cX7_weighForetold 112 = .ok (.ireturn, 1) := by decide +kernel
theorem dX8_init_0 : decode cX8_init 0 = .ok (.aload_n 0, 1) := by decide +kernel
theorem dX8_init_1 : decode cX8_init 1 = .ok (.invokespecial 3, 3) := by decide +kernel
theorem dX8_init_4 : decode cX8_init 4 = .ok (.aload_n 0, 1) := by decide +kernel
theorem dX8_init_5 : decode cX8_init 5 = .ok (.bipush 16, 2) := by decide +kernel
theorem dX8_init_7 : decode cX8_init 7 = .ok (.newarray .int, 2) := by decide +kernel
theorem dX8_init_9 : decode cX8_init 9 = .ok (.putfield 9, 3) := by decide +kernel
theorem dX8_init_12 : decode cX8_init 12 = .ok (.aload_n 0, 1) := by decide +kernel
theorem dX8_init_13 : decode cX8_init 13 = .ok (.bipush 16, 2) := by decide +kernel
theorem dX8_init_15 : decode cX8_init 15 = .ok (.newarray .int, 2) := by decide +kernel
theorem dX8_init_17 : decode cX8_init 17 = .ok (.putfield 15, 3) := by decide +kernel
theorem dX8_init_20 : decode cX8_init 20 = .ok (.aload_n 0, 1) := by decide +kernel
theorem dX8_init_21 : decode cX8_init 21 = .ok (.iconst (-1), 1) := by decide +kernel
theorem dX8_init_22 : decode cX8_init 22 = .ok (.putfield 18, 3) := by decide +kernel
theorem dX8_init_25 : decode cX8_init 25 = .ok (.return_, 1) := by decide +kernel
theorem dX8_countParts_0 : decode cX8_countParts 0 = .ok (.aload_n 0, 1) := by decide +kernel
theorem dX8_countParts_1 : decode cX8_countParts 1 = .ok (.getfield 18, 3) := by decide +kernel
theorem dX8_countParts_4 : decode cX8_countParts 4 = .ok (.iconst (-1), 1) := by decide +kernel
theorem dX8_countParts_5 : decode cX8_countParts 5 = .ok (.if_icmp .ne 7, 3) := by decide +kernel
theorem dX8_countParts_8 : decode cX8_countParts 8 = .ok (.iconst 0, 1) := by decide +kernel
theorem dX8_countParts_9 : decode cX8_countParts 9 = .ok (.goto 9, 3) := by decide +kernel
theorem dX8_countParts_12 : decode cX8_countParts 12 = .ok (.iconst 1, 1) := by decide +kernel
theorem dX8_countParts_13 : decode cX8_countParts 13 = .ok (.aload_n 0, 1) := by decide +kernel
theorem dX8_countParts_14 : decode cX8_countParts 14 = .ok (.getfield 18, 3) := by decide +kernel
theorem dX8_countParts_17 : decode cX8_countParts 17 = .ok (.ishl, 1) := by decide +kernel
theorem dX8_countParts_18 : decode cX8_countParts 18 = .ok (.ireturn, 1) := by decide +kernel
theorem dX8_copyFrom_0 : decode cX8_copyFrom 0 = .ok (.aload_n 0, 1) := by decide +kernel
theorem dX8_copyFrom_1 : decode cX8_copyFrom 1 = .ok (.aload_n 1, 1) := by decide +kernel
theorem dX8_copyFrom_2 : decode cX8_copyFrom 2 = .ok (.getfield 22, 3) := by decide +kernel
theorem dX8_copyFrom_5 : decode cX8_copyFrom 5 = .ok (.putfield 22, 3) := by decide +kernel
theorem dX8_copyFrom_8 : decode cX8_copyFrom 8 = .ok (.aload_n 0, 1) := by decide +kernel
theorem dX8_copyFrom_9 : decode cX8_copyFrom 9 = .ok (.aload_n 1, 1) := by decide +kernel
theorem dX8_copyFrom_10 : decode cX8_copyFrom 10 = .ok (.getfield 25, 3) := by decide +kernel
theorem dX8_copyFrom_13 : decode cX8_copyFrom 13 = .ok (.putfield 25, 3) := by decide +kernel
theorem dX8_copyFrom_16 : decode cX8_copyFrom 16 = .ok (.aload_n 0, 1) := by decide +kernel
theorem dX8_copyFrom_17 : decode cX8_copyFrom 17 = .ok (.aload_n 1, 1) := by decide +kernel
theorem dX8_copyFrom_18 : decode cX8_copyFrom 18 = .ok (.getfield 28, 3) := by decide +kernel
theorem dX8_copyFrom_21 : decode cX8_copyFrom 21 = .ok (.putfield 28, 3) := by decide +kernel
theorem dX8_copyFrom_24 : decode cX8_copyFrom 24 = .ok (.aload_n 0, 1) := by decide +kernel
theorem dX8_copyFrom_25 : decode cX8_copyFrom 25 = .ok (.aload_n 1, 1) := by decide +kernel
theorem dX8_copyFrom_26 : decode cX8_copyFrom 26 = .ok (.getfield 18, 3) := by decide +kernel
theorem dX8_copyFrom_29 : decode cX8_copyFrom 29 = .ok (.putfield 18, 3) := by decide +kernel
theorem dX8_copyFrom_32 : decode cX8_copyFrom 32 = .ok (.aload_n 1, 1) := by decide +kernel
theorem dX8_copyFrom_33 : decode cX8_copyFrom 33 = .ok (.getfield 9, 3) := by decide +kernel
theorem dX8_copyFrom_36 : decode cX8_copyFrom 36 = .ok (.iconst 0, 1) := by decide +kernel
theorem dX8_copyFrom_37 : decode cX8_copyFrom 37 = .ok (.aload_n 0, 1) := by decide +kernel
theorem dX8_copyFrom_38 : decode cX8_copyFrom 38 = .ok (.getfield 9, 3) := by decide +kernel
theorem dX8_copyFrom_41 : decode cX8_copyFrom 41 = .ok (.iconst 0, 1) := by decide +kernel
theorem dX8_copyFrom_42 : decode cX8_copyFrom 42 = .ok (.bipush 16, 2) := by decide +kernel
theorem dX8_copyFrom_44 : decode cX8_copyFrom 44 = .ok (.invokestatic 31, 3) := by decide +kernel
theorem dX8_copyFrom_47 : decode cX8_copyFrom 47 = .ok (.aload_n 1, 1) := by decide +kernel
theorem dX8_copyFrom_48 : decode cX8_copyFrom 48 = .ok (.getfield 15, 3) := by decide +kernel
theorem dX8_copyFrom_51 : decode cX8_copyFrom 51 = .ok (.iconst 0, 1) := by decide +kernel
theorem dX8_copyFrom_52 : decode cX8_copyFrom 52 = .ok (.aload_n 0, 1) := by decide +kernel
theorem dX8_copyFrom_53 : decode cX8_copyFrom 53 = .ok (.getfield 15, 3) := by decide +kernel
theorem dX8_copyFrom_56 : decode cX8_copyFrom 56 = .ok (.iconst 0, 1) := by decide +kernel
theorem dX8_copyFrom_57 : decode cX8_copyFrom 57 = .ok (.bipush 16, 2) := by decide +kernel
theorem dX8_copyFrom_59 : decode cX8_copyFrom 59 = .ok (.invokestatic 31, 3) := by decide +kernel
theorem dX8_copyFrom_62 : decode cX8_copyFrom 62 = .ok (.return_, 1) := by decide +kernel
theorem dX9_init_0 : decode cX9_init 0 = .ok (.aload_n 0, 1) := by decide +kernel
theorem dX9_init_1 : decode cX9_init 1 = .ok (.invokespecial 3, 3) := by decide +kernel
theorem dX9_init_4 : decode cX9_init 4 = .ok (.aload_n 0, 1) := by decide +kernel
theorem dX9_init_5 : decode cX9_init 5 = .ok (.new 9, 3) := by decide +kernel
theorem dX9_init_8 : decode cX9_init 8 = .ok (.dup, 1) := by decide +kernel
theorem dX9_init_9 : decode cX9_init 9 = .ok (.invokespecial 11, 3) := by decide +kernel
theorem dX9_init_12 : decode cX9_init 12 = .ok (.putfield 12, 3) := by decide +kernel
theorem dX9_init_15 : decode cX9_init 15 = .ok (.aload_n 0, 1) := by decide +kernel
theorem dX9_init_16 : decode cX9_init 16 = .ok (.aload_n 1, 1) := by decide +kernel
theorem dX9_init_17 : decode cX9_init 17 = .ok (.putfield 18, 3) := by decide +kernel
theorem dX9_init_20 : decode cX9_init 20 = .ok (.return_, 1) := by decide +kernel
theorem dX9_readRow_0 : decode cX9_readRow 0 = .ok (.aload_n 0, 1) := by decide +kernel
theorem dX9_readRow_1 : decode cX9_readRow 1 = .ok (.iload_n 2, 1) := by decide +kernel
theorem dX9_readRow_2 : decode cX9_readRow 2 = .ok (.putfield 22, 3) := by decide +kernel
theorem dX9_readRow_5 : decode cX9_readRow 5 = .ok (.aload_n 0, 1) := by decide +kernel
theorem dX9_readRow_6 : decode cX9_readRow 6 = .ok (.getfield 18, 3) := by decide +kernel
theorem dX9_readRow_9 : decode cX9_readRow 9 = .ok (.iconst 3, 1) := by decide +kernel
theorem dX9_readRow_10 : decode cX9_readRow 10 = .ok (.invokevirtual 26, 3) := by decide +kernel
theorem dX9_readRow_13 : decode cX9_readRow 13 = .ok (.istore 4, 2) := by decide +kernel
theorem dX9_readRow_15 : decode cX9_readRow 15 = .ok (.aload_n 0, 1) := by decide +kernel
theorem dX9_readRow_16 : decode cX9_readRow 16 = .ok (.getfield 18, 3) := by decide +kernel
theorem dX9_readRow_19 : decode cX9_readRow 19 = .ok (.iconst 4, 1) := by decide +kernel
theorem dX9_readRow_20 : decode cX9_readRow 20 = .ok (.invokevirtual 26, 3) := by decide +kernel
theorem dX9_readRow_23 : decode cX9_readRow 23 = .ok (.istore 5, 2) := by decide +kernel
theorem dX9_readRow_25 : decode cX9_readRow 25 = .ok (.aload_n 0, 1) := by decide +kernel
theorem dX9_readRow_26 : decode cX9_readRow 26 = .ok (.getfield 18, 3) := by decide +kernel
theorem dX9_readRow_29 : decode cX9_readRow 29 = .ok (.iload 5, 2) := by decide +kernel
theorem dX9_readRow_31 : decode cX9_readRow 31 = .ok (.iload_n 3, 1) := by decide +kernel
theorem dX9_readRow_32 : decode cX9_readRow 32 = .ok (.if_icmp .lt 7, 3) := by decide +kernel
theorem dX9_readRow_35 : decode cX9_readRow 35 = .ok (.iconst 1, 1) := by decide +kernel
theorem dX9_readRow_36 : decode cX9_readRow 36 = .ok (.goto 4, 3) := by decide +kernel
theorem dX9_readRow_39 : decode cX9_readRow 39 = .ok (.iconst 0, 1) := by decide +kernel
theorem dX9_readRow_40 : decode cX9_readRow 40 = .ok (.iconst 4, 1) := by decide +kernel
theorem dX9_readRow_41 : decode cX9_readRow 41 = .ok (.invokevirtual 32, 3) := by decide +kernel
theorem dX9_readRow_44 : decode cX9_readRow 44 = .ok (.ifCond .eq 6, 3) := by decide +kernel
theorem dX9_readRow_47 : decode cX9_readRow 47 = .ok (.iload 4, 2) := by decide +kernel
theorem dX9_readRow_49 : decode cX9_readRow 49 = .ok (.ireturn, 1) := by decide +kernel
theorem dX9_readRow_50 : decode cX9_readRow 50 = .ok (.aload_n 0, 1) := by decide +kernel
theorem dX9_readRow_51 : decode cX9_readRow 51 = .ok (.iload_n 3, 1) := by decide +kernel
theorem dX9_readRow_52 : decode cX9_readRow 52 = .ok (.iload 5, 2) := by decide +kernel
theorem dX9_readRow_54 : decode cX9_readRow 54 = .ok (.isub, 1) := by decide +kernel
theorem dX9_readRow_55 : decode cX9_readRow 55 = .ok (.putfield 36, 3) := by decide +kernel
theorem dX9_readRow_58 : decode cX9_readRow 58 = .ok (.iload 4, 2) := by decide +kernel
theorem dX9_readRow_60 : decode cX9_readRow 60 = .ok (.ifCond .ne 22, 3) := by decide +kernel
theorem dX9_readRow_63 : decode cX9_readRow 63 = .ok (.aload_n 0, 1) := by decide +kernel
theorem dX9_readRow_64 : decode cX9_readRow 64 = .ok (.aload_n 1, 1) := by decide +kernel
theorem dX9_readRow_65 : decode cX9_readRow 65 = .ok (.aload_n 0, 1) := by decide +kernel
theorem dX9_readRow_66 : decode cX9_readRow 66 = .ok (.getfield 18, 3) := by decide +kernel
theorem dX9_readRow_69 : decode cX9_readRow 69 = .ok (.aload_n 0, 1) := by decide +kernel
theorem dX9_readRow_70 : decode cX9_readRow 70 = .ok (.getfield 36, 3) := by decide +kernel
theorem dX9_readRow_73 : decode cX9_readRow 73 = .ok (.invokevirtual 39, 3) := by decide +kernel
theorem dX9_readRow_76 : decode cX9_readRow 76 = .ok (.invokevirtual 42, 3) := by decide +kernel
theorem dX9_readRow_79 : decode cX9_readRow 79 = .ok (.goto 28, 3) := by decide +kernel
theorem dX9_readRow_82 : decode cX9_readRow 82 = .ok (.iload 4, 2) := by decide +kernel
theorem dX9_readRow_84 : decode cX9_readRow 84 = .ok (.iconst 1, 1) := by decide +kernel
theorem dX9_readRow_85 : decode cX9_readRow 85 = .ok (.if_icmp .ne 15, 3) := by decide +kernel
theorem dX9_readRow_88 : decode cX9_readRow 88 = .ok (.aload_n 0, 1) := by decide +kernel
theorem dX9_readRow_89 : decode cX9_readRow 89 = .ok (.aload_n 1, 1) := by decide +kernel
theorem dX9_readRow_90 : decode cX9_readRow 90 = .ok (.aload_n 0, 1) := by decide +kernel
theorem dX9_readRow_91 : decode cX9_readRow 91 = .ok (.getfield 22, 3) := by decide +kernel
theorem dX9_readRow_94 : decode cX9_readRow 94 = .ok (.invokevirtual 46, 3) := by decide +kernel
theorem dX9_readRow_97 : decode cX9_readRow 97 = .ok (.goto 10, 3) := by decide +kernel
theorem dX9_readRow_100 : decode cX9_readRow 100 = .ok (.aload_n 0, 1) := by decide +kernel
theorem dX9_readRow_101 : decode cX9_readRow 101 = .ok (.aload_n 1, 1) := by decide +kernel
theorem dX9_readRow_102 : decode cX9_readRow 102 = .ok (.iload 4, 2) := by decide +kernel
theorem dX9_readRow_104 : decode cX9_readRow 104 = .ok (.invokevirtual 49, 3) := by decide +kernel
theorem dX9_readRow_107 : decode cX9_readRow 107 = .ok (.iconst 0, 1) := by decide +kernel
theorem dX9_readRow_108 : decode cX9_readRow 108 = .ok (.istore 6, 2) := by decide +kernel
theorem dX9_readRow_110 : decode cX9_readRow 110 = .ok (.iload 6, 2) := by decide +kernel
theorem dX9_readRow_112 : decode cX9_readRow 112 = .ok (.aload_n 0, 1) := by decide +kernel
theorem dX9_readRow_113 : decode cX9_readRow 113 = .ok (.getfield 22, 3) := by decide +kernel
theorem dX9_readRow_116 : decode cX9_readRow 116 = .ok (.if_icmp .ge 18, 3) := by decide +kernel
theorem dX9_readRow_119 : decode cX9_readRow 119 = .ok (.aload_n 1, 1) := by decide +kernel
theorem dX9_readRow_120 : decode cX9_readRow 120 = .ok (.iload 6, 2) := by decide +kernel
theorem dX9_readRow_122 : decode cX9_readRow 122 = .ok (.dup2, 1) := by decide +kernel
theorem dX9_readRow_123 : decode cX9_readRow 123 = .ok (.iaload, 1) := by decide +kernel
theorem dX9_readRow_124 : decode cX9_readRow 124 = .ok (.iload 5, 2) := by decide +kernel
theorem dX9_readRow_126 : decode cX9_readRow 126 = .ok (.ishl, 1) := by decide +kernel
theorem dX9_readRow_127 : decode cX9_readRow 127 = .ok (.iastore, 1) := by decide +kernel
theorem dX9_readRow_128 : decode cX9_readRow 128 = .ok (.iinc 6 1, 3) := by decide +kernel
theorem dX9_readRow_131 : decode cX9_readRow 131 = .ok (.goto (-21), 3) := by decide +kernel
theorem dX9_readRow_134 : decode cX9_readRow 134 = .ok (.iload 4, 2) := by decide +kernel
theorem dX9_readRow_136 : decode cX9_readRow 136 = .ok (.ireturn, 1) := by decide +kernel
theorem dX9_fillRow_0 : decode cX9_fillRow 0 = .ok (.iconst 0, 1) := by decide +kernel
theorem dX9_fillRow_1 : decode cX9_fillRow 1 = .ok (.istore_n 3, 1) := by decide +kernel
theorem dX9_fillRow_2 : decode cX9_fillRow 2 = .ok (.iload_n 3, 1) := by decide +kernel
theorem dX9_fillRow_3 : decode cX9_fillRow 3 = .ok (.aload_n 0, 1) := by decide +kernel
theorem dX9_fillRow_4 : decode cX9_fillRow 4 = .ok (.getfield 22, 3) := by decide +kernel
theorem dX9_fillRow_7 : decode cX9_fillRow 7 = .ok (.if_icmp .ge 13, 3) := by decide +kernel
theorem dX9_fillRow_10 : decode cX9_fillRow 10 = .ok (.aload_n 1, 1) := by decide +kernel
theorem dX9_fillRow_11 : decode cX9_fillRow 11 = .ok (.iload_n 3, 1) := by decide +kernel
theorem dX9_fillRow_12 : decode cX9_fillRow 12 = .ok (.iload_n 2, 1) := by decide +kernel
theorem dX9_fillRow_13 : decode cX9_fillRow 13 = .ok (.iastore, 1) := by decide +kernel
theorem dX9_fillRow_14 : decode cX9_fillRow 14 = .ok (.iinc 3 1, 3) := by decide +kernel
theorem dX9_fillRow_17 : decode cX9_fillRow 17 = .ok (.goto (-15), 3) := by decide +kernel
theorem dX9_fillRow_20 : decode cX9_fillRow 20 = .ok (.return_, 1) := by decide +kernel
theorem dX9_readValues_0 : decode cX9_readValues 0 = .ok (.iconst 0, 1) := by decide +kernel
theorem dX9_readValues_1 : decode cX9_readValues 1 = .ok (.istore_n 3, 1) := by decide +kernel
theorem dX9_readValues_2 : decode cX9_readValues 2 = .ok (.iload_n 3, 1) := by decide +kernel
theorem dX9_readValues_3 : decode cX9_readValues 3 = .ok (.iload_n 2, 1) := by decide +kernel
theorem dX9_readValues_4 : decode cX9_readValues 4 = .ok (.if_icmp .ge 23, 3) := by decide +kernel
theorem dX9_readValues_7 : decode cX9_readValues 7 = .ok (.aload_n 1, 1) := by decide +kernel
theorem dX9_readValues_8 : decode cX9_readValues 8 = .ok (.iload_n 3, 1) := by decide +kernel
theorem dX9_readValues_9 : decode cX9_readValues 9 = .ok (.aload_n 0, 1) := by decide +kernel
theorem dX9_readValues_10 : decode cX9_readValues 10 = .ok (.getfield 18, 3) := by decide +kernel
theorem dX9_readValues_13 : decode cX9_readValues 13 = .ok (.aload_n 0, 1) := by decide +kernel
theorem dX9_readValues_14 : decode cX9_readValues 14 = .ok (.getfield 36, 3) := by decide +kernel
theorem dX9_readValues_17 : decode cX9_readValues 17 = .ok (.invokevirtual 39, 3) := by decide +kernel
theorem dX9_readValues_20 : decode cX9_readValues 20 = .ok (.iastore, 1) := by decide +kernel
theorem dX9_readValues_21 : decode cX9_readValues 21 = .ok (.iinc 3 1, 3) := by decide +kernel
theorem dX9_readValues_24 : decode cX9_readValues 24 = .ok (.goto (-22), 3) := by decide +kernel
theorem dX9_readValues_27 : decode cX9_readValues 27 = .ok (.return_, 1) := by decide +kernel
theorem dX9_readForetold_0 : decode cX9_readForetold 0 = .ok (.iload_n 2, 1) := by decide +kernel
theorem dX9_readForetold_1 : decode cX9_readForetold 1 = .ok (.bipush 7, 2) := by decide +kernel
theorem dX9_readForetold_3 : decode cX9_readForetold 3 = .ok (.if_icmp .ne 16, 3) := by decide +kernel
theorem dX9_readForetold_6 : decode cX9_readForetold 6 = .ok (.iconst 1, 1) := by decide +kernel
theorem dX9_readForetold_7 : decode cX9_readForetold 7 = .ok (.aload_n 0, 1) := by decide +kernel
theorem dX9_readForetold_8 : decode cX9_readForetold 8 = .ok (.getfield 18, 3) := by decide +kernel
theorem dX9_readForetold_11 : decode cX9_readForetold 11 = .ok (.iconst 2, 1) := by decide +kernel
theorem dX9_readForetold_12 : decode cX9_readForetold 12 = .ok (.invokevirtual 26, 3) := by decide +kernel
theorem dX9_readForetold_15 : decode cX9_readForetold 15 = .ok (.iadd, 1) := by decide +kernel
theorem dX9_readForetold_16 : decode cX9_readForetold 16 = .ok (.goto 6, 3) := by decide +kernel
theorem dX9_readForetold_19 : decode cX9_readForetold 19 = .ok (.iload_n 2, 1) := by decide +kernel
theorem dX9_readForetold_20 : decode cX9_readForetold 20 = .ok (.iconst 2, 1) := by decide +kernel
theorem dX9_readForetold_21 : decode cX9_readForetold 21 = .ok (.isub, 1) := by decide +kernel
theorem dX9_readForetold_22 : decode cX9_readForetold 22 = .ok (.istore_n 3, 1) := by decide +kernel
theorem dX9_readForetold_23 : decode cX9_readForetold 23 = .ok (.aload_n 0, 1) := by decide +kernel
theorem dX9_readForetold_24 : decode cX9_readForetold 24 = .ok (.getfield 18, 3) := by decide +kernel
theorem dX9_readForetold_27 : decode cX9_readForetold 27 = .ok (.iload_n 3, 1) := by decide +kernel
theorem dX9_readForetold_28 : decode cX9_readForetold 28 = .ok (.aload_n 0, 1) := by decide +kernel
theorem dX9_readForetold_29 : decode cX9_readForetold 29 = .ok (.getfield 22, 3) := by decide +kernel
theorem dX9_readForetold_32 : decode cX9_readForetold 32 = .ok (.if_icmp .le 7, 3) := by decide +kernel
theorem dX9_readForetold_35 : decode cX9_readForetold 35 = .ok (.iconst 1, 1) := by decide +kernel
theorem dX9_readForetold_36 : decode cX9_readForetold 36 = .ok (.goto 4, 3) := by decide +kernel
theorem dX9_readForetold_39 : decode cX9_readForetold 39 = .ok (.iconst 0, 1) := by decide +kernel
theorem dX9_readForetold_40 : decode cX9_readForetold 40 = .ok (.iconst 5, 1) := by decide +kernel
theorem dX9_readForetold_41 : decode cX9_readForetold 41 = .ok (.invokevirtual 32, 3) := by decide +kernel
theorem dX9_readForetold_44 : decode cX9_readForetold 44 = .ok (.ifCond .eq 4, 3) := by decide +kernel
theorem dX9_readForetold_47 : decode cX9_readForetold 47 = .ok (.return_, 1) := by decide +kernel
theorem dX9_readForetold_48 : decode cX9_readForetold 48 = .ok (.iload_n 2, 1) := by decide +kernel
theorem dX9_readForetold_49 : decode cX9_readForetold 49 = .ok (.bipush 7, 2) := by decide +kernel
theorem dX9_readForetold_51 : decode cX9_readForetold 51 = .ok (.if_icmp .ne 11, 3) := by decide +kernel
theorem dX9_readForetold_54 : decode cX9_readForetold 54 = .ok (.aload_n 0, 1) := by decide +kernel
theorem dX9_readForetold_55 : decode cX9_readForetold 55 = .ok (.iload_n 3, 1) := by decide +kernel
theorem dX9_readForetold_56 : decode cX9_readForetold 56 = .ok (.invokevirtual 52, 3) := by decide +kernel
theorem dX9_readForetold_59 : decode cX9_readForetold 59 = .ok (.goto 11, 3) := by decide +kernel
theorem dX9_readForetold_62 : decode cX9_readForetold 62 = .ok (.aload_n 0, 1) := by decide +kernel
theorem dX9_readForetold_63 : decode cX9_readForetold 63 = .ok (.getfield 12, 3) := by decide +kernel
theorem dX9_readForetold_66 : decode cX9_readForetold 66 = .ok (.iload_n 3, 1) := by decide +kernel
theorem dX9_readForetold_67 : decode cX9_readForetold 67 = .ok (.invokevirtual 56, 3) := by decide +kernel
theorem dX9_readForetold_70 : decode cX9_readForetold 70 = .ok (.aload_n 0, 1) := by decide +kernel
theorem dX9_readForetold_71 : decode cX9_readForetold 71 = .ok (.aload_n 1, 1) := by decide +kernel
theorem dX9_readForetold_72 : decode cX9_readForetold 72 = .ok (.iload_n 3, 1) := by decide +kernel
theorem dX9_readForetold_73 : decode cX9_readForetold 73 = .ok (.invokevirtual 46, 3) := by decide +kernel
theorem dX9_readForetold_76 : decode cX9_readForetold 76 = .ok (.aload_n 0, 1) := by decide +kernel
theorem dX9_readForetold_77 : decode cX9_readForetold 77 = .ok (.getfield 18, 3) := by decide +kernel
theorem dX9_readForetold_80 : decode cX9_readForetold 80 = .ok (.iconst 3, 1) := by decide +kernel
theorem dX9_readForetold_81 : decode cX9_readForetold 81 = .ok (.invokevirtual 26, 3) := by decide +kernel
theorem dX9_readForetold_84 : decode cX9_readForetold 84 = .ok (.istore 4, 2) := by decide +kernel
theorem dX9_readForetold_86 : decode cX9_readForetold 86 = .ok (.aload_n 0, 1) := by decide +kernel
theorem dX9_readForetold_87 : decode cX9_readForetold 87 = .ok (.getfield 18, 3) := by decide +kernel
theorem dX9_readForetold_90 : decode cX9_readForetold 90 = .ok (.iload 4, 2) := by decide +kernel
theorem dX9_readForetold_92 : decode cX9_readForetold 92 = .ok (.aload_n 0, 1) := by decide +kernel
theorem dX9_readForetold_93 : decode cX9_readForetold 93 = .ok (.getfield 22, 3) := by decide +kernel
theorem dX9_readForetold_96 : decode cX9_readForetold 96 = .ok (.iload_n 3, 1) := by decide +kernel
theorem dX9_readForetold_97 : decode cX9_readForetold 97 = .ok (.invokestatic 59, 3) := by decide +kernel
theorem dX9_readForetold_100 : decode cX9_readForetold 100 = .ok (.ifCond .ne 7, 3) := by decide +kernel
theorem dX9_readForetold_103 : decode cX9_readForetold 103 = .ok (.iconst 1, 1) := by decide +kernel
theorem dX9_readForetold_104 : decode cX9_readForetold 104 = .ok (.goto 4, 3) := by decide +kernel
theorem dX9_readForetold_107 : decode cX9_readForetold 107 = .ok (.iconst 0, 1) := by decide +kernel
theorem dX9_readForetold_108 : decode cX9_readForetold 108 = .ok (.bipush 6, 2) := by decide +kernel
theorem dX9_readForetold_110 : decode cX9_readForetold 110 = .ok (.invokevirtual 32, 3) := by decide +kernel
theorem dX9_readForetold_113 : decode cX9_readForetold 113 = .ok (.ifCond .eq 4, 3) := by decide +kernel
theorem dX9_readForetold_116 : decode cX9_readForetold 116 = .ok (.return_, 1) := by decide +kernel
theorem dX9_readForetold_117 : decode cX9_readForetold 117 = .ok (.aload_n 0, 1) := by decide +kernel
theorem dX9_readForetold_118 : decode cX9_readForetold 118 = .ok (.getfield 22, 3) := by decide +kernel
theorem dX9_readForetold_121 : decode cX9_readForetold 121 = .ok (.iload 4, 2) := by decide +kernel
theorem dX9_readForetold_123 : decode cX9_readForetold 123 = .ok (.ishr, 1) := by decide +kernel
theorem dX9_readForetold_124 : decode cX9_readForetold 124 = .ok (.istore 5, 2) := by decide +kernel
theorem dX9_readForetold_126 : decode cX9_readForetold 126 = .ok (.iconst 0, 1) := by decide +kernel
theorem dX9_readForetold_127 : decode cX9_readForetold 127 = .ok (.istore 6, 2) := by decide +kernel
theorem dX9_readForetold_129 : decode cX9_readForetold 129 = .ok (.iload 6, 2) := by decide +kernel
theorem dX9_readForetold_131 : decode cX9_readForetold 131 = .ok (.iconst 1, 1) := by decide +kernel
theorem dX9_readForetold_132 : decode cX9_readForetold 132 = .ok (.iload 4, 2) := by decide +kernel
theorem dX9_readForetold_134 : decode cX9_readForetold 134 = .ok (.ishl, 1) := by decide +kernel
theorem dX9_readForetold_135 : decode cX9_readForetold 135 = .ok (.if_icmp .ge 35, 3) := by decide +kernel
theorem dX9_readForetold_138 : decode cX9_readForetold 138 = .ok (.aload_n 0, 1) := by decide +kernel
theorem dX9_readForetold_139 : decode cX9_readForetold 139 = .ok (.aload_n 1, 1) := by decide +kernel
theorem dX9_readForetold_140 : decode cX9_readForetold 140 = .ok (.iload 6, 2) := by decide +kernel
theorem dX9_readForetold_142 : decode cX9_readForetold 142 = .ok (.ifCond .ne 7, 3) := by decide +kernel
theorem dX9_readForetold_145 : decode cX9_readForetold 145 = .ok (.iload_n 3, 1) := by decide +kernel
theorem dX9_readForetold_146 : decode cX9_readForetold 146 = .ok (.goto 8, 3) := by decide +kernel
theorem dX9_readForetold_149 : decode cX9_readForetold 149 = .ok (.iload 6, 2) := by decide +kernel
theorem dX9_readForetold_151 : decode cX9_readForetold 151 = .ok (.iload 5, 2) := by decide +kernel
theorem dX9_readForetold_153 : decode cX9_readForetold 153 = .ok (.imul, 1) := by decide +kernel
theorem dX9_readForetold_154 : decode cX9_readForetold 154 = .ok (.iload 6, 2) := by decide +kernel
theorem dX9_readForetold_156 : decode cX9_readForetold 156 = .ok (.iconst 1, 1) := by decide +kernel
theorem dX9_readForetold_157 : decode cX9_readForetold 157 = .ok (.iadd, 1) := by decide +kernel
theorem dX9_readForetold_158 : decode cX9_readForetold 158 = .ok (.iload 5, 2) := by decide +kernel
theorem dX9_readForetold_160 : decode cX9_readForetold 160 = .ok (.imul, 1) := by decide +kernel
theorem dX9_readForetold_161 : decode cX9_readForetold 161 = .ok (.invokevirtual 63, 3) := by decide +kernel
theorem dX9_readForetold_164 : decode cX9_readForetold 164 = .ok (.iinc 6 1, 3) := by decide +kernel
theorem dX9_readForetold_167 : decode cX9_readForetold 167 = .ok (.goto (-38), 3) := by decide +kernel
theorem dX9_readForetold_170 : decode cX9_readForetold 170 = .ok (.return_, 1) := by decide +kernel
theorem dX9_readCoefficients_0 : decode cX9_readCoefficients 0 = .ok (.aload_n 0, 1) := by decide +kernel
theorem dX9_readCoefficients_1 : decode cX9_readCoefficients 1 = .ok (.getfield 12, 3) := by decide +kernel
theorem dX9_readCoefficients_4 : decode cX9_readCoefficients 4 = .ok (.iload_n 1, 1) := by decide +kernel
theorem dX9_readCoefficients_5 : decode cX9_readCoefficients 5 = .ok (.putfield 67, 3) := by decide +kernel
theorem dX9_readCoefficients_8 : decode cX9_readCoefficients 8 = .ok (.aload_n 0, 1) := by decide +kernel
theorem dX9_readCoefficients_9 : decode cX9_readCoefficients 9 = .ok (.getfield 12, 3) := by decide +kernel
theorem dX9_readCoefficients_12 : decode cX9_readCoefficients 12 = .ok (.aload_n 0, 1) := by decide +kernel
theorem dX9_readCoefficients_13 : decode cX9_readCoefficients 13 = .ok (.getfield 18, 3) := by decide +kernel
theorem dX9_readCoefficients_16 : decode cX9_readCoefficients 16 = .ok (.iconst 4, 1) := by decide +kernel
theorem dX9_readCoefficients_17 : decode cX9_readCoefficients 17 = .ok (.invokevirtual 26, 3) := by decide +kernel
theorem dX9_readCoefficients_20 : decode cX9_readCoefficients 20 = .ok (.putfield 70, 3) := by decide +kernel
theorem dX9_readCoefficients_23 : decode cX9_readCoefficients 23 = .ok (.iconst 0, 1) := by decide +kernel
theorem dX9_readCoefficients_24 : decode cX9_readCoefficients 24 = .ok (.istore_n 2, 1) := by decide +kernel
theorem dX9_readCoefficients_25 : decode cX9_readCoefficients 25 = .ok (.iload_n 2, 1) := by decide +kernel
theorem dX9_readCoefficients_26 : decode cX9_readCoefficients 26 = .ok (.iload_n 1, 1) := by decide +kernel
theorem dX9_readCoefficients_27 : decode cX9_readCoefficients 27 = .ok (.if_icmp .ge 27, 3) := by decide +kernel
theorem dX9_readCoefficients_30 : decode cX9_readCoefficients 30 = .ok (.aload_n 0, 1) := by decide +kernel
theorem dX9_readCoefficients_31 : decode cX9_readCoefficients 31 = .ok (.getfield 12, 3) := by decide +kernel
theorem dX9_readCoefficients_34 : decode cX9_readCoefficients 34 = .ok (.getfield 73, 3) := by decide +kernel
theorem dX9_readCoefficients_37 : decode cX9_readCoefficients 37 = .ok (.iload_n 2, 1) := by decide +kernel
theorem dX9_readCoefficients_38 : decode cX9_readCoefficients 38 = .ok (.aload_n 0, 1) := by decide +kernel
theorem dX9_readCoefficients_39 : decode cX9_readCoefficients 39 = .ok (.getfield 18, 3) := by decide +kernel
theorem dX9_readCoefficients_42 : decode cX9_readCoefficients 42 = .ok (.bipush 10, 2) := by decide +kernel
theorem dX9_readCoefficients_44 : decode cX9_readCoefficients 44 = .ok (.invokevirtual 39, 3) := by decide +kernel
theorem dX9_readCoefficients_47 : decode cX9_readCoefficients 47 = .ok (.iastore, 1) := by decide +kernel
theorem dX9_readCoefficients_48 : decode cX9_readCoefficients 48 = .ok (.iinc 2 1, 3) := by decide +kernel
theorem dX9_readCoefficients_51 : decode cX9_readCoefficients 51 = .ok (.goto (-26), 3) := by decide +kernel
theorem dX9_readCoefficients_54 : decode cX9_readCoefficients 54 = .ok (.return_, 1) := by decide +kernel
theorem dX9_readPart_0 : decode cX9_readPart 0 = .ok (.aload_n 0, 1) := by decide +kernel
theorem dX9_readPart_1 : decode cX9_readPart 1 = .ok (.getfield 18, 3) := by decide +kernel
theorem dX9_readPart_4 : decode cX9_readPart 4 = .ok (.iconst 4, 1) := by decide +kernel
theorem dX9_readPart_5 : decode cX9_readPart 5 = .ok (.invokevirtual 26, 3) := by decide +kernel
theorem dX9_readPart_8 : decode cX9_readPart 8 = .ok (.istore 4, 2) := by decide +kernel
theorem dX9_readPart_10 : decode cX9_readPart 10 = .ok (.iload 4, 2) := by decide +kernel
theorem dX9_readPart_12 : decode cX9_readPart 12 = .ok (.bipush 15, 2) := by decide +kernel
theorem dX9_readPart_14 : decode cX9_readPart 14 = .ok (.if_icmp .ne 14, 3) := by decide +kernel
theorem dX9_readPart_17 : decode cX9_readPart 17 = .ok (.aload_n 0, 1) := by decide +kernel
theorem dX9_readPart_18 : decode cX9_readPart 18 = .ok (.getfield 18, 3) := by decide +kernel
theorem dX9_readPart_21 : decode cX9_readPart 21 = .ok (.iconst 5, 1) := by decide +kernel
theorem dX9_readPart_22 : decode cX9_readPart 22 = .ok (.invokevirtual 26, 3) := by decide +kernel
theorem dX9_readPart_25 : decode cX9_readPart 25 = .ok (.goto 4, 3) := by decide +kernel
theorem dX9_readPart_28 : decode cX9_readPart 28 = .ok (.iconst 0, 1) := by decide +kernel
theorem dX9_readPart_29 : decode cX9_readPart 29 = .ok (.istore 5, 2) := by decide +kernel
theorem dX9_readPart_31 : decode cX9_readPart 31 = .ok (.aload_n 0, 1) := by decide +kernel
theorem dX9_readPart_32 : decode cX9_readPart 32 = .ok (.getfield 18, 3) := by decide +kernel
theorem dX9_readPart_35 : decode cX9_readPart 35 = .ok (.iload 5, 2) := by decide +kernel
theorem dX9_readPart_37 : decode cX9_readPart 37 = .ok (.bipush 24, 2) := by decide +kernel
theorem dX9_readPart_39 : decode cX9_readPart 39 = .ok (.if_icmp .le 7, 3) := by decide +kernel
theorem dX9_readPart_42 : decode cX9_readPart 42 = .ok (.iconst 1, 1) := by decide +kernel
theorem dX9_readPart_43 : decode cX9_readPart 43 = .ok (.goto 4, 3) := by decide +kernel
theorem dX9_readPart_46 : decode cX9_readPart 46 = .ok (.iconst 0, 1) := by decide +kernel
theorem dX9_readPart_47 : decode cX9_readPart 47 = .ok (.bipush 7, 2) := by decide +kernel
theorem dX9_readPart_49 : decode cX9_readPart 49 = .ok (.invokevirtual 32, 3) := by decide +kernel
theorem dX9_readPart_52 : decode cX9_readPart 52 = .ok (.ifCond .eq 4, 3) := by decide +kernel
theorem dX9_readPart_55 : decode cX9_readPart 55 = .ok (.return_, 1) := by decide +kernel
theorem dX9_readPart_56 : decode cX9_readPart 56 = .ok (.iload_n 2, 1) := by decide +kernel
theorem dX9_readPart_57 : decode cX9_readPart 57 = .ok (.istore 6, 2) := by decide +kernel
theorem dX9_readPart_59 : decode cX9_readPart 59 = .ok (.iload 6, 2) := by decide +kernel
theorem dX9_readPart_61 : decode cX9_readPart 61 = .ok (.iload_n 3, 1) := by decide +kernel
theorem dX9_readPart_62 : decode cX9_readPart 62 = .ok (.if_icmp .ge 90, 3) := by decide +kernel
theorem dX9_readPart_65 : decode cX9_readPart 65 = .ok (.iload 4, 2) := by decide +kernel
theorem dX9_readPart_67 : decode cX9_readPart 67 = .ok (.bipush 15, 2) := by decide +kernel
theorem dX9_readPart_69 : decode cX9_readPart 69 = .ok (.if_icmp .ne 15, 3) := by decide +kernel
theorem dX9_readPart_72 : decode cX9_readPart 72 = .ok (.aload_n 0, 1) := by decide +kernel
theorem dX9_readPart_73 : decode cX9_readPart 73 = .ok (.getfield 18, 3) := by decide +kernel
theorem dX9_readPart_76 : decode cX9_readPart 76 = .ok (.iload 5, 2) := by decide +kernel
theorem dX9_readPart_78 : decode cX9_readPart 78 = .ok (.invokevirtual 39, 3) := by decide +kernel
theorem dX9_readPart_81 : decode cX9_readPart 81 = .ok (.goto 12, 3) := by decide +kernel
theorem dX9_readPart_84 : decode cX9_readPart 84 = .ok (.aload_n 0, 1) := by decide +kernel
theorem dX9_readPart_85 : decode cX9_readPart 85 = .ok (.getfield 18, 3) := by decide +kernel
theorem dX9_readPart_88 : decode cX9_readPart 88 = .ok (.iload 4, 2) := by decide +kernel
theorem dX9_readPart_90 : decode cX9_readPart 90 = .ok (.invokevirtual 77, 3) := by decide +kernel
theorem dX9_readPart_93 : decode cX9_readPart 93 = .ok (.istore 7, 2) := by decide +kernel
theorem dX9_readPart_95 : decode cX9_readPart 95 = .ok (.aload_n 0, 1) := by decide +kernel
theorem dX9_readPart_96 : decode cX9_readPart 96 = .ok (.getfield 12, 3) := by decide +kernel
theorem dX9_readPart_99 : decode cX9_readPart 99 = .ok (.aload_n 1, 1) := by decide +kernel
theorem dX9_readPart_100 : decode cX9_readPart 100 = .ok (.iload 6, 2) := by decide +kernel
theorem dX9_readPart_102 : decode cX9_readPart 102 = .ok (.invokevirtual 80, 3) := by decide +kernel
theorem dX9_readPart_105 : decode cX9_readPart 105 = .ok (.iload 7, 2) := by decide +kernel
theorem dX9_readPart_107 : decode cX9_readPart 107 = .ok (.iadd, 1) := by decide +kernel
theorem dX9_readPart_108 : decode cX9_readPart 108 = .ok (.istore 8, 2) := by decide +kernel
theorem dX9_readPart_110 : decode cX9_readPart 110 = .ok (.aload_n 0, 1) := by decide +kernel
theorem dX9_readPart_111 : decode cX9_readPart 111 = .ok (.getfield 18, 3) := by decide +kernel
theorem dX9_readPart_114 : decode cX9_readPart 114 = .ok (.iload 8, 2) := by decide +kernel
theorem dX9_readPart_116 : decode cX9_readPart 116 = .ok (.aload_n 0, 1) := by decide +kernel
theorem dX9_readPart_117 : decode cX9_readPart 117 = .ok (.getfield 36, 3) := by decide +kernel
theorem dX9_readPart_120 : decode cX9_readPart 120 = .ok (.invokestatic 84, 3) := by decide +kernel
theorem dX9_readPart_123 : decode cX9_readPart 123 = .ok (.ifCond .ne 7, 3) := by decide +kernel
theorem dX9_readPart_126 : decode cX9_readPart 126 = .ok (.iconst 1, 1) := by decide +kernel
theorem dX9_readPart_127 : decode cX9_readPart 127 = .ok (.goto 4, 3) := by decide +kernel
theorem dX9_readPart_130 : decode cX9_readPart 130 = .ok (.iconst 0, 1) := by decide +kernel
theorem dX9_readPart_131 : decode cX9_readPart 131 = .ok (.bipush 8, 2) := by decide +kernel
theorem dX9_readPart_133 : decode cX9_readPart 133 = .ok (.invokevirtual 32, 3) := by decide +kernel
theorem dX9_readPart_136 : decode cX9_readPart 136 = .ok (.ifCond .eq 4, 3) := by decide +kernel
theorem dX9_readPart_139 : decode cX9_readPart 139 = .ok (.return_, 1) := by decide +kernel
theorem dX9_readPart_140 : decode cX9_readPart 140 = .ok (.aload_n 1, 1) := by decide +kernel
theorem dX9_readPart_141 : decode cX9_readPart 141 = .ok (.iload 6, 2) := by decide +kernel
theorem dX9_readPart_143 : decode cX9_readPart 143 = .ok (.iload 8, 2) := by decide +kernel
theorem dX9_readPart_145 : decode cX9_readPart 145 = .ok (.iastore, 1) := by decide +kernel
theorem dX9_readPart_146 : decode cX9_readPart 146 = .ok (.iinc 6 1, 3) := by decide +kernel
theorem dX9_readPart_149 : decode cX9_readPart 149 = .ok (.goto (-90), 3) := by decide +kernel
theorem dX9_readPart_152 : decode cX9_readPart 152 = .ok (.return_, 1) := by decide +kernel
theorem dX10_init_0 : decode cX10_init 0 = .ok (.aload_n 0, 1) := by decide +kernel
theorem dX10_init_1 : decode cX10_init 1 = .ok (.invokespecial 3, 3) := by decide +kernel
theorem dX10_init_4 : decode cX10_init 4 = .ok (.aload_n 0, 1) := by decide +kernel
theorem dX10_init_5 : decode cX10_init 5 = .ok (.sipush 400, 3) := by decide +kernel
theorem dX10_init_8 : decode cX10_init 8 = .ok (.newarray .int, 2) := by decide +kernel
theorem dX10_init_10 : decode cX10_init 10 = .ok (.putfield 9, 3) := by decide +kernel
theorem dX10_init_13 : decode cX10_init 13 = .ok (.return_, 1) := by decide +kernel
theorem dX10_strip_0 : decode cX10_strip 0 = .ok (.iconst 0, 1) := by decide +kernel
theorem dX10_strip_1 : decode cX10_strip 1 = .ok (.istore 4, 2) := by decide +kernel
theorem dX10_strip_3 : decode cX10_strip 3 = .ok (.iconst 0, 1) := by decide +kernel
theorem dX10_strip_4 : decode cX10_strip 4 = .ok (.istore 5, 2) := by decide +kernel
theorem dX10_strip_6 : decode cX10_strip 6 = .ok (.iload 5, 2) := by decide +kernel
theorem dX10_strip_8 : decode cX10_strip 8 = .ok (.iload_n 2, 1) := by decide +kernel
theorem dX10_strip_9 : decode cX10_strip 9 = .ok (.if_icmp .ge 18, 3) := by decide +kernel
theorem dX10_strip_12 : decode cX10_strip 12 = .ok (.iload 4, 2) := by decide +kernel
theorem dX10_strip_14 : decode cX10_strip 14 = .ok (.aload_n 1, 1) := by decide +kernel
theorem dX10_strip_15 : decode cX10_strip 15 = .ok (.iload 5, 2) := by decide +kernel
theorem dX10_strip_17 : decode cX10_strip 17 = .ok (.iaload, 1) := by decide +kernel
theorem dX10_strip_18 : decode cX10_strip 18 = .ok (.ior, 1) := by decide +kernel
theorem dX10_strip_19 : decode cX10_strip 19 = .ok (.istore 4, 2) := by decide +kernel
theorem dX10_strip_21 : decode cX10_strip 21 = .ok (.iinc 5 1, 3) := by decide +kernel
theorem dX10_strip_24 : decode cX10_strip 24 = .ok (.goto (-18), 3) := by decide +kernel
theorem dX10_strip_27 : decode cX10_strip 27 = .ok (.iload 4, 2) := by decide +kernel
theorem dX10_strip_29 : decode cX10_strip 29 = .ok (.ifCond .ne 7, 3) := by decide +kernel
theorem dX10_strip_32 : decode cX10_strip 32 = .ok (.iconst 0, 1) := by decide +kernel
theorem dX10_strip_33 : decode cX10_strip 33 = .ok (.goto 8, 3) := by decide +kernel
theorem dX10_strip_36 : decode cX10_strip 36 = .ok (.iload 4, 2) := by decide +kernel
theorem dX10_strip_38 : decode cX10_strip 38 = .ok (.invokestatic 15, 3) := by decide +kernel
theorem dX10_strip_41 : decode cX10_strip 41 = .ok (.istore 5, 2) := by decide +kernel
theorem dX10_strip_43 : decode cX10_strip 43 = .ok (.aload_n 0, 1) := by decide +kernel
theorem dX10_strip_44 : decode cX10_strip 44 = .ok (.iload 5, 2) := by decide +kernel
theorem dX10_strip_46 : decode cX10_strip 46 = .ok (.iload_n 3, 1) := by decide +kernel
theorem dX10_strip_47 : decode cX10_strip 47 = .ok (.iconst 1, 1) := by decide +kernel
theorem dX10_strip_48 : decode cX10_strip 48 = .ok (.isub, 1) := by decide +kernel
theorem dX10_strip_49 : decode cX10_strip 49 = .ok (.bipush 15, 2) := by decide +kernel
theorem dX10_strip_51 : decode cX10_strip 51 = .ok (.invokestatic 21, 3) := by decide +kernel
theorem dX10_strip_54 : decode cX10_strip 54 = .ok (.invokestatic 21, 3) := by decide +kernel
theorem dX10_strip_57 : decode cX10_strip 57 = .ok (.putfield 27, 3) := by decide +kernel
theorem dX10_strip_60 : decode cX10_strip 60 = .ok (.aload_n 0, 1) := by decide +kernel
theorem dX10_strip_61 : decode cX10_strip 61 = .ok (.iload_n 2, 1) := by decide +kernel
theorem dX10_strip_62 : decode cX10_strip 62 = .ok (.putfield 31, 3) := by decide +kernel
theorem dX10_strip_65 : decode cX10_strip 65 = .ok (.aload_n 0, 1) := by decide +kernel
theorem dX10_strip_66 : decode cX10_strip 66 = .ok (.iload_n 3, 1) := by decide +kernel
theorem dX10_strip_67 : decode cX10_strip 67 = .ok (.aload_n 0, 1) := by decide +kernel
theorem dX10_strip_68 : decode cX10_strip 68 = .ok (.getfield 27, 3) := by decide +kernel
theorem dX10_strip_71 : decode cX10_strip 71 = .ok (.isub, 1) := by decide +kernel
theorem dX10_strip_72 : decode cX10_strip 72 = .ok (.putfield 34, 3) := by decide +kernel
theorem dX10_strip_75 : decode cX10_strip 75 = .ok (.iconst 0, 1) := by decide +kernel
theorem dX10_strip_76 : decode cX10_strip 76 = .ok (.istore 6, 2) := by decide +kernel
theorem dX10_strip_78 : decode cX10_strip 78 = .ok (.iload 6, 2) := by decide +kernel
theorem dX10_strip_80 : decode cX10_strip 80 = .ok (.iload_n 2, 1) := by decide +kernel
theorem dX10_strip_81 : decode cX10_strip 81 = .ok (.if_icmp .ge 25, 3) := by decide +kernel
theorem dX10_strip_84 : decode cX10_strip 84 = .ok (.aload_n 0, 1) := by decide +kernel
theorem dX10_strip_85 : decode cX10_strip 85 = .ok (.getfield 9, 3) := by decide +kernel
theorem dX10_strip_88 : decode cX10_strip 88 = .ok (.iload 6, 2) := by decide +kernel
theorem dX10_strip_90 : decode cX10_strip 90 = .ok (.aload_n 1, 1) := by decide +kernel
theorem dX10_strip_91 : decode cX10_strip 91 = .ok (.iload 6, 2) := by decide +kernel
theorem dX10_strip_93 : decode cX10_strip 93 = .ok (.iaload, 1) := by decide +kernel
theorem dX10_strip_94 : decode cX10_strip 94 = .ok (.aload_n 0, 1) := by decide +kernel
theorem dX10_strip_95 : decode cX10_strip 95 = .ok (.getfield 27, 3) := by decide +kernel
theorem dX10_strip_98 : decode cX10_strip 98 = .ok (.ishr, 1) := by decide +kernel
theorem dX10_strip_99 : decode cX10_strip 99 = .ok (.iastore, 1) := by decide +kernel
theorem dX10_strip_100 : decode cX10_strip 100 = .ok (.iinc 6 1, 3) := by decide +kernel
theorem dX10_strip_103 : decode cX10_strip 103 = .ok (.goto (-25), 3) := by decide +kernel
theorem dX10_strip_106 : decode cX10_strip 106 = .ok (.return_, 1) := by decide +kernel
theorem dX10_areAlike_0 : decode cX10_areAlike 0 = .ok (.iconst 1, 1) := by decide +kernel
theorem dX10_areAlike_1 : decode cX10_areAlike 1 = .ok (.istore_n 1, 1) := by decide +kernel
theorem dX10_areAlike_2 : decode cX10_areAlike 2 = .ok (.iload_n 1, 1) := by decide +kernel
theorem dX10_areAlike_3 : decode cX10_areAlike 3 = .ok (.aload_n 0, 1) := by decide +kernel
theorem dX10_areAlike_4 : decode cX10_areAlike 4 = .ok (.getfield 31, 3) := by decide +kernel
theorem dX10_areAlike_7 : decode cX10_areAlike 7 = .ok (.if_icmp .ge 26, 3) := by decide +kernel
theorem dX10_areAlike_10 : decode cX10_areAlike 10 = .ok (.aload_n 0, 1) := by decide +kernel
theorem dX10_areAlike_11 : decode cX10_areAlike 11 = .ok (.getfield 9, 3) := by decide +kernel
theorem dX10_areAlike_14 : decode cX10_areAlike 14 = .ok (.iload_n 1, 1) := by decide +kernel
theorem dX10_areAlike_15 : decode cX10_areAlike 15 = .ok (.iaload, 1) := by decide +kernel
theorem dX10_areAlike_16 : decode cX10_areAlike 16 = .ok (.aload_n 0, 1) := by decide +kernel
theorem dX10_areAlike_17 : decode cX10_areAlike 17 = .ok (.getfield 9, 3) := by decide +kernel
theorem dX10_areAlike_20 : decode cX10_areAlike 20 = .ok (.iconst 0, 1) := by decide +kernel
theorem dX10_areAlike_21 : decode cX10_areAlike 21 = .ok (.iaload, 1) := by decide +kernel
theorem dX10_areAlike_22 : decode cX10_areAlike 22 = .ok (.if_icmp .eq 5, 3) := by decide +kernel
theorem dX10_areAlike_25 : decode cX10_areAlike 25 = .ok (.iconst 0, 1) := by decide +kernel
theorem dX10_areAlike_26 : decode cX10_areAlike 26 = .ok (.ireturn, 1) := by decide +kernel
theorem dX10_areAlike_27 : decode cX10_areAlike 27 = .ok (.iinc 1 1, 3) := by decide +kernel
theorem dX10_areAlike_30 : decode cX10_areAlike 30 = .ok (.goto (-28), 3) := by decide +kernel
theorem dX10_areAlike_33 : decode cX10_areAlike 33 = .ok (.iconst 1, 1) := by decide +kernel
theorem dX10_areAlike_34 : decode cX10_areAlike 34 = .ok (.ireturn, 1) := by decide +kernel
theorem dX10_foldedRest_0 : decode cX10_foldedRest 0 = .ok (.aload_n 0, 1) := by decide +kernel
theorem dX10_foldedRest_1 : decode cX10_foldedRest 1 = .ok (.getfield 9, 3) := by decide +kernel
theorem dX10_foldedRest_4 : decode cX10_foldedRest 4 = .ok (.iload_n 2, 1) := by decide +kernel
theorem dX10_foldedRest_5 : decode cX10_foldedRest 5 = .ok (.iaload, 1) := by decide +kernel
theorem dX10_foldedRest_6 : decode cX10_foldedRest 6 = .ok (.aload_n 1, 1) := by decide +kernel
theorem dX10_foldedRest_7 : decode cX10_foldedRest 7 = .ok (.aload_n 0, 1) := by decide +kernel
theorem dX10_foldedRest_8 : decode cX10_foldedRest 8 = .ok (.getfield 9, 3) := by decide +kernel
theorem dX10_foldedRest_11 : decode cX10_foldedRest 11 = .ok (.iload_n 2, 1) := by decide +kernel
theorem dX10_foldedRest_12 : decode cX10_foldedRest 12 = .ok (.invokevirtual 37, 3) := by decide +kernel
theorem dX10_foldedRest_15 : decode cX10_foldedRest 15 = .ok (.isub, 1) := by decide +kernel
theorem dX10_foldedRest_16 : decode cX10_foldedRest 16 = .ok (.istore_n 3, 1) := by decide +kernel
theorem dX10_foldedRest_17 : decode cX10_foldedRest 17 = .ok (.iload_n 3, 1) := by decide +kernel
theorem dX10_foldedRest_18 : decode cX10_foldedRest 18 = .ok (.ifCond .ge 12, 3) := by decide +kernel
theorem dX10_foldedRest_21 : decode cX10_foldedRest 21 = .ok (.bipush (-2), 2) := by decide +kernel
theorem dX10_foldedRest_23 : decode cX10_foldedRest 23 = .ok (.iload_n 3, 1) := by decide +kernel
theorem dX10_foldedRest_24 : decode cX10_foldedRest 24 = .ok (.imul, 1) := by decide +kernel
theorem dX10_foldedRest_25 : decode cX10_foldedRest 25 = .ok (.iconst 1, 1) := by decide +kernel
theorem dX10_foldedRest_26 : decode cX10_foldedRest 26 = .ok (.isub, 1) := by decide +kernel
theorem dX10_foldedRest_27 : decode cX10_foldedRest 27 = .ok (.goto 6, 3) := by decide +kernel
theorem dX10_foldedRest_30 : decode cX10_foldedRest 30 = .ok (.iconst 2, 1) := by decide +kernel
theorem dX10_foldedRest_31 : decode cX10_foldedRest 31 = .ok (.iload_n 3, 1) := by decide +kernel
theorem dX10_foldedRest_32 : decode cX10_foldedRest 32 = .ok (.imul, 1) := by decide +kernel
theorem dX10_foldedRest_33 : decode cX10_foldedRest 33 = .ok (.ireturn, 1) := by decide +kernel
theorem dX11_init_0 : decode cX11_init 0 = .ok (.aload_n 0, 1) := by decide +kernel
theorem dX11_init_1 : decode cX11_init 1 = .ok (.invokespecial 1, 3) := by decide +kernel
theorem dX11_init_4 : decode cX11_init 4 = .ok (.aload_n 0, 1) := by decide +kernel
theorem dX11_init_5 : decode cX11_init 5 = .ok (.iconst 2, 1) := by decide +kernel
theorem dX11_init_6 : decode cX11_init 6 = .ok (.sipush 400, 3) := by decide +kernel
theorem dX11_init_9 : decode cX11_init 9 = .ok (.multianewarray 9 2, 4) := by decide +kernel
theorem dX11_init_13 : decode cX11_init 13 = .ok (.putfield 11, 3) := by decide +kernel
theorem dX11_init_16 : decode cX11_init 16 = .ok (.aload_n 0, 1) := by decide +kernel
theorem dX11_init_17 : decode cX11_init 17 = .ok (.iconst 2, 1) := by decide +kernel
theorem dX11_init_18 : decode cX11_init 18 = .ok (.newarray .int, 2) := by decide +kernel
theorem dX11_init_20 : decode cX11_init 20 = .ok (.putfield 14, 3) := by decide +kernel
theorem dX11_init_23 : decode cX11_init 23 = .ok (.aload_n 0, 1) := by decide +kernel
theorem dX11_init_24 : decode cX11_init 24 = .ok (.bipush 16, 2) := by decide +kernel
theorem dX11_init_26 : decode cX11_init 26 = .ok (.putfield 18, 3) := by decide +kernel
theorem dX11_init_29 : decode cX11_init 29 = .ok (.aload_n 0, 1) := by decide +kernel
theorem dX11_init_30 : decode cX11_init 30 = .ok (.new 22, 3) := by decide +kernel
theorem dX11_init_33 : decode cX11_init 33 = .ok (.dup, 1) := by decide +kernel
theorem dX11_init_34 : decode cX11_init 34 = .ok (.invokespecial 24, 3) := by decide +kernel
theorem dX11_init_37 : decode cX11_init 37 = .ok (.putfield 25, 3) := by decide +kernel
theorem dX11_init_40 : decode cX11_init 40 = .ok (.aload_n 0, 1) := by decide +kernel
theorem dX11_init_41 : decode cX11_init 41 = .ok (.new 29, 3) := by decide +kernel
theorem dX11_init_44 : decode cX11_init 44 = .ok (.dup, 1) := by decide +kernel
theorem dX11_init_45 : decode cX11_init 45 = .ok (.invokespecial 31, 3) := by decide +kernel
theorem dX11_init_48 : decode cX11_init 48 = .ok (.putfield 32, 3) := by decide +kernel
theorem dX11_init_51 : decode cX11_init 51 = .ok (.aload_n 0, 1) := by decide +kernel
theorem dX11_init_52 : decode cX11_init 52 = .ok (.new 36, 3) := by decide +kernel
theorem dX11_init_55 : decode cX11_init 55 = .ok (.dup, 1) := by decide +kernel
theorem dX11_init_56 : decode cX11_init 56 = .ok (.aload_n 0, 1) := by decide +kernel
theorem dX11_init_57 : decode cX11_init 57 = .ok (.getfield 11, 3) := by decide +kernel
theorem dX11_init_60 : decode cX11_init 60 = .ok (.aload_n 0, 1) := by decide +kernel
theorem dX11_init_61 : decode cX11_init 61 = .ok (.getfield 25, 3) := by decide +kernel
theorem dX11_init_64 : decode cX11_init 64 = .ok (.aload_n 0, 1) := by decide +kernel
theorem dX11_init_65 : decode cX11_init 65 = .ok (.getfield 32, 3) := by decide +kernel
theorem dX11_init_68 : decode cX11_init 68 = .ok (.invokespecial 38, 3) := by decide +kernel
theorem dX11_init_71 : decode cX11_init 71 = .ok (.putfield 41, 3) := by decide +kernel
theorem dX11_init_74 : decode cX11_init 74 = .ok (.aload_n 0, 1) := by decide +kernel
theorem dX11_init_75 : decode cX11_init 75 = .ok (.new 45, 3) := by decide +kernel
theorem dX11_init_78 : decode cX11_init 78 = .ok (.dup, 1) := by decide +kernel
theorem dX11_init_79 : decode cX11_init 79 = .ok (.invokespecial 47, 3) := by decide +kernel
theorem dX11_init_82 : decode cX11_init 82 = .ok (.putfield 48, 3) := by decide +kernel
theorem dX11_init_85 : decode cX11_init 85 = .ok (.aload_n 0, 1) := by decide +kernel
theorem dX11_init_86 : decode cX11_init 86 = .ok (.new 52, 3) := by decide +kernel
theorem dX11_init_89 : decode cX11_init 89 = .ok (.dup, 1) := by decide +kernel
theorem dX11_init_90 : decode cX11_init 90 = .ok (.aload_n 0, 1) := by decide +kernel
theorem dX11_init_91 : decode cX11_init 91 = .ok (.getfield 32, 3) := by decide +kernel
theorem dX11_init_94 : decode cX11_init 94 = .ok (.invokespecial 54, 3) := by decide +kernel
theorem dX11_init_97 : decode cX11_init 97 = .ok (.putfield 57, 3) := by decide +kernel
theorem dX11_init_100 : decode cX11_init 100 = .ok (.aload_n 0, 1) := by decide +kernel
theorem dX11_init_101 : decode cX11_init 101 = .ok (.new 61, 3) := by decide +kernel
theorem dX11_init_104 : decode cX11_init 104 = .ok (.dup, 1) := by decide +kernel
theorem dX11_init_105 : decode cX11_init 105 = .ok (.invokespecial 63, 3) := by decide +kernel
theorem dX11_init_108 : decode cX11_init 108 = .ok (.putfield 64, 3) := by decide +kernel
theorem dX11_init_111 : decode cX11_init 111 = .ok (.aload_n 0, 1) := by decide +kernel
theorem dX11_init_112 : decode cX11_init 112 = .ok (.new 61, 3) := by decide +kernel
theorem dX11_init_115 : decode cX11_init 115 = .ok (.dup, 1) := by decide +kernel
theorem dX11_init_116 : decode cX11_init 116 = .ok (.invokespecial 63, 3) := by decide +kernel
theorem dX11_init_119 : decode cX11_init 119 = .ok (.putfield 68, 3) := by decide +kernel
theorem dX11_init_122 : decode cX11_init 122 = .ok (.return_, 1) := by decide +kernel
theorem dX11_depth_0 : decode cX11_depth 0 = .ok (.iload_n 1, 1) := by decide +kernel
theorem dX11_depth_1 : decode cX11_depth 1 = .ok (.iconst 1, 1) := by decide +kernel
theorem dX11_depth_2 : decode cX11_depth 2 = .ok (.if_icmp .lt 9, 3) := by decide +kernel
theorem dX11_depth_5 : decode cX11_depth 5 = .ok (.iload_n 1, 1) := by decide +kernel
theorem dX11_depth_6 : decode cX11_depth 6 = .ok (.bipush 16, 2) := by decide +kernel
theorem dX11_depth_8 : decode cX11_depth 8 = .ok (.if_icmp .le 6, 3) := by decide +kernel
theorem dX11_depth_11 : decode cX11_depth 11 = .ok (.bipush (-2), 2) := by decide +kernel
theorem dX11_depth_13 : decode cX11_depth 13 = .ok (.ireturn, 1) := by decide +kernel
theorem dX11_depth_14 : decode cX11_depth 14 = .ok (.aload_n 0, 1) := by decide +kernel
theorem dX11_depth_15 : decode cX11_depth 15 = .ok (.getfield 14, 3) := by decide +kernel
theorem dX11_depth_18 : decode cX11_depth 18 = .ok (.iconst 0, 1) := by decide +kernel
theorem dX11_depth_19 : decode cX11_depth 19 = .ok (.iaload, 1) := by decide +kernel
theorem dX11_depth_20 : decode cX11_depth 20 = .ok (.ifCond .ne 12, 3) := by decide +kernel
theorem dX11_depth_23 : decode cX11_depth 23 = .ok (.aload_n 0, 1) := by decide +kernel
theorem dX11_depth_24 : decode cX11_depth 24 = .ok (.getfield 14, 3) := by decide +kernel
theorem dX11_depth_27 : decode cX11_depth 27 = .ok (.iconst 1, 1) := by decide +kernel
theorem dX11_depth_28 : decode cX11_depth 28 = .ok (.iaload, 1) := by decide +kernel
theorem dX11_depth_29 : decode cX11_depth 29 = .ok (.ifCond .eq 6, 3) := by decide +kernel
theorem dX11_depth_32 : decode cX11_depth 32 = .ok (.bipush (-3), 2) := by decide +kernel
theorem dX11_depth_34 : decode cX11_depth 34 = .ok (.ireturn, 1) := by decide +kernel
theorem dX11_depth_35 : decode cX11_depth 35 = .ok (.aload_n 0, 1) := by decide +kernel
theorem dX11_depth_36 : decode cX11_depth 36 = .ok (.getfield 18, 3) := by decide +kernel
theorem dX11_depth_39 : decode cX11_depth 39 = .ok (.istore_n 2, 1) := by decide +kernel
theorem dX11_depth_40 : decode cX11_depth 40 = .ok (.aload_n 0, 1) := by decide +kernel
theorem dX11_depth_41 : decode cX11_depth 41 = .ok (.iload_n 1, 1) := by decide +kernel
theorem dX11_depth_42 : decode cX11_depth 42 = .ok (.putfield 18, 3) := by decide +kernel
theorem dX11_depth_45 : decode cX11_depth 45 = .ok (.iload_n 2, 1) := by decide +kernel
theorem dX11_depth_46 : decode cX11_depth 46 = .ok (.ireturn, 1) := by decide +kernel
theorem dX11_sample_0 : decode cX11_sample 0 = .ok (.iload_n 1, 1) := by decide +kernel
theorem dX11_sample_1 : decode cX11_sample 1 = .ok (.invokestatic 71, 3) := by decide +kernel
theorem dX11_sample_4 : decode cX11_sample 4 = .ok (.ifCond .eq 14, 3) := by decide +kernel
theorem dX11_sample_7 : decode cX11_sample 7 = .ok (.iload_n 2, 1) := by decide +kernel
theorem dX11_sample_8 : decode cX11_sample 8 = .ok (.aload_n 0, 1) := by decide +kernel
theorem dX11_sample_9 : decode cX11_sample 9 = .ok (.getfield 18, 3) := by decide +kernel
theorem dX11_sample_12 : decode cX11_sample 12 = .ok (.invokestatic 75, 3) := by decide +kernel
theorem dX11_sample_15 : decode cX11_sample 15 = .ok (.ifCond .ne 6, 3) := by decide +kernel
theorem dX11_sample_18 : decode cX11_sample 18 = .ok (.bipush (-2), 2) := by decide +kernel
theorem dX11_sample_20 : decode cX11_sample 20 = .ok (.ireturn, 1) := by decide +kernel
theorem dX11_sample_21 : decode cX11_sample 21 = .ok (.aload_n 0, 1) := by decide +kernel
theorem dX11_sample_22 : decode cX11_sample 22 = .ok (.getfield 14, 3) := by decide +kernel
theorem dX11_sample_25 : decode cX11_sample 25 = .ok (.iload_n 1, 1) := by decide +kernel
theorem dX11_sample_26 : decode cX11_sample 26 = .ok (.iaload, 1) := by decide +kernel
theorem dX11_sample_27 : decode cX11_sample 27 = .ok (.istore_n 3, 1) := by decide +kernel
theorem dX11_sample_28 : decode cX11_sample 28 = .ok (.iload_n 3, 1) := by decide +kernel
theorem dX11_sample_29 : decode cX11_sample 29 = .ok (.sipush 400, 3) := by decide +kernel
theorem dX11_sample_32 : decode cX11_sample 32 = .ok (.if_icmp .lt 6, 3) := by decide +kernel
theorem dX11_sample_35 : decode cX11_sample 35 = .ok (.bipush (-4), 2) := by decide +kernel
theorem dX11_sample_37 : decode cX11_sample 37 = .ok (.ireturn, 1) := by decide +kernel
theorem dX11_sample_38 : decode cX11_sample 38 = .ok (.aload_n 0, 1) := by decide +kernel
theorem dX11_sample_39 : decode cX11_sample 39 = .ok (.getfield 11, 3) := by decide +kernel
theorem dX11_sample_42 : decode cX11_sample 42 = .ok (.iload_n 1, 1) := by decide +kernel
theorem dX11_sample_43 : decode cX11_sample 43 = .ok (.aaload, 1) := by decide +kernel
theorem dX11_sample_44 : decode cX11_sample 44 = .ok (.iload_n 3, 1) := by decide +kernel
theorem dX11_sample_45 : decode cX11_sample 45 = .ok (.iload_n 2, 1) := by decide +kernel
theorem dX11_sample_46 : decode cX11_sample 46 = .ok (.iastore, 1) := by decide +kernel
theorem dX11_sample_47 : decode cX11_sample 47 = .ok (.aload_n 0, 1) := by decide +kernel
theorem dX11_sample_48 : decode cX11_sample 48 = .ok (.getfield 14, 3) := by decide +kernel
theorem dX11_sample_51 : decode cX11_sample 51 = .ok (.iload_n 1, 1) := by decide +kernel
theorem dX11_sample_52 : decode cX11_sample 52 = .ok (.iload_n 3, 1) := by decide +kernel
theorem dX11_sample_53 : decode cX11_sample 53 = .ok (.iconst 1, 1) := by decide +kernel
theorem dX11_sample_54 : decode cX11_sample 54 = .ok (.iadd, 1) := by decide +kernel
theorem dX11_sample_55 : decode cX11_sample 55 = .ok (.iastore, 1) := by decide +kernel
theorem dX11_sample_56 : decode cX11_sample 56 = .ok (.iload_n 3, 1) := by decide +kernel
theorem dX11_sample_57 : decode cX11_sample 57 = .ok (.iconst 1, 1) := by decide +kernel
theorem dX11_sample_58 : decode cX11_sample 58 = .ok (.iadd, 1) := by decide +kernel
theorem dX11_sample_59 : decode cX11_sample 59 = .ok (.ireturn, 1) := by decide +kernel
theorem dX11_drop_0 : decode cX11_drop 0 = .ok (.iload_n 1, 1) := by decide +kernel
theorem dX11_drop_1 : decode cX11_drop 1 = .ok (.invokestatic 71, 3) := by decide +kernel
theorem dX11_drop_4 : decode cX11_drop 4 = .ok (.ifCond .ne 6, 3) := by decide +kernel
theorem dX11_drop_7 : decode cX11_drop 7 = .ok (.bipush (-2), 2) := by decide +kernel
theorem dX11_drop_9 : decode cX11_drop 9 = .ok (.ireturn, 1) := by decide +kernel
theorem dX11_drop_10 : decode cX11_drop 10 = .ok (.aload_n 0, 1) := by decide +kernel
theorem dX11_drop_11 : decode cX11_drop 11 = .ok (.getfield 14, 3) := by decide +kernel
theorem dX11_drop_14 : decode cX11_drop 14 = .ok (.iload_n 1, 1) := by decide +kernel
theorem dX11_drop_15 : decode cX11_drop 15 = .ok (.iaload, 1) := by decide +kernel
theorem dX11_drop_16 : decode cX11_drop 16 = .ok (.istore_n 2, 1) := by decide +kernel
theorem dX11_drop_17 : decode cX11_drop 17 = .ok (.aload_n 0, 1) := by decide +kernel
theorem dX11_drop_18 : decode cX11_drop 18 = .ok (.getfield 14, 3) := by decide +kernel
theorem dX11_drop_21 : decode cX11_drop 21 = .ok (.iload_n 1, 1) := by decide +kernel
theorem dX11_drop_22 : decode cX11_drop 22 = .ok (.iconst 0, 1) := by decide +kernel
theorem dX11_drop_23 : decode cX11_drop 23 = .ok (.iastore, 1) := by decide +kernel
theorem dX11_drop_24 : decode cX11_drop 24 = .ok (.iload_n 2, 1) := by decide +kernel
theorem dX11_drop_25 : decode cX11_drop 25 = .ok (.ireturn, 1) := by decide +kernel
theorem dX11_coefficients_0 : decode cX11_coefficients 0 = .ok (.iload_n 1, 1) := by decide +kernel
theorem dX11_coefficients_1 : decode cX11_coefficients 1 = .ok (.ifCond .lt 8, 3) := by decide +kernel
theorem dX11_coefficients_4 : decode cX11_coefficients 4 = .ok (.iload_n 1, 1) := by decide +kernel
theorem dX11_coefficients_5 : decode cX11_coefficients 5 = .ok (.iconst 4, 1) := by decide +kernel
theorem dX11_coefficients_6 : decode cX11_coefficients 6 = .ok (.if_icmp .le 6, 3) := by decide +kernel
theorem dX11_coefficients_9 : decode cX11_coefficients 9 = .ok (.bipush (-2), 2) := by decide +kernel
theorem dX11_coefficients_11 : decode cX11_coefficients 11 = .ok (.ireturn, 1) := by decide +kernel
theorem dX11_coefficients_12 : decode cX11_coefficients 12 = .ok (.iload_n 1, 1) := by decide +kernel
theorem dX11_coefficients_13 : decode cX11_coefficients 13 = .ok (.ifCond .eq 16, 3) := by decide +kernel
theorem dX11_coefficients_16 : decode cX11_coefficients 16 = .ok (.iload_n 2, 1) := by decide +kernel
theorem dX11_coefficients_17 : decode cX11_coefficients 17 = .ok (.ifCond .lt 9, 3) := by decide +kernel
theorem dX11_coefficients_20 : decode cX11_coefficients 20 = .ok (.iload_n 2, 1) := by decide +kernel
theorem dX11_coefficients_21 : decode cX11_coefficients 21 = .ok (.bipush 15, 2) := by decide +kernel
theorem dX11_coefficients_23 : decode cX11_coefficients 23 = .ok (.if_icmp .le 6, 3) := by decide +kernel
theorem dX11_coefficients_26 : decode cX11_coefficients 26 = .ok (.bipush (-2), 2) := by decide +kernel
theorem dX11_coefficients_28 : decode cX11_coefficients 28 = .ok (.ireturn, 1) := by decide +kernel
theorem dX11_coefficients_29 : decode cX11_coefficients 29 = .ok (.aload_n 0, 1) := by decide +kernel
theorem dX11_coefficients_30 : decode cX11_coefficients 30 = .ok (.getfield 25, 3) := by decide +kernel
theorem dX11_coefficients_33 : decode cX11_coefficients 33 = .ok (.getfield 79, 3) := by decide +kernel
theorem dX11_coefficients_36 : decode cX11_coefficients 36 = .ok (.istore 5, 2) := by decide +kernel
theorem dX11_coefficients_38 : decode cX11_coefficients 38 = .ok (.aload_n 0, 1) := by decide +kernel
theorem dX11_coefficients_39 : decode cX11_coefficients 39 = .ok (.getfield 25, 3) := by decide +kernel
theorem dX11_coefficients_42 : decode cX11_coefficients 42 = .ok (.iload_n 1, 1) := by decide +kernel
theorem dX11_coefficients_43 : decode cX11_coefficients 43 = .ok (.iload_n 2, 1) := by decide +kernel
theorem dX11_coefficients_44 : decode cX11_coefficients 44 = .ok (.lload_n 3, 1) := by decide +kernel
theorem dX11_coefficients_45 : decode cX11_coefficients 45 = .ok (.invokevirtual 82, 3) := by decide +kernel
theorem dX11_coefficients_48 : decode cX11_coefficients 48 = .ok (.iload 5, 2) := by decide +kernel
theorem dX11_coefficients_50 : decode cX11_coefficients 50 = .ok (.ireturn, 1) := by decide +kernel
theorem dX11_pack_0 : decode cX11_pack 0 = .ok (.aload_n 0, 1) := by decide +kernel
theorem dX11_pack_1 : decode cX11_pack 1 = .ok (.getfield 14, 3) := by decide +kernel
theorem dX11_pack_4 : decode cX11_pack 4 = .ok (.iconst 0, 1) := by decide +kernel
theorem dX11_pack_5 : decode cX11_pack 5 = .ok (.iaload, 1) := by decide +kernel
theorem dX11_pack_6 : decode cX11_pack 6 = .ok (.istore_n 1, 1) := by decide +kernel
theorem dX11_pack_7 : decode cX11_pack 7 = .ok (.iload_n 1, 1) := by decide +kernel
theorem dX11_pack_8 : decode cX11_pack 8 = .ok (.ifCond .eq 22, 3) := by decide +kernel
theorem dX11_pack_11 : decode cX11_pack 11 = .ok (.aload_n 0, 1) := by decide +kernel
theorem dX11_pack_12 : decode cX11_pack 12 = .ok (.getfield 14, 3) := by decide +kernel
theorem dX11_pack_15 : decode cX11_pack 15 = .ok (.iconst 1, 1) := by decide +kernel
theorem dX11_pack_16 : decode cX11_pack 16 = .ok (.iaload, 1) := by decide +kernel
theorem dX11_pack_17 : decode cX11_pack 17 = .ok (.ifCond .eq 16, 3) := by decide +kernel
theorem dX11_pack_20 : decode cX11_pack 20 = .ok (.aload_n 0, 1) := by decide +kernel
theorem dX11_pack_21 : decode cX11_pack 21 = .ok (.getfield 14, 3) := by decide +kernel
theorem dX11_pack_24 : decode cX11_pack 24 = .ok (.iconst 1, 1) := by decide +kernel
theorem dX11_pack_25 : decode cX11_pack 25 = .ok (.iaload, 1) := by decide +kernel
theorem dX11_pack_26 : decode cX11_pack 26 = .ok (.iload_n 1, 1) := by decide +kernel
theorem dX11_pack_27 : decode cX11_pack 27 = .ok (.if_icmp .eq 6, 3) := by decide +kernel
theorem dX11_pack_30 : decode cX11_pack 30 = .ok (.bipush (-3), 2) := by decide +kernel
theorem dX11_pack_32 : decode cX11_pack 32 = .ok (.ireturn, 1) := by decide +kernel
theorem dX11_pack_33 : decode cX11_pack 33 = .ok (.aload_n 0, 1) := by decide +kernel
theorem dX11_pack_34 : decode cX11_pack 34 = .ok (.getfield 41, 3) := by decide +kernel
theorem dX11_pack_37 : decode cX11_pack 37 = .ok (.iload_n 1, 1) := by decide +kernel
theorem dX11_pack_38 : decode cX11_pack 38 = .ok (.aload_n 0, 1) := by decide +kernel
theorem dX11_pack_39 : decode cX11_pack 39 = .ok (.getfield 14, 3) := by decide +kernel
theorem dX11_pack_42 : decode cX11_pack 42 = .ok (.iconst 1, 1) := by decide +kernel
theorem dX11_pack_43 : decode cX11_pack 43 = .ok (.iaload, 1) := by decide +kernel
theorem dX11_pack_44 : decode cX11_pack 44 = .ok (.ifCond .ne 7, 3) := by decide +kernel
theorem dX11_pack_47 : decode cX11_pack 47 = .ok (.iconst 1, 1) := by decide +kernel
theorem dX11_pack_48 : decode cX11_pack 48 = .ok (.goto 4, 3) := by decide +kernel
theorem dX11_pack_51 : decode cX11_pack 51 = .ok (.iconst 2, 1) := by decide +kernel
theorem dX11_pack_52 : decode cX11_pack 52 = .ok (.aload_n 0, 1) := by decide +kernel
theorem dX11_pack_53 : decode cX11_pack 53 = .ok (.getfield 18, 3) := by decide +kernel
theorem dX11_pack_56 : decode cX11_pack 56 = .ok (.invokevirtual 86, 3) := by decide +kernel
theorem dX11_pack_59 : decode cX11_pack 59 = .ok (.aload_n 0, 1) := by decide +kernel
theorem dX11_pack_60 : decode cX11_pack 60 = .ok (.getfield 32, 3) := by decide +kernel
theorem dX11_pack_63 : decode cX11_pack 63 = .ok (.getfield 90, 3) := by decide +kernel
theorem dX11_pack_66 : decode cX11_pack 66 = .ok (.istore_n 2, 1) := by decide +kernel
theorem dX11_pack_67 : decode cX11_pack 67 = .ok (.iload_n 2, 1) := by decide +kernel
theorem dX11_pack_68 : decode cX11_pack 68 = .ok (.aload_n 0, 1) := by decide +kernel
theorem dX11_pack_69 : decode cX11_pack 69 = .ok (.getfield 41, 3) := by decide +kernel
theorem dX11_pack_72 : decode cX11_pack 72 = .ok (.getfield 93, 3) := by decide +kernel
theorem dX11_pack_75 : decode cX11_pack 75 = .ok (.invokestatic 96, 3) := by decide +kernel
theorem dX11_pack_78 : decode cX11_pack 78 = .ok (.iadd, 1) := by decide +kernel
theorem dX11_pack_79 : decode cX11_pack 79 = .ok (.sipush 2400, 3) := by decide +kernel
theorem dX11_pack_82 : decode cX11_pack 82 = .ok (.if_icmp .le 6, 3) := by decide +kernel
theorem dX11_pack_85 : decode cX11_pack 85 = .ok (.bipush (-4), 2) := by decide +kernel
theorem dX11_pack_87 : decode cX11_pack 87 = .ok (.ireturn, 1) := by decide +kernel
theorem dX11_pack_88 : decode cX11_pack 88 = .ok (.aload_n 0, 1) := by decide +kernel
theorem dX11_pack_89 : decode cX11_pack 89 = .ok (.getfield 41, 3) := by decide +kernel
theorem dX11_pack_92 : decode cX11_pack 92 = .ok (.invokevirtual 100, 3) := by decide +kernel
theorem dX11_pack_95 : decode cX11_pack 95 = .ok (.aload_n 0, 1) := by decide +kernel
theorem dX11_pack_96 : decode cX11_pack 96 = .ok (.getfield 48, 3) := by decide +kernel
theorem dX11_pack_99 : decode cX11_pack 99 = .ok (.aload_n 0, 1) := by decide +kernel
theorem dX11_pack_100 : decode cX11_pack 100 = .ok (.getfield 41, 3) := by decide +kernel
theorem dX11_pack_103 : decode cX11_pack 103 = .ok (.invokevirtual 103, 3) := by decide +kernel
theorem dX11_pack_106 : decode cX11_pack 106 = .ok (.iload_n 2, 1) := by decide +kernel
theorem dX11_pack_107 : decode cX11_pack 107 = .ok (.ireturn, 1) := by decide +kernel
theorem dX11_told_0 : decode cX11_told 0 = .ok (.iload_n 1, 1) := by decide +kernel
theorem dX11_told_1 : decode cX11_told 1 = .ok (.ifCond .lt 8, 3) := by decide +kernel
theorem dX11_told_4 : decode cX11_told 4 = .ok (.iload_n 1, 1) := by decide +kernel
theorem dX11_told_5 : decode cX11_told 5 = .ok (.iconst 4, 1) := by decide +kernel
theorem dX11_told_6 : decode cX11_told 6 = .ok (.if_icmp .le 6, 3) := by decide +kernel
theorem dX11_told_9 : decode cX11_told 9 = .ok (.bipush (-2), 2) := by decide +kernel
theorem dX11_told_11 : decode cX11_told 11 = .ok (.ireturn, 1) := by decide +kernel
theorem dX11_told_12 : decode cX11_told 12 = .ok (.aload_n 0, 1) := by decide +kernel
theorem dX11_told_13 : decode cX11_told 13 = .ok (.getfield 48, 3) := by decide +kernel
theorem dX11_told_16 : decode cX11_told 16 = .ok (.getfield 107, 3) := by decide +kernel
theorem dX11_told_19 : decode cX11_told 19 = .ok (.ifCond .ne 6, 3) := by decide +kernel
theorem dX11_told_22 : decode cX11_told 22 = .ok (.bipush (-3), 2) := by decide +kernel
theorem dX11_told_24 : decode cX11_told 24 = .ok (.ireturn, 1) := by decide +kernel
theorem dX11_told_25 : decode cX11_told 25 = .ok (.iload_n 1, 1) := by decide +kernel
theorem dX11_told_26 : decode cX11_told 26 = .ok (.tableswitch 62 0 3 #[30, 38, 46, 54], 30) := by decide +kernel
theorem dX11_told_56 : decode cX11_told 56 = .ok (.aload_n 0, 1) := by decide +kernel
theorem dX11_told_57 : decode cX11_told 57 = .ok (.getfield 48, 3) := by decide +kernel
theorem dX11_told_60 : decode cX11_told 60 = .ok (.getfield 107, 3) := by decide +kernel
theorem dX11_told_63 : decode cX11_told 63 = .ok (.ireturn, 1) := by decide +kernel
theorem dX11_told_64 : decode cX11_told 64 = .ok (.aload_n 0, 1) := by decide +kernel
theorem dX11_told_65 : decode cX11_told 65 = .ok (.getfield 48, 3) := by decide +kernel
theorem dX11_told_68 : decode cX11_told 68 = .ok (.getfield 110, 3) := by decide +kernel
theorem dX11_told_71 : decode cX11_told 71 = .ok (.ireturn, 1) := by decide +kernel
theorem dX11_told_72 : decode cX11_told 72 = .ok (.aload_n 0, 1) := by decide +kernel
theorem dX11_told_73 : decode cX11_told 73 = .ok (.getfield 48, 3) := by decide +kernel
theorem dX11_told_76 : decode cX11_told 76 = .ok (.getfield 113, 3) := by decide +kernel
theorem dX11_told_79 : decode cX11_told 79 = .ok (.ireturn, 1) := by decide +kernel
theorem dX11_told_80 : decode cX11_told 80 = .ok (.aload_n 0, 1) := by decide +kernel
theorem dX11_told_81 : decode cX11_told 81 = .ok (.getfield 48, 3) := by decide +kernel
theorem dX11_told_84 : decode cX11_told 84 = .ok (.getfield 116, 3) := by decide +kernel
theorem dX11_told_87 : decode cX11_told 87 = .ok (.ireturn, 1) := by decide +kernel
theorem dX11_told_88 : decode cX11_told 88 = .ok (.aload_n 0, 1) := by decide +kernel
theorem dX11_told_89 : decode cX11_told 89 = .ok (.getfield 48, 3) := by decide +kernel
theorem dX11_told_92 : decode cX11_told 92 = .ok (.getfield 116, 3) := by decide +kernel
theorem dX11_told_95 : decode cX11_told 95 = .ok (.invokestatic 96, 3) := by decide +kernel
theorem dX11_told_98 : decode cX11_told 98 = .ok (.ireturn, 1) := by decide +kernel
theorem dX11_row_0 : decode cX11_row 0 = .ok (.bipush 10, 2) := by decide +kernel
theorem dX11_row_2 : decode cX11_row 2 = .ok (.iload_n 2, 1) := by decide +kernel
theorem dX11_row_3 : decode cX11_row 3 = .ok (.invokestatic 117, 3) := by decide +kernel
theorem dX11_row_6 : decode cX11_row 6 = .ok (.ifCond .ne 12, 3) := by decide +kernel
theorem dX11_row_9 : decode cX11_row 9 = .ok (.bipush 30, 2) := by decide +kernel
theorem dX11_row_11 : decode cX11_row 11 = .ok (.iload_n 2, 1) := by decide +kernel
theorem dX11_row_12 : decode cX11_row 12 = .ok (.invokestatic 117, 3) := by decide +kernel
theorem dX11_row_15 : decode cX11_row 15 = .ok (.ifCond .eq 7, 3) := by decide +kernel
theorem dX11_row_18 : decode cX11_row 18 = .ok (.iconst 1, 1) := by decide +kernel
theorem dX11_row_19 : decode cX11_row 19 = .ok (.goto 4, 3) := by decide +kernel
theorem dX11_row_22 : decode cX11_row 22 = .ok (.iconst 0, 1) := by decide +kernel
theorem dX11_row_23 : decode cX11_row 23 = .ok (.istore_n 3, 1) := by decide +kernel
theorem dX11_row_24 : decode cX11_row 24 = .ok (.iload_n 1, 1) := by decide +kernel
theorem dX11_row_25 : decode cX11_row 25 = .ok (.invokestatic 71, 3) := by decide +kernel
theorem dX11_row_28 : decode cX11_row 28 = .ok (.ifCond .eq 16, 3) := by decide +kernel
theorem dX11_row_31 : decode cX11_row 31 = .ok (.iload_n 3, 1) := by decide +kernel
theorem dX11_row_32 : decode cX11_row 32 = .ok (.ifCond .ne 15, 3) := by decide +kernel
theorem dX11_row_35 : decode cX11_row 35 = .ok (.iload_n 2, 1) := by decide +kernel
theorem dX11_row_36 : decode cX11_row 36 = .ok (.ifCond .lt 8, 3) := by decide +kernel
theorem dX11_row_39 : decode cX11_row 39 = .ok (.iload_n 2, 1) := by decide +kernel
theorem dX11_row_40 : decode cX11_row 40 = .ok (.iconst 3, 1) := by decide +kernel
theorem dX11_row_41 : decode cX11_row 41 = .ok (.if_icmp .le 6, 3) := by decide +kernel
theorem dX11_row_44 : decode cX11_row 44 = .ok (.bipush (-2), 2) := by decide +kernel
theorem dX11_row_46 : decode cX11_row 46 = .ok (.ireturn, 1) := by decide +kernel
theorem dX11_row_47 : decode cX11_row 47 = .ok (.aload_n 0, 1) := by decide +kernel
theorem dX11_row_48 : decode cX11_row 48 = .ok (.getfield 48, 3) := by decide +kernel
theorem dX11_row_51 : decode cX11_row 51 = .ok (.getfield 107, 3) := by decide +kernel
theorem dX11_row_54 : decode cX11_row 54 = .ok (.ifCond .ne 6, 3) := by decide +kernel
theorem dX11_row_57 : decode cX11_row 57 = .ok (.bipush (-3), 2) := by decide +kernel
theorem dX11_row_59 : decode cX11_row 59 = .ok (.ireturn, 1) := by decide +kernel
theorem dX11_row_60 : decode cX11_row 60 = .ok (.iload_n 1, 1) := by decide +kernel
theorem dX11_row_61 : decode cX11_row 61 = .ok (.aload_n 0, 1) := by decide +kernel
theorem dX11_row_62 : decode cX11_row 62 = .ok (.getfield 48, 3) := by decide +kernel
theorem dX11_row_65 : decode cX11_row 65 = .ok (.getfield 110, 3) := by decide +kernel
theorem dX11_row_68 : decode cX11_row 68 = .ok (.if_icmp .lt 6, 3) := by decide +kernel
theorem dX11_row_71 : decode cX11_row 71 = .ok (.bipush (-2), 2) := by decide +kernel
theorem dX11_row_73 : decode cX11_row 73 = .ok (.ireturn, 1) := by decide +kernel
theorem dX11_row_74 : decode cX11_row 74 = .ok (.iload_n 1, 1) := by decide +kernel
theorem dX11_row_75 : decode cX11_row 75 = .ok (.ifCond .ne 13, 3) := by decide +kernel
theorem dX11_row_78 : decode cX11_row 78 = .ok (.aload_n 0, 1) := by decide +kernel
theorem dX11_row_79 : decode cX11_row 79 = .ok (.getfield 48, 3) := by decide +kernel
theorem dX11_row_82 : decode cX11_row 82 = .ok (.getfield 120, 3) := by decide +kernel
theorem dX11_row_85 : decode cX11_row 85 = .ok (.goto 10, 3) := by decide +kernel
theorem dX11_row_88 : decode cX11_row 88 = .ok (.aload_n 0, 1) := by decide +kernel
theorem dX11_row_89 : decode cX11_row 89 = .ok (.getfield 48, 3) := by decide +kernel
theorem dX11_row_92 : decode cX11_row 92 = .ok (.getfield 124, 3) := by decide +kernel
theorem dX11_row_95 : decode cX11_row 95 = .ok (.astore 4, 2) := by decide +kernel
theorem dX11_row_97 : decode cX11_row 97 = .ok (.iload_n 3, 1) := by decide +kernel
theorem dX11_row_98 : decode cX11_row 98 = .ok (.ifCond .eq 10, 3) := by decide +kernel
theorem dX11_row_101 : decode cX11_row 101 = .ok (.aload 4, 2) := by decide +kernel
theorem dX11_row_103 : decode cX11_row 103 = .ok (.iload_n 2, 1) := by decide +kernel
theorem dX11_row_104 : decode cX11_row 104 = .ok (.invokestatic 127, 3) := by decide +kernel
theorem dX11_row_107 : decode cX11_row 107 = .ok (.ireturn, 1) := by decide +kernel
theorem dX11_row_108 : decode cX11_row 108 = .ok (.iload_n 2, 1) := by decide +kernel
theorem dX11_row_109 : decode cX11_row 109 = .ok (.tableswitch 45 0 2 #[27, 33, 39], 27) := by decide +kernel
theorem dX11_row_136 : decode cX11_row 136 = .ok (.aload 4, 2) := by decide +kernel
theorem dX11_row_138 : decode cX11_row 138 = .ok (.getfield 131, 3) := by decide +kernel
theorem dX11_row_141 : decode cX11_row 141 = .ok (.ireturn, 1) := by decide +kernel
theorem dX11_row_142 : decode cX11_row 142 = .ok (.aload 4, 2) := by decide +kernel
theorem dX11_row_144 : decode cX11_row 144 = .ok (.getfield 136, 3) := by decide +kernel
theorem dX11_row_147 : decode cX11_row 147 = .ok (.ireturn, 1) := by decide +kernel
theorem dX11_row_148 : decode cX11_row 148 = .ok (.aload 4, 2) := by decide +kernel
theorem dX11_row_150 : decode cX11_row 150 = .ok (.getfield 139, 3) := by decide +kernel
theorem dX11_row_153 : decode cX11_row 153 = .ok (.ireturn, 1) := by decide +kernel
theorem dX11_row_154 : decode cX11_row 154 = .ok (.aload 4, 2) := by decide +kernel
theorem dX11_row_156 : decode cX11_row 156 = .ok (.getfield 140, 3) := by decide +kernel
theorem dX11_row_159 : decode cX11_row 159 = .ok (.ireturn, 1) := by decide +kernel
theorem dX11_price_0 : decode cX11_price 0 = .ok (.iload_n 1, 1) := by decide +kernel
theorem dX11_price_1 : decode cX11_price 1 = .ok (.invokestatic 71, 3) := by decide +kernel
theorem dX11_price_4 : decode cX11_price 4 = .ok (.ifCond .eq 22, 3) := by decide +kernel
theorem dX11_price_7 : decode cX11_price 7 = .ok (.iload_n 2, 1) := by decide +kernel
theorem dX11_price_8 : decode cX11_price 8 = .ok (.ifCond .lt 18, 3) := by decide +kernel
theorem dX11_price_11 : decode cX11_price 11 = .ok (.iload_n 2, 1) := by decide +kernel
theorem dX11_price_12 : decode cX11_price 12 = .ok (.bipush 8, 2) := by decide +kernel
theorem dX11_price_14 : decode cX11_price 14 = .ok (.if_icmp .ge 12, 3) := by decide +kernel
theorem dX11_price_17 : decode cX11_price 17 = .ok (.aload_n 0, 1) := by decide +kernel
theorem dX11_price_18 : decode cX11_price 18 = .ok (.getfield 14, 3) := by decide +kernel
theorem dX11_price_21 : decode cX11_price 21 = .ok (.iload_n 1, 1) := by decide +kernel
theorem dX11_price_22 : decode cX11_price 22 = .ok (.iaload, 1) := by decide +kernel
theorem dX11_price_23 : decode cX11_price 23 = .ok (.ifCond .ne 6, 3) := by decide +kernel
theorem dX11_price_26 : decode cX11_price 26 = .ok (.bipush (-2), 2) := by decide +kernel
theorem dX11_price_28 : decode cX11_price 28 = .ok (.ireturn, 1) := by decide +kernel
theorem dX11_price_29 : decode cX11_price 29 = .ok (.aload_n 0, 1) := by decide +kernel
theorem dX11_price_30 : decode cX11_price 30 = .ok (.getfield 41, 3) := by decide +kernel
theorem dX11_price_33 : decode cX11_price 33 = .ok (.getfield 143, 3) := by decide +kernel
theorem dX11_price_36 : decode cX11_price 36 = .ok (.getfield 147, 3) := by decide +kernel
theorem dX11_price_39 : decode cX11_price 39 = .ok (.aload_n 0, 1) := by decide +kernel
theorem dX11_price_40 : decode cX11_price 40 = .ok (.getfield 11, 3) := by decide +kernel
theorem dX11_price_43 : decode cX11_price 43 = .ok (.iload_n 1, 1) := by decide +kernel
theorem dX11_price_44 : decode cX11_price 44 = .ok (.aaload, 1) := by decide +kernel
theorem dX11_price_45 : decode cX11_price 45 = .ok (.aload_n 0, 1) := by decide +kernel
theorem dX11_price_46 : decode cX11_price 46 = .ok (.getfield 14, 3) := by decide +kernel
theorem dX11_price_49 : decode cX11_price 49 = .ok (.iload_n 1, 1) := by decide +kernel
theorem dX11_price_50 : decode cX11_price 50 = .ok (.iaload, 1) := by decide +kernel
theorem dX11_price_51 : decode cX11_price 51 = .ok (.aload_n 0, 1) := by decide +kernel
theorem dX11_price_52 : decode cX11_price 52 = .ok (.getfield 18, 3) := by decide +kernel
theorem dX11_price_55 : decode cX11_price 55 = .ok (.invokevirtual 153, 3) := by decide +kernel
theorem dX11_price_58 : decode cX11_price 58 = .ok (.aload_n 0, 1) := by decide +kernel
theorem dX11_price_59 : decode cX11_price 59 = .ok (.getfield 41, 3) := by decide +kernel
theorem dX11_price_62 : decode cX11_price 62 = .ok (.getfield 143, 3) := by decide +kernel
theorem dX11_price_65 : decode cX11_price 65 = .ok (.iload_n 2, 1) := by decide +kernel
theorem dX11_price_66 : decode cX11_price 66 = .ok (.invokevirtual 159, 3) := by decide +kernel
theorem dX11_price_69 : decode cX11_price 69 = .ok (.istore_n 3, 1) := by decide +kernel
theorem dX11_price_70 : decode cX11_price 70 = .ok (.iload_n 3, 1) := by decide +kernel
theorem dX11_price_71 : decode cX11_price 71 = .ok (.iconst (-1), 1) := by decide +kernel
theorem dX11_price_72 : decode cX11_price 72 = .ok (.if_icmp .ne 8, 3) := by decide +kernel
theorem dX11_price_75 : decode cX11_price 75 = .ok (.bipush (-3), 2) := by decide +kernel
theorem dX11_price_77 : decode cX11_price 77 = .ok (.goto 4, 3) := by decide +kernel
theorem dX11_price_80 : decode cX11_price 80 = .ok (.iload_n 3, 1) := by decide +kernel
theorem dX11_price_81 : decode cX11_price 81 = .ok (.ireturn, 1) := by decide +kernel
theorem dX11_size_0 : decode cX11_size 0 = .ok (.aload_n 0, 1) := by decide +kernel
theorem dX11_size_1 : decode cX11_size 1 = .ok (.getfield 32, 3) := by decide +kernel
theorem dX11_size_4 : decode cX11_size 4 = .ok (.getfield 90, 3) := by decide +kernel
theorem dX11_size_7 : decode cX11_size 7 = .ok (.ireturn, 1) := by decide +kernel
theorem dX11_at_0 : decode cX11_at 0 = .ok (.aload_n 0, 1) := by decide +kernel
theorem dX11_at_1 : decode cX11_at 1 = .ok (.getfield 32, 3) := by decide +kernel
theorem dX11_at_4 : decode cX11_at 4 = .ok (.iload_n 1, 1) := by decide +kernel
theorem dX11_at_5 : decode cX11_at 5 = .ok (.invokevirtual 162, 3) := by decide +kernel
theorem dX11_at_8 : decode cX11_at 8 = .ok (.ifCond .eq 15, 3) := by decide +kernel
theorem dX11_at_11 : decode cX11_at 11 = .ok (.aload_n 0, 1) := by decide +kernel
theorem dX11_at_12 : decode cX11_at 12 = .ok (.getfield 32, 3) := by decide +kernel
theorem dX11_at_15 : decode cX11_at 15 = .ok (.getfield 165, 3) := by decide +kernel
theorem dX11_at_18 : decode cX11_at 18 = .ok (.iload_n 1, 1) := by decide +kernel
theorem dX11_at_19 : decode cX11_at 19 = .ok (.iaload, 1) := by decide +kernel
theorem dX11_at_20 : decode cX11_at 20 = .ok (.goto 5, 3) := by decide +kernel
theorem dX11_at_23 : decode cX11_at 23 = .ok (.bipush (-2), 2) := by decide +kernel
theorem dX11_at_25 : decode cX11_at 25 = .ok (.ireturn, 1) := by decide +kernel
theorem dX11_alter_0 : decode cX11_alter 0 = .ok (.aload_n 0, 1) := by decide +kernel
theorem dX11_alter_1 : decode cX11_alter 1 = .ok (.getfield 32, 3) := by decide +kernel
theorem dX11_alter_4 : decode cX11_alter 4 = .ok (.iload_n 1, 1) := by decide +kernel
theorem dX11_alter_5 : decode cX11_alter 5 = .ok (.invokevirtual 162, 3) := by decide +kernel
theorem dX11_alter_8 : decode cX11_alter 8 = .ok (.ifCond .eq 10, 3) := by decide +kernel
theorem dX11_alter_11 : decode cX11_alter 11 = .ok (.iload_n 2, 1) := by decide +kernel
theorem dX11_alter_12 : decode cX11_alter 12 = .ok (.invokestatic 168, 3) := by decide +kernel
theorem dX11_alter_15 : decode cX11_alter 15 = .ok (.ifCond .ne 6, 3) := by decide +kernel
theorem dX11_alter_18 : decode cX11_alter 18 = .ok (.bipush (-2), 2) := by decide +kernel
theorem dX11_alter_20 : decode cX11_alter 20 = .ok (.ireturn, 1) := by decide +kernel
theorem dX11_alter_21 : decode cX11_alter 21 = .ok (.aload_n 0, 1) := by decide +kernel
theorem dX11_alter_22 : decode cX11_alter 22 = .ok (.getfield 32, 3) := by decide +kernel
theorem dX11_alter_25 : decode cX11_alter 25 = .ok (.getfield 165, 3) := by decide +kernel
theorem dX11_alter_28 : decode cX11_alter 28 = .ok (.iload_n 1, 1) := by decide +kernel
theorem dX11_alter_29 : decode cX11_alter 29 = .ok (.iaload, 1) := by decide +kernel
theorem dX11_alter_30 : decode cX11_alter 30 = .ok (.istore_n 3, 1) := by decide +kernel
theorem dX11_alter_31 : decode cX11_alter 31 = .ok (.aload_n 0, 1) := by decide +kernel
theorem dX11_alter_32 : decode cX11_alter 32 = .ok (.getfield 32, 3) := by decide +kernel
theorem dX11_alter_35 : decode cX11_alter 35 = .ok (.getfield 165, 3) := by decide +kernel
theorem dX11_alter_38 : decode cX11_alter 38 = .ok (.iload_n 1, 1) := by decide +kernel
theorem dX11_alter_39 : decode cX11_alter 39 = .ok (.iload_n 2, 1) := by decide +kernel
theorem dX11_alter_40 : decode cX11_alter 40 = .ok (.iastore, 1) := by decide +kernel
theorem dX11_alter_41 : decode cX11_alter 41 = .ok (.iload_n 3, 1) := by decide +kernel
theorem dX11_alter_42 : decode cX11_alter 42 = .ok (.ireturn, 1) := by decide +kernel
theorem dX11_add_0 : decode cX11_add 0 = .ok (.iload_n 1, 1) := by decide +kernel
theorem dX11_add_1 : decode cX11_add 1 = .ok (.invokestatic 168, 3) := by decide +kernel
theorem dX11_add_4 : decode cX11_add 4 = .ok (.ifCond .ne 6, 3) := by decide +kernel
theorem dX11_add_7 : decode cX11_add 7 = .ok (.bipush (-2), 2) := by decide +kernel
theorem dX11_add_9 : decode cX11_add 9 = .ok (.ireturn, 1) := by decide +kernel
theorem dX11_add_10 : decode cX11_add 10 = .ok (.aload_n 0, 1) := by decide +kernel
theorem dX11_add_11 : decode cX11_add 11 = .ok (.getfield 32, 3) := by decide +kernel
theorem dX11_add_14 : decode cX11_add 14 = .ok (.getfield 90, 3) := by decide +kernel
theorem dX11_add_17 : decode cX11_add 17 = .ok (.sipush 2400, 3) := by decide +kernel
theorem dX11_add_20 : decode cX11_add 20 = .ok (.if_icmp .lt 6, 3) := by decide +kernel
theorem dX11_add_23 : decode cX11_add 23 = .ok (.bipush (-4), 2) := by decide +kernel
theorem dX11_add_25 : decode cX11_add 25 = .ok (.ireturn, 1) := by decide +kernel
theorem dX11_add_26 : decode cX11_add 26 = .ok (.aload_n 0, 1) := by decide +kernel
theorem dX11_add_27 : decode cX11_add 27 = .ok (.getfield 32, 3) := by decide +kernel
theorem dX11_add_30 : decode cX11_add 30 = .ok (.getfield 165, 3) := by decide +kernel
theorem dX11_add_33 : decode cX11_add 33 = .ok (.aload_n 0, 1) := by decide +kernel
theorem dX11_add_34 : decode cX11_add 34 = .ok (.getfield 32, 3) := by decide +kernel
theorem dX11_add_37 : decode cX11_add 37 = .ok (.getfield 90, 3) := by decide +kernel
theorem dX11_add_40 : decode cX11_add 40 = .ok (.iload_n 1, 1) := by decide +kernel
theorem dX11_add_41 : decode cX11_add 41 = .ok (.iastore, 1) := by decide +kernel
theorem dX11_add_42 : decode cX11_add 42 = .ok (.aload_n 0, 1) := by decide +kernel
theorem dX11_add_43 : decode cX11_add 43 = .ok (.getfield 32, 3) := by decide +kernel
theorem dX11_add_46 : decode cX11_add 46 = .ok (.dup, 1) := by decide +kernel
theorem dX11_add_47 : decode cX11_add 47 = .ok (.getfield 90, 3) := by decide +kernel
theorem dX11_add_50 : decode cX11_add 50 = .ok (.iconst 1, 1) := by decide +kernel
theorem dX11_add_51 : decode cX11_add 51 = .ok (.iadd, 1) := by decide +kernel
theorem dX11_add_52 : decode cX11_add 52 = .ok (.putfield 90, 3) := by decide +kernel
theorem dX11_add_55 : decode cX11_add 55 = .ok (.aload_n 0, 1) := by decide +kernel
theorem dX11_add_56 : decode cX11_add 56 = .ok (.getfield 32, 3) := by decide +kernel
theorem dX11_add_59 : decode cX11_add 59 = .ok (.getfield 90, 3) := by decide +kernel
theorem dX11_add_62 : decode cX11_add 62 = .ok (.ireturn, 1) := by decide +kernel
theorem dX11_cut_0 : decode cX11_cut 0 = .ok (.iload_n 1, 1) := by decide +kernel
theorem dX11_cut_1 : decode cX11_cut 1 = .ok (.ifCond .lt 14, 3) := by decide +kernel
theorem dX11_cut_4 : decode cX11_cut 4 = .ok (.iload_n 1, 1) := by decide +kernel
theorem dX11_cut_5 : decode cX11_cut 5 = .ok (.aload_n 0, 1) := by decide +kernel
theorem dX11_cut_6 : decode cX11_cut 6 = .ok (.getfield 32, 3) := by decide +kernel
theorem dX11_cut_9 : decode cX11_cut 9 = .ok (.getfield 90, 3) := by decide +kernel
theorem dX11_cut_12 : decode cX11_cut 12 = .ok (.if_icmp .le 6, 3) := by decide +kernel
theorem dX11_cut_15 : decode cX11_cut 15 = .ok (.bipush (-2), 2) := by decide +kernel
theorem dX11_cut_17 : decode cX11_cut 17 = .ok (.ireturn, 1) := by decide +kernel
theorem dX11_cut_18 : decode cX11_cut 18 = .ok (.aload_n 0, 1) := by decide +kernel
theorem dX11_cut_19 : decode cX11_cut 19 = .ok (.getfield 32, 3) := by decide +kernel
theorem dX11_cut_22 : decode cX11_cut 22 = .ok (.getfield 90, 3) := by decide +kernel
theorem dX11_cut_25 : decode cX11_cut 25 = .ok (.iload_n 1, 1) := by decide +kernel
theorem dX11_cut_26 : decode cX11_cut 26 = .ok (.isub, 1) := by decide +kernel
theorem dX11_cut_27 : decode cX11_cut 27 = .ok (.istore_n 2, 1) := by decide +kernel
theorem dX11_cut_28 : decode cX11_cut 28 = .ok (.aload_n 0, 1) := by decide +kernel
theorem dX11_cut_29 : decode cX11_cut 29 = .ok (.getfield 32, 3) := by decide +kernel
theorem dX11_cut_32 : decode cX11_cut 32 = .ok (.iload_n 1, 1) := by decide +kernel
theorem dX11_cut_33 : decode cX11_cut 33 = .ok (.putfield 90, 3) := by decide +kernel
theorem dX11_cut_36 : decode cX11_cut 36 = .ok (.iload_n 2, 1) := by decide +kernel
theorem dX11_cut_37 : decode cX11_cut 37 = .ok (.ireturn, 1) := by decide +kernel
theorem dX11_open_0 : decode cX11_open 0 = .ok (.aload_n 0, 1) := by decide +kernel
theorem dX11_open_1 : decode cX11_open 1 = .ok (.getfield 32, 3) := by decide +kernel
theorem dX11_open_4 : decode cX11_open 4 = .ok (.iload_n 1, 1) := by decide +kernel
theorem dX11_open_5 : decode cX11_open 5 = .ok (.invokevirtual 162, 3) := by decide +kernel
theorem dX11_open_8 : decode cX11_open 8 = .ok (.ifCond .ne 6, 3) := by decide +kernel
theorem dX11_open_11 : decode cX11_open 11 = .ok (.bipush (-2), 2) := by decide +kernel
theorem dX11_open_13 : decode cX11_open 13 = .ok (.ireturn, 1) := by decide +kernel
theorem dX11_open_14 : decode cX11_open 14 = .ok (.aload_n 0, 1) := by decide +kernel
theorem dX11_open_15 : decode cX11_open 15 = .ok (.getfield 57, 3) := by decide +kernel
theorem dX11_open_18 : decode cX11_open 18 = .ok (.iload_n 1, 1) := by decide +kernel
theorem dX11_open_19 : decode cX11_open 19 = .ok (.aload_n 0, 1) := by decide +kernel
theorem dX11_open_20 : decode cX11_open 20 = .ok (.getfield 68, 3) := by decide +kernel
theorem dX11_open_23 : decode cX11_open 23 = .ok (.invokevirtual 171, 3) := by decide +kernel
theorem dX11_open_26 : decode cX11_open 26 = .ok (.istore_n 2, 1) := by decide +kernel
theorem dX11_open_27 : decode cX11_open 27 = .ok (.iload_n 2, 1) := by decide +kernel
theorem dX11_open_28 : decode cX11_open 28 = .ok (.ifCond .eq 8, 3) := by decide +kernel
theorem dX11_open_31 : decode cX11_open 31 = .ok (.bipush (-10), 2) := by decide +kernel
theorem dX11_open_33 : decode cX11_open 33 = .ok (.iload_n 2, 1) := by decide +kernel
theorem dX11_open_34 : decode cX11_open 34 = .ok (.isub, 1) := by decide +kernel
theorem dX11_open_35 : decode cX11_open 35 = .ok (.ireturn, 1) := by decide +kernel
theorem dX11_open_36 : decode cX11_open 36 = .ok (.aload_n 0, 1) := by decide +kernel
theorem dX11_open_37 : decode cX11_open 37 = .ok (.getfield 64, 3) := by decide +kernel
theorem dX11_open_40 : decode cX11_open 40 = .ok (.astore_n 3, 1) := by decide +kernel
theorem dX11_open_41 : decode cX11_open 41 = .ok (.aload_n 0, 1) := by decide +kernel
theorem dX11_open_42 : decode cX11_open 42 = .ok (.aload_n 0, 1) := by decide +kernel
theorem dX11_open_43 : decode cX11_open 43 = .ok (.getfield 68, 3) := by decide +kernel
theorem dX11_open_46 : decode cX11_open 46 = .ok (.putfield 64, 3) := by decide +kernel
theorem dX11_open_49 : decode cX11_open 49 = .ok (.aload_n 0, 1) := by decide +kernel
theorem dX11_open_50 : decode cX11_open 50 = .ok (.aload_n 3, 1) := by decide +kernel
theorem dX11_open_51 : decode cX11_open 51 = .ok (.putfield 68, 3) := by decide +kernel
theorem dX11_open_54 : decode cX11_open 54 = .ok (.aload_n 0, 1) := by decide +kernel
theorem dX11_open_55 : decode cX11_open 55 = .ok (.getfield 64, 3) := by decide +kernel
theorem dX11_open_58 : decode cX11_open 58 = .ok (.getfield 175, 3) := by decide +kernel
theorem dX11_open_61 : decode cX11_open 61 = .ok (.ireturn, 1) := by decide +kernel
theorem dX11_shown_0 : decode cX11_shown 0 = .ok (.iload_n 1, 1) := by decide +kernel
theorem dX11_shown_1 : decode cX11_shown 1 = .ok (.ifCond .lt 9, 3) := by decide +kernel
theorem dX11_shown_4 : decode cX11_shown 4 = .ok (.iload_n 1, 1) := by decide +kernel
theorem dX11_shown_5 : decode cX11_shown 5 = .ok (.bipush 6, 2) := by decide +kernel
theorem dX11_shown_7 : decode cX11_shown 7 = .ok (.if_icmp .le 6, 3) := by decide +kernel
theorem dX11_shown_10 : decode cX11_shown 10 = .ok (.bipush (-2), 2) := by decide +kernel
theorem dX11_shown_12 : decode cX11_shown 12 = .ok (.ireturn, 1) := by decide +kernel
theorem dX11_shown_13 : decode cX11_shown 13 = .ok (.aload_n 0, 1) := by decide +kernel
theorem dX11_shown_14 : decode cX11_shown 14 = .ok (.getfield 64, 3) := by decide +kernel
theorem dX11_shown_17 : decode cX11_shown 17 = .ok (.getfield 175, 3) := by decide +kernel
theorem dX11_shown_20 : decode cX11_shown 20 = .ok (.ifCond .ne 6, 3) := by decide +kernel
theorem dX11_shown_23 : decode cX11_shown 23 = .ok (.bipush (-3), 2) := by decide +kernel
theorem dX11_shown_25 : decode cX11_shown 25 = .ok (.ireturn, 1) := by decide +kernel
theorem dX11_shown_26 : decode cX11_shown 26 = .ok (.iload_n 1, 1) := by decide +kernel
theorem dX11_shown_27 : decode cX11_shown 27 = .ok (.tableswitch 87 0 5 #[37, 45, 53, 61, 69, 77], 37) := by decide +kernel
theorem dX11_shown_64 : decode cX11_shown 64 = .ok (.aload_n 0, 1) := by decide +kernel
theorem dX11_shown_65 : decode cX11_shown 65 = .ok (.getfield 64, 3) := by decide +kernel
theorem dX11_shown_68 : decode cX11_shown 68 = .ok (.getfield 175, 3) := by decide +kernel
theorem dX11_shown_71 : decode cX11_shown 71 = .ok (.ireturn, 1) := by decide +kernel
theorem dX11_shown_72 : decode cX11_shown 72 = .ok (.aload_n 0, 1) := by decide +kernel
theorem dX11_shown_73 : decode cX11_shown 73 = .ok (.getfield 64, 3) := by decide +kernel
theorem dX11_shown_76 : decode cX11_shown 76 = .ok (.getfield 176, 3) := by decide +kernel
theorem dX11_shown_79 : decode cX11_shown 79 = .ok (.ireturn, 1) := by decide +kernel
theorem dX11_shown_80 : decode cX11_shown 80 = .ok (.aload_n 0, 1) := by decide +kernel
theorem dX11_shown_81 : decode cX11_shown 81 = .ok (.getfield 64, 3) := by decide +kernel
theorem dX11_shown_84 : decode cX11_shown 84 = .ok (.getfield 177, 3) := by decide +kernel
theorem dX11_shown_87 : decode cX11_shown 87 = .ok (.ireturn, 1) := by decide +kernel
theorem dX11_shown_88 : decode cX11_shown 88 = .ok (.aload_n 0, 1) := by decide +kernel
theorem dX11_shown_89 : decode cX11_shown 89 = .ok (.getfield 64, 3) := by decide +kernel
theorem dX11_shown_92 : decode cX11_shown 92 = .ok (.getfield 178, 3) := by decide +kernel
theorem dX11_shown_95 : decode cX11_shown 95 = .ok (.ireturn, 1) := by decide +kernel
theorem dX11_shown_96 : decode cX11_shown 96 = .ok (.aload_n 0, 1) := by decide +kernel
theorem dX11_shown_97 : decode cX11_shown 97 = .ok (.getfield 64, 3) := by decide +kernel
theorem dX11_shown_100 : decode cX11_shown 100 = .ok (.getfield 179, 3) := by decide +kernel
theorem dX11_shown_103 : decode cX11_shown 103 = .ok (.ireturn, 1) := by decide +kernel
theorem dX11_shown_104 : decode cX11_shown 104 = .ok (.aload_n 0, 1) := by decide +kernel
theorem dX11_shown_105 : decode cX11_shown 105 = .ok (.getfield 64, 3) := by decide +kernel
theorem dX11_shown_108 : decode cX11_shown 108 = .ok (.getfield 182, 3) := by decide +kernel
theorem dX11_shown_111 : decode cX11_shown 111 = .ok (.iconst 0, 1) := by decide +kernel
theorem dX11_shown_112 : decode cX11_shown 112 = .ok (.iaload, 1) := by decide +kernel
theorem dX11_shown_113 : decode cX11_shown 113 = .ok (.ireturn, 1) := by decide +kernel
theorem dX11_shown_114 : decode cX11_shown 114 = .ok (.aload_n 0, 1) := by decide +kernel
theorem dX11_shown_115 : decode cX11_shown 115 = .ok (.getfield 64, 3) := by decide +kernel
theorem dX11_shown_118 : decode cX11_shown 118 = .ok (.getfield 182, 3) := by decide +kernel
theorem dX11_shown_121 : decode cX11_shown 121 = .ok (.iconst 1, 1) := by decide +kernel
theorem dX11_shown_122 : decode cX11_shown 122 = .ok (.iaload, 1) := by decide +kernel
theorem dX11_shown_123 : decode cX11_shown 123 = .ok (.ireturn, 1) := by decide +kernel
theorem dX11_got_0 : decode cX11_got 0 = .ok (.iload_n 1, 1) := by decide +kernel
theorem dX11_got_1 : decode cX11_got 1 = .ok (.ifCond .lt 29, 3) := by decide +kernel
theorem dX11_got_4 : decode cX11_got 4 = .ok (.iload_n 1, 1) := by decide +kernel
theorem dX11_got_5 : decode cX11_got 5 = .ok (.aload_n 0, 1) := by decide +kernel
theorem dX11_got_6 : decode cX11_got 6 = .ok (.getfield 64, 3) := by decide +kernel
theorem dX11_got_9 : decode cX11_got 9 = .ok (.getfield 176, 3) := by decide +kernel
theorem dX11_got_12 : decode cX11_got 12 = .ok (.if_icmp .ge 18, 3) := by decide +kernel
theorem dX11_got_15 : decode cX11_got 15 = .ok (.iload_n 2, 1) := by decide +kernel
theorem dX11_got_16 : decode cX11_got 16 = .ok (.ifCond .lt 14, 3) := by decide +kernel
theorem dX11_got_19 : decode cX11_got 19 = .ok (.iload_n 2, 1) := by decide +kernel
theorem dX11_got_20 : decode cX11_got 20 = .ok (.aload_n 0, 1) := by decide +kernel
theorem dX11_got_21 : decode cX11_got 21 = .ok (.getfield 64, 3) := by decide +kernel
theorem dX11_got_24 : decode cX11_got 24 = .ok (.getfield 175, 3) := by decide +kernel
theorem dX11_got_27 : decode cX11_got 27 = .ok (.if_icmp .lt 13, 3) := by decide +kernel
theorem dX11_got_30 : decode cX11_got 30 = .ok (.new 185, 3) := by decide +kernel
theorem dX11_got_33 : decode cX11_got 33 = .ok (.dup, 1) := by decide +kernel
theorem dX11_got_34 : decode cX11_got 34 = .ok (.ldc 187, 2) := by decide +kernel
theorem dX11_got_36 : decode cX11_got 36 = .ok (.invokespecial 189, 3) := by decide +kernel
theorem dX11_got_39 : decode cX11_got 39 = .ok (.athrow, 1) := by decide +kernel
theorem dX11_got_40 : decode cX11_got 40 = .ok (.aload_n 0, 1) := by decide +kernel
theorem dX11_got_41 : decode cX11_got 41 = .ok (.getfield 64, 3) := by decide +kernel
theorem dX11_got_44 : decode cX11_got 44 = .ok (.getfield 192, 3) := by decide +kernel
theorem dX11_got_47 : decode cX11_got 47 = .ok (.iload_n 1, 1) := by decide +kernel
theorem dX11_got_48 : decode cX11_got 48 = .ok (.aaload, 1) := by decide +kernel
theorem dX11_got_49 : decode cX11_got 49 = .ok (.iload_n 2, 1) := by decide +kernel
theorem dX11_got_50 : decode cX11_got 50 = .ok (.iaload, 1) := by decide +kernel
theorem dX11_got_51 : decode cX11_got 51 = .ok (.ireturn, 1) := by decide +kernel
theorem dX11_take_0 : decode cX11_take 0 = .ok (.aload_n 0, 1) := by decide +kernel
theorem dX11_take_1 : decode cX11_take 1 = .ok (.getfield 64, 3) := by decide +kernel
theorem dX11_take_4 : decode cX11_take 4 = .ok (.getfield 175, 3) := by decide +kernel
theorem dX11_take_7 : decode cX11_take 7 = .ok (.istore_n 1, 1) := by decide +kernel
theorem dX11_take_8 : decode cX11_take 8 = .ok (.iload_n 1, 1) := by decide +kernel
theorem dX11_take_9 : decode cX11_take 9 = .ok (.ifCond .ne 6, 3) := by decide +kernel
theorem dX11_take_12 : decode cX11_take 12 = .ok (.bipush (-3), 2) := by decide +kernel
theorem dX11_take_14 : decode cX11_take 14 = .ok (.ireturn, 1) := by decide +kernel
theorem dX11_take_15 : decode cX11_take 15 = .ok (.iconst 0, 1) := by decide +kernel
theorem dX11_take_16 : decode cX11_take 16 = .ok (.istore_n 2, 1) := by decide +kernel
theorem dX11_take_17 : decode cX11_take 17 = .ok (.iload_n 2, 1) := by decide +kernel
theorem dX11_take_18 : decode cX11_take 18 = .ok (.iconst 2, 1) := by decide +kernel
theorem dX11_take_19 : decode cX11_take 19 = .ok (.if_icmp .ge 57, 3) := by decide +kernel
theorem dX11_take_22 : decode cX11_take 22 = .ok (.aload_n 0, 1) := by decide +kernel
theorem dX11_take_23 : decode cX11_take 23 = .ok (.getfield 14, 3) := by decide +kernel
theorem dX11_take_26 : decode cX11_take 26 = .ok (.iload_n 2, 1) := by decide +kernel
theorem dX11_take_27 : decode cX11_take 27 = .ok (.iload_n 2, 1) := by decide +kernel
theorem dX11_take_28 : decode cX11_take 28 = .ok (.aload_n 0, 1) := by decide +kernel
theorem dX11_take_29 : decode cX11_take 29 = .ok (.getfield 64, 3) := by decide +kernel
theorem dX11_take_32 : decode cX11_take 32 = .ok (.getfield 176, 3) := by decide +kernel
theorem dX11_take_35 : decode cX11_take 35 = .ok (.if_icmp .ge 7, 3) := by decide +kernel
theorem dX11_take_38 : decode cX11_take 38 = .ok (.iload_n 1, 1) := by decide +kernel
theorem dX11_take_39 : decode cX11_take 39 = .ok (.goto 4, 3) := by decide +kernel
theorem dX11_take_42 : decode cX11_take 42 = .ok (.iconst 0, 1) := by decide +kernel
theorem dX11_take_43 : decode cX11_take 43 = .ok (.iastore, 1) := by decide +kernel
theorem dX11_take_44 : decode cX11_take 44 = .ok (.aload_n 0, 1) := by decide +kernel
theorem dX11_take_45 : decode cX11_take 45 = .ok (.getfield 64, 3) := by decide +kernel
theorem dX11_take_48 : decode cX11_take 48 = .ok (.getfield 192, 3) := by decide +kernel
theorem dX11_take_51 : decode cX11_take 51 = .ok (.iload_n 2, 1) := by decide +kernel
theorem dX11_take_52 : decode cX11_take 52 = .ok (.aaload, 1) := by decide +kernel
theorem dX11_take_53 : decode cX11_take 53 = .ok (.iconst 0, 1) := by decide +kernel
theorem dX11_take_54 : decode cX11_take 54 = .ok (.aload_n 0, 1) := by decide +kernel
theorem dX11_take_55 : decode cX11_take 55 = .ok (.getfield 11, 3) := by decide +kernel
theorem dX11_take_58 : decode cX11_take 58 = .ok (.iload_n 2, 1) := by decide +kernel
theorem dX11_take_59 : decode cX11_take 59 = .ok (.aaload, 1) := by decide +kernel
theorem dX11_take_60 : decode cX11_take 60 = .ok (.iconst 0, 1) := by decide +kernel
theorem dX11_take_61 : decode cX11_take 61 = .ok (.aload_n 0, 1) := by decide +kernel
theorem dX11_take_62 : decode cX11_take 62 = .ok (.getfield 14, 3) := by decide +kernel
theorem dX11_take_65 : decode cX11_take 65 = .ok (.iload_n 2, 1) := by decide +kernel
theorem dX11_take_66 : decode cX11_take 66 = .ok (.iaload, 1) := by decide +kernel
theorem dX11_take_67 : decode cX11_take 67 = .ok (.invokestatic 195, 3) := by decide +kernel
theorem dX11_take_70 : decode cX11_take 70 = .ok (.iinc 2 1, 3) := by decide +kernel
theorem dX11_take_73 : decode cX11_take 73 = .ok (.goto (-56), 3) := by decide +kernel
theorem dX11_take_76 : decode cX11_take 76 = .ok (.aload_n 0, 1) := by decide +kernel
theorem dX11_take_77 : decode cX11_take 77 = .ok (.aload_n 0, 1) := by decide +kernel
theorem dX11_take_78 : decode cX11_take 78 = .ok (.getfield 64, 3) := by decide +kernel
theorem dX11_take_81 : decode cX11_take 81 = .ok (.getfield 178, 3) := by decide +kernel
theorem dX11_take_84 : decode cX11_take 84 = .ok (.putfield 18, 3) := by decide +kernel
theorem dX11_take_87 : decode cX11_take 87 = .ok (.iload_n 1, 1) := by decide +kernel
theorem dX11_take_88 : decode cX11_take 88 = .ok (.ireturn, 1) := by decide +kernel
theorem dX11_frames_0 : decode cX11_frames 0 = .ok (.iconst 0, 1) := by decide +kernel
theorem dX11_frames_1 : decode cX11_frames 1 = .ok (.istore_n 1, 1) := by decide +kernel
theorem dX11_frames_2 : decode cX11_frames 2 = .ok (.iconst 0, 1) := by decide +kernel
theorem dX11_frames_3 : decode cX11_frames 3 = .ok (.istore_n 2, 1) := by decide +kernel
theorem dX11_frames_4 : decode cX11_frames 4 = .ok (.iload_n 2, 1) := by decide +kernel
theorem dX11_frames_5 : decode cX11_frames 5 = .ok (.sipush 2400, 3) := by decide +kernel
theorem dX11_frames_8 : decode cX11_frames 8 = .ok (.if_icmp .ge 48, 3) := by decide +kernel
theorem dX11_frames_11 : decode cX11_frames 11 = .ok (.iload_n 1, 1) := by decide +kernel
theorem dX11_frames_12 : decode cX11_frames 12 = .ok (.aload_n 0, 1) := by decide +kernel
theorem dX11_frames_13 : decode cX11_frames 13 = .ok (.getfield 32, 3) := by decide +kernel
theorem dX11_frames_16 : decode cX11_frames 16 = .ok (.getfield 90, 3) := by decide +kernel
theorem dX11_frames_19 : decode cX11_frames 19 = .ok (.if_icmp .ge 37, 3) := by decide +kernel
theorem dX11_frames_22 : decode cX11_frames 22 = .ok (.aload_n 0, 1) := by decide +kernel
theorem dX11_frames_23 : decode cX11_frames 23 = .ok (.getfield 57, 3) := by decide +kernel
theorem dX11_frames_26 : decode cX11_frames 26 = .ok (.iload_n 1, 1) := by decide +kernel
theorem dX11_frames_27 : decode cX11_frames 27 = .ok (.aload_n 0, 1) := by decide +kernel
theorem dX11_frames_28 : decode cX11_frames 28 = .ok (.getfield 68, 3) := by decide +kernel
theorem dX11_frames_31 : decode cX11_frames 31 = .ok (.invokevirtual 171, 3) := by decide +kernel
theorem dX11_frames_34 : decode cX11_frames 34 = .ok (.ifCond .eq 8, 3) := by decide +kernel
theorem dX11_frames_37 : decode cX11_frames 37 = .ok (.bipush (-10), 2) := by decide +kernel
theorem dX11_frames_39 : decode cX11_frames 39 = .ok (.iload_n 2, 1) := by decide +kernel
theorem dX11_frames_40 : decode cX11_frames 40 = .ok (.isub, 1) := by decide +kernel
theorem dX11_frames_41 : decode cX11_frames 41 = .ok (.ireturn, 1) := by decide +kernel
theorem dX11_frames_42 : decode cX11_frames 42 = .ok (.aload_n 0, 1) := by decide +kernel
theorem dX11_frames_43 : decode cX11_frames 43 = .ok (.getfield 68, 3) := by decide +kernel
theorem dX11_frames_46 : decode cX11_frames 46 = .ok (.getfield 179, 3) := by decide +kernel
theorem dX11_frames_49 : decode cX11_frames 49 = .ok (.istore_n 1, 1) := by decide +kernel
theorem dX11_frames_50 : decode cX11_frames 50 = .ok (.iinc 2 1, 3) := by decide +kernel
theorem dX11_frames_53 : decode cX11_frames 53 = .ok (.goto (-49), 3) := by decide +kernel
theorem dX11_frames_56 : decode cX11_frames 56 = .ok (.iload_n 2, 1) := by decide +kernel
theorem dX11_frames_57 : decode cX11_frames 57 = .ok (.ireturn, 1) := by decide +kernel
theorem dX11_isChannel_0 : decode cX11_isChannel 0 = .ok (.iload_n 0, 1) := by decide +kernel
theorem dX11_isChannel_1 : decode cX11_isChannel 1 = .ok (.ifCond .lt 12, 3) := by decide +kernel
theorem dX11_isChannel_4 : decode cX11_isChannel 4 = .ok (.iload_n 0, 1) := by decide +kernel
theorem dX11_isChannel_5 : decode cX11_isChannel 5 = .ok (.iconst 2, 1) := by decide +kernel
theorem dX11_isChannel_6 : decode cX11_isChannel 6 = .ok (.if_icmp .ge 7, 3) := by decide +kernel
theorem dX11_isChannel_9 : decode cX11_isChannel 9 = .ok (.iconst 1, 1) := by decide +kernel
theorem dX11_isChannel_10 : decode cX11_isChannel 10 = .ok (.goto 4, 3) := by decide +kernel
theorem dX11_isChannel_13 : decode cX11_isChannel 13 = .ok (.iconst 0, 1) := by decide +kernel
theorem dX11_isChannel_14 : decode cX11_isChannel 14 = .ok (.ireturn, 1) := by decide +kernel
theorem dX11_isByte_0 : decode cX11_isByte 0 = .ok (.iload_n 0, 1) := by decide +kernel
theorem dX11_isByte_1 : decode cX11_isByte 1 = .ok (.ifCond .lt 14, 3) := by decide +kernel
theorem dX11_isByte_4 : decode cX11_isByte 4 = .ok (.iload_n 0, 1) := by decide +kernel
theorem dX11_isByte_5 : decode cX11_isByte 5 = .ok (.sipush 255, 3) := by decide +kernel
theorem dX11_isByte_8 : decode cX11_isByte 8 = .ok (.if_icmp .gt 7, 3) := by decide +kernel
theorem dX11_isByte_11 : decode cX11_isByte 11 = .ok (.iconst 1, 1) := by decide +kernel
theorem dX11_isByte_12 : decode cX11_isByte 12 = .ok (.goto 4, 3) := by decide +kernel
theorem dX11_isByte_15 : decode cX11_isByte 15 = .ok (.iconst 0, 1) := by decide +kernel
theorem dX11_isByte_16 : decode cX11_isByte 16 = .ok (.ireturn, 1) := by decide +kernel
theorem dX11_isPartOf_0 : decode cX11_isPartOf 0 = .ok (.iload_n 1, 1) := by decide +kernel
theorem dX11_isPartOf_1 : decode cX11_isPartOf 1 = .ok (.iload_n 0, 1) := by decide +kernel
theorem dX11_isPartOf_2 : decode cX11_isPartOf 2 = .ok (.if_icmp .lt 15, 3) := by decide +kernel
theorem dX11_isPartOf_5 : decode cX11_isPartOf 5 = .ok (.iload_n 1, 1) := by decide +kernel
theorem dX11_isPartOf_6 : decode cX11_isPartOf 6 = .ok (.iload_n 0, 1) := by decide +kernel
theorem dX11_isPartOf_7 : decode cX11_isPartOf 7 = .ok (.bipush 16, 2) := by decide +kernel
theorem dX11_isPartOf_9 : decode cX11_isPartOf 9 = .ok (.iadd, 1) := by decide +kernel
theorem dX11_isPartOf_10 : decode cX11_isPartOf 10 = .ok (.if_icmp .ge 7, 3) := by decide +kernel
theorem dX11_isPartOf_13 : decode cX11_isPartOf 13 = .ok (.iconst 1, 1) := by decide +kernel
theorem dX11_isPartOf_14 : decode cX11_isPartOf 14 = .ok (.goto 4, 3) := by decide +kernel
theorem dX11_isPartOf_17 : decode cX11_isPartOf 17 = .ok (.iconst 0, 1) := by decide +kernel
theorem dX11_isPartOf_18 : decode cX11_isPartOf 18 = .ok (.ireturn, 1) := by decide +kernel
theorem dX11_partTold_0 : decode cX11_partTold 0 = .ok (.iload_n 1, 1) := by decide +kernel
theorem dX11_partTold_1 : decode cX11_partTold 1 = .ok (.bipush 30, 2) := by decide +kernel
theorem dX11_partTold_3 : decode cX11_partTold 3 = .ok (.if_icmp .lt 7, 3) := by decide +kernel
theorem dX11_partTold_6 : decode cX11_partTold 6 = .ok (.iconst 1, 1) := by decide +kernel
theorem dX11_partTold_7 : decode cX11_partTold 7 = .ok (.goto 4, 3) := by decide +kernel
theorem dX11_partTold_10 : decode cX11_partTold 10 = .ok (.iconst 0, 1) := by decide +kernel
theorem dX11_partTold_11 : decode cX11_partTold 11 = .ok (.istore_n 2, 1) := by decide +kernel
theorem dX11_partTold_12 : decode cX11_partTold 12 = .ok (.iload_n 1, 1) := by decide +kernel
theorem dX11_partTold_13 : decode cX11_partTold 13 = .ok (.iload_n 2, 1) := by decide +kernel
theorem dX11_partTold_14 : decode cX11_partTold 14 = .ok (.ifCond .eq 8, 3) := by decide +kernel
theorem dX11_partTold_17 : decode cX11_partTold 17 = .ok (.bipush 30, 2) := by decide +kernel
theorem dX11_partTold_19 : decode cX11_partTold 19 = .ok (.goto 5, 3) := by decide +kernel
theorem dX11_partTold_22 : decode cX11_partTold 22 = .ok (.bipush 10, 2) := by decide +kernel
theorem dX11_partTold_24 : decode cX11_partTold 24 = .ok (.isub, 1) := by decide +kernel
theorem dX11_partTold_25 : decode cX11_partTold 25 = .ok (.istore_n 3, 1) := by decide +kernel
theorem dX11_partTold_26 : decode cX11_partTold 26 = .ok (.iload_n 3, 1) := by decide +kernel
theorem dX11_partTold_27 : decode cX11_partTold 27 = .ok (.aload_n 0, 1) := by decide +kernel
theorem dX11_partTold_28 : decode cX11_partTold 28 = .ok (.invokevirtual 201, 3) := by decide +kernel
theorem dX11_partTold_31 : decode cX11_partTold 31 = .ok (.if_icmp .lt 6, 3) := by decide +kernel
theorem dX11_partTold_34 : decode cX11_partTold 34 = .ok (.bipush (-2), 2) := by decide +kernel
theorem dX11_partTold_36 : decode cX11_partTold 36 = .ok (.ireturn, 1) := by decide +kernel
theorem dX11_partTold_37 : decode cX11_partTold 37 = .ok (.iload_n 2, 1) := by decide +kernel
theorem dX11_partTold_38 : decode cX11_partTold 38 = .ok (.ifCond .eq 12, 3) := by decide +kernel
theorem dX11_partTold_41 : decode cX11_partTold 41 = .ok (.aload_n 0, 1) := by decide +kernel
theorem dX11_partTold_42 : decode cX11_partTold 42 = .ok (.getfield 205, 3) := by decide +kernel
theorem dX11_partTold_45 : decode cX11_partTold 45 = .ok (.iload_n 3, 1) := by decide +kernel
theorem dX11_partTold_46 : decode cX11_partTold 46 = .ok (.iaload, 1) := by decide +kernel
theorem dX11_partTold_47 : decode cX11_partTold 47 = .ok (.goto 9, 3) := by decide +kernel
theorem dX11_partTold_50 : decode cX11_partTold 50 = .ok (.aload_n 0, 1) := by decide +kernel
theorem dX11_partTold_51 : decode cX11_partTold 51 = .ok (.getfield 208, 3) := by decide +kernel
theorem dX11_partTold_54 : decode cX11_partTold 54 = .ok (.iload_n 3, 1) := by decide +kernel
theorem dX11_partTold_55 : decode cX11_partTold 55 = .ok (.iaload, 1) := by decide +kernel
theorem dX11_partTold_56 : decode cX11_partTold 56 = .ok (.ireturn, 1) := by decide +kernel
theorem dX11_fits_0 : decode cX11_fits 0 = .ok (.iconst 1, 1) := by decide +kernel
theorem dX11_fits_1 : decode cX11_fits 1 = .ok (.iload_n 1, 1) := by decide +kernel
theorem dX11_fits_2 : decode cX11_fits 2 = .ok (.iconst 1, 1) := by decide +kernel
theorem dX11_fits_3 : decode cX11_fits 3 = .ok (.isub, 1) := by decide +kernel
theorem dX11_fits_4 : decode cX11_fits 4 = .ok (.ishl, 1) := by decide +kernel
theorem dX11_fits_5 : decode cX11_fits 5 = .ok (.istore_n 2, 1) := by decide +kernel
theorem dX11_fits_6 : decode cX11_fits 6 = .ok (.iload_n 0, 1) := by decide +kernel
theorem dX11_fits_7 : decode cX11_fits 7 = .ok (.iload_n 2, 1) := by decide +kernel
theorem dX11_fits_8 : decode cX11_fits 8 = .ok (.ineg, 1) := by decide +kernel
theorem dX11_fits_9 : decode cX11_fits 9 = .ok (.if_icmp .lt 12, 3) := by decide +kernel
theorem dX11_fits_12 : decode cX11_fits 12 = .ok (.iload_n 0, 1) := by decide +kernel
theorem dX11_fits_13 : decode cX11_fits 13 = .ok (.iload_n 2, 1) := by decide +kernel
theorem dX11_fits_14 : decode cX11_fits 14 = .ok (.if_icmp .ge 7, 3) := by decide +kernel
theorem dX11_fits_17 : decode cX11_fits 17 = .ok (.iconst 1, 1) := by decide +kernel
theorem dX11_fits_18 : decode cX11_fits 18 = .ok (.goto 4, 3) := by decide +kernel
theorem dX11_fits_21 : decode cX11_fits 21 = .ok (.iconst 0, 1) := by decide +kernel
theorem dX11_fits_22 : decode cX11_fits 22 = .ok (.ireturn, 1) := by decide +kernel
theorem dX11_bytesOf_0 : decode cX11_bytesOf 0 = .ok (.iload_n 0, 1) := by decide +kernel
theorem dX11_bytesOf_1 : decode cX11_bytesOf 1 = .ok (.bipush 7, 2) := by decide +kernel
theorem dX11_bytesOf_3 : decode cX11_bytesOf 3 = .ok (.iadd, 1) := by decide +kernel
theorem dX11_bytesOf_4 : decode cX11_bytesOf 4 = .ok (.bipush 8, 2) := by decide +kernel
theorem dX11_bytesOf_6 : decode cX11_bytesOf 6 = .ok (.idiv, 1) := by decide +kernel
theorem dX11_bytesOf_7 : decode cX11_bytesOf 7 = .ok (.iconst 1, 1) := by decide +kernel
theorem dX11_bytesOf_8 : decode cX11_bytesOf 8 = .ok (.iadd, 1) := by decide +kernel
theorem dX11_bytesOf_9 : decode cX11_bytesOf 9 = .ok (.ireturn, 1) := by decide +kernel
theorem dX11_bitsOfRow_0 : decode cX11_bitsOfRow 0 = .ok (.iload_n 0, 1) := by decide +kernel
theorem dX11_bitsOfRow_1 : decode cX11_bitsOfRow 1 = .ok (.iconst 2, 1) := by decide +kernel
theorem dX11_bitsOfRow_2 : decode cX11_bitsOfRow 2 = .ok (.if_icmp .ne 9, 3) := by decide +kernel
theorem dX11_bitsOfRow_5 : decode cX11_bitsOfRow 5 = .ok (.iload_n 1, 1) := by decide +kernel
theorem dX11_bitsOfRow_6 : decode cX11_bitsOfRow 6 = .ok (.iconst 1, 1) := by decide +kernel
theorem dX11_bitsOfRow_7 : decode cX11_bitsOfRow 7 = .ok (.iadd, 1) := by decide +kernel
theorem dX11_bitsOfRow_8 : decode cX11_bitsOfRow 8 = .ok (.goto 4, 3) := by decide +kernel
theorem dX11_bitsOfRow_11 : decode cX11_bitsOfRow 11 = .ok (.iload_n 1, 1) := by decide +kernel
theorem dX11_bitsOfRow_12 : decode cX11_bitsOfRow 12 = .ok (.ireturn, 1) := by decide +kernel
theorem dX11_mayBeP_0 : decode cX11_mayBeP 0 = .ok (.iload_n 0, 1) := by decide +kernel
theorem dX11_mayBeP_1 : decode cX11_mayBeP 1 = .ok (.iconst 4, 1) := by decide +kernel
theorem dX11_mayBeP_2 : decode cX11_mayBeP 2 = .ok (.if_icmp .gt 24, 3) := by decide +kernel
theorem dX11_mayBeP_5 : decode cX11_mayBeP 5 = .ok (.iload_n 1, 1) := by decide +kernel
theorem dX11_mayBeP_6 : decode cX11_mayBeP 6 = .ok (.iconst 1, 1) := by decide +kernel
theorem dX11_mayBeP_7 : decode cX11_mayBeP 7 = .ok (.iload_n 0, 1) := by decide +kernel
theorem dX11_mayBeP_8 : decode cX11_mayBeP 8 = .ok (.ishl, 1) := by decide +kernel
theorem dX11_mayBeP_9 : decode cX11_mayBeP 9 = .ok (.iconst 1, 1) := by decide +kernel
theorem dX11_mayBeP_10 : decode cX11_mayBeP 10 = .ok (.isub, 1) := by decide +kernel
theorem dX11_mayBeP_11 : decode cX11_mayBeP 11 = .ok (.iand, 1) := by decide +kernel
theorem dX11_mayBeP_12 : decode cX11_mayBeP 12 = .ok (.ifCond .ne 14, 3) := by decide +kernel
theorem dX11_mayBeP_15 : decode cX11_mayBeP 15 = .ok (.iload_n 1, 1) := by decide +kernel
theorem dX11_mayBeP_16 : decode cX11_mayBeP 16 = .ok (.iload_n 0, 1) := by decide +kernel
theorem dX11_mayBeP_17 : decode cX11_mayBeP 17 = .ok (.ishr, 1) := by decide +kernel
theorem dX11_mayBeP_18 : decode cX11_mayBeP 18 = .ok (.iload_n 2, 1) := by decide +kernel
theorem dX11_mayBeP_19 : decode cX11_mayBeP 19 = .ok (.if_icmp .lt 7, 3) := by decide +kernel
theorem dX11_mayBeP_22 : decode cX11_mayBeP 22 = .ok (.iconst 1, 1) := by decide +kernel
theorem dX11_mayBeP_23 : decode cX11_mayBeP 23 = .ok (.goto 4, 3) := by decide +kernel
theorem dX11_mayBeP_26 : decode cX11_mayBeP 26 = .ok (.iconst 0, 1) := by decide +kernel
theorem dX11_mayBeP_27 : decode cX11_mayBeP 27 = .ok (.ireturn, 1) := by decide +kernel
theorem dX11_signed_0 : decode cX11_signed 0 = .ok (.iload_n 0, 1) := by decide +kernel
theorem dX11_signed_1 : decode cX11_signed 1 = .ok (.bipush 32, 2) := by decide +kernel
theorem dX11_signed_3 : decode cX11_signed 3 = .ok (.iload_n 1, 1) := by decide +kernel
theorem dX11_signed_4 : decode cX11_signed 4 = .ok (.isub, 1) := by decide +kernel
theorem dX11_signed_5 : decode cX11_signed 5 = .ok (.ishl, 1) := by decide +kernel
theorem dX11_signed_6 : decode cX11_signed 6 = .ok (.bipush 32, 2) := by decide +kernel
theorem dX11_signed_8 : decode cX11_signed 8 = .ok (.iload_n 1, 1) := by decide +kernel
theorem dX11_signed_9 : decode cX11_signed 9 = .ok (.isub, 1) := by decide +kernel
theorem dX11_signed_10 : decode cX11_signed 10 = .ok (.ishr, 1) := by decide +kernel
theorem dX11_signed_11 : decode cX11_signed 11 = .ok (.ireturn, 1) := by decide +kernel
theorem dX11_unfold_0 : decode cX11_unfold 0 = .ok (.iload_n 0, 1) := by decide +kernel
theorem dX11_unfold_1 : decode cX11_unfold 1 = .ok (.iconst 1, 1) := by decide +kernel
theorem dX11_unfold_2 : decode cX11_unfold 2 = .ok (.iand, 1) := by decide +kernel
theorem dX11_unfold_3 : decode cX11_unfold 3 = .ok (.ifCond .ne 9, 3) := by decide +kernel
theorem dX11_unfold_6 : decode cX11_unfold 6 = .ok (.iload_n 0, 1) := by decide +kernel
theorem dX11_unfold_7 : decode cX11_unfold 7 = .ok (.iconst 1, 1) := by decide +kernel
theorem dX11_unfold_8 : decode cX11_unfold 8 = .ok (.ishr, 1) := by decide +kernel
theorem dX11_unfold_9 : decode cX11_unfold 9 = .ok (.goto 9, 3) := by decide +kernel
theorem dX11_unfold_12 : decode cX11_unfold 12 = .ok (.iload_n 0, 1) := by decide +kernel
theorem dX11_unfold_13 : decode cX11_unfold 13 = .ok (.iconst 1, 1) := by decide +kernel
theorem dX11_unfold_14 : decode cX11_unfold 14 = .ok (.ishr, 1) := by decide +kernel
theorem dX11_unfold_15 : decode cX11_unfold 15 = .ok (.ineg, 1) := by decide +kernel
theorem dX11_unfold_16 : decode cX11_unfold 16 = .ok (.iconst 1, 1) := by decide +kernel
theorem dX11_unfold_17 : decode cX11_unfold 17 = .ok (.isub, 1) := by decide +kernel
theorem dX11_unfold_18 : decode cX11_unfold 18 = .ok (.ireturn, 1) := by decide +kernel
theorem dX12_thrown_0 : decode cX12_thrown 0 = .ok (.aload_n 0, 1) := by decide +kernel
theorem dX12_thrown_1 : decode cX12_thrown 1 = .ok (.getfield 1, 3) := by decide +kernel
theorem dX12_thrown_4 : decode cX12_thrown 4 = .ok (.ireturn, 1) := by decide +kernel
theorem dX12_init_0 : decode cX12_init 0 = .ok (.aload_n 0, 1) := by decide +kernel
theorem dX12_init_1 : decode cX12_init 1 = .ok (.invokespecial 7, 3) := by decide +kernel
theorem dX12_init_4 : decode cX12_init 4 = .ok (.aload_n 0, 1) := by decide +kernel
theorem dX12_init_5 : decode cX12_init 5 = .ok (.bipush 16, 2) := by decide +kernel
theorem dX12_init_7 : decode cX12_init 7 = .ok (.putfield 13, 3) := by decide +kernel
theorem dX12_init_10 : decode cX12_init 10 = .ok (.aload_n 0, 1) := by decide +kernel
theorem dX12_init_11 : decode cX12_init 11 = .ok (.iconst 2, 1) := by decide +kernel
theorem dX12_init_12 : decode cX12_init 12 = .ok (.newarray .int, 2) := by decide +kernel
theorem dX12_init_14 : decode cX12_init 14 = .ok (.putfield 16, 3) := by decide +kernel
theorem dX12_init_17 : decode cX12_init 17 = .ok (.aload_n 0, 1) := by decide +kernel
theorem dX12_init_18 : decode cX12_init 18 = .ok (.sipush 800, 3) := by decide +kernel
theorem dX12_init_21 : decode cX12_init 21 = .ok (.newarray .int, 2) := by decide +kernel
theorem dX12_init_23 : decode cX12_init 23 = .ok (.putfield 20, 3) := by decide +kernel
theorem dX12_init_26 : decode cX12_init 26 = .ok (.aload_n 0, 1) := by decide +kernel
theorem dX12_init_27 : decode cX12_init 27 = .ok (.sipush 2400, 3) := by decide +kernel
theorem dX12_init_30 : decode cX12_init 30 = .ok (.newarray .int, 2) := by decide +kernel
theorem dX12_init_32 : decode cX12_init 32 = .ok (.putfield 23, 3) := by decide +kernel
theorem dX12_init_35 : decode cX12_init 35 = .ok (.aload_n 0, 1) := by decide +kernel
theorem dX12_init_36 : decode cX12_init 36 = .ok (.iconst 4, 1) := by decide +kernel
theorem dX12_init_37 : decode cX12_init 37 = .ok (.newarray .int, 2) := by decide +kernel
theorem dX12_init_39 : decode cX12_init 39 = .ok (.putfield 26, 3) := by decide +kernel
theorem dX12_init_42 : decode cX12_init 42 = .ok (.aload_n 0, 1) := by decide +kernel
theorem dX12_init_43 : decode cX12_init 43 = .ok (.iconst 5, 1) := by decide +kernel
theorem dX12_init_44 : decode cX12_init 44 = .ok (.newarray .int, 2) := by decide +kernel
theorem dX12_init_46 : decode cX12_init 46 = .ok (.putfield 29, 3) := by decide +kernel
theorem dX12_init_49 : decode cX12_init 49 = .ok (.aload_n 0, 1) := by decide +kernel
theorem dX12_init_50 : decode cX12_init 50 = .ok (.bipush 8, 2) := by decide +kernel
theorem dX12_init_52 : decode cX12_init 52 = .ok (.newarray .int, 2) := by decide +kernel
theorem dX12_init_54 : decode cX12_init 54 = .ok (.putfield 32, 3) := by decide +kernel
theorem dX12_init_57 : decode cX12_init 57 = .ok (.aload_n 0, 1) := by decide +kernel
theorem dX12_init_58 : decode cX12_init 58 = .ok (.bipush 32, 2) := by decide +kernel
theorem dX12_init_60 : decode cX12_init 60 = .ok (.newarray .int, 2) := by decide +kernel
theorem dX12_init_62 : decode cX12_init 62 = .ok (.putfield 35, 3) := by decide +kernel
theorem dX12_init_65 : decode cX12_init 65 = .ok (.aload_n 0, 1) := by decide +kernel
theorem dX12_init_66 : decode cX12_init 66 = .ok (.bipush 32, 2) := by decide +kernel
theorem dX12_init_68 : decode cX12_init 68 = .ok (.newarray .int, 2) := by decide +kernel
theorem dX12_init_70 : decode cX12_init 70 = .ok (.putfield 38, 3) := by decide +kernel
theorem dX12_init_73 : decode cX12_init 73 = .ok (.aload_n 0, 1) := by decide +kernel
theorem dX12_init_74 : decode cX12_init 74 = .ok (.bipush 7, 2) := by decide +kernel
theorem dX12_init_76 : decode cX12_init 76 = .ok (.newarray .int, 2) := by decide +kernel
theorem dX12_init_78 : decode cX12_init 78 = .ok (.putfield 41, 3) := by decide +kernel
theorem dX12_init_81 : decode cX12_init 81 = .ok (.aload_n 0, 1) := by decide +kernel
theorem dX12_init_82 : decode cX12_init 82 = .ok (.sipush 800, 3) := by decide +kernel
theorem dX12_init_85 : decode cX12_init 85 = .ok (.newarray .int, 2) := by decide +kernel
theorem dX12_init_87 : decode cX12_init 87 = .ok (.putfield 44, 3) := by decide +kernel
theorem dX12_init_90 : decode cX12_init 90 = .ok (.aload_n 0, 1) := by decide +kernel
theorem dX12_init_91 : decode cX12_init 91 = .ok (.sipush 400, 3) := by decide +kernel
theorem dX12_init_94 : decode cX12_init 94 = .ok (.newarray .int, 2) := by decide +kernel
theorem dX12_init_96 : decode cX12_init 96 = .ok (.putfield 47, 3) := by decide +kernel
theorem dX12_init_99 : decode cX12_init 99 = .ok (.aload_n 0, 1) := by decide +kernel
theorem dX12_init_100 : decode cX12_init 100 = .ok (.sipush 400, 3) := by decide +kernel
theorem dX12_init_103 : decode cX12_init 103 = .ok (.newarray .long, 2) := by decide +kernel
theorem dX12_init_105 : decode cX12_init 105 = .ok (.putfield 50, 3) := by decide +kernel
theorem dX12_init_108 : decode cX12_init 108 = .ok (.aload_n 0, 1) := by decide +kernel
theorem dX12_init_109 : decode cX12_init 109 = .ok (.sipush 400, 3) := by decide +kernel
theorem dX12_init_112 : decode cX12_init 112 = .ok (.newarray .long, 2) := by decide +kernel
theorem dX12_init_114 : decode cX12_init 114 = .ok (.putfield 54, 3) := by decide +kernel
theorem dX12_init_117 : decode cX12_init 117 = .ok (.aload_n 0, 1) := by decide +kernel
theorem dX12_init_118 : decode cX12_init 118 = .ok (.sipush 4000, 3) := by decide +kernel
theorem dX12_init_121 : decode cX12_init 121 = .ok (.newarray .int, 2) := by decide +kernel
theorem dX12_init_123 : decode cX12_init 123 = .ok (.putfield 57, 3) := by decide +kernel
theorem dX12_init_126 : decode cX12_init 126 = .ok (.aload_n 0, 1) := by decide +kernel
theorem dX12_init_127 : decode cX12_init 127 = .ok (.iconst 2, 1) := by decide +kernel
theorem dX12_init_128 : decode cX12_init 128 = .ok (.newarray .int, 2) := by decide +kernel
theorem dX12_init_130 : decode cX12_init 130 = .ok (.putfield 60, 3) := by decide +kernel
theorem dX12_init_133 : decode cX12_init 133 = .ok (.aload_n 0, 1) := by decide +kernel
theorem dX12_init_134 : decode cX12_init 134 = .ok (.sipush 800, 3) := by decide +kernel
theorem dX12_init_137 : decode cX12_init 137 = .ok (.newarray .int, 2) := by decide +kernel
theorem dX12_init_139 : decode cX12_init 139 = .ok (.putfield 63, 3) := by decide +kernel
theorem dX12_init_142 : decode cX12_init 142 = .ok (.aload_n 0, 1) := by decide +kernel
theorem dX12_init_143 : decode cX12_init 143 = .ok (.iconst 4, 1) := by decide +kernel
theorem dX12_init_144 : decode cX12_init 144 = .ok (.newarray .int, 2) := by decide +kernel
theorem dX12_init_146 : decode cX12_init 146 = .ok (.putfield 66, 3) := by decide +kernel
theorem dX12_init_149 : decode cX12_init 149 = .ok (.aload_n 0, 1) := by decide +kernel
theorem dX12_init_150 : decode cX12_init 150 = .ok (.iconst 0, 1) := by decide +kernel
theorem dX12_init_151 : decode cX12_init 151 = .ok (.putfield 69, 3) := by decide +kernel
theorem dX12_init_154 : decode cX12_init 154 = .ok (.return_, 1) := by decide +kernel
theorem dX12_in_0 : decode cX12_in 0 = .ok (.lload_n 0, 1) := by decide +kernel
theorem dX12_in_1 : decode cX12_in 1 = .ok (.lload_n 2, 1) := by decide +kernel
theorem dX12_in_2 : decode cX12_in 2 = .ok (.lcmp, 1) := by decide +kernel
theorem dX12_in_3 : decode cX12_in 3 = .ok (.ifCond .lt 14, 3) := by decide +kernel
theorem dX12_in_6 : decode cX12_in 6 = .ok (.lload_n 0, 1) := by decide +kernel
theorem dX12_in_7 : decode cX12_in 7 = .ok (.lload 4, 2) := by decide +kernel
theorem dX12_in_9 : decode cX12_in 9 = .ok (.lcmp, 1) := by decide +kernel
theorem dX12_in_10 : decode cX12_in 10 = .ok (.ifCond .gt 7, 3) := by decide +kernel
theorem dX12_in_13 : decode cX12_in 13 = .ok (.iconst 1, 1) := by decide +kernel
theorem dX12_in_14 : decode cX12_in 14 = .ok (.goto 4, 3) := by decide +kernel
theorem dX12_in_17 : decode cX12_in 17 = .ok (.iconst 0, 1) := by decide +kernel
theorem dX12_in_18 : decode cX12_in 18 = .ok (.ireturn, 1) := by decide +kernel
theorem dX12_fits_0 : decode cX12_fits 0 = .ok (.lload_n 0, 1) := by decide +kernel
theorem dX12_fits_1 : decode cX12_fits 1 = .ok (.lconst 1, 1) := by decide +kernel
theorem dX12_fits_2 : decode cX12_fits 2 = .ok (.iload_n 2, 1) := by decide +kernel
theorem dX12_fits_3 : decode cX12_fits 3 = .ok (.iconst 1, 1) := by decide +kernel
theorem dX12_fits_4 : decode cX12_fits 4 = .ok (.isub, 1) := by decide +kernel
theorem dX12_fits_5 : decode cX12_fits 5 = .ok (.lshl, 1) := by decide +kernel
theorem dX12_fits_6 : decode cX12_fits 6 = .ok (.lneg, 1) := by decide +kernel
theorem dX12_fits_7 : decode cX12_fits 7 = .ok (.lconst 1, 1) := by decide +kernel
theorem dX12_fits_8 : decode cX12_fits 8 = .ok (.iload_n 2, 1) := by decide +kernel
theorem dX12_fits_9 : decode cX12_fits 9 = .ok (.iconst 1, 1) := by decide +kernel
theorem dX12_fits_10 : decode cX12_fits 10 = .ok (.isub, 1) := by decide +kernel
theorem dX12_fits_11 : decode cX12_fits 11 = .ok (.lshl, 1) := by decide +kernel
theorem dX12_fits_12 : decode cX12_fits 12 = .ok (.lconst 1, 1) := by decide +kernel
theorem dX12_fits_13 : decode cX12_fits 13 = .ok (.lsub, 1) := by decide +kernel
theorem dX12_fits_14 : decode cX12_fits 14 = .ok (.invokestatic 72, 3) := by decide +kernel
theorem dX12_fits_17 : decode cX12_fits 17 = .ok (.ireturn, 1) := by decide +kernel
theorem dX12_depth_0 : decode cX12_depth 0 = .ok (.aload_n 0, 1) := by decide +kernel
theorem dX12_depth_1 : decode cX12_depth 1 = .ok (.iconst 0, 1) := by decide +kernel
theorem dX12_depth_2 : decode cX12_depth 2 = .ok (.putfield 1, 3) := by decide +kernel
theorem dX12_depth_5 : decode cX12_depth 5 = .ok (.iload_n 1, 1) := by decide +kernel
theorem dX12_depth_6 : decode cX12_depth 6 = .ok (.i2l, 1) := by decide +kernel
theorem dX12_depth_7 : decode cX12_depth 7 = .ok (.lconst 1, 1) := by decide +kernel
theorem dX12_depth_8 : decode cX12_depth 8 = .ok (.ldc2_w 76, 3) := by decide +kernel
theorem dX12_depth_11 : decode cX12_depth 11 = .ok (.invokestatic 72, 3) := by decide +kernel
theorem dX12_depth_14 : decode cX12_depth 14 = .ok (.ifCond .ne 6, 3) := by decide +kernel
theorem dX12_depth_17 : decode cX12_depth 17 = .ok (.bipush (-2), 2) := by decide +kernel
theorem dX12_depth_19 : decode cX12_depth 19 = .ok (.ireturn, 1) := by decide +kernel
theorem dX12_depth_20 : decode cX12_depth 20 = .ok (.aload_n 0, 1) := by decide +kernel
theorem dX12_depth_21 : decode cX12_depth 21 = .ok (.getfield 16, 3) := by decide +kernel
theorem dX12_depth_24 : decode cX12_depth 24 = .ok (.iconst 0, 1) := by decide +kernel
theorem dX12_depth_25 : decode cX12_depth 25 = .ok (.iaload, 1) := by decide +kernel
theorem dX12_depth_26 : decode cX12_depth 26 = .ok (.aload_n 0, 1) := by decide +kernel
theorem dX12_depth_27 : decode cX12_depth 27 = .ok (.getfield 16, 3) := by decide +kernel
theorem dX12_depth_30 : decode cX12_depth 30 = .ok (.iconst 1, 1) := by decide +kernel
theorem dX12_depth_31 : decode cX12_depth 31 = .ok (.iaload, 1) := by decide +kernel
theorem dX12_depth_32 : decode cX12_depth 32 = .ok (.iadd, 1) := by decide +kernel
theorem dX12_depth_33 : decode cX12_depth 33 = .ok (.ifCond .le 6, 3) := by decide +kernel
theorem dX12_depth_36 : decode cX12_depth 36 = .ok (.bipush (-3), 2) := by decide +kernel
theorem dX12_depth_38 : decode cX12_depth 38 = .ok (.ireturn, 1) := by decide +kernel
theorem dX12_depth_39 : decode cX12_depth 39 = .ok (.aload_n 0, 1) := by decide +kernel
theorem dX12_depth_40 : decode cX12_depth 40 = .ok (.getfield 13, 3) := by decide +kernel
theorem dX12_depth_43 : decode cX12_depth 43 = .ok (.istore_n 2, 1) := by decide +kernel
theorem dX12_depth_44 : decode cX12_depth 44 = .ok (.aload_n 0, 1) := by decide +kernel
theorem dX12_depth_45 : decode cX12_depth 45 = .ok (.iload_n 1, 1) := by decide +kernel
theorem dX12_depth_46 : decode cX12_depth 46 = .ok (.putfield 13, 3) := by decide +kernel
theorem dX12_depth_49 : decode cX12_depth 49 = .ok (.iload_n 2, 1) := by decide +kernel
theorem dX12_depth_50 : decode cX12_depth 50 = .ok (.ireturn, 1) := by decide +kernel
theorem dX12_sample_0 : decode cX12_sample 0 = .ok (.aload_n 0, 1) := by decide +kernel
theorem dX12_sample_1 : decode cX12_sample 1 = .ok (.iconst 0, 1) := by decide +kernel
theorem dX12_sample_2 : decode cX12_sample 2 = .ok (.putfield 1, 3) := by decide +kernel
theorem dX12_sample_5 : decode cX12_sample 5 = .ok (.iload_n 1, 1) := by decide +kernel
theorem dX12_sample_6 : decode cX12_sample 6 = .ok (.i2l, 1) := by decide +kernel
theorem dX12_sample_7 : decode cX12_sample 7 = .ok (.lconst 0, 1) := by decide +kernel
theorem dX12_sample_8 : decode cX12_sample 8 = .ok (.lconst 1, 1) := by decide +kernel
theorem dX12_sample_9 : decode cX12_sample 9 = .ok (.invokestatic 72, 3) := by decide +kernel
theorem dX12_sample_12 : decode cX12_sample 12 = .ok (.ifCond .eq 15, 3) := by decide +kernel
theorem dX12_sample_15 : decode cX12_sample 15 = .ok (.iload_n 2, 1) := by decide +kernel
theorem dX12_sample_16 : decode cX12_sample 16 = .ok (.i2l, 1) := by decide +kernel
theorem dX12_sample_17 : decode cX12_sample 17 = .ok (.aload_n 0, 1) := by decide +kernel
theorem dX12_sample_18 : decode cX12_sample 18 = .ok (.getfield 13, 3) := by decide +kernel
theorem dX12_sample_21 : decode cX12_sample 21 = .ok (.invokestatic 78, 3) := by decide +kernel
theorem dX12_sample_24 : decode cX12_sample 24 = .ok (.ifCond .ne 6, 3) := by decide +kernel
theorem dX12_sample_27 : decode cX12_sample 27 = .ok (.bipush (-2), 2) := by decide +kernel
theorem dX12_sample_29 : decode cX12_sample 29 = .ok (.ireturn, 1) := by decide +kernel
theorem dX12_sample_30 : decode cX12_sample 30 = .ok (.aload_n 0, 1) := by decide +kernel
theorem dX12_sample_31 : decode cX12_sample 31 = .ok (.getfield 16, 3) := by decide +kernel
theorem dX12_sample_34 : decode cX12_sample 34 = .ok (.iload_n 1, 1) := by decide +kernel
theorem dX12_sample_35 : decode cX12_sample 35 = .ok (.iaload, 1) := by decide +kernel
theorem dX12_sample_36 : decode cX12_sample 36 = .ok (.sipush 400, 3) := by decide +kernel
theorem dX12_sample_39 : decode cX12_sample 39 = .ok (.if_icmp .ne 6, 3) := by decide +kernel
theorem dX12_sample_42 : decode cX12_sample 42 = .ok (.bipush (-4), 2) := by decide +kernel
theorem dX12_sample_44 : decode cX12_sample 44 = .ok (.ireturn, 1) := by decide +kernel
theorem dX12_sample_45 : decode cX12_sample 45 = .ok (.aload_n 0, 1) := by decide +kernel
theorem dX12_sample_46 : decode cX12_sample 46 = .ok (.getfield 20, 3) := by decide +kernel
theorem dX12_sample_49 : decode cX12_sample 49 = .ok (.sipush 400, 3) := by decide +kernel
theorem dX12_sample_52 : decode cX12_sample 52 = .ok (.iload_n 1, 1) := by decide +kernel
theorem dX12_sample_53 : decode cX12_sample 53 = .ok (.imul, 1) := by decide +kernel
theorem dX12_sample_54 : decode cX12_sample 54 = .ok (.aload_n 0, 1) := by decide +kernel
theorem dX12_sample_55 : decode cX12_sample 55 = .ok (.getfield 16, 3) := by decide +kernel
theorem dX12_sample_58 : decode cX12_sample 58 = .ok (.iload_n 1, 1) := by decide +kernel
theorem dX12_sample_59 : decode cX12_sample 59 = .ok (.iaload, 1) := by decide +kernel
theorem dX12_sample_60 : decode cX12_sample 60 = .ok (.iadd, 1) := by decide +kernel
theorem dX12_sample_61 : decode cX12_sample 61 = .ok (.iload_n 2, 1) := by decide +kernel
theorem dX12_sample_62 : decode cX12_sample 62 = .ok (.iastore, 1) := by decide +kernel
theorem dX12_sample_63 : decode cX12_sample 63 = .ok (.aload_n 0, 1) := by decide +kernel
theorem dX12_sample_64 : decode cX12_sample 64 = .ok (.getfield 16, 3) := by decide +kernel
theorem dX12_sample_67 : decode cX12_sample 67 = .ok (.iload_n 1, 1) := by decide +kernel
theorem dX12_sample_68 : decode cX12_sample 68 = .ok (.dup2, 1) := by decide +kernel
theorem dX12_sample_69 : decode cX12_sample 69 = .ok (.iaload, 1) := by decide +kernel
theorem dX12_sample_70 : decode cX12_sample 70 = .ok (.iconst 1, 1) := by decide +kernel
theorem dX12_sample_71 : decode cX12_sample 71 = .ok (.iadd, 1) := by decide +kernel
theorem dX12_sample_72 : decode cX12_sample 72 = .ok (.iastore, 1) := by decide +kernel
theorem dX12_sample_73 : decode cX12_sample 73 = .ok (.aload_n 0, 1) := by decide +kernel
theorem dX12_sample_74 : decode cX12_sample 74 = .ok (.getfield 16, 3) := by decide +kernel
theorem dX12_sample_77 : decode cX12_sample 77 = .ok (.iload_n 1, 1) := by decide +kernel
theorem dX12_sample_78 : decode cX12_sample 78 = .ok (.iaload, 1) := by decide +kernel
theorem dX12_sample_79 : decode cX12_sample 79 = .ok (.ireturn, 1) := by decide +kernel
theorem dX12_drop_0 : decode cX12_drop 0 = .ok (.aload_n 0, 1) := by decide +kernel
theorem dX12_drop_1 : decode cX12_drop 1 = .ok (.iconst 0, 1) := by decide +kernel
theorem dX12_drop_2 : decode cX12_drop 2 = .ok (.putfield 1, 3) := by decide +kernel
theorem dX12_drop_5 : decode cX12_drop 5 = .ok (.iload_n 1, 1) := by decide +kernel
theorem dX12_drop_6 : decode cX12_drop 6 = .ok (.i2l, 1) := by decide +kernel
theorem dX12_drop_7 : decode cX12_drop 7 = .ok (.lconst 0, 1) := by decide +kernel
theorem dX12_drop_8 : decode cX12_drop 8 = .ok (.lconst 1, 1) := by decide +kernel
theorem dX12_drop_9 : decode cX12_drop 9 = .ok (.invokestatic 72, 3) := by decide +kernel
theorem dX12_drop_12 : decode cX12_drop 12 = .ok (.ifCond .ne 6, 3) := by decide +kernel
theorem dX12_drop_15 : decode cX12_drop 15 = .ok (.bipush (-2), 2) := by decide +kernel
theorem dX12_drop_17 : decode cX12_drop 17 = .ok (.ireturn, 1) := by decide +kernel
theorem dX12_drop_18 : decode cX12_drop 18 = .ok (.aload_n 0, 1) := by decide +kernel
theorem dX12_drop_19 : decode cX12_drop 19 = .ok (.getfield 16, 3) := by decide +kernel
theorem dX12_drop_22 : decode cX12_drop 22 = .ok (.iload_n 1, 1) := by decide +kernel
theorem dX12_drop_23 : decode cX12_drop 23 = .ok (.iaload, 1) := by decide +kernel
theorem dX12_drop_24 : decode cX12_drop 24 = .ok (.istore_n 2, 1) := by decide +kernel
theorem dX12_drop_25 : decode cX12_drop 25 = .ok (.aload_n 0, 1) := by decide +kernel
theorem dX12_drop_26 : decode cX12_drop 26 = .ok (.getfield 16, 3) := by decide +kernel
theorem dX12_drop_29 : decode cX12_drop 29 = .ok (.iload_n 1, 1) := by decide +kernel
theorem dX12_drop_30 : decode cX12_drop 30 = .ok (.iconst 0, 1) := by decide +kernel
theorem dX12_drop_31 : decode cX12_drop 31 = .ok (.iastore, 1) := by decide +kernel
theorem dX12_drop_32 : decode cX12_drop 32 = .ok (.iload_n 2, 1) := by decide +kernel
theorem dX12_drop_33 : decode cX12_drop 33 = .ok (.ireturn, 1) := by decide +kernel
theorem dX12_coefficients_0 : decode cX12_coefficients 0 = .ok (.aload_n 0, 1) := by decide +kernel
theorem dX12_coefficients_1 : decode cX12_coefficients 1 = .ok (.iconst 0, 1) := by decide +kernel
theorem dX12_coefficients_2 : decode cX12_coefficients 2 = .ok (.putfield 1, 3) := by decide +kernel
theorem dX12_coefficients_5 : decode cX12_coefficients 5 = .ok (.iload_n 1, 1) := by decide +kernel
theorem dX12_coefficients_6 : decode cX12_coefficients 6 = .ok (.i2l, 1) := by decide +kernel
theorem dX12_coefficients_7 : decode cX12_coefficients 7 = .ok (.lconst 0, 1) := by decide +kernel
theorem dX12_coefficients_8 : decode cX12_coefficients 8 = .ok (.ldc2_w 82, 3) := by decide +kernel
theorem dX12_coefficients_11 : decode cX12_coefficients 11 = .ok (.invokestatic 72, 3) := by decide +kernel
theorem dX12_coefficients_14 : decode cX12_coefficients 14 = .ok (.ifCond .eq 19, 3) := by decide +kernel
theorem dX12_coefficients_17 : decode cX12_coefficients 17 = .ok (.iload_n 1, 1) := by decide +kernel
theorem dX12_coefficients_18 : decode cX12_coefficients 18 = .ok (.ifCond .le 18, 3) := by decide +kernel
theorem dX12_coefficients_21 : decode cX12_coefficients 21 = .ok (.iload_n 2, 1) := by decide +kernel
theorem dX12_coefficients_22 : decode cX12_coefficients 22 = .ok (.i2l, 1) := by decide +kernel
theorem dX12_coefficients_23 : decode cX12_coefficients 23 = .ok (.lconst 0, 1) := by decide +kernel
theorem dX12_coefficients_24 : decode cX12_coefficients 24 = .ok (.ldc2_w 84, 3) := by decide +kernel
theorem dX12_coefficients_27 : decode cX12_coefficients 27 = .ok (.invokestatic 72, 3) := by decide +kernel
theorem dX12_coefficients_30 : decode cX12_coefficients 30 = .ok (.ifCond .ne 6, 3) := by decide +kernel
theorem dX12_coefficients_33 : decode cX12_coefficients 33 = .ok (.bipush (-2), 2) := by decide +kernel
theorem dX12_coefficients_35 : decode cX12_coefficients 35 = .ok (.ireturn, 1) := by decide +kernel
theorem dX12_coefficients_36 : decode cX12_coefficients 36 = .ok (.aload_n 0, 1) := by decide +kernel
theorem dX12_coefficients_37 : decode cX12_coefficients 37 = .ok (.getfield 86, 3) := by decide +kernel
theorem dX12_coefficients_40 : decode cX12_coefficients 40 = .ok (.istore 5, 2) := by decide +kernel
theorem dX12_coefficients_42 : decode cX12_coefficients 42 = .ok (.aload_n 0, 1) := by decide +kernel
theorem dX12_coefficients_43 : decode cX12_coefficients 43 = .ok (.iload_n 1, 1) := by decide +kernel
theorem dX12_coefficients_44 : decode cX12_coefficients 44 = .ok (.putfield 86, 3) := by decide +kernel
theorem dX12_coefficients_47 : decode cX12_coefficients 47 = .ok (.aload_n 0, 1) := by decide +kernel
theorem dX12_coefficients_48 : decode cX12_coefficients 48 = .ok (.iload_n 1, 1) := by decide +kernel
theorem dX12_coefficients_49 : decode cX12_coefficients 49 = .ok (.ifCond .le 7, 3) := by decide +kernel
theorem dX12_coefficients_52 : decode cX12_coefficients 52 = .ok (.iload_n 2, 1) := by decide +kernel
theorem dX12_coefficients_53 : decode cX12_coefficients 53 = .ok (.goto 4, 3) := by decide +kernel
theorem dX12_coefficients_56 : decode cX12_coefficients 56 = .ok (.iconst 0, 1) := by decide +kernel
theorem dX12_coefficients_57 : decode cX12_coefficients 57 = .ok (.putfield 89, 3) := by decide +kernel
theorem dX12_coefficients_60 : decode cX12_coefficients 60 = .ok (.iconst 0, 1) := by decide +kernel
theorem dX12_coefficients_61 : decode cX12_coefficients 61 = .ok (.istore 6, 2) := by decide +kernel
theorem dX12_coefficients_63 : decode cX12_coefficients 63 = .ok (.iload 6, 2) := by decide +kernel
theorem dX12_coefficients_65 : decode cX12_coefficients 65 = .ok (.iload_n 1, 1) := by decide +kernel
theorem dX12_coefficients_66 : decode cX12_coefficients 66 = .ok (.if_icmp .ge 49, 3) := by decide +kernel
theorem dX12_coefficients_69 : decode cX12_coefficients 69 = .ok (.lload_n 3, 1) := by decide +kernel
theorem dX12_coefficients_70 : decode cX12_coefficients 70 = .ok (.bipush 10, 2) := by decide +kernel
theorem dX12_coefficients_72 : decode cX12_coefficients 72 = .ok (.iload 6, 2) := by decide +kernel
theorem dX12_coefficients_74 : decode cX12_coefficients 74 = .ok (.imul, 1) := by decide +kernel
theorem dX12_coefficients_75 : decode cX12_coefficients 75 = .ok (.lushr, 1) := by decide +kernel
theorem dX12_coefficients_76 : decode cX12_coefficients 76 = .ok (.l2i, 1) := by decide +kernel
theorem dX12_coefficients_77 : decode cX12_coefficients 77 = .ok (.sipush 1023, 3) := by decide +kernel
theorem dX12_coefficients_80 : decode cX12_coefficients 80 = .ok (.iand, 1) := by decide +kernel
theorem dX12_coefficients_81 : decode cX12_coefficients 81 = .ok (.istore 7, 2) := by decide +kernel
theorem dX12_coefficients_83 : decode cX12_coefficients 83 = .ok (.aload_n 0, 1) := by decide +kernel
theorem dX12_coefficients_84 : decode cX12_coefficients 84 = .ok (.getfield 26, 3) := by decide +kernel
theorem dX12_coefficients_87 : decode cX12_coefficients 87 = .ok (.iload 6, 2) := by decide +kernel
theorem dX12_coefficients_89 : decode cX12_coefficients 89 = .ok (.iload 7, 2) := by decide +kernel
theorem dX12_coefficients_91 : decode cX12_coefficients 91 = .ok (.sipush 511, 3) := by decide +kernel
theorem dX12_coefficients_94 : decode cX12_coefficients 94 = .ok (.if_icmp .le 12, 3) := by decide +kernel
theorem dX12_coefficients_97 : decode cX12_coefficients 97 = .ok (.iload 7, 2) := by decide +kernel
theorem dX12_coefficients_99 : decode cX12_coefficients 99 = .ok (.sipush 1024, 3) := by decide +kernel
theorem dX12_coefficients_102 : decode cX12_coefficients 102 = .ok (.isub, 1) := by decide +kernel
theorem dX12_coefficients_103 : decode cX12_coefficients 103 = .ok (.goto 5, 3) := by decide +kernel
theorem dX12_coefficients_106 : decode cX12_coefficients 106 = .ok (.iload 7, 2) := by decide +kernel
theorem dX12_coefficients_108 : decode cX12_coefficients 108 = .ok (.iastore, 1) := by decide +kernel
theorem dX12_coefficients_109 : decode cX12_coefficients 109 = .ok (.iinc 6 1, 3) := by decide +kernel
theorem dX12_coefficients_112 : decode cX12_coefficients 112 = .ok (.goto (-49), 3) := by decide +kernel
theorem dX12_coefficients_115 : decode cX12_coefficients 115 = .ok (.iload 5, 2) := by decide +kernel
theorem dX12_coefficients_117 : decode cX12_coefficients 117 = .ok (.ireturn, 1) := by decide +kernel
theorem dX12_takeOut_0 : decode cX12_takeOut 0 = .ok (.iconst 0, 1) := by decide +kernel
theorem dX12_takeOut_1 : decode cX12_takeOut 1 = .ok (.istore_n 2, 1) := by decide +kernel
theorem dX12_takeOut_2 : decode cX12_takeOut 2 = .ok (.iconst 0, 1) := by decide +kernel
theorem dX12_takeOut_3 : decode cX12_takeOut 3 = .ok (.istore_n 3, 1) := by decide +kernel
theorem dX12_takeOut_4 : decode cX12_takeOut 4 = .ok (.iload_n 3, 1) := by decide +kernel
theorem dX12_takeOut_5 : decode cX12_takeOut 5 = .ok (.aload_n 0, 1) := by decide +kernel
theorem dX12_takeOut_6 : decode cX12_takeOut 6 = .ok (.getfield 92, 3) := by decide +kernel
theorem dX12_takeOut_9 : decode cX12_takeOut 9 = .ok (.if_icmp .ge 18, 3) := by decide +kernel
theorem dX12_takeOut_12 : decode cX12_takeOut 12 = .ok (.iload_n 2, 1) := by decide +kernel
theorem dX12_takeOut_13 : decode cX12_takeOut 13 = .ok (.aload_n 0, 1) := by decide +kernel
theorem dX12_takeOut_14 : decode cX12_takeOut 14 = .ok (.getfield 47, 3) := by decide +kernel
theorem dX12_takeOut_17 : decode cX12_takeOut 17 = .ok (.iload_n 3, 1) := by decide +kernel
theorem dX12_takeOut_18 : decode cX12_takeOut 18 = .ok (.iaload, 1) := by decide +kernel
theorem dX12_takeOut_19 : decode cX12_takeOut 19 = .ok (.ior, 1) := by decide +kernel
theorem dX12_takeOut_20 : decode cX12_takeOut 20 = .ok (.istore_n 2, 1) := by decide +kernel
theorem dX12_takeOut_21 : decode cX12_takeOut 21 = .ok (.iinc 3 1, 3) := by decide +kernel
theorem dX12_takeOut_24 : decode cX12_takeOut 24 = .ok (.goto (-20), 3) := by decide +kernel
theorem dX12_takeOut_27 : decode cX12_takeOut 27 = .ok (.aload_n 0, 1) := by decide +kernel
theorem dX12_takeOut_28 : decode cX12_takeOut 28 = .ok (.iconst 0, 1) := by decide +kernel
theorem dX12_takeOut_29 : decode cX12_takeOut 29 = .ok (.putfield 95, 3) := by decide +kernel
theorem dX12_takeOut_32 : decode cX12_takeOut 32 = .ok (.iload_n 2, 1) := by decide +kernel
theorem dX12_takeOut_33 : decode cX12_takeOut 33 = .ok (.ifCond .eq 46, 3) := by decide +kernel
theorem dX12_takeOut_36 : decode cX12_takeOut 36 = .ok (.aload_n 0, 1) := by decide +kernel
theorem dX12_takeOut_37 : decode cX12_takeOut 37 = .ok (.getfield 95, 3) := by decide +kernel
theorem dX12_takeOut_40 : decode cX12_takeOut 40 = .ok (.iload_n 1, 1) := by decide +kernel
theorem dX12_takeOut_41 : decode cX12_takeOut 41 = .ok (.iconst 1, 1) := by decide +kernel
theorem dX12_takeOut_42 : decode cX12_takeOut 42 = .ok (.isub, 1) := by decide +kernel
theorem dX12_takeOut_43 : decode cX12_takeOut 43 = .ok (.if_icmp .ge 36, 3) := by decide +kernel
theorem dX12_takeOut_46 : decode cX12_takeOut 46 = .ok (.aload_n 0, 1) := by decide +kernel
theorem dX12_takeOut_47 : decode cX12_takeOut 47 = .ok (.getfield 95, 3) := by decide +kernel
theorem dX12_takeOut_50 : decode cX12_takeOut 50 = .ok (.bipush 15, 2) := by decide +kernel
theorem dX12_takeOut_52 : decode cX12_takeOut 52 = .ok (.if_icmp .ge 27, 3) := by decide +kernel
theorem dX12_takeOut_55 : decode cX12_takeOut 55 = .ok (.iload_n 2, 1) := by decide +kernel
theorem dX12_takeOut_56 : decode cX12_takeOut 56 = .ok (.aload_n 0, 1) := by decide +kernel
theorem dX12_takeOut_57 : decode cX12_takeOut 57 = .ok (.getfield 95, 3) := by decide +kernel
theorem dX12_takeOut_60 : decode cX12_takeOut 60 = .ok (.ishr, 1) := by decide +kernel
theorem dX12_takeOut_61 : decode cX12_takeOut 61 = .ok (.iconst 1, 1) := by decide +kernel
theorem dX12_takeOut_62 : decode cX12_takeOut 62 = .ok (.iand, 1) := by decide +kernel
theorem dX12_takeOut_63 : decode cX12_takeOut 63 = .ok (.ifCond .ne 16, 3) := by decide +kernel
theorem dX12_takeOut_66 : decode cX12_takeOut 66 = .ok (.aload_n 0, 1) := by decide +kernel
theorem dX12_takeOut_67 : decode cX12_takeOut 67 = .ok (.dup, 1) := by decide +kernel
theorem dX12_takeOut_68 : decode cX12_takeOut 68 = .ok (.getfield 95, 3) := by decide +kernel
theorem dX12_takeOut_71 : decode cX12_takeOut 71 = .ok (.iconst 1, 1) := by decide +kernel
theorem dX12_takeOut_72 : decode cX12_takeOut 72 = .ok (.iadd, 1) := by decide +kernel
theorem dX12_takeOut_73 : decode cX12_takeOut 73 = .ok (.putfield 95, 3) := by decide +kernel
theorem dX12_takeOut_76 : decode cX12_takeOut 76 = .ok (.goto (-44), 3) := by decide +kernel
theorem dX12_takeOut_79 : decode cX12_takeOut 79 = .ok (.iconst 0, 1) := by decide +kernel
theorem dX12_takeOut_80 : decode cX12_takeOut 80 = .ok (.istore_n 3, 1) := by decide +kernel
theorem dX12_takeOut_81 : decode cX12_takeOut 81 = .ok (.iload_n 3, 1) := by decide +kernel
theorem dX12_takeOut_82 : decode cX12_takeOut 82 = .ok (.aload_n 0, 1) := by decide +kernel
theorem dX12_takeOut_83 : decode cX12_takeOut 83 = .ok (.getfield 92, 3) := by decide +kernel
theorem dX12_takeOut_86 : decode cX12_takeOut 86 = .ok (.if_icmp .ge 22, 3) := by decide +kernel
theorem dX12_takeOut_89 : decode cX12_takeOut 89 = .ok (.aload_n 0, 1) := by decide +kernel
theorem dX12_takeOut_90 : decode cX12_takeOut 90 = .ok (.getfield 47, 3) := by decide +kernel
theorem dX12_takeOut_93 : decode cX12_takeOut 93 = .ok (.iload_n 3, 1) := by decide +kernel
theorem dX12_takeOut_94 : decode cX12_takeOut 94 = .ok (.dup2, 1) := by decide +kernel
theorem dX12_takeOut_95 : decode cX12_takeOut 95 = .ok (.iaload, 1) := by decide +kernel
theorem dX12_takeOut_96 : decode cX12_takeOut 96 = .ok (.aload_n 0, 1) := by decide +kernel
theorem dX12_takeOut_97 : decode cX12_takeOut 97 = .ok (.getfield 95, 3) := by decide +kernel
theorem dX12_takeOut_100 : decode cX12_takeOut 100 = .ok (.ishr, 1) := by decide +kernel
theorem dX12_takeOut_101 : decode cX12_takeOut 101 = .ok (.iastore, 1) := by decide +kernel
theorem dX12_takeOut_102 : decode cX12_takeOut 102 = .ok (.iinc 3 1, 3) := by decide +kernel
theorem dX12_takeOut_105 : decode cX12_takeOut 105 = .ok (.goto (-24), 3) := by decide +kernel
theorem dX12_takeOut_108 : decode cX12_takeOut 108 = .ok (.aload_n 0, 1) := by decide +kernel
theorem dX12_takeOut_109 : decode cX12_takeOut 109 = .ok (.iload_n 1, 1) := by decide +kernel
theorem dX12_takeOut_110 : decode cX12_takeOut 110 = .ok (.aload_n 0, 1) := by decide +kernel
theorem dX12_takeOut_111 : decode cX12_takeOut 111 = .ok (.getfield 95, 3) := by decide +kernel
theorem dX12_takeOut_114 : decode cX12_takeOut 114 = .ok (.isub, 1) := by decide +kernel
theorem dX12_takeOut_115 : decode cX12_takeOut 115 = .ok (.putfield 98, 3) := by decide +kernel
theorem dX12_takeOut_118 : decode cX12_takeOut 118 = .ok (.return_, 1) := by decide +kernel
theorem dX12_fixed_0 : decode cX12_fixed 0 = .ok (.iload_n 0, 1) := by decide +kernel
theorem dX12_fixed_1 : decode cX12_fixed 1 = .ok (.ifCond .ne 7, 3) := by decide +kernel
theorem dX12_fixed_4 : decode cX12_fixed 4 = .ok (.lconst 0, 1) := by decide +kernel
theorem dX12_fixed_5 : decode cX12_fixed 5 = .ok (.goto 70, 3) := by decide +kernel
theorem dX12_fixed_8 : decode cX12_fixed 8 = .ok (.iload_n 0, 1) := by decide +kernel
theorem dX12_fixed_9 : decode cX12_fixed 9 = .ok (.iconst 1, 1) := by decide +kernel
theorem dX12_fixed_10 : decode cX12_fixed 10 = .ok (.if_icmp .ne 7, 3) := by decide +kernel
theorem dX12_fixed_13 : decode cX12_fixed 13 = .ok (.lload_n 1, 1) := by decide +kernel
theorem dX12_fixed_14 : decode cX12_fixed 14 = .ok (.goto 61, 3) := by decide +kernel
theorem dX12_fixed_17 : decode cX12_fixed 17 = .ok (.iload_n 0, 1) := by decide +kernel
theorem dX12_fixed_18 : decode cX12_fixed 18 = .ok (.iconst 2, 1) := by decide +kernel
theorem dX12_fixed_19 : decode cX12_fixed 19 = .ok (.if_icmp .ne 13, 3) := by decide +kernel
theorem dX12_fixed_22 : decode cX12_fixed 22 = .ok (.ldc2_w 101, 3) := by decide +kernel
theorem dX12_fixed_25 : decode cX12_fixed 25 = .ok (.lload_n 1, 1) := by decide +kernel
theorem dX12_fixed_26 : decode cX12_fixed 26 = .ok (.lmul, 1) := by decide +kernel
theorem dX12_fixed_27 : decode cX12_fixed 27 = .ok (.lload_n 3, 1) := by decide +kernel
theorem dX12_fixed_28 : decode cX12_fixed 28 = .ok (.lsub, 1) := by decide +kernel
theorem dX12_fixed_29 : decode cX12_fixed 29 = .ok (.goto 46, 3) := by decide +kernel
theorem dX12_fixed_32 : decode cX12_fixed 32 = .ok (.iload_n 0, 1) := by decide +kernel
theorem dX12_fixed_33 : decode cX12_fixed 33 = .ok (.iconst 3, 1) := by decide +kernel
theorem dX12_fixed_34 : decode cX12_fixed 34 = .ok (.if_icmp .ne 20, 3) := by decide +kernel
theorem dX12_fixed_37 : decode cX12_fixed 37 = .ok (.ldc2_w 103, 3) := by decide +kernel
theorem dX12_fixed_40 : decode cX12_fixed 40 = .ok (.lload_n 1, 1) := by decide +kernel
theorem dX12_fixed_41 : decode cX12_fixed 41 = .ok (.lmul, 1) := by decide +kernel
theorem dX12_fixed_42 : decode cX12_fixed 42 = .ok (.ldc2_w 103, 3) := by decide +kernel
theorem dX12_fixed_45 : decode cX12_fixed 45 = .ok (.lload_n 3, 1) := by decide +kernel
theorem dX12_fixed_46 : decode cX12_fixed 46 = .ok (.lmul, 1) := by decide +kernel
theorem dX12_fixed_47 : decode cX12_fixed 47 = .ok (.lsub, 1) := by decide +kernel
theorem dX12_fixed_48 : decode cX12_fixed 48 = .ok (.lload 5, 2) := by decide +kernel
theorem dX12_fixed_50 : decode cX12_fixed 50 = .ok (.ladd, 1) := by decide +kernel
theorem dX12_fixed_51 : decode cX12_fixed 51 = .ok (.goto 24, 3) := by decide +kernel
theorem dX12_fixed_54 : decode cX12_fixed 54 = .ok (.ldc2_w 82, 3) := by decide +kernel
theorem dX12_fixed_57 : decode cX12_fixed 57 = .ok (.lload_n 1, 1) := by decide +kernel
theorem dX12_fixed_58 : decode cX12_fixed 58 = .ok (.lmul, 1) := by decide +kernel
theorem dX12_fixed_59 : decode cX12_fixed 59 = .ok (.ldc2_w 105, 3) := by decide +kernel
theorem dX12_fixed_62 : decode cX12_fixed 62 = .ok (.lload_n 3, 1) := by decide +kernel
theorem dX12_fixed_63 : decode cX12_fixed 63 = .ok (.lmul, 1) := by decide +kernel
theorem dX12_fixed_64 : decode cX12_fixed 64 = .ok (.lsub, 1) := by decide +kernel
theorem dX12_fixed_65 : decode cX12_fixed 65 = .ok (.ldc2_w 82, 3) := by decide +kernel
theorem dX12_fixed_68 : decode cX12_fixed 68 = .ok (.lload 5, 2) := by decide +kernel
theorem dX12_fixed_70 : decode cX12_fixed 70 = .ok (.lmul, 1) := by decide +kernel
theorem dX12_fixed_71 : decode cX12_fixed 71 = .ok (.ladd, 1) := by decide +kernel
theorem dX12_fixed_72 : decode cX12_fixed 72 = .ok (.lload 7, 2) := by decide +kernel
theorem dX12_fixed_74 : decode cX12_fixed 74 = .ok (.lsub, 1) := by decide +kernel
theorem dX12_fixed_75 : decode cX12_fixed 75 = .ok (.lreturn, 1) := by decide +kernel
theorem dX12_before_0 : decode cX12_before 0 = .ok (.iload_n 1, 1) := by decide +kernel
theorem dX12_before_1 : decode cX12_before 1 = .ok (.iload_n 2, 1) := by decide +kernel
theorem dX12_before_2 : decode cX12_before 2 = .ok (.if_icmp .lt 15, 3) := by decide +kernel
theorem dX12_before_5 : decode cX12_before 5 = .ok (.aload_n 0, 1) := by decide +kernel
theorem dX12_before_6 : decode cX12_before 6 = .ok (.getfield 47, 3) := by decide +kernel
theorem dX12_before_9 : decode cX12_before 9 = .ok (.iload_n 1, 1) := by decide +kernel
theorem dX12_before_10 : decode cX12_before 10 = .ok (.iload_n 2, 1) := by decide +kernel
theorem dX12_before_11 : decode cX12_before 11 = .ok (.isub, 1) := by decide +kernel
theorem dX12_before_12 : decode cX12_before 12 = .ok (.iaload, 1) := by decide +kernel
theorem dX12_before_13 : decode cX12_before 13 = .ok (.i2l, 1) := by decide +kernel
theorem dX12_before_14 : decode cX12_before 14 = .ok (.goto 4, 3) := by decide +kernel
theorem dX12_before_17 : decode cX12_before 17 = .ok (.lconst 0, 1) := by decide +kernel
theorem dX12_before_18 : decode cX12_before 18 = .ok (.lreturn, 1) := by decide +kernel
theorem dX12_foretold_0 : decode cX12_foretold 0 = .ok (.iload_n 1, 1) := by decide +kernel
theorem dX12_foretold_1 : decode cX12_foretold 1 = .ok (.bipush 7, 2) := by decide +kernel
theorem dX12_foretold_3 : decode cX12_foretold 3 = .ok (.if_icmp .ge 34, 3) := by decide +kernel
theorem dX12_foretold_6 : decode cX12_foretold 6 = .ok (.iload_n 1, 1) := by decide +kernel
theorem dX12_foretold_7 : decode cX12_foretold 7 = .ok (.iconst 2, 1) := by decide +kernel
theorem dX12_foretold_8 : decode cX12_foretold 8 = .ok (.isub, 1) := by decide +kernel
theorem dX12_foretold_9 : decode cX12_foretold 9 = .ok (.aload_n 0, 1) := by decide +kernel
theorem dX12_foretold_10 : decode cX12_foretold 10 = .ok (.iload_n 2, 1) := by decide +kernel
theorem dX12_foretold_11 : decode cX12_foretold 11 = .ok (.iconst 1, 1) := by decide +kernel
theorem dX12_foretold_12 : decode cX12_foretold 12 = .ok (.invokevirtual 107, 3) := by decide +kernel
theorem dX12_foretold_15 : decode cX12_foretold 15 = .ok (.aload_n 0, 1) := by decide +kernel
theorem dX12_foretold_16 : decode cX12_foretold 16 = .ok (.iload_n 2, 1) := by decide +kernel
theorem dX12_foretold_17 : decode cX12_foretold 17 = .ok (.iconst 2, 1) := by decide +kernel
theorem dX12_foretold_18 : decode cX12_foretold 18 = .ok (.invokevirtual 107, 3) := by decide +kernel
theorem dX12_foretold_21 : decode cX12_foretold 21 = .ok (.aload_n 0, 1) := by decide +kernel
theorem dX12_foretold_22 : decode cX12_foretold 22 = .ok (.iload_n 2, 1) := by decide +kernel
theorem dX12_foretold_23 : decode cX12_foretold 23 = .ok (.iconst 3, 1) := by decide +kernel
theorem dX12_foretold_24 : decode cX12_foretold 24 = .ok (.invokevirtual 107, 3) := by decide +kernel
theorem dX12_foretold_27 : decode cX12_foretold 27 = .ok (.aload_n 0, 1) := by decide +kernel
theorem dX12_foretold_28 : decode cX12_foretold 28 = .ok (.iload_n 2, 1) := by decide +kernel
theorem dX12_foretold_29 : decode cX12_foretold 29 = .ok (.iconst 4, 1) := by decide +kernel
theorem dX12_foretold_30 : decode cX12_foretold 30 = .ok (.invokevirtual 107, 3) := by decide +kernel
theorem dX12_foretold_33 : decode cX12_foretold 33 = .ok (.invokestatic 111, 3) := by decide +kernel
theorem dX12_foretold_36 : decode cX12_foretold 36 = .ok (.lreturn, 1) := by decide +kernel
theorem dX12_foretold_37 : decode cX12_foretold 37 = .ok (.lconst 0, 1) := by decide +kernel
theorem dX12_foretold_38 : decode cX12_foretold 38 = .ok (.lstore_n 3, 1) := by decide +kernel
theorem dX12_foretold_39 : decode cX12_foretold 39 = .ok (.iconst 0, 1) := by decide +kernel
theorem dX12_foretold_40 : decode cX12_foretold 40 = .ok (.istore 5, 2) := by decide +kernel
theorem dX12_foretold_42 : decode cX12_foretold 42 = .ok (.iload 5, 2) := by decide +kernel
theorem dX12_foretold_44 : decode cX12_foretold 44 = .ok (.aload_n 0, 1) := by decide +kernel
theorem dX12_foretold_45 : decode cX12_foretold 45 = .ok (.getfield 86, 3) := by decide +kernel
theorem dX12_foretold_48 : decode cX12_foretold 48 = .ok (.if_icmp .ge 30, 3) := by decide +kernel
theorem dX12_foretold_51 : decode cX12_foretold 51 = .ok (.lload_n 3, 1) := by decide +kernel
theorem dX12_foretold_52 : decode cX12_foretold 52 = .ok (.aload_n 0, 1) := by decide +kernel
theorem dX12_foretold_53 : decode cX12_foretold 53 = .ok (.getfield 26, 3) := by decide +kernel
theorem dX12_foretold_56 : decode cX12_foretold 56 = .ok (.iload 5, 2) := by decide +kernel
theorem dX12_foretold_58 : decode cX12_foretold 58 = .ok (.iaload, 1) := by decide +kernel
theorem dX12_foretold_59 : decode cX12_foretold 59 = .ok (.i2l, 1) := by decide +kernel
theorem dX12_foretold_60 : decode cX12_foretold 60 = .ok (.aload_n 0, 1) := by decide +kernel
theorem dX12_foretold_61 : decode cX12_foretold 61 = .ok (.iload_n 2, 1) := by decide +kernel
theorem dX12_foretold_62 : decode cX12_foretold 62 = .ok (.iload 5, 2) := by decide +kernel
theorem dX12_foretold_64 : decode cX12_foretold 64 = .ok (.iconst 1, 1) := by decide +kernel
theorem dX12_foretold_65 : decode cX12_foretold 65 = .ok (.iadd, 1) := by decide +kernel
theorem dX12_foretold_66 : decode cX12_foretold 66 = .ok (.invokevirtual 107, 3) := by decide +kernel
theorem dX12_foretold_69 : decode cX12_foretold 69 = .ok (.lmul, 1) := by decide +kernel
theorem dX12_foretold_70 : decode cX12_foretold 70 = .ok (.ladd, 1) := by decide +kernel
theorem dX12_foretold_71 : decode cX12_foretold 71 = .ok (.lstore_n 3, 1) := by decide +kernel
theorem dX12_foretold_72 : decode cX12_foretold 72 = .ok (.iinc 5 1, 3) := by decide +kernel
theorem dX12_foretold_75 : decode cX12_foretold 75 = .ok (.goto (-33), 3) := by decide +kernel
theorem dX12_foretold_78 : decode cX12_foretold 78 = .ok (.lload_n 3, 1) := by decide +kernel
theorem dX12_foretold_79 : decode cX12_foretold 79 = .ok (.aload_n 0, 1) := by decide +kernel
theorem dX12_foretold_80 : decode cX12_foretold 80 = .ok (.getfield 89, 3) := by decide +kernel
theorem dX12_foretold_83 : decode cX12_foretold 83 = .ok (.lshr, 1) := by decide +kernel
theorem dX12_foretold_84 : decode cX12_foretold 84 = .ok (.lreturn, 1) := by decide +kernel
theorem dX12_orderOf_0 : decode cX12_orderOf 0 = .ok (.iload_n 1, 1) := by decide +kernel
theorem dX12_orderOf_1 : decode cX12_orderOf 1 = .ok (.iconst 2, 1) := by decide +kernel
theorem dX12_orderOf_2 : decode cX12_orderOf 2 = .ok (.if_icmp .ge 7, 3) := by decide +kernel
theorem dX12_orderOf_5 : decode cX12_orderOf 5 = .ok (.iconst 0, 1) := by decide +kernel
theorem dX12_orderOf_6 : decode cX12_orderOf 6 = .ok (.goto 19, 3) := by decide +kernel
theorem dX12_orderOf_9 : decode cX12_orderOf 9 = .ok (.iload_n 1, 1) := by decide +kernel
theorem dX12_orderOf_10 : decode cX12_orderOf 10 = .ok (.bipush 7, 2) := by decide +kernel
theorem dX12_orderOf_12 : decode cX12_orderOf 12 = .ok (.if_icmp .ge 9, 3) := by decide +kernel
theorem dX12_orderOf_15 : decode cX12_orderOf 15 = .ok (.iload_n 1, 1) := by decide +kernel
theorem dX12_orderOf_16 : decode cX12_orderOf 16 = .ok (.iconst 2, 1) := by decide +kernel
theorem dX12_orderOf_17 : decode cX12_orderOf 17 = .ok (.isub, 1) := by decide +kernel
theorem dX12_orderOf_18 : decode cX12_orderOf 18 = .ok (.goto 7, 3) := by decide +kernel
theorem dX12_orderOf_21 : decode cX12_orderOf 21 = .ok (.aload_n 0, 1) := by decide +kernel
theorem dX12_orderOf_22 : decode cX12_orderOf 22 = .ok (.getfield 86, 3) := by decide +kernel
theorem dX12_orderOf_25 : decode cX12_orderOf 25 = .ok (.ireturn, 1) := by decide +kernel
theorem dX12_roomOf_0 : decode cX12_roomOf 0 = .ok (.iconst 0, 1) := by decide +kernel
theorem dX12_roomOf_1 : decode cX12_roomOf 1 = .ok (.istore_n 2, 1) := by decide +kernel
theorem dX12_roomOf_2 : decode cX12_roomOf 2 = .ok (.iload_n 2, 1) := by decide +kernel
theorem dX12_roomOf_3 : decode cX12_roomOf 3 = .ok (.ifCond .ne 12, 3) := by decide +kernel
theorem dX12_roomOf_6 : decode cX12_roomOf 6 = .ok (.lload_n 0, 1) := by decide +kernel
theorem dX12_roomOf_7 : decode cX12_roomOf 7 = .ok (.lconst 0, 1) := by decide +kernel
theorem dX12_roomOf_8 : decode cX12_roomOf 8 = .ok (.lcmp, 1) := by decide +kernel
theorem dX12_roomOf_9 : decode cX12_roomOf 9 = .ok (.ifCond .eq 32, 3) := by decide +kernel
theorem dX12_roomOf_12 : decode cX12_roomOf 12 = .ok (.goto 23, 3) := by decide +kernel
theorem dX12_roomOf_15 : decode cX12_roomOf 15 = .ok (.lload_n 0, 1) := by decide +kernel
theorem dX12_roomOf_16 : decode cX12_roomOf 16 = .ok (.lconst 1, 1) := by decide +kernel
theorem dX12_roomOf_17 : decode cX12_roomOf 17 = .ok (.iload_n 2, 1) := by decide +kernel
theorem dX12_roomOf_18 : decode cX12_roomOf 18 = .ok (.iconst 1, 1) := by decide +kernel
theorem dX12_roomOf_19 : decode cX12_roomOf 19 = .ok (.isub, 1) := by decide +kernel
theorem dX12_roomOf_20 : decode cX12_roomOf 20 = .ok (.lshl, 1) := by decide +kernel
theorem dX12_roomOf_21 : decode cX12_roomOf 21 = .ok (.lneg, 1) := by decide +kernel
theorem dX12_roomOf_22 : decode cX12_roomOf 22 = .ok (.lconst 1, 1) := by decide +kernel
theorem dX12_roomOf_23 : decode cX12_roomOf 23 = .ok (.iload_n 2, 1) := by decide +kernel
theorem dX12_roomOf_24 : decode cX12_roomOf 24 = .ok (.iconst 1, 1) := by decide +kernel
theorem dX12_roomOf_25 : decode cX12_roomOf 25 = .ok (.isub, 1) := by decide +kernel
theorem dX12_roomOf_26 : decode cX12_roomOf 26 = .ok (.lshl, 1) := by decide +kernel
theorem dX12_roomOf_27 : decode cX12_roomOf 27 = .ok (.lconst 1, 1) := by decide +kernel
theorem dX12_roomOf_28 : decode cX12_roomOf 28 = .ok (.lsub, 1) := by decide +kernel
theorem dX12_roomOf_29 : decode cX12_roomOf 29 = .ok (.invokestatic 72, 3) := by decide +kernel
theorem dX12_roomOf_32 : decode cX12_roomOf 32 = .ok (.ifCond .ne 9, 3) := by decide +kernel
theorem dX12_roomOf_35 : decode cX12_roomOf 35 = .ok (.iinc 2 1, 3) := by decide +kernel
theorem dX12_roomOf_38 : decode cX12_roomOf 38 = .ok (.goto (-36), 3) := by decide +kernel
theorem dX12_roomOf_41 : decode cX12_roomOf 41 = .ok (.iload_n 2, 1) := by decide +kernel
theorem dX12_roomOf_42 : decode cX12_roomOf 42 = .ok (.ireturn, 1) := by decide +kernel
theorem dX12_partBits_0 : decode cX12_partBits 0 = .ok (.ldc2_w 115, 3) := by decide +kernel
theorem dX12_partBits_3 : decode cX12_partBits 3 = .ok (.lstore_n 3, 1) := by decide +kernel
theorem dX12_partBits_4 : decode cX12_partBits 4 = .ok (.iconst 0, 1) := by decide +kernel
theorem dX12_partBits_5 : decode cX12_partBits 5 = .ok (.istore 5, 2) := by decide +kernel
theorem dX12_partBits_7 : decode cX12_partBits 7 = .ok (.iload 5, 2) := by decide +kernel
theorem dX12_partBits_9 : decode cX12_partBits 9 = .ok (.bipush 15, 2) := by decide +kernel
theorem dX12_partBits_11 : decode cX12_partBits 11 = .ok (.if_icmp .ge 71, 3) := by decide +kernel
theorem dX12_partBits_14 : decode cX12_partBits 14 = .ok (.ldc2_w 82, 3) := by decide +kernel
theorem dX12_partBits_17 : decode cX12_partBits 17 = .ok (.lstore 6, 2) := by decide +kernel
theorem dX12_partBits_19 : decode cX12_partBits 19 = .ok (.iload_n 1, 1) := by decide +kernel
theorem dX12_partBits_20 : decode cX12_partBits 20 = .ok (.istore 8, 2) := by decide +kernel
theorem dX12_partBits_22 : decode cX12_partBits 22 = .ok (.iload 8, 2) := by decide +kernel
theorem dX12_partBits_24 : decode cX12_partBits 24 = .ok (.iload_n 2, 1) := by decide +kernel
theorem dX12_partBits_25 : decode cX12_partBits 25 = .ok (.if_icmp .ge 30, 3) := by decide +kernel
theorem dX12_partBits_28 : decode cX12_partBits 28 = .ok (.lload 6, 2) := by decide +kernel
theorem dX12_partBits_30 : decode cX12_partBits 30 = .ok (.aload_n 0, 1) := by decide +kernel
theorem dX12_partBits_31 : decode cX12_partBits 31 = .ok (.getfield 54, 3) := by decide +kernel
theorem dX12_partBits_34 : decode cX12_partBits 34 = .ok (.iload 8, 2) := by decide +kernel
theorem dX12_partBits_36 : decode cX12_partBits 36 = .ok (.laload, 1) := by decide +kernel
theorem dX12_partBits_37 : decode cX12_partBits 37 = .ok (.iload 5, 2) := by decide +kernel
theorem dX12_partBits_39 : decode cX12_partBits 39 = .ok (.lshr, 1) := by decide +kernel
theorem dX12_partBits_40 : decode cX12_partBits 40 = .ok (.lconst 1, 1) := by decide +kernel
theorem dX12_partBits_41 : decode cX12_partBits 41 = .ok (.ladd, 1) := by decide +kernel
theorem dX12_partBits_42 : decode cX12_partBits 42 = .ok (.iload 5, 2) := by decide +kernel
theorem dX12_partBits_44 : decode cX12_partBits 44 = .ok (.i2l, 1) := by decide +kernel
theorem dX12_partBits_45 : decode cX12_partBits 45 = .ok (.ladd, 1) := by decide +kernel
theorem dX12_partBits_46 : decode cX12_partBits 46 = .ok (.ladd, 1) := by decide +kernel
theorem dX12_partBits_47 : decode cX12_partBits 47 = .ok (.lstore 6, 2) := by decide +kernel
theorem dX12_partBits_49 : decode cX12_partBits 49 = .ok (.iinc 8 1, 3) := by decide +kernel
theorem dX12_partBits_52 : decode cX12_partBits 52 = .ok (.goto (-30), 3) := by decide +kernel
theorem dX12_partBits_55 : decode cX12_partBits 55 = .ok (.lload 6, 2) := by decide +kernel
theorem dX12_partBits_57 : decode cX12_partBits 57 = .ok (.lload_n 3, 1) := by decide +kernel
theorem dX12_partBits_58 : decode cX12_partBits 58 = .ok (.lcmp, 1) := by decide +kernel
theorem dX12_partBits_59 : decode cX12_partBits 59 = .ok (.ifCond .ge 17, 3) := by decide +kernel
theorem dX12_partBits_62 : decode cX12_partBits 62 = .ok (.lload 6, 2) := by decide +kernel
theorem dX12_partBits_64 : decode cX12_partBits 64 = .ok (.lstore_n 3, 1) := by decide +kernel
theorem dX12_partBits_65 : decode cX12_partBits 65 = .ok (.aload_n 0, 1) := by decide +kernel
theorem dX12_partBits_66 : decode cX12_partBits 66 = .ok (.iload 5, 2) := by decide +kernel
theorem dX12_partBits_68 : decode cX12_partBits 68 = .ok (.putfield 117, 3) := by decide +kernel
theorem dX12_partBits_71 : decode cX12_partBits 71 = .ok (.aload_n 0, 1) := by decide +kernel
theorem dX12_partBits_72 : decode cX12_partBits 72 = .ok (.iconst (-1), 1) := by decide +kernel
theorem dX12_partBits_73 : decode cX12_partBits 73 = .ok (.putfield 120, 3) := by decide +kernel
theorem dX12_partBits_76 : decode cX12_partBits 76 = .ok (.iinc 5 1, 3) := by decide +kernel
theorem dX12_partBits_79 : decode cX12_partBits 79 = .ok (.goto (-72), 3) := by decide +kernel
theorem dX12_partBits_82 : decode cX12_partBits 82 = .ok (.iconst 0, 1) := by decide +kernel
theorem dX12_partBits_83 : decode cX12_partBits 83 = .ok (.istore 5, 2) := by decide +kernel
theorem dX12_partBits_85 : decode cX12_partBits 85 = .ok (.iload_n 1, 1) := by decide +kernel
theorem dX12_partBits_86 : decode cX12_partBits 86 = .ok (.istore 6, 2) := by decide +kernel
theorem dX12_partBits_88 : decode cX12_partBits 88 = .ok (.iload 6, 2) := by decide +kernel
theorem dX12_partBits_90 : decode cX12_partBits 90 = .ok (.iload_n 2, 1) := by decide +kernel
theorem dX12_partBits_91 : decode cX12_partBits 91 = .ok (.if_icmp .ge 37, 3) := by decide +kernel
theorem dX12_partBits_94 : decode cX12_partBits 94 = .ok (.aload_n 0, 1) := by decide +kernel
theorem dX12_partBits_95 : decode cX12_partBits 95 = .ok (.getfield 50, 3) := by decide +kernel
theorem dX12_partBits_98 : decode cX12_partBits 98 = .ok (.iload 6, 2) := by decide +kernel
theorem dX12_partBits_100 : decode cX12_partBits 100 = .ok (.laload, 1) := by decide +kernel
theorem dX12_partBits_101 : decode cX12_partBits 101 = .ok (.invokestatic 123, 3) := by decide +kernel
theorem dX12_partBits_104 : decode cX12_partBits 104 = .ok (.istore 7, 2) := by decide +kernel
theorem dX12_partBits_106 : decode cX12_partBits 106 = .ok (.iload 7, 2) := by decide +kernel
theorem dX12_partBits_108 : decode cX12_partBits 108 = .ok (.iload 5, 2) := by decide +kernel
theorem dX12_partBits_110 : decode cX12_partBits 110 = .ok (.if_icmp .le 8, 3) := by decide +kernel
theorem dX12_partBits_113 : decode cX12_partBits 113 = .ok (.iload 7, 2) := by decide +kernel
theorem dX12_partBits_115 : decode cX12_partBits 115 = .ok (.goto 5, 3) := by decide +kernel
theorem dX12_partBits_118 : decode cX12_partBits 118 = .ok (.iload 5, 2) := by decide +kernel
theorem dX12_partBits_120 : decode cX12_partBits 120 = .ok (.istore 5, 2) := by decide +kernel
theorem dX12_partBits_122 : decode cX12_partBits 122 = .ok (.iinc 6 1, 3) := by decide +kernel
theorem dX12_partBits_125 : decode cX12_partBits 125 = .ok (.goto (-37), 3) := by decide +kernel
theorem dX12_partBits_128 : decode cX12_partBits 128 = .ok (.ldc2_w 127, 3) := by decide +kernel
theorem dX12_partBits_131 : decode cX12_partBits 131 = .ok (.iload 5, 2) := by decide +kernel
theorem dX12_partBits_133 : decode cX12_partBits 133 = .ok (.i2l, 1) := by decide +kernel
theorem dX12_partBits_134 : decode cX12_partBits 134 = .ok (.iload_n 2, 1) := by decide +kernel
theorem dX12_partBits_135 : decode cX12_partBits 135 = .ok (.iload_n 1, 1) := by decide +kernel
theorem dX12_partBits_136 : decode cX12_partBits 136 = .ok (.isub, 1) := by decide +kernel
theorem dX12_partBits_137 : decode cX12_partBits 137 = .ok (.i2l, 1) := by decide +kernel
theorem dX12_partBits_138 : decode cX12_partBits 138 = .ok (.lmul, 1) := by decide +kernel
theorem dX12_partBits_139 : decode cX12_partBits 139 = .ok (.ladd, 1) := by decide +kernel
theorem dX12_partBits_140 : decode cX12_partBits 140 = .ok (.lstore 6, 2) := by decide +kernel
theorem dX12_partBits_142 : decode cX12_partBits 142 = .ok (.lload 6, 2) := by decide +kernel
theorem dX12_partBits_144 : decode cX12_partBits 144 = .ok (.lload_n 3, 1) := by decide +kernel
theorem dX12_partBits_145 : decode cX12_partBits 145 = .ok (.lcmp, 1) := by decide +kernel
theorem dX12_partBits_146 : decode cX12_partBits 146 = .ok (.ifCond .ge 18, 3) := by decide +kernel
theorem dX12_partBits_149 : decode cX12_partBits 149 = .ok (.lload 6, 2) := by decide +kernel
theorem dX12_partBits_151 : decode cX12_partBits 151 = .ok (.lstore_n 3, 1) := by decide +kernel
theorem dX12_partBits_152 : decode cX12_partBits 152 = .ok (.aload_n 0, 1) := by decide +kernel
theorem dX12_partBits_153 : decode cX12_partBits 153 = .ok (.bipush 15, 2) := by decide +kernel
theorem dX12_partBits_155 : decode cX12_partBits 155 = .ok (.putfield 117, 3) := by decide +kernel
theorem dX12_partBits_158 : decode cX12_partBits 158 = .ok (.aload_n 0, 1) := by decide +kernel
theorem dX12_partBits_159 : decode cX12_partBits 159 = .ok (.iload 5, 2) := by decide +kernel
theorem dX12_partBits_161 : decode cX12_partBits 161 = .ok (.putfield 120, 3) := by decide +kernel
theorem dX12_partBits_164 : decode cX12_partBits 164 = .ok (.lload_n 3, 1) := by decide +kernel
theorem dX12_partBits_165 : decode cX12_partBits 165 = .ok (.lreturn, 1) := by decide +kernel
theorem dX12_mayPart_0 : decode cX12_mayPart 0 = .ok (.aload_n 0, 1) := by decide +kernel
theorem dX12_mayPart_1 : decode cX12_mayPart 1 = .ok (.getfield 92, 3) := by decide +kernel
theorem dX12_mayPart_4 : decode cX12_mayPart 4 = .ok (.iconst 1, 1) := by decide +kernel
theorem dX12_mayPart_5 : decode cX12_mayPart 5 = .ok (.iload_n 1, 1) := by decide +kernel
theorem dX12_mayPart_6 : decode cX12_mayPart 6 = .ok (.ishl, 1) := by decide +kernel
theorem dX12_mayPart_7 : decode cX12_mayPart 7 = .ok (.irem, 1) := by decide +kernel
theorem dX12_mayPart_8 : decode cX12_mayPart 8 = .ok (.ifCond .ne 17, 3) := by decide +kernel
theorem dX12_mayPart_11 : decode cX12_mayPart 11 = .ok (.aload_n 0, 1) := by decide +kernel
theorem dX12_mayPart_12 : decode cX12_mayPart 12 = .ok (.getfield 92, 3) := by decide +kernel
theorem dX12_mayPart_15 : decode cX12_mayPart 15 = .ok (.iload_n 1, 1) := by decide +kernel
theorem dX12_mayPart_16 : decode cX12_mayPart 16 = .ok (.ishr, 1) := by decide +kernel
theorem dX12_mayPart_17 : decode cX12_mayPart 17 = .ok (.iload_n 2, 1) := by decide +kernel
theorem dX12_mayPart_18 : decode cX12_mayPart 18 = .ok (.if_icmp .lt 7, 3) := by decide +kernel
theorem dX12_mayPart_21 : decode cX12_mayPart 21 = .ok (.iconst 1, 1) := by decide +kernel
theorem dX12_mayPart_22 : decode cX12_mayPart 22 = .ok (.goto 4, 3) := by decide +kernel
theorem dX12_mayPart_25 : decode cX12_mayPart 25 = .ok (.iconst 0, 1) := by decide +kernel
theorem dX12_mayPart_26 : decode cX12_mayPart 26 = .ok (.ireturn, 1) := by decide +kernel
theorem dX12_restBits_0 : decode cX12_restBits 0 = .ok (.ldc2_w 115, 3) := by decide +kernel
theorem dX12_restBits_3 : decode cX12_restBits 3 = .ok (.lstore_n 2, 1) := by decide +kernel
theorem dX12_restBits_4 : decode cX12_restBits 4 = .ok (.iconst 0, 1) := by decide +kernel
theorem dX12_restBits_5 : decode cX12_restBits 5 = .ok (.istore 4, 2) := by decide +kernel
theorem dX12_restBits_7 : decode cX12_restBits 7 = .ok (.iload 4, 2) := by decide +kernel
theorem dX12_restBits_9 : decode cX12_restBits 9 = .ok (.iconst 5, 1) := by decide +kernel
theorem dX12_restBits_10 : decode cX12_restBits 10 = .ok (.if_icmp .ge 97, 3) := by decide +kernel
theorem dX12_restBits_13 : decode cX12_restBits 13 = .ok (.aload_n 0, 1) := by decide +kernel
theorem dX12_restBits_14 : decode cX12_restBits 14 = .ok (.iload 4, 2) := by decide +kernel
theorem dX12_restBits_16 : decode cX12_restBits 16 = .ok (.iload_n 1, 1) := by decide +kernel
theorem dX12_restBits_17 : decode cX12_restBits 17 = .ok (.invokevirtual 129, 3) := by decide +kernel
theorem dX12_restBits_20 : decode cX12_restBits 20 = .ok (.ifCond .eq 81, 3) := by decide +kernel
theorem dX12_restBits_23 : decode cX12_restBits 23 = .ok (.ldc2_w 103, 3) := by decide +kernel
theorem dX12_restBits_26 : decode cX12_restBits 26 = .ok (.lstore 5, 2) := by decide +kernel
theorem dX12_restBits_28 : decode cX12_restBits 28 = .ok (.aload_n 0, 1) := by decide +kernel
theorem dX12_restBits_29 : decode cX12_restBits 29 = .ok (.getfield 92, 3) := by decide +kernel
theorem dX12_restBits_32 : decode cX12_restBits 32 = .ok (.iload 4, 2) := by decide +kernel
theorem dX12_restBits_34 : decode cX12_restBits 34 = .ok (.ishr, 1) := by decide +kernel
theorem dX12_restBits_35 : decode cX12_restBits 35 = .ok (.istore 7, 2) := by decide +kernel
theorem dX12_restBits_37 : decode cX12_restBits 37 = .ok (.iconst 0, 1) := by decide +kernel
theorem dX12_restBits_38 : decode cX12_restBits 38 = .ok (.istore 8, 2) := by decide +kernel
theorem dX12_restBits_40 : decode cX12_restBits 40 = .ok (.iload 8, 2) := by decide +kernel
theorem dX12_restBits_42 : decode cX12_restBits 42 = .ok (.iconst 1, 1) := by decide +kernel
theorem dX12_restBits_43 : decode cX12_restBits 43 = .ok (.iload 4, 2) := by decide +kernel
theorem dX12_restBits_45 : decode cX12_restBits 45 = .ok (.ishl, 1) := by decide +kernel
theorem dX12_restBits_46 : decode cX12_restBits 46 = .ok (.if_icmp .ge 39, 3) := by decide +kernel
theorem dX12_restBits_49 : decode cX12_restBits 49 = .ok (.lload 5, 2) := by decide +kernel
theorem dX12_restBits_51 : decode cX12_restBits 51 = .ok (.aload_n 0, 1) := by decide +kernel
theorem dX12_restBits_52 : decode cX12_restBits 52 = .ok (.iload 8, 2) := by decide +kernel
theorem dX12_restBits_54 : decode cX12_restBits 54 = .ok (.ifCond .ne 7, 3) := by decide +kernel
theorem dX12_restBits_57 : decode cX12_restBits 57 = .ok (.iload_n 1, 1) := by decide +kernel
theorem dX12_restBits_58 : decode cX12_restBits 58 = .ok (.goto 8, 3) := by decide +kernel
theorem dX12_restBits_61 : decode cX12_restBits 61 = .ok (.iload 8, 2) := by decide +kernel
theorem dX12_restBits_63 : decode cX12_restBits 63 = .ok (.iload 7, 2) := by decide +kernel
theorem dX12_restBits_65 : decode cX12_restBits 65 = .ok (.imul, 1) := by decide +kernel
theorem dX12_restBits_66 : decode cX12_restBits 66 = .ok (.iload 8, 2) := by decide +kernel
theorem dX12_restBits_68 : decode cX12_restBits 68 = .ok (.iconst 1, 1) := by decide +kernel
theorem dX12_restBits_69 : decode cX12_restBits 69 = .ok (.iadd, 1) := by decide +kernel
theorem dX12_restBits_70 : decode cX12_restBits 70 = .ok (.iload 7, 2) := by decide +kernel
theorem dX12_restBits_72 : decode cX12_restBits 72 = .ok (.imul, 1) := by decide +kernel
theorem dX12_restBits_73 : decode cX12_restBits 73 = .ok (.invokevirtual 133, 3) := by decide +kernel
theorem dX12_restBits_76 : decode cX12_restBits 76 = .ok (.ladd, 1) := by decide +kernel
theorem dX12_restBits_77 : decode cX12_restBits 77 = .ok (.lstore 5, 2) := by decide +kernel
theorem dX12_restBits_79 : decode cX12_restBits 79 = .ok (.iinc 8 1, 3) := by decide +kernel
theorem dX12_restBits_82 : decode cX12_restBits 82 = .ok (.goto (-42), 3) := by decide +kernel
theorem dX12_restBits_85 : decode cX12_restBits 85 = .ok (.lload 5, 2) := by decide +kernel
theorem dX12_restBits_87 : decode cX12_restBits 87 = .ok (.lload_n 2, 1) := by decide +kernel
theorem dX12_restBits_88 : decode cX12_restBits 88 = .ok (.lcmp, 1) := by decide +kernel
theorem dX12_restBits_89 : decode cX12_restBits 89 = .ok (.ifCond .ge 12, 3) := by decide +kernel
theorem dX12_restBits_92 : decode cX12_restBits 92 = .ok (.lload 5, 2) := by decide +kernel
theorem dX12_restBits_94 : decode cX12_restBits 94 = .ok (.lstore_n 2, 1) := by decide +kernel
theorem dX12_restBits_95 : decode cX12_restBits 95 = .ok (.aload_n 0, 1) := by decide +kernel
theorem dX12_restBits_96 : decode cX12_restBits 96 = .ok (.iload 4, 2) := by decide +kernel
theorem dX12_restBits_98 : decode cX12_restBits 98 = .ok (.putfield 136, 3) := by decide +kernel
theorem dX12_restBits_101 : decode cX12_restBits 101 = .ok (.iinc 4 1, 3) := by decide +kernel
theorem dX12_restBits_104 : decode cX12_restBits 104 = .ok (.goto (-97), 3) := by decide +kernel
theorem dX12_restBits_107 : decode cX12_restBits 107 = .ok (.lload_n 2, 1) := by decide +kernel
theorem dX12_restBits_108 : decode cX12_restBits 108 = .ok (.lreturn, 1) := by decide +kernel
theorem dX12_bitsOf_0 : decode cX12_bitsOf 0 = .ok (.iload_n 1, 1) := by decide +kernel
theorem dX12_bitsOf_1 : decode cX12_bitsOf 1 = .ok (.ifCond .ne 66, 3) := by decide +kernel
theorem dX12_bitsOf_4 : decode cX12_bitsOf 4 = .ok (.iconst 1, 1) := by decide +kernel
theorem dX12_bitsOf_5 : decode cX12_bitsOf 5 = .ok (.istore_n 2, 1) := by decide +kernel
theorem dX12_bitsOf_6 : decode cX12_bitsOf 6 = .ok (.iconst 1, 1) := by decide +kernel
theorem dX12_bitsOf_7 : decode cX12_bitsOf 7 = .ok (.istore_n 3, 1) := by decide +kernel
theorem dX12_bitsOf_8 : decode cX12_bitsOf 8 = .ok (.iload_n 3, 1) := by decide +kernel
theorem dX12_bitsOf_9 : decode cX12_bitsOf 9 = .ok (.aload_n 0, 1) := by decide +kernel
theorem dX12_bitsOf_10 : decode cX12_bitsOf 10 = .ok (.getfield 92, 3) := by decide +kernel
theorem dX12_bitsOf_13 : decode cX12_bitsOf 13 = .ok (.if_icmp .ge 34, 3) := by decide +kernel
theorem dX12_bitsOf_16 : decode cX12_bitsOf 16 = .ok (.iload_n 2, 1) := by decide +kernel
theorem dX12_bitsOf_17 : decode cX12_bitsOf 17 = .ok (.ifCond .eq 22, 3) := by decide +kernel
theorem dX12_bitsOf_20 : decode cX12_bitsOf 20 = .ok (.aload_n 0, 1) := by decide +kernel
theorem dX12_bitsOf_21 : decode cX12_bitsOf 21 = .ok (.getfield 47, 3) := by decide +kernel
theorem dX12_bitsOf_24 : decode cX12_bitsOf 24 = .ok (.iload_n 3, 1) := by decide +kernel
theorem dX12_bitsOf_25 : decode cX12_bitsOf 25 = .ok (.iaload, 1) := by decide +kernel
theorem dX12_bitsOf_26 : decode cX12_bitsOf 26 = .ok (.aload_n 0, 1) := by decide +kernel
theorem dX12_bitsOf_27 : decode cX12_bitsOf 27 = .ok (.getfield 47, 3) := by decide +kernel
theorem dX12_bitsOf_30 : decode cX12_bitsOf 30 = .ok (.iconst 0, 1) := by decide +kernel
theorem dX12_bitsOf_31 : decode cX12_bitsOf 31 = .ok (.iaload, 1) := by decide +kernel
theorem dX12_bitsOf_32 : decode cX12_bitsOf 32 = .ok (.if_icmp .ne 7, 3) := by decide +kernel
theorem dX12_bitsOf_35 : decode cX12_bitsOf 35 = .ok (.iconst 1, 1) := by decide +kernel
theorem dX12_bitsOf_36 : decode cX12_bitsOf 36 = .ok (.goto 4, 3) := by decide +kernel
theorem dX12_bitsOf_39 : decode cX12_bitsOf 39 = .ok (.iconst 0, 1) := by decide +kernel
theorem dX12_bitsOf_40 : decode cX12_bitsOf 40 = .ok (.istore_n 2, 1) := by decide +kernel
theorem dX12_bitsOf_41 : decode cX12_bitsOf 41 = .ok (.iinc 3 1, 3) := by decide +kernel
theorem dX12_bitsOf_44 : decode cX12_bitsOf 44 = .ok (.goto (-36), 3) := by decide +kernel
theorem dX12_bitsOf_47 : decode cX12_bitsOf 47 = .ok (.iload_n 2, 1) := by decide +kernel
theorem dX12_bitsOf_48 : decode cX12_bitsOf 48 = .ok (.ifCond .eq 15, 3) := by decide +kernel
theorem dX12_bitsOf_51 : decode cX12_bitsOf 51 = .ok (.ldc2_w 139, 3) := by decide +kernel
theorem dX12_bitsOf_54 : decode cX12_bitsOf 54 = .ok (.aload_n 0, 1) := by decide +kernel
theorem dX12_bitsOf_55 : decode cX12_bitsOf 55 = .ok (.getfield 98, 3) := by decide +kernel
theorem dX12_bitsOf_58 : decode cX12_bitsOf 58 = .ok (.i2l, 1) := by decide +kernel
theorem dX12_bitsOf_59 : decode cX12_bitsOf 59 = .ok (.ladd, 1) := by decide +kernel
theorem dX12_bitsOf_60 : decode cX12_bitsOf 60 = .ok (.goto 6, 3) := by decide +kernel
theorem dX12_bitsOf_63 : decode cX12_bitsOf 63 = .ok (.ldc2_w 115, 3) := by decide +kernel
theorem dX12_bitsOf_66 : decode cX12_bitsOf 66 = .ok (.lreturn, 1) := by decide +kernel
theorem dX12_bitsOf_67 : decode cX12_bitsOf 67 = .ok (.iload_n 1, 1) := by decide +kernel
theorem dX12_bitsOf_68 : decode cX12_bitsOf 68 = .ok (.iconst 1, 1) := by decide +kernel
theorem dX12_bitsOf_69 : decode cX12_bitsOf 69 = .ok (.if_icmp .ne 19, 3) := by decide +kernel
theorem dX12_bitsOf_72 : decode cX12_bitsOf 72 = .ok (.ldc2_w 139, 3) := by decide +kernel
theorem dX12_bitsOf_75 : decode cX12_bitsOf 75 = .ok (.aload_n 0, 1) := by decide +kernel
theorem dX12_bitsOf_76 : decode cX12_bitsOf 76 = .ok (.getfield 92, 3) := by decide +kernel
theorem dX12_bitsOf_79 : decode cX12_bitsOf 79 = .ok (.i2l, 1) := by decide +kernel
theorem dX12_bitsOf_80 : decode cX12_bitsOf 80 = .ok (.aload_n 0, 1) := by decide +kernel
theorem dX12_bitsOf_81 : decode cX12_bitsOf 81 = .ok (.getfield 98, 3) := by decide +kernel
theorem dX12_bitsOf_84 : decode cX12_bitsOf 84 = .ok (.i2l, 1) := by decide +kernel
theorem dX12_bitsOf_85 : decode cX12_bitsOf 85 = .ok (.lmul, 1) := by decide +kernel
theorem dX12_bitsOf_86 : decode cX12_bitsOf 86 = .ok (.ladd, 1) := by decide +kernel
theorem dX12_bitsOf_87 : decode cX12_bitsOf 87 = .ok (.lreturn, 1) := by decide +kernel
theorem dX12_bitsOf_88 : decode cX12_bitsOf 88 = .ok (.aload_n 0, 1) := by decide +kernel
theorem dX12_bitsOf_89 : decode cX12_bitsOf 89 = .ok (.iload_n 1, 1) := by decide +kernel
theorem dX12_bitsOf_90 : decode cX12_bitsOf 90 = .ok (.invokevirtual 141, 3) := by decide +kernel
theorem dX12_bitsOf_93 : decode cX12_bitsOf 93 = .ok (.istore_n 2, 1) := by decide +kernel
theorem dX12_bitsOf_94 : decode cX12_bitsOf 94 = .ok (.iload_n 2, 1) := by decide +kernel
theorem dX12_bitsOf_95 : decode cX12_bitsOf 95 = .ok (.aload_n 0, 1) := by decide +kernel
theorem dX12_bitsOf_96 : decode cX12_bitsOf 96 = .ok (.getfield 92, 3) := by decide +kernel
theorem dX12_bitsOf_99 : decode cX12_bitsOf 99 = .ok (.if_icmp .gt 13, 3) := by decide +kernel
theorem dX12_bitsOf_102 : decode cX12_bitsOf 102 = .ok (.iload_n 1, 1) := by decide +kernel
theorem dX12_bitsOf_103 : decode cX12_bitsOf 103 = .ok (.bipush 7, 2) := by decide +kernel
theorem dX12_bitsOf_105 : decode cX12_bitsOf 105 = .ok (.if_icmp .ne 11, 3) := by decide +kernel
theorem dX12_bitsOf_108 : decode cX12_bitsOf 108 = .ok (.iload_n 2, 1) := by decide +kernel
theorem dX12_bitsOf_109 : decode cX12_bitsOf 109 = .ok (.ifCond .ne 7, 3) := by decide +kernel
theorem dX12_bitsOf_112 : decode cX12_bitsOf 112 = .ok (.ldc2_w 115, 3) := by decide +kernel
theorem dX12_bitsOf_115 : decode cX12_bitsOf 115 = .ok (.lreturn, 1) := by decide +kernel
theorem dX12_bitsOf_116 : decode cX12_bitsOf 116 = .ok (.iconst 1, 1) := by decide +kernel
theorem dX12_bitsOf_117 : decode cX12_bitsOf 117 = .ok (.istore_n 3, 1) := by decide +kernel
theorem dX12_bitsOf_118 : decode cX12_bitsOf 118 = .ok (.iload_n 2, 1) := by decide +kernel
theorem dX12_bitsOf_119 : decode cX12_bitsOf 119 = .ok (.istore 4, 2) := by decide +kernel
theorem dX12_bitsOf_121 : decode cX12_bitsOf 121 = .ok (.iload 4, 2) := by decide +kernel
theorem dX12_bitsOf_123 : decode cX12_bitsOf 123 = .ok (.aload_n 0, 1) := by decide +kernel
theorem dX12_bitsOf_124 : decode cX12_bitsOf 124 = .ok (.getfield 92, 3) := by decide +kernel
theorem dX12_bitsOf_127 : decode cX12_bitsOf 127 = .ok (.if_icmp .ge 102, 3) := by decide +kernel
theorem dX12_bitsOf_130 : decode cX12_bitsOf 130 = .ok (.aload_n 0, 1) := by decide +kernel
theorem dX12_bitsOf_131 : decode cX12_bitsOf 131 = .ok (.getfield 50, 3) := by decide +kernel
theorem dX12_bitsOf_134 : decode cX12_bitsOf 134 = .ok (.iload 4, 2) := by decide +kernel
theorem dX12_bitsOf_136 : decode cX12_bitsOf 136 = .ok (.aload_n 0, 1) := by decide +kernel
theorem dX12_bitsOf_137 : decode cX12_bitsOf 137 = .ok (.getfield 47, 3) := by decide +kernel
theorem dX12_bitsOf_140 : decode cX12_bitsOf 140 = .ok (.iload 4, 2) := by decide +kernel
theorem dX12_bitsOf_142 : decode cX12_bitsOf 142 = .ok (.iaload, 1) := by decide +kernel
theorem dX12_bitsOf_143 : decode cX12_bitsOf 143 = .ok (.i2l, 1) := by decide +kernel
theorem dX12_bitsOf_144 : decode cX12_bitsOf 144 = .ok (.aload_n 0, 1) := by decide +kernel
theorem dX12_bitsOf_145 : decode cX12_bitsOf 145 = .ok (.iload_n 1, 1) := by decide +kernel
theorem dX12_bitsOf_146 : decode cX12_bitsOf 146 = .ok (.iload 4, 2) := by decide +kernel
theorem dX12_bitsOf_148 : decode cX12_bitsOf 148 = .ok (.invokevirtual 145, 3) := by decide +kernel
theorem dX12_bitsOf_151 : decode cX12_bitsOf 151 = .ok (.lsub, 1) := by decide +kernel
theorem dX12_bitsOf_152 : decode cX12_bitsOf 152 = .ok (.lastore, 1) := by decide +kernel
theorem dX12_bitsOf_153 : decode cX12_bitsOf 153 = .ok (.aload_n 0, 1) := by decide +kernel
theorem dX12_bitsOf_154 : decode cX12_bitsOf 154 = .ok (.getfield 54, 3) := by decide +kernel
theorem dX12_bitsOf_157 : decode cX12_bitsOf 157 = .ok (.iload 4, 2) := by decide +kernel
theorem dX12_bitsOf_159 : decode cX12_bitsOf 159 = .ok (.aload_n 0, 1) := by decide +kernel
theorem dX12_bitsOf_160 : decode cX12_bitsOf 160 = .ok (.getfield 50, 3) := by decide +kernel
theorem dX12_bitsOf_163 : decode cX12_bitsOf 163 = .ok (.iload 4, 2) := by decide +kernel
theorem dX12_bitsOf_165 : decode cX12_bitsOf 165 = .ok (.laload, 1) := by decide +kernel
theorem dX12_bitsOf_166 : decode cX12_bitsOf 166 = .ok (.lconst 0, 1) := by decide +kernel
theorem dX12_bitsOf_167 : decode cX12_bitsOf 167 = .ok (.lcmp, 1) := by decide +kernel
theorem dX12_bitsOf_168 : decode cX12_bitsOf 168 = .ok (.ifCond .ge 19, 3) := by decide +kernel
theorem dX12_bitsOf_171 : decode cX12_bitsOf 171 = .ok (.ldc2_w 148, 3) := by decide +kernel
theorem dX12_bitsOf_174 : decode cX12_bitsOf 174 = .ok (.aload_n 0, 1) := by decide +kernel
theorem dX12_bitsOf_175 : decode cX12_bitsOf 175 = .ok (.getfield 50, 3) := by decide +kernel
theorem dX12_bitsOf_178 : decode cX12_bitsOf 178 = .ok (.iload 4, 2) := by decide +kernel
theorem dX12_bitsOf_180 : decode cX12_bitsOf 180 = .ok (.laload, 1) := by decide +kernel
theorem dX12_bitsOf_181 : decode cX12_bitsOf 181 = .ok (.lmul, 1) := by decide +kernel
theorem dX12_bitsOf_182 : decode cX12_bitsOf 182 = .ok (.lconst 1, 1) := by decide +kernel
theorem dX12_bitsOf_183 : decode cX12_bitsOf 183 = .ok (.lsub, 1) := by decide +kernel
theorem dX12_bitsOf_184 : decode cX12_bitsOf 184 = .ok (.goto 14, 3) := by decide +kernel
theorem dX12_bitsOf_187 : decode cX12_bitsOf 187 = .ok (.ldc2_w 101, 3) := by decide +kernel
theorem dX12_bitsOf_190 : decode cX12_bitsOf 190 = .ok (.aload_n 0, 1) := by decide +kernel
theorem dX12_bitsOf_191 : decode cX12_bitsOf 191 = .ok (.getfield 50, 3) := by decide +kernel
theorem dX12_bitsOf_194 : decode cX12_bitsOf 194 = .ok (.iload 4, 2) := by decide +kernel
theorem dX12_bitsOf_196 : decode cX12_bitsOf 196 = .ok (.laload, 1) := by decide +kernel
theorem dX12_bitsOf_197 : decode cX12_bitsOf 197 = .ok (.lmul, 1) := by decide +kernel
theorem dX12_bitsOf_198 : decode cX12_bitsOf 198 = .ok (.lastore, 1) := by decide +kernel
theorem dX12_bitsOf_199 : decode cX12_bitsOf 199 = .ok (.iload_n 3, 1) := by decide +kernel
theorem dX12_bitsOf_200 : decode cX12_bitsOf 200 = .ok (.ifCond .eq 21, 3) := by decide +kernel
theorem dX12_bitsOf_203 : decode cX12_bitsOf 203 = .ok (.aload_n 0, 1) := by decide +kernel
theorem dX12_bitsOf_204 : decode cX12_bitsOf 204 = .ok (.getfield 54, 3) := by decide +kernel
theorem dX12_bitsOf_207 : decode cX12_bitsOf 207 = .ok (.iload 4, 2) := by decide +kernel
theorem dX12_bitsOf_209 : decode cX12_bitsOf 209 = .ok (.laload, 1) := by decide +kernel
theorem dX12_bitsOf_210 : decode cX12_bitsOf 210 = .ok (.ldc2_w 150, 3) := by decide +kernel
theorem dX12_bitsOf_213 : decode cX12_bitsOf 213 = .ok (.lcmp, 1) := by decide +kernel
theorem dX12_bitsOf_214 : decode cX12_bitsOf 214 = .ok (.ifCond .ge 7, 3) := by decide +kernel
theorem dX12_bitsOf_217 : decode cX12_bitsOf 217 = .ok (.iconst 1, 1) := by decide +kernel
theorem dX12_bitsOf_218 : decode cX12_bitsOf 218 = .ok (.goto 4, 3) := by decide +kernel
theorem dX12_bitsOf_221 : decode cX12_bitsOf 221 = .ok (.iconst 0, 1) := by decide +kernel
theorem dX12_bitsOf_222 : decode cX12_bitsOf 222 = .ok (.istore_n 3, 1) := by decide +kernel
theorem dX12_bitsOf_223 : decode cX12_bitsOf 223 = .ok (.iinc 4 1, 3) := by decide +kernel
theorem dX12_bitsOf_226 : decode cX12_bitsOf 226 = .ok (.goto (-105), 3) := by decide +kernel
theorem dX12_bitsOf_229 : decode cX12_bitsOf 229 = .ok (.iload_n 3, 1) := by decide +kernel
theorem dX12_bitsOf_230 : decode cX12_bitsOf 230 = .ok (.ifCond .eq 43, 3) := by decide +kernel
theorem dX12_bitsOf_233 : decode cX12_bitsOf 233 = .ok (.ldc2_w 139, 3) := by decide +kernel
theorem dX12_bitsOf_236 : decode cX12_bitsOf 236 = .ok (.iload_n 1, 1) := by decide +kernel
theorem dX12_bitsOf_237 : decode cX12_bitsOf 237 = .ok (.bipush 7, 2) := by decide +kernel
theorem dX12_bitsOf_239 : decode cX12_bitsOf 239 = .ok (.if_icmp .ne 13, 3) := by decide +kernel
theorem dX12_bitsOf_242 : decode cX12_bitsOf 242 = .ok (.bipush 6, 2) := by decide +kernel
theorem dX12_bitsOf_244 : decode cX12_bitsOf 244 = .ok (.bipush 10, 2) := by decide +kernel
theorem dX12_bitsOf_246 : decode cX12_bitsOf 246 = .ok (.iload_n 2, 1) := by decide +kernel
theorem dX12_bitsOf_247 : decode cX12_bitsOf 247 = .ok (.imul, 1) := by decide +kernel
theorem dX12_bitsOf_248 : decode cX12_bitsOf 248 = .ok (.iadd, 1) := by decide +kernel
theorem dX12_bitsOf_249 : decode cX12_bitsOf 249 = .ok (.goto 4, 3) := by decide +kernel
theorem dX12_bitsOf_252 : decode cX12_bitsOf 252 = .ok (.iconst 0, 1) := by decide +kernel
theorem dX12_bitsOf_253 : decode cX12_bitsOf 253 = .ok (.i2l, 1) := by decide +kernel
theorem dX12_bitsOf_254 : decode cX12_bitsOf 254 = .ok (.ladd, 1) := by decide +kernel
theorem dX12_bitsOf_255 : decode cX12_bitsOf 255 = .ok (.iload_n 2, 1) := by decide +kernel
theorem dX12_bitsOf_256 : decode cX12_bitsOf 256 = .ok (.i2l, 1) := by decide +kernel
theorem dX12_bitsOf_257 : decode cX12_bitsOf 257 = .ok (.aload_n 0, 1) := by decide +kernel
theorem dX12_bitsOf_258 : decode cX12_bitsOf 258 = .ok (.getfield 98, 3) := by decide +kernel
theorem dX12_bitsOf_261 : decode cX12_bitsOf 261 = .ok (.i2l, 1) := by decide +kernel
theorem dX12_bitsOf_262 : decode cX12_bitsOf 262 = .ok (.lmul, 1) := by decide +kernel
theorem dX12_bitsOf_263 : decode cX12_bitsOf 263 = .ok (.ladd, 1) := by decide +kernel
theorem dX12_bitsOf_264 : decode cX12_bitsOf 264 = .ok (.aload_n 0, 1) := by decide +kernel
theorem dX12_bitsOf_265 : decode cX12_bitsOf 265 = .ok (.iload_n 2, 1) := by decide +kernel
theorem dX12_bitsOf_266 : decode cX12_bitsOf 266 = .ok (.invokevirtual 152, 3) := by decide +kernel
theorem dX12_bitsOf_269 : decode cX12_bitsOf 269 = .ok (.ladd, 1) := by decide +kernel
theorem dX12_bitsOf_270 : decode cX12_bitsOf 270 = .ok (.goto 6, 3) := by decide +kernel
theorem dX12_bitsOf_273 : decode cX12_bitsOf 273 = .ok (.ldc2_w 115, 3) := by decide +kernel
theorem dX12_bitsOf_276 : decode cX12_bitsOf 276 = .ok (.lreturn, 1) := by decide +kernel
theorem dX12_bestKind_0 : decode cX12_bestKind 0 = .ok (.iconst 1, 1) := by decide +kernel
theorem dX12_bestKind_1 : decode cX12_bestKind 1 = .ok (.istore_n 1, 1) := by decide +kernel
theorem dX12_bestKind_2 : decode cX12_bestKind 2 = .ok (.ldc2_w 115, 3) := by decide +kernel
theorem dX12_bestKind_5 : decode cX12_bestKind 5 = .ok (.lstore_n 2, 1) := by decide +kernel
theorem dX12_bestKind_6 : decode cX12_bestKind 6 = .ok (.iconst 0, 1) := by decide +kernel
theorem dX12_bestKind_7 : decode cX12_bestKind 7 = .ok (.istore 4, 2) := by decide +kernel
theorem dX12_bestKind_9 : decode cX12_bestKind 9 = .ok (.iload 4, 2) := by decide +kernel
theorem dX12_bestKind_11 : decode cX12_bestKind 11 = .ok (.bipush 8, 2) := by decide +kernel
theorem dX12_bestKind_13 : decode cX12_bestKind 13 = .ok (.if_icmp .ge 30, 3) := by decide +kernel
theorem dX12_bestKind_16 : decode cX12_bestKind 16 = .ok (.aload_n 0, 1) := by decide +kernel
theorem dX12_bestKind_17 : decode cX12_bestKind 17 = .ok (.iload 4, 2) := by decide +kernel
theorem dX12_bestKind_19 : decode cX12_bestKind 19 = .ok (.invokevirtual 156, 3) := by decide +kernel
theorem dX12_bestKind_22 : decode cX12_bestKind 22 = .ok (.lstore 5, 2) := by decide +kernel
theorem dX12_bestKind_24 : decode cX12_bestKind 24 = .ok (.lload 5, 2) := by decide +kernel
theorem dX12_bestKind_26 : decode cX12_bestKind 26 = .ok (.lload_n 2, 1) := by decide +kernel
theorem dX12_bestKind_27 : decode cX12_bestKind 27 = .ok (.lcmp, 1) := by decide +kernel
theorem dX12_bestKind_28 : decode cX12_bestKind 28 = .ok (.ifCond .ge 9, 3) := by decide +kernel
theorem dX12_bestKind_31 : decode cX12_bestKind 31 = .ok (.lload 5, 2) := by decide +kernel
theorem dX12_bestKind_33 : decode cX12_bestKind 33 = .ok (.lstore_n 2, 1) := by decide +kernel
theorem dX12_bestKind_34 : decode cX12_bestKind 34 = .ok (.iload 4, 2) := by decide +kernel
theorem dX12_bestKind_36 : decode cX12_bestKind 36 = .ok (.istore_n 1, 1) := by decide +kernel
theorem dX12_bestKind_37 : decode cX12_bestKind 37 = .ok (.iinc 4 1, 3) := by decide +kernel
theorem dX12_bestKind_40 : decode cX12_bestKind 40 = .ok (.goto (-31), 3) := by decide +kernel
theorem dX12_bestKind_43 : decode cX12_bestKind 43 = .ok (.iload_n 1, 1) := by decide +kernel
theorem dX12_bestKind_44 : decode cX12_bestKind 44 = .ok (.ireturn, 1) := by decide +kernel
theorem dX12_valuesOf_0 : decode cX12_valuesOf 0 = .ok (.aload_n 0, 1) := by decide +kernel
theorem dX12_valuesOf_1 : decode cX12_valuesOf 1 = .ok (.aload_n 0, 1) := by decide +kernel
theorem dX12_valuesOf_2 : decode cX12_valuesOf 2 = .ok (.getfield 16, 3) := by decide +kernel
theorem dX12_valuesOf_5 : decode cX12_valuesOf 5 = .ok (.iconst 0, 1) := by decide +kernel
theorem dX12_valuesOf_6 : decode cX12_valuesOf 6 = .ok (.iaload, 1) := by decide +kernel
theorem dX12_valuesOf_7 : decode cX12_valuesOf 7 = .ok (.putfield 92, 3) := by decide +kernel
theorem dX12_valuesOf_10 : decode cX12_valuesOf 10 = .ok (.iconst 0, 1) := by decide +kernel
theorem dX12_valuesOf_11 : decode cX12_valuesOf 11 = .ok (.istore_n 3, 1) := by decide +kernel
theorem dX12_valuesOf_12 : decode cX12_valuesOf 12 = .ok (.iload_n 3, 1) := by decide +kernel
theorem dX12_valuesOf_13 : decode cX12_valuesOf 13 = .ok (.aload_n 0, 1) := by decide +kernel
theorem dX12_valuesOf_14 : decode cX12_valuesOf 14 = .ok (.getfield 92, 3) := by decide +kernel
theorem dX12_valuesOf_17 : decode cX12_valuesOf 17 = .ok (.if_icmp .ge 146, 3) := by decide +kernel
theorem dX12_valuesOf_20 : decode cX12_valuesOf 20 = .ok (.aload_n 0, 1) := by decide +kernel
theorem dX12_valuesOf_21 : decode cX12_valuesOf 21 = .ok (.getfield 20, 3) := by decide +kernel
theorem dX12_valuesOf_24 : decode cX12_valuesOf 24 = .ok (.iload_n 3, 1) := by decide +kernel
theorem dX12_valuesOf_25 : decode cX12_valuesOf 25 = .ok (.iaload, 1) := by decide +kernel
theorem dX12_valuesOf_26 : decode cX12_valuesOf 26 = .ok (.istore 4, 2) := by decide +kernel
theorem dX12_valuesOf_28 : decode cX12_valuesOf 28 = .ok (.aload_n 0, 1) := by decide +kernel
theorem dX12_valuesOf_29 : decode cX12_valuesOf 29 = .ok (.getfield 20, 3) := by decide +kernel
theorem dX12_valuesOf_32 : decode cX12_valuesOf 32 = .ok (.sipush 400, 3) := by decide +kernel
theorem dX12_valuesOf_35 : decode cX12_valuesOf 35 = .ok (.iload_n 3, 1) := by decide +kernel
theorem dX12_valuesOf_36 : decode cX12_valuesOf 36 = .ok (.iadd, 1) := by decide +kernel
theorem dX12_valuesOf_37 : decode cX12_valuesOf 37 = .ok (.iaload, 1) := by decide +kernel
theorem dX12_valuesOf_38 : decode cX12_valuesOf 38 = .ok (.istore 5, 2) := by decide +kernel
theorem dX12_valuesOf_40 : decode cX12_valuesOf 40 = .ok (.iload_n 1, 1) := by decide +kernel
theorem dX12_valuesOf_41 : decode cX12_valuesOf 41 = .ok (.iconst 1, 1) := by decide +kernel
theorem dX12_valuesOf_42 : decode cX12_valuesOf 42 = .ok (.if_icmp .ne 8, 3) := by decide +kernel
theorem dX12_valuesOf_45 : decode cX12_valuesOf 45 = .ok (.iload_n 2, 1) := by decide +kernel
theorem dX12_valuesOf_46 : decode cX12_valuesOf 46 = .ok (.iconst 1, 1) := by decide +kernel
theorem dX12_valuesOf_47 : decode cX12_valuesOf 47 = .ok (.if_icmp .eq 22, 3) := by decide +kernel
theorem dX12_valuesOf_50 : decode cX12_valuesOf 50 = .ok (.iload_n 1, 1) := by decide +kernel
theorem dX12_valuesOf_51 : decode cX12_valuesOf 51 = .ok (.iconst 2, 1) := by decide +kernel
theorem dX12_valuesOf_52 : decode cX12_valuesOf 52 = .ok (.if_icmp .ne 7, 3) := by decide +kernel
theorem dX12_valuesOf_55 : decode cX12_valuesOf 55 = .ok (.iload_n 2, 1) := by decide +kernel
theorem dX12_valuesOf_56 : decode cX12_valuesOf 56 = .ok (.ifCond .eq 13, 3) := by decide +kernel
theorem dX12_valuesOf_59 : decode cX12_valuesOf 59 = .ok (.iload_n 1, 1) := by decide +kernel
theorem dX12_valuesOf_60 : decode cX12_valuesOf 60 = .ok (.iconst 3, 1) := by decide +kernel
theorem dX12_valuesOf_61 : decode cX12_valuesOf 61 = .ok (.if_icmp .ne 12, 3) := by decide +kernel
theorem dX12_valuesOf_64 : decode cX12_valuesOf 64 = .ok (.iload_n 2, 1) := by decide +kernel
theorem dX12_valuesOf_65 : decode cX12_valuesOf 65 = .ok (.iconst 1, 1) := by decide +kernel
theorem dX12_valuesOf_66 : decode cX12_valuesOf 66 = .ok (.if_icmp .ne 7, 3) := by decide +kernel
theorem dX12_valuesOf_69 : decode cX12_valuesOf 69 = .ok (.iconst 1, 1) := by decide +kernel
theorem dX12_valuesOf_70 : decode cX12_valuesOf 70 = .ok (.goto 4, 3) := by decide +kernel
theorem dX12_valuesOf_73 : decode cX12_valuesOf 73 = .ok (.iconst 0, 1) := by decide +kernel
theorem dX12_valuesOf_74 : decode cX12_valuesOf 74 = .ok (.istore 6, 2) := by decide +kernel
theorem dX12_valuesOf_76 : decode cX12_valuesOf 76 = .ok (.iload_n 1, 1) := by decide +kernel
theorem dX12_valuesOf_77 : decode cX12_valuesOf 77 = .ok (.iconst 3, 1) := by decide +kernel
theorem dX12_valuesOf_78 : decode cX12_valuesOf 78 = .ok (.if_icmp .ne 11, 3) := by decide +kernel
theorem dX12_valuesOf_81 : decode cX12_valuesOf 81 = .ok (.iload_n 2, 1) := by decide +kernel
theorem dX12_valuesOf_82 : decode cX12_valuesOf 82 = .ok (.ifCond .ne 7, 3) := by decide +kernel
theorem dX12_valuesOf_85 : decode cX12_valuesOf 85 = .ok (.iconst 1, 1) := by decide +kernel
theorem dX12_valuesOf_86 : decode cX12_valuesOf 86 = .ok (.goto 4, 3) := by decide +kernel
theorem dX12_valuesOf_89 : decode cX12_valuesOf 89 = .ok (.iconst 0, 1) := by decide +kernel
theorem dX12_valuesOf_90 : decode cX12_valuesOf 90 = .ok (.istore 7, 2) := by decide +kernel
theorem dX12_valuesOf_92 : decode cX12_valuesOf 92 = .ok (.aload_n 0, 1) := by decide +kernel
theorem dX12_valuesOf_93 : decode cX12_valuesOf 93 = .ok (.getfield 47, 3) := by decide +kernel
theorem dX12_valuesOf_96 : decode cX12_valuesOf 96 = .ok (.iload_n 3, 1) := by decide +kernel
theorem dX12_valuesOf_97 : decode cX12_valuesOf 97 = .ok (.iload 6, 2) := by decide +kernel
theorem dX12_valuesOf_99 : decode cX12_valuesOf 99 = .ok (.ifCond .eq 11, 3) := by decide +kernel
theorem dX12_valuesOf_102 : decode cX12_valuesOf 102 = .ok (.iload 4, 2) := by decide +kernel
theorem dX12_valuesOf_104 : decode cX12_valuesOf 104 = .ok (.iload 5, 2) := by decide +kernel
theorem dX12_valuesOf_106 : decode cX12_valuesOf 106 = .ok (.isub, 1) := by decide +kernel
theorem dX12_valuesOf_107 : decode cX12_valuesOf 107 = .ok (.goto 49, 3) := by decide +kernel
theorem dX12_valuesOf_110 : decode cX12_valuesOf 110 = .ok (.iload 7, 2) := by decide +kernel
theorem dX12_valuesOf_112 : decode cX12_valuesOf 112 = .ok (.ifCond .eq 13, 3) := by decide +kernel
theorem dX12_valuesOf_115 : decode cX12_valuesOf 115 = .ok (.iload 4, 2) := by decide +kernel
theorem dX12_valuesOf_117 : decode cX12_valuesOf 117 = .ok (.iload 5, 2) := by decide +kernel
theorem dX12_valuesOf_119 : decode cX12_valuesOf 119 = .ok (.iadd, 1) := by decide +kernel
theorem dX12_valuesOf_120 : decode cX12_valuesOf 120 = .ok (.iconst 1, 1) := by decide +kernel
theorem dX12_valuesOf_121 : decode cX12_valuesOf 121 = .ok (.ishr, 1) := by decide +kernel
theorem dX12_valuesOf_122 : decode cX12_valuesOf 122 = .ok (.goto 34, 3) := by decide +kernel
theorem dX12_valuesOf_125 : decode cX12_valuesOf 125 = .ok (.iload_n 1, 1) := by decide +kernel
theorem dX12_valuesOf_126 : decode cX12_valuesOf 126 = .ok (.iconst 2, 1) := by decide +kernel
theorem dX12_valuesOf_127 : decode cX12_valuesOf 127 = .ok (.if_icmp .ne 8, 3) := by decide +kernel
theorem dX12_valuesOf_130 : decode cX12_valuesOf 130 = .ok (.iload 5, 2) := by decide +kernel
theorem dX12_valuesOf_132 : decode cX12_valuesOf 132 = .ok (.goto 24, 3) := by decide +kernel
theorem dX12_valuesOf_135 : decode cX12_valuesOf 135 = .ok (.iload_n 1, 1) := by decide +kernel
theorem dX12_valuesOf_136 : decode cX12_valuesOf 136 = .ok (.iconst 1, 1) := by decide +kernel
theorem dX12_valuesOf_137 : decode cX12_valuesOf 137 = .ok (.if_icmp .ne 8, 3) := by decide +kernel
theorem dX12_valuesOf_140 : decode cX12_valuesOf 140 = .ok (.iload 4, 2) := by decide +kernel
theorem dX12_valuesOf_142 : decode cX12_valuesOf 142 = .ok (.goto 14, 3) := by decide +kernel
theorem dX12_valuesOf_145 : decode cX12_valuesOf 145 = .ok (.iload_n 2, 1) := by decide +kernel
theorem dX12_valuesOf_146 : decode cX12_valuesOf 146 = .ok (.ifCond .ne 8, 3) := by decide +kernel
theorem dX12_valuesOf_149 : decode cX12_valuesOf 149 = .ok (.iload 4, 2) := by decide +kernel
theorem dX12_valuesOf_151 : decode cX12_valuesOf 151 = .ok (.goto 5, 3) := by decide +kernel
theorem dX12_valuesOf_154 : decode cX12_valuesOf 154 = .ok (.iload 5, 2) := by decide +kernel
theorem dX12_valuesOf_156 : decode cX12_valuesOf 156 = .ok (.iastore, 1) := by decide +kernel
theorem dX12_valuesOf_157 : decode cX12_valuesOf 157 = .ok (.iinc 3 1, 3) := by decide +kernel
theorem dX12_valuesOf_160 : decode cX12_valuesOf 160 = .ok (.goto (-148), 3) := by decide +kernel
theorem dX12_valuesOf_163 : decode cX12_valuesOf 163 = .ok (.iload_n 1, 1) := by decide +kernel
theorem dX12_valuesOf_164 : decode cX12_valuesOf 164 = .ok (.iconst 1, 1) := by decide +kernel
theorem dX12_valuesOf_165 : decode cX12_valuesOf 165 = .ok (.if_icmp .ne 8, 3) := by decide +kernel
theorem dX12_valuesOf_168 : decode cX12_valuesOf 168 = .ok (.iload_n 2, 1) := by decide +kernel
theorem dX12_valuesOf_169 : decode cX12_valuesOf 169 = .ok (.iconst 1, 1) := by decide +kernel
theorem dX12_valuesOf_170 : decode cX12_valuesOf 170 = .ok (.if_icmp .eq 22, 3) := by decide +kernel
theorem dX12_valuesOf_173 : decode cX12_valuesOf 173 = .ok (.iload_n 1, 1) := by decide +kernel
theorem dX12_valuesOf_174 : decode cX12_valuesOf 174 = .ok (.iconst 2, 1) := by decide +kernel
theorem dX12_valuesOf_175 : decode cX12_valuesOf 175 = .ok (.if_icmp .ne 7, 3) := by decide +kernel
theorem dX12_valuesOf_178 : decode cX12_valuesOf 178 = .ok (.iload_n 2, 1) := by decide +kernel
theorem dX12_valuesOf_179 : decode cX12_valuesOf 179 = .ok (.ifCond .eq 13, 3) := by decide +kernel
theorem dX12_valuesOf_182 : decode cX12_valuesOf 182 = .ok (.iload_n 1, 1) := by decide +kernel
theorem dX12_valuesOf_183 : decode cX12_valuesOf 183 = .ok (.iconst 3, 1) := by decide +kernel
theorem dX12_valuesOf_184 : decode cX12_valuesOf 184 = .ok (.if_icmp .ne 12, 3) := by decide +kernel
theorem dX12_valuesOf_187 : decode cX12_valuesOf 187 = .ok (.iload_n 2, 1) := by decide +kernel
theorem dX12_valuesOf_188 : decode cX12_valuesOf 188 = .ok (.iconst 1, 1) := by decide +kernel
theorem dX12_valuesOf_189 : decode cX12_valuesOf 189 = .ok (.if_icmp .ne 7, 3) := by decide +kernel
theorem dX12_valuesOf_192 : decode cX12_valuesOf 192 = .ok (.iconst 1, 1) := by decide +kernel
theorem dX12_valuesOf_193 : decode cX12_valuesOf 193 = .ok (.goto 4, 3) := by decide +kernel
theorem dX12_valuesOf_196 : decode cX12_valuesOf 196 = .ok (.iconst 0, 1) := by decide +kernel
theorem dX12_valuesOf_197 : decode cX12_valuesOf 197 = .ok (.istore_n 3, 1) := by decide +kernel
theorem dX12_valuesOf_198 : decode cX12_valuesOf 198 = .ok (.aload_n 0, 1) := by decide +kernel
theorem dX12_valuesOf_199 : decode cX12_valuesOf 199 = .ok (.iload_n 3, 1) := by decide +kernel
theorem dX12_valuesOf_200 : decode cX12_valuesOf 200 = .ok (.ifCond .eq 12, 3) := by decide +kernel
theorem dX12_valuesOf_203 : decode cX12_valuesOf 203 = .ok (.aload_n 0, 1) := by decide +kernel
theorem dX12_valuesOf_204 : decode cX12_valuesOf 204 = .ok (.getfield 13, 3) := by decide +kernel
theorem dX12_valuesOf_207 : decode cX12_valuesOf 207 = .ok (.iconst 1, 1) := by decide +kernel
theorem dX12_valuesOf_208 : decode cX12_valuesOf 208 = .ok (.iadd, 1) := by decide +kernel
theorem dX12_valuesOf_209 : decode cX12_valuesOf 209 = .ok (.goto 7, 3) := by decide +kernel
theorem dX12_valuesOf_212 : decode cX12_valuesOf 212 = .ok (.aload_n 0, 1) := by decide +kernel
theorem dX12_valuesOf_213 : decode cX12_valuesOf 213 = .ok (.getfield 13, 3) := by decide +kernel
theorem dX12_valuesOf_216 : decode cX12_valuesOf 216 = .ok (.invokevirtual 159, 3) := by decide +kernel
theorem dX12_valuesOf_219 : decode cX12_valuesOf 219 = .ok (.return_, 1) := by decide +kernel
theorem dX12_put_0 : decode cX12_put 0 = .ok (.iload_n 3, 1) := by decide +kernel
theorem dX12_put_1 : decode cX12_put 1 = .ok (.iconst 1, 1) := by decide +kernel
theorem dX12_put_2 : decode cX12_put 2 = .ok (.isub, 1) := by decide +kernel
theorem dX12_put_3 : decode cX12_put 3 = .ok (.istore 4, 2) := by decide +kernel
theorem dX12_put_5 : decode cX12_put 5 = .ok (.iload 4, 2) := by decide +kernel
theorem dX12_put_7 : decode cX12_put 7 = .ok (.ifCond .lt 75, 3) := by decide +kernel
theorem dX12_put_10 : decode cX12_put 10 = .ok (.aload_n 0, 1) := by decide +kernel
theorem dX12_put_11 : decode cX12_put 11 = .ok (.getfield 163, 3) := by decide +kernel
theorem dX12_put_14 : decode cX12_put 14 = .ok (.bipush 8, 2) := by decide +kernel
theorem dX12_put_16 : decode cX12_put 16 = .ok (.irem, 1) := by decide +kernel
theorem dX12_put_17 : decode cX12_put 17 = .ok (.ifCond .ne 16, 3) := by decide +kernel
theorem dX12_put_20 : decode cX12_put 20 = .ok (.aload_n 0, 1) := by decide +kernel
theorem dX12_put_21 : decode cX12_put 21 = .ok (.getfield 57, 3) := by decide +kernel
theorem dX12_put_24 : decode cX12_put 24 = .ok (.aload_n 0, 1) := by decide +kernel
theorem dX12_put_25 : decode cX12_put 25 = .ok (.getfield 163, 3) := by decide +kernel
theorem dX12_put_28 : decode cX12_put 28 = .ok (.bipush 8, 2) := by decide +kernel
theorem dX12_put_30 : decode cX12_put 30 = .ok (.idiv, 1) := by decide +kernel
theorem dX12_put_31 : decode cX12_put 31 = .ok (.iconst 0, 1) := by decide +kernel
theorem dX12_put_32 : decode cX12_put 32 = .ok (.iastore, 1) := by decide +kernel
theorem dX12_put_33 : decode cX12_put 33 = .ok (.aload_n 0, 1) := by decide +kernel
theorem dX12_put_34 : decode cX12_put 34 = .ok (.getfield 57, 3) := by decide +kernel
theorem dX12_put_37 : decode cX12_put 37 = .ok (.aload_n 0, 1) := by decide +kernel
theorem dX12_put_38 : decode cX12_put 38 = .ok (.getfield 163, 3) := by decide +kernel
theorem dX12_put_41 : decode cX12_put 41 = .ok (.bipush 8, 2) := by decide +kernel
theorem dX12_put_43 : decode cX12_put 43 = .ok (.idiv, 1) := by decide +kernel
theorem dX12_put_44 : decode cX12_put 44 = .ok (.dup2, 1) := by decide +kernel
theorem dX12_put_45 : decode cX12_put 45 = .ok (.iaload, 1) := by decide +kernel
theorem dX12_put_46 : decode cX12_put 46 = .ok (.lload_n 1, 1) := by decide +kernel
theorem dX12_put_47 : decode cX12_put 47 = .ok (.iload 4, 2) := by decide +kernel
theorem dX12_put_49 : decode cX12_put 49 = .ok (.lshr, 1) := by decide +kernel
theorem dX12_put_50 : decode cX12_put 50 = .ok (.lconst 1, 1) := by decide +kernel
theorem dX12_put_51 : decode cX12_put 51 = .ok (.land, 1) := by decide +kernel
theorem dX12_put_52 : decode cX12_put 52 = .ok (.l2i, 1) := by decide +kernel
theorem dX12_put_53 : decode cX12_put 53 = .ok (.bipush 7, 2) := by decide +kernel
theorem dX12_put_55 : decode cX12_put 55 = .ok (.aload_n 0, 1) := by decide +kernel
theorem dX12_put_56 : decode cX12_put 56 = .ok (.getfield 163, 3) := by decide +kernel
theorem dX12_put_59 : decode cX12_put 59 = .ok (.bipush 8, 2) := by decide +kernel
theorem dX12_put_61 : decode cX12_put 61 = .ok (.irem, 1) := by decide +kernel
theorem dX12_put_62 : decode cX12_put 62 = .ok (.isub, 1) := by decide +kernel
theorem dX12_put_63 : decode cX12_put 63 = .ok (.ishl, 1) := by decide +kernel
theorem dX12_put_64 : decode cX12_put 64 = .ok (.ior, 1) := by decide +kernel
theorem dX12_put_65 : decode cX12_put 65 = .ok (.iastore, 1) := by decide +kernel
theorem dX12_put_66 : decode cX12_put 66 = .ok (.aload_n 0, 1) := by decide +kernel
theorem dX12_put_67 : decode cX12_put 67 = .ok (.dup, 1) := by decide +kernel
theorem dX12_put_68 : decode cX12_put 68 = .ok (.getfield 163, 3) := by decide +kernel
theorem dX12_put_71 : decode cX12_put 71 = .ok (.iconst 1, 1) := by decide +kernel
theorem dX12_put_72 : decode cX12_put 72 = .ok (.iadd, 1) := by decide +kernel
theorem dX12_put_73 : decode cX12_put 73 = .ok (.putfield 163, 3) := by decide +kernel
theorem dX12_put_76 : decode cX12_put 76 = .ok (.iinc 4 (-1), 3) := by decide +kernel
theorem dX12_put_79 : decode cX12_put 79 = .ok (.goto (-74), 3) := by decide +kernel
theorem dX12_put_82 : decode cX12_put 82 = .ok (.return_, 1) := by decide +kernel
theorem dX12_putRow_0 : decode cX12_putRow 0 = .ok (.aload_n 0, 1) := by decide +kernel
theorem dX12_putRow_1 : decode cX12_putRow 1 = .ok (.getfield 163, 3) := by decide +kernel
theorem dX12_putRow_4 : decode cX12_putRow 4 = .ok (.istore_n 3, 1) := by decide +kernel
theorem dX12_putRow_5 : decode cX12_putRow 5 = .ok (.aload_n 0, 1) := by decide +kernel
theorem dX12_putRow_6 : decode cX12_putRow 6 = .ok (.iload_n 2, 1) := by decide +kernel
theorem dX12_putRow_7 : decode cX12_putRow 7 = .ok (.invokevirtual 156, 3) := by decide +kernel
theorem dX12_putRow_10 : decode cX12_putRow 10 = .ok (.lstore 4, 2) := by decide +kernel
theorem dX12_putRow_12 : decode cX12_putRow 12 = .ok (.aload_n 0, 1) := by decide +kernel
theorem dX12_putRow_13 : decode cX12_putRow 13 = .ok (.iload_n 2, 1) := by decide +kernel
theorem dX12_putRow_14 : decode cX12_putRow 14 = .ok (.i2l, 1) := by decide +kernel
theorem dX12_putRow_15 : decode cX12_putRow 15 = .ok (.iconst 3, 1) := by decide +kernel
theorem dX12_putRow_16 : decode cX12_putRow 16 = .ok (.invokevirtual 166, 3) := by decide +kernel
theorem dX12_putRow_19 : decode cX12_putRow 19 = .ok (.aload_n 0, 1) := by decide +kernel
theorem dX12_putRow_20 : decode cX12_putRow 20 = .ok (.aload_n 0, 1) := by decide +kernel
theorem dX12_putRow_21 : decode cX12_putRow 21 = .ok (.getfield 95, 3) := by decide +kernel
theorem dX12_putRow_24 : decode cX12_putRow 24 = .ok (.i2l, 1) := by decide +kernel
theorem dX12_putRow_25 : decode cX12_putRow 25 = .ok (.iconst 4, 1) := by decide +kernel
theorem dX12_putRow_26 : decode cX12_putRow 26 = .ok (.invokevirtual 166, 3) := by decide +kernel
theorem dX12_putRow_29 : decode cX12_putRow 29 = .ok (.aload_n 0, 1) := by decide +kernel
theorem dX12_putRow_30 : decode cX12_putRow 30 = .ok (.getfield 32, 3) := by decide +kernel
theorem dX12_putRow_33 : decode cX12_putRow 33 = .ok (.iconst 4, 1) := by decide +kernel
theorem dX12_putRow_34 : decode cX12_putRow 34 = .ok (.iload_n 1, 1) := by decide +kernel
theorem dX12_putRow_35 : decode cX12_putRow 35 = .ok (.imul, 1) := by decide +kernel
theorem dX12_putRow_36 : decode cX12_putRow 36 = .ok (.iload_n 2, 1) := by decide +kernel
theorem dX12_putRow_37 : decode cX12_putRow 37 = .ok (.iastore, 1) := by decide +kernel
theorem dX12_putRow_38 : decode cX12_putRow 38 = .ok (.aload_n 0, 1) := by decide +kernel
theorem dX12_putRow_39 : decode cX12_putRow 39 = .ok (.getfield 32, 3) := by decide +kernel
theorem dX12_putRow_42 : decode cX12_putRow 42 = .ok (.iconst 4, 1) := by decide +kernel
theorem dX12_putRow_43 : decode cX12_putRow 43 = .ok (.iload_n 1, 1) := by decide +kernel
theorem dX12_putRow_44 : decode cX12_putRow 44 = .ok (.imul, 1) := by decide +kernel
theorem dX12_putRow_45 : decode cX12_putRow 45 = .ok (.iconst 1, 1) := by decide +kernel
theorem dX12_putRow_46 : decode cX12_putRow 46 = .ok (.iadd, 1) := by decide +kernel
theorem dX12_putRow_47 : decode cX12_putRow 47 = .ok (.aload_n 0, 1) := by decide +kernel
theorem dX12_putRow_48 : decode cX12_putRow 48 = .ok (.getfield 95, 3) := by decide +kernel
theorem dX12_putRow_51 : decode cX12_putRow 51 = .ok (.iastore, 1) := by decide +kernel
theorem dX12_putRow_52 : decode cX12_putRow 52 = .ok (.aload_n 0, 1) := by decide +kernel
theorem dX12_putRow_53 : decode cX12_putRow 53 = .ok (.getfield 32, 3) := by decide +kernel
theorem dX12_putRow_56 : decode cX12_putRow 56 = .ok (.iconst 4, 1) := by decide +kernel
theorem dX12_putRow_57 : decode cX12_putRow 57 = .ok (.iload_n 1, 1) := by decide +kernel
theorem dX12_putRow_58 : decode cX12_putRow 58 = .ok (.imul, 1) := by decide +kernel
theorem dX12_putRow_59 : decode cX12_putRow 59 = .ok (.iconst 3, 1) := by decide +kernel
theorem dX12_putRow_60 : decode cX12_putRow 60 = .ok (.iadd, 1) := by decide +kernel
theorem dX12_putRow_61 : decode cX12_putRow 61 = .ok (.iconst (-1), 1) := by decide +kernel
theorem dX12_putRow_62 : decode cX12_putRow 62 = .ok (.iastore, 1) := by decide +kernel
theorem dX12_putRow_63 : decode cX12_putRow 63 = .ok (.iload_n 2, 1) := by decide +kernel
theorem dX12_putRow_64 : decode cX12_putRow 64 = .ok (.iconst 2, 1) := by decide +kernel
theorem dX12_putRow_65 : decode cX12_putRow 65 = .ok (.if_icmp .ge 48, 3) := by decide +kernel
theorem dX12_putRow_68 : decode cX12_putRow 68 = .ok (.iconst 0, 1) := by decide +kernel
theorem dX12_putRow_69 : decode cX12_putRow 69 = .ok (.istore 6, 2) := by decide +kernel
theorem dX12_putRow_71 : decode cX12_putRow 71 = .ok (.iload 6, 2) := by decide +kernel
theorem dX12_putRow_73 : decode cX12_putRow 73 = .ok (.iload_n 2, 1) := by decide +kernel
theorem dX12_putRow_74 : decode cX12_putRow 74 = .ok (.ifCond .ne 7, 3) := by decide +kernel
theorem dX12_putRow_77 : decode cX12_putRow 77 = .ok (.iconst 1, 1) := by decide +kernel
theorem dX12_putRow_78 : decode cX12_putRow 78 = .ok (.goto 7, 3) := by decide +kernel
theorem dX12_putRow_81 : decode cX12_putRow 81 = .ok (.aload_n 0, 1) := by decide +kernel
theorem dX12_putRow_82 : decode cX12_putRow 82 = .ok (.getfield 92, 3) := by decide +kernel
theorem dX12_putRow_85 : decode cX12_putRow 85 = .ok (.if_icmp .ge 25, 3) := by decide +kernel
theorem dX12_putRow_88 : decode cX12_putRow 88 = .ok (.aload_n 0, 1) := by decide +kernel
theorem dX12_putRow_89 : decode cX12_putRow 89 = .ok (.aload_n 0, 1) := by decide +kernel
theorem dX12_putRow_90 : decode cX12_putRow 90 = .ok (.getfield 47, 3) := by decide +kernel
theorem dX12_putRow_93 : decode cX12_putRow 93 = .ok (.iload 6, 2) := by decide +kernel
theorem dX12_putRow_95 : decode cX12_putRow 95 = .ok (.iaload, 1) := by decide +kernel
theorem dX12_putRow_96 : decode cX12_putRow 96 = .ok (.i2l, 1) := by decide +kernel
theorem dX12_putRow_97 : decode cX12_putRow 97 = .ok (.aload_n 0, 1) := by decide +kernel
theorem dX12_putRow_98 : decode cX12_putRow 98 = .ok (.getfield 98, 3) := by decide +kernel
theorem dX12_putRow_101 : decode cX12_putRow 101 = .ok (.invokevirtual 166, 3) := by decide +kernel
theorem dX12_putRow_104 : decode cX12_putRow 104 = .ok (.iinc 6 1, 3) := by decide +kernel
theorem dX12_putRow_107 : decode cX12_putRow 107 = .ok (.goto (-36), 3) := by decide +kernel
theorem dX12_putRow_110 : decode cX12_putRow 110 = .ok (.goto 105, 3) := by decide +kernel
theorem dX12_putRow_113 : decode cX12_putRow 113 = .ok (.aload_n 0, 1) := by decide +kernel
theorem dX12_putRow_114 : decode cX12_putRow 114 = .ok (.iload_n 2, 1) := by decide +kernel
theorem dX12_putRow_115 : decode cX12_putRow 115 = .ok (.invokevirtual 141, 3) := by decide +kernel
theorem dX12_putRow_118 : decode cX12_putRow 118 = .ok (.istore 6, 2) := by decide +kernel
theorem dX12_putRow_120 : decode cX12_putRow 120 = .ok (.iload_n 2, 1) := by decide +kernel
theorem dX12_putRow_121 : decode cX12_putRow 121 = .ok (.bipush 7, 2) := by decide +kernel
theorem dX12_putRow_123 : decode cX12_putRow 123 = .ok (.if_icmp .ne 53, 3) := by decide +kernel
theorem dX12_putRow_126 : decode cX12_putRow 126 = .ok (.aload_n 0, 1) := by decide +kernel
theorem dX12_putRow_127 : decode cX12_putRow 127 = .ok (.iload 6, 2) := by decide +kernel
theorem dX12_putRow_129 : decode cX12_putRow 129 = .ok (.iconst 1, 1) := by decide +kernel
theorem dX12_putRow_130 : decode cX12_putRow 130 = .ok (.isub, 1) := by decide +kernel
theorem dX12_putRow_131 : decode cX12_putRow 131 = .ok (.i2l, 1) := by decide +kernel
theorem dX12_putRow_132 : decode cX12_putRow 132 = .ok (.iconst 2, 1) := by decide +kernel
theorem dX12_putRow_133 : decode cX12_putRow 133 = .ok (.invokevirtual 166, 3) := by decide +kernel
theorem dX12_putRow_136 : decode cX12_putRow 136 = .ok (.aload_n 0, 1) := by decide +kernel
theorem dX12_putRow_137 : decode cX12_putRow 137 = .ok (.aload_n 0, 1) := by decide +kernel
theorem dX12_putRow_138 : decode cX12_putRow 138 = .ok (.getfield 89, 3) := by decide +kernel
theorem dX12_putRow_141 : decode cX12_putRow 141 = .ok (.i2l, 1) := by decide +kernel
theorem dX12_putRow_142 : decode cX12_putRow 142 = .ok (.iconst 4, 1) := by decide +kernel
theorem dX12_putRow_143 : decode cX12_putRow 143 = .ok (.invokevirtual 166, 3) := by decide +kernel
theorem dX12_putRow_146 : decode cX12_putRow 146 = .ok (.iconst 0, 1) := by decide +kernel
theorem dX12_putRow_147 : decode cX12_putRow 147 = .ok (.istore 7, 2) := by decide +kernel
theorem dX12_putRow_149 : decode cX12_putRow 149 = .ok (.iload 7, 2) := by decide +kernel
theorem dX12_putRow_151 : decode cX12_putRow 151 = .ok (.iload 6, 2) := by decide +kernel
theorem dX12_putRow_153 : decode cX12_putRow 153 = .ok (.if_icmp .ge 23, 3) := by decide +kernel
theorem dX12_putRow_156 : decode cX12_putRow 156 = .ok (.aload_n 0, 1) := by decide +kernel
theorem dX12_putRow_157 : decode cX12_putRow 157 = .ok (.aload_n 0, 1) := by decide +kernel
theorem dX12_putRow_158 : decode cX12_putRow 158 = .ok (.getfield 26, 3) := by decide +kernel
theorem dX12_putRow_161 : decode cX12_putRow 161 = .ok (.iload 7, 2) := by decide +kernel
theorem dX12_putRow_163 : decode cX12_putRow 163 = .ok (.iaload, 1) := by decide +kernel
theorem dX12_putRow_164 : decode cX12_putRow 164 = .ok (.i2l, 1) := by decide +kernel
theorem dX12_putRow_165 : decode cX12_putRow 165 = .ok (.bipush 10, 2) := by decide +kernel
theorem dX12_putRow_167 : decode cX12_putRow 167 = .ok (.invokevirtual 166, 3) := by decide +kernel
theorem dX12_putRow_170 : decode cX12_putRow 170 = .ok (.iinc 7 1, 3) := by decide +kernel
theorem dX12_putRow_173 : decode cX12_putRow 173 = .ok (.goto (-24), 3) := by decide +kernel
theorem dX12_putRow_176 : decode cX12_putRow 176 = .ok (.iconst 0, 1) := by decide +kernel
theorem dX12_putRow_177 : decode cX12_putRow 177 = .ok (.istore 7, 2) := by decide +kernel
theorem dX12_putRow_179 : decode cX12_putRow 179 = .ok (.iload 7, 2) := by decide +kernel
theorem dX12_putRow_181 : decode cX12_putRow 181 = .ok (.iload 6, 2) := by decide +kernel
theorem dX12_putRow_183 : decode cX12_putRow 183 = .ok (.if_icmp .ge 25, 3) := by decide +kernel
theorem dX12_putRow_186 : decode cX12_putRow 186 = .ok (.aload_n 0, 1) := by decide +kernel
theorem dX12_putRow_187 : decode cX12_putRow 187 = .ok (.aload_n 0, 1) := by decide +kernel
theorem dX12_putRow_188 : decode cX12_putRow 188 = .ok (.getfield 47, 3) := by decide +kernel
theorem dX12_putRow_191 : decode cX12_putRow 191 = .ok (.iload 7, 2) := by decide +kernel
theorem dX12_putRow_193 : decode cX12_putRow 193 = .ok (.iaload, 1) := by decide +kernel
theorem dX12_putRow_194 : decode cX12_putRow 194 = .ok (.i2l, 1) := by decide +kernel
theorem dX12_putRow_195 : decode cX12_putRow 195 = .ok (.aload_n 0, 1) := by decide +kernel
theorem dX12_putRow_196 : decode cX12_putRow 196 = .ok (.getfield 98, 3) := by decide +kernel
theorem dX12_putRow_199 : decode cX12_putRow 199 = .ok (.invokevirtual 166, 3) := by decide +kernel
theorem dX12_putRow_202 : decode cX12_putRow 202 = .ok (.iinc 7 1, 3) := by decide +kernel
theorem dX12_putRow_205 : decode cX12_putRow 205 = .ok (.goto (-26), 3) := by decide +kernel
theorem dX12_putRow_208 : decode cX12_putRow 208 = .ok (.aload_n 0, 1) := by decide +kernel
theorem dX12_putRow_209 : decode cX12_putRow 209 = .ok (.iload_n 1, 1) := by decide +kernel
theorem dX12_putRow_210 : decode cX12_putRow 210 = .ok (.iload 6, 2) := by decide +kernel
theorem dX12_putRow_212 : decode cX12_putRow 212 = .ok (.invokevirtual 170, 3) := by decide +kernel
theorem dX12_putRow_215 : decode cX12_putRow 215 = .ok (.aload_n 0, 1) := by decide +kernel
theorem dX12_putRow_216 : decode cX12_putRow 216 = .ok (.getfield 32, 3) := by decide +kernel
theorem dX12_putRow_219 : decode cX12_putRow 219 = .ok (.iconst 4, 1) := by decide +kernel
theorem dX12_putRow_220 : decode cX12_putRow 220 = .ok (.iload_n 1, 1) := by decide +kernel
theorem dX12_putRow_221 : decode cX12_putRow 221 = .ok (.imul, 1) := by decide +kernel
theorem dX12_putRow_222 : decode cX12_putRow 222 = .ok (.iconst 2, 1) := by decide +kernel
theorem dX12_putRow_223 : decode cX12_putRow 223 = .ok (.iadd, 1) := by decide +kernel
theorem dX12_putRow_224 : decode cX12_putRow 224 = .ok (.aload_n 0, 1) := by decide +kernel
theorem dX12_putRow_225 : decode cX12_putRow 225 = .ok (.getfield 163, 3) := by decide +kernel
theorem dX12_putRow_228 : decode cX12_putRow 228 = .ok (.iload_n 3, 1) := by decide +kernel
theorem dX12_putRow_229 : decode cX12_putRow 229 = .ok (.isub, 1) := by decide +kernel
theorem dX12_putRow_230 : decode cX12_putRow 230 = .ok (.iastore, 1) := by decide +kernel
theorem dX12_putRow_231 : decode cX12_putRow 231 = .ok (.return_, 1) := by decide +kernel
theorem dX12_putRests_0 : decode cX12_putRests 0 = .ok (.aload_n 0, 1) := by decide +kernel
theorem dX12_putRests_1 : decode cX12_putRests 1 = .ok (.getfield 136, 3) := by decide +kernel
theorem dX12_putRests_4 : decode cX12_putRests 4 = .ok (.istore_n 3, 1) := by decide +kernel
theorem dX12_putRests_5 : decode cX12_putRests 5 = .ok (.aload_n 0, 1) := by decide +kernel
theorem dX12_putRests_6 : decode cX12_putRests 6 = .ok (.getfield 32, 3) := by decide +kernel
theorem dX12_putRests_9 : decode cX12_putRests 9 = .ok (.iconst 4, 1) := by decide +kernel
theorem dX12_putRests_10 : decode cX12_putRests 10 = .ok (.iload_n 1, 1) := by decide +kernel
theorem dX12_putRests_11 : decode cX12_putRests 11 = .ok (.imul, 1) := by decide +kernel
theorem dX12_putRests_12 : decode cX12_putRests 12 = .ok (.iconst 3, 1) := by decide +kernel
theorem dX12_putRests_13 : decode cX12_putRests 13 = .ok (.iadd, 1) := by decide +kernel
theorem dX12_putRests_14 : decode cX12_putRests 14 = .ok (.iload_n 3, 1) := by decide +kernel
theorem dX12_putRests_15 : decode cX12_putRests 15 = .ok (.iastore, 1) := by decide +kernel
theorem dX12_putRests_16 : decode cX12_putRests 16 = .ok (.aload_n 0, 1) := by decide +kernel
theorem dX12_putRests_17 : decode cX12_putRests 17 = .ok (.iload_n 3, 1) := by decide +kernel
theorem dX12_putRests_18 : decode cX12_putRests 18 = .ok (.i2l, 1) := by decide +kernel
theorem dX12_putRests_19 : decode cX12_putRests 19 = .ok (.iconst 3, 1) := by decide +kernel
theorem dX12_putRests_20 : decode cX12_putRests 20 = .ok (.invokevirtual 166, 3) := by decide +kernel
theorem dX12_putRests_23 : decode cX12_putRests 23 = .ok (.aload_n 0, 1) := by decide +kernel
theorem dX12_putRests_24 : decode cX12_putRests 24 = .ok (.getfield 92, 3) := by decide +kernel
theorem dX12_putRests_27 : decode cX12_putRests 27 = .ok (.iload_n 3, 1) := by decide +kernel
theorem dX12_putRests_28 : decode cX12_putRests 28 = .ok (.ishr, 1) := by decide +kernel
theorem dX12_putRests_29 : decode cX12_putRests 29 = .ok (.istore 4, 2) := by decide +kernel
theorem dX12_putRests_31 : decode cX12_putRests 31 = .ok (.iconst 0, 1) := by decide +kernel
theorem dX12_putRests_32 : decode cX12_putRests 32 = .ok (.istore 5, 2) := by decide +kernel
theorem dX12_putRests_34 : decode cX12_putRests 34 = .ok (.iload 5, 2) := by decide +kernel
theorem dX12_putRests_36 : decode cX12_putRests 36 = .ok (.iconst 1, 1) := by decide +kernel
theorem dX12_putRests_37 : decode cX12_putRests 37 = .ok (.iload_n 3, 1) := by decide +kernel
theorem dX12_putRests_38 : decode cX12_putRests 38 = .ok (.ishl, 1) := by decide +kernel
theorem dX12_putRests_39 : decode cX12_putRests 39 = .ok (.if_icmp .ge 206, 3) := by decide +kernel
theorem dX12_putRests_42 : decode cX12_putRests 42 = .ok (.iload 5, 2) := by decide +kernel
theorem dX12_putRests_44 : decode cX12_putRests 44 = .ok (.ifCond .ne 7, 3) := by decide +kernel
theorem dX12_putRests_47 : decode cX12_putRests 47 = .ok (.iload_n 2, 1) := by decide +kernel
theorem dX12_putRests_48 : decode cX12_putRests 48 = .ok (.goto 8, 3) := by decide +kernel
theorem dX12_putRests_51 : decode cX12_putRests 51 = .ok (.iload 5, 2) := by decide +kernel
theorem dX12_putRests_53 : decode cX12_putRests 53 = .ok (.iload 4, 2) := by decide +kernel
theorem dX12_putRests_55 : decode cX12_putRests 55 = .ok (.imul, 1) := by decide +kernel
theorem dX12_putRests_56 : decode cX12_putRests 56 = .ok (.istore 6, 2) := by decide +kernel
theorem dX12_putRests_58 : decode cX12_putRests 58 = .ok (.iload 5, 2) := by decide +kernel
theorem dX12_putRests_60 : decode cX12_putRests 60 = .ok (.iconst 1, 1) := by decide +kernel
theorem dX12_putRests_61 : decode cX12_putRests 61 = .ok (.iadd, 1) := by decide +kernel
theorem dX12_putRests_62 : decode cX12_putRests 62 = .ok (.iload 4, 2) := by decide +kernel
theorem dX12_putRests_64 : decode cX12_putRests 64 = .ok (.imul, 1) := by decide +kernel
theorem dX12_putRests_65 : decode cX12_putRests 65 = .ok (.istore 7, 2) := by decide +kernel
theorem dX12_putRests_67 : decode cX12_putRests 67 = .ok (.aload_n 0, 1) := by decide +kernel
theorem dX12_putRests_68 : decode cX12_putRests 68 = .ok (.iload 6, 2) := by decide +kernel
theorem dX12_putRests_70 : decode cX12_putRests 70 = .ok (.iload 7, 2) := by decide +kernel
theorem dX12_putRests_72 : decode cX12_putRests 72 = .ok (.invokevirtual 133, 3) := by decide +kernel
theorem dX12_putRests_75 : decode cX12_putRests 75 = .ok (.lstore 8, 2) := by decide +kernel
theorem dX12_putRests_77 : decode cX12_putRests 77 = .ok (.aload_n 0, 1) := by decide +kernel
theorem dX12_putRests_78 : decode cX12_putRests 78 = .ok (.getfield 35, 3) := by decide +kernel
theorem dX12_putRests_81 : decode cX12_putRests 81 = .ok (.bipush 16, 2) := by decide +kernel
theorem dX12_putRests_83 : decode cX12_putRests 83 = .ok (.iload_n 1, 1) := by decide +kernel
theorem dX12_putRests_84 : decode cX12_putRests 84 = .ok (.imul, 1) := by decide +kernel
theorem dX12_putRests_85 : decode cX12_putRests 85 = .ok (.iload 5, 2) := by decide +kernel
theorem dX12_putRests_87 : decode cX12_putRests 87 = .ok (.iadd, 1) := by decide +kernel
theorem dX12_putRests_88 : decode cX12_putRests 88 = .ok (.aload_n 0, 1) := by decide +kernel
theorem dX12_putRests_89 : decode cX12_putRests 89 = .ok (.getfield 117, 3) := by decide +kernel
theorem dX12_putRests_92 : decode cX12_putRests 92 = .ok (.iastore, 1) := by decide +kernel
theorem dX12_putRests_93 : decode cX12_putRests 93 = .ok (.aload_n 0, 1) := by decide +kernel
theorem dX12_putRests_94 : decode cX12_putRests 94 = .ok (.getfield 38, 3) := by decide +kernel
theorem dX12_putRests_97 : decode cX12_putRests 97 = .ok (.bipush 16, 2) := by decide +kernel
theorem dX12_putRests_99 : decode cX12_putRests 99 = .ok (.iload_n 1, 1) := by decide +kernel
theorem dX12_putRests_100 : decode cX12_putRests 100 = .ok (.imul, 1) := by decide +kernel
theorem dX12_putRests_101 : decode cX12_putRests 101 = .ok (.iload 5, 2) := by decide +kernel
theorem dX12_putRests_103 : decode cX12_putRests 103 = .ok (.iadd, 1) := by decide +kernel
theorem dX12_putRests_104 : decode cX12_putRests 104 = .ok (.aload_n 0, 1) := by decide +kernel
theorem dX12_putRests_105 : decode cX12_putRests 105 = .ok (.getfield 120, 3) := by decide +kernel
theorem dX12_putRests_108 : decode cX12_putRests 108 = .ok (.iastore, 1) := by decide +kernel
theorem dX12_putRests_109 : decode cX12_putRests 109 = .ok (.aload_n 0, 1) := by decide +kernel
theorem dX12_putRests_110 : decode cX12_putRests 110 = .ok (.aload_n 0, 1) := by decide +kernel
theorem dX12_putRests_111 : decode cX12_putRests 111 = .ok (.getfield 117, 3) := by decide +kernel
theorem dX12_putRests_114 : decode cX12_putRests 114 = .ok (.i2l, 1) := by decide +kernel
theorem dX12_putRests_115 : decode cX12_putRests 115 = .ok (.iconst 4, 1) := by decide +kernel
theorem dX12_putRests_116 : decode cX12_putRests 116 = .ok (.invokevirtual 166, 3) := by decide +kernel
theorem dX12_putRests_119 : decode cX12_putRests 119 = .ok (.aload_n 0, 1) := by decide +kernel
theorem dX12_putRests_120 : decode cX12_putRests 120 = .ok (.getfield 117, 3) := by decide +kernel
theorem dX12_putRests_123 : decode cX12_putRests 123 = .ok (.bipush 15, 2) := by decide +kernel
theorem dX12_putRests_125 : decode cX12_putRests 125 = .ok (.if_icmp .ne 13, 3) := by decide +kernel
theorem dX12_putRests_128 : decode cX12_putRests 128 = .ok (.aload_n 0, 1) := by decide +kernel
theorem dX12_putRests_129 : decode cX12_putRests 129 = .ok (.aload_n 0, 1) := by decide +kernel
theorem dX12_putRests_130 : decode cX12_putRests 130 = .ok (.getfield 120, 3) := by decide +kernel
theorem dX12_putRests_133 : decode cX12_putRests 133 = .ok (.i2l, 1) := by decide +kernel
theorem dX12_putRests_134 : decode cX12_putRests 134 = .ok (.iconst 5, 1) := by decide +kernel
theorem dX12_putRests_135 : decode cX12_putRests 135 = .ok (.invokevirtual 166, 3) := by decide +kernel
theorem dX12_putRests_138 : decode cX12_putRests 138 = .ok (.iload 6, 2) := by decide +kernel
theorem dX12_putRests_140 : decode cX12_putRests 140 = .ok (.istore 10, 2) := by decide +kernel
theorem dX12_putRests_142 : decode cX12_putRests 142 = .ok (.iload 10, 2) := by decide +kernel
theorem dX12_putRests_144 : decode cX12_putRests 144 = .ok (.iload 7, 2) := by decide +kernel
theorem dX12_putRests_146 : decode cX12_putRests 146 = .ok (.if_icmp .ge 93, 3) := by decide +kernel
theorem dX12_putRests_149 : decode cX12_putRests 149 = .ok (.aload_n 0, 1) := by decide +kernel
theorem dX12_putRests_150 : decode cX12_putRests 150 = .ok (.getfield 117, 3) := by decide +kernel
theorem dX12_putRests_153 : decode cX12_putRests 153 = .ok (.bipush 15, 2) := by decide +kernel
theorem dX12_putRests_155 : decode cX12_putRests 155 = .ok (.if_icmp .ne 21, 3) := by decide +kernel
theorem dX12_putRests_158 : decode cX12_putRests 158 = .ok (.aload_n 0, 1) := by decide +kernel
theorem dX12_putRests_159 : decode cX12_putRests 159 = .ok (.aload_n 0, 1) := by decide +kernel
theorem dX12_putRests_160 : decode cX12_putRests 160 = .ok (.getfield 50, 3) := by decide +kernel
theorem dX12_putRests_163 : decode cX12_putRests 163 = .ok (.iload 10, 2) := by decide +kernel
theorem dX12_putRests_165 : decode cX12_putRests 165 = .ok (.laload, 1) := by decide +kernel
theorem dX12_putRests_166 : decode cX12_putRests 166 = .ok (.aload_n 0, 1) := by decide +kernel
theorem dX12_putRests_167 : decode cX12_putRests 167 = .ok (.getfield 120, 3) := by decide +kernel
theorem dX12_putRests_170 : decode cX12_putRests 170 = .ok (.invokevirtual 166, 3) := by decide +kernel
theorem dX12_putRests_173 : decode cX12_putRests 173 = .ok (.goto 60, 3) := by decide +kernel
theorem dX12_putRests_176 : decode cX12_putRests 176 = .ok (.aload_n 0, 1) := by decide +kernel
theorem dX12_putRests_177 : decode cX12_putRests 177 = .ok (.getfield 54, 3) := by decide +kernel
theorem dX12_putRests_180 : decode cX12_putRests 180 = .ok (.iload 10, 2) := by decide +kernel
theorem dX12_putRests_182 : decode cX12_putRests 182 = .ok (.laload, 1) := by decide +kernel
theorem dX12_putRests_183 : decode cX12_putRests 183 = .ok (.aload_n 0, 1) := by decide +kernel
theorem dX12_putRests_184 : decode cX12_putRests 184 = .ok (.getfield 117, 3) := by decide +kernel
theorem dX12_putRests_187 : decode cX12_putRests 187 = .ok (.lshr, 1) := by decide +kernel
theorem dX12_putRests_188 : decode cX12_putRests 188 = .ok (.lstore 11, 2) := by decide +kernel
theorem dX12_putRests_190 : decode cX12_putRests 190 = .ok (.lload 11, 2) := by decide +kernel
theorem dX12_putRests_192 : decode cX12_putRests 192 = .ok (.lconst 0, 1) := by decide +kernel
theorem dX12_putRests_193 : decode cX12_putRests 193 = .ok (.lcmp, 1) := by decide +kernel
theorem dX12_putRests_194 : decode cX12_putRests 194 = .ok (.ifCond .le 18, 3) := by decide +kernel
theorem dX12_putRests_197 : decode cX12_putRests 197 = .ok (.aload_n 0, 1) := by decide +kernel
theorem dX12_putRests_198 : decode cX12_putRests 198 = .ok (.lconst 1, 1) := by decide +kernel
theorem dX12_putRests_199 : decode cX12_putRests 199 = .ok (.iconst 1, 1) := by decide +kernel
theorem dX12_putRests_200 : decode cX12_putRests 200 = .ok (.invokevirtual 166, 3) := by decide +kernel
theorem dX12_putRests_203 : decode cX12_putRests 203 = .ok (.lload 11, 2) := by decide +kernel
theorem dX12_putRests_205 : decode cX12_putRests 205 = .ok (.lconst 1, 1) := by decide +kernel
theorem dX12_putRests_206 : decode cX12_putRests 206 = .ok (.lsub, 1) := by decide +kernel
theorem dX12_putRests_207 : decode cX12_putRests 207 = .ok (.lstore 11, 2) := by decide +kernel
theorem dX12_putRests_209 : decode cX12_putRests 209 = .ok (.goto (-19), 3) := by decide +kernel
theorem dX12_putRests_212 : decode cX12_putRests 212 = .ok (.aload_n 0, 1) := by decide +kernel
theorem dX12_putRests_213 : decode cX12_putRests 213 = .ok (.lconst 0, 1) := by decide +kernel
theorem dX12_putRests_214 : decode cX12_putRests 214 = .ok (.iconst 1, 1) := by decide +kernel
theorem dX12_putRests_215 : decode cX12_putRests 215 = .ok (.invokevirtual 166, 3) := by decide +kernel
theorem dX12_putRests_218 : decode cX12_putRests 218 = .ok (.aload_n 0, 1) := by decide +kernel
theorem dX12_putRests_219 : decode cX12_putRests 219 = .ok (.aload_n 0, 1) := by decide +kernel
theorem dX12_putRests_220 : decode cX12_putRests 220 = .ok (.getfield 54, 3) := by decide +kernel
theorem dX12_putRests_223 : decode cX12_putRests 223 = .ok (.iload 10, 2) := by decide +kernel
theorem dX12_putRests_225 : decode cX12_putRests 225 = .ok (.laload, 1) := by decide +kernel
theorem dX12_putRests_226 : decode cX12_putRests 226 = .ok (.aload_n 0, 1) := by decide +kernel
theorem dX12_putRests_227 : decode cX12_putRests 227 = .ok (.getfield 117, 3) := by decide +kernel
theorem dX12_putRests_230 : decode cX12_putRests 230 = .ok (.invokevirtual 166, 3) := by decide +kernel
theorem dX12_putRests_233 : decode cX12_putRests 233 = .ok (.iinc 10 1, 3) := by decide +kernel
theorem dX12_putRests_236 : decode cX12_putRests 236 = .ok (.goto (-94), 3) := by decide +kernel
theorem dX12_putRests_239 : decode cX12_putRests 239 = .ok (.iinc 5 1, 3) := by decide +kernel
theorem dX12_putRests_242 : decode cX12_putRests 242 = .ok (.goto (-208), 3) := by decide +kernel
theorem dX12_putRests_245 : decode cX12_putRests 245 = .ok (.return_, 1) := by decide +kernel
theorem dX12_sumOf_0 : decode cX12_sumOf 0 = .ok (.iconst 0, 1) := by decide +kernel
theorem dX12_sumOf_1 : decode cX12_sumOf 1 = .ok (.istore 4, 2) := by decide +kernel
theorem dX12_sumOf_3 : decode cX12_sumOf 3 = .ok (.iload_n 2, 1) := by decide +kernel
theorem dX12_sumOf_4 : decode cX12_sumOf 4 = .ok (.istore 5, 2) := by decide +kernel
theorem dX12_sumOf_6 : decode cX12_sumOf 6 = .ok (.iload 5, 2) := by decide +kernel
theorem dX12_sumOf_8 : decode cX12_sumOf 8 = .ok (.iload_n 3, 1) := by decide +kernel
theorem dX12_sumOf_9 : decode cX12_sumOf 9 = .ok (.if_icmp .ge 61, 3) := by decide +kernel
theorem dX12_sumOf_12 : decode cX12_sumOf 12 = .ok (.iload 4, 2) := by decide +kernel
theorem dX12_sumOf_14 : decode cX12_sumOf 14 = .ok (.aload_n 1, 1) := by decide +kernel
theorem dX12_sumOf_15 : decode cX12_sumOf 15 = .ok (.iload 5, 2) := by decide +kernel
theorem dX12_sumOf_17 : decode cX12_sumOf 17 = .ok (.iaload, 1) := by decide +kernel
theorem dX12_sumOf_18 : decode cX12_sumOf 18 = .ok (.ixor, 1) := by decide +kernel
theorem dX12_sumOf_19 : decode cX12_sumOf 19 = .ok (.istore 4, 2) := by decide +kernel
theorem dX12_sumOf_21 : decode cX12_sumOf 21 = .ok (.iconst 0, 1) := by decide +kernel
theorem dX12_sumOf_22 : decode cX12_sumOf 22 = .ok (.istore 6, 2) := by decide +kernel
theorem dX12_sumOf_24 : decode cX12_sumOf 24 = .ok (.iload 6, 2) := by decide +kernel
theorem dX12_sumOf_26 : decode cX12_sumOf 26 = .ok (.bipush 8, 2) := by decide +kernel
theorem dX12_sumOf_28 : decode cX12_sumOf 28 = .ok (.if_icmp .ge 36, 3) := by decide +kernel
theorem dX12_sumOf_31 : decode cX12_sumOf 31 = .ok (.iconst 2, 1) := by decide +kernel
theorem dX12_sumOf_32 : decode cX12_sumOf 32 = .ok (.iload 4, 2) := by decide +kernel
theorem dX12_sumOf_34 : decode cX12_sumOf 34 = .ok (.imul, 1) := by decide +kernel
theorem dX12_sumOf_35 : decode cX12_sumOf 35 = .ok (.istore 4, 2) := by decide +kernel
theorem dX12_sumOf_37 : decode cX12_sumOf 37 = .ok (.iload 4, 2) := by decide +kernel
theorem dX12_sumOf_39 : decode cX12_sumOf 39 = .ok (.sipush 255, 3) := by decide +kernel
theorem dX12_sumOf_42 : decode cX12_sumOf 42 = .ok (.if_icmp .le 12, 3) := by decide +kernel
theorem dX12_sumOf_45 : decode cX12_sumOf 45 = .ok (.iload 4, 2) := by decide +kernel
theorem dX12_sumOf_47 : decode cX12_sumOf 47 = .ok (.sipush 263, 3) := by decide +kernel
theorem dX12_sumOf_50 : decode cX12_sumOf 50 = .ok (.ixor, 1) := by decide +kernel
theorem dX12_sumOf_51 : decode cX12_sumOf 51 = .ok (.goto 5, 3) := by decide +kernel
theorem dX12_sumOf_54 : decode cX12_sumOf 54 = .ok (.iload 4, 2) := by decide +kernel
theorem dX12_sumOf_56 : decode cX12_sumOf 56 = .ok (.istore 4, 2) := by decide +kernel
theorem dX12_sumOf_58 : decode cX12_sumOf 58 = .ok (.iinc 6 1, 3) := by decide +kernel
theorem dX12_sumOf_61 : decode cX12_sumOf 61 = .ok (.goto (-37), 3) := by decide +kernel
theorem dX12_sumOf_64 : decode cX12_sumOf 64 = .ok (.iinc 5 1, 3) := by decide +kernel
theorem dX12_sumOf_67 : decode cX12_sumOf 67 = .ok (.goto (-61), 3) := by decide +kernel
theorem dX12_sumOf_70 : decode cX12_sumOf 70 = .ok (.iload 4, 2) := by decide +kernel
theorem dX12_sumOf_72 : decode cX12_sumOf 72 = .ok (.ireturn, 1) := by decide +kernel
theorem dX12_pack_0 : decode cX12_pack 0 = .ok (.aload_n 0, 1) := by decide +kernel
theorem dX12_pack_1 : decode cX12_pack 1 = .ok (.iconst 0, 1) := by decide +kernel
theorem dX12_pack_2 : decode cX12_pack 2 = .ok (.putfield 1, 3) := by decide +kernel
theorem dX12_pack_5 : decode cX12_pack 5 = .ok (.aload_n 0, 1) := by decide +kernel
theorem dX12_pack_6 : decode cX12_pack 6 = .ok (.getfield 16, 3) := by decide +kernel
theorem dX12_pack_9 : decode cX12_pack 9 = .ok (.iconst 0, 1) := by decide +kernel
theorem dX12_pack_10 : decode cX12_pack 10 = .ok (.iaload, 1) := by decide +kernel
theorem dX12_pack_11 : decode cX12_pack 11 = .ok (.ifCond .eq 27, 3) := by decide +kernel
theorem dX12_pack_14 : decode cX12_pack 14 = .ok (.aload_n 0, 1) := by decide +kernel
theorem dX12_pack_15 : decode cX12_pack 15 = .ok (.getfield 16, 3) := by decide +kernel
theorem dX12_pack_18 : decode cX12_pack 18 = .ok (.iconst 1, 1) := by decide +kernel
theorem dX12_pack_19 : decode cX12_pack 19 = .ok (.iaload, 1) := by decide +kernel
theorem dX12_pack_20 : decode cX12_pack 20 = .ok (.ifCond .le 21, 3) := by decide +kernel
theorem dX12_pack_23 : decode cX12_pack 23 = .ok (.aload_n 0, 1) := by decide +kernel
theorem dX12_pack_24 : decode cX12_pack 24 = .ok (.getfield 16, 3) := by decide +kernel
theorem dX12_pack_27 : decode cX12_pack 27 = .ok (.iconst 1, 1) := by decide +kernel
theorem dX12_pack_28 : decode cX12_pack 28 = .ok (.iaload, 1) := by decide +kernel
theorem dX12_pack_29 : decode cX12_pack 29 = .ok (.aload_n 0, 1) := by decide +kernel
theorem dX12_pack_30 : decode cX12_pack 30 = .ok (.getfield 16, 3) := by decide +kernel
theorem dX12_pack_33 : decode cX12_pack 33 = .ok (.iconst 0, 1) := by decide +kernel
theorem dX12_pack_34 : decode cX12_pack 34 = .ok (.iaload, 1) := by decide +kernel
theorem dX12_pack_35 : decode cX12_pack 35 = .ok (.if_icmp .eq 6, 3) := by decide +kernel
theorem dX12_pack_38 : decode cX12_pack 38 = .ok (.bipush (-3), 2) := by decide +kernel
theorem dX12_pack_40 : decode cX12_pack 40 = .ok (.ireturn, 1) := by decide +kernel
theorem dX12_pack_41 : decode cX12_pack 41 = .ok (.aload_n 0, 1) := by decide +kernel
theorem dX12_pack_42 : decode cX12_pack 42 = .ok (.getfield 16, 3) := by decide +kernel
theorem dX12_pack_45 : decode cX12_pack 45 = .ok (.iconst 1, 1) := by decide +kernel
theorem dX12_pack_46 : decode cX12_pack 46 = .ok (.iaload, 1) := by decide +kernel
theorem dX12_pack_47 : decode cX12_pack 47 = .ok (.ifCond .le 7, 3) := by decide +kernel
theorem dX12_pack_50 : decode cX12_pack 50 = .ok (.iconst 2, 1) := by decide +kernel
theorem dX12_pack_51 : decode cX12_pack 51 = .ok (.goto 4, 3) := by decide +kernel
theorem dX12_pack_54 : decode cX12_pack 54 = .ok (.iconst 1, 1) := by decide +kernel
theorem dX12_pack_55 : decode cX12_pack 55 = .ok (.istore_n 1, 1) := by decide +kernel
theorem dX12_pack_56 : decode cX12_pack 56 = .ok (.iconst 0, 1) := by decide +kernel
theorem dX12_pack_57 : decode cX12_pack 57 = .ok (.istore_n 2, 1) := by decide +kernel
theorem dX12_pack_58 : decode cX12_pack 58 = .ok (.ldc2_w 115, 3) := by decide +kernel
theorem dX12_pack_61 : decode cX12_pack 61 = .ok (.lstore_n 3, 1) := by decide +kernel
theorem dX12_pack_62 : decode cX12_pack 62 = .ok (.iconst 0, 1) := by decide +kernel
theorem dX12_pack_63 : decode cX12_pack 63 = .ok (.istore 5, 2) := by decide +kernel
theorem dX12_pack_65 : decode cX12_pack 65 = .ok (.iload 5, 2) := by decide +kernel
theorem dX12_pack_67 : decode cX12_pack 67 = .ok (.iload_n 1, 1) := by decide +kernel
theorem dX12_pack_68 : decode cX12_pack 68 = .ok (.iconst 2, 1) := by decide +kernel
theorem dX12_pack_69 : decode cX12_pack 69 = .ok (.if_icmp .ne 7, 3) := by decide +kernel
theorem dX12_pack_72 : decode cX12_pack 72 = .ok (.iconst 4, 1) := by decide +kernel
theorem dX12_pack_73 : decode cX12_pack 73 = .ok (.goto 4, 3) := by decide +kernel
theorem dX12_pack_76 : decode cX12_pack 76 = .ok (.iconst 1, 1) := by decide +kernel
theorem dX12_pack_77 : decode cX12_pack 77 = .ok (.if_icmp .ge 61, 3) := by decide +kernel
theorem dX12_pack_80 : decode cX12_pack 80 = .ok (.lconst 0, 1) := by decide +kernel
theorem dX12_pack_81 : decode cX12_pack 81 = .ok (.lstore 6, 2) := by decide +kernel
theorem dX12_pack_83 : decode cX12_pack 83 = .ok (.iconst 0, 1) := by decide +kernel
theorem dX12_pack_84 : decode cX12_pack 84 = .ok (.istore 8, 2) := by decide +kernel
theorem dX12_pack_86 : decode cX12_pack 86 = .ok (.iload 8, 2) := by decide +kernel
theorem dX12_pack_88 : decode cX12_pack 88 = .ok (.iload_n 1, 1) := by decide +kernel
theorem dX12_pack_89 : decode cX12_pack 89 = .ok (.if_icmp .ge 30, 3) := by decide +kernel
theorem dX12_pack_92 : decode cX12_pack 92 = .ok (.aload_n 0, 1) := by decide +kernel
theorem dX12_pack_93 : decode cX12_pack 93 = .ok (.iload 5, 2) := by decide +kernel
theorem dX12_pack_95 : decode cX12_pack 95 = .ok (.iload 8, 2) := by decide +kernel
theorem dX12_pack_97 : decode cX12_pack 97 = .ok (.invokevirtual 174, 3) := by decide +kernel
theorem dX12_pack_100 : decode cX12_pack 100 = .ok (.lload 6, 2) := by decide +kernel
theorem dX12_pack_102 : decode cX12_pack 102 = .ok (.aload_n 0, 1) := by decide +kernel
theorem dX12_pack_103 : decode cX12_pack 103 = .ok (.aload_n 0, 1) := by decide +kernel
theorem dX12_pack_104 : decode cX12_pack 104 = .ok (.invokevirtual 177, 3) := by decide +kernel
theorem dX12_pack_107 : decode cX12_pack 107 = .ok (.invokevirtual 156, 3) := by decide +kernel
theorem dX12_pack_110 : decode cX12_pack 110 = .ok (.ladd, 1) := by decide +kernel
theorem dX12_pack_111 : decode cX12_pack 111 = .ok (.lstore 6, 2) := by decide +kernel
theorem dX12_pack_113 : decode cX12_pack 113 = .ok (.iinc 8 1, 3) := by decide +kernel
theorem dX12_pack_116 : decode cX12_pack 116 = .ok (.goto (-30), 3) := by decide +kernel
theorem dX12_pack_119 : decode cX12_pack 119 = .ok (.lload 6, 2) := by decide +kernel
theorem dX12_pack_121 : decode cX12_pack 121 = .ok (.lload_n 3, 1) := by decide +kernel
theorem dX12_pack_122 : decode cX12_pack 122 = .ok (.lcmp, 1) := by decide +kernel
theorem dX12_pack_123 : decode cX12_pack 123 = .ok (.ifCond .ge 9, 3) := by decide +kernel
theorem dX12_pack_126 : decode cX12_pack 126 = .ok (.lload 6, 2) := by decide +kernel
theorem dX12_pack_128 : decode cX12_pack 128 = .ok (.lstore_n 3, 1) := by decide +kernel
theorem dX12_pack_129 : decode cX12_pack 129 = .ok (.iload 5, 2) := by decide +kernel
theorem dX12_pack_131 : decode cX12_pack 131 = .ok (.istore_n 2, 1) := by decide +kernel
theorem dX12_pack_132 : decode cX12_pack 132 = .ok (.iinc 5 1, 3) := by decide +kernel
theorem dX12_pack_135 : decode cX12_pack 135 = .ok (.goto (-70), 3) := by decide +kernel
theorem dX12_pack_138 : decode cX12_pack 138 = .ok (.bipush 16, 2) := by decide +kernel
theorem dX12_pack_140 : decode cX12_pack 140 = .ok (.lload_n 3, 1) := by decide +kernel
theorem dX12_pack_141 : decode cX12_pack 141 = .ok (.l2i, 1) := by decide +kernel
theorem dX12_pack_142 : decode cX12_pack 142 = .ok (.iadd, 1) := by decide +kernel
theorem dX12_pack_143 : decode cX12_pack 143 = .ok (.bipush 7, 2) := by decide +kernel
theorem dX12_pack_145 : decode cX12_pack 145 = .ok (.iadd, 1) := by decide +kernel
theorem dX12_pack_146 : decode cX12_pack 146 = .ok (.bipush 8, 2) := by decide +kernel
theorem dX12_pack_148 : decode cX12_pack 148 = .ok (.idiv, 1) := by decide +kernel
theorem dX12_pack_149 : decode cX12_pack 149 = .ok (.iconst 1, 1) := by decide +kernel
theorem dX12_pack_150 : decode cX12_pack 150 = .ok (.iadd, 1) := by decide +kernel
theorem dX12_pack_151 : decode cX12_pack 151 = .ok (.istore 5, 2) := by decide +kernel
theorem dX12_pack_153 : decode cX12_pack 153 = .ok (.aload_n 0, 1) := by decide +kernel
theorem dX12_pack_154 : decode cX12_pack 154 = .ok (.getfield 69, 3) := by decide +kernel
theorem dX12_pack_157 : decode cX12_pack 157 = .ok (.iload 5, 2) := by decide +kernel
theorem dX12_pack_159 : decode cX12_pack 159 = .ok (.iadd, 1) := by decide +kernel
theorem dX12_pack_160 : decode cX12_pack 160 = .ok (.sipush 2400, 3) := by decide +kernel
theorem dX12_pack_163 : decode cX12_pack 163 = .ok (.if_icmp .le 6, 3) := by decide +kernel
theorem dX12_pack_166 : decode cX12_pack 166 = .ok (.bipush (-4), 2) := by decide +kernel
theorem dX12_pack_168 : decode cX12_pack 168 = .ok (.ireturn, 1) := by decide +kernel
theorem dX12_pack_169 : decode cX12_pack 169 = .ok (.aload_n 0, 1) := by decide +kernel
theorem dX12_pack_170 : decode cX12_pack 170 = .ok (.iconst 0, 1) := by decide +kernel
theorem dX12_pack_171 : decode cX12_pack 171 = .ok (.putfield 163, 3) := by decide +kernel
theorem dX12_pack_174 : decode cX12_pack 174 = .ok (.aload_n 0, 1) := by decide +kernel
theorem dX12_pack_175 : decode cX12_pack 175 = .ok (.aload_n 0, 1) := by decide +kernel
theorem dX12_pack_176 : decode cX12_pack 176 = .ok (.getfield 16, 3) := by decide +kernel
theorem dX12_pack_179 : decode cX12_pack 179 = .ok (.iconst 0, 1) := by decide +kernel
theorem dX12_pack_180 : decode cX12_pack 180 = .ok (.iaload, 1) := by decide +kernel
theorem dX12_pack_181 : decode cX12_pack 181 = .ok (.iconst 1, 1) := by decide +kernel
theorem dX12_pack_182 : decode cX12_pack 182 = .ok (.isub, 1) := by decide +kernel
theorem dX12_pack_183 : decode cX12_pack 183 = .ok (.i2l, 1) := by decide +kernel
theorem dX12_pack_184 : decode cX12_pack 184 = .ok (.bipush 9, 2) := by decide +kernel
theorem dX12_pack_186 : decode cX12_pack 186 = .ok (.invokevirtual 166, 3) := by decide +kernel
theorem dX12_pack_189 : decode cX12_pack 189 = .ok (.aload_n 0, 1) := by decide +kernel
theorem dX12_pack_190 : decode cX12_pack 190 = .ok (.iload_n 1, 1) := by decide +kernel
theorem dX12_pack_191 : decode cX12_pack 191 = .ok (.iconst 1, 1) := by decide +kernel
theorem dX12_pack_192 : decode cX12_pack 192 = .ok (.isub, 1) := by decide +kernel
theorem dX12_pack_193 : decode cX12_pack 193 = .ok (.i2l, 1) := by decide +kernel
theorem dX12_pack_194 : decode cX12_pack 194 = .ok (.iconst 1, 1) := by decide +kernel
theorem dX12_pack_195 : decode cX12_pack 195 = .ok (.invokevirtual 166, 3) := by decide +kernel
theorem dX12_pack_198 : decode cX12_pack 198 = .ok (.aload_n 0, 1) := by decide +kernel
theorem dX12_pack_199 : decode cX12_pack 199 = .ok (.iload_n 2, 1) := by decide +kernel
theorem dX12_pack_200 : decode cX12_pack 200 = .ok (.i2l, 1) := by decide +kernel
theorem dX12_pack_201 : decode cX12_pack 201 = .ok (.iconst 2, 1) := by decide +kernel
theorem dX12_pack_202 : decode cX12_pack 202 = .ok (.invokevirtual 166, 3) := by decide +kernel
theorem dX12_pack_205 : decode cX12_pack 205 = .ok (.aload_n 0, 1) := by decide +kernel
theorem dX12_pack_206 : decode cX12_pack 206 = .ok (.aload_n 0, 1) := by decide +kernel
theorem dX12_pack_207 : decode cX12_pack 207 = .ok (.getfield 13, 3) := by decide +kernel
theorem dX12_pack_210 : decode cX12_pack 210 = .ok (.iconst 1, 1) := by decide +kernel
theorem dX12_pack_211 : decode cX12_pack 211 = .ok (.isub, 1) := by decide +kernel
theorem dX12_pack_212 : decode cX12_pack 212 = .ok (.i2l, 1) := by decide +kernel
theorem dX12_pack_213 : decode cX12_pack 213 = .ok (.iconst 4, 1) := by decide +kernel
theorem dX12_pack_214 : decode cX12_pack 214 = .ok (.invokevirtual 166, 3) := by decide +kernel
theorem dX12_pack_217 : decode cX12_pack 217 = .ok (.iconst 0, 1) := by decide +kernel
theorem dX12_pack_218 : decode cX12_pack 218 = .ok (.istore 6, 2) := by decide +kernel
theorem dX12_pack_220 : decode cX12_pack 220 = .ok (.iload 6, 2) := by decide +kernel
theorem dX12_pack_222 : decode cX12_pack 222 = .ok (.iload_n 1, 1) := by decide +kernel
theorem dX12_pack_223 : decode cX12_pack 223 = .ok (.if_icmp .ge 26, 3) := by decide +kernel
theorem dX12_pack_226 : decode cX12_pack 226 = .ok (.aload_n 0, 1) := by decide +kernel
theorem dX12_pack_227 : decode cX12_pack 227 = .ok (.iload_n 2, 1) := by decide +kernel
theorem dX12_pack_228 : decode cX12_pack 228 = .ok (.iload 6, 2) := by decide +kernel
theorem dX12_pack_230 : decode cX12_pack 230 = .ok (.invokevirtual 174, 3) := by decide +kernel
theorem dX12_pack_233 : decode cX12_pack 233 = .ok (.aload_n 0, 1) := by decide +kernel
theorem dX12_pack_234 : decode cX12_pack 234 = .ok (.iload 6, 2) := by decide +kernel
theorem dX12_pack_236 : decode cX12_pack 236 = .ok (.aload_n 0, 1) := by decide +kernel
theorem dX12_pack_237 : decode cX12_pack 237 = .ok (.invokevirtual 177, 3) := by decide +kernel
theorem dX12_pack_240 : decode cX12_pack 240 = .ok (.invokevirtual 181, 3) := by decide +kernel
theorem dX12_pack_243 : decode cX12_pack 243 = .ok (.iinc 6 1, 3) := by decide +kernel
theorem dX12_pack_246 : decode cX12_pack 246 = .ok (.goto (-26), 3) := by decide +kernel
theorem dX12_pack_249 : decode cX12_pack 249 = .ok (.aload_n 0, 1) := by decide +kernel
theorem dX12_pack_250 : decode cX12_pack 250 = .ok (.iconst 1, 1) := by decide +kernel
theorem dX12_pack_251 : decode cX12_pack 251 = .ok (.putfield 184, 3) := by decide +kernel
theorem dX12_pack_254 : decode cX12_pack 254 = .ok (.aload_n 0, 1) := by decide +kernel
theorem dX12_pack_255 : decode cX12_pack 255 = .ok (.getfield 29, 3) := by decide +kernel
theorem dX12_pack_258 : decode cX12_pack 258 = .ok (.iconst 0, 1) := by decide +kernel
theorem dX12_pack_259 : decode cX12_pack 259 = .ok (.aload_n 0, 1) := by decide +kernel
theorem dX12_pack_260 : decode cX12_pack 260 = .ok (.getfield 16, 3) := by decide +kernel
theorem dX12_pack_263 : decode cX12_pack 263 = .ok (.iconst 0, 1) := by decide +kernel
theorem dX12_pack_264 : decode cX12_pack 264 = .ok (.iaload, 1) := by decide +kernel
theorem dX12_pack_265 : decode cX12_pack 265 = .ok (.iastore, 1) := by decide +kernel
theorem dX12_pack_266 : decode cX12_pack 266 = .ok (.aload_n 0, 1) := by decide +kernel
theorem dX12_pack_267 : decode cX12_pack 267 = .ok (.getfield 29, 3) := by decide +kernel
theorem dX12_pack_270 : decode cX12_pack 270 = .ok (.iconst 1, 1) := by decide +kernel
theorem dX12_pack_271 : decode cX12_pack 271 = .ok (.iload_n 1, 1) := by decide +kernel
theorem dX12_pack_272 : decode cX12_pack 272 = .ok (.iastore, 1) := by decide +kernel
theorem dX12_pack_273 : decode cX12_pack 273 = .ok (.aload_n 0, 1) := by decide +kernel
theorem dX12_pack_274 : decode cX12_pack 274 = .ok (.getfield 29, 3) := by decide +kernel
theorem dX12_pack_277 : decode cX12_pack 277 = .ok (.iconst 2, 1) := by decide +kernel
theorem dX12_pack_278 : decode cX12_pack 278 = .ok (.iload_n 2, 1) := by decide +kernel
theorem dX12_pack_279 : decode cX12_pack 279 = .ok (.iastore, 1) := by decide +kernel
theorem dX12_pack_280 : decode cX12_pack 280 = .ok (.aload_n 0, 1) := by decide +kernel
theorem dX12_pack_281 : decode cX12_pack 281 = .ok (.getfield 29, 3) := by decide +kernel
theorem dX12_pack_284 : decode cX12_pack 284 = .ok (.iconst 3, 1) := by decide +kernel
theorem dX12_pack_285 : decode cX12_pack 285 = .ok (.aload_n 0, 1) := by decide +kernel
theorem dX12_pack_286 : decode cX12_pack 286 = .ok (.getfield 163, 3) := by decide +kernel
theorem dX12_pack_289 : decode cX12_pack 289 = .ok (.iastore, 1) := by decide +kernel
theorem dX12_pack_290 : decode cX12_pack 290 = .ok (.aload_n 0, 1) := by decide +kernel
theorem dX12_pack_291 : decode cX12_pack 291 = .ok (.getfield 29, 3) := by decide +kernel
theorem dX12_pack_294 : decode cX12_pack 294 = .ok (.iconst 4, 1) := by decide +kernel
theorem dX12_pack_295 : decode cX12_pack 295 = .ok (.iload 5, 2) := by decide +kernel
theorem dX12_pack_297 : decode cX12_pack 297 = .ok (.iastore, 1) := by decide +kernel
theorem dX12_pack_298 : decode cX12_pack 298 = .ok (.aload_n 0, 1) := by decide +kernel
theorem dX12_pack_299 : decode cX12_pack 299 = .ok (.getfield 57, 3) := by decide +kernel
theorem dX12_pack_302 : decode cX12_pack 302 = .ok (.iload 5, 2) := by decide +kernel
theorem dX12_pack_304 : decode cX12_pack 304 = .ok (.iconst 1, 1) := by decide +kernel
theorem dX12_pack_305 : decode cX12_pack 305 = .ok (.isub, 1) := by decide +kernel
theorem dX12_pack_306 : decode cX12_pack 306 = .ok (.aload_n 0, 1) := by decide +kernel
theorem dX12_pack_307 : decode cX12_pack 307 = .ok (.aload_n 0, 1) := by decide +kernel
theorem dX12_pack_308 : decode cX12_pack 308 = .ok (.getfield 57, 3) := by decide +kernel
theorem dX12_pack_311 : decode cX12_pack 311 = .ok (.iconst 0, 1) := by decide +kernel
theorem dX12_pack_312 : decode cX12_pack 312 = .ok (.iload 5, 2) := by decide +kernel
theorem dX12_pack_314 : decode cX12_pack 314 = .ok (.iconst 1, 1) := by decide +kernel
theorem dX12_pack_315 : decode cX12_pack 315 = .ok (.isub, 1) := by decide +kernel
theorem dX12_pack_316 : decode cX12_pack 316 = .ok (.invokevirtual 188, 3) := by decide +kernel
theorem dX12_pack_319 : decode cX12_pack 319 = .ok (.iastore, 1) := by decide +kernel
theorem dX12_pack_320 : decode cX12_pack 320 = .ok (.aload_n 0, 1) := by decide +kernel
theorem dX12_pack_321 : decode cX12_pack 321 = .ok (.getfield 69, 3) := by decide +kernel
theorem dX12_pack_324 : decode cX12_pack 324 = .ok (.istore 6, 2) := by decide +kernel
theorem dX12_pack_326 : decode cX12_pack 326 = .ok (.iconst 0, 1) := by decide +kernel
theorem dX12_pack_327 : decode cX12_pack 327 = .ok (.istore 7, 2) := by decide +kernel
theorem dX12_pack_329 : decode cX12_pack 329 = .ok (.iload 7, 2) := by decide +kernel
theorem dX12_pack_331 : decode cX12_pack 331 = .ok (.iload 5, 2) := by decide +kernel
theorem dX12_pack_333 : decode cX12_pack 333 = .ok (.if_icmp .ge 35, 3) := by decide +kernel
theorem dX12_pack_336 : decode cX12_pack 336 = .ok (.aload_n 0, 1) := by decide +kernel
theorem dX12_pack_337 : decode cX12_pack 337 = .ok (.getfield 23, 3) := by decide +kernel
theorem dX12_pack_340 : decode cX12_pack 340 = .ok (.aload_n 0, 1) := by decide +kernel
theorem dX12_pack_341 : decode cX12_pack 341 = .ok (.getfield 69, 3) := by decide +kernel
theorem dX12_pack_344 : decode cX12_pack 344 = .ok (.aload_n 0, 1) := by decide +kernel
theorem dX12_pack_345 : decode cX12_pack 345 = .ok (.getfield 57, 3) := by decide +kernel
theorem dX12_pack_348 : decode cX12_pack 348 = .ok (.iload 7, 2) := by decide +kernel
theorem dX12_pack_350 : decode cX12_pack 350 = .ok (.iaload, 1) := by decide +kernel
theorem dX12_pack_351 : decode cX12_pack 351 = .ok (.iastore, 1) := by decide +kernel
theorem dX12_pack_352 : decode cX12_pack 352 = .ok (.aload_n 0, 1) := by decide +kernel
theorem dX12_pack_353 : decode cX12_pack 353 = .ok (.dup, 1) := by decide +kernel
theorem dX12_pack_354 : decode cX12_pack 354 = .ok (.getfield 69, 3) := by decide +kernel
theorem dX12_pack_357 : decode cX12_pack 357 = .ok (.iconst 1, 1) := by decide +kernel
theorem dX12_pack_358 : decode cX12_pack 358 = .ok (.iadd, 1) := by decide +kernel
theorem dX12_pack_359 : decode cX12_pack 359 = .ok (.putfield 69, 3) := by decide +kernel
theorem dX12_pack_362 : decode cX12_pack 362 = .ok (.iinc 7 1, 3) := by decide +kernel
theorem dX12_pack_365 : decode cX12_pack 365 = .ok (.goto (-36), 3) := by decide +kernel
theorem dX12_pack_368 : decode cX12_pack 368 = .ok (.iload 6, 2) := by decide +kernel
theorem dX12_pack_370 : decode cX12_pack 370 = .ok (.ireturn, 1) := by decide +kernel
theorem dX12_told_0 : decode cX12_told 0 = .ok (.aload_n 0, 1) := by decide +kernel
theorem dX12_told_1 : decode cX12_told 1 = .ok (.iconst 0, 1) := by decide +kernel
theorem dX12_told_2 : decode cX12_told 2 = .ok (.putfield 1, 3) := by decide +kernel
theorem dX12_told_5 : decode cX12_told 5 = .ok (.iload_n 1, 1) := by decide +kernel
theorem dX12_told_6 : decode cX12_told 6 = .ok (.i2l, 1) := by decide +kernel
theorem dX12_told_7 : decode cX12_told 7 = .ok (.lconst 0, 1) := by decide +kernel
theorem dX12_told_8 : decode cX12_told 8 = .ok (.ldc2_w 82, 3) := by decide +kernel
theorem dX12_told_11 : decode cX12_told 11 = .ok (.invokestatic 72, 3) := by decide +kernel
theorem dX12_told_14 : decode cX12_told 14 = .ok (.ifCond .ne 8, 3) := by decide +kernel
theorem dX12_told_17 : decode cX12_told 17 = .ok (.bipush (-2), 2) := by decide +kernel
theorem dX12_told_19 : decode cX12_told 19 = .ok (.goto 21, 3) := by decide +kernel
theorem dX12_told_22 : decode cX12_told 22 = .ok (.aload_n 0, 1) := by decide +kernel
theorem dX12_told_23 : decode cX12_told 23 = .ok (.getfield 184, 3) := by decide +kernel
theorem dX12_told_26 : decode cX12_told 26 = .ok (.ifCond .eq 12, 3) := by decide +kernel
theorem dX12_told_29 : decode cX12_told 29 = .ok (.aload_n 0, 1) := by decide +kernel
theorem dX12_told_30 : decode cX12_told 30 = .ok (.getfield 29, 3) := by decide +kernel
theorem dX12_told_33 : decode cX12_told 33 = .ok (.iload_n 1, 1) := by decide +kernel
theorem dX12_told_34 : decode cX12_told 34 = .ok (.iaload, 1) := by decide +kernel
theorem dX12_told_35 : decode cX12_told 35 = .ok (.goto 5, 3) := by decide +kernel
theorem dX12_told_38 : decode cX12_told 38 = .ok (.bipush (-3), 2) := by decide +kernel
theorem dX12_told_40 : decode cX12_told 40 = .ok (.ireturn, 1) := by decide +kernel
theorem dX12_row_0 : decode cX12_row 0 = .ok (.aload_n 0, 1) := by decide +kernel
theorem dX12_row_1 : decode cX12_row 1 = .ok (.iconst 0, 1) := by decide +kernel
theorem dX12_row_2 : decode cX12_row 2 = .ok (.putfield 1, 3) := by decide +kernel
theorem dX12_row_5 : decode cX12_row 5 = .ok (.iload_n 2, 1) := by decide +kernel
theorem dX12_row_6 : decode cX12_row 6 = .ok (.i2l, 1) := by decide +kernel
theorem dX12_row_7 : decode cX12_row 7 = .ok (.ldc2_w 192, 3) := by decide +kernel
theorem dX12_row_10 : decode cX12_row 10 = .ok (.ldc2_w 194, 3) := by decide +kernel
theorem dX12_row_13 : decode cX12_row 13 = .ok (.invokestatic 72, 3) := by decide +kernel
theorem dX12_row_16 : decode cX12_row 16 = .ok (.ifCond .ne 17, 3) := by decide +kernel
theorem dX12_row_19 : decode cX12_row 19 = .ok (.iload_n 2, 1) := by decide +kernel
theorem dX12_row_20 : decode cX12_row 20 = .ok (.i2l, 1) := by decide +kernel
theorem dX12_row_21 : decode cX12_row 21 = .ok (.ldc2_w 196, 3) := by decide +kernel
theorem dX12_row_24 : decode cX12_row 24 = .ok (.ldc2_w 198, 3) := by decide +kernel
theorem dX12_row_27 : decode cX12_row 27 = .ok (.invokestatic 72, 3) := by decide +kernel
theorem dX12_row_30 : decode cX12_row 30 = .ok (.ifCond .eq 7, 3) := by decide +kernel
theorem dX12_row_33 : decode cX12_row 33 = .ok (.iconst 1, 1) := by decide +kernel
theorem dX12_row_34 : decode cX12_row 34 = .ok (.goto 4, 3) := by decide +kernel
theorem dX12_row_37 : decode cX12_row 37 = .ok (.iconst 0, 1) := by decide +kernel
theorem dX12_row_38 : decode cX12_row 38 = .ok (.istore_n 3, 1) := by decide +kernel
theorem dX12_row_39 : decode cX12_row 39 = .ok (.iload_n 1, 1) := by decide +kernel
theorem dX12_row_40 : decode cX12_row 40 = .ok (.i2l, 1) := by decide +kernel
theorem dX12_row_41 : decode cX12_row 41 = .ok (.lconst 0, 1) := by decide +kernel
theorem dX12_row_42 : decode cX12_row 42 = .ok (.lconst 1, 1) := by decide +kernel
theorem dX12_row_43 : decode cX12_row 43 = .ok (.invokestatic 72, 3) := by decide +kernel
theorem dX12_row_46 : decode cX12_row 46 = .ok (.ifCond .eq 19, 3) := by decide +kernel
theorem dX12_row_49 : decode cX12_row 49 = .ok (.iload_n 2, 1) := by decide +kernel
theorem dX12_row_50 : decode cX12_row 50 = .ok (.i2l, 1) := by decide +kernel
theorem dX12_row_51 : decode cX12_row 51 = .ok (.lconst 0, 1) := by decide +kernel
theorem dX12_row_52 : decode cX12_row 52 = .ok (.ldc2_w 103, 3) := by decide +kernel
theorem dX12_row_55 : decode cX12_row 55 = .ok (.invokestatic 72, 3) := by decide +kernel
theorem dX12_row_58 : decode cX12_row 58 = .ok (.ifCond .ne 10, 3) := by decide +kernel
theorem dX12_row_61 : decode cX12_row 61 = .ok (.iload_n 3, 1) := by decide +kernel
theorem dX12_row_62 : decode cX12_row 62 = .ok (.ifCond .ne 6, 3) := by decide +kernel
theorem dX12_row_65 : decode cX12_row 65 = .ok (.bipush (-2), 2) := by decide +kernel
theorem dX12_row_67 : decode cX12_row 67 = .ok (.ireturn, 1) := by decide +kernel
theorem dX12_row_68 : decode cX12_row 68 = .ok (.aload_n 0, 1) := by decide +kernel
theorem dX12_row_69 : decode cX12_row 69 = .ok (.getfield 184, 3) := by decide +kernel
theorem dX12_row_72 : decode cX12_row 72 = .ok (.ifCond .ne 6, 3) := by decide +kernel
theorem dX12_row_75 : decode cX12_row 75 = .ok (.bipush (-3), 2) := by decide +kernel
theorem dX12_row_77 : decode cX12_row 77 = .ok (.ireturn, 1) := by decide +kernel
theorem dX12_row_78 : decode cX12_row 78 = .ok (.iload_n 1, 1) := by decide +kernel
theorem dX12_row_79 : decode cX12_row 79 = .ok (.aload_n 0, 1) := by decide +kernel
theorem dX12_row_80 : decode cX12_row 80 = .ok (.getfield 29, 3) := by decide +kernel
theorem dX12_row_83 : decode cX12_row 83 = .ok (.iconst 1, 1) := by decide +kernel
theorem dX12_row_84 : decode cX12_row 84 = .ok (.iaload, 1) := by decide +kernel
theorem dX12_row_85 : decode cX12_row 85 = .ok (.if_icmp .lt 6, 3) := by decide +kernel
theorem dX12_row_88 : decode cX12_row 88 = .ok (.bipush (-2), 2) := by decide +kernel
theorem dX12_row_90 : decode cX12_row 90 = .ok (.ireturn, 1) := by decide +kernel
theorem dX12_row_91 : decode cX12_row 91 = .ok (.iload_n 2, 1) := by decide +kernel
theorem dX12_row_92 : decode cX12_row 92 = .ok (.iconst 4, 1) := by decide +kernel
theorem dX12_row_93 : decode cX12_row 93 = .ok (.if_icmp .ge 14, 3) := by decide +kernel
theorem dX12_row_96 : decode cX12_row 96 = .ok (.aload_n 0, 1) := by decide +kernel
theorem dX12_row_97 : decode cX12_row 97 = .ok (.getfield 32, 3) := by decide +kernel
theorem dX12_row_100 : decode cX12_row 100 = .ok (.iconst 4, 1) := by decide +kernel
theorem dX12_row_101 : decode cX12_row 101 = .ok (.iload_n 1, 1) := by decide +kernel
theorem dX12_row_102 : decode cX12_row 102 = .ok (.imul, 1) := by decide +kernel
theorem dX12_row_103 : decode cX12_row 103 = .ok (.iload_n 2, 1) := by decide +kernel
theorem dX12_row_104 : decode cX12_row 104 = .ok (.iadd, 1) := by decide +kernel
theorem dX12_row_105 : decode cX12_row 105 = .ok (.iaload, 1) := by decide +kernel
theorem dX12_row_106 : decode cX12_row 106 = .ok (.ireturn, 1) := by decide +kernel
theorem dX12_row_107 : decode cX12_row 107 = .ok (.aload_n 0, 1) := by decide +kernel
theorem dX12_row_108 : decode cX12_row 108 = .ok (.getfield 32, 3) := by decide +kernel
theorem dX12_row_111 : decode cX12_row 111 = .ok (.iconst 4, 1) := by decide +kernel
theorem dX12_row_112 : decode cX12_row 112 = .ok (.iload_n 1, 1) := by decide +kernel
theorem dX12_row_113 : decode cX12_row 113 = .ok (.imul, 1) := by decide +kernel
theorem dX12_row_114 : decode cX12_row 114 = .ok (.iconst 3, 1) := by decide +kernel
theorem dX12_row_115 : decode cX12_row 115 = .ok (.iadd, 1) := by decide +kernel
theorem dX12_row_116 : decode cX12_row 116 = .ok (.iaload, 1) := by decide +kernel
theorem dX12_row_117 : decode cX12_row 117 = .ok (.istore 4, 2) := by decide +kernel
theorem dX12_row_119 : decode cX12_row 119 = .ok (.iload_n 2, 1) := by decide +kernel
theorem dX12_row_120 : decode cX12_row 120 = .ok (.bipush 30, 2) := by decide +kernel
theorem dX12_row_122 : decode cX12_row 122 = .ok (.if_icmp .ge 10, 3) := by decide +kernel
theorem dX12_row_125 : decode cX12_row 125 = .ok (.iload_n 2, 1) := by decide +kernel
theorem dX12_row_126 : decode cX12_row 126 = .ok (.bipush 10, 2) := by decide +kernel
theorem dX12_row_128 : decode cX12_row 128 = .ok (.isub, 1) := by decide +kernel
theorem dX12_row_129 : decode cX12_row 129 = .ok (.goto 7, 3) := by decide +kernel
theorem dX12_row_132 : decode cX12_row 132 = .ok (.iload_n 2, 1) := by decide +kernel
theorem dX12_row_133 : decode cX12_row 133 = .ok (.bipush 30, 2) := by decide +kernel
theorem dX12_row_135 : decode cX12_row 135 = .ok (.isub, 1) := by decide +kernel
theorem dX12_row_136 : decode cX12_row 136 = .ok (.istore 5, 2) := by decide +kernel
theorem dX12_row_138 : decode cX12_row 138 = .ok (.iload 4, 2) := by decide +kernel
theorem dX12_row_140 : decode cX12_row 140 = .ok (.iconst (-1), 1) := by decide +kernel
theorem dX12_row_141 : decode cX12_row 141 = .ok (.if_icmp .eq 12, 3) := by decide +kernel
theorem dX12_row_144 : decode cX12_row 144 = .ok (.iload 5, 2) := by decide +kernel
theorem dX12_row_146 : decode cX12_row 146 = .ok (.iconst 1, 1) := by decide +kernel
theorem dX12_row_147 : decode cX12_row 147 = .ok (.iload 4, 2) := by decide +kernel
theorem dX12_row_149 : decode cX12_row 149 = .ok (.ishl, 1) := by decide +kernel
theorem dX12_row_150 : decode cX12_row 150 = .ok (.if_icmp .lt 8, 3) := by decide +kernel
theorem dX12_row_153 : decode cX12_row 153 = .ok (.bipush (-2), 2) := by decide +kernel
theorem dX12_row_155 : decode cX12_row 155 = .ok (.goto 36, 3) := by decide +kernel
theorem dX12_row_158 : decode cX12_row 158 = .ok (.iload_n 2, 1) := by decide +kernel
theorem dX12_row_159 : decode cX12_row 159 = .ok (.bipush 30, 2) := by decide +kernel
theorem dX12_row_161 : decode cX12_row 161 = .ok (.if_icmp .ge 18, 3) := by decide +kernel
theorem dX12_row_164 : decode cX12_row 164 = .ok (.aload_n 0, 1) := by decide +kernel
theorem dX12_row_165 : decode cX12_row 165 = .ok (.getfield 35, 3) := by decide +kernel
theorem dX12_row_168 : decode cX12_row 168 = .ok (.bipush 16, 2) := by decide +kernel
theorem dX12_row_170 : decode cX12_row 170 = .ok (.iload_n 1, 1) := by decide +kernel
theorem dX12_row_171 : decode cX12_row 171 = .ok (.imul, 1) := by decide +kernel
theorem dX12_row_172 : decode cX12_row 172 = .ok (.iload 5, 2) := by decide +kernel
theorem dX12_row_174 : decode cX12_row 174 = .ok (.iadd, 1) := by decide +kernel
theorem dX12_row_175 : decode cX12_row 175 = .ok (.iaload, 1) := by decide +kernel
theorem dX12_row_176 : decode cX12_row 176 = .ok (.goto 15, 3) := by decide +kernel
theorem dX12_row_179 : decode cX12_row 179 = .ok (.aload_n 0, 1) := by decide +kernel
theorem dX12_row_180 : decode cX12_row 180 = .ok (.getfield 38, 3) := by decide +kernel
theorem dX12_row_183 : decode cX12_row 183 = .ok (.bipush 16, 2) := by decide +kernel
theorem dX12_row_185 : decode cX12_row 185 = .ok (.iload_n 1, 1) := by decide +kernel
theorem dX12_row_186 : decode cX12_row 186 = .ok (.imul, 1) := by decide +kernel
theorem dX12_row_187 : decode cX12_row 187 = .ok (.iload 5, 2) := by decide +kernel
theorem dX12_row_189 : decode cX12_row 189 = .ok (.iadd, 1) := by decide +kernel
theorem dX12_row_190 : decode cX12_row 190 = .ok (.iaload, 1) := by decide +kernel
theorem dX12_row_191 : decode cX12_row 191 = .ok (.ireturn, 1) := by decide +kernel
theorem dX12_price_0 : decode cX12_price 0 = .ok (.aload_n 0, 1) := by decide +kernel
theorem dX12_price_1 : decode cX12_price 1 = .ok (.iconst 0, 1) := by decide +kernel
theorem dX12_price_2 : decode cX12_price 2 = .ok (.putfield 1, 3) := by decide +kernel
theorem dX12_price_5 : decode cX12_price 5 = .ok (.iload_n 1, 1) := by decide +kernel
theorem dX12_price_6 : decode cX12_price 6 = .ok (.i2l, 1) := by decide +kernel
theorem dX12_price_7 : decode cX12_price 7 = .ok (.lconst 0, 1) := by decide +kernel
theorem dX12_price_8 : decode cX12_price 8 = .ok (.lconst 1, 1) := by decide +kernel
theorem dX12_price_9 : decode cX12_price 9 = .ok (.invokestatic 72, 3) := by decide +kernel
theorem dX12_price_12 : decode cX12_price 12 = .ok (.ifCond .eq 24, 3) := by decide +kernel
theorem dX12_price_15 : decode cX12_price 15 = .ok (.iload_n 2, 1) := by decide +kernel
theorem dX12_price_16 : decode cX12_price 16 = .ok (.i2l, 1) := by decide +kernel
theorem dX12_price_17 : decode cX12_price 17 = .ok (.lconst 0, 1) := by decide +kernel
theorem dX12_price_18 : decode cX12_price 18 = .ok (.ldc2_w 139, 3) := by decide +kernel
theorem dX12_price_21 : decode cX12_price 21 = .ok (.invokestatic 72, 3) := by decide +kernel
theorem dX12_price_24 : decode cX12_price 24 = .ok (.ifCond .eq 12, 3) := by decide +kernel
theorem dX12_price_27 : decode cX12_price 27 = .ok (.aload_n 0, 1) := by decide +kernel
theorem dX12_price_28 : decode cX12_price 28 = .ok (.getfield 16, 3) := by decide +kernel
theorem dX12_price_31 : decode cX12_price 31 = .ok (.iload_n 1, 1) := by decide +kernel
theorem dX12_price_32 : decode cX12_price 32 = .ok (.iaload, 1) := by decide +kernel
theorem dX12_price_33 : decode cX12_price 33 = .ok (.ifCond .ne 6, 3) := by decide +kernel
theorem dX12_price_36 : decode cX12_price 36 = .ok (.bipush (-2), 2) := by decide +kernel
theorem dX12_price_38 : decode cX12_price 38 = .ok (.ireturn, 1) := by decide +kernel
theorem dX12_price_39 : decode cX12_price 39 = .ok (.aload_n 0, 1) := by decide +kernel
theorem dX12_price_40 : decode cX12_price 40 = .ok (.aload_n 0, 1) := by decide +kernel
theorem dX12_price_41 : decode cX12_price 41 = .ok (.getfield 16, 3) := by decide +kernel
theorem dX12_price_44 : decode cX12_price 44 = .ok (.iload_n 1, 1) := by decide +kernel
theorem dX12_price_45 : decode cX12_price 45 = .ok (.iaload, 1) := by decide +kernel
theorem dX12_price_46 : decode cX12_price 46 = .ok (.putfield 92, 3) := by decide +kernel
theorem dX12_price_49 : decode cX12_price 49 = .ok (.iconst 0, 1) := by decide +kernel
theorem dX12_price_50 : decode cX12_price 50 = .ok (.istore_n 3, 1) := by decide +kernel
theorem dX12_price_51 : decode cX12_price 51 = .ok (.iload_n 3, 1) := by decide +kernel
theorem dX12_price_52 : decode cX12_price 52 = .ok (.aload_n 0, 1) := by decide +kernel
theorem dX12_price_53 : decode cX12_price 53 = .ok (.getfield 92, 3) := by decide +kernel
theorem dX12_price_56 : decode cX12_price 56 = .ok (.if_icmp .ge 27, 3) := by decide +kernel
theorem dX12_price_59 : decode cX12_price 59 = .ok (.aload_n 0, 1) := by decide +kernel
theorem dX12_price_60 : decode cX12_price 60 = .ok (.getfield 47, 3) := by decide +kernel
theorem dX12_price_63 : decode cX12_price 63 = .ok (.iload_n 3, 1) := by decide +kernel
theorem dX12_price_64 : decode cX12_price 64 = .ok (.aload_n 0, 1) := by decide +kernel
theorem dX12_price_65 : decode cX12_price 65 = .ok (.getfield 20, 3) := by decide +kernel
theorem dX12_price_68 : decode cX12_price 68 = .ok (.sipush 400, 3) := by decide +kernel
theorem dX12_price_71 : decode cX12_price 71 = .ok (.iload_n 1, 1) := by decide +kernel
theorem dX12_price_72 : decode cX12_price 72 = .ok (.imul, 1) := by decide +kernel
theorem dX12_price_73 : decode cX12_price 73 = .ok (.iload_n 3, 1) := by decide +kernel
theorem dX12_price_74 : decode cX12_price 74 = .ok (.iadd, 1) := by decide +kernel
theorem dX12_price_75 : decode cX12_price 75 = .ok (.iaload, 1) := by decide +kernel
theorem dX12_price_76 : decode cX12_price 76 = .ok (.iastore, 1) := by decide +kernel
theorem dX12_price_77 : decode cX12_price 77 = .ok (.iinc 3 1, 3) := by decide +kernel
theorem dX12_price_80 : decode cX12_price 80 = .ok (.goto (-29), 3) := by decide +kernel
theorem dX12_price_83 : decode cX12_price 83 = .ok (.aload_n 0, 1) := by decide +kernel
theorem dX12_price_84 : decode cX12_price 84 = .ok (.aload_n 0, 1) := by decide +kernel
theorem dX12_price_85 : decode cX12_price 85 = .ok (.getfield 13, 3) := by decide +kernel
theorem dX12_price_88 : decode cX12_price 88 = .ok (.invokevirtual 159, 3) := by decide +kernel
theorem dX12_price_91 : decode cX12_price 91 = .ok (.aload_n 0, 1) := by decide +kernel
theorem dX12_price_92 : decode cX12_price 92 = .ok (.iload_n 2, 1) := by decide +kernel
theorem dX12_price_93 : decode cX12_price 93 = .ok (.invokevirtual 156, 3) := by decide +kernel
theorem dX12_price_96 : decode cX12_price 96 = .ok (.lstore_n 3, 1) := by decide +kernel
theorem dX12_price_97 : decode cX12_price 97 = .ok (.lload_n 3, 1) := by decide +kernel
theorem dX12_price_98 : decode cX12_price 98 = .ok (.ldc2_w 115, 3) := by decide +kernel
theorem dX12_price_101 : decode cX12_price 101 = .ok (.lcmp, 1) := by decide +kernel
theorem dX12_price_102 : decode cX12_price 102 = .ok (.ifCond .lt 8, 3) := by decide +kernel
theorem dX12_price_105 : decode cX12_price 105 = .ok (.bipush (-3), 2) := by decide +kernel
theorem dX12_price_107 : decode cX12_price 107 = .ok (.goto 5, 3) := by decide +kernel
theorem dX12_price_110 : decode cX12_price 110 = .ok (.lload_n 3, 1) := by decide +kernel
theorem dX12_price_111 : decode cX12_price 111 = .ok (.l2i, 1) := by decide +kernel
theorem dX12_price_112 : decode cX12_price 112 = .ok (.ireturn, 1) := by decide +kernel
theorem dX12_size_0 : decode cX12_size 0 = .ok (.aload_n 0, 1) := by decide +kernel
theorem dX12_size_1 : decode cX12_size 1 = .ok (.iconst 0, 1) := by decide +kernel
theorem dX12_size_2 : decode cX12_size 2 = .ok (.putfield 1, 3) := by decide +kernel
theorem dX12_size_5 : decode cX12_size 5 = .ok (.aload_n 0, 1) := by decide +kernel
theorem dX12_size_6 : decode cX12_size 6 = .ok (.getfield 69, 3) := by decide +kernel
theorem dX12_size_9 : decode cX12_size 9 = .ok (.ireturn, 1) := by decide +kernel
theorem dX12_at_0 : decode cX12_at 0 = .ok (.aload_n 0, 1) := by decide +kernel
theorem dX12_at_1 : decode cX12_at 1 = .ok (.iconst 0, 1) := by decide +kernel
theorem dX12_at_2 : decode cX12_at 2 = .ok (.putfield 1, 3) := by decide +kernel
theorem dX12_at_5 : decode cX12_at 5 = .ok (.iload_n 1, 1) := by decide +kernel
theorem dX12_at_6 : decode cX12_at 6 = .ok (.i2l, 1) := by decide +kernel
theorem dX12_at_7 : decode cX12_at 7 = .ok (.lconst 0, 1) := by decide +kernel
theorem dX12_at_8 : decode cX12_at 8 = .ok (.aload_n 0, 1) := by decide +kernel
theorem dX12_at_9 : decode cX12_at 9 = .ok (.getfield 69, 3) := by decide +kernel
theorem dX12_at_12 : decode cX12_at 12 = .ok (.iconst 1, 1) := by decide +kernel
theorem dX12_at_13 : decode cX12_at 13 = .ok (.isub, 1) := by decide +kernel
theorem dX12_at_14 : decode cX12_at 14 = .ok (.i2l, 1) := by decide +kernel
theorem dX12_at_15 : decode cX12_at 15 = .ok (.invokestatic 72, 3) := by decide +kernel
theorem dX12_at_18 : decode cX12_at 18 = .ok (.ifCond .eq 12, 3) := by decide +kernel
theorem dX12_at_21 : decode cX12_at 21 = .ok (.aload_n 0, 1) := by decide +kernel
theorem dX12_at_22 : decode cX12_at 22 = .ok (.getfield 23, 3) := by decide +kernel
theorem dX12_at_25 : decode cX12_at 25 = .ok (.iload_n 1, 1) := by decide +kernel
theorem dX12_at_26 : decode cX12_at 26 = .ok (.iaload, 1) := by decide +kernel
theorem dX12_at_27 : decode cX12_at 27 = .ok (.goto 5, 3) := by decide +kernel
theorem dX12_at_30 : decode cX12_at 30 = .ok (.bipush (-2), 2) := by decide +kernel
theorem dX12_at_32 : decode cX12_at 32 = .ok (.ireturn, 1) := by decide +kernel
theorem dX12_alter_0 : decode cX12_alter 0 = .ok (.aload_n 0, 1) := by decide +kernel
theorem dX12_alter_1 : decode cX12_alter 1 = .ok (.iconst 0, 1) := by decide +kernel
theorem dX12_alter_2 : decode cX12_alter 2 = .ok (.putfield 1, 3) := by decide +kernel
theorem dX12_alter_5 : decode cX12_alter 5 = .ok (.iload_n 1, 1) := by decide +kernel
theorem dX12_alter_6 : decode cX12_alter 6 = .ok (.i2l, 1) := by decide +kernel
theorem dX12_alter_7 : decode cX12_alter 7 = .ok (.lconst 0, 1) := by decide +kernel
theorem dX12_alter_8 : decode cX12_alter 8 = .ok (.aload_n 0, 1) := by decide +kernel
theorem dX12_alter_9 : decode cX12_alter 9 = .ok (.getfield 69, 3) := by decide +kernel
theorem dX12_alter_12 : decode cX12_alter 12 = .ok (.iconst 1, 1) := by decide +kernel
theorem dX12_alter_13 : decode cX12_alter 13 = .ok (.isub, 1) := by decide +kernel
theorem dX12_alter_14 : decode cX12_alter 14 = .ok (.i2l, 1) := by decide +kernel
theorem dX12_alter_15 : decode cX12_alter 15 = .ok (.invokestatic 72, 3) := by decide +kernel
theorem dX12_alter_18 : decode cX12_alter 18 = .ok (.ifCond .eq 15, 3) := by decide +kernel
theorem dX12_alter_21 : decode cX12_alter 21 = .ok (.iload_n 2, 1) := by decide +kernel
theorem dX12_alter_22 : decode cX12_alter 22 = .ok (.i2l, 1) := by decide +kernel
theorem dX12_alter_23 : decode cX12_alter 23 = .ok (.lconst 0, 1) := by decide +kernel
theorem dX12_alter_24 : decode cX12_alter 24 = .ok (.ldc2_w 200, 3) := by decide +kernel
theorem dX12_alter_27 : decode cX12_alter 27 = .ok (.invokestatic 72, 3) := by decide +kernel
theorem dX12_alter_30 : decode cX12_alter 30 = .ok (.ifCond .ne 6, 3) := by decide +kernel
theorem dX12_alter_33 : decode cX12_alter 33 = .ok (.bipush (-2), 2) := by decide +kernel
theorem dX12_alter_35 : decode cX12_alter 35 = .ok (.ireturn, 1) := by decide +kernel
theorem dX12_alter_36 : decode cX12_alter 36 = .ok (.aload_n 0, 1) := by decide +kernel
theorem dX12_alter_37 : decode cX12_alter 37 = .ok (.getfield 23, 3) := by decide +kernel
theorem dX12_alter_40 : decode cX12_alter 40 = .ok (.iload_n 1, 1) := by decide +kernel
theorem dX12_alter_41 : decode cX12_alter 41 = .ok (.iaload, 1) := by decide +kernel
theorem dX12_alter_42 : decode cX12_alter 42 = .ok (.istore_n 3, 1) := by decide +kernel
theorem dX12_alter_43 : decode cX12_alter 43 = .ok (.aload_n 0, 1) := by decide +kernel
theorem dX12_alter_44 : decode cX12_alter 44 = .ok (.getfield 23, 3) := by decide +kernel
theorem dX12_alter_47 : decode cX12_alter 47 = .ok (.iload_n 1, 1) := by decide +kernel
theorem dX12_alter_48 : decode cX12_alter 48 = .ok (.iload_n 2, 1) := by decide +kernel
theorem dX12_alter_49 : decode cX12_alter 49 = .ok (.iastore, 1) := by decide +kernel
theorem dX12_alter_50 : decode cX12_alter 50 = .ok (.iload_n 3, 1) := by decide +kernel
theorem dX12_alter_51 : decode cX12_alter 51 = .ok (.ireturn, 1) := by decide +kernel
theorem dX12_add_0 : decode cX12_add 0 = .ok (.aload_n 0, 1) := by decide +kernel
theorem dX12_add_1 : decode cX12_add 1 = .ok (.iconst 0, 1) := by decide +kernel
theorem dX12_add_2 : decode cX12_add 2 = .ok (.putfield 1, 3) := by decide +kernel
theorem dX12_add_5 : decode cX12_add 5 = .ok (.iload_n 1, 1) := by decide +kernel
theorem dX12_add_6 : decode cX12_add 6 = .ok (.i2l, 1) := by decide +kernel
theorem dX12_add_7 : decode cX12_add 7 = .ok (.lconst 0, 1) := by decide +kernel
theorem dX12_add_8 : decode cX12_add 8 = .ok (.ldc2_w 200, 3) := by decide +kernel
theorem dX12_add_11 : decode cX12_add 11 = .ok (.invokestatic 72, 3) := by decide +kernel
theorem dX12_add_14 : decode cX12_add 14 = .ok (.ifCond .ne 6, 3) := by decide +kernel
theorem dX12_add_17 : decode cX12_add 17 = .ok (.bipush (-2), 2) := by decide +kernel
theorem dX12_add_19 : decode cX12_add 19 = .ok (.ireturn, 1) := by decide +kernel
theorem dX12_add_20 : decode cX12_add 20 = .ok (.aload_n 0, 1) := by decide +kernel
theorem dX12_add_21 : decode cX12_add 21 = .ok (.getfield 69, 3) := by decide +kernel
theorem dX12_add_24 : decode cX12_add 24 = .ok (.sipush 2400, 3) := by decide +kernel
theorem dX12_add_27 : decode cX12_add 27 = .ok (.if_icmp .ne 6, 3) := by decide +kernel
theorem dX12_add_30 : decode cX12_add 30 = .ok (.bipush (-4), 2) := by decide +kernel
theorem dX12_add_32 : decode cX12_add 32 = .ok (.ireturn, 1) := by decide +kernel
theorem dX12_add_33 : decode cX12_add 33 = .ok (.aload_n 0, 1) := by decide +kernel
theorem dX12_add_34 : decode cX12_add 34 = .ok (.getfield 23, 3) := by decide +kernel
theorem dX12_add_37 : decode cX12_add 37 = .ok (.aload_n 0, 1) := by decide +kernel
theorem dX12_add_38 : decode cX12_add 38 = .ok (.getfield 69, 3) := by decide +kernel
theorem dX12_add_41 : decode cX12_add 41 = .ok (.iload_n 1, 1) := by decide +kernel
theorem dX12_add_42 : decode cX12_add 42 = .ok (.iastore, 1) := by decide +kernel
theorem dX12_add_43 : decode cX12_add 43 = .ok (.aload_n 0, 1) := by decide +kernel
theorem dX12_add_44 : decode cX12_add 44 = .ok (.dup, 1) := by decide +kernel
theorem dX12_add_45 : decode cX12_add 45 = .ok (.getfield 69, 3) := by decide +kernel
theorem dX12_add_48 : decode cX12_add 48 = .ok (.iconst 1, 1) := by decide +kernel
theorem dX12_add_49 : decode cX12_add 49 = .ok (.iadd, 1) := by decide +kernel
theorem dX12_add_50 : decode cX12_add 50 = .ok (.putfield 69, 3) := by decide +kernel
theorem dX12_add_53 : decode cX12_add 53 = .ok (.aload_n 0, 1) := by decide +kernel
theorem dX12_add_54 : decode cX12_add 54 = .ok (.getfield 69, 3) := by decide +kernel
theorem dX12_add_57 : decode cX12_add 57 = .ok (.ireturn, 1) := by decide +kernel
theorem dX12_cut_0 : decode cX12_cut 0 = .ok (.aload_n 0, 1) := by decide +kernel
theorem dX12_cut_1 : decode cX12_cut 1 = .ok (.iconst 0, 1) := by decide +kernel
theorem dX12_cut_2 : decode cX12_cut 2 = .ok (.putfield 1, 3) := by decide +kernel
theorem dX12_cut_5 : decode cX12_cut 5 = .ok (.iload_n 1, 1) := by decide +kernel
theorem dX12_cut_6 : decode cX12_cut 6 = .ok (.i2l, 1) := by decide +kernel
theorem dX12_cut_7 : decode cX12_cut 7 = .ok (.lconst 0, 1) := by decide +kernel
theorem dX12_cut_8 : decode cX12_cut 8 = .ok (.aload_n 0, 1) := by decide +kernel
theorem dX12_cut_9 : decode cX12_cut 9 = .ok (.getfield 69, 3) := by decide +kernel
theorem dX12_cut_12 : decode cX12_cut 12 = .ok (.i2l, 1) := by decide +kernel
theorem dX12_cut_13 : decode cX12_cut 13 = .ok (.invokestatic 72, 3) := by decide +kernel
theorem dX12_cut_16 : decode cX12_cut 16 = .ok (.ifCond .ne 6, 3) := by decide +kernel
theorem dX12_cut_19 : decode cX12_cut 19 = .ok (.bipush (-2), 2) := by decide +kernel
theorem dX12_cut_21 : decode cX12_cut 21 = .ok (.ireturn, 1) := by decide +kernel
theorem dX12_cut_22 : decode cX12_cut 22 = .ok (.aload_n 0, 1) := by decide +kernel
theorem dX12_cut_23 : decode cX12_cut 23 = .ok (.getfield 69, 3) := by decide +kernel
theorem dX12_cut_26 : decode cX12_cut 26 = .ok (.iload_n 1, 1) := by decide +kernel
theorem dX12_cut_27 : decode cX12_cut 27 = .ok (.isub, 1) := by decide +kernel
theorem dX12_cut_28 : decode cX12_cut 28 = .ok (.istore_n 2, 1) := by decide +kernel
theorem dX12_cut_29 : decode cX12_cut 29 = .ok (.aload_n 0, 1) := by decide +kernel
theorem dX12_cut_30 : decode cX12_cut 30 = .ok (.iload_n 1, 1) := by decide +kernel
theorem dX12_cut_31 : decode cX12_cut 31 = .ok (.putfield 69, 3) := by decide +kernel
theorem dX12_cut_34 : decode cX12_cut 34 = .ok (.iload_n 2, 1) := by decide +kernel
theorem dX12_cut_35 : decode cX12_cut 35 = .ok (.ireturn, 1) := by decide +kernel
theorem dX12_wrong_0 : decode cX12_wrong 0 = .ok (.aload_n 0, 1) := by decide +kernel
theorem dX12_wrong_1 : decode cX12_wrong 1 = .ok (.aload_n 0, 1) := by decide +kernel
theorem dX12_wrong_2 : decode cX12_wrong 2 = .ok (.getfield 202, 3) := by decide +kernel
theorem dX12_wrong_5 : decode cX12_wrong 5 = .ok (.ifCond .ne 7, 3) := by decide +kernel
theorem dX12_wrong_8 : decode cX12_wrong 8 = .ok (.iload_n 1, 1) := by decide +kernel
theorem dX12_wrong_9 : decode cX12_wrong 9 = .ok (.goto 7, 3) := by decide +kernel
theorem dX12_wrong_12 : decode cX12_wrong 12 = .ok (.aload_n 0, 1) := by decide +kernel
theorem dX12_wrong_13 : decode cX12_wrong 13 = .ok (.getfield 202, 3) := by decide +kernel
theorem dX12_wrong_16 : decode cX12_wrong 16 = .ok (.putfield 202, 3) := by decide +kernel
theorem dX12_wrong_19 : decode cX12_wrong 19 = .ok (.return_, 1) := by decide +kernel
theorem dX12_bit_0 : decode cX12_bit 0 = .ok (.aload_n 0, 1) := by decide +kernel
theorem dX12_bit_1 : decode cX12_bit 1 = .ok (.getfield 202, 3) := by decide +kernel
theorem dX12_bit_4 : decode cX12_bit 4 = .ok (.ifCond .eq 5, 3) := by decide +kernel
theorem dX12_bit_7 : decode cX12_bit 7 = .ok (.iconst 0, 1) := by decide +kernel
theorem dX12_bit_8 : decode cX12_bit 8 = .ok (.ireturn, 1) := by decide +kernel
theorem dX12_bit_9 : decode cX12_bit 9 = .ok (.aload_n 0, 1) := by decide +kernel
theorem dX12_bit_10 : decode cX12_bit 10 = .ok (.getfield 205, 3) := by decide +kernel
theorem dX12_bit_13 : decode cX12_bit 13 = .ok (.bipush 8, 2) := by decide +kernel
theorem dX12_bit_15 : decode cX12_bit 15 = .ok (.aload_n 0, 1) := by decide +kernel
theorem dX12_bit_16 : decode cX12_bit 16 = .ok (.getfield 69, 3) := by decide +kernel
theorem dX12_bit_19 : decode cX12_bit 19 = .ok (.imul, 1) := by decide +kernel
theorem dX12_bit_20 : decode cX12_bit 20 = .ok (.if_icmp .lt 10, 3) := by decide +kernel
theorem dX12_bit_23 : decode cX12_bit 23 = .ok (.aload_n 0, 1) := by decide +kernel
theorem dX12_bit_24 : decode cX12_bit 24 = .ok (.iconst 1, 1) := by decide +kernel
theorem dX12_bit_25 : decode cX12_bit 25 = .ok (.invokevirtual 208, 3) := by decide +kernel
theorem dX12_bit_28 : decode cX12_bit 28 = .ok (.iconst 0, 1) := by decide +kernel
theorem dX12_bit_29 : decode cX12_bit 29 = .ok (.ireturn, 1) := by decide +kernel
theorem dX12_bit_30 : decode cX12_bit 30 = .ok (.aload_n 0, 1) := by decide +kernel
theorem dX12_bit_31 : decode cX12_bit 31 = .ok (.dup, 1) := by decide +kernel
theorem dX12_bit_32 : decode cX12_bit 32 = .ok (.getfield 205, 3) := by decide +kernel
theorem dX12_bit_35 : decode cX12_bit 35 = .ok (.iconst 1, 1) := by decide +kernel
theorem dX12_bit_36 : decode cX12_bit 36 = .ok (.iadd, 1) := by decide +kernel
theorem dX12_bit_37 : decode cX12_bit 37 = .ok (.putfield 205, 3) := by decide +kernel
theorem dX12_bit_40 : decode cX12_bit 40 = .ok (.aload_n 0, 1) := by decide +kernel
theorem dX12_bit_41 : decode cX12_bit 41 = .ok (.getfield 23, 3) := by decide +kernel
theorem dX12_bit_44 : decode cX12_bit 44 = .ok (.aload_n 0, 1) := by decide +kernel
theorem dX12_bit_45 : decode cX12_bit 45 = .ok (.getfield 205, 3) := by decide +kernel
theorem dX12_bit_48 : decode cX12_bit 48 = .ok (.iconst 1, 1) := by decide +kernel
theorem dX12_bit_49 : decode cX12_bit 49 = .ok (.isub, 1) := by decide +kernel
theorem dX12_bit_50 : decode cX12_bit 50 = .ok (.bipush 8, 2) := by decide +kernel
theorem dX12_bit_52 : decode cX12_bit 52 = .ok (.idiv, 1) := by decide +kernel
theorem dX12_bit_53 : decode cX12_bit 53 = .ok (.iaload, 1) := by decide +kernel
theorem dX12_bit_54 : decode cX12_bit 54 = .ok (.bipush 7, 2) := by decide +kernel
theorem dX12_bit_56 : decode cX12_bit 56 = .ok (.aload_n 0, 1) := by decide +kernel
theorem dX12_bit_57 : decode cX12_bit 57 = .ok (.getfield 205, 3) := by decide +kernel
theorem dX12_bit_60 : decode cX12_bit 60 = .ok (.iconst 1, 1) := by decide +kernel
theorem dX12_bit_61 : decode cX12_bit 61 = .ok (.isub, 1) := by decide +kernel
theorem dX12_bit_62 : decode cX12_bit 62 = .ok (.bipush 8, 2) := by decide +kernel
theorem dX12_bit_64 : decode cX12_bit 64 = .ok (.irem, 1) := by decide +kernel
theorem dX12_bit_65 : decode cX12_bit 65 = .ok (.isub, 1) := by decide +kernel
theorem dX12_bit_66 : decode cX12_bit 66 = .ok (.ishr, 1) := by decide +kernel
theorem dX12_bit_67 : decode cX12_bit 67 = .ok (.iconst 1, 1) := by decide +kernel
theorem dX12_bit_68 : decode cX12_bit 68 = .ok (.iand, 1) := by decide +kernel
theorem dX12_bit_69 : decode cX12_bit 69 = .ok (.ireturn, 1) := by decide +kernel
theorem dX12_number_0 : decode cX12_number 0 = .ok (.lconst 0, 1) := by decide +kernel
theorem dX12_number_1 : decode cX12_number 1 = .ok (.lstore_n 2, 1) := by decide +kernel
theorem dX12_number_2 : decode cX12_number 2 = .ok (.iconst 0, 1) := by decide +kernel
theorem dX12_number_3 : decode cX12_number 3 = .ok (.istore 4, 2) := by decide +kernel
theorem dX12_number_5 : decode cX12_number 5 = .ok (.iload 4, 2) := by decide +kernel
theorem dX12_number_7 : decode cX12_number 7 = .ok (.iload_n 1, 1) := by decide +kernel
theorem dX12_number_8 : decode cX12_number 8 = .ok (.if_icmp .ge 21, 3) := by decide +kernel
theorem dX12_number_11 : decode cX12_number 11 = .ok (.ldc2_w 101, 3) := by decide +kernel
theorem dX12_number_14 : decode cX12_number 14 = .ok (.lload_n 2, 1) := by decide +kernel
theorem dX12_number_15 : decode cX12_number 15 = .ok (.lmul, 1) := by decide +kernel
theorem dX12_number_16 : decode cX12_number 16 = .ok (.aload_n 0, 1) := by decide +kernel
theorem dX12_number_17 : decode cX12_number 17 = .ok (.invokevirtual 211, 3) := by decide +kernel
theorem dX12_number_20 : decode cX12_number 20 = .ok (.i2l, 1) := by decide +kernel
theorem dX12_number_21 : decode cX12_number 21 = .ok (.ladd, 1) := by decide +kernel
theorem dX12_number_22 : decode cX12_number 22 = .ok (.lstore_n 2, 1) := by decide +kernel
theorem dX12_number_23 : decode cX12_number 23 = .ok (.iinc 4 1, 3) := by decide +kernel
theorem dX12_number_26 : decode cX12_number 26 = .ok (.goto (-21), 3) := by decide +kernel
theorem dX12_number_29 : decode cX12_number 29 = .ok (.lload_n 2, 1) := by decide +kernel
theorem dX12_number_30 : decode cX12_number 30 = .ok (.lreturn, 1) := by decide +kernel
theorem dX12_signed_0 : decode cX12_signed 0 = .ok (.aload_n 0, 1) := by decide +kernel
theorem dX12_signed_1 : decode cX12_signed 1 = .ok (.iload_n 1, 1) := by decide +kernel
theorem dX12_signed_2 : decode cX12_signed 2 = .ok (.invokevirtual 214, 3) := by decide +kernel
theorem dX12_signed_5 : decode cX12_signed 5 = .ok (.lstore_n 2, 1) := by decide +kernel
theorem dX12_signed_6 : decode cX12_signed 6 = .ok (.iload_n 1, 1) := by decide +kernel
theorem dX12_signed_7 : decode cX12_signed 7 = .ok (.ifCond .le 21, 3) := by decide +kernel
theorem dX12_signed_10 : decode cX12_signed 10 = .ok (.lload_n 2, 1) := by decide +kernel
theorem dX12_signed_11 : decode cX12_signed 11 = .ok (.lconst 1, 1) := by decide +kernel
theorem dX12_signed_12 : decode cX12_signed 12 = .ok (.iload_n 1, 1) := by decide +kernel
theorem dX12_signed_13 : decode cX12_signed 13 = .ok (.iconst 1, 1) := by decide +kernel
theorem dX12_signed_14 : decode cX12_signed 14 = .ok (.isub, 1) := by decide +kernel
theorem dX12_signed_15 : decode cX12_signed 15 = .ok (.lshl, 1) := by decide +kernel
theorem dX12_signed_16 : decode cX12_signed 16 = .ok (.lcmp, 1) := by decide +kernel
theorem dX12_signed_17 : decode cX12_signed 17 = .ok (.ifCond .lt 11, 3) := by decide +kernel
theorem dX12_signed_20 : decode cX12_signed 20 = .ok (.lload_n 2, 1) := by decide +kernel
theorem dX12_signed_21 : decode cX12_signed 21 = .ok (.lconst 1, 1) := by decide +kernel
theorem dX12_signed_22 : decode cX12_signed 22 = .ok (.iload_n 1, 1) := by decide +kernel
theorem dX12_signed_23 : decode cX12_signed 23 = .ok (.lshl, 1) := by decide +kernel
theorem dX12_signed_24 : decode cX12_signed 24 = .ok (.lsub, 1) := by decide +kernel
theorem dX12_signed_25 : decode cX12_signed 25 = .ok (.goto 4, 3) := by decide +kernel
theorem dX12_signed_28 : decode cX12_signed 28 = .ok (.lload_n 2, 1) := by decide +kernel
theorem dX12_signed_29 : decode cX12_signed 29 = .ok (.lreturn, 1) := by decide +kernel
theorem dX12_back_0 : decode cX12_back 0 = .ok (.iload_n 2, 1) := by decide +kernel
theorem dX12_back_1 : decode cX12_back 1 = .ok (.iload_n 3, 1) := by decide +kernel
theorem dX12_back_2 : decode cX12_back 2 = .ok (.if_icmp .lt 21, 3) := by decide +kernel
theorem dX12_back_5 : decode cX12_back 5 = .ok (.aload_n 0, 1) := by decide +kernel
theorem dX12_back_6 : decode cX12_back 6 = .ok (.getfield 63, 3) := by decide +kernel
theorem dX12_back_9 : decode cX12_back 9 = .ok (.sipush 400, 3) := by decide +kernel
theorem dX12_back_12 : decode cX12_back 12 = .ok (.iload_n 1, 1) := by decide +kernel
theorem dX12_back_13 : decode cX12_back 13 = .ok (.imul, 1) := by decide +kernel
theorem dX12_back_14 : decode cX12_back 14 = .ok (.iload_n 2, 1) := by decide +kernel
theorem dX12_back_15 : decode cX12_back 15 = .ok (.iadd, 1) := by decide +kernel
theorem dX12_back_16 : decode cX12_back 16 = .ok (.iload_n 3, 1) := by decide +kernel
theorem dX12_back_17 : decode cX12_back 17 = .ok (.isub, 1) := by decide +kernel
theorem dX12_back_18 : decode cX12_back 18 = .ok (.iaload, 1) := by decide +kernel
theorem dX12_back_19 : decode cX12_back 19 = .ok (.i2l, 1) := by decide +kernel
theorem dX12_back_20 : decode cX12_back 20 = .ok (.goto 4, 3) := by decide +kernel
theorem dX12_back_23 : decode cX12_back 23 = .ok (.lconst 0, 1) := by decide +kernel
theorem dX12_back_24 : decode cX12_back 24 = .ok (.lreturn, 1) := by decide +kernel
theorem dX12_foreseen_0 : decode cX12_foreseen 0 = .ok (.iload_n 2, 1) := by decide +kernel
theorem dX12_foreseen_1 : decode cX12_foreseen 1 = .ok (.bipush 7, 2) := by decide +kernel
theorem dX12_foreseen_3 : decode cX12_foreseen 3 = .ok (.if_icmp .ge 40, 3) := by decide +kernel
theorem dX12_foreseen_6 : decode cX12_foreseen 6 = .ok (.iload_n 3, 1) := by decide +kernel
theorem dX12_foreseen_7 : decode cX12_foreseen 7 = .ok (.aload_n 0, 1) := by decide +kernel
theorem dX12_foreseen_8 : decode cX12_foreseen 8 = .ok (.iload_n 1, 1) := by decide +kernel
theorem dX12_foreseen_9 : decode cX12_foreseen 9 = .ok (.iload 4, 2) := by decide +kernel
theorem dX12_foreseen_11 : decode cX12_foreseen 11 = .ok (.iconst 1, 1) := by decide +kernel
theorem dX12_foreseen_12 : decode cX12_foreseen 12 = .ok (.invokevirtual 217, 3) := by decide +kernel
theorem dX12_foreseen_15 : decode cX12_foreseen 15 = .ok (.aload_n 0, 1) := by decide +kernel
theorem dX12_foreseen_16 : decode cX12_foreseen 16 = .ok (.iload_n 1, 1) := by decide +kernel
theorem dX12_foreseen_17 : decode cX12_foreseen 17 = .ok (.iload 4, 2) := by decide +kernel
theorem dX12_foreseen_19 : decode cX12_foreseen 19 = .ok (.iconst 2, 1) := by decide +kernel
theorem dX12_foreseen_20 : decode cX12_foreseen 20 = .ok (.invokevirtual 217, 3) := by decide +kernel
theorem dX12_foreseen_23 : decode cX12_foreseen 23 = .ok (.aload_n 0, 1) := by decide +kernel
theorem dX12_foreseen_24 : decode cX12_foreseen 24 = .ok (.iload_n 1, 1) := by decide +kernel
theorem dX12_foreseen_25 : decode cX12_foreseen 25 = .ok (.iload 4, 2) := by decide +kernel
theorem dX12_foreseen_27 : decode cX12_foreseen 27 = .ok (.iconst 3, 1) := by decide +kernel
theorem dX12_foreseen_28 : decode cX12_foreseen 28 = .ok (.invokevirtual 217, 3) := by decide +kernel
theorem dX12_foreseen_31 : decode cX12_foreseen 31 = .ok (.aload_n 0, 1) := by decide +kernel
theorem dX12_foreseen_32 : decode cX12_foreseen 32 = .ok (.iload_n 1, 1) := by decide +kernel
theorem dX12_foreseen_33 : decode cX12_foreseen 33 = .ok (.iload 4, 2) := by decide +kernel
theorem dX12_foreseen_35 : decode cX12_foreseen 35 = .ok (.iconst 4, 1) := by decide +kernel
theorem dX12_foreseen_36 : decode cX12_foreseen 36 = .ok (.invokevirtual 217, 3) := by decide +kernel
theorem dX12_foreseen_39 : decode cX12_foreseen 39 = .ok (.invokestatic 111, 3) := by decide +kernel
theorem dX12_foreseen_42 : decode cX12_foreseen 42 = .ok (.lreturn, 1) := by decide +kernel
theorem dX12_foreseen_43 : decode cX12_foreseen 43 = .ok (.lconst 0, 1) := by decide +kernel
theorem dX12_foreseen_44 : decode cX12_foreseen 44 = .ok (.lstore 5, 2) := by decide +kernel
theorem dX12_foreseen_46 : decode cX12_foreseen 46 = .ok (.iconst 0, 1) := by decide +kernel
theorem dX12_foreseen_47 : decode cX12_foreseen 47 = .ok (.istore 7, 2) := by decide +kernel
theorem dX12_foreseen_49 : decode cX12_foreseen 49 = .ok (.iload 7, 2) := by decide +kernel
theorem dX12_foreseen_51 : decode cX12_foreseen 51 = .ok (.iload_n 3, 1) := by decide +kernel
theorem dX12_foreseen_52 : decode cX12_foreseen 52 = .ok (.if_icmp .ge 34, 3) := by decide +kernel
theorem dX12_foreseen_55 : decode cX12_foreseen 55 = .ok (.lload 5, 2) := by decide +kernel
theorem dX12_foreseen_57 : decode cX12_foreseen 57 = .ok (.aload_n 0, 1) := by decide +kernel
theorem dX12_foreseen_58 : decode cX12_foreseen 58 = .ok (.getfield 66, 3) := by decide +kernel
theorem dX12_foreseen_61 : decode cX12_foreseen 61 = .ok (.iload 7, 2) := by decide +kernel
theorem dX12_foreseen_63 : decode cX12_foreseen 63 = .ok (.iaload, 1) := by decide +kernel
theorem dX12_foreseen_64 : decode cX12_foreseen 64 = .ok (.i2l, 1) := by decide +kernel
theorem dX12_foreseen_65 : decode cX12_foreseen 65 = .ok (.aload_n 0, 1) := by decide +kernel
theorem dX12_foreseen_66 : decode cX12_foreseen 66 = .ok (.iload_n 1, 1) := by decide +kernel
theorem dX12_foreseen_67 : decode cX12_foreseen 67 = .ok (.iload 4, 2) := by decide +kernel
theorem dX12_foreseen_69 : decode cX12_foreseen 69 = .ok (.iload 7, 2) := by decide +kernel
theorem dX12_foreseen_71 : decode cX12_foreseen 71 = .ok (.iconst 1, 1) := by decide +kernel
theorem dX12_foreseen_72 : decode cX12_foreseen 72 = .ok (.iadd, 1) := by decide +kernel
theorem dX12_foreseen_73 : decode cX12_foreseen 73 = .ok (.invokevirtual 217, 3) := by decide +kernel
theorem dX12_foreseen_76 : decode cX12_foreseen 76 = .ok (.lmul, 1) := by decide +kernel
theorem dX12_foreseen_77 : decode cX12_foreseen 77 = .ok (.ladd, 1) := by decide +kernel
theorem dX12_foreseen_78 : decode cX12_foreseen 78 = .ok (.lstore 5, 2) := by decide +kernel
theorem dX12_foreseen_80 : decode cX12_foreseen 80 = .ok (.iinc 7 1, 3) := by decide +kernel
theorem dX12_foreseen_83 : decode cX12_foreseen 83 = .ok (.goto (-34), 3) := by decide +kernel
theorem dX12_foreseen_86 : decode cX12_foreseen 86 = .ok (.lload 5, 2) := by decide +kernel
theorem dX12_foreseen_88 : decode cX12_foreseen 88 = .ok (.aload_n 0, 1) := by decide +kernel
theorem dX12_foreseen_89 : decode cX12_foreseen 89 = .ok (.getfield 221, 3) := by decide +kernel
theorem dX12_foreseen_92 : decode cX12_foreseen 92 = .ok (.lshr, 1) := by decide +kernel
theorem dX12_foreseen_93 : decode cX12_foreseen 93 = .ok (.lreturn, 1) := by decide +kernel
theorem dX12_readRow_0 : decode cX12_readRow 0 = .ok (.aload_n 0, 1) := by decide +kernel
theorem dX12_readRow_1 : decode cX12_readRow 1 = .ok (.iconst 3, 1) := by decide +kernel
theorem dX12_readRow_2 : decode cX12_readRow 2 = .ok (.invokevirtual 214, 3) := by decide +kernel
theorem dX12_readRow_5 : decode cX12_readRow 5 = .ok (.l2i, 1) := by decide +kernel
theorem dX12_readRow_6 : decode cX12_readRow 6 = .ok (.istore_n 3, 1) := by decide +kernel
theorem dX12_readRow_7 : decode cX12_readRow 7 = .ok (.aload_n 0, 1) := by decide +kernel
theorem dX12_readRow_8 : decode cX12_readRow 8 = .ok (.getfield 60, 3) := by decide +kernel
theorem dX12_readRow_11 : decode cX12_readRow 11 = .ok (.iload_n 1, 1) := by decide +kernel
theorem dX12_readRow_12 : decode cX12_readRow 12 = .ok (.iload_n 3, 1) := by decide +kernel
theorem dX12_readRow_13 : decode cX12_readRow 13 = .ok (.iastore, 1) := by decide +kernel
theorem dX12_readRow_14 : decode cX12_readRow 14 = .ok (.aload_n 0, 1) := by decide +kernel
theorem dX12_readRow_15 : decode cX12_readRow 15 = .ok (.iconst 4, 1) := by decide +kernel
theorem dX12_readRow_16 : decode cX12_readRow 16 = .ok (.invokevirtual 214, 3) := by decide +kernel
theorem dX12_readRow_19 : decode cX12_readRow 19 = .ok (.l2i, 1) := by decide +kernel
theorem dX12_readRow_20 : decode cX12_readRow 20 = .ok (.istore 4, 2) := by decide +kernel
theorem dX12_readRow_22 : decode cX12_readRow 22 = .ok (.iload 4, 2) := by decide +kernel
theorem dX12_readRow_24 : decode cX12_readRow 24 = .ok (.iload_n 2, 1) := by decide +kernel
theorem dX12_readRow_25 : decode cX12_readRow 25 = .ok (.if_icmp .lt 9, 3) := by decide +kernel
theorem dX12_readRow_28 : decode cX12_readRow 28 = .ok (.aload_n 0, 1) := by decide +kernel
theorem dX12_readRow_29 : decode cX12_readRow 29 = .ok (.iconst 4, 1) := by decide +kernel
theorem dX12_readRow_30 : decode cX12_readRow 30 = .ok (.invokevirtual 208, 3) := by decide +kernel
theorem dX12_readRow_33 : decode cX12_readRow 33 = .ok (.return_, 1) := by decide +kernel
theorem dX12_readRow_34 : decode cX12_readRow 34 = .ok (.iload_n 2, 1) := by decide +kernel
theorem dX12_readRow_35 : decode cX12_readRow 35 = .ok (.iload 4, 2) := by decide +kernel
theorem dX12_readRow_37 : decode cX12_readRow 37 = .ok (.isub, 1) := by decide +kernel
theorem dX12_readRow_38 : decode cX12_readRow 38 = .ok (.istore 5, 2) := by decide +kernel
theorem dX12_readRow_40 : decode cX12_readRow 40 = .ok (.iload_n 3, 1) := by decide +kernel
theorem dX12_readRow_41 : decode cX12_readRow 41 = .ok (.iconst 2, 1) := by decide +kernel
theorem dX12_readRow_42 : decode cX12_readRow 42 = .ok (.if_icmp .ge 73, 3) := by decide +kernel
theorem dX12_readRow_45 : decode cX12_readRow 45 = .ok (.iconst 0, 1) := by decide +kernel
theorem dX12_readRow_46 : decode cX12_readRow 46 = .ok (.istore 6, 2) := by decide +kernel
theorem dX12_readRow_48 : decode cX12_readRow 48 = .ok (.iload 6, 2) := by decide +kernel
theorem dX12_readRow_50 : decode cX12_readRow 50 = .ok (.aload_n 0, 1) := by decide +kernel
theorem dX12_readRow_51 : decode cX12_readRow 51 = .ok (.getfield 224, 3) := by decide +kernel
theorem dX12_readRow_54 : decode cX12_readRow 54 = .ok (.if_icmp .ge 58, 3) := by decide +kernel
theorem dX12_readRow_57 : decode cX12_readRow 57 = .ok (.aload_n 0, 1) := by decide +kernel
theorem dX12_readRow_58 : decode cX12_readRow 58 = .ok (.getfield 202, 3) := by decide +kernel
theorem dX12_readRow_61 : decode cX12_readRow 61 = .ok (.ifCond .ne 51, 3) := by decide +kernel
theorem dX12_readRow_64 : decode cX12_readRow 64 = .ok (.aload_n 0, 1) := by decide +kernel
theorem dX12_readRow_65 : decode cX12_readRow 65 = .ok (.getfield 63, 3) := by decide +kernel
theorem dX12_readRow_68 : decode cX12_readRow 68 = .ok (.sipush 400, 3) := by decide +kernel
theorem dX12_readRow_71 : decode cX12_readRow 71 = .ok (.iload_n 1, 1) := by decide +kernel
theorem dX12_readRow_72 : decode cX12_readRow 72 = .ok (.imul, 1) := by decide +kernel
theorem dX12_readRow_73 : decode cX12_readRow 73 = .ok (.iload 6, 2) := by decide +kernel
theorem dX12_readRow_75 : decode cX12_readRow 75 = .ok (.iadd, 1) := by decide +kernel
theorem dX12_readRow_76 : decode cX12_readRow 76 = .ok (.iload_n 3, 1) := by decide +kernel
theorem dX12_readRow_77 : decode cX12_readRow 77 = .ok (.ifCond .ne 21, 3) := by decide +kernel
theorem dX12_readRow_80 : decode cX12_readRow 80 = .ok (.iload 6, 2) := by decide +kernel
theorem dX12_readRow_82 : decode cX12_readRow 82 = .ok (.ifCond .le 16, 3) := by decide +kernel
theorem dX12_readRow_85 : decode cX12_readRow 85 = .ok (.aload_n 0, 1) := by decide +kernel
theorem dX12_readRow_86 : decode cX12_readRow 86 = .ok (.getfield 63, 3) := by decide +kernel
theorem dX12_readRow_89 : decode cX12_readRow 89 = .ok (.sipush 400, 3) := by decide +kernel
theorem dX12_readRow_92 : decode cX12_readRow 92 = .ok (.iload_n 1, 1) := by decide +kernel
theorem dX12_readRow_93 : decode cX12_readRow 93 = .ok (.imul, 1) := by decide +kernel
theorem dX12_readRow_94 : decode cX12_readRow 94 = .ok (.iaload, 1) := by decide +kernel
theorem dX12_readRow_95 : decode cX12_readRow 95 = .ok (.goto 10, 3) := by decide +kernel
theorem dX12_readRow_98 : decode cX12_readRow 98 = .ok (.aload_n 0, 1) := by decide +kernel
theorem dX12_readRow_99 : decode cX12_readRow 99 = .ok (.iload 5, 2) := by decide +kernel
theorem dX12_readRow_101 : decode cX12_readRow 101 = .ok (.invokevirtual 227, 3) := by decide +kernel
theorem dX12_readRow_104 : decode cX12_readRow 104 = .ok (.l2i, 1) := by decide +kernel
theorem dX12_readRow_105 : decode cX12_readRow 105 = .ok (.iastore, 1) := by decide +kernel
theorem dX12_readRow_106 : decode cX12_readRow 106 = .ok (.iinc 6 1, 3) := by decide +kernel
theorem dX12_readRow_109 : decode cX12_readRow 109 = .ok (.goto (-61), 3) := by decide +kernel
theorem dX12_readRow_112 : decode cX12_readRow 112 = .ok (.goto 138, 3) := by decide +kernel
theorem dX12_readRow_115 : decode cX12_readRow 115 = .ok (.iload_n 3, 1) := by decide +kernel
theorem dX12_readRow_116 : decode cX12_readRow 116 = .ok (.bipush 7, 2) := by decide +kernel
theorem dX12_readRow_118 : decode cX12_readRow 118 = .ok (.if_icmp .ge 9, 3) := by decide +kernel
theorem dX12_readRow_121 : decode cX12_readRow 121 = .ok (.iload_n 3, 1) := by decide +kernel
theorem dX12_readRow_122 : decode cX12_readRow 122 = .ok (.iconst 2, 1) := by decide +kernel
theorem dX12_readRow_123 : decode cX12_readRow 123 = .ok (.isub, 1) := by decide +kernel
theorem dX12_readRow_124 : decode cX12_readRow 124 = .ok (.goto 11, 3) := by decide +kernel
theorem dX12_readRow_127 : decode cX12_readRow 127 = .ok (.aload_n 0, 1) := by decide +kernel
theorem dX12_readRow_128 : decode cX12_readRow 128 = .ok (.iconst 2, 1) := by decide +kernel
theorem dX12_readRow_129 : decode cX12_readRow 129 = .ok (.invokevirtual 214, 3) := by decide +kernel
theorem dX12_readRow_132 : decode cX12_readRow 132 = .ok (.l2i, 1) := by decide +kernel
theorem dX12_readRow_133 : decode cX12_readRow 133 = .ok (.iconst 1, 1) := by decide +kernel
theorem dX12_readRow_134 : decode cX12_readRow 134 = .ok (.iadd, 1) := by decide +kernel
theorem dX12_readRow_135 : decode cX12_readRow 135 = .ok (.istore 6, 2) := by decide +kernel
theorem dX12_readRow_137 : decode cX12_readRow 137 = .ok (.iload 6, 2) := by decide +kernel
theorem dX12_readRow_139 : decode cX12_readRow 139 = .ok (.aload_n 0, 1) := by decide +kernel
theorem dX12_readRow_140 : decode cX12_readRow 140 = .ok (.getfield 224, 3) := by decide +kernel
theorem dX12_readRow_143 : decode cX12_readRow 143 = .ok (.if_icmp .le 8, 3) := by decide +kernel
theorem dX12_readRow_146 : decode cX12_readRow 146 = .ok (.aload_n 0, 1) := by decide +kernel
theorem dX12_readRow_147 : decode cX12_readRow 147 = .ok (.iconst 5, 1) := by decide +kernel
theorem dX12_readRow_148 : decode cX12_readRow 148 = .ok (.invokevirtual 208, 3) := by decide +kernel
theorem dX12_readRow_151 : decode cX12_readRow 151 = .ok (.iload_n 3, 1) := by decide +kernel
theorem dX12_readRow_152 : decode cX12_readRow 152 = .ok (.bipush 7, 2) := by decide +kernel
theorem dX12_readRow_154 : decode cX12_readRow 154 = .ok (.if_icmp .ne 43, 3) := by decide +kernel
theorem dX12_readRow_157 : decode cX12_readRow 157 = .ok (.aload_n 0, 1) := by decide +kernel
theorem dX12_readRow_158 : decode cX12_readRow 158 = .ok (.aload_n 0, 1) := by decide +kernel
theorem dX12_readRow_159 : decode cX12_readRow 159 = .ok (.iconst 4, 1) := by decide +kernel
theorem dX12_readRow_160 : decode cX12_readRow 160 = .ok (.invokevirtual 214, 3) := by decide +kernel
theorem dX12_readRow_163 : decode cX12_readRow 163 = .ok (.l2i, 1) := by decide +kernel
theorem dX12_readRow_164 : decode cX12_readRow 164 = .ok (.putfield 221, 3) := by decide +kernel
theorem dX12_readRow_167 : decode cX12_readRow 167 = .ok (.iconst 0, 1) := by decide +kernel
theorem dX12_readRow_168 : decode cX12_readRow 168 = .ok (.istore 7, 2) := by decide +kernel
theorem dX12_readRow_170 : decode cX12_readRow 170 = .ok (.iload 7, 2) := by decide +kernel
theorem dX12_readRow_172 : decode cX12_readRow 172 = .ok (.iload 6, 2) := by decide +kernel
theorem dX12_readRow_174 : decode cX12_readRow 174 = .ok (.if_icmp .ge 23, 3) := by decide +kernel
theorem dX12_readRow_177 : decode cX12_readRow 177 = .ok (.aload_n 0, 1) := by decide +kernel
theorem dX12_readRow_178 : decode cX12_readRow 178 = .ok (.getfield 66, 3) := by decide +kernel
theorem dX12_readRow_181 : decode cX12_readRow 181 = .ok (.iload 7, 2) := by decide +kernel
theorem dX12_readRow_183 : decode cX12_readRow 183 = .ok (.aload_n 0, 1) := by decide +kernel
theorem dX12_readRow_184 : decode cX12_readRow 184 = .ok (.bipush 10, 2) := by decide +kernel
theorem dX12_readRow_186 : decode cX12_readRow 186 = .ok (.invokevirtual 227, 3) := by decide +kernel
theorem dX12_readRow_189 : decode cX12_readRow 189 = .ok (.l2i, 1) := by decide +kernel
theorem dX12_readRow_190 : decode cX12_readRow 190 = .ok (.iastore, 1) := by decide +kernel
theorem dX12_readRow_191 : decode cX12_readRow 191 = .ok (.iinc 7 1, 3) := by decide +kernel
theorem dX12_readRow_194 : decode cX12_readRow 194 = .ok (.goto (-24), 3) := by decide +kernel
theorem dX12_readRow_197 : decode cX12_readRow 197 = .ok (.iconst 0, 1) := by decide +kernel
theorem dX12_readRow_198 : decode cX12_readRow 198 = .ok (.istore 7, 2) := by decide +kernel
theorem dX12_readRow_200 : decode cX12_readRow 200 = .ok (.iload 7, 2) := by decide +kernel
theorem dX12_readRow_202 : decode cX12_readRow 202 = .ok (.iload 6, 2) := by decide +kernel
theorem dX12_readRow_204 : decode cX12_readRow 204 = .ok (.if_icmp .ge 36, 3) := by decide +kernel
theorem dX12_readRow_207 : decode cX12_readRow 207 = .ok (.aload_n 0, 1) := by decide +kernel
theorem dX12_readRow_208 : decode cX12_readRow 208 = .ok (.getfield 202, 3) := by decide +kernel
theorem dX12_readRow_211 : decode cX12_readRow 211 = .ok (.ifCond .ne 29, 3) := by decide +kernel
theorem dX12_readRow_214 : decode cX12_readRow 214 = .ok (.aload_n 0, 1) := by decide +kernel
theorem dX12_readRow_215 : decode cX12_readRow 215 = .ok (.getfield 63, 3) := by decide +kernel
theorem dX12_readRow_218 : decode cX12_readRow 218 = .ok (.sipush 400, 3) := by decide +kernel
theorem dX12_readRow_221 : decode cX12_readRow 221 = .ok (.iload_n 1, 1) := by decide +kernel
theorem dX12_readRow_222 : decode cX12_readRow 222 = .ok (.imul, 1) := by decide +kernel
theorem dX12_readRow_223 : decode cX12_readRow 223 = .ok (.iload 7, 2) := by decide +kernel
theorem dX12_readRow_225 : decode cX12_readRow 225 = .ok (.iadd, 1) := by decide +kernel
theorem dX12_readRow_226 : decode cX12_readRow 226 = .ok (.aload_n 0, 1) := by decide +kernel
theorem dX12_readRow_227 : decode cX12_readRow 227 = .ok (.iload 5, 2) := by decide +kernel
theorem dX12_readRow_229 : decode cX12_readRow 229 = .ok (.invokevirtual 227, 3) := by decide +kernel
theorem dX12_readRow_232 : decode cX12_readRow 232 = .ok (.l2i, 1) := by decide +kernel
theorem dX12_readRow_233 : decode cX12_readRow 233 = .ok (.iastore, 1) := by decide +kernel
theorem dX12_readRow_234 : decode cX12_readRow 234 = .ok (.iinc 7 1, 3) := by decide +kernel
theorem dX12_readRow_237 : decode cX12_readRow 237 = .ok (.goto (-37), 3) := by decide +kernel
theorem dX12_readRow_240 : decode cX12_readRow 240 = .ok (.aload_n 0, 1) := by decide +kernel
theorem dX12_readRow_241 : decode cX12_readRow 241 = .ok (.iload_n 1, 1) := by decide +kernel
theorem dX12_readRow_242 : decode cX12_readRow 242 = .ok (.iload_n 3, 1) := by decide +kernel
theorem dX12_readRow_243 : decode cX12_readRow 243 = .ok (.iload 6, 2) := by decide +kernel
theorem dX12_readRow_245 : decode cX12_readRow 245 = .ok (.iload 5, 2) := by decide +kernel
theorem dX12_readRow_247 : decode cX12_readRow 247 = .ok (.invokevirtual 230, 3) := by decide +kernel
theorem dX12_readRow_250 : decode cX12_readRow 250 = .ok (.iconst 0, 1) := by decide +kernel
theorem dX12_readRow_251 : decode cX12_readRow 251 = .ok (.istore 6, 2) := by decide +kernel
theorem dX12_readRow_253 : decode cX12_readRow 253 = .ok (.iload 6, 2) := by decide +kernel
theorem dX12_readRow_255 : decode cX12_readRow 255 = .ok (.aload_n 0, 1) := by decide +kernel
theorem dX12_readRow_256 : decode cX12_readRow 256 = .ok (.getfield 224, 3) := by decide +kernel
theorem dX12_readRow_259 : decode cX12_readRow 259 = .ok (.if_icmp .ge 34, 3) := by decide +kernel
theorem dX12_readRow_262 : decode cX12_readRow 262 = .ok (.aload_n 0, 1) := by decide +kernel
theorem dX12_readRow_263 : decode cX12_readRow 263 = .ok (.getfield 202, 3) := by decide +kernel
theorem dX12_readRow_266 : decode cX12_readRow 266 = .ok (.ifCond .ne 27, 3) := by decide +kernel
theorem dX12_readRow_269 : decode cX12_readRow 269 = .ok (.aload_n 0, 1) := by decide +kernel
theorem dX12_readRow_270 : decode cX12_readRow 270 = .ok (.getfield 63, 3) := by decide +kernel
theorem dX12_readRow_273 : decode cX12_readRow 273 = .ok (.sipush 400, 3) := by decide +kernel
theorem dX12_readRow_276 : decode cX12_readRow 276 = .ok (.iload_n 1, 1) := by decide +kernel
theorem dX12_readRow_277 : decode cX12_readRow 277 = .ok (.imul, 1) := by decide +kernel
theorem dX12_readRow_278 : decode cX12_readRow 278 = .ok (.iload 6, 2) := by decide +kernel
theorem dX12_readRow_280 : decode cX12_readRow 280 = .ok (.iadd, 1) := by decide +kernel
theorem dX12_readRow_281 : decode cX12_readRow 281 = .ok (.dup2, 1) := by decide +kernel
theorem dX12_readRow_282 : decode cX12_readRow 282 = .ok (.iaload, 1) := by decide +kernel
theorem dX12_readRow_283 : decode cX12_readRow 283 = .ok (.iload 4, 2) := by decide +kernel
theorem dX12_readRow_285 : decode cX12_readRow 285 = .ok (.ishl, 1) := by decide +kernel
theorem dX12_readRow_286 : decode cX12_readRow 286 = .ok (.iastore, 1) := by decide +kernel
theorem dX12_readRow_287 : decode cX12_readRow 287 = .ok (.iinc 6 1, 3) := by decide +kernel
theorem dX12_readRow_290 : decode cX12_readRow 290 = .ok (.goto (-37), 3) := by decide +kernel
theorem dX12_readRow_293 : decode cX12_readRow 293 = .ok (.return_, 1) := by decide +kernel
theorem dX12_readRests_0 : decode cX12_readRests 0 = .ok (.aload_n 0, 1) := by decide +kernel
theorem dX12_readRests_1 : decode cX12_readRests 1 = .ok (.iconst 3, 1) := by decide +kernel
theorem dX12_readRests_2 : decode cX12_readRests 2 = .ok (.invokevirtual 214, 3) := by decide +kernel
theorem dX12_readRests_5 : decode cX12_readRests 5 = .ok (.l2i, 1) := by decide +kernel
theorem dX12_readRests_6 : decode cX12_readRests 6 = .ok (.istore 5, 2) := by decide +kernel
theorem dX12_readRests_8 : decode cX12_readRests 8 = .ok (.aload_n 0, 1) := by decide +kernel
theorem dX12_readRests_9 : decode cX12_readRests 9 = .ok (.getfield 202, 3) := by decide +kernel
theorem dX12_readRests_12 : decode cX12_readRests 12 = .ok (.ifCond .ne 38, 3) := by decide +kernel
theorem dX12_readRests_15 : decode cX12_readRests 15 = .ok (.iload 5, 2) := by decide +kernel
theorem dX12_readRests_17 : decode cX12_readRests 17 = .ok (.iconst 4, 1) := by decide +kernel
theorem dX12_readRests_18 : decode cX12_readRests 18 = .ok (.if_icmp .gt 26, 3) := by decide +kernel
theorem dX12_readRests_21 : decode cX12_readRests 21 = .ok (.aload_n 0, 1) := by decide +kernel
theorem dX12_readRests_22 : decode cX12_readRests 22 = .ok (.getfield 224, 3) := by decide +kernel
theorem dX12_readRests_25 : decode cX12_readRests 25 = .ok (.iconst 1, 1) := by decide +kernel
theorem dX12_readRests_26 : decode cX12_readRests 26 = .ok (.iload 5, 2) := by decide +kernel
theorem dX12_readRests_28 : decode cX12_readRests 28 = .ok (.ishl, 1) := by decide +kernel
theorem dX12_readRests_29 : decode cX12_readRests 29 = .ok (.irem, 1) := by decide +kernel
theorem dX12_readRests_30 : decode cX12_readRests 30 = .ok (.ifCond .ne 14, 3) := by decide +kernel
theorem dX12_readRests_33 : decode cX12_readRests 33 = .ok (.aload_n 0, 1) := by decide +kernel
theorem dX12_readRests_34 : decode cX12_readRests 34 = .ok (.getfield 224, 3) := by decide +kernel
theorem dX12_readRests_37 : decode cX12_readRests 37 = .ok (.iload 5, 2) := by decide +kernel
theorem dX12_readRests_39 : decode cX12_readRests 39 = .ok (.ishr, 1) := by decide +kernel
theorem dX12_readRests_40 : decode cX12_readRests 40 = .ok (.iload_n 3, 1) := by decide +kernel
theorem dX12_readRests_41 : decode cX12_readRests 41 = .ok (.if_icmp .ge 9, 3) := by decide +kernel
theorem dX12_readRests_44 : decode cX12_readRests 44 = .ok (.aload_n 0, 1) := by decide +kernel
theorem dX12_readRests_45 : decode cX12_readRests 45 = .ok (.bipush 6, 2) := by decide +kernel
theorem dX12_readRests_47 : decode cX12_readRests 47 = .ok (.invokevirtual 208, 3) := by decide +kernel
theorem dX12_readRests_50 : decode cX12_readRests 50 = .ok (.aload_n 0, 1) := by decide +kernel
theorem dX12_readRests_51 : decode cX12_readRests 51 = .ok (.getfield 202, 3) := by decide +kernel
theorem dX12_readRests_54 : decode cX12_readRests 54 = .ok (.ifCond .ne 13, 3) := by decide +kernel
theorem dX12_readRests_57 : decode cX12_readRests 57 = .ok (.aload_n 0, 1) := by decide +kernel
theorem dX12_readRests_58 : decode cX12_readRests 58 = .ok (.getfield 224, 3) := by decide +kernel
theorem dX12_readRests_61 : decode cX12_readRests 61 = .ok (.iload 5, 2) := by decide +kernel
theorem dX12_readRests_63 : decode cX12_readRests 63 = .ok (.ishr, 1) := by decide +kernel
theorem dX12_readRests_64 : decode cX12_readRests 64 = .ok (.goto 4, 3) := by decide +kernel
theorem dX12_readRests_67 : decode cX12_readRests 67 = .ok (.iconst 1, 1) := by decide +kernel
theorem dX12_readRests_68 : decode cX12_readRests 68 = .ok (.istore 6, 2) := by decide +kernel
theorem dX12_readRests_70 : decode cX12_readRests 70 = .ok (.iconst 0, 1) := by decide +kernel
theorem dX12_readRests_71 : decode cX12_readRests 71 = .ok (.istore 7, 2) := by decide +kernel
theorem dX12_readRests_73 : decode cX12_readRests 73 = .ok (.iconst 0, 1) := by decide +kernel
theorem dX12_readRests_74 : decode cX12_readRests 74 = .ok (.istore 8, 2) := by decide +kernel
theorem dX12_readRests_76 : decode cX12_readRests 76 = .ok (.iconst 0, 1) := by decide +kernel
theorem dX12_readRests_77 : decode cX12_readRests 77 = .ok (.istore 9, 2) := by decide +kernel
theorem dX12_readRests_79 : decode cX12_readRests 79 = .ok (.iload 9, 2) := by decide +kernel
theorem dX12_readRests_81 : decode cX12_readRests 81 = .ok (.aload_n 0, 1) := by decide +kernel
theorem dX12_readRests_82 : decode cX12_readRests 82 = .ok (.getfield 224, 3) := by decide +kernel
theorem dX12_readRests_85 : decode cX12_readRests 85 = .ok (.if_icmp .ge 129, 3) := by decide +kernel
theorem dX12_readRests_88 : decode cX12_readRests 88 = .ok (.aload_n 0, 1) := by decide +kernel
theorem dX12_readRests_89 : decode cX12_readRests 89 = .ok (.getfield 202, 3) := by decide +kernel
theorem dX12_readRests_92 : decode cX12_readRests 92 = .ok (.ifCond .ne 122, 3) := by decide +kernel
theorem dX12_readRests_95 : decode cX12_readRests 95 = .ok (.iload 9, 2) := by decide +kernel
theorem dX12_readRests_97 : decode cX12_readRests 97 = .ok (.iload 6, 2) := by decide +kernel
theorem dX12_readRests_99 : decode cX12_readRests 99 = .ok (.irem, 1) := by decide +kernel
theorem dX12_readRests_100 : decode cX12_readRests 100 = .ok (.ifCond .ne 43, 3) := by decide +kernel
theorem dX12_readRests_103 : decode cX12_readRests 103 = .ok (.aload_n 0, 1) := by decide +kernel
theorem dX12_readRests_104 : decode cX12_readRests 104 = .ok (.iconst 4, 1) := by decide +kernel
theorem dX12_readRests_105 : decode cX12_readRests 105 = .ok (.invokevirtual 214, 3) := by decide +kernel
theorem dX12_readRests_108 : decode cX12_readRests 108 = .ok (.l2i, 1) := by decide +kernel
theorem dX12_readRests_109 : decode cX12_readRests 109 = .ok (.istore 7, 2) := by decide +kernel
theorem dX12_readRests_111 : decode cX12_readRests 111 = .ok (.iload 7, 2) := by decide +kernel
theorem dX12_readRests_113 : decode cX12_readRests 113 = .ok (.bipush 15, 2) := by decide +kernel
theorem dX12_readRests_115 : decode cX12_readRests 115 = .ok (.if_icmp .ne 12, 3) := by decide +kernel
theorem dX12_readRests_118 : decode cX12_readRests 118 = .ok (.aload_n 0, 1) := by decide +kernel
theorem dX12_readRests_119 : decode cX12_readRests 119 = .ok (.iconst 5, 1) := by decide +kernel
theorem dX12_readRests_120 : decode cX12_readRests 120 = .ok (.invokevirtual 214, 3) := by decide +kernel
theorem dX12_readRests_123 : decode cX12_readRests 123 = .ok (.l2i, 1) := by decide +kernel
theorem dX12_readRests_124 : decode cX12_readRests 124 = .ok (.goto 4, 3) := by decide +kernel
theorem dX12_readRests_127 : decode cX12_readRests 127 = .ok (.iconst 0, 1) := by decide +kernel
theorem dX12_readRests_128 : decode cX12_readRests 128 = .ok (.istore 8, 2) := by decide +kernel
theorem dX12_readRests_130 : decode cX12_readRests 130 = .ok (.iload 8, 2) := by decide +kernel
theorem dX12_readRests_132 : decode cX12_readRests 132 = .ok (.bipush 24, 2) := by decide +kernel
theorem dX12_readRests_134 : decode cX12_readRests 134 = .ok (.if_icmp .le 9, 3) := by decide +kernel
theorem dX12_readRests_137 : decode cX12_readRests 137 = .ok (.aload_n 0, 1) := by decide +kernel
theorem dX12_readRests_138 : decode cX12_readRests 138 = .ok (.bipush 7, 2) := by decide +kernel
theorem dX12_readRests_140 : decode cX12_readRests 140 = .ok (.invokevirtual 208, 3) := by decide +kernel
theorem dX12_readRests_143 : decode cX12_readRests 143 = .ok (.iload 9, 2) := by decide +kernel
theorem dX12_readRests_145 : decode cX12_readRests 145 = .ok (.iload_n 3, 1) := by decide +kernel
theorem dX12_readRests_146 : decode cX12_readRests 146 = .ok (.if_icmp .lt 62, 3) := by decide +kernel
theorem dX12_readRests_149 : decode cX12_readRests 149 = .ok (.aload_n 0, 1) := by decide +kernel
theorem dX12_readRests_150 : decode cX12_readRests 150 = .ok (.iload_n 1, 1) := by decide +kernel
theorem dX12_readRests_151 : decode cX12_readRests 151 = .ok (.iload_n 2, 1) := by decide +kernel
theorem dX12_readRests_152 : decode cX12_readRests 152 = .ok (.iload_n 3, 1) := by decide +kernel
theorem dX12_readRests_153 : decode cX12_readRests 153 = .ok (.iload 9, 2) := by decide +kernel
theorem dX12_readRests_155 : decode cX12_readRests 155 = .ok (.invokevirtual 234, 3) := by decide +kernel
theorem dX12_readRests_158 : decode cX12_readRests 158 = .ok (.aload_n 0, 1) := by decide +kernel
theorem dX12_readRests_159 : decode cX12_readRests 159 = .ok (.iload 7, 2) := by decide +kernel
theorem dX12_readRests_161 : decode cX12_readRests 161 = .ok (.iload 8, 2) := by decide +kernel
theorem dX12_readRests_163 : decode cX12_readRests 163 = .ok (.invokevirtual 238, 3) := by decide +kernel
theorem dX12_readRests_166 : decode cX12_readRests 166 = .ok (.ladd, 1) := by decide +kernel
theorem dX12_readRests_167 : decode cX12_readRests 167 = .ok (.lstore 10, 2) := by decide +kernel
theorem dX12_readRests_169 : decode cX12_readRests 169 = .ok (.aload_n 0, 1) := by decide +kernel
theorem dX12_readRests_170 : decode cX12_readRests 170 = .ok (.getfield 202, 3) := by decide +kernel
theorem dX12_readRests_173 : decode cX12_readRests 173 = .ok (.ifCond .ne 19, 3) := by decide +kernel
theorem dX12_readRests_176 : decode cX12_readRests 176 = .ok (.lload 10, 2) := by decide +kernel
theorem dX12_readRests_178 : decode cX12_readRests 178 = .ok (.iload 4, 2) := by decide +kernel
theorem dX12_readRests_180 : decode cX12_readRests 180 = .ok (.invokestatic 78, 3) := by decide +kernel
theorem dX12_readRests_183 : decode cX12_readRests 183 = .ok (.ifCond .ne 9, 3) := by decide +kernel
theorem dX12_readRests_186 : decode cX12_readRests 186 = .ok (.aload_n 0, 1) := by decide +kernel
theorem dX12_readRests_187 : decode cX12_readRests 187 = .ok (.bipush 8, 2) := by decide +kernel
theorem dX12_readRests_189 : decode cX12_readRests 189 = .ok (.invokevirtual 208, 3) := by decide +kernel
theorem dX12_readRests_192 : decode cX12_readRests 192 = .ok (.aload_n 0, 1) := by decide +kernel
theorem dX12_readRests_193 : decode cX12_readRests 193 = .ok (.getfield 63, 3) := by decide +kernel
theorem dX12_readRests_196 : decode cX12_readRests 196 = .ok (.sipush 400, 3) := by decide +kernel
theorem dX12_readRests_199 : decode cX12_readRests 199 = .ok (.iload_n 1, 1) := by decide +kernel
theorem dX12_readRests_200 : decode cX12_readRests 200 = .ok (.imul, 1) := by decide +kernel
theorem dX12_readRests_201 : decode cX12_readRests 201 = .ok (.iload 9, 2) := by decide +kernel
theorem dX12_readRests_203 : decode cX12_readRests 203 = .ok (.iadd, 1) := by decide +kernel
theorem dX12_readRests_204 : decode cX12_readRests 204 = .ok (.lload 10, 2) := by decide +kernel
theorem dX12_readRests_206 : decode cX12_readRests 206 = .ok (.l2i, 1) := by decide +kernel
theorem dX12_readRests_207 : decode cX12_readRests 207 = .ok (.iastore, 1) := by decide +kernel
theorem dX12_readRests_208 : decode cX12_readRests 208 = .ok (.iinc 9 1, 3) := by decide +kernel
theorem dX12_readRests_211 : decode cX12_readRests 211 = .ok (.goto (-132), 3) := by decide +kernel
theorem dX12_readRests_214 : decode cX12_readRests 214 = .ok (.return_, 1) := by decide +kernel
theorem dX12_readRest_0 : decode cX12_readRest 0 = .ok (.iload_n 1, 1) := by decide +kernel
theorem dX12_readRest_1 : decode cX12_readRest 1 = .ok (.bipush 15, 2) := by decide +kernel
theorem dX12_readRest_3 : decode cX12_readRest 3 = .ok (.if_icmp .ne 9, 3) := by decide +kernel
theorem dX12_readRest_6 : decode cX12_readRest 6 = .ok (.aload_n 0, 1) := by decide +kernel
theorem dX12_readRest_7 : decode cX12_readRest 7 = .ok (.iload_n 2, 1) := by decide +kernel
theorem dX12_readRest_8 : decode cX12_readRest 8 = .ok (.invokevirtual 227, 3) := by decide +kernel
theorem dX12_readRest_11 : decode cX12_readRest 11 = .ok (.lreturn, 1) := by decide +kernel
theorem dX12_readRest_12 : decode cX12_readRest 12 = .ok (.lconst 0, 1) := by decide +kernel
theorem dX12_readRest_13 : decode cX12_readRest 13 = .ok (.lstore_n 3, 1) := by decide +kernel
theorem dX12_readRest_14 : decode cX12_readRest 14 = .ok (.aload_n 0, 1) := by decide +kernel
theorem dX12_readRest_15 : decode cX12_readRest 15 = .ok (.invokevirtual 211, 3) := by decide +kernel
theorem dX12_readRest_18 : decode cX12_readRest 18 = .ok (.iconst 1, 1) := by decide +kernel
theorem dX12_readRest_19 : decode cX12_readRest 19 = .ok (.if_icmp .ne 33, 3) := by decide +kernel
theorem dX12_readRest_22 : decode cX12_readRest 22 = .ok (.aload_n 0, 1) := by decide +kernel
theorem dX12_readRest_23 : decode cX12_readRest 23 = .ok (.getfield 202, 3) := by decide +kernel
theorem dX12_readRest_26 : decode cX12_readRest 26 = .ok (.ifCond .ne 26, 3) := by decide +kernel
theorem dX12_readRest_29 : decode cX12_readRest 29 = .ok (.lload_n 3, 1) := by decide +kernel
theorem dX12_readRest_30 : decode cX12_readRest 30 = .ok (.lconst 1, 1) := by decide +kernel
theorem dX12_readRest_31 : decode cX12_readRest 31 = .ok (.ladd, 1) := by decide +kernel
theorem dX12_readRest_32 : decode cX12_readRest 32 = .ok (.lstore_n 3, 1) := by decide +kernel
theorem dX12_readRest_33 : decode cX12_readRest 33 = .ok (.lload_n 3, 1) := by decide +kernel
theorem dX12_readRest_34 : decode cX12_readRest 34 = .ok (.iload_n 1, 1) := by decide +kernel
theorem dX12_readRest_35 : decode cX12_readRest 35 = .ok (.lshl, 1) := by decide +kernel
theorem dX12_readRest_36 : decode cX12_readRest 36 = .ok (.ldc2_w 150, 3) := by decide +kernel
theorem dX12_readRest_39 : decode cX12_readRest 39 = .ok (.lcmp, 1) := by decide +kernel
theorem dX12_readRest_40 : decode cX12_readRest 40 = .ok (.ifCond .lt (-26), 3) := by decide +kernel
theorem dX12_readRest_43 : decode cX12_readRest 43 = .ok (.aload_n 0, 1) := by decide +kernel
theorem dX12_readRest_44 : decode cX12_readRest 44 = .ok (.bipush 8, 2) := by decide +kernel
theorem dX12_readRest_46 : decode cX12_readRest 46 = .ok (.invokevirtual 208, 3) := by decide +kernel
theorem dX12_readRest_49 : decode cX12_readRest 49 = .ok (.goto (-35), 3) := by decide +kernel
theorem dX12_readRest_52 : decode cX12_readRest 52 = .ok (.lload_n 3, 1) := by decide +kernel
theorem dX12_readRest_53 : decode cX12_readRest 53 = .ok (.iload_n 1, 1) := by decide +kernel
theorem dX12_readRest_54 : decode cX12_readRest 54 = .ok (.lshl, 1) := by decide +kernel
theorem dX12_readRest_55 : decode cX12_readRest 55 = .ok (.aload_n 0, 1) := by decide +kernel
theorem dX12_readRest_56 : decode cX12_readRest 56 = .ok (.iload_n 1, 1) := by decide +kernel
theorem dX12_readRest_57 : decode cX12_readRest 57 = .ok (.invokevirtual 214, 3) := by decide +kernel
theorem dX12_readRest_60 : decode cX12_readRest 60 = .ok (.lor, 1) := by decide +kernel
theorem dX12_readRest_61 : decode cX12_readRest 61 = .ok (.lstore 5, 2) := by decide +kernel
theorem dX12_readRest_63 : decode cX12_readRest 63 = .ok (.lload 5, 2) := by decide +kernel
theorem dX12_readRest_65 : decode cX12_readRest 65 = .ok (.lconst 1, 1) := by decide +kernel
theorem dX12_readRest_66 : decode cX12_readRest 66 = .ok (.land, 1) := by decide +kernel
theorem dX12_readRest_67 : decode cX12_readRest 67 = .ok (.lconst 0, 1) := by decide +kernel
theorem dX12_readRest_68 : decode cX12_readRest 68 = .ok (.lcmp, 1) := by decide +kernel
theorem dX12_readRest_69 : decode cX12_readRest 69 = .ok (.ifCond .ne 10, 3) := by decide +kernel
theorem dX12_readRest_72 : decode cX12_readRest 72 = .ok (.lload 5, 2) := by decide +kernel
theorem dX12_readRest_74 : decode cX12_readRest 74 = .ok (.iconst 1, 1) := by decide +kernel
theorem dX12_readRest_75 : decode cX12_readRest 75 = .ok (.lshr, 1) := by decide +kernel
theorem dX12_readRest_76 : decode cX12_readRest 76 = .ok (.goto 10, 3) := by decide +kernel
theorem dX12_readRest_79 : decode cX12_readRest 79 = .ok (.lload 5, 2) := by decide +kernel
theorem dX12_readRest_81 : decode cX12_readRest 81 = .ok (.lconst 1, 1) := by decide +kernel
theorem dX12_readRest_82 : decode cX12_readRest 82 = .ok (.ladd, 1) := by decide +kernel
theorem dX12_readRest_83 : decode cX12_readRest 83 = .ok (.iconst 1, 1) := by decide +kernel
theorem dX12_readRest_84 : decode cX12_readRest 84 = .ok (.lshr, 1) := by decide +kernel
theorem dX12_readRest_85 : decode cX12_readRest 85 = .ok (.lneg, 1) := by decide +kernel
theorem dX12_readRest_86 : decode cX12_readRest 86 = .ok (.lreturn, 1) := by decide +kernel
theorem dX12_openAt_0 : decode cX12_openAt 0 = .ok (.aload_n 0, 1) := by decide +kernel
theorem dX12_openAt_1 : decode cX12_openAt 1 = .ok (.bipush 8, 2) := by decide +kernel
theorem dX12_openAt_3 : decode cX12_openAt 3 = .ok (.iload_n 1, 1) := by decide +kernel
theorem dX12_openAt_4 : decode cX12_openAt 4 = .ok (.imul, 1) := by decide +kernel
theorem dX12_openAt_5 : decode cX12_openAt 5 = .ok (.putfield 205, 3) := by decide +kernel
theorem dX12_openAt_8 : decode cX12_openAt 8 = .ok (.aload_n 0, 1) := by decide +kernel
theorem dX12_openAt_9 : decode cX12_openAt 9 = .ok (.iconst 0, 1) := by decide +kernel
theorem dX12_openAt_10 : decode cX12_openAt 10 = .ok (.putfield 202, 3) := by decide +kernel
theorem dX12_openAt_13 : decode cX12_openAt 13 = .ok (.aload_n 0, 1) := by decide +kernel
theorem dX12_openAt_14 : decode cX12_openAt 14 = .ok (.aload_n 0, 1) := by decide +kernel
theorem dX12_openAt_15 : decode cX12_openAt 15 = .ok (.bipush 9, 2) := by decide +kernel
theorem dX12_openAt_17 : decode cX12_openAt 17 = .ok (.invokevirtual 214, 3) := by decide +kernel
theorem dX12_openAt_20 : decode cX12_openAt 20 = .ok (.l2i, 1) := by decide +kernel
theorem dX12_openAt_21 : decode cX12_openAt 21 = .ok (.iconst 1, 1) := by decide +kernel
theorem dX12_openAt_22 : decode cX12_openAt 22 = .ok (.iadd, 1) := by decide +kernel
theorem dX12_openAt_23 : decode cX12_openAt 23 = .ok (.putfield 224, 3) := by decide +kernel
theorem dX12_openAt_26 : decode cX12_openAt 26 = .ok (.aload_n 0, 1) := by decide +kernel
theorem dX12_openAt_27 : decode cX12_openAt 27 = .ok (.getfield 224, 3) := by decide +kernel
theorem dX12_openAt_30 : decode cX12_openAt 30 = .ok (.sipush 400, 3) := by decide +kernel
theorem dX12_openAt_33 : decode cX12_openAt 33 = .ok (.if_icmp .le 8, 3) := by decide +kernel
theorem dX12_openAt_36 : decode cX12_openAt 36 = .ok (.aload_n 0, 1) := by decide +kernel
theorem dX12_openAt_37 : decode cX12_openAt 37 = .ok (.iconst 2, 1) := by decide +kernel
theorem dX12_openAt_38 : decode cX12_openAt 38 = .ok (.invokevirtual 208, 3) := by decide +kernel
theorem dX12_openAt_41 : decode cX12_openAt 41 = .ok (.aload_n 0, 1) := by decide +kernel
theorem dX12_openAt_42 : decode cX12_openAt 42 = .ok (.aload_n 0, 1) := by decide +kernel
theorem dX12_openAt_43 : decode cX12_openAt 43 = .ok (.invokevirtual 211, 3) := by decide +kernel
theorem dX12_openAt_46 : decode cX12_openAt 46 = .ok (.iconst 1, 1) := by decide +kernel
theorem dX12_openAt_47 : decode cX12_openAt 47 = .ok (.iadd, 1) := by decide +kernel
theorem dX12_openAt_48 : decode cX12_openAt 48 = .ok (.putfield 241, 3) := by decide +kernel
theorem dX12_openAt_51 : decode cX12_openAt 51 = .ok (.aload_n 0, 1) := by decide +kernel
theorem dX12_openAt_52 : decode cX12_openAt 52 = .ok (.aload_n 0, 1) := by decide +kernel
theorem dX12_openAt_53 : decode cX12_openAt 53 = .ok (.iconst 2, 1) := by decide +kernel
theorem dX12_openAt_54 : decode cX12_openAt 54 = .ok (.invokevirtual 214, 3) := by decide +kernel
theorem dX12_openAt_57 : decode cX12_openAt 57 = .ok (.l2i, 1) := by decide +kernel
theorem dX12_openAt_58 : decode cX12_openAt 58 = .ok (.putfield 244, 3) := by decide +kernel
theorem dX12_openAt_61 : decode cX12_openAt 61 = .ok (.aload_n 0, 1) := by decide +kernel
theorem dX12_openAt_62 : decode cX12_openAt 62 = .ok (.getfield 241, 3) := by decide +kernel
theorem dX12_openAt_65 : decode cX12_openAt 65 = .ok (.iconst 1, 1) := by decide +kernel
theorem dX12_openAt_66 : decode cX12_openAt 66 = .ok (.if_icmp .ne 15, 3) := by decide +kernel
theorem dX12_openAt_69 : decode cX12_openAt 69 = .ok (.aload_n 0, 1) := by decide +kernel
theorem dX12_openAt_70 : decode cX12_openAt 70 = .ok (.getfield 244, 3) := by decide +kernel
theorem dX12_openAt_73 : decode cX12_openAt 73 = .ok (.ifCond .eq 8, 3) := by decide +kernel
theorem dX12_openAt_76 : decode cX12_openAt 76 = .ok (.aload_n 0, 1) := by decide +kernel
theorem dX12_openAt_77 : decode cX12_openAt 77 = .ok (.iconst 3, 1) := by decide +kernel
theorem dX12_openAt_78 : decode cX12_openAt 78 = .ok (.invokevirtual 208, 3) := by decide +kernel
theorem dX12_openAt_81 : decode cX12_openAt 81 = .ok (.aload_n 0, 1) := by decide +kernel
theorem dX12_openAt_82 : decode cX12_openAt 82 = .ok (.aload_n 0, 1) := by decide +kernel
theorem dX12_openAt_83 : decode cX12_openAt 83 = .ok (.iconst 4, 1) := by decide +kernel
theorem dX12_openAt_84 : decode cX12_openAt 84 = .ok (.invokevirtual 214, 3) := by decide +kernel
theorem dX12_openAt_87 : decode cX12_openAt 87 = .ok (.l2i, 1) := by decide +kernel
theorem dX12_openAt_88 : decode cX12_openAt 88 = .ok (.iconst 1, 1) := by decide +kernel
theorem dX12_openAt_89 : decode cX12_openAt 89 = .ok (.iadd, 1) := by decide +kernel
theorem dX12_openAt_90 : decode cX12_openAt 90 = .ok (.putfield 247, 3) := by decide +kernel
theorem dX12_openAt_93 : decode cX12_openAt 93 = .ok (.iconst 0, 1) := by decide +kernel
theorem dX12_openAt_94 : decode cX12_openAt 94 = .ok (.istore_n 2, 1) := by decide +kernel
theorem dX12_openAt_95 : decode cX12_openAt 95 = .ok (.iload_n 2, 1) := by decide +kernel
theorem dX12_openAt_96 : decode cX12_openAt 96 = .ok (.aload_n 0, 1) := by decide +kernel
theorem dX12_openAt_97 : decode cX12_openAt 97 = .ok (.getfield 241, 3) := by decide +kernel
theorem dX12_openAt_100 : decode cX12_openAt 100 = .ok (.if_icmp .ge 76, 3) := by decide +kernel
theorem dX12_openAt_103 : decode cX12_openAt 103 = .ok (.aload_n 0, 1) := by decide +kernel
theorem dX12_openAt_104 : decode cX12_openAt 104 = .ok (.getfield 202, 3) := by decide +kernel
theorem dX12_openAt_107 : decode cX12_openAt 107 = .ok (.ifCond .ne 69, 3) := by decide +kernel
theorem dX12_openAt_110 : decode cX12_openAt 110 = .ok (.aload_n 0, 1) := by decide +kernel
theorem dX12_openAt_111 : decode cX12_openAt 111 = .ok (.getfield 244, 3) := by decide +kernel
theorem dX12_openAt_114 : decode cX12_openAt 114 = .ok (.iconst 2, 1) := by decide +kernel
theorem dX12_openAt_115 : decode cX12_openAt 115 = .ok (.if_icmp .ne 15, 3) := by decide +kernel
theorem dX12_openAt_118 : decode cX12_openAt 118 = .ok (.iload_n 2, 1) := by decide +kernel
theorem dX12_openAt_119 : decode cX12_openAt 119 = .ok (.ifCond .ne 7, 3) := by decide +kernel
theorem dX12_openAt_122 : decode cX12_openAt 122 = .ok (.iconst 1, 1) := by decide +kernel
theorem dX12_openAt_123 : decode cX12_openAt 123 = .ok (.goto 24, 3) := by decide +kernel
theorem dX12_openAt_126 : decode cX12_openAt 126 = .ok (.iconst 0, 1) := by decide +kernel
theorem dX12_openAt_127 : decode cX12_openAt 127 = .ok (.goto 20, 3) := by decide +kernel
theorem dX12_openAt_130 : decode cX12_openAt 130 = .ok (.aload_n 0, 1) := by decide +kernel
theorem dX12_openAt_131 : decode cX12_openAt 131 = .ok (.getfield 244, 3) := by decide +kernel
theorem dX12_openAt_134 : decode cX12_openAt 134 = .ok (.ifCond .le 12, 3) := by decide +kernel
theorem dX12_openAt_137 : decode cX12_openAt 137 = .ok (.iload_n 2, 1) := by decide +kernel
theorem dX12_openAt_138 : decode cX12_openAt 138 = .ok (.iconst 1, 1) := by decide +kernel
theorem dX12_openAt_139 : decode cX12_openAt 139 = .ok (.if_icmp .ne 7, 3) := by decide +kernel
theorem dX12_openAt_142 : decode cX12_openAt 142 = .ok (.iconst 1, 1) := by decide +kernel
theorem dX12_openAt_143 : decode cX12_openAt 143 = .ok (.goto 4, 3) := by decide +kernel
theorem dX12_openAt_146 : decode cX12_openAt 146 = .ok (.iconst 0, 1) := by decide +kernel
theorem dX12_openAt_147 : decode cX12_openAt 147 = .ok (.istore_n 3, 1) := by decide +kernel
theorem dX12_openAt_148 : decode cX12_openAt 148 = .ok (.aload_n 0, 1) := by decide +kernel
theorem dX12_openAt_149 : decode cX12_openAt 149 = .ok (.iload_n 2, 1) := by decide +kernel
theorem dX12_openAt_150 : decode cX12_openAt 150 = .ok (.iload_n 3, 1) := by decide +kernel
theorem dX12_openAt_151 : decode cX12_openAt 151 = .ok (.ifCond .eq 12, 3) := by decide +kernel
theorem dX12_openAt_154 : decode cX12_openAt 154 = .ok (.aload_n 0, 1) := by decide +kernel
theorem dX12_openAt_155 : decode cX12_openAt 155 = .ok (.getfield 247, 3) := by decide +kernel
theorem dX12_openAt_158 : decode cX12_openAt 158 = .ok (.iconst 1, 1) := by decide +kernel
theorem dX12_openAt_159 : decode cX12_openAt 159 = .ok (.iadd, 1) := by decide +kernel
theorem dX12_openAt_160 : decode cX12_openAt 160 = .ok (.goto 7, 3) := by decide +kernel
theorem dX12_openAt_163 : decode cX12_openAt 163 = .ok (.aload_n 0, 1) := by decide +kernel
theorem dX12_openAt_164 : decode cX12_openAt 164 = .ok (.getfield 247, 3) := by decide +kernel
theorem dX12_openAt_167 : decode cX12_openAt 167 = .ok (.invokevirtual 250, 3) := by decide +kernel
theorem dX12_openAt_170 : decode cX12_openAt 170 = .ok (.iinc 2 1, 3) := by decide +kernel
theorem dX12_openAt_173 : decode cX12_openAt 173 = .ok (.goto (-78), 3) := by decide +kernel
theorem dX12_openAt_176 : decode cX12_openAt 176 = .ok (.aload_n 0, 1) := by decide +kernel
theorem dX12_openAt_177 : decode cX12_openAt 177 = .ok (.getfield 202, 3) := by decide +kernel
theorem dX12_openAt_180 : decode cX12_openAt 180 = .ok (.ifCond .ne 30, 3) := by decide +kernel
theorem dX12_openAt_183 : decode cX12_openAt 183 = .ok (.aload_n 0, 1) := by decide +kernel
theorem dX12_openAt_184 : decode cX12_openAt 184 = .ok (.getfield 205, 3) := by decide +kernel
theorem dX12_openAt_187 : decode cX12_openAt 187 = .ok (.bipush 8, 2) := by decide +kernel
theorem dX12_openAt_189 : decode cX12_openAt 189 = .ok (.irem, 1) := by decide +kernel
theorem dX12_openAt_190 : decode cX12_openAt 190 = .ok (.ifCond .le 20, 3) := by decide +kernel
theorem dX12_openAt_193 : decode cX12_openAt 193 = .ok (.aload_n 0, 1) := by decide +kernel
theorem dX12_openAt_194 : decode cX12_openAt 194 = .ok (.invokevirtual 211, 3) := by decide +kernel
theorem dX12_openAt_197 : decode cX12_openAt 197 = .ok (.iconst 1, 1) := by decide +kernel
theorem dX12_openAt_198 : decode cX12_openAt 198 = .ok (.if_icmp .ne (-22), 3) := by decide +kernel
theorem dX12_openAt_201 : decode cX12_openAt 201 = .ok (.aload_n 0, 1) := by decide +kernel
theorem dX12_openAt_202 : decode cX12_openAt 202 = .ok (.bipush 9, 2) := by decide +kernel
theorem dX12_openAt_204 : decode cX12_openAt 204 = .ok (.invokevirtual 208, 3) := by decide +kernel
theorem dX12_openAt_207 : decode cX12_openAt 207 = .ok (.goto (-31), 3) := by decide +kernel
theorem dX12_openAt_210 : decode cX12_openAt 210 = .ok (.aload_n 0, 1) := by decide +kernel
theorem dX12_openAt_211 : decode cX12_openAt 211 = .ok (.getfield 205, 3) := by decide +kernel
theorem dX12_openAt_214 : decode cX12_openAt 214 = .ok (.bipush 8, 2) := by decide +kernel
theorem dX12_openAt_216 : decode cX12_openAt 216 = .ok (.idiv, 1) := by decide +kernel
theorem dX12_openAt_217 : decode cX12_openAt 217 = .ok (.istore_n 2, 1) := by decide +kernel
theorem dX12_openAt_218 : decode cX12_openAt 218 = .ok (.aload_n 0, 1) := by decide +kernel
theorem dX12_openAt_219 : decode cX12_openAt 219 = .ok (.bipush 8, 2) := by decide +kernel
theorem dX12_openAt_221 : decode cX12_openAt 221 = .ok (.invokevirtual 214, 3) := by decide +kernel
theorem dX12_openAt_224 : decode cX12_openAt 224 = .ok (.l2i, 1) := by decide +kernel
theorem dX12_openAt_225 : decode cX12_openAt 225 = .ok (.istore_n 3, 1) := by decide +kernel
theorem dX12_openAt_226 : decode cX12_openAt 226 = .ok (.aload_n 0, 1) := by decide +kernel
theorem dX12_openAt_227 : decode cX12_openAt 227 = .ok (.getfield 202, 3) := by decide +kernel
theorem dX12_openAt_230 : decode cX12_openAt 230 = .ok (.ifCond .ne 23, 3) := by decide +kernel
theorem dX12_openAt_233 : decode cX12_openAt 233 = .ok (.iload_n 3, 1) := by decide +kernel
theorem dX12_openAt_234 : decode cX12_openAt 234 = .ok (.aload_n 0, 1) := by decide +kernel
theorem dX12_openAt_235 : decode cX12_openAt 235 = .ok (.aload_n 0, 1) := by decide +kernel
theorem dX12_openAt_236 : decode cX12_openAt 236 = .ok (.getfield 23, 3) := by decide +kernel
theorem dX12_openAt_239 : decode cX12_openAt 239 = .ok (.iload_n 1, 1) := by decide +kernel
theorem dX12_openAt_240 : decode cX12_openAt 240 = .ok (.iload_n 2, 1) := by decide +kernel
theorem dX12_openAt_241 : decode cX12_openAt 241 = .ok (.invokevirtual 188, 3) := by decide +kernel
theorem dX12_openAt_244 : decode cX12_openAt 244 = .ok (.if_icmp .eq 9, 3) := by decide +kernel
theorem dX12_openAt_247 : decode cX12_openAt 247 = .ok (.aload_n 0, 1) := by decide +kernel
theorem dX12_openAt_248 : decode cX12_openAt 248 = .ok (.bipush 10, 2) := by decide +kernel
theorem dX12_openAt_250 : decode cX12_openAt 250 = .ok (.invokevirtual 208, 3) := by decide +kernel
theorem dX12_openAt_253 : decode cX12_openAt 253 = .ok (.aload_n 0, 1) := by decide +kernel
theorem dX12_openAt_254 : decode cX12_openAt 254 = .ok (.getfield 202, 3) := by decide +kernel
theorem dX12_openAt_257 : decode cX12_openAt 257 = .ok (.ifCond .ne 14, 3) := by decide +kernel
theorem dX12_openAt_260 : decode cX12_openAt 260 = .ok (.aload_n 0, 1) := by decide +kernel
theorem dX12_openAt_261 : decode cX12_openAt 261 = .ok (.getfield 244, 3) := by decide +kernel
theorem dX12_openAt_264 : decode cX12_openAt 264 = .ok (.ifCond .le 7, 3) := by decide +kernel
theorem dX12_openAt_267 : decode cX12_openAt 267 = .ok (.aload_n 0, 1) := by decide +kernel
theorem dX12_openAt_268 : decode cX12_openAt 268 = .ok (.invokevirtual 253, 3) := by decide +kernel
theorem dX12_openAt_271 : decode cX12_openAt 271 = .ok (.aload_n 0, 1) := by decide +kernel
theorem dX12_openAt_272 : decode cX12_openAt 272 = .ok (.getfield 202, 3) := by decide +kernel
theorem dX12_openAt_275 : decode cX12_openAt 275 = .ok (.ireturn, 1) := by decide +kernel
theorem dX12_untwist_0 : decode cX12_untwist 0 = .ok (.iconst 0, 1) := by decide +kernel
theorem dX12_untwist_1 : decode cX12_untwist 1 = .ok (.istore_n 1, 1) := by decide +kernel
theorem dX12_untwist_2 : decode cX12_untwist 2 = .ok (.iload_n 1, 1) := by decide +kernel
theorem dX12_untwist_3 : decode cX12_untwist 3 = .ok (.aload_n 0, 1) := by decide +kernel
theorem dX12_untwist_4 : decode cX12_untwist 4 = .ok (.getfield 224, 3) := by decide +kernel
theorem dX12_untwist_7 : decode cX12_untwist 7 = .ok (.if_icmp .ge 157, 3) := by decide +kernel
theorem dX12_untwist_10 : decode cX12_untwist 10 = .ok (.aload_n 0, 1) := by decide +kernel
theorem dX12_untwist_11 : decode cX12_untwist 11 = .ok (.getfield 63, 3) := by decide +kernel
theorem dX12_untwist_14 : decode cX12_untwist 14 = .ok (.iload_n 1, 1) := by decide +kernel
theorem dX12_untwist_15 : decode cX12_untwist 15 = .ok (.iaload, 1) := by decide +kernel
theorem dX12_untwist_16 : decode cX12_untwist 16 = .ok (.istore_n 2, 1) := by decide +kernel
theorem dX12_untwist_17 : decode cX12_untwist 17 = .ok (.aload_n 0, 1) := by decide +kernel
theorem dX12_untwist_18 : decode cX12_untwist 18 = .ok (.getfield 63, 3) := by decide +kernel
theorem dX12_untwist_21 : decode cX12_untwist 21 = .ok (.sipush 400, 3) := by decide +kernel
theorem dX12_untwist_24 : decode cX12_untwist 24 = .ok (.iload_n 1, 1) := by decide +kernel
theorem dX12_untwist_25 : decode cX12_untwist 25 = .ok (.iadd, 1) := by decide +kernel
theorem dX12_untwist_26 : decode cX12_untwist 26 = .ok (.iaload, 1) := by decide +kernel
theorem dX12_untwist_27 : decode cX12_untwist 27 = .ok (.istore_n 3, 1) := by decide +kernel
theorem dX12_untwist_28 : decode cX12_untwist 28 = .ok (.aload_n 0, 1) := by decide +kernel
theorem dX12_untwist_29 : decode cX12_untwist 29 = .ok (.getfield 244, 3) := by decide +kernel
theorem dX12_untwist_32 : decode cX12_untwist 32 = .ok (.iconst 1, 1) := by decide +kernel
theorem dX12_untwist_33 : decode cX12_untwist 33 = .ok (.if_icmp .ne 7, 3) := by decide +kernel
theorem dX12_untwist_36 : decode cX12_untwist 36 = .ok (.iload_n 2, 1) := by decide +kernel
theorem dX12_untwist_37 : decode cX12_untwist 37 = .ok (.goto 28, 3) := by decide +kernel
theorem dX12_untwist_40 : decode cX12_untwist 40 = .ok (.aload_n 0, 1) := by decide +kernel
theorem dX12_untwist_41 : decode cX12_untwist 41 = .ok (.getfield 244, 3) := by decide +kernel
theorem dX12_untwist_44 : decode cX12_untwist 44 = .ok (.iconst 2, 1) := by decide +kernel
theorem dX12_untwist_45 : decode cX12_untwist 45 = .ok (.if_icmp .ne 9, 3) := by decide +kernel
theorem dX12_untwist_48 : decode cX12_untwist 48 = .ok (.iload_n 2, 1) := by decide +kernel
theorem dX12_untwist_49 : decode cX12_untwist 49 = .ok (.iload_n 3, 1) := by decide +kernel
theorem dX12_untwist_50 : decode cX12_untwist 50 = .ok (.iadd, 1) := by decide +kernel
theorem dX12_untwist_51 : decode cX12_untwist 51 = .ok (.goto 14, 3) := by decide +kernel
theorem dX12_untwist_54 : decode cX12_untwist 54 = .ok (.iconst 2, 1) := by decide +kernel
theorem dX12_untwist_55 : decode cX12_untwist 55 = .ok (.iload_n 2, 1) := by decide +kernel
theorem dX12_untwist_56 : decode cX12_untwist 56 = .ok (.imul, 1) := by decide +kernel
theorem dX12_untwist_57 : decode cX12_untwist 57 = .ok (.iload_n 3, 1) := by decide +kernel
theorem dX12_untwist_58 : decode cX12_untwist 58 = .ok (.iconst 1, 1) := by decide +kernel
theorem dX12_untwist_59 : decode cX12_untwist 59 = .ok (.iand, 1) := by decide +kernel
theorem dX12_untwist_60 : decode cX12_untwist 60 = .ok (.iadd, 1) := by decide +kernel
theorem dX12_untwist_61 : decode cX12_untwist 61 = .ok (.iload_n 3, 1) := by decide +kernel
theorem dX12_untwist_62 : decode cX12_untwist 62 = .ok (.iadd, 1) := by decide +kernel
theorem dX12_untwist_63 : decode cX12_untwist 63 = .ok (.iconst 1, 1) := by decide +kernel
theorem dX12_untwist_64 : decode cX12_untwist 64 = .ok (.ishr, 1) := by decide +kernel
theorem dX12_untwist_65 : decode cX12_untwist 65 = .ok (.istore 4, 2) := by decide +kernel
theorem dX12_untwist_67 : decode cX12_untwist 67 = .ok (.aload_n 0, 1) := by decide +kernel
theorem dX12_untwist_68 : decode cX12_untwist 68 = .ok (.getfield 244, 3) := by decide +kernel
theorem dX12_untwist_71 : decode cX12_untwist 71 = .ok (.iconst 1, 1) := by decide +kernel
theorem dX12_untwist_72 : decode cX12_untwist 72 = .ok (.if_icmp .ne 9, 3) := by decide +kernel
theorem dX12_untwist_75 : decode cX12_untwist 75 = .ok (.iload_n 2, 1) := by decide +kernel
theorem dX12_untwist_76 : decode cX12_untwist 76 = .ok (.iload_n 3, 1) := by decide +kernel
theorem dX12_untwist_77 : decode cX12_untwist 77 = .ok (.isub, 1) := by decide +kernel
theorem dX12_untwist_78 : decode cX12_untwist 78 = .ok (.goto 26, 3) := by decide +kernel
theorem dX12_untwist_81 : decode cX12_untwist 81 = .ok (.aload_n 0, 1) := by decide +kernel
theorem dX12_untwist_82 : decode cX12_untwist 82 = .ok (.getfield 244, 3) := by decide +kernel
theorem dX12_untwist_85 : decode cX12_untwist 85 = .ok (.iconst 2, 1) := by decide +kernel
theorem dX12_untwist_86 : decode cX12_untwist 86 = .ok (.if_icmp .ne 7, 3) := by decide +kernel
theorem dX12_untwist_89 : decode cX12_untwist 89 = .ok (.iload_n 3, 1) := by decide +kernel
theorem dX12_untwist_90 : decode cX12_untwist 90 = .ok (.goto 14, 3) := by decide +kernel
theorem dX12_untwist_93 : decode cX12_untwist 93 = .ok (.iconst 2, 1) := by decide +kernel
theorem dX12_untwist_94 : decode cX12_untwist 94 = .ok (.iload_n 2, 1) := by decide +kernel
theorem dX12_untwist_95 : decode cX12_untwist 95 = .ok (.imul, 1) := by decide +kernel
theorem dX12_untwist_96 : decode cX12_untwist 96 = .ok (.iload_n 3, 1) := by decide +kernel
theorem dX12_untwist_97 : decode cX12_untwist 97 = .ok (.iconst 1, 1) := by decide +kernel
theorem dX12_untwist_98 : decode cX12_untwist 98 = .ok (.iand, 1) := by decide +kernel
theorem dX12_untwist_99 : decode cX12_untwist 99 = .ok (.iadd, 1) := by decide +kernel
theorem dX12_untwist_100 : decode cX12_untwist 100 = .ok (.iload_n 3, 1) := by decide +kernel
theorem dX12_untwist_101 : decode cX12_untwist 101 = .ok (.isub, 1) := by decide +kernel
theorem dX12_untwist_102 : decode cX12_untwist 102 = .ok (.iconst 1, 1) := by decide +kernel
theorem dX12_untwist_103 : decode cX12_untwist 103 = .ok (.ishr, 1) := by decide +kernel
theorem dX12_untwist_104 : decode cX12_untwist 104 = .ok (.istore 5, 2) := by decide +kernel
theorem dX12_untwist_106 : decode cX12_untwist 106 = .ok (.iload 4, 2) := by decide +kernel
theorem dX12_untwist_108 : decode cX12_untwist 108 = .ok (.i2l, 1) := by decide +kernel
theorem dX12_untwist_109 : decode cX12_untwist 109 = .ok (.aload_n 0, 1) := by decide +kernel
theorem dX12_untwist_110 : decode cX12_untwist 110 = .ok (.getfield 247, 3) := by decide +kernel
theorem dX12_untwist_113 : decode cX12_untwist 113 = .ok (.invokestatic 78, 3) := by decide +kernel
theorem dX12_untwist_116 : decode cX12_untwist 116 = .ok (.ifCond .eq 16, 3) := by decide +kernel
theorem dX12_untwist_119 : decode cX12_untwist 119 = .ok (.iload 5, 2) := by decide +kernel
theorem dX12_untwist_121 : decode cX12_untwist 121 = .ok (.i2l, 1) := by decide +kernel
theorem dX12_untwist_122 : decode cX12_untwist 122 = .ok (.aload_n 0, 1) := by decide +kernel
theorem dX12_untwist_123 : decode cX12_untwist 123 = .ok (.getfield 247, 3) := by decide +kernel
theorem dX12_untwist_126 : decode cX12_untwist 126 = .ok (.invokestatic 78, 3) := by decide +kernel
theorem dX12_untwist_129 : decode cX12_untwist 129 = .ok (.ifCond .ne 9, 3) := by decide +kernel
theorem dX12_untwist_132 : decode cX12_untwist 132 = .ok (.aload_n 0, 1) := by decide +kernel
theorem dX12_untwist_133 : decode cX12_untwist 133 = .ok (.bipush 11, 2) := by decide +kernel
theorem dX12_untwist_135 : decode cX12_untwist 135 = .ok (.invokevirtual 208, 3) := by decide +kernel
theorem dX12_untwist_138 : decode cX12_untwist 138 = .ok (.aload_n 0, 1) := by decide +kernel
theorem dX12_untwist_139 : decode cX12_untwist 139 = .ok (.getfield 63, 3) := by decide +kernel
theorem dX12_untwist_142 : decode cX12_untwist 142 = .ok (.iload_n 1, 1) := by decide +kernel
theorem dX12_untwist_143 : decode cX12_untwist 143 = .ok (.iload 4, 2) := by decide +kernel
theorem dX12_untwist_145 : decode cX12_untwist 145 = .ok (.iastore, 1) := by decide +kernel
theorem dX12_untwist_146 : decode cX12_untwist 146 = .ok (.aload_n 0, 1) := by decide +kernel
theorem dX12_untwist_147 : decode cX12_untwist 147 = .ok (.getfield 63, 3) := by decide +kernel
theorem dX12_untwist_150 : decode cX12_untwist 150 = .ok (.sipush 400, 3) := by decide +kernel
theorem dX12_untwist_153 : decode cX12_untwist 153 = .ok (.iload_n 1, 1) := by decide +kernel
theorem dX12_untwist_154 : decode cX12_untwist 154 = .ok (.iadd, 1) := by decide +kernel
theorem dX12_untwist_155 : decode cX12_untwist 155 = .ok (.iload 5, 2) := by decide +kernel
theorem dX12_untwist_157 : decode cX12_untwist 157 = .ok (.iastore, 1) := by decide +kernel
theorem dX12_untwist_158 : decode cX12_untwist 158 = .ok (.iinc 1 1, 3) := by decide +kernel
theorem dX12_untwist_161 : decode cX12_untwist 161 = .ok (.goto (-159), 3) := by decide +kernel
theorem dX12_untwist_164 : decode cX12_untwist 164 = .ok (.return_, 1) := by decide +kernel
theorem dX12_open_0 : decode cX12_open 0 = .ok (.aload_n 0, 1) := by decide +kernel
theorem dX12_open_1 : decode cX12_open 1 = .ok (.iconst 0, 1) := by decide +kernel
theorem dX12_open_2 : decode cX12_open 2 = .ok (.putfield 1, 3) := by decide +kernel
theorem dX12_open_5 : decode cX12_open 5 = .ok (.iload_n 1, 1) := by decide +kernel
theorem dX12_open_6 : decode cX12_open 6 = .ok (.i2l, 1) := by decide +kernel
theorem dX12_open_7 : decode cX12_open 7 = .ok (.lconst 0, 1) := by decide +kernel
theorem dX12_open_8 : decode cX12_open 8 = .ok (.aload_n 0, 1) := by decide +kernel
theorem dX12_open_9 : decode cX12_open 9 = .ok (.getfield 69, 3) := by decide +kernel
theorem dX12_open_12 : decode cX12_open 12 = .ok (.iconst 1, 1) := by decide +kernel
theorem dX12_open_13 : decode cX12_open 13 = .ok (.isub, 1) := by decide +kernel
theorem dX12_open_14 : decode cX12_open 14 = .ok (.i2l, 1) := by decide +kernel
theorem dX12_open_15 : decode cX12_open 15 = .ok (.invokestatic 72, 3) := by decide +kernel
theorem dX12_open_18 : decode cX12_open 18 = .ok (.ifCond .ne 6, 3) := by decide +kernel
theorem dX12_open_21 : decode cX12_open 21 = .ok (.bipush (-2), 2) := by decide +kernel
theorem dX12_open_23 : decode cX12_open 23 = .ok (.ireturn, 1) := by decide +kernel
theorem dX12_open_24 : decode cX12_open 24 = .ok (.aload_n 0, 1) := by decide +kernel
theorem dX12_open_25 : decode cX12_open 25 = .ok (.iload_n 1, 1) := by decide +kernel
theorem dX12_open_26 : decode cX12_open 26 = .ok (.invokevirtual 256, 3) := by decide +kernel
theorem dX12_open_29 : decode cX12_open 29 = .ok (.istore_n 2, 1) := by decide +kernel
theorem dX12_open_30 : decode cX12_open 30 = .ok (.iload_n 2, 1) := by decide +kernel
theorem dX12_open_31 : decode cX12_open 31 = .ok (.ifCond .eq 8, 3) := by decide +kernel
theorem dX12_open_34 : decode cX12_open 34 = .ok (.bipush (-10), 2) := by decide +kernel
theorem dX12_open_36 : decode cX12_open 36 = .ok (.iload_n 2, 1) := by decide +kernel
theorem dX12_open_37 : decode cX12_open 37 = .ok (.isub, 1) := by decide +kernel
theorem dX12_open_38 : decode cX12_open 38 = .ok (.ireturn, 1) := by decide +kernel
theorem dX12_open_39 : decode cX12_open 39 = .ok (.aload_n 0, 1) := by decide +kernel
theorem dX12_open_40 : decode cX12_open 40 = .ok (.iconst 1, 1) := by decide +kernel
theorem dX12_open_41 : decode cX12_open 41 = .ok (.putfield 259, 3) := by decide +kernel
theorem dX12_open_44 : decode cX12_open 44 = .ok (.aload_n 0, 1) := by decide +kernel
theorem dX12_open_45 : decode cX12_open 45 = .ok (.getfield 41, 3) := by decide +kernel
theorem dX12_open_48 : decode cX12_open 48 = .ok (.iconst 0, 1) := by decide +kernel
theorem dX12_open_49 : decode cX12_open 49 = .ok (.aload_n 0, 1) := by decide +kernel
theorem dX12_open_50 : decode cX12_open 50 = .ok (.getfield 224, 3) := by decide +kernel
theorem dX12_open_53 : decode cX12_open 53 = .ok (.iastore, 1) := by decide +kernel
theorem dX12_open_54 : decode cX12_open 54 = .ok (.aload_n 0, 1) := by decide +kernel
theorem dX12_open_55 : decode cX12_open 55 = .ok (.getfield 41, 3) := by decide +kernel
theorem dX12_open_58 : decode cX12_open 58 = .ok (.iconst 1, 1) := by decide +kernel
theorem dX12_open_59 : decode cX12_open 59 = .ok (.aload_n 0, 1) := by decide +kernel
theorem dX12_open_60 : decode cX12_open 60 = .ok (.getfield 241, 3) := by decide +kernel
theorem dX12_open_63 : decode cX12_open 63 = .ok (.iastore, 1) := by decide +kernel
theorem dX12_open_64 : decode cX12_open 64 = .ok (.aload_n 0, 1) := by decide +kernel
theorem dX12_open_65 : decode cX12_open 65 = .ok (.getfield 41, 3) := by decide +kernel
theorem dX12_open_68 : decode cX12_open 68 = .ok (.iconst 2, 1) := by decide +kernel
theorem dX12_open_69 : decode cX12_open 69 = .ok (.aload_n 0, 1) := by decide +kernel
theorem dX12_open_70 : decode cX12_open 70 = .ok (.getfield 244, 3) := by decide +kernel
theorem dX12_open_73 : decode cX12_open 73 = .ok (.iastore, 1) := by decide +kernel
theorem dX12_open_74 : decode cX12_open 74 = .ok (.aload_n 0, 1) := by decide +kernel
theorem dX12_open_75 : decode cX12_open 75 = .ok (.getfield 41, 3) := by decide +kernel
theorem dX12_open_78 : decode cX12_open 78 = .ok (.iconst 3, 1) := by decide +kernel
theorem dX12_open_79 : decode cX12_open 79 = .ok (.aload_n 0, 1) := by decide +kernel
theorem dX12_open_80 : decode cX12_open 80 = .ok (.getfield 247, 3) := by decide +kernel
theorem dX12_open_83 : decode cX12_open 83 = .ok (.iastore, 1) := by decide +kernel
theorem dX12_open_84 : decode cX12_open 84 = .ok (.aload_n 0, 1) := by decide +kernel
theorem dX12_open_85 : decode cX12_open 85 = .ok (.getfield 41, 3) := by decide +kernel
theorem dX12_open_88 : decode cX12_open 88 = .ok (.iconst 4, 1) := by decide +kernel
theorem dX12_open_89 : decode cX12_open 89 = .ok (.aload_n 0, 1) := by decide +kernel
theorem dX12_open_90 : decode cX12_open 90 = .ok (.getfield 205, 3) := by decide +kernel
theorem dX12_open_93 : decode cX12_open 93 = .ok (.bipush 8, 2) := by decide +kernel
theorem dX12_open_95 : decode cX12_open 95 = .ok (.idiv, 1) := by decide +kernel
theorem dX12_open_96 : decode cX12_open 96 = .ok (.iastore, 1) := by decide +kernel
theorem dX12_open_97 : decode cX12_open 97 = .ok (.aload_n 0, 1) := by decide +kernel
theorem dX12_open_98 : decode cX12_open 98 = .ok (.getfield 41, 3) := by decide +kernel
theorem dX12_open_101 : decode cX12_open 101 = .ok (.iconst 5, 1) := by decide +kernel
theorem dX12_open_102 : decode cX12_open 102 = .ok (.aload_n 0, 1) := by decide +kernel
theorem dX12_open_103 : decode cX12_open 103 = .ok (.getfield 60, 3) := by decide +kernel
theorem dX12_open_106 : decode cX12_open 106 = .ok (.iconst 0, 1) := by decide +kernel
theorem dX12_open_107 : decode cX12_open 107 = .ok (.iaload, 1) := by decide +kernel
theorem dX12_open_108 : decode cX12_open 108 = .ok (.iastore, 1) := by decide +kernel
theorem dX12_open_109 : decode cX12_open 109 = .ok (.aload_n 0, 1) := by decide +kernel
theorem dX12_open_110 : decode cX12_open 110 = .ok (.getfield 41, 3) := by decide +kernel
theorem dX12_open_113 : decode cX12_open 113 = .ok (.bipush 6, 2) := by decide +kernel
theorem dX12_open_115 : decode cX12_open 115 = .ok (.aload_n 0, 1) := by decide +kernel
theorem dX12_open_116 : decode cX12_open 116 = .ok (.getfield 241, 3) := by decide +kernel
theorem dX12_open_119 : decode cX12_open 119 = .ok (.iconst 2, 1) := by decide +kernel
theorem dX12_open_120 : decode cX12_open 120 = .ok (.if_icmp .ne 12, 3) := by decide +kernel
theorem dX12_open_123 : decode cX12_open 123 = .ok (.aload_n 0, 1) := by decide +kernel
theorem dX12_open_124 : decode cX12_open 124 = .ok (.getfield 60, 3) := by decide +kernel
theorem dX12_open_127 : decode cX12_open 127 = .ok (.iconst 1, 1) := by decide +kernel
theorem dX12_open_128 : decode cX12_open 128 = .ok (.iaload, 1) := by decide +kernel
theorem dX12_open_129 : decode cX12_open 129 = .ok (.goto 4, 3) := by decide +kernel
theorem dX12_open_132 : decode cX12_open 132 = .ok (.iconst (-1), 1) := by decide +kernel
theorem dX12_open_133 : decode cX12_open 133 = .ok (.iastore, 1) := by decide +kernel
theorem dX12_open_134 : decode cX12_open 134 = .ok (.iconst 0, 1) := by decide +kernel
theorem dX12_open_135 : decode cX12_open 135 = .ok (.istore_n 3, 1) := by decide +kernel
theorem dX12_open_136 : decode cX12_open 136 = .ok (.iload_n 3, 1) := by decide +kernel
theorem dX12_open_137 : decode cX12_open 137 = .ok (.sipush 800, 3) := by decide +kernel
theorem dX12_open_140 : decode cX12_open 140 = .ok (.if_icmp .ge 21, 3) := by decide +kernel
theorem dX12_open_143 : decode cX12_open 143 = .ok (.aload_n 0, 1) := by decide +kernel
theorem dX12_open_144 : decode cX12_open 144 = .ok (.getfield 44, 3) := by decide +kernel
theorem dX12_open_147 : decode cX12_open 147 = .ok (.iload_n 3, 1) := by decide +kernel
theorem dX12_open_148 : decode cX12_open 148 = .ok (.aload_n 0, 1) := by decide +kernel
theorem dX12_open_149 : decode cX12_open 149 = .ok (.getfield 63, 3) := by decide +kernel
theorem dX12_open_152 : decode cX12_open 152 = .ok (.iload_n 3, 1) := by decide +kernel
theorem dX12_open_153 : decode cX12_open 153 = .ok (.iaload, 1) := by decide +kernel
theorem dX12_open_154 : decode cX12_open 154 = .ok (.iastore, 1) := by decide +kernel
theorem dX12_open_155 : decode cX12_open 155 = .ok (.iinc 3 1, 3) := by decide +kernel
theorem dX12_open_158 : decode cX12_open 158 = .ok (.goto (-22), 3) := by decide +kernel
theorem dX12_open_161 : decode cX12_open 161 = .ok (.aload_n 0, 1) := by decide +kernel
theorem dX12_open_162 : decode cX12_open 162 = .ok (.getfield 224, 3) := by decide +kernel
theorem dX12_open_165 : decode cX12_open 165 = .ok (.ireturn, 1) := by decide +kernel
theorem dX12_shown_0 : decode cX12_shown 0 = .ok (.aload_n 0, 1) := by decide +kernel
theorem dX12_shown_1 : decode cX12_shown 1 = .ok (.iconst 0, 1) := by decide +kernel
theorem dX12_shown_2 : decode cX12_shown 2 = .ok (.putfield 1, 3) := by decide +kernel
theorem dX12_shown_5 : decode cX12_shown 5 = .ok (.iload_n 1, 1) := by decide +kernel
theorem dX12_shown_6 : decode cX12_shown 6 = .ok (.i2l, 1) := by decide +kernel
theorem dX12_shown_7 : decode cX12_shown 7 = .ok (.lconst 0, 1) := by decide +kernel
theorem dX12_shown_8 : decode cX12_shown 8 = .ok (.ldc2_w 105, 3) := by decide +kernel
theorem dX12_shown_11 : decode cX12_shown 11 = .ok (.invokestatic 72, 3) := by decide +kernel
theorem dX12_shown_14 : decode cX12_shown 14 = .ok (.ifCond .ne 8, 3) := by decide +kernel
theorem dX12_shown_17 : decode cX12_shown 17 = .ok (.bipush (-2), 2) := by decide +kernel
theorem dX12_shown_19 : decode cX12_shown 19 = .ok (.goto 21, 3) := by decide +kernel
theorem dX12_shown_22 : decode cX12_shown 22 = .ok (.aload_n 0, 1) := by decide +kernel
theorem dX12_shown_23 : decode cX12_shown 23 = .ok (.getfield 259, 3) := by decide +kernel
theorem dX12_shown_26 : decode cX12_shown 26 = .ok (.ifCond .eq 12, 3) := by decide +kernel
theorem dX12_shown_29 : decode cX12_shown 29 = .ok (.aload_n 0, 1) := by decide +kernel
theorem dX12_shown_30 : decode cX12_shown 30 = .ok (.getfield 41, 3) := by decide +kernel
theorem dX12_shown_33 : decode cX12_shown 33 = .ok (.iload_n 1, 1) := by decide +kernel
theorem dX12_shown_34 : decode cX12_shown 34 = .ok (.iaload, 1) := by decide +kernel
theorem dX12_shown_35 : decode cX12_shown 35 = .ok (.goto 5, 3) := by decide +kernel
theorem dX12_shown_38 : decode cX12_shown 38 = .ok (.bipush (-3), 2) := by decide +kernel
theorem dX12_shown_40 : decode cX12_shown 40 = .ok (.ireturn, 1) := by decide +kernel
theorem dX12_got_0 : decode cX12_got 0 = .ok (.aload_n 0, 1) := by decide +kernel
theorem dX12_got_1 : decode cX12_got 1 = .ok (.iconst 0, 1) := by decide +kernel
theorem dX12_got_2 : decode cX12_got 2 = .ok (.putfield 1, 3) := by decide +kernel
theorem dX12_got_5 : decode cX12_got 5 = .ok (.aload_n 0, 1) := by decide +kernel
theorem dX12_got_6 : decode cX12_got 6 = .ok (.getfield 259, 3) := by decide +kernel
theorem dX12_got_9 : decode cX12_got 9 = .ok (.ifCond .eq 43, 3) := by decide +kernel
theorem dX12_got_12 : decode cX12_got 12 = .ok (.iload_n 1, 1) := by decide +kernel
theorem dX12_got_13 : decode cX12_got 13 = .ok (.i2l, 1) := by decide +kernel
theorem dX12_got_14 : decode cX12_got 14 = .ok (.lconst 0, 1) := by decide +kernel
theorem dX12_got_15 : decode cX12_got 15 = .ok (.aload_n 0, 1) := by decide +kernel
theorem dX12_got_16 : decode cX12_got 16 = .ok (.getfield 41, 3) := by decide +kernel
theorem dX12_got_19 : decode cX12_got 19 = .ok (.iconst 1, 1) := by decide +kernel
theorem dX12_got_20 : decode cX12_got 20 = .ok (.iaload, 1) := by decide +kernel
theorem dX12_got_21 : decode cX12_got 21 = .ok (.iconst 1, 1) := by decide +kernel
theorem dX12_got_22 : decode cX12_got 22 = .ok (.isub, 1) := by decide +kernel
theorem dX12_got_23 : decode cX12_got 23 = .ok (.i2l, 1) := by decide +kernel
theorem dX12_got_24 : decode cX12_got 24 = .ok (.invokestatic 72, 3) := by decide +kernel
theorem dX12_got_27 : decode cX12_got 27 = .ok (.ifCond .eq 25, 3) := by decide +kernel
theorem dX12_got_30 : decode cX12_got 30 = .ok (.iload_n 2, 1) := by decide +kernel
theorem dX12_got_31 : decode cX12_got 31 = .ok (.i2l, 1) := by decide +kernel
theorem dX12_got_32 : decode cX12_got 32 = .ok (.lconst 0, 1) := by decide +kernel
theorem dX12_got_33 : decode cX12_got 33 = .ok (.aload_n 0, 1) := by decide +kernel
theorem dX12_got_34 : decode cX12_got 34 = .ok (.getfield 41, 3) := by decide +kernel
theorem dX12_got_37 : decode cX12_got 37 = .ok (.iconst 0, 1) := by decide +kernel
theorem dX12_got_38 : decode cX12_got 38 = .ok (.iaload, 1) := by decide +kernel
theorem dX12_got_39 : decode cX12_got 39 = .ok (.iconst 1, 1) := by decide +kernel
theorem dX12_got_40 : decode cX12_got 40 = .ok (.isub, 1) := by decide +kernel
theorem dX12_got_41 : decode cX12_got 41 = .ok (.i2l, 1) := by decide +kernel
theorem dX12_got_42 : decode cX12_got 42 = .ok (.invokestatic 72, 3) := by decide +kernel
theorem dX12_got_45 : decode cX12_got 45 = .ok (.ifCond .eq 7, 3) := by decide +kernel
theorem dX12_got_48 : decode cX12_got 48 = .ok (.iconst 1, 1) := by decide +kernel
theorem dX12_got_49 : decode cX12_got 49 = .ok (.goto 4, 3) := by decide +kernel
theorem dX12_got_52 : decode cX12_got 52 = .ok (.iconst 0, 1) := by decide +kernel
theorem dX12_got_53 : decode cX12_got 53 = .ok (.istore_n 3, 1) := by decide +kernel
theorem dX12_got_54 : decode cX12_got 54 = .ok (.aload_n 0, 1) := by decide +kernel
theorem dX12_got_55 : decode cX12_got 55 = .ok (.iload_n 3, 1) := by decide +kernel
theorem dX12_got_56 : decode cX12_got 56 = .ok (.ifCond .eq 7, 3) := by decide +kernel
theorem dX12_got_59 : decode cX12_got 59 = .ok (.iconst 0, 1) := by decide +kernel
theorem dX12_got_60 : decode cX12_got 60 = .ok (.goto 4, 3) := by decide +kernel
theorem dX12_got_63 : decode cX12_got 63 = .ok (.iconst 1, 1) := by decide +kernel
theorem dX12_got_64 : decode cX12_got 64 = .ok (.putfield 1, 3) := by decide +kernel
theorem dX12_got_67 : decode cX12_got 67 = .ok (.iload_n 3, 1) := by decide +kernel
theorem dX12_got_68 : decode cX12_got 68 = .ok (.ifCond .eq 18, 3) := by decide +kernel
theorem dX12_got_71 : decode cX12_got 71 = .ok (.aload_n 0, 1) := by decide +kernel
theorem dX12_got_72 : decode cX12_got 72 = .ok (.getfield 44, 3) := by decide +kernel
theorem dX12_got_75 : decode cX12_got 75 = .ok (.sipush 400, 3) := by decide +kernel
theorem dX12_got_78 : decode cX12_got 78 = .ok (.iload_n 1, 1) := by decide +kernel
theorem dX12_got_79 : decode cX12_got 79 = .ok (.imul, 1) := by decide +kernel
theorem dX12_got_80 : decode cX12_got 80 = .ok (.iload_n 2, 1) := by decide +kernel
theorem dX12_got_81 : decode cX12_got 81 = .ok (.iadd, 1) := by decide +kernel
theorem dX12_got_82 : decode cX12_got 82 = .ok (.iaload, 1) := by decide +kernel
theorem dX12_got_83 : decode cX12_got 83 = .ok (.goto 4, 3) := by decide +kernel
theorem dX12_got_86 : decode cX12_got 86 = .ok (.iconst 0, 1) := by decide +kernel
theorem dX12_got_87 : decode cX12_got 87 = .ok (.ireturn, 1) := by decide +kernel
theorem dX12_take_0 : decode cX12_take 0 = .ok (.aload_n 0, 1) := by decide +kernel
theorem dX12_take_1 : decode cX12_take 1 = .ok (.iconst 0, 1) := by decide +kernel
theorem dX12_take_2 : decode cX12_take 2 = .ok (.putfield 1, 3) := by decide +kernel
theorem dX12_take_5 : decode cX12_take 5 = .ok (.aload_n 0, 1) := by decide +kernel
theorem dX12_take_6 : decode cX12_take 6 = .ok (.getfield 259, 3) := by decide +kernel
theorem dX12_take_9 : decode cX12_take 9 = .ok (.ifCond .ne 6, 3) := by decide +kernel
theorem dX12_take_12 : decode cX12_take 12 = .ok (.bipush (-3), 2) := by decide +kernel
theorem dX12_take_14 : decode cX12_take 14 = .ok (.ireturn, 1) := by decide +kernel
theorem dX12_take_15 : decode cX12_take 15 = .ok (.aload_n 0, 1) := by decide +kernel
theorem dX12_take_16 : decode cX12_take 16 = .ok (.aload_n 0, 1) := by decide +kernel
theorem dX12_take_17 : decode cX12_take 17 = .ok (.getfield 41, 3) := by decide +kernel
theorem dX12_take_20 : decode cX12_take 20 = .ok (.iconst 3, 1) := by decide +kernel
theorem dX12_take_21 : decode cX12_take 21 = .ok (.iaload, 1) := by decide +kernel
theorem dX12_take_22 : decode cX12_take 22 = .ok (.putfield 13, 3) := by decide +kernel
theorem dX12_take_25 : decode cX12_take 25 = .ok (.aload_n 0, 1) := by decide +kernel
theorem dX12_take_26 : decode cX12_take 26 = .ok (.getfield 16, 3) := by decide +kernel
theorem dX12_take_29 : decode cX12_take 29 = .ok (.iconst 0, 1) := by decide +kernel
theorem dX12_take_30 : decode cX12_take 30 = .ok (.aload_n 0, 1) := by decide +kernel
theorem dX12_take_31 : decode cX12_take 31 = .ok (.getfield 41, 3) := by decide +kernel
theorem dX12_take_34 : decode cX12_take 34 = .ok (.iconst 0, 1) := by decide +kernel
theorem dX12_take_35 : decode cX12_take 35 = .ok (.iaload, 1) := by decide +kernel
theorem dX12_take_36 : decode cX12_take 36 = .ok (.iastore, 1) := by decide +kernel
theorem dX12_take_37 : decode cX12_take 37 = .ok (.aload_n 0, 1) := by decide +kernel
theorem dX12_take_38 : decode cX12_take 38 = .ok (.getfield 16, 3) := by decide +kernel
theorem dX12_take_41 : decode cX12_take 41 = .ok (.iconst 1, 1) := by decide +kernel
theorem dX12_take_42 : decode cX12_take 42 = .ok (.aload_n 0, 1) := by decide +kernel
theorem dX12_take_43 : decode cX12_take 43 = .ok (.getfield 41, 3) := by decide +kernel
theorem dX12_take_46 : decode cX12_take 46 = .ok (.iconst 1, 1) := by decide +kernel
theorem dX12_take_47 : decode cX12_take 47 = .ok (.iaload, 1) := by decide +kernel
theorem dX12_take_48 : decode cX12_take 48 = .ok (.iconst 2, 1) := by decide +kernel
theorem dX12_take_49 : decode cX12_take 49 = .ok (.if_icmp .ne 12, 3) := by decide +kernel
theorem dX12_take_52 : decode cX12_take 52 = .ok (.aload_n 0, 1) := by decide +kernel
theorem dX12_take_53 : decode cX12_take 53 = .ok (.getfield 41, 3) := by decide +kernel
theorem dX12_take_56 : decode cX12_take 56 = .ok (.iconst 0, 1) := by decide +kernel
theorem dX12_take_57 : decode cX12_take 57 = .ok (.iaload, 1) := by decide +kernel
theorem dX12_take_58 : decode cX12_take 58 = .ok (.goto 4, 3) := by decide +kernel
theorem dX12_take_61 : decode cX12_take 61 = .ok (.iconst 0, 1) := by decide +kernel
theorem dX12_take_62 : decode cX12_take 62 = .ok (.iastore, 1) := by decide +kernel
theorem dX12_take_63 : decode cX12_take 63 = .ok (.iconst 0, 1) := by decide +kernel
theorem dX12_take_64 : decode cX12_take 64 = .ok (.istore_n 1, 1) := by decide +kernel
theorem dX12_take_65 : decode cX12_take 65 = .ok (.iload_n 1, 1) := by decide +kernel
theorem dX12_take_66 : decode cX12_take 66 = .ok (.sipush 800, 3) := by decide +kernel
theorem dX12_take_69 : decode cX12_take 69 = .ok (.if_icmp .ge 21, 3) := by decide +kernel
theorem dX12_take_72 : decode cX12_take 72 = .ok (.aload_n 0, 1) := by decide +kernel
theorem dX12_take_73 : decode cX12_take 73 = .ok (.getfield 20, 3) := by decide +kernel
theorem dX12_take_76 : decode cX12_take 76 = .ok (.iload_n 1, 1) := by decide +kernel
theorem dX12_take_77 : decode cX12_take 77 = .ok (.aload_n 0, 1) := by decide +kernel
theorem dX12_take_78 : decode cX12_take 78 = .ok (.getfield 44, 3) := by decide +kernel
theorem dX12_take_81 : decode cX12_take 81 = .ok (.iload_n 1, 1) := by decide +kernel
theorem dX12_take_82 : decode cX12_take 82 = .ok (.iaload, 1) := by decide +kernel
theorem dX12_take_83 : decode cX12_take 83 = .ok (.iastore, 1) := by decide +kernel
theorem dX12_take_84 : decode cX12_take 84 = .ok (.iinc 1 1, 3) := by decide +kernel
theorem dX12_take_87 : decode cX12_take 87 = .ok (.goto (-22), 3) := by decide +kernel
theorem dX12_take_90 : decode cX12_take 90 = .ok (.aload_n 0, 1) := by decide +kernel
theorem dX12_take_91 : decode cX12_take 91 = .ok (.getfield 16, 3) := by decide +kernel
theorem dX12_take_94 : decode cX12_take 94 = .ok (.iconst 0, 1) := by decide +kernel
theorem dX12_take_95 : decode cX12_take 95 = .ok (.iaload, 1) := by decide +kernel
theorem dX12_take_96 : decode cX12_take 96 = .ok (.ireturn, 1) := by decide +kernel
theorem dX12_frames_0 : decode cX12_frames 0 = .ok (.aload_n 0, 1) := by decide +kernel
theorem dX12_frames_1 : decode cX12_frames 1 = .ok (.iconst 0, 1) := by decide +kernel
theorem dX12_frames_2 : decode cX12_frames 2 = .ok (.putfield 1, 3) := by decide +kernel
theorem dX12_frames_5 : decode cX12_frames 5 = .ok (.iconst 0, 1) := by decide +kernel
theorem dX12_frames_6 : decode cX12_frames 6 = .ok (.istore_n 1, 1) := by decide +kernel
theorem dX12_frames_7 : decode cX12_frames 7 = .ok (.iconst 0, 1) := by decide +kernel
theorem dX12_frames_8 : decode cX12_frames 8 = .ok (.istore_n 2, 1) := by decide +kernel
theorem dX12_frames_9 : decode cX12_frames 9 = .ok (.iload_n 2, 1) := by decide +kernel
theorem dX12_frames_10 : decode cX12_frames 10 = .ok (.aload_n 0, 1) := by decide +kernel
theorem dX12_frames_11 : decode cX12_frames 11 = .ok (.getfield 69, 3) := by decide +kernel
theorem dX12_frames_14 : decode cX12_frames 14 = .ok (.if_icmp .ge 30, 3) := by decide +kernel
theorem dX12_frames_17 : decode cX12_frames 17 = .ok (.aload_n 0, 1) := by decide +kernel
theorem dX12_frames_18 : decode cX12_frames 18 = .ok (.iload_n 2, 1) := by decide +kernel
theorem dX12_frames_19 : decode cX12_frames 19 = .ok (.invokevirtual 256, 3) := by decide +kernel
theorem dX12_frames_22 : decode cX12_frames 22 = .ok (.ifCond .eq 8, 3) := by decide +kernel
theorem dX12_frames_25 : decode cX12_frames 25 = .ok (.bipush (-10), 2) := by decide +kernel
theorem dX12_frames_27 : decode cX12_frames 27 = .ok (.iload_n 1, 1) := by decide +kernel
theorem dX12_frames_28 : decode cX12_frames 28 = .ok (.isub, 1) := by decide +kernel
theorem dX12_frames_29 : decode cX12_frames 29 = .ok (.ireturn, 1) := by decide +kernel
theorem dX12_frames_30 : decode cX12_frames 30 = .ok (.aload_n 0, 1) := by decide +kernel
theorem dX12_frames_31 : decode cX12_frames 31 = .ok (.getfield 205, 3) := by decide +kernel
theorem dX12_frames_34 : decode cX12_frames 34 = .ok (.bipush 8, 2) := by decide +kernel
theorem dX12_frames_36 : decode cX12_frames 36 = .ok (.idiv, 1) := by decide +kernel
theorem dX12_frames_37 : decode cX12_frames 37 = .ok (.istore_n 2, 1) := by decide +kernel
theorem dX12_frames_38 : decode cX12_frames 38 = .ok (.iinc 1 1, 3) := by decide +kernel
theorem dX12_frames_41 : decode cX12_frames 41 = .ok (.goto (-32), 3) := by decide +kernel
theorem dX12_frames_44 : decode cX12_frames 44 = .ok (.iload_n 1, 1) := by decide +kernel
theorem dX12_frames_45 : decode cX12_frames 45 = .ok (.ireturn, 1) := by decide +kernel
theorem dJx00060_init_a7421_0 : decode cJx00060_init_a7421 0 = .ok (.aload_n 0, 1) := by decide +kernel
theorem dJx00060_init_a7421_1 : decode cJx00060_init_a7421 1 = .ok (.aload_n 1, 1) := by decide +kernel
theorem dJx00060_init_a7421_2 : decode cJx00060_init_a7421 2 = .ok (.invokespecial 7, 3) := by decide +kernel
theorem dJx00060_init_a7421_5 : decode cJx00060_init_a7421 5 = .ok (.return_, 1) := by decide +kernel
theorem dJ6_numberOfLeadingZeros_0f7a4_0 : decode cJ6_numberOfLeadingZeros_0f7a4 0 = .ok (.iload_n 0, 1) := by decide +kernel
theorem dJ6_numberOfLeadingZeros_0f7a4_1 : decode cJ6_numberOfLeadingZeros_0f7a4 1 = .ok (.ifCond .gt 14, 3) := by decide +kernel
theorem dJ6_numberOfLeadingZeros_0f7a4_4 : decode cJ6_numberOfLeadingZeros_0f7a4 4 = .ok (.iload_n 0, 1) := by decide +kernel
theorem dJ6_numberOfLeadingZeros_0f7a4_5 : decode cJ6_numberOfLeadingZeros_0f7a4 5 = .ok (.ifCond .ne 8, 3) := by decide +kernel
theorem dJ6_numberOfLeadingZeros_0f7a4_8 : decode cJ6_numberOfLeadingZeros_0f7a4 8 = .ok (.bipush 32, 2) := by decide +kernel
theorem dJ6_numberOfLeadingZeros_0f7a4_10 : decode cJ6_numberOfLeadingZeros_0f7a4 10 = .ok (.goto 4, 3) := by decide +kernel
theorem dJ6_numberOfLeadingZeros_0f7a4_13 : decode cJ6_numberOfLeadingZeros_0f7a4 13 = .ok (.iconst 0, 1) := by decide +kernel
theorem dJ6_numberOfLeadingZeros_0f7a4_14 : decode cJ6_numberOfLeadingZeros_0f7a4 14 = .ok (.ireturn, 1) := by decide +kernel
theorem dJ6_numberOfLeadingZeros_0f7a4_15 : decode cJ6_numberOfLeadingZeros_0f7a4 15 = .ok (.bipush 31, 2) := by decide +kernel
theorem dJ6_numberOfLeadingZeros_0f7a4_17 : decode cJ6_numberOfLeadingZeros_0f7a4 17 = .ok (.istore_n 1, 1) := by decide +kernel
theorem dJ6_numberOfLeadingZeros_0f7a4_18 : decode cJ6_numberOfLeadingZeros_0f7a4 18 = .ok (.iload_n 0, 1) := by decide +kernel
theorem dJ6_numberOfLeadingZeros_0f7a4_19 : decode cJ6_numberOfLeadingZeros_0f7a4 19 = .ok (.ldc_w 264, 3) := by decide +kernel
theorem dJ6_numberOfLeadingZeros_0f7a4_22 : decode cJ6_numberOfLeadingZeros_0f7a4 22 = .ok (.if_icmp .lt 11, 3) := by decide +kernel
theorem dJ6_numberOfLeadingZeros_0f7a4_25 : decode cJ6_numberOfLeadingZeros_0f7a4 25 = .ok (.iinc 1 (-16), 3) := by decide +kernel
theorem dJ6_numberOfLeadingZeros_0f7a4_28 : decode cJ6_numberOfLeadingZeros_0f7a4 28 = .ok (.iload_n 0, 1) := by decide +kernel
theorem dJ6_numberOfLeadingZeros_0f7a4_29 : decode cJ6_numberOfLeadingZeros_0f7a4 29 = .ok (.bipush 16, 2) := by decide +kernel
theorem dJ6_numberOfLeadingZeros_0f7a4_31 : decode cJ6_numberOfLeadingZeros_0f7a4 31 = .ok (.iushr, 1) := by decide +kernel
theorem dJ6_numberOfLeadingZeros_0f7a4_32 : decode cJ6_numberOfLeadingZeros_0f7a4 32 = .ok (.istore_n 0, 1) := by decide +kernel
theorem dJ6_numberOfLeadingZeros_0f7a4_33 : decode cJ6_numberOfLeadingZeros_0f7a4 33 = .ok (.iload_n 0, 1) := by decide +kernel
theorem dJ6_numberOfLeadingZeros_0f7a4_34 : decode cJ6_numberOfLeadingZeros_0f7a4 34 = .ok (.sipush 256, 3) := by decide +kernel
theorem dJ6_numberOfLeadingZeros_0f7a4_37 : decode cJ6_numberOfLeadingZeros_0f7a4 37 = .ok (.if_icmp .lt 11, 3) := by decide +kernel
theorem dJ6_numberOfLeadingZeros_0f7a4_40 : decode cJ6_numberOfLeadingZeros_0f7a4 40 = .ok (.iinc 1 (-8), 3) := by decide +kernel
theorem dJ6_numberOfLeadingZeros_0f7a4_43 : decode cJ6_numberOfLeadingZeros_0f7a4 43 = .ok (.iload_n 0, 1) := by decide +kernel
theorem dJ6_numberOfLeadingZeros_0f7a4_44 : decode cJ6_numberOfLeadingZeros_0f7a4 44 = .ok (.bipush 8, 2) := by decide +kernel
theorem dJ6_numberOfLeadingZeros_0f7a4_46 : decode cJ6_numberOfLeadingZeros_0f7a4 46 = .ok (.iushr, 1) := by decide +kernel
theorem dJ6_numberOfLeadingZeros_0f7a4_47 : decode cJ6_numberOfLeadingZeros_0f7a4 47 = .ok (.istore_n 0, 1) := by decide +kernel
theorem dJ6_numberOfLeadingZeros_0f7a4_48 : decode cJ6_numberOfLeadingZeros_0f7a4 48 = .ok (.iload_n 0, 1) := by decide +kernel
theorem dJ6_numberOfLeadingZeros_0f7a4_49 : decode cJ6_numberOfLeadingZeros_0f7a4 49 = .ok (.bipush 16, 2) := by decide +kernel
theorem dJ6_numberOfLeadingZeros_0f7a4_51 : decode cJ6_numberOfLeadingZeros_0f7a4 51 = .ok (.if_icmp .lt 10, 3) := by decide +kernel
theorem dJ6_numberOfLeadingZeros_0f7a4_54 : decode cJ6_numberOfLeadingZeros_0f7a4 54 = .ok (.iinc 1 (-4), 3) := by decide +kernel
theorem dJ6_numberOfLeadingZeros_0f7a4_57 : decode cJ6_numberOfLeadingZeros_0f7a4 57 = .ok (.iload_n 0, 1) := by decide +kernel
theorem dJ6_numberOfLeadingZeros_0f7a4_58 : decode cJ6_numberOfLeadingZeros_0f7a4 58 = .ok (.iconst 4, 1) := by decide +kernel
theorem dJ6_numberOfLeadingZeros_0f7a4_59 : decode cJ6_numberOfLeadingZeros_0f7a4 59 = .ok (.iushr, 1) := by decide +kernel
theorem dJ6_numberOfLeadingZeros_0f7a4_60 : decode cJ6_numberOfLeadingZeros_0f7a4 60 = .ok (.istore_n 0, 1) := by decide +kernel
theorem dJ6_numberOfLeadingZeros_0f7a4_61 : decode cJ6_numberOfLeadingZeros_0f7a4 61 = .ok (.iload_n 0, 1) := by decide +kernel
theorem dJ6_numberOfLeadingZeros_0f7a4_62 : decode cJ6_numberOfLeadingZeros_0f7a4 62 = .ok (.iconst 4, 1) := by decide +kernel
theorem dJ6_numberOfLeadingZeros_0f7a4_63 : decode cJ6_numberOfLeadingZeros_0f7a4 63 = .ok (.if_icmp .lt 10, 3) := by decide +kernel
theorem dJ6_numberOfLeadingZeros_0f7a4_66 : decode cJ6_numberOfLeadingZeros_0f7a4 66 = .ok (.iinc 1 (-2), 3) := by decide +kernel
theorem dJ6_numberOfLeadingZeros_0f7a4_69 : decode cJ6_numberOfLeadingZeros_0f7a4 69 = .ok (.iload_n 0, 1) := by decide +kernel
theorem dJ6_numberOfLeadingZeros_0f7a4_70 : decode cJ6_numberOfLeadingZeros_0f7a4 70 = .ok (.iconst 2, 1) := by decide +kernel
theorem dJ6_numberOfLeadingZeros_0f7a4_71 : decode cJ6_numberOfLeadingZeros_0f7a4 71 = .ok (.iushr, 1) := by decide +kernel
theorem dJ6_numberOfLeadingZeros_0f7a4_72 : decode cJ6_numberOfLeadingZeros_0f7a4 72 = .ok (.istore_n 0, 1) := by decide +kernel
theorem dJ6_numberOfLeadingZeros_0f7a4_73 : decode cJ6_numberOfLeadingZeros_0f7a4 73 = .ok (.iload_n 1, 1) := by decide +kernel
theorem dJ6_numberOfLeadingZeros_0f7a4_74 : decode cJ6_numberOfLeadingZeros_0f7a4 74 = .ok (.iload_n 0, 1) := by decide +kernel
theorem dJ6_numberOfLeadingZeros_0f7a4_75 : decode cJ6_numberOfLeadingZeros_0f7a4 75 = .ok (.iconst 1, 1) := by decide +kernel
theorem dJ6_numberOfLeadingZeros_0f7a4_76 : decode cJ6_numberOfLeadingZeros_0f7a4 76 = .ok (.iushr, 1) := by decide +kernel
theorem dJ6_numberOfLeadingZeros_0f7a4_77 : decode cJ6_numberOfLeadingZeros_0f7a4 77 = .ok (.isub, 1) := by decide +kernel
theorem dJ6_numberOfLeadingZeros_0f7a4_78 : decode cJ6_numberOfLeadingZeros_0f7a4 78 = .ok (.ireturn, 1) := by decide +kernel
theorem dJ6_numberOfTrailingZeros_0f7a4_0 : decode cJ6_numberOfTrailingZeros_0f7a4 0 = .ok (.iload_n 0, 1) := by decide +kernel
theorem dJ6_numberOfTrailingZeros_0f7a4_1 : decode cJ6_numberOfTrailingZeros_0f7a4 1 = .ok (.iconst (-1), 1) := by decide +kernel
theorem dJ6_numberOfTrailingZeros_0f7a4_2 : decode cJ6_numberOfTrailingZeros_0f7a4 2 = .ok (.ixor, 1) := by decide +kernel
theorem dJ6_numberOfTrailingZeros_0f7a4_3 : decode cJ6_numberOfTrailingZeros_0f7a4 3 = .ok (.iload_n 0, 1) := by decide +kernel
theorem dJ6_numberOfTrailingZeros_0f7a4_4 : decode cJ6_numberOfTrailingZeros_0f7a4 4 = .ok (.iconst 1, 1) := by decide +kernel
theorem dJ6_numberOfTrailingZeros_0f7a4_5 : decode cJ6_numberOfTrailingZeros_0f7a4 5 = .ok (.isub, 1) := by decide +kernel
theorem dJ6_numberOfTrailingZeros_0f7a4_6 : decode cJ6_numberOfTrailingZeros_0f7a4 6 = .ok (.iand, 1) := by decide +kernel
theorem dJ6_numberOfTrailingZeros_0f7a4_7 : decode cJ6_numberOfTrailingZeros_0f7a4 7 = .ok (.istore_n 0, 1) := by decide +kernel
theorem dJ6_numberOfTrailingZeros_0f7a4_8 : decode cJ6_numberOfTrailingZeros_0f7a4 8 = .ok (.iload_n 0, 1) := by decide +kernel
theorem dJ6_numberOfTrailingZeros_0f7a4_9 : decode cJ6_numberOfTrailingZeros_0f7a4 9 = .ok (.ifCond .gt 8, 3) := by decide +kernel
theorem dJ6_numberOfTrailingZeros_0f7a4_12 : decode cJ6_numberOfTrailingZeros_0f7a4 12 = .ok (.iload_n 0, 1) := by decide +kernel
theorem dJ6_numberOfTrailingZeros_0f7a4_13 : decode cJ6_numberOfTrailingZeros_0f7a4 13 = .ok (.bipush 32, 2) := by decide +kernel
theorem dJ6_numberOfTrailingZeros_0f7a4_15 : decode cJ6_numberOfTrailingZeros_0f7a4 15 = .ok (.iand, 1) := by decide +kernel
theorem dJ6_numberOfTrailingZeros_0f7a4_16 : decode cJ6_numberOfTrailingZeros_0f7a4 16 = .ok (.ireturn, 1) := by decide +kernel
theorem dJ6_numberOfTrailingZeros_0f7a4_17 : decode cJ6_numberOfTrailingZeros_0f7a4 17 = .ok (.iconst 1, 1) := by decide +kernel
theorem dJ6_numberOfTrailingZeros_0f7a4_18 : decode cJ6_numberOfTrailingZeros_0f7a4 18 = .ok (.istore_n 1, 1) := by decide +kernel
theorem dJ6_numberOfTrailingZeros_0f7a4_19 : decode cJ6_numberOfTrailingZeros_0f7a4 19 = .ok (.iload_n 0, 1) := by decide +kernel
theorem dJ6_numberOfTrailingZeros_0f7a4_20 : decode cJ6_numberOfTrailingZeros_0f7a4 20 = .ok (.ldc_w 264, 3) := by decide +kernel
theorem dJ6_numberOfTrailingZeros_0f7a4_23 : decode cJ6_numberOfTrailingZeros_0f7a4 23 = .ok (.if_icmp .le 11, 3) := by decide +kernel
theorem dJ6_numberOfTrailingZeros_0f7a4_26 : decode cJ6_numberOfTrailingZeros_0f7a4 26 = .ok (.iinc 1 16, 3) := by decide +kernel
theorem dJ6_numberOfTrailingZeros_0f7a4_29 : decode cJ6_numberOfTrailingZeros_0f7a4 29 = .ok (.iload_n 0, 1) := by decide +kernel
theorem dJ6_numberOfTrailingZeros_0f7a4_30 : decode cJ6_numberOfTrailingZeros_0f7a4 30 = .ok (.bipush 16, 2) := by decide +kernel
theorem dJ6_numberOfTrailingZeros_0f7a4_32 : decode cJ6_numberOfTrailingZeros_0f7a4 32 = .ok (.iushr, 1) := by decide +kernel
theorem dJ6_numberOfTrailingZeros_0f7a4_33 : decode cJ6_numberOfTrailingZeros_0f7a4 33 = .ok (.istore_n 0, 1) := by decide +kernel
theorem dJ6_numberOfTrailingZeros_0f7a4_34 : decode cJ6_numberOfTrailingZeros_0f7a4 34 = .ok (.iload_n 0, 1) := by decide +kernel
theorem dJ6_numberOfTrailingZeros_0f7a4_35 : decode cJ6_numberOfTrailingZeros_0f7a4 35 = .ok (.sipush 256, 3) := by decide +kernel
theorem dJ6_numberOfTrailingZeros_0f7a4_38 : decode cJ6_numberOfTrailingZeros_0f7a4 38 = .ok (.if_icmp .le 11, 3) := by decide +kernel
theorem dJ6_numberOfTrailingZeros_0f7a4_41 : decode cJ6_numberOfTrailingZeros_0f7a4 41 = .ok (.iinc 1 8, 3) := by decide +kernel
theorem dJ6_numberOfTrailingZeros_0f7a4_44 : decode cJ6_numberOfTrailingZeros_0f7a4 44 = .ok (.iload_n 0, 1) := by decide +kernel
theorem dJ6_numberOfTrailingZeros_0f7a4_45 : decode cJ6_numberOfTrailingZeros_0f7a4 45 = .ok (.bipush 8, 2) := by decide +kernel
theorem dJ6_numberOfTrailingZeros_0f7a4_47 : decode cJ6_numberOfTrailingZeros_0f7a4 47 = .ok (.iushr, 1) := by decide +kernel
theorem dJ6_numberOfTrailingZeros_0f7a4_48 : decode cJ6_numberOfTrailingZeros_0f7a4 48 = .ok (.istore_n 0, 1) := by decide +kernel
theorem dJ6_numberOfTrailingZeros_0f7a4_49 : decode cJ6_numberOfTrailingZeros_0f7a4 49 = .ok (.iload_n 0, 1) := by decide +kernel
theorem dJ6_numberOfTrailingZeros_0f7a4_50 : decode cJ6_numberOfTrailingZeros_0f7a4 50 = .ok (.bipush 16, 2) := by decide +kernel
theorem dJ6_numberOfTrailingZeros_0f7a4_52 : decode cJ6_numberOfTrailingZeros_0f7a4 52 = .ok (.if_icmp .le 10, 3) := by decide +kernel
theorem dJ6_numberOfTrailingZeros_0f7a4_55 : decode cJ6_numberOfTrailingZeros_0f7a4 55 = .ok (.iinc 1 4, 3) := by decide +kernel
theorem dJ6_numberOfTrailingZeros_0f7a4_58 : decode cJ6_numberOfTrailingZeros_0f7a4 58 = .ok (.iload_n 0, 1) := by decide +kernel
theorem dJ6_numberOfTrailingZeros_0f7a4_59 : decode cJ6_numberOfTrailingZeros_0f7a4 59 = .ok (.iconst 4, 1) := by decide +kernel
theorem dJ6_numberOfTrailingZeros_0f7a4_60 : decode cJ6_numberOfTrailingZeros_0f7a4 60 = .ok (.iushr, 1) := by decide +kernel
theorem dJ6_numberOfTrailingZeros_0f7a4_61 : decode cJ6_numberOfTrailingZeros_0f7a4 61 = .ok (.istore_n 0, 1) := by decide +kernel
theorem dJ6_numberOfTrailingZeros_0f7a4_62 : decode cJ6_numberOfTrailingZeros_0f7a4 62 = .ok (.iload_n 0, 1) := by decide +kernel
theorem dJ6_numberOfTrailingZeros_0f7a4_63 : decode cJ6_numberOfTrailingZeros_0f7a4 63 = .ok (.iconst 4, 1) := by decide +kernel
theorem dJ6_numberOfTrailingZeros_0f7a4_64 : decode cJ6_numberOfTrailingZeros_0f7a4 64 = .ok (.if_icmp .le 10, 3) := by decide +kernel
theorem dJ6_numberOfTrailingZeros_0f7a4_67 : decode cJ6_numberOfTrailingZeros_0f7a4 67 = .ok (.iinc 1 2, 3) := by decide +kernel
theorem dJ6_numberOfTrailingZeros_0f7a4_70 : decode cJ6_numberOfTrailingZeros_0f7a4 70 = .ok (.iload_n 0, 1) := by decide +kernel
theorem dJ6_numberOfTrailingZeros_0f7a4_71 : decode cJ6_numberOfTrailingZeros_0f7a4 71 = .ok (.iconst 2, 1) := by decide +kernel
theorem dJ6_numberOfTrailingZeros_0f7a4_72 : decode cJ6_numberOfTrailingZeros_0f7a4 72 = .ok (.iushr, 1) := by decide +kernel
theorem dJ6_numberOfTrailingZeros_0f7a4_73 : decode cJ6_numberOfTrailingZeros_0f7a4 73 = .ok (.istore_n 0, 1) := by decide +kernel
theorem dJ6_numberOfTrailingZeros_0f7a4_74 : decode cJ6_numberOfTrailingZeros_0f7a4 74 = .ok (.iload_n 1, 1) := by decide +kernel
theorem dJ6_numberOfTrailingZeros_0f7a4_75 : decode cJ6_numberOfTrailingZeros_0f7a4 75 = .ok (.iload_n 0, 1) := by decide +kernel
theorem dJ6_numberOfTrailingZeros_0f7a4_76 : decode cJ6_numberOfTrailingZeros_0f7a4 76 = .ok (.iconst 1, 1) := by decide +kernel
theorem dJ6_numberOfTrailingZeros_0f7a4_77 : decode cJ6_numberOfTrailingZeros_0f7a4 77 = .ok (.iushr, 1) := by decide +kernel
theorem dJ6_numberOfTrailingZeros_0f7a4_78 : decode cJ6_numberOfTrailingZeros_0f7a4 78 = .ok (.iadd, 1) := by decide +kernel
theorem dJ6_numberOfTrailingZeros_0f7a4_79 : decode cJ6_numberOfTrailingZeros_0f7a4 79 = .ok (.ireturn, 1) := by decide +kernel
theorem dJ9_min_7cf53_0 : decode cJ9_min_7cf53 0 = .ok (.iload_n 0, 1) := by decide +kernel
theorem dJ9_min_7cf53_1 : decode cJ9_min_7cf53 1 = .ok (.iload_n 1, 1) := by decide +kernel
theorem dJ9_min_7cf53_2 : decode cJ9_min_7cf53 2 = .ok (.if_icmp .gt 7, 3) := by decide +kernel
theorem dJ9_min_7cf53_5 : decode cJ9_min_7cf53 5 = .ok (.iload_n 0, 1) := by decide +kernel
theorem dJ9_min_7cf53_6 : decode cJ9_min_7cf53 6 = .ok (.goto 4, 3) := by decide +kernel
theorem dJ9_min_7cf53_9 : decode cJ9_min_7cf53 9 = .ok (.iload_n 1, 1) := by decide +kernel
theorem dJ9_min_7cf53_10 : decode cJ9_min_7cf53 10 = .ok (.ireturn, 1) := by decide +kernel
theorem dJ7_fill_d0a16_0 : decode cJ7_fill_d0a16 0 = .ok (.iconst 0, 1) := by decide +kernel
theorem dJ7_fill_d0a16_1 : decode cJ7_fill_d0a16 1 = .ok (.istore_n 3, 1) := by decide +kernel
theorem dJ7_fill_d0a16_2 : decode cJ7_fill_d0a16 2 = .ok (.aload_n 0, 1) := by decide +kernel
theorem dJ7_fill_d0a16_3 : decode cJ7_fill_d0a16 3 = .ok (.arraylength, 1) := by decide +kernel
theorem dJ7_fill_d0a16_4 : decode cJ7_fill_d0a16 4 = .ok (.istore 4, 2) := by decide +kernel
theorem dJ7_fill_d0a16_6 : decode cJ7_fill_d0a16 6 = .ok (.iload_n 3, 1) := by decide +kernel
theorem dJ7_fill_d0a16_7 : decode cJ7_fill_d0a16 7 = .ok (.iload 4, 2) := by decide +kernel
theorem dJ7_fill_d0a16_9 : decode cJ7_fill_d0a16 9 = .ok (.if_icmp .ge 13, 3) := by decide +kernel
theorem dJ7_fill_d0a16_12 : decode cJ7_fill_d0a16 12 = .ok (.aload_n 0, 1) := by decide +kernel
theorem dJ7_fill_d0a16_13 : decode cJ7_fill_d0a16 13 = .ok (.iload_n 3, 1) := by decide +kernel
theorem dJ7_fill_d0a16_14 : decode cJ7_fill_d0a16 14 = .ok (.lload_n 1, 1) := by decide +kernel
theorem dJ7_fill_d0a16_15 : decode cJ7_fill_d0a16 15 = .ok (.lastore, 1) := by decide +kernel
theorem dJ7_fill_d0a16_16 : decode cJ7_fill_d0a16 16 = .ok (.iinc 3 1, 3) := by decide +kernel
theorem dJ7_fill_d0a16_19 : decode cJ7_fill_d0a16 19 = .ok (.goto (-13), 3) := by decide +kernel
theorem dJ7_fill_d0a16_22 : decode cJ7_fill_d0a16 22 = .ok (.return_, 1) := by decide +kernel
theorem dJ7_fill_53178_0 : decode cJ7_fill_53178 0 = .ok (.iconst 0, 1) := by decide +kernel
theorem dJ7_fill_53178_1 : decode cJ7_fill_53178 1 = .ok (.istore_n 2, 1) := by decide +kernel
theorem dJ7_fill_53178_2 : decode cJ7_fill_53178 2 = .ok (.aload_n 0, 1) := by decide +kernel
theorem dJ7_fill_53178_3 : decode cJ7_fill_53178 3 = .ok (.arraylength, 1) := by decide +kernel
theorem dJ7_fill_53178_4 : decode cJ7_fill_53178 4 = .ok (.istore_n 3, 1) := by decide +kernel
theorem dJ7_fill_53178_5 : decode cJ7_fill_53178 5 = .ok (.iload_n 2, 1) := by decide +kernel
theorem dJ7_fill_53178_6 : decode cJ7_fill_53178 6 = .ok (.iload_n 3, 1) := by decide +kernel
theorem dJ7_fill_53178_7 : decode cJ7_fill_53178 7 = .ok (.if_icmp .ge 13, 3) := by decide +kernel
theorem dJ7_fill_53178_10 : decode cJ7_fill_53178 10 = .ok (.aload_n 0, 1) := by decide +kernel
theorem dJ7_fill_53178_11 : decode cJ7_fill_53178 11 = .ok (.iload_n 2, 1) := by decide +kernel
theorem dJ7_fill_53178_12 : decode cJ7_fill_53178 12 = .ok (.iload_n 1, 1) := by decide +kernel
theorem dJ7_fill_53178_13 : decode cJ7_fill_53178 13 = .ok (.iastore, 1) := by decide +kernel
theorem dJ7_fill_53178_14 : decode cJ7_fill_53178 14 = .ok (.iinc 2 1, 3) := by decide +kernel
theorem dJ7_fill_53178_17 : decode cJ7_fill_53178 17 = .ok (.goto (-12), 3) := by decide +kernel
theorem dJ7_fill_53178_20 : decode cJ7_fill_53178 20 = .ok (.return_, 1) := by decide +kernel
theorem dL_got_0 : decode cL_got 0 = .ok (.aload_n 3, 1) := by decide +kernel
theorem dL_got_1 : decode cL_got 1 = .ok (.iconst 0, 1) := by decide +kernel
theorem dL_got_2 : decode cL_got 2 = .ok (.aload_n 0, 1) := by decide +kernel
theorem dL_got_3 : decode cL_got 3 = .ok (.iload_n 1, 1) := by decide +kernel
theorem dL_got_4 : decode cL_got 4 = .ok (.iload_n 2, 1) := by decide +kernel
theorem dL_got_5 : decode cL_got 5 = .ok (.invokevirtual 7, 3) := by decide +kernel
theorem dL_got_8 : decode cL_got 8 = .ok (.i2l, 1) := by decide +kernel
theorem dL_got_9 : decode cL_got 9 = .ok (.lastore, 1) := by decide +kernel
theorem dL_got_10 : decode cL_got 10 = .ok (.goto 7, 3) := by decide +kernel
theorem dL_got_13 : decode cL_got 13 = .ok (.astore 4, 2) := by decide +kernel
theorem dL_got_15 : decode cL_got 15 = .ok (.iconst 1, 1) := by decide +kernel
theorem dL_got_16 : decode cL_got 16 = .ok (.ireturn, 1) := by decide +kernel
theorem dL_got_17 : decode cL_got 17 = .ok (.iconst 0, 1) := by decide +kernel
theorem dL_got_18 : decode cL_got 18 = .ok (.ireturn, 1) := by decide +kernel
theorem dL_law_0 : decode cL_law 0 = .ok (.new 8, 3) := by decide +kernel
theorem dL_law_3 : decode cL_law 3 = .ok (.dup, 1) := by decide +kernel
theorem dL_law_4 : decode cL_law 4 = .ok (.invokespecial 15, 3) := by decide +kernel
theorem dL_law_7 : decode cL_law 7 = .ok (.astore_n 1, 1) := by decide +kernel
theorem dL_law_8 : decode cL_law 8 = .ok (.new 16, 3) := by decide +kernel
theorem dL_law_11 : decode cL_law 11 = .ok (.dup, 1) := by decide +kernel
theorem dL_law_12 : decode cL_law 12 = .ok (.invokespecial 18, 3) := by decide +kernel
theorem dL_law_15 : decode cL_law 15 = .ok (.astore_n 2, 1) := by decide +kernel
theorem dL_law_16 : decode cL_law 16 = .ok (.iconst 1, 1) := by decide +kernel
theorem dL_law_17 : decode cL_law 17 = .ok (.newarray .long, 2) := by decide +kernel
theorem dL_law_19 : decode cL_law 19 = .ok (.astore_n 3, 1) := by decide +kernel
theorem dL_law_20 : decode cL_law 20 = .ok (.iconst 0, 1) := by decide +kernel
theorem dL_law_21 : decode cL_law 21 = .ok (.istore 4, 2) := by decide +kernel
theorem dL_law_23 : decode cL_law 23 = .ok (.iload 4, 2) := by decide +kernel
theorem dL_law_25 : decode cL_law 25 = .ok (.aload_n 0, 1) := by decide +kernel
theorem dL_law_26 : decode cL_law 26 = .ok (.arraylength, 1) := by decide +kernel
theorem dL_law_27 : decode cL_law 27 = .ok (.iconst 5, 1) := by decide +kernel
theorem dL_law_28 : decode cL_law 28 = .ok (.isub, 1) := by decide +kernel
theorem dL_law_29 : decode cL_law 29 = .ok (.if_icmp .gt 650, 3) := by decide +kernel
theorem dL_law_32 : decode cL_law 32 = .ok (.aload_n 0, 1) := by decide +kernel
theorem dL_law_33 : decode cL_law 33 = .ok (.iload 4, 2) := by decide +kernel
theorem dL_law_35 : decode cL_law 35 = .ok (.iaload, 1) := by decide +kernel
theorem dL_law_36 : decode cL_law 36 = .ok (.bipush 31, 2) := by decide +kernel
theorem dL_law_38 : decode cL_law 38 = .ok (.iand, 1) := by decide +kernel
theorem dL_law_39 : decode cL_law 39 = .ok (.tableswitch 634 0 17 #[85, 110, 147, 172, 253, 266, 291, 328, 365, 378, 403, 440, 465, 490, 515, 540, 608, 621], 85) := by decide +kernel
theorem dL_law_124 : decode cL_law 124 = .ok (.aload_n 1, 1) := by decide +kernel
theorem dL_law_125 : decode cL_law 125 = .ok (.aload_n 0, 1) := by decide +kernel
theorem dL_law_126 : decode cL_law 126 = .ok (.iload 4, 2) := by decide +kernel
theorem dL_law_128 : decode cL_law 128 = .ok (.iconst 1, 1) := by decide +kernel
theorem dL_law_129 : decode cL_law 129 = .ok (.iadd, 1) := by decide +kernel
theorem dL_law_130 : decode cL_law 130 = .ok (.iaload, 1) := by decide +kernel
theorem dL_law_131 : decode cL_law 131 = .ok (.invokevirtual 19, 3) := by decide +kernel
theorem dL_law_134 : decode cL_law 134 = .ok (.aload_n 2, 1) := by decide +kernel
theorem dL_law_135 : decode cL_law 135 = .ok (.aload_n 0, 1) := by decide +kernel
theorem dL_law_136 : decode cL_law 136 = .ok (.iload 4, 2) := by decide +kernel
theorem dL_law_138 : decode cL_law 138 = .ok (.iconst 1, 1) := by decide +kernel
theorem dL_law_139 : decode cL_law 139 = .ok (.iadd, 1) := by decide +kernel
theorem dL_law_140 : decode cL_law 140 = .ok (.iaload, 1) := by decide +kernel
theorem dL_law_141 : decode cL_law 141 = .ok (.invokevirtual 23, 3) := by decide +kernel
theorem dL_law_144 : decode cL_law 144 = .ok (.if_icmp .eq 529, 3) := by decide +kernel
theorem dL_law_147 : decode cL_law 147 = .ok (.iconst 0, 1) := by decide +kernel
theorem dL_law_148 : decode cL_law 148 = .ok (.ireturn, 1) := by decide +kernel
theorem dL_law_149 : decode cL_law 149 = .ok (.aload_n 1, 1) := by decide +kernel
theorem dL_law_150 : decode cL_law 150 = .ok (.aload_n 0, 1) := by decide +kernel
theorem dL_law_151 : decode cL_law 151 = .ok (.iload 4, 2) := by decide +kernel
theorem dL_law_153 : decode cL_law 153 = .ok (.iconst 1, 1) := by decide +kernel
theorem dL_law_154 : decode cL_law 154 = .ok (.iadd, 1) := by decide +kernel
theorem dL_law_155 : decode cL_law 155 = .ok (.iaload, 1) := by decide +kernel
theorem dL_law_156 : decode cL_law 156 = .ok (.aload_n 0, 1) := by decide +kernel
theorem dL_law_157 : decode cL_law 157 = .ok (.iload 4, 2) := by decide +kernel
theorem dL_law_159 : decode cL_law 159 = .ok (.iconst 2, 1) := by decide +kernel
theorem dL_law_160 : decode cL_law 160 = .ok (.iadd, 1) := by decide +kernel
theorem dL_law_161 : decode cL_law 161 = .ok (.iaload, 1) := by decide +kernel
theorem dL_law_162 : decode cL_law 162 = .ok (.invokevirtual 24, 3) := by decide +kernel
theorem dL_law_165 : decode cL_law 165 = .ok (.aload_n 2, 1) := by decide +kernel
theorem dL_law_166 : decode cL_law 166 = .ok (.aload_n 0, 1) := by decide +kernel
theorem dL_law_167 : decode cL_law 167 = .ok (.iload 4, 2) := by decide +kernel
theorem dL_law_169 : decode cL_law 169 = .ok (.iconst 1, 1) := by decide +kernel
theorem dL_law_170 : decode cL_law 170 = .ok (.iadd, 1) := by decide +kernel
theorem dL_law_171 : decode cL_law 171 = .ok (.iaload, 1) := by decide +kernel
theorem dL_law_172 : decode cL_law 172 = .ok (.aload_n 0, 1) := by decide +kernel
theorem dL_law_173 : decode cL_law 173 = .ok (.iload 4, 2) := by decide +kernel
theorem dL_law_175 : decode cL_law 175 = .ok (.iconst 2, 1) := by decide +kernel
theorem dL_law_176 : decode cL_law 176 = .ok (.iadd, 1) := by decide +kernel
theorem dL_law_177 : decode cL_law 177 = .ok (.iaload, 1) := by decide +kernel
theorem dL_law_178 : decode cL_law 178 = .ok (.invokevirtual 27, 3) := by decide +kernel
theorem dL_law_181 : decode cL_law 181 = .ok (.if_icmp .eq 492, 3) := by decide +kernel
theorem dL_law_184 : decode cL_law 184 = .ok (.iconst 0, 1) := by decide +kernel
theorem dL_law_185 : decode cL_law 185 = .ok (.ireturn, 1) := by decide +kernel
theorem dL_law_186 : decode cL_law 186 = .ok (.aload_n 1, 1) := by decide +kernel
theorem dL_law_187 : decode cL_law 187 = .ok (.aload_n 0, 1) := by decide +kernel
theorem dL_law_188 : decode cL_law 188 = .ok (.iload 4, 2) := by decide +kernel
theorem dL_law_190 : decode cL_law 190 = .ok (.iconst 1, 1) := by decide +kernel
theorem dL_law_191 : decode cL_law 191 = .ok (.iadd, 1) := by decide +kernel
theorem dL_law_192 : decode cL_law 192 = .ok (.iaload, 1) := by decide +kernel
theorem dL_law_193 : decode cL_law 193 = .ok (.invokevirtual 28, 3) := by decide +kernel
theorem dL_law_196 : decode cL_law 196 = .ok (.aload_n 2, 1) := by decide +kernel
theorem dL_law_197 : decode cL_law 197 = .ok (.aload_n 0, 1) := by decide +kernel
theorem dL_law_198 : decode cL_law 198 = .ok (.iload 4, 2) := by decide +kernel
theorem dL_law_200 : decode cL_law 200 = .ok (.iconst 1, 1) := by decide +kernel
theorem dL_law_201 : decode cL_law 201 = .ok (.iadd, 1) := by decide +kernel
theorem dL_law_202 : decode cL_law 202 = .ok (.iaload, 1) := by decide +kernel
theorem dL_law_203 : decode cL_law 203 = .ok (.invokevirtual 31, 3) := by decide +kernel
theorem dL_law_206 : decode cL_law 206 = .ok (.if_icmp .eq 467, 3) := by decide +kernel
theorem dL_law_209 : decode cL_law 209 = .ok (.iconst 0, 1) := by decide +kernel
theorem dL_law_210 : decode cL_law 210 = .ok (.ireturn, 1) := by decide +kernel
theorem dL_law_211 : decode cL_law 211 = .ok (.aload_n 1, 1) := by decide +kernel
theorem dL_law_212 : decode cL_law 212 = .ok (.aload_n 0, 1) := by decide +kernel
theorem dL_law_213 : decode cL_law 213 = .ok (.iload 4, 2) := by decide +kernel
theorem dL_law_215 : decode cL_law 215 = .ok (.iconst 1, 1) := by decide +kernel
theorem dL_law_216 : decode cL_law 216 = .ok (.iadd, 1) := by decide +kernel
theorem dL_law_217 : decode cL_law 217 = .ok (.iaload, 1) := by decide +kernel
theorem dL_law_218 : decode cL_law 218 = .ok (.aload_n 0, 1) := by decide +kernel
theorem dL_law_219 : decode cL_law 219 = .ok (.iload 4, 2) := by decide +kernel
theorem dL_law_221 : decode cL_law 221 = .ok (.iconst 2, 1) := by decide +kernel
theorem dL_law_222 : decode cL_law 222 = .ok (.iadd, 1) := by decide +kernel
theorem dL_law_223 : decode cL_law 223 = .ok (.iaload, 1) := by decide +kernel
theorem dL_law_224 : decode cL_law 224 = .ok (.aload_n 0, 1) := by decide +kernel
theorem dL_law_225 : decode cL_law 225 = .ok (.iload 4, 2) := by decide +kernel
theorem dL_law_227 : decode cL_law 227 = .ok (.iconst 3, 1) := by decide +kernel
theorem dL_law_228 : decode cL_law 228 = .ok (.iadd, 1) := by decide +kernel
theorem dL_law_229 : decode cL_law 229 = .ok (.iaload, 1) := by decide +kernel
theorem dL_law_230 : decode cL_law 230 = .ok (.i2l, 1) := by decide +kernel
theorem dL_law_231 : decode cL_law 231 = .ok (.bipush 32, 2) := by decide +kernel
theorem dL_law_233 : decode cL_law 233 = .ok (.lshl, 1) := by decide +kernel
theorem dL_law_234 : decode cL_law 234 = .ok (.aload_n 0, 1) := by decide +kernel
theorem dL_law_235 : decode cL_law 235 = .ok (.iload 4, 2) := by decide +kernel
theorem dL_law_237 : decode cL_law 237 = .ok (.iconst 4, 1) := by decide +kernel
theorem dL_law_238 : decode cL_law 238 = .ok (.iadd, 1) := by decide +kernel
theorem dL_law_239 : decode cL_law 239 = .ok (.iaload, 1) := by decide +kernel
theorem dL_law_240 : decode cL_law 240 = .ok (.i2l, 1) := by decide +kernel
theorem dL_law_241 : decode cL_law 241 = .ok (.ldc2_w 32, 3) := by decide +kernel
theorem dL_law_244 : decode cL_law 244 = .ok (.land, 1) := by decide +kernel
theorem dL_law_245 : decode cL_law 245 = .ok (.lor, 1) := by decide +kernel
theorem dL_law_246 : decode cL_law 246 = .ok (.invokevirtual 34, 3) := by decide +kernel
theorem dL_law_249 : decode cL_law 249 = .ok (.aload_n 2, 1) := by decide +kernel
theorem dL_law_250 : decode cL_law 250 = .ok (.aload_n 0, 1) := by decide +kernel
theorem dL_law_251 : decode cL_law 251 = .ok (.iload 4, 2) := by decide +kernel
theorem dL_law_253 : decode cL_law 253 = .ok (.iconst 1, 1) := by decide +kernel
theorem dL_law_254 : decode cL_law 254 = .ok (.iadd, 1) := by decide +kernel
theorem dL_law_255 : decode cL_law 255 = .ok (.iaload, 1) := by decide +kernel
theorem dL_law_256 : decode cL_law 256 = .ok (.aload_n 0, 1) := by decide +kernel
theorem dL_law_257 : decode cL_law 257 = .ok (.iload 4, 2) := by decide +kernel
theorem dL_law_259 : decode cL_law 259 = .ok (.iconst 2, 1) := by decide +kernel
theorem dL_law_260 : decode cL_law 260 = .ok (.iadd, 1) := by decide +kernel
theorem dL_law_261 : decode cL_law 261 = .ok (.iaload, 1) := by decide +kernel
theorem dL_law_262 : decode cL_law 262 = .ok (.aload_n 0, 1) := by decide +kernel
theorem dL_law_263 : decode cL_law 263 = .ok (.iload 4, 2) := by decide +kernel
theorem dL_law_265 : decode cL_law 265 = .ok (.iconst 3, 1) := by decide +kernel
theorem dL_law_266 : decode cL_law 266 = .ok (.iadd, 1) := by decide +kernel
theorem dL_law_267 : decode cL_law 267 = .ok (.iaload, 1) := by decide +kernel
theorem dL_law_268 : decode cL_law 268 = .ok (.i2l, 1) := by decide +kernel
theorem dL_law_269 : decode cL_law 269 = .ok (.bipush 32, 2) := by decide +kernel
theorem dL_law_271 : decode cL_law 271 = .ok (.lshl, 1) := by decide +kernel
theorem dL_law_272 : decode cL_law 272 = .ok (.aload_n 0, 1) := by decide +kernel
theorem dL_law_273 : decode cL_law 273 = .ok (.iload 4, 2) := by decide +kernel
theorem dL_law_275 : decode cL_law 275 = .ok (.iconst 4, 1) := by decide +kernel
theorem dL_law_276 : decode cL_law 276 = .ok (.iadd, 1) := by decide +kernel
theorem dL_law_277 : decode cL_law 277 = .ok (.iaload, 1) := by decide +kernel
theorem dL_law_278 : decode cL_law 278 = .ok (.i2l, 1) := by decide +kernel
theorem dL_law_279 : decode cL_law 279 = .ok (.ldc2_w 32, 3) := by decide +kernel
theorem dL_law_282 : decode cL_law 282 = .ok (.land, 1) := by decide +kernel
theorem dL_law_283 : decode cL_law 283 = .ok (.lor, 1) := by decide +kernel
theorem dL_law_284 : decode cL_law 284 = .ok (.invokevirtual 38, 3) := by decide +kernel
theorem dL_law_287 : decode cL_law 287 = .ok (.if_icmp .eq 386, 3) := by decide +kernel
theorem dL_law_290 : decode cL_law 290 = .ok (.iconst 0, 1) := by decide +kernel
theorem dL_law_291 : decode cL_law 291 = .ok (.ireturn, 1) := by decide +kernel
theorem dL_law_292 : decode cL_law 292 = .ok (.aload_n 1, 1) := by decide +kernel
theorem dL_law_293 : decode cL_law 293 = .ok (.invokevirtual 39, 3) := by decide +kernel
theorem dL_law_296 : decode cL_law 296 = .ok (.aload_n 2, 1) := by decide +kernel
theorem dL_law_297 : decode cL_law 297 = .ok (.invokevirtual 43, 3) := by decide +kernel
theorem dL_law_300 : decode cL_law 300 = .ok (.if_icmp .eq 373, 3) := by decide +kernel
theorem dL_law_303 : decode cL_law 303 = .ok (.iconst 0, 1) := by decide +kernel
theorem dL_law_304 : decode cL_law 304 = .ok (.ireturn, 1) := by decide +kernel
theorem dL_law_305 : decode cL_law 305 = .ok (.aload_n 1, 1) := by decide +kernel
theorem dL_law_306 : decode cL_law 306 = .ok (.aload_n 0, 1) := by decide +kernel
theorem dL_law_307 : decode cL_law 307 = .ok (.iload 4, 2) := by decide +kernel
theorem dL_law_309 : decode cL_law 309 = .ok (.iconst 1, 1) := by decide +kernel
theorem dL_law_310 : decode cL_law 310 = .ok (.iadd, 1) := by decide +kernel
theorem dL_law_311 : decode cL_law 311 = .ok (.iaload, 1) := by decide +kernel
theorem dL_law_312 : decode cL_law 312 = .ok (.invokevirtual 44, 3) := by decide +kernel
theorem dL_law_315 : decode cL_law 315 = .ok (.aload_n 2, 1) := by decide +kernel
theorem dL_law_316 : decode cL_law 316 = .ok (.aload_n 0, 1) := by decide +kernel
theorem dL_law_317 : decode cL_law 317 = .ok (.iload 4, 2) := by decide +kernel
theorem dL_law_319 : decode cL_law 319 = .ok (.iconst 1, 1) := by decide +kernel
theorem dL_law_320 : decode cL_law 320 = .ok (.iadd, 1) := by decide +kernel
theorem dL_law_321 : decode cL_law 321 = .ok (.iaload, 1) := by decide +kernel
theorem dL_law_322 : decode cL_law 322 = .ok (.invokevirtual 47, 3) := by decide +kernel
theorem dL_law_325 : decode cL_law 325 = .ok (.if_icmp .eq 348, 3) := by decide +kernel
theorem dL_law_328 : decode cL_law 328 = .ok (.iconst 0, 1) := by decide +kernel
theorem dL_law_329 : decode cL_law 329 = .ok (.ireturn, 1) := by decide +kernel
theorem dL_law_330 : decode cL_law 330 = .ok (.aload_n 1, 1) := by decide +kernel
theorem dL_law_331 : decode cL_law 331 = .ok (.aload_n 0, 1) := by decide +kernel
theorem dL_law_332 : decode cL_law 332 = .ok (.iload 4, 2) := by decide +kernel
theorem dL_law_334 : decode cL_law 334 = .ok (.iconst 1, 1) := by decide +kernel
theorem dL_law_335 : decode cL_law 335 = .ok (.iadd, 1) := by decide +kernel
theorem dL_law_336 : decode cL_law 336 = .ok (.iaload, 1) := by decide +kernel
theorem dL_law_337 : decode cL_law 337 = .ok (.aload_n 0, 1) := by decide +kernel
theorem dL_law_338 : decode cL_law 338 = .ok (.iload 4, 2) := by decide +kernel
theorem dL_law_340 : decode cL_law 340 = .ok (.iconst 2, 1) := by decide +kernel
theorem dL_law_341 : decode cL_law 341 = .ok (.iadd, 1) := by decide +kernel
theorem dL_law_342 : decode cL_law 342 = .ok (.iaload, 1) := by decide +kernel
theorem dL_law_343 : decode cL_law 343 = .ok (.invokevirtual 48, 3) := by decide +kernel
theorem dL_law_346 : decode cL_law 346 = .ok (.aload_n 2, 1) := by decide +kernel
theorem dL_law_347 : decode cL_law 347 = .ok (.aload_n 0, 1) := by decide +kernel
theorem dL_law_348 : decode cL_law 348 = .ok (.iload 4, 2) := by decide +kernel
theorem dL_law_350 : decode cL_law 350 = .ok (.iconst 1, 1) := by decide +kernel
theorem dL_law_351 : decode cL_law 351 = .ok (.iadd, 1) := by decide +kernel
theorem dL_law_352 : decode cL_law 352 = .ok (.iaload, 1) := by decide +kernel
theorem dL_law_353 : decode cL_law 353 = .ok (.aload_n 0, 1) := by decide +kernel
theorem dL_law_354 : decode cL_law 354 = .ok (.iload 4, 2) := by decide +kernel
theorem dL_law_356 : decode cL_law 356 = .ok (.iconst 2, 1) := by decide +kernel
theorem dL_law_357 : decode cL_law 357 = .ok (.iadd, 1) := by decide +kernel
theorem dL_law_358 : decode cL_law 358 = .ok (.iaload, 1) := by decide +kernel
theorem dL_law_359 : decode cL_law 359 = .ok (.invokevirtual 51, 3) := by decide +kernel
theorem dL_law_362 : decode cL_law 362 = .ok (.if_icmp .eq 311, 3) := by decide +kernel
theorem dL_law_365 : decode cL_law 365 = .ok (.iconst 0, 1) := by decide +kernel
theorem dL_law_366 : decode cL_law 366 = .ok (.ireturn, 1) := by decide +kernel
theorem dL_law_367 : decode cL_law 367 = .ok (.aload_n 1, 1) := by decide +kernel
theorem dL_law_368 : decode cL_law 368 = .ok (.aload_n 0, 1) := by decide +kernel
theorem dL_law_369 : decode cL_law 369 = .ok (.iload 4, 2) := by decide +kernel
theorem dL_law_371 : decode cL_law 371 = .ok (.iconst 1, 1) := by decide +kernel
theorem dL_law_372 : decode cL_law 372 = .ok (.iadd, 1) := by decide +kernel
theorem dL_law_373 : decode cL_law 373 = .ok (.iaload, 1) := by decide +kernel
theorem dL_law_374 : decode cL_law 374 = .ok (.aload_n 0, 1) := by decide +kernel
theorem dL_law_375 : decode cL_law 375 = .ok (.iload 4, 2) := by decide +kernel
theorem dL_law_377 : decode cL_law 377 = .ok (.iconst 2, 1) := by decide +kernel
theorem dL_law_378 : decode cL_law 378 = .ok (.iadd, 1) := by decide +kernel
theorem dL_law_379 : decode cL_law 379 = .ok (.iaload, 1) := by decide +kernel
theorem dL_law_380 : decode cL_law 380 = .ok (.invokevirtual 52, 3) := by decide +kernel
theorem dL_law_383 : decode cL_law 383 = .ok (.aload_n 2, 1) := by decide +kernel
theorem dL_law_384 : decode cL_law 384 = .ok (.aload_n 0, 1) := by decide +kernel
theorem dL_law_385 : decode cL_law 385 = .ok (.iload 4, 2) := by decide +kernel
theorem dL_law_387 : decode cL_law 387 = .ok (.iconst 1, 1) := by decide +kernel
theorem dL_law_388 : decode cL_law 388 = .ok (.iadd, 1) := by decide +kernel
theorem dL_law_389 : decode cL_law 389 = .ok (.iaload, 1) := by decide +kernel
theorem dL_law_390 : decode cL_law 390 = .ok (.aload_n 0, 1) := by decide +kernel
theorem dL_law_391 : decode cL_law 391 = .ok (.iload 4, 2) := by decide +kernel
theorem dL_law_393 : decode cL_law 393 = .ok (.iconst 2, 1) := by decide +kernel
theorem dL_law_394 : decode cL_law 394 = .ok (.iadd, 1) := by decide +kernel
theorem dL_law_395 : decode cL_law 395 = .ok (.iaload, 1) := by decide +kernel
theorem dL_law_396 : decode cL_law 396 = .ok (.invokevirtual 55, 3) := by decide +kernel
theorem dL_law_399 : decode cL_law 399 = .ok (.if_icmp .eq 274, 3) := by decide +kernel
theorem dL_law_402 : decode cL_law 402 = .ok (.iconst 0, 1) := by decide +kernel
theorem dL_law_403 : decode cL_law 403 = .ok (.ireturn, 1) := by decide +kernel
theorem dL_law_404 : decode cL_law 404 = .ok (.aload_n 1, 1) := by decide +kernel
theorem dL_law_405 : decode cL_law 405 = .ok (.invokevirtual 56, 3) := by decide +kernel
theorem dL_law_408 : decode cL_law 408 = .ok (.aload_n 2, 1) := by decide +kernel
theorem dL_law_409 : decode cL_law 409 = .ok (.invokevirtual 59, 3) := by decide +kernel
theorem dL_law_412 : decode cL_law 412 = .ok (.if_icmp .eq 261, 3) := by decide +kernel
theorem dL_law_415 : decode cL_law 415 = .ok (.iconst 0, 1) := by decide +kernel
theorem dL_law_416 : decode cL_law 416 = .ok (.ireturn, 1) := by decide +kernel
theorem dL_law_417 : decode cL_law 417 = .ok (.aload_n 1, 1) := by decide +kernel
theorem dL_law_418 : decode cL_law 418 = .ok (.aload_n 0, 1) := by decide +kernel
theorem dL_law_419 : decode cL_law 419 = .ok (.iload 4, 2) := by decide +kernel
theorem dL_law_421 : decode cL_law 421 = .ok (.iconst 1, 1) := by decide +kernel
theorem dL_law_422 : decode cL_law 422 = .ok (.iadd, 1) := by decide +kernel
theorem dL_law_423 : decode cL_law 423 = .ok (.iaload, 1) := by decide +kernel
theorem dL_law_424 : decode cL_law 424 = .ok (.invokevirtual 60, 3) := by decide +kernel
theorem dL_law_427 : decode cL_law 427 = .ok (.aload_n 2, 1) := by decide +kernel
theorem dL_law_428 : decode cL_law 428 = .ok (.aload_n 0, 1) := by decide +kernel
theorem dL_law_429 : decode cL_law 429 = .ok (.iload 4, 2) := by decide +kernel
theorem dL_law_431 : decode cL_law 431 = .ok (.iconst 1, 1) := by decide +kernel
theorem dL_law_432 : decode cL_law 432 = .ok (.iadd, 1) := by decide +kernel
theorem dL_law_433 : decode cL_law 433 = .ok (.iaload, 1) := by decide +kernel
theorem dL_law_434 : decode cL_law 434 = .ok (.invokevirtual 63, 3) := by decide +kernel
theorem dL_law_437 : decode cL_law 437 = .ok (.if_icmp .eq 236, 3) := by decide +kernel
theorem dL_law_440 : decode cL_law 440 = .ok (.iconst 0, 1) := by decide +kernel
theorem dL_law_441 : decode cL_law 441 = .ok (.ireturn, 1) := by decide +kernel
theorem dL_law_442 : decode cL_law 442 = .ok (.aload_n 1, 1) := by decide +kernel
theorem dL_law_443 : decode cL_law 443 = .ok (.aload_n 0, 1) := by decide +kernel
theorem dL_law_444 : decode cL_law 444 = .ok (.iload 4, 2) := by decide +kernel
theorem dL_law_446 : decode cL_law 446 = .ok (.iconst 1, 1) := by decide +kernel
theorem dL_law_447 : decode cL_law 447 = .ok (.iadd, 1) := by decide +kernel
theorem dL_law_448 : decode cL_law 448 = .ok (.iaload, 1) := by decide +kernel
theorem dL_law_449 : decode cL_law 449 = .ok (.aload_n 0, 1) := by decide +kernel
theorem dL_law_450 : decode cL_law 450 = .ok (.iload 4, 2) := by decide +kernel
theorem dL_law_452 : decode cL_law 452 = .ok (.iconst 2, 1) := by decide +kernel
theorem dL_law_453 : decode cL_law 453 = .ok (.iadd, 1) := by decide +kernel
theorem dL_law_454 : decode cL_law 454 = .ok (.iaload, 1) := by decide +kernel
theorem dL_law_455 : decode cL_law 455 = .ok (.invokevirtual 64, 3) := by decide +kernel
theorem dL_law_458 : decode cL_law 458 = .ok (.aload_n 2, 1) := by decide +kernel
theorem dL_law_459 : decode cL_law 459 = .ok (.aload_n 0, 1) := by decide +kernel
theorem dL_law_460 : decode cL_law 460 = .ok (.iload 4, 2) := by decide +kernel
theorem dL_law_462 : decode cL_law 462 = .ok (.iconst 1, 1) := by decide +kernel
theorem dL_law_463 : decode cL_law 463 = .ok (.iadd, 1) := by decide +kernel
theorem dL_law_464 : decode cL_law 464 = .ok (.iaload, 1) := by decide +kernel
theorem dL_law_465 : decode cL_law 465 = .ok (.aload_n 0, 1) := by decide +kernel
theorem dL_law_466 : decode cL_law 466 = .ok (.iload 4, 2) := by decide +kernel
theorem dL_law_468 : decode cL_law 468 = .ok (.iconst 2, 1) := by decide +kernel
theorem dL_law_469 : decode cL_law 469 = .ok (.iadd, 1) := by decide +kernel
theorem dL_law_470 : decode cL_law 470 = .ok (.iaload, 1) := by decide +kernel
theorem dL_law_471 : decode cL_law 471 = .ok (.invokevirtual 67, 3) := by decide +kernel
theorem dL_law_474 : decode cL_law 474 = .ok (.if_icmp .eq 199, 3) := by decide +kernel
theorem dL_law_477 : decode cL_law 477 = .ok (.iconst 0, 1) := by decide +kernel
theorem dL_law_478 : decode cL_law 478 = .ok (.ireturn, 1) := by decide +kernel
theorem dL_law_479 : decode cL_law 479 = .ok (.aload_n 1, 1) := by decide +kernel
theorem dL_law_480 : decode cL_law 480 = .ok (.aload_n 0, 1) := by decide +kernel
theorem dL_law_481 : decode cL_law 481 = .ok (.iload 4, 2) := by decide +kernel
theorem dL_law_483 : decode cL_law 483 = .ok (.iconst 1, 1) := by decide +kernel
theorem dL_law_484 : decode cL_law 484 = .ok (.iadd, 1) := by decide +kernel
theorem dL_law_485 : decode cL_law 485 = .ok (.iaload, 1) := by decide +kernel
theorem dL_law_486 : decode cL_law 486 = .ok (.invokevirtual 68, 3) := by decide +kernel
theorem dL_law_489 : decode cL_law 489 = .ok (.aload_n 2, 1) := by decide +kernel
theorem dL_law_490 : decode cL_law 490 = .ok (.aload_n 0, 1) := by decide +kernel
theorem dL_law_491 : decode cL_law 491 = .ok (.iload 4, 2) := by decide +kernel
theorem dL_law_493 : decode cL_law 493 = .ok (.iconst 1, 1) := by decide +kernel
theorem dL_law_494 : decode cL_law 494 = .ok (.iadd, 1) := by decide +kernel
theorem dL_law_495 : decode cL_law 495 = .ok (.iaload, 1) := by decide +kernel
theorem dL_law_496 : decode cL_law 496 = .ok (.invokevirtual 71, 3) := by decide +kernel
theorem dL_law_499 : decode cL_law 499 = .ok (.if_icmp .eq 174, 3) := by decide +kernel
theorem dL_law_502 : decode cL_law 502 = .ok (.iconst 0, 1) := by decide +kernel
theorem dL_law_503 : decode cL_law 503 = .ok (.ireturn, 1) := by decide +kernel
theorem dL_law_504 : decode cL_law 504 = .ok (.aload_n 1, 1) := by decide +kernel
theorem dL_law_505 : decode cL_law 505 = .ok (.aload_n 0, 1) := by decide +kernel
theorem dL_law_506 : decode cL_law 506 = .ok (.iload 4, 2) := by decide +kernel
theorem dL_law_508 : decode cL_law 508 = .ok (.iconst 1, 1) := by decide +kernel
theorem dL_law_509 : decode cL_law 509 = .ok (.iadd, 1) := by decide +kernel
theorem dL_law_510 : decode cL_law 510 = .ok (.iaload, 1) := by decide +kernel
theorem dL_law_511 : decode cL_law 511 = .ok (.invokevirtual 72, 3) := by decide +kernel
theorem dL_law_514 : decode cL_law 514 = .ok (.aload_n 2, 1) := by decide +kernel
theorem dL_law_515 : decode cL_law 515 = .ok (.aload_n 0, 1) := by decide +kernel
theorem dL_law_516 : decode cL_law 516 = .ok (.iload 4, 2) := by decide +kernel
theorem dL_law_518 : decode cL_law 518 = .ok (.iconst 1, 1) := by decide +kernel
theorem dL_law_519 : decode cL_law 519 = .ok (.iadd, 1) := by decide +kernel
theorem dL_law_520 : decode cL_law 520 = .ok (.iaload, 1) := by decide +kernel
theorem dL_law_521 : decode cL_law 521 = .ok (.invokevirtual 75, 3) := by decide +kernel
theorem dL_law_524 : decode cL_law 524 = .ok (.if_icmp .eq 149, 3) := by decide +kernel
theorem dL_law_527 : decode cL_law 527 = .ok (.iconst 0, 1) := by decide +kernel
theorem dL_law_528 : decode cL_law 528 = .ok (.ireturn, 1) := by decide +kernel
theorem dL_law_529 : decode cL_law 529 = .ok (.aload_n 1, 1) := by decide +kernel
theorem dL_law_530 : decode cL_law 530 = .ok (.aload_n 0, 1) := by decide +kernel
theorem dL_law_531 : decode cL_law 531 = .ok (.iload 4, 2) := by decide +kernel
theorem dL_law_533 : decode cL_law 533 = .ok (.iconst 1, 1) := by decide +kernel
theorem dL_law_534 : decode cL_law 534 = .ok (.iadd, 1) := by decide +kernel
theorem dL_law_535 : decode cL_law 535 = .ok (.iaload, 1) := by decide +kernel
theorem dL_law_536 : decode cL_law 536 = .ok (.invokevirtual 76, 3) := by decide +kernel
theorem dL_law_539 : decode cL_law 539 = .ok (.aload_n 2, 1) := by decide +kernel
theorem dL_law_540 : decode cL_law 540 = .ok (.aload_n 0, 1) := by decide +kernel
theorem dL_law_541 : decode cL_law 541 = .ok (.iload 4, 2) := by decide +kernel
theorem dL_law_543 : decode cL_law 543 = .ok (.iconst 1, 1) := by decide +kernel
theorem dL_law_544 : decode cL_law 544 = .ok (.iadd, 1) := by decide +kernel
theorem dL_law_545 : decode cL_law 545 = .ok (.iaload, 1) := by decide +kernel
theorem dL_law_546 : decode cL_law 546 = .ok (.invokevirtual 79, 3) := by decide +kernel
theorem dL_law_549 : decode cL_law 549 = .ok (.if_icmp .eq 124, 3) := by decide +kernel
theorem dL_law_552 : decode cL_law 552 = .ok (.iconst 0, 1) := by decide +kernel
theorem dL_law_553 : decode cL_law 553 = .ok (.ireturn, 1) := by decide +kernel
theorem dL_law_554 : decode cL_law 554 = .ok (.aload_n 1, 1) := by decide +kernel
theorem dL_law_555 : decode cL_law 555 = .ok (.aload_n 0, 1) := by decide +kernel
theorem dL_law_556 : decode cL_law 556 = .ok (.iload 4, 2) := by decide +kernel
theorem dL_law_558 : decode cL_law 558 = .ok (.iconst 1, 1) := by decide +kernel
theorem dL_law_559 : decode cL_law 559 = .ok (.iadd, 1) := by decide +kernel
theorem dL_law_560 : decode cL_law 560 = .ok (.iaload, 1) := by decide +kernel
theorem dL_law_561 : decode cL_law 561 = .ok (.invokevirtual 80, 3) := by decide +kernel
theorem dL_law_564 : decode cL_law 564 = .ok (.aload_n 2, 1) := by decide +kernel
theorem dL_law_565 : decode cL_law 565 = .ok (.aload_n 0, 1) := by decide +kernel
theorem dL_law_566 : decode cL_law 566 = .ok (.iload 4, 2) := by decide +kernel
theorem dL_law_568 : decode cL_law 568 = .ok (.iconst 1, 1) := by decide +kernel
theorem dL_law_569 : decode cL_law 569 = .ok (.iadd, 1) := by decide +kernel
theorem dL_law_570 : decode cL_law 570 = .ok (.iaload, 1) := by decide +kernel
theorem dL_law_571 : decode cL_law 571 = .ok (.invokevirtual 83, 3) := by decide +kernel
theorem dL_law_574 : decode cL_law 574 = .ok (.if_icmp .eq 99, 3) := by decide +kernel
theorem dL_law_577 : decode cL_law 577 = .ok (.iconst 0, 1) := by decide +kernel
theorem dL_law_578 : decode cL_law 578 = .ok (.ireturn, 1) := by decide +kernel
theorem dL_law_579 : decode cL_law 579 = .ok (.aload_n 1, 1) := by decide +kernel
theorem dL_law_580 : decode cL_law 580 = .ok (.aload_n 0, 1) := by decide +kernel
theorem dL_law_581 : decode cL_law 581 = .ok (.iload 4, 2) := by decide +kernel
theorem dL_law_583 : decode cL_law 583 = .ok (.iconst 1, 1) := by decide +kernel
theorem dL_law_584 : decode cL_law 584 = .ok (.iadd, 1) := by decide +kernel
theorem dL_law_585 : decode cL_law 585 = .ok (.iaload, 1) := by decide +kernel
theorem dL_law_586 : decode cL_law 586 = .ok (.aload_n 0, 1) := by decide +kernel
theorem dL_law_587 : decode cL_law 587 = .ok (.iload 4, 2) := by decide +kernel
theorem dL_law_589 : decode cL_law 589 = .ok (.iconst 2, 1) := by decide +kernel
theorem dL_law_590 : decode cL_law 590 = .ok (.iadd, 1) := by decide +kernel
theorem dL_law_591 : decode cL_law 591 = .ok (.iaload, 1) := by decide +kernel
theorem dL_law_592 : decode cL_law 592 = .ok (.aload_n 3, 1) := by decide +kernel
theorem dL_law_593 : decode cL_law 593 = .ok (.invokestatic 84, 3) := by decide +kernel
theorem dL_law_596 : decode cL_law 596 = .ok (.istore 5, 2) := by decide +kernel
theorem dL_law_598 : decode cL_law 598 = .ok (.aload_n 2, 1) := by decide +kernel
theorem dL_law_599 : decode cL_law 599 = .ok (.aload_n 0, 1) := by decide +kernel
theorem dL_law_600 : decode cL_law 600 = .ok (.iload 4, 2) := by decide +kernel
theorem dL_law_602 : decode cL_law 602 = .ok (.iconst 1, 1) := by decide +kernel
theorem dL_law_603 : decode cL_law 603 = .ok (.iadd, 1) := by decide +kernel
theorem dL_law_604 : decode cL_law 604 = .ok (.iaload, 1) := by decide +kernel
theorem dL_law_605 : decode cL_law 605 = .ok (.aload_n 0, 1) := by decide +kernel
theorem dL_law_606 : decode cL_law 606 = .ok (.iload 4, 2) := by decide +kernel
theorem dL_law_608 : decode cL_law 608 = .ok (.iconst 2, 1) := by decide +kernel
theorem dL_law_609 : decode cL_law 609 = .ok (.iadd, 1) := by decide +kernel
theorem dL_law_610 : decode cL_law 610 = .ok (.iaload, 1) := by decide +kernel
theorem dL_law_611 : decode cL_law 611 = .ok (.invokevirtual 89, 3) := by decide +kernel
theorem dL_law_614 : decode cL_law 614 = .ok (.istore 6, 2) := by decide +kernel
theorem dL_law_616 : decode cL_law 616 = .ok (.aload_n 2, 1) := by decide +kernel
theorem dL_law_617 : decode cL_law 617 = .ok (.invokevirtual 90, 3) := by decide +kernel
theorem dL_law_620 : decode cL_law 620 = .ok (.iload 5, 2) := by decide +kernel
theorem dL_law_622 : decode cL_law 622 = .ok (.if_icmp .eq 5, 3) := by decide +kernel
theorem dL_law_625 : decode cL_law 625 = .ok (.iconst 0, 1) := by decide +kernel
theorem dL_law_626 : decode cL_law 626 = .ok (.ireturn, 1) := by decide +kernel
theorem dL_law_627 : decode cL_law 627 = .ok (.iload 5, 2) := by decide +kernel
theorem dL_law_629 : decode cL_law 629 = .ok (.ifCond .ne 15, 3) := by decide +kernel
theorem dL_law_632 : decode cL_law 632 = .ok (.aload_n 3, 1) := by decide +kernel
theorem dL_law_633 : decode cL_law 633 = .ok (.iconst 0, 1) := by decide +kernel
theorem dL_law_634 : decode cL_law 634 = .ok (.laload, 1) := by decide +kernel
theorem dL_law_635 : decode cL_law 635 = .ok (.iload 6, 2) := by decide +kernel
theorem dL_law_637 : decode cL_law 637 = .ok (.i2l, 1) := by decide +kernel
theorem dL_law_638 : decode cL_law 638 = .ok (.lcmp, 1) := by decide +kernel
theorem dL_law_639 : decode cL_law 639 = .ok (.ifCond .eq 5, 3) := by decide +kernel
theorem dL_law_642 : decode cL_law 642 = .ok (.iconst 0, 1) := by decide +kernel
theorem dL_law_643 : decode cL_law 643 = .ok (.ireturn, 1) := by decide +kernel
theorem dL_law_644 : decode cL_law 644 = .ok (.goto 29, 3) := by decide +kernel
theorem dL_law_647 : decode cL_law 647 = .ok (.aload_n 1, 1) := by decide +kernel
theorem dL_law_648 : decode cL_law 648 = .ok (.invokevirtual 93, 3) := by decide +kernel
theorem dL_law_651 : decode cL_law 651 = .ok (.aload_n 2, 1) := by decide +kernel
theorem dL_law_652 : decode cL_law 652 = .ok (.invokevirtual 96, 3) := by decide +kernel
theorem dL_law_655 : decode cL_law 655 = .ok (.if_icmp .eq 18, 3) := by decide +kernel
theorem dL_law_658 : decode cL_law 658 = .ok (.iconst 0, 1) := by decide +kernel
theorem dL_law_659 : decode cL_law 659 = .ok (.ireturn, 1) := by decide +kernel
theorem dL_law_660 : decode cL_law 660 = .ok (.aload_n 1, 1) := by decide +kernel
theorem dL_law_661 : decode cL_law 661 = .ok (.invokevirtual 97, 3) := by decide +kernel
theorem dL_law_664 : decode cL_law 664 = .ok (.aload_n 2, 1) := by decide +kernel
theorem dL_law_665 : decode cL_law 665 = .ok (.invokevirtual 100, 3) := by decide +kernel
theorem dL_law_668 : decode cL_law 668 = .ok (.if_icmp .eq 5, 3) := by decide +kernel
theorem dL_law_671 : decode cL_law 671 = .ok (.iconst 0, 1) := by decide +kernel
theorem dL_law_672 : decode cL_law 672 = .ok (.ireturn, 1) := by decide +kernel
theorem dL_law_673 : decode cL_law 673 = .ok (.iinc 4 5, 3) := by decide +kernel
theorem dL_law_676 : decode cL_law 676 = .ok (.goto (-653), 3) := by decide +kernel
theorem dL_law_679 : decode cL_law 679 = .ok (.iconst 1, 1) := by decide +kernel
theorem dL_law_680 : decode cL_law 680 = .ok (.ireturn, 1) := by decide +kernel
end
section
/-! ===== the layer: ints by their mathematical values, one judgement JW of a point of a method, one contract form Ctr ===== -/
def iI (z : Int) : Int32 := Int32.ofInt z
def lI (z : Int) : Int64 := Int64.ofInt z
abbrev inR (z : Int) : Prop := -2147483648 ≤ z ∧ z < 2147483648
abbrev inL (z : Int) : Prop := -9223372036854775808 ≤ z ∧ z < 9223372036854775808
theorem iI_toInt {z : Int} (h : inR z) : (iI z).toInt = z := by
  unfold iI
  exact Int32.toInt_ofInt_of_le (by have := h.1; simpa using this) (by have := h.2; simpa using this)
theorem lI_toInt {z : Int} (h : inL z) : (lI z).toInt = z := by
  unfold lI
  exact Int64.toInt_ofInt_of_le (by have := h.1; simpa using this) (by have := h.2; simpa using this)
theorem iI_of (x : Int32) : iI x.toInt = x := Int32.ofInt_toInt x
theorem lI_of (x : Int64) : lI x.toInt = x := Int64.ofInt_toInt x
theorem inR_of (x : Int32) : inR x.toInt := ⟨Int32.le_toInt x, Int32.toInt_lt x⟩
theorem inL_of (x : Int64) : inL x.toInt := ⟨Int64.le_toInt x, Int64.toInt_lt x⟩
theorem iI_add (a b : Int) : iI a + iI b = iI (a + b) := (Int32.ofInt_add a b).symm
theorem iI_sub (a b : Int) : iI a - iI b = iI (a - b) := (Int32.ofInt_sub a b).symm
theorem iI_mul (a b : Int) : iI a * iI b = iI (a * b) := (Int32.ofInt_mul a b).symm
theorem iI_neg (a : Int) : -(iI a) = iI (-a) := (Int32.ofInt_neg a).symm
theorem lI_add (a b : Int) : lI a + lI b = lI (a + b) := (Int64.ofInt_add a b).symm
theorem lI_sub (a b : Int) : lI a - lI b = lI (a - b) := (Int64.ofInt_sub a b).symm
theorem lI_mul (a b : Int) : lI a * lI b = lI (a * b) := (Int64.ofInt_mul a b).symm
theorem lI_neg (a : Int) : -(lI a) = lI (-a) := (Int64.ofInt_neg a).symm
theorem iI_lt {a b : Int} (ha : inR a) (hb : inR b) : iI a < iI b ↔ a < b := by rw [Int32.lt_iff_toInt_lt, iI_toInt ha, iI_toInt hb]
theorem iI_le {a b : Int} (ha : inR a) (hb : inR b) : iI a ≤ iI b ↔ a ≤ b := by rw [Int32.le_iff_toInt_le, iI_toInt ha, iI_toInt hb]
theorem iI_eq {a b : Int} (ha : inR a) (hb : inR b) : iI a = iI b ↔ a = b := by rw [← Int32.toInt_inj, iI_toInt ha, iI_toInt hb]
theorem lI_lt {a b : Int} (ha : inL a) (hb : inL b) : lI a < lI b ↔ a < b := by rw [Int64.lt_iff_toInt_lt, lI_toInt ha, lI_toInt hb]
theorem lI_le {a b : Int} (ha : inL a) (hb : inL b) : lI a ≤ lI b ↔ a ≤ b := by rw [Int64.le_iff_toInt_le, lI_toInt ha, lI_toInt hb]
theorem lI_eq {a b : Int} (ha : inL a) (hb : inL b) : lI a = lI b ↔ a = b := by rw [← Int64.toInt_inj, lI_toInt ha, lI_toInt hb]
theorem iI_0 : iI 0 = 0 := rfl
theorem iI_l {a : Int} (h : inR a) : (iI a).toInt64 = lI a := by
  apply Int64.toInt_inj.mp
  rw [Int32.toInt_toInt64, iI_toInt h, lI_toInt (by omega)]
theorem lI_i (a : Int) : (lI a).toInt32 = iI a := by
  unfold lI iI
  exact Int64.toInt32_ofInt
theorem iI_nat (n : Nat) : iI (n : Int) = nI n := by
  unfold iI nI
  exact Int32.ofInt_eq_ofNat
theorem iI_clamp {a : Int} (h0 : 0 ≤ a) (h1 : a < 2147483648) : (iI a).toNatClampNeg = a.toNat := by
  unfold Int32.toNatClampNeg
  rw [iI_toInt (by omega)]
theorem iI_in {a : Int} {n : Nat} (h0 : 0 ≤ a) (h1 : a < n) (hn : n < 2147483648) : vp_in (iI a) n := vp_in_iff.mpr (by rw [iI_toInt (by omega)]; exact ⟨h0, h1⟩)
theorem iI_toBv (a : Int) : (iI a).toBitVec = BitVec.ofInt 32 a := by unfold iI; exact Int32.toBitVec_ofInt a
theorem lI_toBv (a : Int) : (lI a).toBitVec = BitVec.ofInt 64 a := by unfold lI; exact Int64.toBitVec_ofInt a
def zAnd (a b : Int) : Int := (iI a &&& iI b).toInt
def zOr (a b : Int) : Int := (iI a ||| iI b).toInt
def zXor (a b : Int) : Int := (iI a ^^^ iI b).toInt
def zAndL (a b : Int) : Int := (lI a &&& lI b).toInt
def zOrL (a b : Int) : Int := (lI a ||| lI b).toInt
theorem iI_and (a b : Int) : iI a &&& iI b = iI (zAnd a b) := (iI_of _).symm
theorem iI_or (a b : Int) : iI a ||| iI b = iI (zOr a b) := (iI_of _).symm
theorem iI_xor (a b : Int) : iI a ^^^ iI b = iI (zXor a b) := (iI_of _).symm
theorem lI_and (a b : Int) : lI a &&& lI b = lI (zAndL a b) := (lI_of _).symm
theorem lI_or (a b : Int) : lI a ||| lI b = lI (zOrL a b) := (lI_of _).symm
theorem sh32 (k : Nat) (hk : k < 32) : ((iI (k : Int) &&& 31).toBitVec.smod 32).toNat = k := by
  rw [iI_nat]
  have h : ∀ n, n < 32 → ((nI n &&& 31).toBitVec.smod 32).toNat = n := by decide +kernel
  exact h k hk
theorem shu32 (k : Nat) (hk : k < 32) : (((iI (k : Int)).toUInt32 &&& Int32.toUInt32 31).toBitVec % 32).toNat = k := by
  rw [iI_nat]
  have h : ∀ n, n < 32 → (((nI n).toUInt32 &&& Int32.toUInt32 31).toBitVec % 32).toNat = n := by decide +kernel
  exact h k hk
theorem iI_shr {a k : Int} (ha : inR a) (h0 : 0 ≤ k) (h1 : k < 32) : iI a >>> (iI k &&& 31) = iI (a / 2 ^ k.toNat) := by
  obtain ⟨n, rfl⟩ := Int.eq_ofNat_of_zero_le h0
  apply Int32.toInt_inj.mp
  rw [pk_shr _ _ n (sh32 n (by omega)), iI_toInt ha, Int.shiftRight_eq_div_pow]
  rw [iI_toInt]
  · rfl
  · have h2 : (0 : Int) < 2 ^ n := Int.pow_pos (by decide)
    constructor
    · have : -2147483648 ≤ a / 2 ^ n := by
        rw [Int.le_ediv_iff_mul_le h2]
        have h3 : (1 : Int) ≤ 2 ^ n := by omega
        have := Int.mul_le_mul_of_nonneg_left h3 (show (0:Int) ≤ 2147483648 by decide)
        have := ha.1
        omega
      exact this
    · have : a / 2 ^ n < 2147483648 := by
        rw [Int.ediv_lt_iff_lt_mul h2]
        have h3 : (1 : Int) ≤ 2 ^ n := by omega
        have := Int.mul_le_mul_of_nonneg_left h3 (show (0:Int) ≤ 2147483648 by decide)
        have := ha.2
        omega
      exact this
theorem iI_shl {a k : Int} (h0 : 0 ≤ k) (h1 : k < 32) : iI a <<< (iI k &&& 31) = iI (a * 2 ^ k.toNat) := by
  obtain ⟨n, rfl⟩ := Int.eq_ofNat_of_zero_le h0
  apply Int32.toBitVec_inj.mp
  apply BitVec.eq_of_toNat_eq
  rw [pk_shl _ _ n (sh32 n (by omega)), iI_toBv, iI_toBv, BitVec.toNat_ofInt, BitVec.toNat_ofInt, Int.toNat_natCast]
  have hM0 : ((2 ^ 32 : Nat) : Int) ≠ 0 := by decide
  generalize (2 ^ 32 : Nat) = M at hM0 ⊢
  apply Int.ofNat.inj
  show (((a % (M : Int)).toNat * 2 ^ n % M : Nat) : Int) = ((a * 2 ^ n % (M : Int)).toNat : Int)
  rw [Int.toNat_of_nonneg (Int.emod_nonneg _ hM0), Int.natCast_emod, Int.natCast_mul, Int.toNat_of_nonneg (Int.emod_nonneg _ hM0), Int.natCast_pow]
  rw [Int.mul_emod, Int.emod_emod_of_dvd _ (Int.dvd_refl _), ← Int.mul_emod]
  rfl
theorem zpow_le {k n : Nat} (h : k ≤ n) : (2 : Int) ^ k ≤ 2 ^ n := by
  have := Nat.pow_le_pow_right (n := 2) (by decide) h
  exact_mod_cast this
theorem zpow_dvd {k n : Nat} (h : k ≤ n) : (2 : Int) ^ k ∣ 2 ^ n := ⟨2 ^ (n - k), by rw [← Int.pow_add, Nat.add_sub_cancel' h]⟩
theorem bv_mod (a : Int) (k : Nat) (hk : k ≤ 32) : (((BitVec.ofInt 32 a).toNat % 2 ^ k : Nat) : Int) = a % 2 ^ k := by
  rw [BitVec.toNat_ofInt, Int.natCast_emod, Int.toNat_of_nonneg (Int.emod_nonneg _ (by decide)), Int.natCast_pow, Int.natCast_pow]
  exact Int.emod_emod_of_dvd _ (zpow_dvd hk)
theorem zAnd_mask {a m : Int} (k : Nat) (hk : k ≤ 30) (hm : m = 2 ^ k - 1) : zAnd a m = a % 2 ^ k := by
  have hp : (2 : Int) ^ k ≤ 2 ^ 30 := zpow_le hk
  have hp0 : (0 : Int) < 2 ^ k := Int.pow_pos (by decide)
  have h30 : (2 : Int) ^ 30 = 1073741824 := by decide
  have hb : (iI m).toBitVec.toNat = 2 ^ k - 1 := by
    rw [iI_toBv, BitVec.toNat_ofInt]
    have h2 : ((2 ^ 32 : Nat) : Int) = 4294967296 := by decide
    rw [h2, Int.emod_eq_of_lt (by omega) (by omega)]
    have h3 : ((2 ^ k : Nat) : Int) = 2 ^ k := Int.natCast_pow 2 k
    omega
  unfold zAnd
  rw [pk_and _ k hb, ← iI_nat, iI_toBv, bv_mod a k (by omega)]
  have h1 := Int.emod_nonneg a (show (2 : Int) ^ k ≠ 0 by omega)
  have h2 := Int.emod_lt_of_pos a hp0
  exact iI_toInt (by omega)
/-! static premises, words -/
def isNest : Cond → Bool
  | .fieldLinkNest .. => true
  | .methodLinkNest .. => true
  | _ => false
def TB : List Cond := lw_tbl.filter goodWord
def NL : List Cond := lw_tbl.filter isNest
abbrev GG : Type := va_G × (Nat → ClassId) × (Nat → Nat)
def gT (g : GG) : List (ClassId × FieldType) := [(g.2.1 0, .int), (g.2.1 1, .long), (g.2.1 2, .array .int), (g.2.1 3, .object "SamplePacks$RowForm")]
def zFirst : Nat → Int := fun k => [0, 0, 2, 3].getD k 0
def zSecond : Nat → Int := fun k => [1, 2, 1, 2].getD k 0
def zFixed : Nat → Int := fun k => [0, 0, 0, 0, 1, 0, 0, 0, 2, -1, 0, 0, 3, -3, 1, 0, 4, -6, 4, -1].getD k 0
def gS (g : GG) (A : Nat → Prop) (U : State) (H : Heap) : Prop :=
  (va_Z "SamplePacks" "FIRST_ROW" "[I" (.ref (g.2.2 0)) A U H ∧ va_T .int (g.2.2 0) 4 (fun k => .int (iI (zFirst k))) A U H) ∧
  (va_Z "SamplePacks" "SECOND_ROW" "[I" (.ref (g.2.2 1)) A U H ∧ va_T .int (g.2.2 1) 4 (fun k => .int (iI (zSecond k))) A U H) ∧
  (va_Z "SamplePacks" "FIXED_COEFFICIENTS" "[I" (.ref (g.2.2 2)) A U H ∧ va_T .int (g.2.2 2) 20 (fun k => .int (iI (zFixed k))) A U H)
theorem gS.moved {g : GG} {A : Nat → Prop} {u U : State} {H : Heap} (hvm : u.vm.Alike U.vm) (h : gS g A u H) : gS g A U H := ⟨⟨va_Z.moved hvm h.1.1, va_T.moved hvm h.1.2⟩, ⟨va_Z.moved hvm h.2.1.1, va_T.moved hvm h.2.1.2⟩, ⟨va_Z.moved hvm h.2.2.1, va_T.moved hvm h.2.2.2⟩⟩
theorem gS.kept {g : GG} {A : Nat → Prop} {U : State} {H H1 : Heap} (h : gS g A U H) (hq : ∀ a : Nat, a < H.size → ¬ A a → H1[a]? = H[a]?) : gS g A U H1 := ⟨⟨va_Z.kept h.1.1 hq, va_T.kept h.1.2 hq⟩, ⟨va_Z.kept h.2.1.1 hq, va_T.kept h.2.1.2 hq⟩, ⟨va_Z.kept h.2.2.1 hq, va_T.kept h.2.2.2 hq⟩⟩
theorem gS.narrow {g : GG} {A B : Nat → Prop} {U : State} {H : Heap} (h : gS g A U H) (hq : ∀ a, B a → A a) : gS g B U H := ⟨⟨va_Z.narrow h.1.1 hq, va_T.narrow h.1.2 hq⟩, ⟨va_Z.narrow h.2.1.1 hq, va_T.narrow h.2.1.2 hq⟩, ⟨va_Z.narrow h.2.2.1 hq, va_T.narrow h.2.2.2 hq⟩⟩
def gN (U : State) : Prop := ∀ w ∈ NL, va_Nw w U
theorem gN.warm {s U : State} (hW : s.WarmedH U.vm) (h : gN s) : gN U := by
  intro w hw
  have h1 := h w hw
  have h2 : isNest w = true := (List.mem_filter.mp hw).2
  cases w <;> first | exact va_Nw.warmF hW h1 | exact va_Nw.warmM hW h1 | cases h2
theorem gN.same {s U : State} (e : s.vm = U.vm) (h : gN s) : gN U := by
  intro w hw
  have h1 := h w hw
  have h2 : isNest w = true := (List.mem_filter.mp hw).2
  cases w <;> first | exact va_Nw.same rfl e h1 | cases h2
/-! the point of a method -/
abbrev XX : Type := (Program × Launch × Env × Room × State) × (MethodId × Array Value × List Frame × Method × Code) × (GG × (Nat → Prop) × Nat × (State → Prop))
abbrev XX.p (x : XX) : Program := x.1.1
abbrev XX.l (x : XX) : Launch := x.1.2.1
abbrev XX.e (x : XX) : Env := x.1.2.2.1
abbrev XX.R (x : XX) : Room := x.1.2.2.2.1
abbrev XX.s (x : XX) : State := x.1.2.2.2.2
abbrev XX.m (x : XX) : MethodId := x.2.1.1
abbrev XX.args (x : XX) : Array Value := x.2.1.2.1
abbrev XX.below (x : XX) : List Frame := x.2.1.2.2.1
abbrev XX.meth (x : XX) : Method := x.2.1.2.2.2.1
abbrev XX.c (x : XX) : Code := x.2.1.2.2.2.2
abbrev XX.g (x : XX) : GG := x.2.2.1
abbrev XX.A (x : XX) : Nat → Prop := x.2.2.2.1
abbrev XX.nL (x : XX) : Nat := x.2.2.2.2.1
abbrev XX.Q (x : XX) : State → Prop := x.2.2.2.2.2
def JB (x : XX) (cc : ByteArray) (own : String) (fr lo mc ms nL : Nat) : Prop :=
  x.p.tables.exec = Jvm.exec ∧ x.c.code = cc ∧ x.c.maxLocals = nL ∧ x.s.vm.findClass own = some x.m.cls ∧ (∀ w ∈ TB, w.before x.args x.s = true) ∧
  va_K x.g.1 vwCl (gT x.g) x.s ∧ gN x.s ∧ gS x.g x.A x.s x.s.heap ∧ (∀ q, x.s.heap.size ≤ q → x.A q) ∧
  (fr ≤ x.R.frames ∧ lo ≤ x.R.locals ∧ mc ≤ x.R.cells ∧ ms ≤ x.R.slots) ∧ x.nL = nL
def JW (x : XX) (ck sk pc : Nat) (lv : List (Nat × Value)) (st : List Value) (ws : va_W) : Prop :=
  ∀ (H : Heap) (locs : List Loc) (ls : Array Slot), va_P x.g.1 vwCl ws H → va_D x.A ws → va_S x.A x.s.heap H locs → lv_has ls x.nL lv →
    W x.p x.l x.e x.R x.s x.m x.args x.below x.meth x.c H locs ck sk x.Q (F0 x.m pc ls st)
/-- where a method ends: which world, what is owed -/
def cQ (g : GG) (ws : va_W) (sz : Nat) (Post : Option Value → va_W → Prop) : Array Value → State → Outcome → State → Prop := fun _ st oc t =>
  (∃ (v : Option Value) (w1 : va_W), oc = .returned v ∧ Post v w1 ∧ va_P g.1 vwCl w1 t.heap ∧ va_D (va_A ws sz) w1) ∧ va_F (va_A ws sz) st t
def JR (x : XX) (ret : Option FieldType) (mc ms : Nat) (ws : va_W) (Post : Option Value → va_W → Prop) : Prop :=
  x.meth.sig.returnType = ret ∧ x.meth.locks = false ∧ x.A = va_A ws x.s.heap.size ∧ x.Q = MQ x.below (cQ x.g ws x.s.heap.size Post) x.args x.s mc ms x.A
def cP (g : GG) (av : List Value) (ws : va_W) (sz : Nat) : Array Value → State → Prop :=
  va_Pc av (fun U => U.heap.size = sz ∧ va_P g.1 vwCl ws U.heap ∧ va_K g.1 vwCl (gT g) U ∧ va_D (fun _ => True) ws ∧ gN U ∧ gS g (va_A ws sz) U U.heap)
/-- a method's contract: from the world ws, with the arguments av, it returns, and Post -/
def Ctr (l : Launch) (g : GG) (y : MethodName) (bytes : ByteArray) (maxL : Nat) (ret : Option FieldType) (fr lo mc ms : Nat) (av : List Value) (ws : va_W) (Post : Option Value → va_W → Prop) : Prop :=
  ∀ sz : Nat, Met l y (Cond.code y bytes maxL ret :: TB) { frames := fr, cells := mc, slots := ms, locals := lo } (cP g av ws sz) (cQ g ws sz Post) mc ms (va_A ws sz)
theorem cP_blind (g : GG) (av : List Value) (ws : va_W) (sz : Nat) : FrameBlind (cP g av ws sz) := by
  intro a U fr mk h
  obtain ⟨e, h1, h2, h3, h4, h5, h6⟩ := h
  exact ⟨e, h1, h2, va_K.moved (u := U) (U := U.calling fr mk a) (Vm.Alike.refl U.vm) h3, h4, gN.same (s := U) (U := U.calling fr mk a) rfl h5, gS.moved (u := U) (U := U.calling fr mk a) (Vm.Alike.refl U.vm) h6⟩
theorem Ctr.of {l : Launch} {g : GG} {y : MethodName} {bytes : ByteArray} {maxL : Nat} {ret : Option FieldType} {fr lo mc ms : Nat} {av : List Value} {ws : va_W} {Post : Option Value → va_W → Prop} (lv : List (Nat × Value))
    (hy : plainName y.cls = true) (hav : (lg_sl av).length ≤ maxL) (hlv : lv_args 0 av = lv)
    (body : ∀ x : XX, x.l = l → x.g = g → JB x bytes y.cls fr lo mc ms maxL → JR x ret mc ms ws Post → (y.name = "<init>" → x.meth.name = "<init>") → JW x 0 0 0 lv [] ws) : Ctr l g y bytes maxL ret fr lo mc ms av ws Post := by
  intro sz
  refine Met.ofW (cc := bytes) (maxL := maxL) (ret := ret) hy rfl ?_
  intro p e s m args below meth c s₁ B hml hv
  obtain ⟨rfl, hsz, hP, hK, hD, hN, hS⟩ := hv
  subst hsz
  have hts : ∀ w ∈ TB, w.before av.toArray s = true := fun w hw => atoms_spec (ws := Cond.code y bytes maxL ret :: TB) B.pre w (List.mem_cons_of_mem _ hw)
  have hx := body ((p, l, e, { frames := fr, cells := mc, slots := ms, locals := lo }, s), (m, av.toArray, below, meth, c), (g, va_A ws s.heap.size, maxL, MQ below (cQ g ws s.heap.size Post) av.toArray s mc ms (va_A ws s.heap.size))) rfl rfl
    ⟨B.exec, B.bytes, hml, findClass_of_methodNamed B.named, hts, hK, hN, hS, fun q h => Or.inr h, ⟨Nat.le_refl _, Nat.le_refl _, Nat.le_refl _, Nat.le_refl _⟩, rfl⟩
    ⟨B.returns, B.notSynchronized, rfl, rfl⟩ (fun h => (name_of_methodNamed B.named B.method).1.trans h)
  have hl := lv_entry av hav
  rw [hlv] at hl
  rw [lg_entry_eq]
  exact hx s.heap [] _ hP (hD.self (sz := s.heap.size)) va_S.rf hl

theorem zpow_pos (k : Nat) : (0 : Int) < 2 ^ k := Int.pow_pos (by decide)
section JRows
variable {x : XX} {cc : ByteArray} {own : String} {fr lo mc ms nL ck sk pc : Nat} {lv : List (Nat × Value)} {st : List Value} {ws : va_W}
theorem j_iconst (B : JB x cc own fr lo mc ms nL) {n : Int} (d : decode cc pc = .ok (.iconst n, 1)) (k : JW x ck sk (pc + 1) lv (.int (iI n) :: st) ws) : JW x ck sk pc lv st ws := fun H locs ls hP hD hS hl => lv_iconst B.1 B.2.1 d rfl (k H locs ls hP hD hS hl)
theorem j_bipush (B : JB x cc own fr lo mc ms nL) {n : Int} (d : decode cc pc = .ok (.bipush n, 2)) (h : (Int8.ofInt n).toInt32 = iI n) (k : JW x ck sk (pc + 2) lv (.int (iI n) :: st) ws) : JW x ck sk pc lv st ws := fun H locs ls hP hD hS hl => lv_bipush B.1 B.2.1 d h (k H locs ls hP hD hS hl)
theorem j_sipush (B : JB x cc own fr lo mc ms nL) {n : Int} (d : decode cc pc = .ok (.sipush n, 3)) (h : (Int16.ofInt n).toInt32 = iI n) (k : JW x ck sk (pc + 3) lv (.int (iI n) :: st) ws) : JW x ck sk pc lv st ws := fun H locs ls hP hD hS hl => lv_sipush B.1 B.2.1 d h (k H locs ls hP hD hS hl)
theorem j_lconst (B : JB x cc own fr lo mc ms nL) {n : Fin 2} {z : Int} (d : decode cc pc = .ok (.lconst n, 1)) (h : Int64.ofNat (n : Nat) = lI z) (k : JW x ck sk (pc + 1) lv (.long (lI z) :: st) ws) : JW x ck sk pc lv st ws := fun H locs ls hP hD hS hl => lv_lconst B.1 B.2.1 d h (k H locs ls hP hD hS hl)
theorem j_ldc (B : JB x cc own fr lo mc ms nL) {i : Nat} {v : Int32} {z : Int} (w : Cond.constant own i v ∈ TB) (h : v = iI z) (d : decode cc pc = .ok (.ldc i, 2)) (k : JW x ck sk (pc + 2) lv (.int (iI z) :: st) ws) : JW x ck sk pc lv st ws := fun H locs ls hP hD hS hl => lv_ldc B.1 B.2.1 B.2.2.2.1 (B.2.2.2.2.1 _ w) d (by rw [h]; exact k H locs ls hP hD hS hl)
theorem j_ldcw (B : JB x cc own fr lo mc ms nL) {i : Nat} {v : Int32} {z : Int} (w : Cond.constant own i v ∈ TB) (h : v = iI z) (d : decode cc pc = .ok (.ldc_w i, 3)) (k : JW x ck sk (pc + 3) lv (.int (iI z) :: st) ws) : JW x ck sk pc lv st ws := fun H locs ls hP hD hS hl => lv_ldcw B.1 B.2.1 B.2.2.2.1 (B.2.2.2.2.1 _ w) d (by rw [h]; exact k H locs ls hP hD hS hl)
theorem j_ldc2 (B : JB x cc own fr lo mc ms nL) {i : Nat} {v : Int64} {z : Int} (w : Cond.constantLong own i v ∈ TB) (h : v = lI z) (d : decode cc pc = .ok (.ldc2_w i, 3)) (k : JW x ck sk (pc + 3) lv (.long (lI z) :: st) ws) : JW x ck sk pc lv st ws := fun H locs ls hP hD hS hl => lv_ldc2 B.1 B.2.1 B.2.2.2.1 (B.2.2.2.2.1 _ w) d (by rw [h]; exact k H locs ls hP hD hS hl)
theorem j_iload_n (B : JB x cc own fr lo mc ms nL) {n : Fin 4} {v : Int32} (d : decode cc pc = .ok (.iload_n n, 1)) (q : Nat) (h : lv[q]? = some ((n : Nat), .int v)) (k : JW x ck sk (pc + 1) lv (.int v :: st) ws) : JW x ck sk pc lv st ws := fun H locs ls hP hD hS hl => lv_iload_n B.1 B.2.1 d rfl (lv_at hl q h) (k H locs ls hP hD hS hl)
theorem j_iload (B : JB x cc own fr lo mc ms nL) {n : Nat} {v : Int32} (d : decode cc pc = .ok (.iload n, 2)) (q : Nat) (h : lv[q]? = some (n, .int v)) (k : JW x ck sk (pc + 2) lv (.int v :: st) ws) : JW x ck sk pc lv st ws := fun H locs ls hP hD hS hl => lv_iload B.1 B.2.1 d (lv_at hl q h) (k H locs ls hP hD hS hl)
theorem j_lload_n (B : JB x cc own fr lo mc ms nL) {n : Fin 4} {v : Int64} (d : decode cc pc = .ok (.lload_n n, 1)) (q : Nat) (h : lv[q]? = some ((n : Nat), .long v)) (k : JW x ck sk (pc + 1) lv (.long v :: st) ws) : JW x ck sk pc lv st ws := fun H locs ls hP hD hS hl => lv_lload_n B.1 B.2.1 d rfl (lv_at hl q h) (k H locs ls hP hD hS hl)
theorem j_lload (B : JB x cc own fr lo mc ms nL) {n : Nat} {v : Int64} (d : decode cc pc = .ok (.lload n, 2)) (q : Nat) (h : lv[q]? = some (n, .long v)) (k : JW x ck sk (pc + 2) lv (.long v :: st) ws) : JW x ck sk pc lv st ws := fun H locs ls hP hD hS hl => lv_lload B.1 B.2.1 d (lv_at hl q h) (k H locs ls hP hD hS hl)
theorem j_aload_n (B : JB x cc own fr lo mc ms nL) {n : Fin 4} {v : Nat} (d : decode cc pc = .ok (.aload_n n, 1)) (q : Nat) (h : lv[q]? = some ((n : Nat), .ref v)) (k : JW x ck sk (pc + 1) lv (.ref v :: st) ws) : JW x ck sk pc lv st ws := fun H locs ls hP hD hS hl => lv_aload_n B.1 B.2.1 d rfl (lv_at hl q h) (k H locs ls hP hD hS hl)
theorem j_aload (B : JB x cc own fr lo mc ms nL) {n : Nat} {v : Nat} (d : decode cc pc = .ok (.aload n, 2)) (q : Nat) (h : lv[q]? = some (n, .ref v)) (k : JW x ck sk (pc + 2) lv (.ref v :: st) ws) : JW x ck sk pc lv st ws := fun H locs ls hP hD hS hl => lv_aload B.1 B.2.1 d (lv_at hl q h) (k H locs ls hP hD hS hl)
theorem j_istore_n (B : JB x cc own fr lo mc ms nL) {n : Fin 4} {i : Nat} {v : Int32} {lv' : List (Nat × Value)} (d : decode cc pc = .ok (.istore_n n, 1)) (hi : (n : Nat) = i) (hn : i < nL) (hl' : (i, Value.int v) :: lv.filter (fun q => !(q.1 == i) && !(q.1 + 1 == i && q.2.category == 2)) = lv') (k : JW x ck sk (pc + 1) lv' st ws) : JW x ck sk pc lv (.int v :: st) ws := fun H locs ls hP hD hS hl => lv_istore_n B.1 B.2.1 d hi hl (by rw [B.2.2.2.2.2.2.2.2.2.2]; exact hn) hl' (fun ls' h => k H locs ls' hP hD hS h)
theorem j_istore (B : JB x cc own fr lo mc ms nL) {i : Nat} {v : Int32} {lv' : List (Nat × Value)} (d : decode cc pc = .ok (.istore i, 2)) (hn : i < nL) (hl' : (i, Value.int v) :: lv.filter (fun q => !(q.1 == i) && !(q.1 + 1 == i && q.2.category == 2)) = lv') (k : JW x ck sk (pc + 2) lv' st ws) : JW x ck sk pc lv (.int v :: st) ws := fun H locs ls hP hD hS hl => lv_istore B.1 B.2.1 d hl (by rw [B.2.2.2.2.2.2.2.2.2.2]; exact hn) hl' (fun ls' h => k H locs ls' hP hD hS h)
theorem j_lstore_n (B : JB x cc own fr lo mc ms nL) {n : Fin 4} {i : Nat} {v : Int64} {lv' : List (Nat × Value)} (d : decode cc pc = .ok (.lstore_n n, 1)) (hi : (n : Nat) = i) (hn : i + 1 < nL) (hl' : (i, Value.long v) :: lv.filter (fun q => !(q.1 == i) && (!(q.1 == i + 1) && !(q.1 + 1 == i && q.2.category == 2))) = lv') (k : JW x ck sk (pc + 1) lv' st ws) : JW x ck sk pc lv (.long v :: st) ws := fun H locs ls hP hD hS hl => lv_lstore_n B.1 B.2.1 d hi hl (by rw [B.2.2.2.2.2.2.2.2.2.2]; exact hn) hl' (fun ls' h => k H locs ls' hP hD hS h)
theorem j_lstore (B : JB x cc own fr lo mc ms nL) {i : Nat} {v : Int64} {lv' : List (Nat × Value)} (d : decode cc pc = .ok (.lstore i, 2)) (hn : i + 1 < nL) (hl' : (i, Value.long v) :: lv.filter (fun q => !(q.1 == i) && (!(q.1 == i + 1) && !(q.1 + 1 == i && q.2.category == 2))) = lv') (k : JW x ck sk (pc + 2) lv' st ws) : JW x ck sk pc lv (.long v :: st) ws := fun H locs ls hP hD hS hl => lv_lstore B.1 B.2.1 d hl (by rw [B.2.2.2.2.2.2.2.2.2.2]; exact hn) hl' (fun ls' h => k H locs ls' hP hD hS h)
theorem j_astore_n (B : JB x cc own fr lo mc ms nL) {n : Fin 4} {i : Nat} {v : Nat} {lv' : List (Nat × Value)} (d : decode cc pc = .ok (.astore_n n, 1)) (hi : (n : Nat) = i) (hn : i < nL) (hl' : (i, Value.ref v) :: lv.filter (fun q => !(q.1 == i) && !(q.1 + 1 == i && q.2.category == 2)) = lv') (k : JW x ck sk (pc + 1) lv' st ws) : JW x ck sk pc lv (.ref v :: st) ws := fun H locs ls hP hD hS hl => lv_astore_n B.1 B.2.1 d hi hl (by rw [B.2.2.2.2.2.2.2.2.2.2]; exact hn) hl' (fun ls' h => k H locs ls' hP hD hS h)
theorem j_astore (B : JB x cc own fr lo mc ms nL) {i : Nat} {v : Nat} {lv' : List (Nat × Value)} (d : decode cc pc = .ok (.astore i, 2)) (hn : i < nL) (hl' : (i, Value.ref v) :: lv.filter (fun q => !(q.1 == i) && !(q.1 + 1 == i && q.2.category == 2)) = lv') (k : JW x ck sk (pc + 2) lv' st ws) : JW x ck sk pc lv (.ref v :: st) ws := fun H locs ls hP hD hS hl => lv_astore B.1 B.2.1 d hl (by rw [B.2.2.2.2.2.2.2.2.2.2]; exact hn) hl' (fun ls' h => k H locs ls' hP hD hS h)
theorem j_iinc (B : JB x cc own fr lo mc ms nL) {i : Nat} {n z : Int} {lv' : List (Nat × Value)} (d : decode cc pc = .ok (.iinc i n, 3)) (q : Nat) (h : lv[q]? = some (i, .int (iI z))) (hn : i < nL) (hl' : (i, Value.int (iI (z + n))) :: lv.filter (fun q => !(q.1 == i) && !(q.1 + 1 == i && q.2.category == 2)) = lv') (k : JW x ck sk (pc + 3) lv' st ws) : JW x ck sk pc lv st ws := fun H locs ls hP hD hS hl => lv_iinc (v := iI (z + n)) B.1 B.2.1 d hl h (iI_add z n) (by rw [B.2.2.2.2.2.2.2.2.2.2]; exact hn) hl' (fun ls' h => k H locs ls' hP hD hS h)
theorem j_iadd (B : JB x cc own fr lo mc ms nL) {a b : Int} (d : decode cc pc = .ok (.iadd, 1)) (k : JW x ck sk (pc + 1) lv (.int (iI (a + b)) :: st) ws) : JW x ck sk pc lv (.int (iI b) :: .int (iI a) :: st) ws := fun H locs ls hP hD hS hl => lv_iadd B.1 B.2.1 d (by rw [iI_add]; exact k H locs ls hP hD hS hl)
theorem j_isub (B : JB x cc own fr lo mc ms nL) {a b : Int} (d : decode cc pc = .ok (.isub, 1)) (k : JW x ck sk (pc + 1) lv (.int (iI (a - b)) :: st) ws) : JW x ck sk pc lv (.int (iI b) :: .int (iI a) :: st) ws := fun H locs ls hP hD hS hl => lv_isub B.1 B.2.1 d (by rw [iI_sub]; exact k H locs ls hP hD hS hl)
theorem j_imul (B : JB x cc own fr lo mc ms nL) {a b : Int} (d : decode cc pc = .ok (.imul, 1)) (k : JW x ck sk (pc + 1) lv (.int (iI (a * b)) :: st) ws) : JW x ck sk pc lv (.int (iI b) :: .int (iI a) :: st) ws := fun H locs ls hP hD hS hl => lv_imul B.1 B.2.1 d (by rw [iI_mul]; exact k H locs ls hP hD hS hl)
theorem j_iand (B : JB x cc own fr lo mc ms nL) {a b : Int} (d : decode cc pc = .ok (.iand, 1)) (k : JW x ck sk (pc + 1) lv (.int (iI (zAnd a b)) :: st) ws) : JW x ck sk pc lv (.int (iI b) :: .int (iI a) :: st) ws := fun H locs ls hP hD hS hl => lv_iand B.1 B.2.1 d (by rw [iI_and]; exact k H locs ls hP hD hS hl)
theorem j_ior (B : JB x cc own fr lo mc ms nL) {a b : Int} (d : decode cc pc = .ok (.ior, 1)) (k : JW x ck sk (pc + 1) lv (.int (iI (zOr a b)) :: st) ws) : JW x ck sk pc lv (.int (iI b) :: .int (iI a) :: st) ws := fun H locs ls hP hD hS hl => lv_ior B.1 B.2.1 d (by rw [iI_or]; exact k H locs ls hP hD hS hl)
theorem j_ixor (B : JB x cc own fr lo mc ms nL) {a b : Int} (d : decode cc pc = .ok (.ixor, 1)) (k : JW x ck sk (pc + 1) lv (.int (iI (zXor a b)) :: st) ws) : JW x ck sk pc lv (.int (iI b) :: .int (iI a) :: st) ws := fun H locs ls hP hD hS hl => lv_ixor B.1 B.2.1 d (by rw [iI_xor]; exact k H locs ls hP hD hS hl)
theorem j_ladd (B : JB x cc own fr lo mc ms nL) {a b : Int} (d : decode cc pc = .ok (.ladd, 1)) (k : JW x ck sk (pc + 1) lv (.long (lI (a + b)) :: st) ws) : JW x ck sk pc lv (.long (lI b) :: .long (lI a) :: st) ws := fun H locs ls hP hD hS hl => lv_ladd B.1 B.2.1 d (by rw [lI_add]; exact k H locs ls hP hD hS hl)
theorem j_lsub (B : JB x cc own fr lo mc ms nL) {a b : Int} (d : decode cc pc = .ok (.lsub, 1)) (k : JW x ck sk (pc + 1) lv (.long (lI (a - b)) :: st) ws) : JW x ck sk pc lv (.long (lI b) :: .long (lI a) :: st) ws := fun H locs ls hP hD hS hl => lv_lsub B.1 B.2.1 d (by rw [lI_sub]; exact k H locs ls hP hD hS hl)
theorem j_lmul (B : JB x cc own fr lo mc ms nL) {a b : Int} (d : decode cc pc = .ok (.lmul, 1)) (k : JW x ck sk (pc + 1) lv (.long (lI (a * b)) :: st) ws) : JW x ck sk pc lv (.long (lI b) :: .long (lI a) :: st) ws := fun H locs ls hP hD hS hl => lv_lmul B.1 B.2.1 d (by rw [lI_mul]; exact k H locs ls hP hD hS hl)
theorem j_land (B : JB x cc own fr lo mc ms nL) {a b : Int} (d : decode cc pc = .ok (.land, 1)) (k : JW x ck sk (pc + 1) lv (.long (lI (zAndL a b)) :: st) ws) : JW x ck sk pc lv (.long (lI b) :: .long (lI a) :: st) ws := fun H locs ls hP hD hS hl => lv_land B.1 B.2.1 d (by rw [lI_and]; exact k H locs ls hP hD hS hl)
theorem j_lor (B : JB x cc own fr lo mc ms nL) {a b : Int} (d : decode cc pc = .ok (.lor, 1)) (k : JW x ck sk (pc + 1) lv (.long (lI (zOrL a b)) :: st) ws) : JW x ck sk pc lv (.long (lI b) :: .long (lI a) :: st) ws := fun H locs ls hP hD hS hl => lv_lor B.1 B.2.1 d (by rw [lI_or]; exact k H locs ls hP hD hS hl)
theorem j_ineg (B : JB x cc own fr lo mc ms nL) {a : Int} (d : decode cc pc = .ok (.ineg, 1)) (k : JW x ck sk (pc + 1) lv (.int (iI (-a)) :: st) ws) : JW x ck sk pc lv (.int (iI a) :: st) ws := fun H locs ls hP hD hS hl => lv_ineg B.1 B.2.1 d (by rw [iI_neg]; exact k H locs ls hP hD hS hl)
theorem j_lneg (B : JB x cc own fr lo mc ms nL) {a : Int} (d : decode cc pc = .ok (.lneg, 1)) (k : JW x ck sk (pc + 1) lv (.long (lI (-a)) :: st) ws) : JW x ck sk pc lv (.long (lI a) :: st) ws := fun H locs ls hP hD hS hl => lv_lneg B.1 B.2.1 d (by rw [lI_neg]; exact k H locs ls hP hD hS hl)
theorem j_i2l (B : JB x cc own fr lo mc ms nL) {a : Int} (d : decode cc pc = .ok (.i2l, 1)) (h : inR a) (k : JW x ck sk (pc + 1) lv (.long (lI a) :: st) ws) : JW x ck sk pc lv (.int (iI a) :: st) ws := fun H locs ls hP hD hS hl => lv_i2l B.1 B.2.1 d (iI_l h) (k H locs ls hP hD hS hl)
theorem j_l2i (B : JB x cc own fr lo mc ms nL) {a : Int} (d : decode cc pc = .ok (.l2i, 1)) (k : JW x ck sk (pc + 1) lv (.int (iI a) :: st) ws) : JW x ck sk pc lv (.long (lI a) :: st) ws := fun H locs ls hP hD hS hl => lv_l2i B.1 B.2.1 d (lI_i a) (k H locs ls hP hD hS hl)
theorem j_ishl (B : JB x cc own fr lo mc ms nL) {a b : Int} (d : decode cc pc = .ok (.ishl, 1)) (h : 0 ≤ b ∧ b < 32) (k : JW x ck sk (pc + 1) lv (.int (iI (a * 2 ^ b.toNat)) :: st) ws) : JW x ck sk pc lv (.int (iI b) :: .int (iI a) :: st) ws := fun H locs ls hP hD hS hl => lv_ishl B.1 B.2.1 d (by rw [iI_shl h.1 h.2]; exact k H locs ls hP hD hS hl)
theorem j_ishr (B : JB x cc own fr lo mc ms nL) {a b : Int} (d : decode cc pc = .ok (.ishr, 1)) (ha : inR a) (h : 0 ≤ b ∧ b < 32) (k : JW x ck sk (pc + 1) lv (.int (iI (a / 2 ^ b.toNat)) :: st) ws) : JW x ck sk pc lv (.int (iI b) :: .int (iI a) :: st) ws := fun H locs ls hP hD hS hl => lv_ishr B.1 B.2.1 d (by rw [iI_shr ha h.1 h.2]; exact k H locs ls hP hD hS hl)
theorem j_dup (B : JB x cc own fr lo mc ms nL) {v : Value} (d : decode cc pc = .ok (.dup, 1)) (h : v.category = 1) (k : JW x ck sk (pc + 1) lv (v :: v :: st) ws) : JW x ck sk pc lv (v :: st) ws := fun H locs ls hP hD hS hl => lv_dup B.1 B.2.1 d h (k H locs ls hP hD hS hl)
theorem j_dup2 (B : JB x cc own fr lo mc ms nL) {v w : Value} (d : decode cc pc = .ok (.dup2, 1)) (h : v.category = 1) (h2 : w.category = 1) (k : JW x ck sk (pc + 1) lv (v :: w :: v :: w :: st) ws) : JW x ck sk pc lv (v :: w :: st) ws := fun H locs ls hP hD hS hl => lv_dup2_11 B.1 B.2.1 d h h2 (k H locs ls hP hD hS hl)
theorem j_pop (B : JB x cc own fr lo mc ms nL) {v : Value} (d : decode cc pc = .ok (.pop, 1)) (h : v.category = 1) (k : JW x ck sk (pc + 1) lv st ws) : JW x ck sk pc lv (v :: st) ws := fun H locs ls hP hD hS hl => lv_pop B.1 B.2.1 d h (k H locs ls hP hD hS hl)
theorem j_goto (B : JB x cc own fr lo mc ms nL) {off : Int} {tgt : Nat} (d : decode cc pc = .ok (.goto off, 3)) (ht : (pc : Int) + off = (tgt : Int)) (k : JW x ck sk tgt lv st ws) : JW x ck sk pc lv st ws := fun H locs ls hP hD hS hl => lv_goto B.1 B.2.1 d ht (k H locs ls hP hD hS hl)
theorem j_icmp_eq (B : JB x cc own fr lo mc ms nL) {a b off : Int} {tgt : Nat} (d : decode cc pc = .ok (.if_icmp .eq off, 3)) (ht : (pc : Int) + off = (tgt : Int)) (ha : inR a) (hb : inR b) (kt : a = b → JW x ck sk tgt lv st ws) (kf : ¬ a = b → JW x ck sk (pc + 3) lv st ws) : JW x ck sk pc lv (.int (iI b) :: .int (iI a) :: st) ws := fun H locs ls hP hD hS hl => lv_icmp_eq B.1 B.2.1 d ht (fun h => kt ((iI_eq ha hb).mp h) H locs ls hP hD hS hl) (fun h => kf (fun q => h ((iI_eq ha hb).mpr q)) H locs ls hP hD hS hl)
theorem j_if_eq (B : JB x cc own fr lo mc ms nL) {a off : Int} {tgt : Nat} (d : decode cc pc = .ok (.ifCond .eq off, 3)) (ht : (pc : Int) + off = (tgt : Int)) (ha : inR a) (kt : a = 0 → JW x ck sk tgt lv st ws) (kf : ¬ a = 0 → JW x ck sk (pc + 3) lv st ws) : JW x ck sk pc lv (.int (iI a) :: st) ws := fun H locs ls hP hD hS hl => lv_if_eq B.1 B.2.1 d ht (fun h => kt ((iI_eq ha (show inR 0 by decide)).mp h) H locs ls hP hD hS hl) (fun h => kf (fun q => h ((iI_eq ha (show inR 0 by decide)).mpr q)) H locs ls hP hD hS hl)
theorem j_icmp_ne (B : JB x cc own fr lo mc ms nL) {a b off : Int} {tgt : Nat} (d : decode cc pc = .ok (.if_icmp .ne off, 3)) (ht : (pc : Int) + off = (tgt : Int)) (ha : inR a) (hb : inR b) (kt : ¬ a = b → JW x ck sk tgt lv st ws) (kf : a = b → JW x ck sk (pc + 3) lv st ws) : JW x ck sk pc lv (.int (iI b) :: .int (iI a) :: st) ws := fun H locs ls hP hD hS hl => lv_icmp_ne B.1 B.2.1 d ht (fun h => kt (fun q => h ((iI_eq ha hb).mpr q)) H locs ls hP hD hS hl) (fun h => kf ((iI_eq ha hb).mp h) H locs ls hP hD hS hl)
theorem j_if_ne (B : JB x cc own fr lo mc ms nL) {a off : Int} {tgt : Nat} (d : decode cc pc = .ok (.ifCond .ne off, 3)) (ht : (pc : Int) + off = (tgt : Int)) (ha : inR a) (kt : ¬ a = 0 → JW x ck sk tgt lv st ws) (kf : a = 0 → JW x ck sk (pc + 3) lv st ws) : JW x ck sk pc lv (.int (iI a) :: st) ws := fun H locs ls hP hD hS hl => lv_if_ne B.1 B.2.1 d ht (fun h => kt (fun q => h ((iI_eq ha (show inR 0 by decide)).mpr q)) H locs ls hP hD hS hl) (fun h => kf ((iI_eq ha (show inR 0 by decide)).mp h) H locs ls hP hD hS hl)
theorem j_icmp_lt (B : JB x cc own fr lo mc ms nL) {a b off : Int} {tgt : Nat} (d : decode cc pc = .ok (.if_icmp .lt off, 3)) (ht : (pc : Int) + off = (tgt : Int)) (ha : inR a) (hb : inR b) (kt : a < b → JW x ck sk tgt lv st ws) (kf : ¬ a < b → JW x ck sk (pc + 3) lv st ws) : JW x ck sk pc lv (.int (iI b) :: .int (iI a) :: st) ws := fun H locs ls hP hD hS hl => lv_icmp_lt B.1 B.2.1 d ht (fun h => kt ((iI_lt ha hb).mp h) H locs ls hP hD hS hl) (fun h => kf (fun q => h ((iI_lt ha hb).mpr q)) H locs ls hP hD hS hl)
theorem j_if_lt (B : JB x cc own fr lo mc ms nL) {a off : Int} {tgt : Nat} (d : decode cc pc = .ok (.ifCond .lt off, 3)) (ht : (pc : Int) + off = (tgt : Int)) (ha : inR a) (kt : a < 0 → JW x ck sk tgt lv st ws) (kf : ¬ a < 0 → JW x ck sk (pc + 3) lv st ws) : JW x ck sk pc lv (.int (iI a) :: st) ws := fun H locs ls hP hD hS hl => lv_if_lt B.1 B.2.1 d ht (fun h => kt ((iI_lt ha (show inR 0 by decide)).mp h) H locs ls hP hD hS hl) (fun h => kf (fun q => h ((iI_lt ha (show inR 0 by decide)).mpr q)) H locs ls hP hD hS hl)
theorem j_icmp_ge (B : JB x cc own fr lo mc ms nL) {a b off : Int} {tgt : Nat} (d : decode cc pc = .ok (.if_icmp .ge off, 3)) (ht : (pc : Int) + off = (tgt : Int)) (ha : inR a) (hb : inR b) (kt : b ≤ a → JW x ck sk tgt lv st ws) (kf : ¬ b ≤ a → JW x ck sk (pc + 3) lv st ws) : JW x ck sk pc lv (.int (iI b) :: .int (iI a) :: st) ws := fun H locs ls hP hD hS hl => lv_icmp_ge B.1 B.2.1 d ht (fun h => kt ((iI_le hb ha).mp h) H locs ls hP hD hS hl) (fun h => kf (fun q => h ((iI_le hb ha).mpr q)) H locs ls hP hD hS hl)
theorem j_if_ge (B : JB x cc own fr lo mc ms nL) {a off : Int} {tgt : Nat} (d : decode cc pc = .ok (.ifCond .ge off, 3)) (ht : (pc : Int) + off = (tgt : Int)) (ha : inR a) (kt : 0 ≤ a → JW x ck sk tgt lv st ws) (kf : ¬ 0 ≤ a → JW x ck sk (pc + 3) lv st ws) : JW x ck sk pc lv (.int (iI a) :: st) ws := fun H locs ls hP hD hS hl => lv_if_ge B.1 B.2.1 d ht (fun h => kt ((iI_le (show inR 0 by decide) ha).mp h) H locs ls hP hD hS hl) (fun h => kf (fun q => h ((iI_le (show inR 0 by decide) ha).mpr q)) H locs ls hP hD hS hl)
theorem j_icmp_gt (B : JB x cc own fr lo mc ms nL) {a b off : Int} {tgt : Nat} (d : decode cc pc = .ok (.if_icmp .gt off, 3)) (ht : (pc : Int) + off = (tgt : Int)) (ha : inR a) (hb : inR b) (kt : b < a → JW x ck sk tgt lv st ws) (kf : ¬ b < a → JW x ck sk (pc + 3) lv st ws) : JW x ck sk pc lv (.int (iI b) :: .int (iI a) :: st) ws := fun H locs ls hP hD hS hl => lv_icmp_gt B.1 B.2.1 d ht (fun h => kt ((iI_lt hb ha).mp h) H locs ls hP hD hS hl) (fun h => kf (fun q => h ((iI_lt hb ha).mpr q)) H locs ls hP hD hS hl)
theorem j_if_gt (B : JB x cc own fr lo mc ms nL) {a off : Int} {tgt : Nat} (d : decode cc pc = .ok (.ifCond .gt off, 3)) (ht : (pc : Int) + off = (tgt : Int)) (ha : inR a) (kt : 0 < a → JW x ck sk tgt lv st ws) (kf : ¬ 0 < a → JW x ck sk (pc + 3) lv st ws) : JW x ck sk pc lv (.int (iI a) :: st) ws := fun H locs ls hP hD hS hl => lv_if_gt B.1 B.2.1 d ht (fun h => kt ((iI_lt (show inR 0 by decide) ha).mp h) H locs ls hP hD hS hl) (fun h => kf (fun q => h ((iI_lt (show inR 0 by decide) ha).mpr q)) H locs ls hP hD hS hl)
theorem j_icmp_le (B : JB x cc own fr lo mc ms nL) {a b off : Int} {tgt : Nat} (d : decode cc pc = .ok (.if_icmp .le off, 3)) (ht : (pc : Int) + off = (tgt : Int)) (ha : inR a) (hb : inR b) (kt : a ≤ b → JW x ck sk tgt lv st ws) (kf : ¬ a ≤ b → JW x ck sk (pc + 3) lv st ws) : JW x ck sk pc lv (.int (iI b) :: .int (iI a) :: st) ws := fun H locs ls hP hD hS hl => lv_icmp_le B.1 B.2.1 d ht (fun h => kt ((iI_le ha hb).mp h) H locs ls hP hD hS hl) (fun h => kf (fun q => h ((iI_le ha hb).mpr q)) H locs ls hP hD hS hl)
theorem j_if_le (B : JB x cc own fr lo mc ms nL) {a off : Int} {tgt : Nat} (d : decode cc pc = .ok (.ifCond .le off, 3)) (ht : (pc : Int) + off = (tgt : Int)) (ha : inR a) (kt : a ≤ 0 → JW x ck sk tgt lv st ws) (kf : ¬ a ≤ 0 → JW x ck sk (pc + 3) lv st ws) : JW x ck sk pc lv (.int (iI a) :: st) ws := fun H locs ls hP hD hS hl => lv_if_le B.1 B.2.1 d ht (fun h => kt ((iI_le ha (show inR 0 by decide)).mp h) H locs ls hP hD hS hl) (fun h => kf (fun q => h ((iI_le ha (show inR 0 by decide)).mpr q)) H locs ls hP hD hS hl)
theorem j_lcmp_eq (B : JB x cc own fr lo mc ms nL) {a b off : Int} {tgt : Nat} (d0 : decode cc pc = .ok (.lcmp, 1)) (d : decode cc (pc + 1) = .ok (.ifCond .eq off, 3)) (ht : ((pc + 1 : Nat) : Int) + off = (tgt : Int)) (ha : inL a) (hb : inL b) (kt : a = b → JW x ck sk tgt lv st ws) (kf : ¬ a = b → JW x ck sk (pc + 4) lv st ws) : JW x ck sk pc lv (.long (lI b) :: .long (lI a) :: st) ws := fun H locs ls hP hD hS hl => W.lcmp B.1 B.2.1 d0 (lv_if_eq B.1 B.2.1 d ht (fun h => kt ((lI_eq ha hb).mp ((lg_cmp_eq _ _).mp h)) H locs ls hP hD hS hl) (fun h => kf (fun q => h ((lg_cmp_eq _ _).mpr ((lI_eq ha hb).mpr q))) H locs ls hP hD hS hl))
theorem j_lcmp_ne (B : JB x cc own fr lo mc ms nL) {a b off : Int} {tgt : Nat} (d0 : decode cc pc = .ok (.lcmp, 1)) (d : decode cc (pc + 1) = .ok (.ifCond .ne off, 3)) (ht : ((pc + 1 : Nat) : Int) + off = (tgt : Int)) (ha : inL a) (hb : inL b) (kt : ¬ a = b → JW x ck sk tgt lv st ws) (kf : a = b → JW x ck sk (pc + 4) lv st ws) : JW x ck sk pc lv (.long (lI b) :: .long (lI a) :: st) ws := fun H locs ls hP hD hS hl => W.lcmp B.1 B.2.1 d0 (lv_if_ne B.1 B.2.1 d ht (fun h => kt (fun q => h ((lg_cmp_eq _ _).mpr ((lI_eq ha hb).mpr q))) H locs ls hP hD hS hl) (fun h => kf ((lI_eq ha hb).mp ((lg_cmp_eq _ _).mp h)) H locs ls hP hD hS hl))
theorem j_lcmp_lt (B : JB x cc own fr lo mc ms nL) {a b off : Int} {tgt : Nat} (d0 : decode cc pc = .ok (.lcmp, 1)) (d : decode cc (pc + 1) = .ok (.ifCond .lt off, 3)) (ht : ((pc + 1 : Nat) : Int) + off = (tgt : Int)) (ha : inL a) (hb : inL b) (kt : a < b → JW x ck sk tgt lv st ws) (kf : ¬ a < b → JW x ck sk (pc + 4) lv st ws) : JW x ck sk pc lv (.long (lI b) :: .long (lI a) :: st) ws := fun H locs ls hP hD hS hl => W.lcmp B.1 B.2.1 d0 (lv_if_lt B.1 B.2.1 d ht (fun h => kt ((lI_lt ha hb).mp ((lg_cmp_lt _ _).mp h)) H locs ls hP hD hS hl) (fun h => kf (fun q => h ((lg_cmp_lt _ _).mpr ((lI_lt ha hb).mpr q))) H locs ls hP hD hS hl))
theorem j_lcmp_ge (B : JB x cc own fr lo mc ms nL) {a b off : Int} {tgt : Nat} (d0 : decode cc pc = .ok (.lcmp, 1)) (d : decode cc (pc + 1) = .ok (.ifCond .ge off, 3)) (ht : ((pc + 1 : Nat) : Int) + off = (tgt : Int)) (ha : inL a) (hb : inL b) (kt : b ≤ a → JW x ck sk tgt lv st ws) (kf : ¬ b ≤ a → JW x ck sk (pc + 4) lv st ws) : JW x ck sk pc lv (.long (lI b) :: .long (lI a) :: st) ws := fun H locs ls hP hD hS hl => W.lcmp B.1 B.2.1 d0 (lv_if_ge B.1 B.2.1 d ht (fun h => kt ((lI_le hb ha).mp ((lg_cmp_ge _ _).mp h)) H locs ls hP hD hS hl) (fun h => kf (fun q => h ((lg_cmp_ge _ _).mpr ((lI_le hb ha).mpr q))) H locs ls hP hD hS hl))
theorem j_lcmp_gt (B : JB x cc own fr lo mc ms nL) {a b off : Int} {tgt : Nat} (d0 : decode cc pc = .ok (.lcmp, 1)) (d : decode cc (pc + 1) = .ok (.ifCond .gt off, 3)) (ht : ((pc + 1 : Nat) : Int) + off = (tgt : Int)) (ha : inL a) (hb : inL b) (kt : b < a → JW x ck sk tgt lv st ws) (kf : ¬ b < a → JW x ck sk (pc + 4) lv st ws) : JW x ck sk pc lv (.long (lI b) :: .long (lI a) :: st) ws := fun H locs ls hP hD hS hl => W.lcmp B.1 B.2.1 d0 (lv_if_gt B.1 B.2.1 d ht (fun h => kt ((lI_lt hb ha).mp ((lg_cmp_gt _ _).mp h)) H locs ls hP hD hS hl) (fun h => kf (fun q => h ((lg_cmp_gt _ _).mpr ((lI_lt hb ha).mpr q))) H locs ls hP hD hS hl))
theorem j_lcmp_le (B : JB x cc own fr lo mc ms nL) {a b off : Int} {tgt : Nat} (d0 : decode cc pc = .ok (.lcmp, 1)) (d : decode cc (pc + 1) = .ok (.ifCond .le off, 3)) (ht : ((pc + 1 : Nat) : Int) + off = (tgt : Int)) (ha : inL a) (hb : inL b) (kt : a ≤ b → JW x ck sk tgt lv st ws) (kf : ¬ a ≤ b → JW x ck sk (pc + 4) lv st ws) : JW x ck sk pc lv (.long (lI b) :: .long (lI a) :: st) ws := fun H locs ls hP hD hS hl => W.lcmp B.1 B.2.1 d0 (lv_if_le B.1 B.2.1 d ht (fun h => kt ((lI_le ha hb).mp ((lg_cmp_le _ _).mp h)) H locs ls hP hD hS hl) (fun h => kf (fun q => h ((lg_cmp_le _ _).mpr ((lI_le ha hb).mpr q))) H locs ls hP hD hS hl))
/-! renaming, ordering -/
theorem j_topi {a : Int} (b : Int) (h : a = b) (k : JW x ck sk pc lv (.int (iI b) :: st) ws) : JW x ck sk pc lv (.int (iI a) :: st) ws := by rw [h]; exact k
theorem j_topl {a : Int} (b : Int) (h : a = b) (k : JW x ck sk pc lv (.long (lI b) :: st) ws) : JW x ck sk pc lv (.long (lI a) :: st) ws := by rw [h]; exact k
theorem j_geni {a : Int} (k : ∀ z : Int, z = a → JW x ck sk pc lv (.int (iI z) :: st) ws) : JW x ck sk pc lv (.int (iI a) :: st) ws := k a rfl
theorem j_genl {a : Int} (k : ∀ z : Int, z = a → JW x ck sk pc lv (.long (lI z) :: st) ws) : JW x ck sk pc lv (.long (lI a) :: st) ws := k a rfl
theorem j_norm {lv' : List (Nat × Value)} {st' : List Value} {ws' : va_W} (ks is : List Nat) (hl' : lv_pick lv ks = lv') (hst : st = st') (hn : va_nd is = true) (hw : is.map (fun i => ws[i]?) = ws'.map some) (k : JW x ck sk pc lv' st' ws') : JW x ck sk pc lv st ws := by
  subst hst
  intro H locs ls hP hD hS hl
  have hP' : va_P x.g.1 vwCl ws' H := by
    refine hP.sub is ?_
    have h1 : (is.map (fun i => ws[i]?)).filterMap id = (ws'.map some).filterMap id := by rw [hw]
    rw [List.filterMap_map, List.filterMap_map] at h1
    simpa using h1
  exact k H locs ls hP' (hD.sub is hn hw) hS (lv_sub hl ks hl')
theorem j_world {ws' : va_W} (e : ws = ws') (k : JW x ck sk pc lv st ws') : JW x ck sk pc lv st ws := by rw [e]; exact k
theorem j_widen {ck' sk' : Nat} (h1 : ck ≤ ck') (h2 : sk ≤ sk') (k : JW x ck' sk' pc lv st ws) : JW x ck sk pc lv st ws := fun H locs ls hP hD hS hl => W.widen h1 h2 (k H locs ls hP hD hS hl)
/-! fields -/
/-- a field k of class ci (C, T, N) as 'own' reaches it at the pool's entry i -/
def FL (own : String) (i : Nat) (C : String) (T : u_T) (N ci k : Nat) : Prop := Cond.fieldLink own i (T k).1 (T k).2.1 (T k).2.2.1 ∈ TB ∧ (∀ w ∈ u_ws C T N, w ∈ TB) ∧ vwCl[ci]? = some (C, T, N) ∧ k < N
theorem j_get (B : JB x cc own fr lo mc ms nL) {i N ci k a : Nat} {C : String} {T : u_T} (f : FL own i C T N ci k) {fs : List Value} {v : Value} (d : decode cc pc = .ok (.getfield i, 3)) (q : Nat) (he : ws[q]? = some (a, .inr (ci, fs))) (hv : fs[k]? = some v) (kk : JW x ck sk (pc + 3) lv (v :: st) ws) : JW x ck sk pc lv (.ref a :: st) ws :=
  fun H locs ls hP hD hS hl => va_get B.1 B.2.1 B.2.2.2.2.1 f.2.1 B.2.2.2.1 B.2.2.2.2.2.1 hP q he f.2.2.1 k f.2.2.2 (B.2.2.2.2.1 _ f.1) (fun _ h9 => h9) hv d (kk H locs ls hP hD hS hl)
def FW (T : u_T) (N k : Nat) (ty : FieldType) : Prop := (∃ ty0 : Nat → FieldType, ∀ k, k < N → parseFieldDescriptor (T k).2.2.1 = some (ty0 k)) ∧ (∀ a, a < N → ∀ b, b < N → a ≠ b → (T a).2.1 ≠ (T b).2.1) ∧ parseFieldDescriptor (T k).2.2.1 = some ty
theorem j_put (B : JB x cc own fr lo mc ms nL) {i N ci k a : Nat} {C : String} {T : u_T} {ty : FieldType} (f : FL own i C T N ci k) (w : FW T N k ty) (hfin : (T k).2.2.2 = false) {fs : List Value} {v : Value} {ws' : va_W} (d : decode cc pc = .ok (.putfield i, 3)) (q : Nat) (he : ws[q]? = some (a, .inr (ci, fs))) (hn : narrow ty v = v) (hf : fits ty v = true) (hk : k < fs.length) (hw : ws.set q (a, .inr (ci, fs.set k v)) = ws') (kk : JW x ck sk (pc + 3) lv st ws') : JW x ck sk pc lv (v :: .ref a :: st) ws := by
  intro H locs ls hP hD hS hl
  obtain ⟨ty0, hty⟩ := w.1
  refine va_put B.1 B.2.1 B.2.2.2.2.1 f.2.1 ty0 hty w.2.1 B.2.2.2.1 B.2.2.2.2.2.1 hP hD hS q he f.2.2.1 k f.2.2.2 (B.2.2.2.2.1 _ f.1) (fun _ h9 => h9) hfin w.2.2 hn hf hk d (fun H1 locs1 hP1 hD1 hS1 => ?_)
  rw [hw] at hP1 hD1
  exact kk H1 locs1 ls hP1 hD1 hS1 hl
theorem j_putF (B : JB x cc own fr lo mc ms nL) {i N ci k a : Nat} {C : String} {T : u_T} {ty : FieldType} (f : FL own i C T N ci k) (w : FW T N k ty) (hfin : (T k).2.2.2 = true) (hin : x.meth.name = "<init>") (hdecl : (T k).1 = own) {fs : List Value} {v : Value} {ws' : va_W} (d : decode cc pc = .ok (.putfield i, 3)) (q : Nat) (he : ws[q]? = some (a, .inr (ci, fs))) (hn : narrow ty v = v) (hf : fits ty v = true) (hk : k < fs.length) (hw : ws.set q (a, .inr (ci, fs.set k v)) = ws') (kk : JW x ck sk (pc + 3) lv st ws') : JW x ck sk pc lv (v :: .ref a :: st) ws := by
  intro H locs ls hP hD hS hl
  obtain ⟨ty0, hty⟩ := w.1
  refine va_putF B.1 B.2.1 B.2.2.2.2.1 f.2.1 ty0 hty w.2.1 B.2.2.2.1 B.2.2.2.2.2.1 hP hD hS q he f.2.2.1 k f.2.2.2 (B.2.2.2.2.1 _ f.1) (fun _ h9 => h9) hfin hin hdecl w.2.2 hn hf hk d (fun H1 locs1 hP1 hD1 hS1 => ?_)
  rw [hw] at hP1 hD1
  exact kk H1 locs1 ls hP1 hD1 hS1 hl
/-! arrays: their contents as functions of the index -/
abbrev aI (g : GG) (n : Nat) (f : Int → Int) : va_E := .inl (g.2.1 0, n, .inl (fun j : Nat => iI (f (j : Int))))
abbrev aL (g : GG) (n : Nat) (f : Int → Int) : va_E := .inl (g.2.1 1, n, .inr (.inl (fun j : Nat => lI (f (j : Int)))))
abbrev aG (g : GG) (n : Nat) (f : Nat → Option Nat) : va_E := .inl (g.2.1 2, n, .inr (.inr (.inr (.inr f))))
abbrev aF (g : GG) (n : Nat) (f : Nat → Option Nat) : va_E := .inl (g.2.1 3, n, .inr (.inr (.inr (.inr f))))
def zup (f : Int → Int) (i v : Int) : Int → Int := fun j => if j = i then v else f j
theorem zup_s (f : Int → Int) (i v : Int) : zup f i v i = v := if_pos rfl
theorem zup_n {f : Int → Int} {i v j : Int} (h : j ≠ i) : zup f i v j = f j := if_neg h
theorem zup_upd {f : Int → Int} {i v : Int} (h0 : 0 ≤ i) : upd (fun j : Nat => iI (f (j : Int))) i.toNat (iI v) = fun j : Nat => iI (zup f i v (j : Int)) := by
  funext j
  unfold upd zup
  by_cases h : j = i.toNat
  · rw [if_pos h, if_pos (by omega)]
  · rw [if_neg h, if_neg (by omega)]
theorem zup_updL {f : Int → Int} {i v : Int} (h0 : 0 ≤ i) : vp_updL (fun j : Nat => lI (f (j : Int))) i.toNat (lI v) = fun j : Nat => lI (zup f i v (j : Int)) := by
  funext j
  unfold vp_updL zup
  by_cases h : j = i.toNat
  · rw [if_pos h, if_pos (by omega)]
  · rw [if_neg h, if_neg (by omega)]
theorem j_iald (B : JB x cc own fr lo mc ms nL) {a n : Nat} {f : Int → Int} {i : Int} (d : decode cc pc = .ok (.iaload, 1)) (q : Nat) (he : ws[q]? = some (a, aI x.g n f)) (h : 0 ≤ i ∧ i < n) (hn : n < 2147483648) (kk : JW x ck sk (pc + 1) lv (.int (iI (f i)) :: st) ws) : JW x ck sk pc lv (.int (iI i) :: .ref a :: st) ws := by
  intro H locs ls hP hD hS hl
  refine va_iald B.1 B.2.1 B.2.2.2.2.2.1 hP q 0 he rfl (iI_in h.1 h.2 hn) d ?_
  rw [iI_clamp h.1 (by omega), Int.toNat_of_nonneg h.1]
  exact kk H locs ls hP hD hS hl
theorem j_lald (B : JB x cc own fr lo mc ms nL) {a n : Nat} {f : Int → Int} {i : Int} (d : decode cc pc = .ok (.laload, 1)) (q : Nat) (he : ws[q]? = some (a, aL x.g n f)) (h : 0 ≤ i ∧ i < n) (hn : n < 2147483648) (kk : JW x ck sk (pc + 1) lv (.long (lI (f i)) :: st) ws) : JW x ck sk pc lv (.int (iI i) :: .ref a :: st) ws := by
  intro H locs ls hP hD hS hl
  refine va_lald B.1 B.2.1 B.2.2.2.2.2.1 hP q 1 he rfl (iI_in h.1 h.2 hn) d ?_
  rw [iI_clamp h.1 (by omega), Int.toNat_of_nonneg h.1]
  exact kk H locs ls hP hD hS hl
theorem j_iast (B : JB x cc own fr lo mc ms nL) {a n : Nat} {f : Int → Int} {i v : Int} {ws' : va_W} (d : decode cc pc = .ok (.iastore, 1)) (q : Nat) (he : ws[q]? = some (a, aI x.g n f)) (h : 0 ≤ i ∧ i < n) (hn : n < 2147483648) (hw : ws.set q (a, aI x.g n (zup f i v)) = ws') (kk : JW x ck sk (pc + 1) lv st ws') : JW x ck sk pc lv (.int (iI v) :: .int (iI i) :: .ref a :: st) ws := by
  intro H locs ls hP hD hS hl
  refine va_iast B.1 B.2.1 B.2.2.2.2.2.1 hP hD hS q 0 he rfl (iI_in h.1 h.2 hn) d (fun H1 locs1 hP1 hD1 hS1 => ?_)
  rw [iI_clamp h.1 (by omega), zup_upd h.1, hw] at hP1 hD1
  exact kk H1 locs1 ls hP1 hD1 hS1 hl
theorem j_last (B : JB x cc own fr lo mc ms nL) {a n : Nat} {f : Int → Int} {i v : Int} {ws' : va_W} (d : decode cc pc = .ok (.lastore, 1)) (q : Nat) (he : ws[q]? = some (a, aL x.g n f)) (h : 0 ≤ i ∧ i < n) (hn : n < 2147483648) (hw : ws.set q (a, aL x.g n (zup f i v)) = ws') (kk : JW x ck sk (pc + 1) lv st ws') : JW x ck sk pc lv (.long (lI v) :: .int (iI i) :: .ref a :: st) ws := by
  intro H locs ls hP hD hS hl
  refine va_last B.1 B.2.1 B.2.2.2.2.2.1 hP hD hS q 1 he rfl (iI_in h.1 h.2 hn) d (fun H1 locs1 hP1 hD1 hS1 => ?_)
  rw [iI_clamp h.1 (by omega), zup_updL h.1, hw] at hP1 hD1
  exact kk H1 locs1 ls hP1 hD1 hS1 hl
theorem j_alen (B : JB x cc own fr lo mc ms nL) {a : Nat} {t0 : Nat} {ty : FieldType} {cA : ClassId} {y : vp_A} (d : decode cc pc = .ok (.arraylength, 1)) (q : Nat) (he : ws[q]? = some (a, .inl (cA, y))) (ht : (gT x.g)[t0]? = some (cA, ty)) (kk : JW x ck sk (pc + 1) lv (.int (iI (y.1 : Int)) :: st) ws) : JW x ck sk pc lv (.ref a :: st) ws := by
  intro H locs ls hP hD hS hl
  refine va_alen (v := iI (y.1 : Int)) B.1 B.2.1 B.2.2.2.2.2.1 hP q t0 he ht (iI_nat _).symm d (kk H locs ls hP hD hS hl)
theorem j_aaldF (B : JB x cc own fr lo mc ms nL) {a n b : Nat} {f : Nat → Option Nat} {i : Int} (d : decode cc pc = .ok (.aaload, 1)) (q : Nat) (he : ws[q]? = some (a, aF x.g n f)) (h : 0 ≤ i ∧ i < n) (hn : n < 2147483648) (hv : f i.toNat = some b) (kk : JW x ck sk (pc + 1) lv (.ref b :: st) ws) : JW x ck sk pc lv (.int (iI i) :: .ref a :: st) ws := by
  intro H locs ls hP hD hS hl
  refine va_aldq (C := "SamplePacks$RowForm") B.1 B.2.1 B.2.2.2.2.2.1 hP q 3 he rfl (iI_in h.1 h.2 hn) d ?_
  rw [iI_clamp h.1 (by omega), hv]
  exact kk H locs ls hP hD hS hl
theorem j_aaldG (B : JB x cc own fr lo mc ms nL) {a n b : Nat} {f : Nat → Option Nat} {i : Int} (d : decode cc pc = .ok (.aaload, 1)) (q : Nat) (he : ws[q]? = some (a, aG x.g n f)) (h : 0 ≤ i ∧ i < n) (hn : n < 2147483648) (hv : f i.toNat = some b) (kk : JW x ck sk (pc + 1) lv (.ref b :: st) ws) : JW x ck sk pc lv (.int (iI i) :: .ref a :: st) ws := by
  intro H locs ls hP hD hS hl
  have hin := iI_in h.1 h.2 hn
  have hlt : (iI i).toNatClampNeg < n := Nat.not_le.mp fun q => hin (Or.inr q)
  refine W.aald (v := va_rf (f (iI i).toNatClampNeg)) (ty := .array .int) B.1 B.2.1 (hP q _ he) ((B.2.2.2.2.2.1.2 2 _ rfl).1 n (fun j => va_rf (f j))) rfl (fun q => by cases q) (by show ¬ (iI i < 0 ∨ (arrV _ _ _).slots.size ≤ _); rw [arrV_size]; exact hin) (by show (arrV _ _ _).slots[_]? = _; rw [arrV_read _ _ hlt]) rfl rfl d ?_
  rw [iI_clamp h.1 (by omega), hv]
  exact kk H locs ls hP hD hS hl
/-! ends -/
theorem j_iret (B : JB x cc own fr lo mc ms nL) {w0 : va_W} {Post : Option Value → va_W → Prop} {v : Int32} (J : JR x (some .int) ck sk w0 Post) (d : decode cc pc = .ok (.ireturn, 1)) (hp : Post (some (.int v)) ws) : JW x ck sk pc lv [.int v] ws := by
  intro H locs ls hP hD hS hl
  obtain ⟨hr, hlk, hA, hQ⟩ := J
  rw [hQ]
  rw [hA] at hD hS ⊢
  exact W.iret B.1 B.2.1 hr (fun t ht hW => ⟨⟨_, ws, rfl, hp, by rw [ht]; exact hP, hD⟩, hS.F ht⟩) hS.2.2 d hlk
theorem j_zret (B : JB x cc own fr lo mc ms nL) {w0 : va_W} {Post : Option Value → va_W → Prop} {v : Int32} (J : JR x (some .boolean) ck sk w0 Post) (d : decode cc pc = .ok (.ireturn, 1)) (hv : narrow .boolean (.int v) = .int v) (hp : Post (some (.int v)) ws) : JW x ck sk pc lv [.int v] ws := by
  intro H locs ls hP hD hS hl
  obtain ⟨hr, hlk, hA, hQ⟩ := J
  rw [hQ]
  rw [hA] at hD hS ⊢
  exact W.zret B.1 B.2.1 hr hv (fun t ht hW => ⟨⟨_, ws, rfl, hp, by rw [ht]; exact hP, hD⟩, hS.F ht⟩) hS.2.2 d hlk
theorem j_lret (B : JB x cc own fr lo mc ms nL) {w0 : va_W} {Post : Option Value → va_W → Prop} {v : Int64} (J : JR x (some .long) ck sk w0 Post) (d : decode cc pc = .ok (.lreturn, 1)) (hp : Post (some (.long v)) ws) : JW x ck sk pc lv [.long v] ws := by
  intro H locs ls hP hD hS hl
  obtain ⟨hr, hlk, hA, hQ⟩ := J
  rw [hQ]
  rw [hA] at hD hS ⊢
  exact W.lret B.1 B.2.1 hr (fun t ht hW => ⟨⟨_, ws, rfl, hp, by rw [ht]; exact hP, hD⟩, hS.F ht⟩) hS.2.2 d hlk
theorem j_vret (B : JB x cc own fr lo mc ms nL) {w0 : va_W} {Post : Option Value → va_W → Prop} (J : JR x none ck sk w0 Post) (d : decode cc pc = .ok (.return_, 1)) (hp : Post none ws) : JW x ck sk pc lv [] ws := by
  intro H locs ls hP hD hS hl
  obtain ⟨hr, hlk, hA, hQ⟩ := J
  rw [hQ]
  rw [hA] at hD hS ⊢
  exact W.vret B.1 B.2.1 hr (fun t ht hW => ⟨⟨_, ws, rfl, hp, by rw [ht]; exact hP, hD⟩, hS.F ht⟩) hS.2.2 d hlk
theorem j_aret (B : JB x cc own fr lo mc ms nL) {w0 : va_W} {Post : Option Value → va_W → Prop} {C : String} {a : Nat} (J : JR x (some (.object C)) ck sk w0 Post) (d : decode cc pc = .ok (.areturn, 1)) (hp : Post (some (.ref a)) ws) : JW x ck sk pc lv [.ref a] ws := by
  intro H locs ls hP hD hS hl
  obtain ⟨hr, hlk, hA, hQ⟩ := J
  rw [hQ]
  rw [hA] at hD hS ⊢
  exact W.aret B.1 B.2.1 hr (Or.inl ⟨_, rfl⟩) (Or.inr ⟨_, rfl⟩) (fun t ht hW => ⟨⟨_, ws, rfl, hp, by rw [ht]; exact hP, hD⟩, hS.F ht⟩) hS.2.2 d hlk
/-! static arrays -/
theorem nest_use {U : State} {args : Array Value} {w : Cond} (h : gN U) (hw : w ∈ NL) : w.before args U = true := by
  have h1 := h w hw
  have h2 : isNest w = true := (List.mem_filter.mp hw).2
  cases w <;> first | exact va_Nw.use rfl h1 | cases h2
theorem j_gets (B : JB x cc own fr lo mc ms nL) {i : Nat} {C n d' : String} {v : Value} (hZ : va_Z C n d' v x.A x.s x.s.heap) (w : Cond.fieldLink own i C n d' ∈ TB) (d : decode cc pc = .ok (.getstatic i, 3)) (kk : JW x ck sk (pc + 3) lv (v :: st) ws) : JW x ck sk pc lv st ws :=
  fun H locs ls hP hD hS hl => va_gets B.1 B.2.1 hZ hS B.2.2.2.1 (B.2.2.2.2.1 _ w) (fun _ h => h) d (kk H locs ls hP hD hS hl)
theorem j_getsN (B : JB x cc own fr lo mc ms nL) {i : Nat} {C n d' host : String} {v : Value} (hZ : va_Z C n d' v x.A x.s x.s.heap) (w : Cond.fieldLinkNest own i C n d' host ∈ NL) (d : decode cc pc = .ok (.getstatic i, 3)) (kk : JW x ck sk (pc + 3) lv (v :: st) ws) : JW x ck sk pc lv st ws := by
  intro H locs ls hP hD hS hl
  refine va_getsN B.1 B.2.1 hZ hS B.2.2.2.1 (nest_use B.2.2.2.2.2.2.1 w) (fun _ h => h) d (kk H locs ls hP hD hS hl)
theorem j_tald (B : JB x cc own fr lo mc ms nL) {t N : Nat} {f : Nat → Int} {i : Int} (hT : va_T .int t N (fun k => .int (iI (f k))) x.A x.s x.s.heap) (h : 0 ≤ i ∧ i < N) (hN : N < 2147483648) (d : decode cc pc = .ok (.iaload, 1)) (kk : JW x ck sk (pc + 1) lv (.int (iI (f i.toNat)) :: st) ws) : JW x ck sk pc lv (.int (iI i) :: .ref t :: st) ws := by
  intro H locs ls hP hD hS hl
  refine va_ti B.1 B.2.1 hT hS (iI_in h.1 h.2 hN) (v := .int (iI (f i.toNat))) ?_ d (kk H locs ls hP hD hS hl)
  show Value.int (iI (f (iI i).toNatClampNeg)) = _
  rw [iI_clamp h.1 (by omega)]
/-! calls -/
/-- what the tables say of a callee -/
def CY (y : MethodName) (bytes : ByteArray) (maxL : Nat) (ret : Option FieldType) (n : Nat) : Prop := Cond.code y bytes maxL ret ∈ TB ∧ Cond.initialized y.cls ∈ TB ∧ (y.cls ≠ "java/lang/invoke/MethodHandle" ∧ y.cls ≠ "java/lang/invoke/VarHandle" ∧ (parseMethodDescriptor y.desc).map (fun d => d.parameters.length) = some n)
theorem TB_good {y : MethodName} {bytes : ByteArray} {maxL n : Nat} {ret : Option FieldType} (h : CY y bytes maxL ret n) : GoodIn TB (Cond.code y bytes maxL ret :: TB) := by
  intro w hw
  have hm : w ∈ TB := (List.mem_cons.mp hw).elim (fun e => by rw [e]; exact h.1) id
  exact ⟨hm, good_of_word (List.mem_filter.mp hm).2⟩
/-- behind a call: the frame rule, on the layer's own forms -/
theorem j_after {g : JFrame} {y : MethodName} {bytes : ByteArray} {maxL : Nat} {ret : Option FieldType} {wc wr : va_W} {Post : Option Value → va_W → Prop} {mc' ms' : Nat} {H : Heap} {locs : List Loc} {ls : Array Slot} {rest st0 : List Value} {a : Array Value} (B : JB x cc own fr lo mc ms nL)
    (hP : va_P x.g.1 vwCl ws H) (hD : va_D x.A ws) (hS : va_S x.A x.s.heap H locs) (hl : lv_has ls x.nL lv) (isC isR : List Nat) (hC : isC.map (fun i => ws[i]?) = wc.map some) (hR : isR.map (fun i => ws[i]?) = wr.map some) (hn : va_nd isR = true) (hdis : ∀ i ∈ isR, i ∉ isC)
    (hr : va_Run x.p x.l x.e x.R x.s x.m x.args x.below x.meth x.c H locs ck sk mc' ms' (F0 x.m pc ls st0) rest (cQ x.g wc H.size Post a) (va_A wc H.size))
    (kk : ∀ (v : Option Value) (w1 : va_W), Post v w1 → JW x (ck + mc') (sk + ms') (pc + 3) lv (v.toList ++ rest) (wr ++ w1)) : W x.p x.l x.e x.R x.s x.m x.args x.below x.meth x.c H locs ck sk x.Q (F0 x.m pc ls st0) := by
  have hFc : ∀ q, va_A wc H.size q → x.A q := va_free hD hS B.2.2.2.2.2.2.2.2.1 isC hC
  intro T hT X
  obtain ⟨v, st₀, t, T', L, h0, X', hL, e1, e2, ⟨⟨v', w1, hv, hp, hP1, hD1⟩, hz, hk⟩, stp⟩ := hr T hT X
  cases hv
  rw [h0] at hz hk
  rw [← e1] at hP1 hz hk
  obtain ⟨hPj, hDj⟩ := va_join hP hD isC isR hC hR hn hdis hk hFc hP1 hD1
  have hS1 : va_S x.A x.s.heap T'.heap (locs ++ L) := ⟨Nat.le_trans hS.1 hz, fun q h1 h2 => by rw [hk q (Nat.lt_of_lt_of_le h1 hS.1) (fun z => h2 (hFc q z))]; exact hS.2.1 q h1 h2, fun q hq => by
    rcases List.mem_append.mp hq with h | h
    · exact hS.2.2 q h
    · exact hFc _ (hL q h)⟩
  obtain ⟨t2, a1, b1⟩ := kk v w1 hp T'.heap (locs ++ L) ls hPj hDj hS1 hl T' rfl X'
  exact ⟨t2, stp t2 a1, b1⟩
theorem cP_at {av : List Value} {wc : va_W} {H : Heap} {locs : List Loc} (B : JB x cc own fr lo mc ms nL) (hP : va_P x.g.1 vwCl ws H) (hD : va_D x.A ws) (hS : va_S x.A x.s.heap H locs) (isC : List Nat) (hnC : va_nd isC = true) (hC : isC.map (fun i => ws[i]?) = wc.map some) :
    ∀ U : State, U.heap = H → x.s.WarmedH U.vm → cP x.g av wc H.size av.toArray U := by
  intro U hU hW
  have hFc : ∀ q, va_A wc H.size q → x.A q := va_free hD hS B.2.2.2.2.2.2.2.2.1 isC hC
  refine ⟨rfl, by rw [hU], ?_, va_K.moved hW.alike B.2.2.2.2.2.1, (hD.sub isC hnC hC).weaken (fun _ _ _ _ => trivial), gN.warm hW B.2.2.2.2.2.2.1, ?_⟩
  · rw [hU]
    refine hP.sub isC ?_
    have h1 : (isC.map (fun i => ws[i]?)).filterMap id = (wc.map some).filterMap id := by rw [hC]
    rw [List.filterMap_map, List.filterMap_map] at h1
    simpa using h1
  · rw [hU]
    have h1 : gS x.g x.A x.s H := B.2.2.2.2.2.2.2.1.kept (fun a h h2 => hS.2.1 a h h2)
    exact (h1.moved hW.alike).narrow hFc
theorem j_callV (B : JB x cc own fr lo mc ms nL) {i : Nat} {y : MethodName} {bytes : ByteArray} {maxL n : Nat} {ret : Option FieldType} {fr' lo' mc' ms' : Nat} {b : Nat} {As rest : List Value} {wc wr : va_W} {Post : Option Value → va_W → Prop} (hy : CY y bytes maxL ret n) (hin : Cond.instanceMethod y ∈ TB) (hse : Cond.selects y.cls y y ∈ TB) (hl0 : Cond.methodLink own i y ∈ TB)
    (hM : Ctr x.l x.g y bytes maxL ret fr' lo' mc' ms' (.ref b :: As) wc Post) (qb ci : Nat) {q : vw_C} {fs : List Value} (hcq : vwCl[ci]? = some q) (hcy : q.1 = y.cls) (hbe : ws[qb]? = some (b, .inr (ci, fs)))
    (isC isR : List Nat) (hnC : va_nd isC = true) (hC : isC.map (fun i => ws[i]?) = wc.map some) (hR : isR.map (fun i => ws[i]?) = wr.map some) (hn : va_nd isR = true) (hdis : ∀ i ∈ isR, i ∉ isC)
    (hst : st = As.reverse ++ .ref b :: rest) (hlen : As.length = n) (hrm : (rest.map fun v => v.category).sum ≤ 8) (hroom : fr' + 1 ≤ fr ∧ 8 + (maxL + 11) + lo' ≤ lo ∧ ck + mc' ≤ mc ∧ sk + ms' ≤ ms) (d : decode cc pc = .ok (.invokevirtual i, 3))
    (kk : ∀ (v : Option Value) (w1 : va_W), Post v w1 → JW x (ck + mc') (sk + ms') (pc + 3) lv (v.toList ++ rest) (wr ++ w1)) : JW x ck sk pc lv st ws := by
  intro H locs ls hP hD hS hl
  have ok : ∀ w ∈ TB, w.before x.args x.s = true := B.2.2.2.2.1
  obtain ⟨r1, r2, r3, r4⟩ := B.2.2.2.2.2.2.2.2.2.1
  refine j_after (y := y) (bytes := bytes) (maxL := maxL) (ret := ret) (g := F0 x.m pc ls st) (a := (Value.ref b :: As).toArray) B hP hD hS hl isC isR hC hR hn hdis ?_ kk
  have hrv := va_recv B.2.2.2.2.2.1 hP hcq hbe
  rw [hcy] at hrv
  exact va_runV (As := As) (rest := rest) (b := b) (C := y.cls) (Ts := TB) ⟨B.1, B.2.1, B.2.2.1.trans B.2.2.2.2.2.2.2.2.2.2.symm, B.2.2.2.1, ok⟩ (hM H.size)
    ⟨callB_of n ok (TB_good hy) rfl rfl rfl (ok _ hy.2.1) (ok _ hl0) hy.2.2 ⟨Nat.le_trans hroom.1 r1, Nat.le_trans hroom.2.1 r2⟩, ok _ hin, ok _ hse⟩
    ⟨cP_blind _ _ _ _, hrv, cP_at B hP hD hS isC hnC hC⟩ rfl hlen hl.1 hst (lv_room hrm) d ⟨Nat.le_trans hroom.2.2.1 r3, Nat.le_trans hroom.2.2.2 r4⟩
theorem j_callS (B : JB x cc own fr lo mc ms nL) {i : Nat} {y : MethodName} {bytes : ByteArray} {maxL n : Nat} {ret : Option FieldType} {fr' lo' mc' ms' : Nat} {As rest : List Value} {wc wr : va_W} {Post : Option Value → va_W → Prop} (hy : CY y bytes maxL ret n) (hse : Cond.static y ∈ TB) (hl0 : Cond.methodLink own i y ∈ TB)
    (hM : Ctr x.l x.g y bytes maxL ret fr' lo' mc' ms' As wc Post)
    (isC isR : List Nat) (hnC : va_nd isC = true) (hC : isC.map (fun i => ws[i]?) = wc.map some) (hR : isR.map (fun i => ws[i]?) = wr.map some) (hn : va_nd isR = true) (hdis : ∀ i ∈ isR, i ∉ isC)
    (hst : st = As.reverse ++ rest) (hlen : As.length = n) (hrm : (rest.map fun v => v.category).sum ≤ 8) (hroom : fr' + 1 ≤ fr ∧ 8 + (maxL + 11) + lo' ≤ lo ∧ ck + mc' ≤ mc ∧ sk + ms' ≤ ms) (d : decode cc pc = .ok (.invokestatic i, 3))
    (kk : ∀ (v : Option Value) (w1 : va_W), Post v w1 → JW x (ck + mc') (sk + ms') (pc + 3) lv (v.toList ++ rest) (wr ++ w1)) : JW x ck sk pc lv st ws := by
  intro H locs ls hP hD hS hl
  have ok : ∀ w ∈ TB, w.before x.args x.s = true := B.2.2.2.2.1
  obtain ⟨r1, r2, r3, r4⟩ := B.2.2.2.2.2.2.2.2.2.1
  refine j_after (y := y) (bytes := bytes) (maxL := maxL) (ret := ret) (g := F0 x.m pc ls st) (a := As.toArray) B hP hD hS hl isC isR hC hR hn hdis ?_ kk
  exact va_runS (As := As) (rest := rest) (Ts := TB) ⟨B.1, B.2.1, B.2.2.1.trans B.2.2.2.2.2.2.2.2.2.2.symm, B.2.2.2.1, ok⟩ (hM H.size)
    ⟨callB_of n ok (TB_good hy) rfl rfl rfl (ok _ hy.2.1) (ok _ hl0) hy.2.2 ⟨Nat.le_trans hroom.1 r1, Nat.le_trans hroom.2.1 r2⟩, ok _ hse⟩
    ⟨cP_blind _ _ _ _, cP_at B hP hD hS isC hnC hC⟩ rfl hlen hl.1 hst (lv_room hrm) d ⟨Nat.le_trans hroom.2.2.1 r3, Nat.le_trans hroom.2.2.2 r4⟩
theorem j_callI (B : JB x cc own fr lo mc ms nL) {i : Nat} {y : MethodName} {bytes : ByteArray} {maxL n : Nat} {fr' lo' mc' ms' : Nat} {b : Nat} {As rest : List Value} {wc wr : va_W} {Post : Option Value → va_W → Prop} (hy : CY y bytes maxL none n) (hin : Cond.instanceMethod y ∈ TB) (hy1 : y.name = "<init>") (hl0 : Cond.methodLink own i y ∈ TB)
    (hM : Ctr x.l x.g y bytes maxL none fr' lo' mc' ms' (.ref b :: As) wc Post)
    (isC isR : List Nat) (hnC : va_nd isC = true) (hC : isC.map (fun i => ws[i]?) = wc.map some) (hR : isR.map (fun i => ws[i]?) = wr.map some) (hn : va_nd isR = true) (hdis : ∀ i ∈ isR, i ∉ isC)
    (hst : st = As.reverse ++ .ref b :: rest) (hlen : As.length = n) (hrm : (rest.map fun v => v.category).sum ≤ 8) (hroom : fr' + 1 ≤ fr ∧ 8 + (maxL + 11) + lo' ≤ lo ∧ ck + mc' ≤ mc ∧ sk + ms' ≤ ms) (d : decode cc pc = .ok (.invokespecial i, 3))
    (kk : ∀ (v : Option Value) (w1 : va_W), Post v w1 → JW x (ck + mc') (sk + ms') (pc + 3) lv (v.toList ++ rest) (wr ++ w1)) : JW x ck sk pc lv st ws := by
  intro H locs ls hP hD hS hl
  have ok : ∀ w ∈ TB, w.before x.args x.s = true := B.2.2.2.2.1
  obtain ⟨r1, r2, r3, r4⟩ := B.2.2.2.2.2.2.2.2.2.1
  refine j_after (y := y) (bytes := bytes) (maxL := maxL) (ret := none) (g := F0 x.m pc ls st) (a := (Value.ref b :: As).toArray) B hP hD hS hl isC isR hC hR hn hdis ?_ kk
  exact va_runI (As := As) (rest := rest) (b := b) (Ts := TB) ⟨B.1, B.2.1, B.2.2.1.trans B.2.2.2.2.2.2.2.2.2.2.symm, B.2.2.2.1, ok⟩ (hM H.size)
    ⟨callB_of n ok (TB_good hy) rfl rfl rfl (ok _ hy.2.1) (ok _ hl0) hy.2.2 ⟨Nat.le_trans hroom.1 r1, Nat.le_trans hroom.2.1 r2⟩, hy1, ok _ hin⟩
    ⟨cP_blind _ _ _ _, cP_at B hP hD hS isC hnC hC⟩ rfl hlen hl.1 hst (lv_room hrm) d ⟨Nat.le_trans hroom.2.2.1 r3, Nat.le_trans hroom.2.2.2 r4⟩
theorem j_callSN (B : JB x cc own fr lo mc ms nL) {i : Nat} {host : String} {y : MethodName} {bytes : ByteArray} {maxL n : Nat} {ret : Option FieldType} {fr' lo' mc' ms' : Nat} {As rest : List Value} {wc wr : va_W} {Post : Option Value → va_W → Prop} (hy : CY y bytes maxL ret n) (hse : Cond.static y ∈ TB) (hl0 : Cond.methodLinkNest own i y host ∈ NL)
    (hM : Ctr x.l x.g y bytes maxL ret fr' lo' mc' ms' As wc Post)
    (isC isR : List Nat) (hnC : va_nd isC = true) (hC : isC.map (fun i => ws[i]?) = wc.map some) (hR : isR.map (fun i => ws[i]?) = wr.map some) (hn : va_nd isR = true) (hdis : ∀ i ∈ isR, i ∉ isC)
    (hst : st = As.reverse ++ rest) (hlen : As.length = n) (hrm : (rest.map fun v => v.category).sum ≤ 8) (hroom : fr' + 1 ≤ fr ∧ 8 + (maxL + 11) + lo' ≤ lo ∧ ck + mc' ≤ mc ∧ sk + ms' ≤ ms) (d : decode cc pc = .ok (.invokestatic i, 3))
    (kk : ∀ (v : Option Value) (w1 : va_W), Post v w1 → JW x (ck + mc') (sk + ms') (pc + 3) lv (v.toList ++ rest) (wr ++ w1)) : JW x ck sk pc lv st ws := by
  intro H locs ls hP hD hS hl
  have ok : ∀ w ∈ TB, w.before x.args x.s = true := B.2.2.2.2.1
  obtain ⟨r1, r2, r3, r4⟩ := B.2.2.2.2.2.2.2.2.2.1
  refine j_after (y := y) (bytes := bytes) (maxL := maxL) (ret := ret) (g := F0 x.m pc ls st) (a := As.toArray) B hP hD hS hl isC isR hC hR hn hdis ?_ kk
  exact va_runSN (As := As) (rest := rest) (Ts := TB) ⟨B.1, B.2.1, B.2.2.1.trans B.2.2.2.2.2.2.2.2.2.2.symm, B.2.2.2.1, ok⟩ (hM H.size)
    ⟨va_cnB n ok (TB_good hy) rfl rfl rfl (B.2.2.2.2.2.2.1 _ hl0) (ok _ hy.2.1) hy.2.2 ⟨Nat.le_trans hroom.1 r1, Nat.le_trans hroom.2.1 r2⟩, ok _ hse, trivial⟩
    ⟨cP_blind _ _ _ _, cP_at B hP hD hS isC hnC hC⟩ rfl hlen hl.1 hst (lv_room hrm) d ⟨Nat.le_trans hroom.2.2.1 r3, Nat.le_trans hroom.2.2.2 r4⟩
theorem j_callIN (B : JB x cc own fr lo mc ms nL) {i : Nat} {host : String} {y : MethodName} {bytes : ByteArray} {maxL n : Nat} {fr' lo' mc' ms' : Nat} {b : Nat} {As rest : List Value} {wc wr : va_W} {Post : Option Value → va_W → Prop} (hy : CY y bytes maxL none n) (hin : Cond.instanceMethod y ∈ TB) (hy1 : y.name = "<init>") (hl0 : Cond.methodLinkNest own i y host ∈ NL)
    (hM : Ctr x.l x.g y bytes maxL none fr' lo' mc' ms' (.ref b :: As) wc Post)
    (isC isR : List Nat) (hnC : va_nd isC = true) (hC : isC.map (fun i => ws[i]?) = wc.map some) (hR : isR.map (fun i => ws[i]?) = wr.map some) (hn : va_nd isR = true) (hdis : ∀ i ∈ isR, i ∉ isC)
    (hst : st = As.reverse ++ .ref b :: rest) (hlen : As.length = n) (hrm : (rest.map fun v => v.category).sum ≤ 8) (hroom : fr' + 1 ≤ fr ∧ 8 + (maxL + 11) + lo' ≤ lo ∧ ck + mc' ≤ mc ∧ sk + ms' ≤ ms) (d : decode cc pc = .ok (.invokespecial i, 3))
    (kk : ∀ (v : Option Value) (w1 : va_W), Post v w1 → JW x (ck + mc') (sk + ms') (pc + 3) lv (v.toList ++ rest) (wr ++ w1)) : JW x ck sk pc lv st ws := by
  intro H locs ls hP hD hS hl
  have ok : ∀ w ∈ TB, w.before x.args x.s = true := B.2.2.2.2.1
  obtain ⟨r1, r2, r3, r4⟩ := B.2.2.2.2.2.2.2.2.2.1
  refine j_after (y := y) (bytes := bytes) (maxL := maxL) (ret := none) (g := F0 x.m pc ls st) (a := (Value.ref b :: As).toArray) B hP hD hS hl isC isR hC hR hn hdis ?_ kk
  exact va_runIN (As := As) (rest := rest) (b := b) (Ts := TB) ⟨B.1, B.2.1, B.2.2.1.trans B.2.2.2.2.2.2.2.2.2.2.symm, B.2.2.2.1, ok⟩ (hM H.size)
    ⟨va_cnB n ok (TB_good hy) rfl rfl rfl (B.2.2.2.2.2.2.1 _ hl0) (ok _ hy.2.1) hy.2.2 ⟨Nat.le_trans hroom.1 r1, Nat.le_trans hroom.2.1 r2⟩, hy1, ok _ hin⟩
    ⟨cP_blind _ _ _ _, cP_at B hP hD hS isC hnC hC⟩ rfl hlen hl.1 hst (lv_room hrm) d ⟨Nat.le_trans hroom.2.2.1 r3, Nat.le_trans hroom.2.2.2 r4⟩
theorem j_min (B : JB x cc own fr lo mc ms nL) {i : Nat} {a b : Int} (hl0 : Cond.methodLink own i Lib.Math.min.name ∈ TB) (hst : Cond.static Lib.Math.min.name ∈ TB) (hini : Cond.initialized "java/lang/Math" ∈ TB) (hc : Cond.code Lib.Math.min.name Lib.Math.min.code 2 (some .int) ∈ TB) (ha : inR a) (hb : inR b) (hroom : 1 ≤ fr ∧ (st.map fun v => v.category).sum + 13 ≤ lo ∧ ck ≤ mc ∧ sk ≤ ms) (d : decode cc pc = .ok (.invokestatic i, 3)) (kk : JW x ck sk (pc + 3) lv (.int (iI (if b < a then b else a)) :: st) ws) : JW x ck sk pc lv (.int (iI b) :: .int (iI a) :: st) ws := by
  intro H locs ls hP hD hS hl
  have ok : ∀ w ∈ TB, w.before x.args x.s = true := B.2.2.2.2.1
  obtain ⟨r1, r2, r3, r4⟩ := B.2.2.2.2.2.2.2.2.2.1
  refine va_mmin B.1 B.2.1 (B.2.2.1.trans (B.2.2.2.2.2.2.2.2.2.2.symm.trans hl.1.symm)) B.2.2.2.1 (ok _ hl0) (ok _ hst) (ok _ hini) (ok _ hc) (Nat.le_trans hroom.1 r1) (Nat.le_trans hroom.2.1 r2) (Nat.le_trans hroom.2.2.1 r3) (Nat.le_trans hroom.2.2.2 r4) d ?_
  have e : (if iI b < iI a then iI b else iI a) = iI (if b < a then b else a) := by
    by_cases h : b < a
    · rw [if_pos h, if_pos ((iI_lt hb ha).mpr h)]
    · rw [if_neg h, if_neg (fun q => h ((iI_lt hb ha).mp q))]
  rw [e]
  exact kk H locs ls hP hD hS hl
/-- System.arraycopy of ints -/
def zcpy (f h : Int → Int) (sp dp n : Int) : Int → Int := fun j => if dp ≤ j ∧ j < dp + n then f (sp + (j - dp)) else h j
theorem zcpy_of {f h : Int → Int} {sp dp n : Int} (h1 : 0 ≤ sp) (h2 : 0 ≤ dp) (h3 : 0 ≤ n) : va_cpy (fun j : Nat => iI (f (j : Int))) (fun j : Nat => iI (h (j : Int))) sp.toNat dp.toNat n.toNat = fun j : Nat => iI (zcpy f h sp dp n (j : Int)) := by
  funext j
  unfold va_cpy zcpy
  by_cases c : dp ≤ (j : Int) ∧ (j : Int) < dp + n
  · rw [if_pos (by omega), if_pos c]
    have e : ((sp.toNat + (j - dp.toNat) : Nat) : Int) = sp + ((j : Int) - dp) := by omega
    show iI (f ((sp.toNat + (j - dp.toNat) : Nat) : Int)) = _
    rw [e]
  · rw [if_neg (by omega), if_neg c]
theorem j_copy (B : JB x cc own fr lo mc ms nL) {i : Nat} {a0 a1 n0 n1 : Nat} {f h : Int → Int} {sp dp n : Int} {ws' : va_W} (hl0 : Cond.methodLink own i arraycopyName ∈ TB) (hnat : Cond.native arraycopyName ∈ TB) (hst : Cond.static arraycopyName ∈ TB) (hini : Cond.initialized "java/lang/System" ∈ TB) (q0 q1 : Nat) (e0 : ws[q0]? = some (a0, aI x.g n0 f)) (e1 : ws[q1]? = some (a1, aI x.g n1 h)) (hb : (0 ≤ sp ∧ 0 ≤ dp ∧ 0 ≤ n ∧ sp + n ≤ n0 ∧ dp + n ≤ n1) ∧ n0 < 2147483648 ∧ n1 < 2147483648) (hroom : 1 ≤ fr ∧ (st.map fun v => v.category).sum + (nativeFrameWords "java/lang/System" "arraycopy" 5 + 11) ≤ lo) (d : decode cc pc = .ok (.invokestatic i, 3)) (hw : ws.set q1 (a1, aI x.g n1 (zcpy f h sp dp n)) = ws') (kk : JW x ck sk (pc + 3) lv st ws') : JW x ck sk pc lv (.int (iI n) :: .int (iI dp) :: .ref a1 :: .int (iI sp) :: .ref a0 :: st) ws := by
  intro H locs ls hP hD hS hl
  have ok : ∀ w ∈ TB, w.before x.args x.s = true := B.2.2.2.2.1
  obtain ⟨r1, r2, r3, r4⟩ := B.2.2.2.2.2.2.2.2.2.1
  obtain ⟨⟨h1, h2, h3, h4, h5⟩, b0, b1⟩ := hb
  have n1' : ¬ iI sp < 0 := fun q => absurd ((iI_lt (b := 0) (by omega) (by decide)).mp q) (by omega)
  have n2' : ¬ iI dp < 0 := fun q => absurd ((iI_lt (b := 0) (by omega) (by decide)).mp q) (by omega)
  have n3' : ¬ iI n < 0 := fun q => absurd ((iI_lt (b := 0) (by omega) (by decide)).mp q) (by omega)
  refine va_copyi (ty := .int) B.1 B.2.1 (B.2.2.1.trans (B.2.2.2.2.2.2.2.2.2.2.symm.trans hl.1.symm)) B.2.2.2.1 (ok _ hl0) (ok _ hnat) (ok _ hst) (ok _ hini) B.2.2.2.2.2.1 hP hD hS q0 q1 0 0 e0 e1 rfl rfl rfl n1' n2' n3' ?_ ?_ (fun _ _ => rfl) (Nat.le_trans hroom.1 r1) (Nat.le_trans hroom.2 r2) d (fun H1 locs1 hP1 hD1 hS1 => ?_)
  · rw [iI_clamp h1 (by omega), iI_clamp h3 (by omega)]; omega
  · rw [iI_clamp h2 (by omega), iI_clamp h3 (by omega)]; omega
  · rw [iI_clamp h1 (by omega), iI_clamp h2 (by omega), iI_clamp h3 (by omega), zcpy_of h1 h2 h3, hw] at hP1 hD1
    exact kk H1 locs1 ls hP1 hD1 hS1 hl
end JRows
end
section
theorem tb_of {w : Cond} (i : Nat) (h : tables_1[i]? = some w) (h2 : goodWord w = true) : w ∈ TB := List.mem_filter.mpr ⟨List.mem_append_right _ (List.mem_of_getElem? h), h2⟩
theorem tb_1 {w : Cond} (i : Nat) (h0 : tables_1_1[i]? = some w) (h2 : goodWord w = true) : w ∈ TB := by
  have h := List.mem_of_getElem? h0
  have h1 : w ∈ tables_1 := List.mem_append_left _ h
  exact List.mem_filter.mpr ⟨List.mem_append_right _ h1, h2⟩
theorem tb_2 {w : Cond} (i : Nat) (h0 : tables_1_2[i]? = some w) (h2 : goodWord w = true) : w ∈ TB := by
  have h := List.mem_of_getElem? h0
  have h1 : w ∈ tables_1 := List.mem_append_right _ (List.mem_append_left _ h)
  exact List.mem_filter.mpr ⟨List.mem_append_right _ h1, h2⟩
theorem tb_3 {w : Cond} (i : Nat) (h0 : tables_1_3[i]? = some w) (h2 : goodWord w = true) : w ∈ TB := by
  have h := List.mem_of_getElem? h0
  have h1 : w ∈ tables_1 := List.mem_append_right _ (List.mem_append_right _ (List.mem_append_left _ h))
  exact List.mem_filter.mpr ⟨List.mem_append_right _ h1, h2⟩
theorem tb_4 {w : Cond} (i : Nat) (h0 : tables_1_4[i]? = some w) (h2 : goodWord w = true) : w ∈ TB := by
  have h := List.mem_of_getElem? h0
  have h1 : w ∈ tables_1 := List.mem_append_right _ (List.mem_append_right _ (List.mem_append_right _ (List.mem_append_left _ h)))
  exact List.mem_filter.mpr ⟨List.mem_append_right _ h1, h2⟩
theorem tb_5 {w : Cond} (i : Nat) (h0 : tables_1_5[i]? = some w) (h2 : goodWord w = true) : w ∈ TB := by
  have h := List.mem_of_getElem? h0
  have h1 : w ∈ tables_1 := List.mem_append_right _ (List.mem_append_right _ (List.mem_append_right _ (List.mem_append_right _ h)))
  exact List.mem_filter.mpr ⟨List.mem_append_right _ h1, h2⟩
theorem tb_ofs {w : Cond} (i : Nat) (h : (k2_sels lw_privs)[i]? = some w ∧ goodWord w = true) : w ∈ TB := List.mem_filter.mpr ⟨List.mem_append_left _ (List.mem_of_getElem? h.1), h.2⟩
theorem nl_of {w : Cond} (i : Nat) (h : tables_1[i]? = some w ∧ isNest w = true) : w ∈ NL := List.mem_filter.mpr ⟨List.mem_append_right _ (List.mem_of_getElem? h.1), h.2⟩
theorem tb_all {ws : List Cond} (ps : List Nat) (h : ws = ps.filterMap (fun i => tables_1[i]?) ∧ ws.all goodWord = true) : ∀ w ∈ ws, w ∈ TB := by
  intro w hw
  have h1 := List.all_eq_true.mp h.2 w hw
  rw [h.1] at hw
  obtain ⟨i, -, hi⟩ := List.mem_filterMap.mp hw
  exact tb_of i hi h1
theorem in_X0 : ∀ w ∈ u_ws RX0 TX0 4, w ∈ TB := tb_all [74, 76, 78, 80] (by decide +kernel)
theorem in_X1 : ∀ w ∈ u_ws RX1 TX1 3, w ∈ TB := tb_all [52, 54, 56] (by decide +kernel)
theorem in_X2 : ∀ w ∈ u_ws RX2 TX2 9, w ∈ TB := tb_all [233, 235, 237, 239, 241, 243, 245, 247, 249] (by decide +kernel)
theorem in_X3 : ∀ w ∈ u_ws RX3 TX3 2, w ∈ TB := tb_all [314, 316] (by decide +kernel)
theorem in_X4 : ∀ w ∈ u_ws RX4 TX4 7, w ∈ TB := tb_all [345, 347, 349, 351, 353, 355, 357] (by decide +kernel)
theorem in_X5 : ∀ w ∈ u_ws RX5 TX5 6, w ∈ TB := tb_all [272, 274, 276, 278, 280, 282] (by decide +kernel)
theorem in_X6 : ∀ w ∈ u_ws RX6 TX6 7, w ∈ TB := tb_all [180, 182, 184, 186, 188, 190, 192] (by decide +kernel)
theorem in_X7 : ∀ w ∈ u_ws RX7 TX7 5, w ∈ TB := tb_all [205, 207, 209, 211, 213] (by decide +kernel)
theorem in_X8 : ∀ w ∈ u_ws RX8 TX8 6, w ∈ TB := tb_all [121, 123, 125, 127, 129, 131] (by decide +kernel)
theorem in_X9 : ∀ w ∈ u_ws RX9 TX9 4, w ∈ TB := tb_all [303, 305, 307, 309] (by decide +kernel)
theorem in_X10 : ∀ w ∈ u_ws RX10 TX10 4, w ∈ TB := tb_all [156, 158, 160, 162] (by decide +kernel)
theorem in_X11 : ∀ w ∈ u_ws RX11 TX11 10, w ∈ TB := tb_all [370, 372, 374, 376, 378, 380, 382, 384, 386, 388] (by decide +kernel)
theorem in_X12 : ∀ w ∈ u_ws RX12 TX12 38, w ∈ TB := tb_all [871, 873, 875, 877, 879, 881, 883, 885, 887, 889, 891, 893, 895, 897, 899, 901, 903, 905, 907, 909, 911, 913, 915, 917, 919, 921, 923, 925, 927, 929, 931, 933, 935, 937, 939, 941, 943, 945] (by decide +kernel)
theorem in_Jx00060 : ∀ w ∈ u_ws RJx00060 TJx00060 6, w ∈ TB := tb_all [778, 780, 782, 784, 786, 788] (by decide +kernel)
theorem in_J0 : ∀ w ∈ u_ws RJ0 TJ0 2, w ∈ TB := tb_all [812, 814] (by decide +kernel)
theorem f_X11_11 : FL RX11 11 RX11 TX11 10 13 0 := ⟨tb_2 120 rfl rfl, in_X11, rfl, by decide⟩
theorem f_X11_14 : FL RX11 14 RX11 TX11 10 13 1 := ⟨tb_2 121 rfl rfl, in_X11, rfl, by decide⟩
theorem f_X11_18 : FL RX11 18 RX11 TX11 10 13 2 := ⟨tb_2 122 rfl rfl, in_X11, rfl, by decide⟩
theorem f_X11_25 : FL RX11 25 RX11 TX11 10 13 3 := ⟨tb_2 123 rfl rfl, in_X11, rfl, by decide⟩
theorem f_X11_32 : FL RX11 32 RX11 TX11 10 13 4 := ⟨tb_2 124 rfl rfl, in_X11, rfl, by decide⟩
theorem f_X11_41 : FL RX11 41 RX11 TX11 10 13 5 := ⟨tb_2 125 rfl rfl, in_X11, rfl, by decide⟩
theorem f_X11_48 : FL RX11 48 RX11 TX11 10 13 6 := ⟨tb_2 126 rfl rfl, in_X11, rfl, by decide⟩
theorem f_X11_57 : FL RX11 57 RX11 TX11 10 13 7 := ⟨tb_2 127 rfl rfl, in_X11, rfl, by decide⟩
theorem f_X11_64 : FL RX11 64 RX11 TX11 10 13 8 := ⟨tb_2 128 rfl rfl, in_X11, rfl, by decide⟩
theorem f_X11_68 : FL RX11 68 RX11 TX11 10 13 9 := ⟨tb_2 129 rfl rfl, in_X11, rfl, by decide⟩
theorem f_X11_79 : FL RX11 79 RX1 TX1 3 3 1 := ⟨tb_1 46 rfl rfl, in_X1, rfl, by decide⟩
theorem f_X11_90 : FL RX11 90 RX0 TX0 4 2 1 := ⟨tb_1 70 rfl rfl, in_X0, rfl, by decide⟩
theorem f_X11_93 : FL RX11 93 RX2 TX2 9 4 5 := ⟨tb_1 229 rfl rfl, in_X2, rfl, by decide⟩
theorem f_X11_107 : FL RX11 107 RX5 TX5 6 7 2 := ⟨tb_2 25 rfl rfl, in_X5, rfl, by decide⟩
theorem f_X11_110 : FL RX11 110 RX5 TX5 6 7 3 := ⟨tb_2 27 rfl rfl, in_X5, rfl, by decide⟩
theorem f_X11_113 : FL RX11 113 RX5 TX5 6 7 4 := ⟨tb_2 29 rfl rfl, in_X5, rfl, by decide⟩
theorem f_X11_116 : FL RX11 116 RX5 TX5 6 7 5 := ⟨tb_2 31 rfl rfl, in_X5, rfl, by decide⟩
theorem f_X11_120 : FL RX11 120 RX5 TX5 6 7 0 := ⟨tb_2 21 rfl rfl, in_X5, rfl, by decide⟩
theorem f_X11_124 : FL RX11 124 RX5 TX5 6 7 1 := ⟨tb_2 23 rfl rfl, in_X5, rfl, by decide⟩
theorem f_X11_131 : FL RX11 131 RX8 TX8 6 10 2 := ⟨tb_1 107 rfl rfl, in_X8, rfl, by decide⟩
theorem f_X11_136 : FL RX11 136 RX8 TX8 6 10 3 := ⟨tb_1 111 rfl rfl, in_X8, rfl, by decide⟩
theorem f_X11_139 : FL RX11 139 RX8 TX8 6 10 4 := ⟨tb_1 115 rfl rfl, in_X8, rfl, by decide⟩
theorem f_X11_140 : FL RX11 140 RX8 TX8 6 10 5 := ⟨tb_1 120 rfl rfl, in_X8, rfl, by decide⟩
theorem f_X11_143 : FL RX11 143 RX2 TX2 9 4 0 := ⟨tb_1 218 rfl rfl, in_X2, rfl, by decide⟩
theorem f_X11_147 : FL RX11 147 RX7 TX7 5 9 0 := ⟨tb_1 200 rfl rfl, in_X7, rfl, by decide⟩
theorem f_X11_165 : FL RX11 165 RX0 TX0 4 2 0 := ⟨tb_1 67 rfl rfl, in_X0, rfl, by decide⟩
theorem f_X11_175 : FL RX11 175 RX4 TX4 7 6 2 := ⟨tb_2 94 rfl rfl, in_X4, rfl, by decide⟩
theorem f_X11_176 : FL RX11 176 RX4 TX4 7 6 3 := ⟨tb_2 96 rfl rfl, in_X4, rfl, by decide⟩
theorem f_X11_177 : FL RX11 177 RX4 TX4 7 6 4 := ⟨tb_2 99 rfl rfl, in_X4, rfl, by decide⟩
theorem f_X11_178 : FL RX11 178 RX4 TX4 7 6 5 := ⟨tb_2 102 rfl rfl, in_X4, rfl, by decide⟩
theorem f_X11_179 : FL RX11 179 RX4 TX4 7 6 6 := ⟨tb_2 104 rfl rfl, in_X4, rfl, by decide⟩
theorem f_X11_182 : FL RX11 182 RX4 TX4 7 6 1 := ⟨tb_2 91 rfl rfl, in_X4, rfl, by decide⟩
theorem f_X11_192 : FL RX11 192 RX4 TX4 7 6 0 := ⟨tb_2 88 rfl rfl, in_X4, rfl, by decide⟩
theorem f_X11_205 : FL RX11 205 RX8 TX8 6 10 1 := ⟨tb_1 103 rfl rfl, in_X8, rfl, by decide⟩
theorem f_X11_208 : FL RX11 208 RX8 TX8 6 10 0 := ⟨tb_1 99 rfl rfl, in_X8, rfl, by decide⟩
theorem f_X0_9 : FL RX0 9 RX0 TX0 4 2 0 := ⟨tb_1 66 rfl rfl, in_X0, rfl, by decide⟩
theorem f_X0_15 : FL RX0 15 RX0 TX0 4 2 1 := ⟨tb_1 68 rfl rfl, in_X0, rfl, by decide⟩
theorem f_X0_19 : FL RX0 19 RX0 TX0 4 2 3 := ⟨tb_1 73 rfl rfl, in_X0, rfl, by decide⟩
theorem f_X0_22 : FL RX0 22 RX0 TX0 4 2 2 := ⟨tb_1 72 rfl rfl, in_X0, rfl, by decide⟩
theorem f_X1_9 : FL RX1 9 RX1 TX1 3 3 0 := ⟨tb_1 40 rfl rfl, in_X1, rfl, by decide⟩
theorem f_X1_15 : FL RX1 15 RX1 TX1 3 3 1 := ⟨tb_1 43 rfl rfl, in_X1, rfl, by decide⟩
theorem f_X1_19 : FL RX1 19 RX1 TX1 3 3 2 := ⟨tb_1 49 rfl rfl, in_X1, rfl, by decide⟩
theorem f_X2_12 : FL RX2 12 RX2 TX2 9 4 1 := ⟨tb_1 219 rfl rfl, in_X2, rfl, by decide⟩
theorem f_X2_23 : FL RX2 23 RX2 TX2 9 4 0 := ⟨tb_1 217 rfl rfl, in_X2, rfl, by decide⟩
theorem f_X2_27 : FL RX2 27 RX2 TX2 9 4 6 := ⟨tb_1 230 rfl rfl, in_X2, rfl, by decide⟩
theorem f_X2_33 : FL RX2 33 RX2 TX2 9 4 7 := ⟨tb_1 231 rfl rfl, in_X2, rfl, by decide⟩
theorem f_X2_37 : FL RX2 37 RX2 TX2 9 4 2 := ⟨tb_1 221 rfl rfl, in_X2, rfl, by decide⟩
theorem f_X2_41 : FL RX2 41 RX2 TX2 9 4 3 := ⟨tb_1 223 rfl rfl, in_X2, rfl, by decide⟩
theorem f_X2_44 : FL RX2 44 RX2 TX2 9 4 8 := ⟨tb_1 232 rfl rfl, in_X2, rfl, by decide⟩
theorem f_X2_61 : FL RX2 61 RX2 TX2 9 4 4 := ⟨tb_1 226 rfl rfl, in_X2, rfl, by decide⟩
theorem f_X2_64 : FL RX2 64 RX8 TX8 6 10 4 := ⟨tb_1 114 rfl rfl, in_X8, rfl, by decide⟩
theorem f_X2_67 : FL RX2 67 RX2 TX2 9 4 5 := ⟨tb_1 228 rfl rfl, in_X2, rfl, by decide⟩
theorem f_X2_74 : FL RX2 74 RX0 TX0 4 2 1 := ⟨tb_1 69 rfl rfl, in_X0, rfl, by decide⟩
theorem f_X2_100 : FL RX2 100 RX7 TX7 5 9 0 := ⟨tb_1 199 rfl rfl, in_X7, rfl, by decide⟩
theorem f_X2_110 : FL RX2 110 RX8 TX8 6 10 2 := ⟨tb_1 106 rfl rfl, in_X8, rfl, by decide⟩
theorem f_X2_113 : FL RX2 113 RX8 TX8 6 10 3 := ⟨tb_1 110 rfl rfl, in_X8, rfl, by decide⟩
theorem f_X2_123 : FL RX2 123 RX10 TX10 4 12 0 := ⟨tb_1 147 rfl rfl, in_X10, rfl, by decide⟩
theorem f_X2_126 : FL RX2 126 RX10 TX10 4 12 2 := ⟨tb_1 153 rfl rfl, in_X10, rfl, by decide⟩
theorem f_X2_133 : FL RX2 133 RX1 TX1 3 3 1 := ⟨tb_1 48 rfl rfl, in_X1, rfl, by decide⟩
theorem f_X2_138 : FL RX2 138 RX1 TX1 3 3 2 := ⟨tb_1 51 rfl rfl, in_X1, rfl, by decide⟩
theorem f_X2_141 : FL RX2 141 RX1 TX1 3 3 0 := ⟨tb_1 42 rfl rfl, in_X1, rfl, by decide⟩
theorem f_X2_144 : FL RX2 144 RX8 TX8 6 10 5 := ⟨tb_1 119 rfl rfl, in_X8, rfl, by decide⟩
theorem f_X2_150 : FL RX2 150 RX8 TX8 6 10 0 := ⟨tb_1 98 rfl rfl, in_X8, rfl, by decide⟩
theorem f_X2_153 : FL RX2 153 RX8 TX8 6 10 1 := ⟨tb_1 102 rfl rfl, in_X8, rfl, by decide⟩
theorem f_X3_9 : FL RX3 9 RX3 TX3 2 5 0 := ⟨tb_2 72 rfl rfl, in_X3, rfl, by decide⟩
theorem f_X3_20 : FL RX3 20 RX3 TX3 2 5 1 := ⟨tb_2 73 rfl rfl, in_X3, rfl, by decide⟩
theorem f_X3_34 : FL RX3 34 RX4 TX4 7 6 1 := ⟨tb_2 90 rfl rfl, in_X4, rfl, by decide⟩
theorem f_X3_40 : FL RX3 40 RX0 TX0 4 2 2 := ⟨tb_1 71 rfl rfl, in_X0, rfl, by decide⟩
theorem f_X3_47 : FL RX3 47 RX4 TX4 7 6 4 := ⟨tb_2 98 rfl rfl, in_X4, rfl, by decide⟩
theorem f_X3_50 : FL RX3 50 RX4 TX4 7 6 5 := ⟨tb_2 100 rfl rfl, in_X4, rfl, by decide⟩
theorem f_X3_57 : FL RX3 57 RX4 TX4 7 6 0 := ⟨tb_2 87 rfl rfl, in_X4, rfl, by decide⟩
theorem f_X3_61 : FL RX3 61 RX4 TX4 7 6 2 := ⟨tb_2 93 rfl rfl, in_X4, rfl, by decide⟩
theorem f_X3_68 : FL RX3 68 RX4 TX4 7 6 3 := ⟨tb_2 95 rfl rfl, in_X4, rfl, by decide⟩
theorem f_X3_96 : FL RX3 96 RX4 TX4 7 6 6 := ⟨tb_2 103 rfl rfl, in_X4, rfl, by decide⟩
theorem f_X4_11 : FL RX4 11 RX4 TX4 7 6 0 := ⟨tb_2 86 rfl rfl, in_X4, rfl, by decide⟩
theorem f_X4_16 : FL RX4 16 RX4 TX4 7 6 1 := ⟨tb_2 89 rfl rfl, in_X4, rfl, by decide⟩
theorem f_X4_20 : FL RX4 20 RX4 TX4 7 6 2 := ⟨tb_2 92 rfl rfl, in_X4, rfl, by decide⟩
theorem f_X4_24 : FL RX4 24 RX4 TX4 7 6 4 := ⟨tb_2 97 rfl rfl, in_X4, rfl, by decide⟩
theorem f_X4_27 : FL RX4 27 RX4 TX4 7 6 5 := ⟨tb_2 101 rfl rfl, in_X4, rfl, by decide⟩
theorem f_X5_10 : FL RX5 10 RX5 TX5 6 7 0 := ⟨tb_2 20 rfl rfl, in_X5, rfl, by decide⟩
theorem f_X5_16 : FL RX5 16 RX5 TX5 6 7 1 := ⟨tb_2 22 rfl rfl, in_X5, rfl, by decide⟩
theorem f_X5_19 : FL RX5 19 RX2 TX2 9 4 2 := ⟨tb_1 222 rfl rfl, in_X2, rfl, by decide⟩
theorem f_X5_25 : FL RX5 25 RX5 TX5 6 7 2 := ⟨tb_2 24 rfl rfl, in_X5, rfl, by decide⟩
theorem f_X5_26 : FL RX5 26 RX2 TX2 9 4 3 := ⟨tb_1 224 rfl rfl, in_X2, rfl, by decide⟩
theorem f_X5_29 : FL RX5 29 RX5 TX5 6 7 3 := ⟨tb_2 26 rfl rfl, in_X5, rfl, by decide⟩
theorem f_X5_30 : FL RX5 30 RX2 TX2 9 4 4 := ⟨tb_1 225 rfl rfl, in_X2, rfl, by decide⟩
theorem f_X5_33 : FL RX5 33 RX5 TX5 6 7 4 := ⟨tb_2 28 rfl rfl, in_X5, rfl, by decide⟩
theorem f_X5_34 : FL RX5 34 RX2 TX2 9 4 5 := ⟨tb_1 227 rfl rfl, in_X2, rfl, by decide⟩
theorem f_X5_37 : FL RX5 37 RX5 TX5 6 7 5 := ⟨tb_2 30 rfl rfl, in_X5, rfl, by decide⟩
theorem f_X5_38 : FL RX5 38 RX2 TX2 9 4 1 := ⟨tb_1 220 rfl rfl, in_X2, rfl, by decide⟩
theorem f_X6_9 : FL RX6 9 RX6 TX6 7 8 0 := ⟨tb_1 173 rfl rfl, in_X6, rfl, by decide⟩
theorem f_X6_15 : FL RX6 15 RX6 TX6 7 8 1 := ⟨tb_1 174 rfl rfl, in_X6, rfl, by decide⟩
theorem f_X6_19 : FL RX6 19 RX6 TX6 7 8 2 := ⟨tb_1 175 rfl rfl, in_X6, rfl, by decide⟩
theorem f_X6_22 : FL RX6 22 RX6 TX6 7 8 3 := ⟨tb_1 176 rfl rfl, in_X6, rfl, by decide⟩
theorem f_X6_25 : FL RX6 25 RX10 TX10 4 12 1 := ⟨tb_1 148 rfl rfl, in_X10, rfl, by decide⟩
theorem f_X6_31 : FL RX6 31 RX6 TX6 7 8 4 := ⟨tb_1 177 rfl rfl, in_X6, rfl, by decide⟩
theorem f_X6_32 : FL RX6 32 RX1 TX1 3 3 1 := ⟨tb_1 44 rfl rfl, in_X1, rfl, by decide⟩
theorem f_X6_37 : FL RX6 37 RX6 TX6 7 8 5 := ⟨tb_1 178 rfl rfl, in_X6, rfl, by decide⟩
theorem f_X6_38 : FL RX6 38 RX6 TX6 7 8 6 := ⟨tb_1 179 rfl rfl, in_X6, rfl, by decide⟩
theorem f_X6_67 : FL RX6 67 RX8 TX8 6 10 5 := ⟨tb_1 118 rfl rfl, in_X8, rfl, by decide⟩
theorem f_X6_72 : FL RX6 72 RX8 TX8 6 10 0 := ⟨tb_1 97 rfl rfl, in_X8, rfl, by decide⟩
theorem f_X6_79 : FL RX6 79 RX8 TX8 6 10 1 := ⟨tb_1 101 rfl rfl, in_X8, rfl, by decide⟩
theorem f_X7_12 : FL RX7 12 RX7 TX7 5 9 0 := ⟨tb_1 198 rfl rfl, in_X7, rfl, by decide⟩
theorem f_X7_21 : FL RX7 21 RX7 TX7 5 9 2 := ⟨tb_1 202 rfl rfl, in_X7, rfl, by decide⟩
theorem f_X7_28 : FL RX7 28 RX7 TX7 5 9 3 := ⟨tb_1 203 rfl rfl, in_X7, rfl, by decide⟩
theorem f_X7_35 : FL RX7 35 RX7 TX7 5 9 4 := ⟨tb_1 204 rfl rfl, in_X7, rfl, by decide⟩
theorem f_X7_39 : FL RX7 39 RX7 TX7 5 9 1 := ⟨tb_1 201 rfl rfl, in_X7, rfl, by decide⟩
theorem f_X7_50 : FL RX7 50 RX8 TX8 6 10 4 := ⟨tb_1 112 rfl rfl, in_X8, rfl, by decide⟩
theorem f_X7_62 : FL RX7 62 RX8 TX8 6 10 2 := ⟨tb_1 105 rfl rfl, in_X8, rfl, by decide⟩
theorem f_X7_65 : FL RX7 65 RX10 TX10 4 12 3 := ⟨tb_1 155 rfl rfl, in_X10, rfl, by decide⟩
theorem f_X7_68 : FL RX7 68 RX8 TX8 6 10 3 := ⟨tb_1 109 rfl rfl, in_X8, rfl, by decide⟩
theorem f_X7_69 : FL RX7 69 RX8 TX8 6 10 5 := ⟨tb_1 117 rfl rfl, in_X8, rfl, by decide⟩
theorem f_X7_76 : FL RX7 76 RX10 TX10 4 12 2 := ⟨tb_1 152 rfl rfl, in_X10, rfl, by decide⟩
theorem f_X7_79 : FL RX7 79 RX10 TX10 4 12 1 := ⟨tb_1 150 rfl rfl, in_X10, rfl, by decide⟩
theorem f_X7_89 : FL RX7 89 RX1 TX1 3 3 1 := ⟨tb_1 45 rfl rfl, in_X1, rfl, by decide⟩
theorem f_X8_9 : FL RX8 9 RX8 TX8 6 10 0 := ⟨tb_1 96 rfl rfl, in_X8, rfl, by decide⟩
theorem f_X8_15 : FL RX8 15 RX8 TX8 6 10 1 := ⟨tb_1 100 rfl rfl, in_X8, rfl, by decide⟩
theorem f_X8_18 : FL RX8 18 RX8 TX8 6 10 5 := ⟨tb_1 116 rfl rfl, in_X8, rfl, by decide⟩
theorem f_X8_22 : FL RX8 22 RX8 TX8 6 10 2 := ⟨tb_1 104 rfl rfl, in_X8, rfl, by decide⟩
theorem f_X8_25 : FL RX8 25 RX8 TX8 6 10 3 := ⟨tb_1 108 rfl rfl, in_X8, rfl, by decide⟩
theorem f_X8_28 : FL RX8 28 RX8 TX8 6 10 4 := ⟨tb_1 113 rfl rfl, in_X8, rfl, by decide⟩
theorem f_X9_12 : FL RX9 12 RX9 TX9 4 11 1 := ⟨tb_2 60 rfl rfl, in_X9, rfl, by decide⟩
theorem f_X9_18 : FL RX9 18 RX9 TX9 4 11 0 := ⟨tb_2 59 rfl rfl, in_X9, rfl, by decide⟩
theorem f_X9_22 : FL RX9 22 RX9 TX9 4 11 2 := ⟨tb_2 61 rfl rfl, in_X9, rfl, by decide⟩
theorem f_X9_36 : FL RX9 36 RX9 TX9 4 11 3 := ⟨tb_2 62 rfl rfl, in_X9, rfl, by decide⟩
theorem f_X9_67 : FL RX9 67 RX1 TX1 3 3 1 := ⟨tb_1 47 rfl rfl, in_X1, rfl, by decide⟩
theorem f_X9_70 : FL RX9 70 RX1 TX1 3 3 2 := ⟨tb_1 50 rfl rfl, in_X1, rfl, by decide⟩
theorem f_X9_73 : FL RX9 73 RX1 TX1 3 3 0 := ⟨tb_1 41 rfl rfl, in_X1, rfl, by decide⟩
theorem f_X10_9 : FL RX10 9 RX10 TX10 4 12 0 := ⟨tb_1 146 rfl rfl, in_X10, rfl, by decide⟩
theorem f_X10_27 : FL RX10 27 RX10 TX10 4 12 3 := ⟨tb_1 154 rfl rfl, in_X10, rfl, by decide⟩
theorem f_X10_31 : FL RX10 31 RX10 TX10 4 12 1 := ⟨tb_1 149 rfl rfl, in_X10, rfl, by decide⟩
theorem f_X10_34 : FL RX10 34 RX10 TX10 4 12 2 := ⟨tb_1 151 rfl rfl, in_X10, rfl, by decide⟩
theorem f_X12_1 : FL RX12 1 RX12 TX12 38 14 0 := ⟨tb_4 113 rfl rfl, in_X12, rfl, by decide⟩
theorem f_X12_13 : FL RX12 13 RX12 TX12 38 14 1 := ⟨tb_4 114 rfl rfl, in_X12, rfl, by decide⟩
theorem f_X12_16 : FL RX12 16 RX12 TX12 38 14 2 := ⟨tb_4 115 rfl rfl, in_X12, rfl, by decide⟩
theorem f_X12_20 : FL RX12 20 RX12 TX12 38 14 3 := ⟨tb_4 116 rfl rfl, in_X12, rfl, by decide⟩
theorem f_X12_23 : FL RX12 23 RX12 TX12 38 14 4 := ⟨tb_4 117 rfl rfl, in_X12, rfl, by decide⟩
theorem f_X12_26 : FL RX12 26 RX12 TX12 38 14 8 := ⟨tb_4 121 rfl rfl, in_X12, rfl, by decide⟩
theorem f_X12_29 : FL RX12 29 RX12 TX12 38 14 10 := ⟨tb_4 123 rfl rfl, in_X12, rfl, by decide⟩
theorem f_X12_32 : FL RX12 32 RX12 TX12 38 14 11 := ⟨tb_4 124 rfl rfl, in_X12, rfl, by decide⟩
theorem f_X12_35 : FL RX12 35 RX12 TX12 38 14 12 := ⟨tb_4 125 rfl rfl, in_X12, rfl, by decide⟩
theorem f_X12_38 : FL RX12 38 RX12 TX12 38 14 13 := ⟨tb_4 126 rfl rfl, in_X12, rfl, by decide⟩
theorem f_X12_41 : FL RX12 41 RX12 TX12 38 14 15 := ⟨tb_4 128 rfl rfl, in_X12, rfl, by decide⟩
theorem f_X12_44 : FL RX12 44 RX12 TX12 38 14 16 := ⟨tb_4 129 rfl rfl, in_X12, rfl, by decide⟩
theorem f_X12_47 : FL RX12 47 RX12 TX12 38 14 17 := ⟨tb_4 130 rfl rfl, in_X12, rfl, by decide⟩
theorem f_X12_50 : FL RX12 50 RX12 TX12 38 14 21 := ⟨tb_4 134 rfl rfl, in_X12, rfl, by decide⟩
theorem f_X12_54 : FL RX12 54 RX12 TX12 38 14 22 := ⟨tb_4 135 rfl rfl, in_X12, rfl, by decide⟩
theorem f_X12_57 : FL RX12 57 RX12 TX12 38 14 26 := ⟨tb_4 139 rfl rfl, in_X12, rfl, by decide⟩
theorem f_X12_60 : FL RX12 60 RX12 TX12 38 14 34 := ⟨tb_4 147 rfl rfl, in_X12, rfl, by decide⟩
theorem f_X12_63 : FL RX12 63 RX12 TX12 38 14 35 := ⟨tb_4 148 rfl rfl, in_X12, rfl, by decide⟩
theorem f_X12_66 : FL RX12 66 RX12 TX12 38 14 36 := ⟨tb_4 149 rfl rfl, in_X12, rfl, by decide⟩
theorem f_X12_69 : FL RX12 69 RX12 TX12 38 14 5 := ⟨tb_4 118 rfl rfl, in_X12, rfl, by decide⟩
theorem f_X12_86 : FL RX12 86 RX12 TX12 38 14 6 := ⟨tb_4 119 rfl rfl, in_X12, rfl, by decide⟩
theorem f_X12_89 : FL RX12 89 RX12 TX12 38 14 7 := ⟨tb_4 120 rfl rfl, in_X12, rfl, by decide⟩
theorem f_X12_92 : FL RX12 92 RX12 TX12 38 14 18 := ⟨tb_4 131 rfl rfl, in_X12, rfl, by decide⟩
theorem f_X12_95 : FL RX12 95 RX12 TX12 38 14 20 := ⟨tb_4 133 rfl rfl, in_X12, rfl, by decide⟩
theorem f_X12_98 : FL RX12 98 RX12 TX12 38 14 19 := ⟨tb_4 132 rfl rfl, in_X12, rfl, by decide⟩
theorem f_X12_117 : FL RX12 117 RX12 TX12 38 14 23 := ⟨tb_4 136 rfl rfl, in_X12, rfl, by decide⟩
theorem f_X12_120 : FL RX12 120 RX12 TX12 38 14 24 := ⟨tb_4 137 rfl rfl, in_X12, rfl, by decide⟩
theorem f_X12_136 : FL RX12 136 RX12 TX12 38 14 25 := ⟨tb_4 138 rfl rfl, in_X12, rfl, by decide⟩
theorem f_X12_163 : FL RX12 163 RX12 TX12 38 14 27 := ⟨tb_4 140 rfl rfl, in_X12, rfl, by decide⟩
theorem f_X12_184 : FL RX12 184 RX12 TX12 38 14 9 := ⟨tb_4 122 rfl rfl, in_X12, rfl, by decide⟩
theorem f_X12_202 : FL RX12 202 RX12 TX12 38 14 29 := ⟨tb_4 142 rfl rfl, in_X12, rfl, by decide⟩
theorem f_X12_205 : FL RX12 205 RX12 TX12 38 14 28 := ⟨tb_4 141 rfl rfl, in_X12, rfl, by decide⟩
theorem f_X12_221 : FL RX12 221 RX12 TX12 38 14 37 := ⟨tb_4 150 rfl rfl, in_X12, rfl, by decide⟩
theorem f_X12_224 : FL RX12 224 RX12 TX12 38 14 30 := ⟨tb_4 143 rfl rfl, in_X12, rfl, by decide⟩
theorem f_X12_241 : FL RX12 241 RX12 TX12 38 14 31 := ⟨tb_4 144 rfl rfl, in_X12, rfl, by decide⟩
theorem f_X12_244 : FL RX12 244 RX12 TX12 38 14 32 := ⟨tb_4 145 rfl rfl, in_X12, rfl, by decide⟩
theorem f_X12_247 : FL RX12 247 RX12 TX12 38 14 33 := ⟨tb_4 146 rfl rfl, in_X12, rfl, by decide⟩
theorem f_X12_259 : FL RX12 259 RX12 TX12 38 14 14 := ⟨tb_4 127 rfl rfl, in_X12, rfl, by decide⟩
theorem w_X0_0 : FW TX0 4 0 (.array .int) := ⟨⟨tyX0, tyX0_ok⟩, nmX0, by decide +kernel⟩
theorem w_X0_1 : FW TX0 4 1 .int := ⟨⟨tyX0, tyX0_ok⟩, nmX0, by decide +kernel⟩
theorem w_X0_2 : FW TX0 4 2 .int := ⟨⟨tyX0, tyX0_ok⟩, nmX0, by decide +kernel⟩
theorem w_X0_3 : FW TX0 4 3 .int := ⟨⟨tyX0, tyX0_ok⟩, nmX0, by decide +kernel⟩
theorem w_X1_0 : FW TX1 3 0 (.array .int) := ⟨⟨tyX1, tyX1_ok⟩, nmX1, by decide +kernel⟩
theorem w_X1_1 : FW TX1 3 1 .int := ⟨⟨tyX1, tyX1_ok⟩, nmX1, by decide +kernel⟩
theorem w_X1_2 : FW TX1 3 2 .int := ⟨⟨tyX1, tyX1_ok⟩, nmX1, by decide +kernel⟩
theorem w_X2_0 : FW TX2 9 0 (.object "SamplePacks$RowChooser") := ⟨⟨tyX2, tyX2_ok⟩, nmX2, by decide +kernel⟩
theorem w_X2_1 : FW TX2 9 1 (.array (.object "SamplePacks$RowForm")) := ⟨⟨tyX2, tyX2_ok⟩, nmX2, by decide +kernel⟩
theorem w_X2_2 : FW TX2 9 2 .int := ⟨⟨tyX2, tyX2_ok⟩, nmX2, by decide +kernel⟩
theorem w_X2_3 : FW TX2 9 3 .int := ⟨⟨tyX2, tyX2_ok⟩, nmX2, by decide +kernel⟩
theorem w_X2_4 : FW TX2 9 4 .int := ⟨⟨tyX2, tyX2_ok⟩, nmX2, by decide +kernel⟩
theorem w_X2_5 : FW TX2 9 5 .int := ⟨⟨tyX2, tyX2_ok⟩, nmX2, by decide +kernel⟩
theorem w_X2_6 : FW TX2 9 6 (.object "SamplePacks$BitStream") := ⟨⟨tyX2, tyX2_ok⟩, nmX2, by decide +kernel⟩
theorem w_X2_7 : FW TX2 9 7 (.array (.array .int)) := ⟨⟨tyX2, tyX2_ok⟩, nmX2, by decide +kernel⟩
theorem w_X2_8 : FW TX2 9 8 .int := ⟨⟨tyX2, tyX2_ok⟩, nmX2, by decide +kernel⟩
theorem w_X3_0 : FW TX3 2 0 (.object "SamplePacks$BitStream") := ⟨⟨tyX3, tyX3_ok⟩, nmX3, by decide +kernel⟩
theorem w_X3_1 : FW TX3 2 1 (.object "SamplePacks$RowReader") := ⟨⟨tyX3, tyX3_ok⟩, nmX3, by decide +kernel⟩
theorem w_X4_0 : FW TX4 7 0 (.array (.array .int)) := ⟨⟨tyX4, tyX4_ok⟩, nmX4, by decide +kernel⟩
theorem w_X4_1 : FW TX4 7 1 (.array .int) := ⟨⟨tyX4, tyX4_ok⟩, nmX4, by decide +kernel⟩
theorem w_X4_2 : FW TX4 7 2 .int := ⟨⟨tyX4, tyX4_ok⟩, nmX4, by decide +kernel⟩
theorem w_X4_3 : FW TX4 7 3 .int := ⟨⟨tyX4, tyX4_ok⟩, nmX4, by decide +kernel⟩
theorem w_X4_4 : FW TX4 7 4 .int := ⟨⟨tyX4, tyX4_ok⟩, nmX4, by decide +kernel⟩
theorem w_X4_5 : FW TX4 7 5 .int := ⟨⟨tyX4, tyX4_ok⟩, nmX4, by decide +kernel⟩
theorem w_X4_6 : FW TX4 7 6 .int := ⟨⟨tyX4, tyX4_ok⟩, nmX4, by decide +kernel⟩
theorem w_X5_0 : FW TX5 6 0 (.object "SamplePacks$RowForm") := ⟨⟨tyX5, tyX5_ok⟩, nmX5, by decide +kernel⟩
theorem w_X5_1 : FW TX5 6 1 (.object "SamplePacks$RowForm") := ⟨⟨tyX5, tyX5_ok⟩, nmX5, by decide +kernel⟩
theorem w_X5_2 : FW TX5 6 2 .int := ⟨⟨tyX5, tyX5_ok⟩, nmX5, by decide +kernel⟩
theorem w_X5_3 : FW TX5 6 3 .int := ⟨⟨tyX5, tyX5_ok⟩, nmX5, by decide +kernel⟩
theorem w_X5_4 : FW TX5 6 4 .int := ⟨⟨tyX5, tyX5_ok⟩, nmX5, by decide +kernel⟩
theorem w_X5_5 : FW TX5 6 5 .int := ⟨⟨tyX5, tyX5_ok⟩, nmX5, by decide +kernel⟩
theorem w_X6_0 : FW TX6 7 0 (.array .long) := ⟨⟨tyX6, tyX6_ok⟩, nmX6, by decide +kernel⟩
theorem w_X6_1 : FW TX6 7 1 (.array .int) := ⟨⟨tyX6, tyX6_ok⟩, nmX6, by decide +kernel⟩
theorem w_X6_2 : FW TX6 7 2 (.array .int) := ⟨⟨tyX6, tyX6_ok⟩, nmX6, by decide +kernel⟩
theorem w_X6_3 : FW TX6 7 3 (.array .int) := ⟨⟨tyX6, tyX6_ok⟩, nmX6, by decide +kernel⟩
theorem w_X6_4 : FW TX6 7 4 .int := ⟨⟨tyX6, tyX6_ok⟩, nmX6, by decide +kernel⟩
theorem w_X6_5 : FW TX6 7 5 .int := ⟨⟨tyX6, tyX6_ok⟩, nmX6, by decide +kernel⟩
theorem w_X6_6 : FW TX6 7 6 .int := ⟨⟨tyX6, tyX6_ok⟩, nmX6, by decide +kernel⟩
theorem w_X7_0 : FW TX7 5 0 (.object "SamplePacks$RowValues") := ⟨⟨tyX7, tyX7_ok⟩, nmX7, by decide +kernel⟩
theorem w_X7_1 : FW TX7 5 1 (.object "SamplePacks$Foretelling") := ⟨⟨tyX7, tyX7_ok⟩, nmX7, by decide +kernel⟩
theorem w_X7_2 : FW TX7 5 2 (.object "SamplePacks$Foretelling") := ⟨⟨tyX7, tyX7_ok⟩, nmX7, by decide +kernel⟩
theorem w_X7_3 : FW TX7 5 3 (.object "SamplePacks$PartChooser") := ⟨⟨tyX7, tyX7_ok⟩, nmX7, by decide +kernel⟩
theorem w_X7_4 : FW TX7 5 4 (.object "SamplePacks$RowForm") := ⟨⟨tyX7, tyX7_ok⟩, nmX7, by decide +kernel⟩
theorem w_X8_0 : FW TX8 6 0 (.array .int) := ⟨⟨tyX8, tyX8_ok⟩, nmX8, by decide +kernel⟩
theorem w_X8_1 : FW TX8 6 1 (.array .int) := ⟨⟨tyX8, tyX8_ok⟩, nmX8, by decide +kernel⟩
theorem w_X8_2 : FW TX8 6 2 .int := ⟨⟨tyX8, tyX8_ok⟩, nmX8, by decide +kernel⟩
theorem w_X8_3 : FW TX8 6 3 .int := ⟨⟨tyX8, tyX8_ok⟩, nmX8, by decide +kernel⟩
theorem w_X8_4 : FW TX8 6 4 .int := ⟨⟨tyX8, tyX8_ok⟩, nmX8, by decide +kernel⟩
theorem w_X8_5 : FW TX8 6 5 .int := ⟨⟨tyX8, tyX8_ok⟩, nmX8, by decide +kernel⟩
theorem w_X9_0 : FW TX9 4 0 (.object "SamplePacks$BitStream") := ⟨⟨tyX9, tyX9_ok⟩, nmX9, by decide +kernel⟩
theorem w_X9_1 : FW TX9 4 1 (.object "SamplePacks$Foretelling") := ⟨⟨tyX9, tyX9_ok⟩, nmX9, by decide +kernel⟩
theorem w_X9_2 : FW TX9 4 2 .int := ⟨⟨tyX9, tyX9_ok⟩, nmX9, by decide +kernel⟩
theorem w_X9_3 : FW TX9 4 3 .int := ⟨⟨tyX9, tyX9_ok⟩, nmX9, by decide +kernel⟩
theorem w_X10_0 : FW TX10 4 0 (.array .int) := ⟨⟨tyX10, tyX10_ok⟩, nmX10, by decide +kernel⟩
theorem w_X10_1 : FW TX10 4 1 .int := ⟨⟨tyX10, tyX10_ok⟩, nmX10, by decide +kernel⟩
theorem w_X10_2 : FW TX10 4 2 .int := ⟨⟨tyX10, tyX10_ok⟩, nmX10, by decide +kernel⟩
theorem w_X10_3 : FW TX10 4 3 .int := ⟨⟨tyX10, tyX10_ok⟩, nmX10, by decide +kernel⟩
theorem w_X11_0 : FW TX11 10 0 (.array (.array .int)) := ⟨⟨tyX11, tyX11_ok⟩, nmX11, by decide +kernel⟩
theorem w_X11_1 : FW TX11 10 1 (.array .int) := ⟨⟨tyX11, tyX11_ok⟩, nmX11, by decide +kernel⟩
theorem w_X11_2 : FW TX11 10 2 .int := ⟨⟨tyX11, tyX11_ok⟩, nmX11, by decide +kernel⟩
theorem w_X11_3 : FW TX11 10 3 (.object "SamplePacks$Foretelling") := ⟨⟨tyX11, tyX11_ok⟩, nmX11, by decide +kernel⟩
theorem w_X11_4 : FW TX11 10 4 (.object "SamplePacks$BitStream") := ⟨⟨tyX11, tyX11_ok⟩, nmX11, by decide +kernel⟩
theorem w_X11_5 : FW TX11 10 5 (.object "SamplePacks$FramePacker") := ⟨⟨tyX11, tyX11_ok⟩, nmX11, by decide +kernel⟩
theorem w_X11_6 : FW TX11 10 6 (.object "SamplePacks$PackedFrame") := ⟨⟨tyX11, tyX11_ok⟩, nmX11, by decide +kernel⟩
theorem w_X11_7 : FW TX11 10 7 (.object "SamplePacks$FrameReader") := ⟨⟨tyX11, tyX11_ok⟩, nmX11, by decide +kernel⟩
theorem w_X11_8 : FW TX11 10 8 (.object "SamplePacks$OpenedFrame") := ⟨⟨tyX11, tyX11_ok⟩, nmX11, by decide +kernel⟩
theorem w_X11_9 : FW TX11 10 9 (.object "SamplePacks$OpenedFrame") := ⟨⟨tyX11, tyX11_ok⟩, nmX11, by decide +kernel⟩
theorem w_X12_0 : FW TX12 38 0 .int := ⟨⟨tyX12, tyX12_ok⟩, nmX12, by decide +kernel⟩
theorem w_X12_1 : FW TX12 38 1 .int := ⟨⟨tyX12, tyX12_ok⟩, nmX12, by decide +kernel⟩
theorem w_X12_2 : FW TX12 38 2 (.array .int) := ⟨⟨tyX12, tyX12_ok⟩, nmX12, by decide +kernel⟩
theorem w_X12_3 : FW TX12 38 3 (.array .int) := ⟨⟨tyX12, tyX12_ok⟩, nmX12, by decide +kernel⟩
theorem w_X12_4 : FW TX12 38 4 (.array .int) := ⟨⟨tyX12, tyX12_ok⟩, nmX12, by decide +kernel⟩
theorem w_X12_5 : FW TX12 38 5 .int := ⟨⟨tyX12, tyX12_ok⟩, nmX12, by decide +kernel⟩
theorem w_X12_6 : FW TX12 38 6 .int := ⟨⟨tyX12, tyX12_ok⟩, nmX12, by decide +kernel⟩
theorem w_X12_7 : FW TX12 38 7 .int := ⟨⟨tyX12, tyX12_ok⟩, nmX12, by decide +kernel⟩
theorem w_X12_8 : FW TX12 38 8 (.array .int) := ⟨⟨tyX12, tyX12_ok⟩, nmX12, by decide +kernel⟩
theorem w_X12_9 : FW TX12 38 9 .boolean := ⟨⟨tyX12, tyX12_ok⟩, nmX12, by decide +kernel⟩
theorem w_X12_10 : FW TX12 38 10 (.array .int) := ⟨⟨tyX12, tyX12_ok⟩, nmX12, by decide +kernel⟩
theorem w_X12_11 : FW TX12 38 11 (.array .int) := ⟨⟨tyX12, tyX12_ok⟩, nmX12, by decide +kernel⟩
theorem w_X12_12 : FW TX12 38 12 (.array .int) := ⟨⟨tyX12, tyX12_ok⟩, nmX12, by decide +kernel⟩
theorem w_X12_13 : FW TX12 38 13 (.array .int) := ⟨⟨tyX12, tyX12_ok⟩, nmX12, by decide +kernel⟩
theorem w_X12_14 : FW TX12 38 14 .boolean := ⟨⟨tyX12, tyX12_ok⟩, nmX12, by decide +kernel⟩
theorem w_X12_15 : FW TX12 38 15 (.array .int) := ⟨⟨tyX12, tyX12_ok⟩, nmX12, by decide +kernel⟩
theorem w_X12_16 : FW TX12 38 16 (.array .int) := ⟨⟨tyX12, tyX12_ok⟩, nmX12, by decide +kernel⟩
theorem w_X12_17 : FW TX12 38 17 (.array .int) := ⟨⟨tyX12, tyX12_ok⟩, nmX12, by decide +kernel⟩
theorem w_X12_18 : FW TX12 38 18 .int := ⟨⟨tyX12, tyX12_ok⟩, nmX12, by decide +kernel⟩
theorem w_X12_19 : FW TX12 38 19 .int := ⟨⟨tyX12, tyX12_ok⟩, nmX12, by decide +kernel⟩
theorem w_X12_20 : FW TX12 38 20 .int := ⟨⟨tyX12, tyX12_ok⟩, nmX12, by decide +kernel⟩
theorem w_X12_21 : FW TX12 38 21 (.array .long) := ⟨⟨tyX12, tyX12_ok⟩, nmX12, by decide +kernel⟩
theorem w_X12_22 : FW TX12 38 22 (.array .long) := ⟨⟨tyX12, tyX12_ok⟩, nmX12, by decide +kernel⟩
theorem w_X12_23 : FW TX12 38 23 .int := ⟨⟨tyX12, tyX12_ok⟩, nmX12, by decide +kernel⟩
theorem w_X12_24 : FW TX12 38 24 .int := ⟨⟨tyX12, tyX12_ok⟩, nmX12, by decide +kernel⟩
theorem w_X12_25 : FW TX12 38 25 .int := ⟨⟨tyX12, tyX12_ok⟩, nmX12, by decide +kernel⟩
theorem w_X12_26 : FW TX12 38 26 (.array .int) := ⟨⟨tyX12, tyX12_ok⟩, nmX12, by decide +kernel⟩
theorem w_X12_27 : FW TX12 38 27 .int := ⟨⟨tyX12, tyX12_ok⟩, nmX12, by decide +kernel⟩
theorem w_X12_28 : FW TX12 38 28 .int := ⟨⟨tyX12, tyX12_ok⟩, nmX12, by decide +kernel⟩
theorem w_X12_29 : FW TX12 38 29 .int := ⟨⟨tyX12, tyX12_ok⟩, nmX12, by decide +kernel⟩
theorem w_X12_30 : FW TX12 38 30 .int := ⟨⟨tyX12, tyX12_ok⟩, nmX12, by decide +kernel⟩
theorem w_X12_31 : FW TX12 38 31 .int := ⟨⟨tyX12, tyX12_ok⟩, nmX12, by decide +kernel⟩
theorem w_X12_32 : FW TX12 38 32 .int := ⟨⟨tyX12, tyX12_ok⟩, nmX12, by decide +kernel⟩
theorem w_X12_33 : FW TX12 38 33 .int := ⟨⟨tyX12, tyX12_ok⟩, nmX12, by decide +kernel⟩
theorem w_X12_34 : FW TX12 38 34 (.array .int) := ⟨⟨tyX12, tyX12_ok⟩, nmX12, by decide +kernel⟩
theorem w_X12_35 : FW TX12 38 35 (.array .int) := ⟨⟨tyX12, tyX12_ok⟩, nmX12, by decide +kernel⟩
theorem w_X12_36 : FW TX12 38 36 (.array .int) := ⟨⟨tyX12, tyX12_ok⟩, nmX12, by decide +kernel⟩
theorem w_X12_37 : FW TX12 38 37 .int := ⟨⟨tyX12, tyX12_ok⟩, nmX12, by decide +kernel⟩
theorem k_X0_init : CY yX0_init cX0_init 1 none 0 := ⟨tb_1 64 rfl rfl, tb_1 3 rfl rfl, by decide +kernel⟩
theorem i_X0_init : Cond.instanceMethod yX0_init ∈ TB := tb_1 63 rfl rfl
theorem k_X0_has : CY yX0_has cX0_has 2 (some .boolean) 1 := ⟨tb_3 152 rfl rfl, tb_1 3 rfl rfl, by decide +kernel⟩
theorem i_X0_has : Cond.instanceMethod yX0_has ∈ TB := tb_3 150 rfl rfl
theorem s_X0_has : Cond.selects RX0 yX0_has yX0_has ∈ TB := tb_3 151 rfl rfl
theorem k_X0_begin : CY yX0_begin cX0_begin 2 none 1 := ⟨tb_3 61 rfl rfl, tb_1 3 rfl rfl, by decide +kernel⟩
theorem i_X0_begin : Cond.instanceMethod yX0_begin ∈ TB := tb_3 59 rfl rfl
theorem s_X0_begin : Cond.selects RX0 yX0_begin yX0_begin ∈ TB := tb_3 60 rfl rfl
theorem k_X0_placeNow : CY yX0_placeNow cX0_placeNow 1 (some .int) 0 := ⟨tb_3 108 rfl rfl, tb_1 3 rfl rfl, by decide +kernel⟩
theorem i_X0_placeNow : Cond.instanceMethod yX0_placeNow ∈ TB := tb_3 106 rfl rfl
theorem s_X0_placeNow : Cond.selects RX0 yX0_placeNow yX0_placeNow ∈ TB := tb_3 107 rfl rfl
theorem k_X0_bitsToByte : CY yX0_bitsToByte cX0_bitsToByte 1 (some .int) 0 := ⟨tb_3 104 rfl rfl, tb_1 3 rfl rfl, by decide +kernel⟩
theorem i_X0_bitsToByte : Cond.instanceMethod yX0_bitsToByte ∈ TB := tb_3 102 rfl rfl
theorem s_X0_bitsToByte : Cond.selects RX0 yX0_bitsToByte yX0_bitsToByte ∈ TB := tb_3 103 rfl rfl
theorem k_X0_sumOf : CY yX0_sumOf cX0_sumOf 6 (some .int) 2 := ⟨tb_3 112 rfl rfl, tb_1 3 rfl rfl, by decide +kernel⟩
theorem i_X0_sumOf : Cond.instanceMethod yX0_sumOf ∈ TB := tb_3 110 rfl rfl
theorem s_X0_sumOf : Cond.selects RX0 yX0_sumOf yX0_sumOf ∈ TB := tb_3 111 rfl rfl
theorem k_X0_write : CY yX0_write cX0_write 4 none 2 := ⟨tb_3 65 rfl rfl, tb_1 3 rfl rfl, by decide +kernel⟩
theorem i_X0_write : Cond.instanceMethod yX0_write ∈ TB := tb_3 63 rfl rfl
theorem s_X0_write : Cond.selects RX0 yX0_write yX0_write ∈ TB := tb_3 64 rfl rfl
theorem k_X0_writeBit : CY yX0_writeBit cX0_writeBit 4 none 1 := ⟨tb_3 69 rfl rfl, tb_1 3 rfl rfl, by decide +kernel⟩
theorem i_X0_writeBit : Cond.instanceMethod yX0_writeBit ∈ TB := tb_3 68 rfl rfl
theorem s_X0_writeBit : Cond.selects RX0 yX0_writeBit yX0_writeBit ∈ TB := tb_ofs 6 (by decide +kernel)
theorem k_X0_writeFolded : CY yX0_writeFolded cX0_writeFolded 4 none 2 := ⟨tb_3 99 rfl rfl, tb_1 3 rfl rfl, by decide +kernel⟩
theorem i_X0_writeFolded : Cond.instanceMethod yX0_writeFolded ∈ TB := tb_3 97 rfl rfl
theorem s_X0_writeFolded : Cond.selects RX0 yX0_writeFolded yX0_writeFolded ∈ TB := tb_3 98 rfl rfl
theorem k_X0_faultIf : CY yX0_faultIf cX0_faultIf 3 (some .boolean) 2 := ⟨tb_3 188 rfl rfl, tb_1 3 rfl rfl, by decide +kernel⟩
theorem i_X0_faultIf : Cond.instanceMethod yX0_faultIf ∈ TB := tb_3 186 rfl rfl
theorem s_X0_faultIf : Cond.selects RX0 yX0_faultIf yX0_faultIf ∈ TB := tb_3 187 rfl rfl
theorem k_X0_read : CY yX0_read cX0_read 4 (some .int) 1 := ⟨tb_3 184 rfl rfl, tb_1 3 rfl rfl, by decide +kernel⟩
theorem i_X0_read : Cond.instanceMethod yX0_read ∈ TB := tb_3 182 rfl rfl
theorem s_X0_read : Cond.selects RX0 yX0_read yX0_read ∈ TB := tb_3 183 rfl rfl
theorem k_X0_readSigned : CY yX0_readSigned cX0_readSigned 2 (some .int) 1 := ⟨tb_3 201 rfl rfl, tb_1 3 rfl rfl, by decide +kernel⟩
theorem i_X0_readSigned : Cond.instanceMethod yX0_readSigned ∈ TB := tb_3 199 rfl rfl
theorem s_X0_readSigned : Cond.selects RX0 yX0_readSigned yX0_readSigned ∈ TB := tb_3 200 rfl rfl
theorem k_X0_readFolded : CY yX0_readFolded cX0_readFolded 4 (some .int) 1 := ⟨tb_3 229 rfl rfl, tb_1 3 rfl rfl, by decide +kernel⟩
theorem i_X0_readFolded : Cond.instanceMethod yX0_readFolded ∈ TB := tb_3 227 rfl rfl
theorem s_X0_readFolded : Cond.selects RX0 yX0_readFolded yX0_readFolded ∈ TB := tb_3 228 rfl rfl
theorem k_X1_init : CY yX1_init cX1_init 1 none 0 := ⟨tb_1 38 rfl rfl, tb_1 2 rfl rfl, by decide +kernel⟩
theorem i_X1_init : Cond.instanceMethod yX1_init ∈ TB := tb_1 37 rfl rfl
theorem k_X1_becomeFixed : CY yX1_becomeFixed cX1_becomeFixed 3 none 1 := ⟨tb_2 229 rfl rfl, tb_1 2 rfl rfl, by decide +kernel⟩
theorem i_X1_becomeFixed : Cond.instanceMethod yX1_becomeFixed ∈ TB := tb_2 227 rfl rfl
theorem s_X1_becomeFixed : Cond.selects RX1 yX1_becomeFixed yX1_becomeFixed ∈ TB := tb_2 228 rfl rfl
theorem k_X1_becomeTold : CY yX1_becomeTold cX1_becomeTold 6 none 3 := ⟨tb_2 176 rfl rfl, tb_1 2 rfl rfl, by decide +kernel⟩
theorem i_X1_becomeTold : Cond.instanceMethod yX1_becomeTold ∈ TB := tb_2 174 rfl rfl
theorem s_X1_becomeTold : Cond.selects RX1 yX1_becomeTold yX1_becomeTold ∈ TB := tb_2 175 rfl rfl
theorem k_X1_foretell : CY yX1_foretell cX1_foretell 5 (some .int) 2 := ⟨tb_3 12 rfl rfl, tb_1 2 rfl rfl, by decide +kernel⟩
theorem i_X1_foretell : Cond.instanceMethod yX1_foretell ∈ TB := tb_3 10 rfl rfl
theorem s_X1_foretell : Cond.selects RX1 yX1_foretell yX1_foretell ∈ TB := tb_3 11 rfl rfl
theorem k_X2_init : CY yX2_init cX2_init 4 none 3 := ⟨tb_1 87 rfl rfl, tb_1 4 rfl rfl, by decide +kernel⟩
theorem i_X2_init : Cond.instanceMethod yX2_init ∈ TB := tb_1 86 rfl rfl
theorem k_X2_chooseFrame : CY yX2_chooseFrame cX2_chooseFrame 6 none 3 := ⟨tb_2 187 rfl rfl, tb_1 4 rfl rfl, by decide +kernel⟩
theorem i_X2_chooseFrame : Cond.instanceMethod yX2_chooseFrame ∈ TB := tb_2 185 rfl rfl
theorem s_X2_chooseFrame : Cond.selects RX2 yX2_chooseFrame yX2_chooseFrame ∈ TB := tb_2 186 rfl rfl
theorem k_X2_mixChannels : CY yX2_mixChannels cX2_mixChannels 2 none 0 := ⟨tb_2 191 rfl rfl, tb_1 4 rfl rfl, by decide +kernel⟩
theorem i_X2_mixChannels : Cond.instanceMethod yX2_mixChannels ∈ TB := tb_2 190 rfl rfl
theorem s_X2_mixChannels : Cond.selects RX2 yX2_mixChannels yX2_mixChannels ∈ TB := tb_ofs 0 (by decide +kernel)
theorem k_X2_chooseTurn : CY yX2_chooseTurn cX2_chooseTurn 3 none 0 := ⟨tb_3 46 rfl rfl, tb_1 4 rfl rfl, by decide +kernel⟩
theorem i_X2_chooseTurn : Cond.instanceMethod yX2_chooseTurn ∈ TB := tb_3 45 rfl rfl
theorem s_X2_chooseTurn : Cond.selects RX2 yX2_chooseTurn yX2_chooseTurn ∈ TB := tb_ofs 5 (by decide +kernel)
theorem k_X2_writeFrame : CY yX2_writeFrame cX2_writeFrame 2 none 0 := ⟨tb_3 57 rfl rfl, tb_1 4 rfl rfl, by decide +kernel⟩
theorem i_X2_writeFrame : Cond.instanceMethod yX2_writeFrame ∈ TB := tb_3 55 rfl rfl
theorem s_X2_writeFrame : Cond.selects RX2 yX2_writeFrame yX2_writeFrame ∈ TB := tb_3 56 rfl rfl
theorem k_X2_writeRow : CY yX2_writeRow cX2_writeRow 3 none 1 := ⟨tb_3 73 rfl rfl, tb_1 4 rfl rfl, by decide +kernel⟩
theorem i_X2_writeRow : Cond.instanceMethod yX2_writeRow ∈ TB := tb_3 72 rfl rfl
theorem s_X2_writeRow : Cond.selects RX2 yX2_writeRow yX2_writeRow ∈ TB := tb_ofs 7 (by decide +kernel)
theorem k_X2_writeValues : CY yX2_writeValues cX2_writeValues 3 none 1 := ⟨tb_3 78 rfl rfl, tb_1 4 rfl rfl, by decide +kernel⟩
theorem i_X2_writeValues : Cond.instanceMethod yX2_writeValues ∈ TB := tb_3 77 rfl rfl
theorem s_X2_writeValues : Cond.selects RX2 yX2_writeValues yX2_writeValues ∈ TB := tb_ofs 8 (by decide +kernel)
theorem k_X2_writeForetold : CY yX2_writeForetold cX2_writeForetold 6 none 1 := ⟨tb_3 82 rfl rfl, tb_1 4 rfl rfl, by decide +kernel⟩
theorem i_X2_writeForetold : Cond.instanceMethod yX2_writeForetold ∈ TB := tb_3 81 rfl rfl
theorem s_X2_writeForetold : Cond.selects RX2 yX2_writeForetold yX2_writeForetold ∈ TB := tb_ofs 9 (by decide +kernel)
theorem k_X2_writeRests : CY yX2_writeRests cX2_writeRests 8 none 5 := ⟨tb_3 91 rfl rfl, tb_1 4 rfl rfl, by decide +kernel⟩
theorem i_X2_writeRests : Cond.instanceMethod yX2_writeRests ∈ TB := tb_3 90 rfl rfl
theorem s_X2_writeRests : Cond.selects RX2 yX2_writeRests yX2_writeRests ∈ TB := tb_ofs 10 (by decide +kernel)
theorem k_X3_init : CY yX3_init cX3_init 2 none 1 := ⟨tb_2 49 rfl rfl, tb_1 10 rfl rfl, by decide +kernel⟩
theorem i_X3_init : Cond.instanceMethod yX3_init ∈ TB := tb_2 48 rfl rfl
theorem k_X3_readFrame : CY yX3_readFrame cX3_readFrame 4 (some .int) 2 := ⟨tb_3 175 rfl rfl, tb_1 10 rfl rfl, by decide +kernel⟩
theorem i_X3_readFrame : Cond.instanceMethod yX3_readFrame ∈ TB := tb_3 173 rfl rfl
theorem s_X3_readFrame : Cond.selects RX3 yX3_readFrame yX3_readFrame ∈ TB := tb_3 174 rfl rfl
theorem k_X3_readHead : CY yX3_readHead cX3_readHead 2 none 1 := ⟨tb_3 180 rfl rfl, tb_1 10 rfl rfl, by decide +kernel⟩
theorem i_X3_readHead : Cond.instanceMethod yX3_readHead ∈ TB := tb_3 179 rfl rfl
theorem s_X3_readHead : Cond.selects RX3 yX3_readHead yX3_readHead ∈ TB := tb_ofs 11 (by decide +kernel)
theorem k_X3_readEnd : CY yX3_readEnd cX3_readEnd 6 none 2 := ⟨tb_3 237 rfl rfl, tb_1 10 rfl rfl, by decide +kernel⟩
theorem i_X3_readEnd : Cond.instanceMethod yX3_readEnd ∈ TB := tb_3 236 rfl rfl
theorem s_X3_readEnd : Cond.selects RX3 yX3_readEnd yX3_readEnd ∈ TB := tb_ofs 17 (by decide +kernel)
theorem k_X4_init : CY yX4_init cX4_init 1 none 0 := ⟨tb_2 83 rfl rfl, tb_1 12 rfl rfl, by decide +kernel⟩
theorem i_X4_init : Cond.instanceMethod yX4_init ∈ TB := tb_2 82 rfl rfl
theorem k_X4_unturn : CY yX4_unturn cX4_unturn 6 (some .boolean) 0 := ⟨tb_4 4 rfl rfl, tb_1 12 rfl rfl, by decide +kernel⟩
theorem i_X4_unturn : Cond.instanceMethod yX4_unturn ∈ TB := tb_4 2 rfl rfl
theorem s_X4_unturn : Cond.selects RX4 yX4_unturn yX4_unturn ∈ TB := tb_4 3 rfl rfl
theorem k_X5_init : CY yX5_init cX5_init 1 none 0 := ⟨tb_2 16 rfl rfl, tb_1 9 rfl rfl, by decide +kernel⟩
theorem i_X5_init : Cond.instanceMethod yX5_init ∈ TB := tb_2 15 rfl rfl
theorem k_X5_keep : CY yX5_keep cX5_keep 2 none 1 := ⟨tb_3 116 rfl rfl, tb_1 9 rfl rfl, by decide +kernel⟩
theorem i_X5_keep : Cond.instanceMethod yX5_keep ∈ TB := tb_3 114 rfl rfl
theorem s_X5_keep : Cond.selects RX5 yX5_keep yX5_keep ∈ TB := tb_3 115 rfl rfl
theorem k_X6_init : CY yX6_init cX6_init 1 none 0 := ⟨tb_1 171 rfl rfl, tb_1 8 rfl rfl, by decide +kernel⟩
theorem i_X6_init : Cond.instanceMethod yX6_init ∈ TB := tb_1 170 rfl rfl
theorem k_X6_gather : CY yX6_gather cX6_gather 8 (some .boolean) 2 := ⟨tb_2 235 rfl rfl, tb_1 8 rfl rfl, by decide +kernel⟩
theorem i_X6_gather : Cond.instanceMethod yX6_gather ∈ TB := tb_2 233 rfl rfl
theorem s_X6_gather : Cond.selects RX6 yX6_gather yX6_gather ∈ TB := tb_2 234 rfl rfl
theorem k_X6_tally : CY yX6_tally cX6_tally 5 none 2 := ⟨tb_3 17 rfl rfl, tb_1 8 rfl rfl, by decide +kernel⟩
theorem i_X6_tally : Cond.instanceMethod yX6_tally ∈ TB := tb_3 16 rfl rfl
theorem s_X6_tally : Cond.selects RX6 yX6_tally yX6_tally ∈ TB := tb_ofs 2 (by decide +kernel)
theorem k_X6_chooseParts : CY yX6_chooseParts cX6_chooseParts 6 (some .int) 1 := ⟨tb_3 21 rfl rfl, tb_1 8 rfl rfl, by decide +kernel⟩
theorem i_X6_chooseParts : Cond.instanceMethod yX6_chooseParts ∈ TB := tb_3 19 rfl rfl
theorem s_X6_chooseParts : Cond.selects RX6 yX6_chooseParts yX6_chooseParts ∈ TB := tb_3 20 rfl rfl
theorem k_X6_weighPart : CY yX6_weighPart cX6_weighPart 9 (some .int) 2 := ⟨tb_3 25 rfl rfl, tb_1 8 rfl rfl, by decide +kernel⟩
theorem i_X6_weighPart : Cond.instanceMethod yX6_weighPart ∈ TB := tb_3 24 rfl rfl
theorem s_X6_weighPart : Cond.selects RX6 yX6_weighPart yX6_weighPart ∈ TB := tb_ofs 3 (by decide +kernel)
theorem k_X6_joinPairs : CY yX6_joinPairs cX6_joinPairs 4 none 1 := ⟨tb_3 37 rfl rfl, tb_1 8 rfl rfl, by decide +kernel⟩
theorem i_X6_joinPairs : Cond.instanceMethod yX6_joinPairs ∈ TB := tb_3 36 rfl rfl
theorem s_X6_joinPairs : Cond.selects RX6 yX6_joinPairs yX6_joinPairs ∈ TB := tb_ofs 4 (by decide +kernel)
theorem k_X7_init : CY yX7_init cX7_init 2 none 1 := ⟨tb_1 138 rfl rfl, tb_1 6 rfl rfl, by decide +kernel⟩
theorem i_X7_init : Cond.instanceMethod yX7_init ∈ TB := tb_1 137 rfl rfl
theorem k_X7_foretellingOf : CY yX7_foretellingOf cX7_foretellingOf 2 (some (.object "SamplePacks$Foretelling")) 1 := ⟨tb_2 225 rfl rfl, tb_1 6 rfl rfl, by decide +kernel⟩
theorem i_X7_foretellingOf : Cond.instanceMethod yX7_foretellingOf ∈ TB := tb_2 223 rfl rfl
theorem s_X7_foretellingOf : Cond.selects RX7 yX7_foretellingOf yX7_foretellingOf ∈ TB := tb_2 224 rfl rfl
theorem k_X7_chooseRow : CY yX7_chooseRow cX7_chooseRow 7 none 4 := ⟨tb_2 198 rfl rfl, tb_1 6 rfl rfl, by decide +kernel⟩
theorem i_X7_chooseRow : Cond.instanceMethod yX7_chooseRow ∈ TB := tb_2 196 rfl rfl
theorem s_X7_chooseRow : Cond.selects RX7 yX7_chooseRow yX7_chooseRow ∈ TB := tb_2 197 rfl rfl
theorem k_X7_weigh : CY yX7_weigh cX7_weigh 2 (some .int) 1 := ⟨tb_2 213 rfl rfl, tb_1 6 rfl rfl, by decide +kernel⟩
theorem i_X7_weigh : Cond.instanceMethod yX7_weigh ∈ TB := tb_2 211 rfl rfl
theorem s_X7_weigh : Cond.selects RX7 yX7_weigh yX7_weigh ∈ TB := tb_2 212 rfl rfl
theorem k_X7_weighForetold : CY yX7_weighForetold cX7_weighForetold 5 (some .int) 1 := ⟨tb_2 221 rfl rfl, tb_1 6 rfl rfl, by decide +kernel⟩
theorem i_X7_weighForetold : Cond.instanceMethod yX7_weighForetold ∈ TB := tb_2 220 rfl rfl
theorem s_X7_weighForetold : Cond.selects RX7 yX7_weighForetold yX7_weighForetold ∈ TB := tb_ofs 1 (by decide +kernel)
theorem k_X8_init : CY yX8_init cX8_init 1 none 0 := ⟨tb_1 94 rfl rfl, tb_1 5 rfl rfl, by decide +kernel⟩
theorem i_X8_init : Cond.instanceMethod yX8_init ∈ TB := tb_1 93 rfl rfl
theorem k_X8_countParts : CY yX8_countParts cX8_countParts 1 (some .int) 0 := ⟨tb_3 87 rfl rfl, tb_1 5 rfl rfl, by decide +kernel⟩
theorem i_X8_countParts : Cond.instanceMethod yX8_countParts ∈ TB := tb_3 85 rfl rfl
theorem s_X8_countParts : Cond.selects RX8 yX8_countParts yX8_countParts ∈ TB := tb_3 86 rfl rfl
theorem k_X8_copyFrom : CY yX8_copyFrom cX8_copyFrom 2 none 1 := ⟨tb_3 41 rfl rfl, tb_1 5 rfl rfl, by decide +kernel⟩
theorem i_X8_copyFrom : Cond.instanceMethod yX8_copyFrom ∈ TB := tb_3 39 rfl rfl
theorem s_X8_copyFrom : Cond.selects RX8 yX8_copyFrom yX8_copyFrom ∈ TB := tb_3 40 rfl rfl
theorem k_X9_init : CY yX9_init cX9_init 2 none 1 := ⟨tb_2 55 rfl rfl, tb_1 11 rfl rfl, by decide +kernel⟩
theorem i_X9_init : Cond.instanceMethod yX9_init ∈ TB := tb_2 54 rfl rfl
theorem k_X9_readRow : CY yX9_readRow cX9_readRow 7 (some .int) 3 := ⟨tb_3 195 rfl rfl, tb_1 11 rfl rfl, by decide +kernel⟩
theorem i_X9_readRow : Cond.instanceMethod yX9_readRow ∈ TB := tb_3 193 rfl rfl
theorem s_X9_readRow : Cond.selects RX9 yX9_readRow yX9_readRow ∈ TB := tb_3 194 rfl rfl
theorem k_X9_fillRow : CY yX9_fillRow cX9_fillRow 4 none 2 := ⟨tb_3 207 rfl rfl, tb_1 11 rfl rfl, by decide +kernel⟩
theorem i_X9_fillRow : Cond.instanceMethod yX9_fillRow ∈ TB := tb_3 206 rfl rfl
theorem s_X9_fillRow : Cond.selects RX9 yX9_fillRow yX9_fillRow ∈ TB := tb_ofs 12 (by decide +kernel)
theorem k_X9_readValues : CY yX9_readValues cX9_readValues 4 none 2 := ⟨tb_3 211 rfl rfl, tb_1 11 rfl rfl, by decide +kernel⟩
theorem i_X9_readValues : Cond.instanceMethod yX9_readValues ∈ TB := tb_3 210 rfl rfl
theorem s_X9_readValues : Cond.selects RX9 yX9_readValues yX9_readValues ∈ TB := tb_ofs 13 (by decide +kernel)
theorem k_X9_readForetold : CY yX9_readForetold cX9_readForetold 7 none 2 := ⟨tb_3 215 rfl rfl, tb_1 11 rfl rfl, by decide +kernel⟩
theorem i_X9_readForetold : Cond.instanceMethod yX9_readForetold ∈ TB := tb_3 214 rfl rfl
theorem s_X9_readForetold : Cond.selects RX9 yX9_readForetold yX9_readForetold ∈ TB := tb_ofs 14 (by decide +kernel)
theorem k_X9_readCoefficients : CY yX9_readCoefficients cX9_readCoefficients 3 none 1 := ⟨tb_3 219 rfl rfl, tb_1 11 rfl rfl, by decide +kernel⟩
theorem i_X9_readCoefficients : Cond.instanceMethod yX9_readCoefficients ∈ TB := tb_3 218 rfl rfl
theorem s_X9_readCoefficients : Cond.selects RX9 yX9_readCoefficients yX9_readCoefficients ∈ TB := tb_ofs 15 (by decide +kernel)
theorem k_X9_readPart : CY yX9_readPart cX9_readPart 9 none 3 := ⟨tb_3 225 rfl rfl, tb_1 11 rfl rfl, by decide +kernel⟩
theorem i_X9_readPart : Cond.instanceMethod yX9_readPart ∈ TB := tb_3 224 rfl rfl
theorem s_X9_readPart : Cond.selects RX9 yX9_readPart yX9_readPart ∈ TB := tb_ofs 16 (by decide +kernel)
theorem k_X10_init : CY yX10_init cX10_init 1 none 0 := ⟨tb_1 144 rfl rfl, tb_1 7 rfl rfl, by decide +kernel⟩
theorem i_X10_init : Cond.instanceMethod yX10_init ∈ TB := tb_1 143 rfl rfl
theorem k_X10_strip : CY yX10_strip cX10_strip 7 none 3 := ⟨tb_2 202 rfl rfl, tb_1 7 rfl rfl, by decide +kernel⟩
theorem i_X10_strip : Cond.instanceMethod yX10_strip ∈ TB := tb_2 200 rfl rfl
theorem s_X10_strip : Cond.selects RX10 yX10_strip yX10_strip ∈ TB := tb_2 201 rfl rfl
theorem k_X10_areAlike : CY yX10_areAlike cX10_areAlike 2 (some .boolean) 0 := ⟨tb_2 217 rfl rfl, tb_1 7 rfl rfl, by decide +kernel⟩
theorem i_X10_areAlike : Cond.instanceMethod yX10_areAlike ∈ TB := tb_2 215 rfl rfl
theorem s_X10_areAlike : Cond.selects RX10 yX10_areAlike yX10_areAlike ∈ TB := tb_2 216 rfl rfl
theorem k_X10_foldedRest : CY yX10_foldedRest cX10_foldedRest 4 (some .int) 2 := ⟨tb_3 8 rfl rfl, tb_1 7 rfl rfl, by decide +kernel⟩
theorem i_X10_foldedRest : Cond.instanceMethod yX10_foldedRest ∈ TB := tb_3 6 rfl rfl
theorem s_X10_foldedRest : Cond.selects RX10 yX10_foldedRest yX10_foldedRest ∈ TB := tb_3 7 rfl rfl
theorem k_X11_init : CY yX11_init cX11_init 1 none 0 := ⟨tb_1 28 rfl rfl, tb_1 1 rfl rfl, by decide +kernel⟩
theorem i_X11_init : Cond.instanceMethod yX11_init ∈ TB := tb_1 27 rfl rfl
theorem k_X11_depth : CY yX11_depth cX11_depth 3 (some .int) 1 := ⟨tb_2 154 rfl rfl, tb_1 1 rfl rfl, by decide +kernel⟩
theorem i_X11_depth : Cond.instanceMethod yX11_depth ∈ TB := tb_2 152 rfl rfl
theorem s_X11_depth : Cond.selects RX11 yX11_depth yX11_depth ∈ TB := tb_2 153 rfl rfl
theorem k_X11_sample : CY yX11_sample cX11_sample 4 (some .int) 2 := ⟨tb_2 158 rfl rfl, tb_1 1 rfl rfl, by decide +kernel⟩
theorem i_X11_sample : Cond.instanceMethod yX11_sample ∈ TB := tb_2 156 rfl rfl
theorem s_X11_sample : Cond.selects RX11 yX11_sample yX11_sample ∈ TB := tb_2 157 rfl rfl
theorem k_X11_drop : CY yX11_drop cX11_drop 3 (some .int) 1 := ⟨tb_2 168 rfl rfl, tb_1 1 rfl rfl, by decide +kernel⟩
theorem i_X11_drop : Cond.instanceMethod yX11_drop ∈ TB := tb_2 166 rfl rfl
theorem s_X11_drop : Cond.selects RX11 yX11_drop yX11_drop ∈ TB := tb_2 167 rfl rfl
theorem k_X11_coefficients : CY yX11_coefficients cX11_coefficients 6 (some .int) 3 := ⟨tb_2 172 rfl rfl, tb_1 1 rfl rfl, by decide +kernel⟩
theorem i_X11_coefficients : Cond.instanceMethod yX11_coefficients ∈ TB := tb_2 170 rfl rfl
theorem s_X11_coefficients : Cond.selects RX11 yX11_coefficients yX11_coefficients ∈ TB := tb_2 171 rfl rfl
theorem k_X11_pack : CY yX11_pack cX11_pack 3 (some .int) 0 := ⟨tb_2 183 rfl rfl, tb_1 1 rfl rfl, by decide +kernel⟩
theorem i_X11_pack : Cond.instanceMethod yX11_pack ∈ TB := tb_2 181 rfl rfl
theorem s_X11_pack : Cond.selects RX11 yX11_pack yX11_pack ∈ TB := tb_2 182 rfl rfl
theorem k_X11_told : CY yX11_told cX11_told 2 (some .int) 1 := ⟨tb_3 123 rfl rfl, tb_1 1 rfl rfl, by decide +kernel⟩
theorem i_X11_told : Cond.instanceMethod yX11_told ∈ TB := tb_3 121 rfl rfl
theorem s_X11_told : Cond.selects RX11 yX11_told yX11_told ∈ TB := tb_3 122 rfl rfl
theorem k_X11_row : CY yX11_row cX11_row 5 (some .int) 2 := ⟨tb_3 127 rfl rfl, tb_1 1 rfl rfl, by decide +kernel⟩
theorem i_X11_row : Cond.instanceMethod yX11_row ∈ TB := tb_3 125 rfl rfl
theorem s_X11_row : Cond.selects RX11 yX11_row yX11_row ∈ TB := tb_3 126 rfl rfl
theorem k_X11_price : CY yX11_price cX11_price 4 (some .int) 2 := ⟨tb_3 138 rfl rfl, tb_1 1 rfl rfl, by decide +kernel⟩
theorem i_X11_price : Cond.instanceMethod yX11_price ∈ TB := tb_3 136 rfl rfl
theorem s_X11_price : Cond.selects RX11 yX11_price yX11_price ∈ TB := tb_3 137 rfl rfl
theorem k_X11_size : CY yX11_size cX11_size 1 (some .int) 0 := ⟨tb_3 144 rfl rfl, tb_1 1 rfl rfl, by decide +kernel⟩
theorem i_X11_size : Cond.instanceMethod yX11_size ∈ TB := tb_3 142 rfl rfl
theorem s_X11_size : Cond.selects RX11 yX11_size yX11_size ∈ TB := tb_3 143 rfl rfl
theorem k_X11_at : CY yX11_at cX11_at 2 (some .int) 1 := ⟨tb_3 148 rfl rfl, tb_1 1 rfl rfl, by decide +kernel⟩
theorem i_X11_at : Cond.instanceMethod yX11_at ∈ TB := tb_3 146 rfl rfl
theorem s_X11_at : Cond.selects RX11 yX11_at yX11_at ∈ TB := tb_3 147 rfl rfl
theorem k_X11_alter : CY yX11_alter cX11_alter 4 (some .int) 2 := ⟨tb_3 156 rfl rfl, tb_1 1 rfl rfl, by decide +kernel⟩
theorem i_X11_alter : Cond.instanceMethod yX11_alter ∈ TB := tb_3 154 rfl rfl
theorem s_X11_alter : Cond.selects RX11 yX11_alter yX11_alter ∈ TB := tb_3 155 rfl rfl
theorem k_X11_add : CY yX11_add cX11_add 2 (some .int) 1 := ⟨tb_3 163 rfl rfl, tb_1 1 rfl rfl, by decide +kernel⟩
theorem i_X11_add : Cond.instanceMethod yX11_add ∈ TB := tb_3 161 rfl rfl
theorem s_X11_add : Cond.selects RX11 yX11_add yX11_add ∈ TB := tb_3 162 rfl rfl
theorem k_X11_cut : CY yX11_cut cX11_cut 3 (some .int) 1 := ⟨tb_3 167 rfl rfl, tb_1 1 rfl rfl, by decide +kernel⟩
theorem i_X11_cut : Cond.instanceMethod yX11_cut ∈ TB := tb_3 165 rfl rfl
theorem s_X11_cut : Cond.selects RX11 yX11_cut yX11_cut ∈ TB := tb_3 166 rfl rfl
theorem k_X11_open : CY yX11_open cX11_open 4 (some .int) 1 := ⟨tb_3 171 rfl rfl, tb_1 1 rfl rfl, by decide +kernel⟩
theorem i_X11_open : Cond.instanceMethod yX11_open ∈ TB := tb_3 169 rfl rfl
theorem s_X11_open : Cond.selects RX11 yX11_open yX11_open ∈ TB := tb_3 170 rfl rfl
theorem k_X11_shown : CY yX11_shown cX11_shown 2 (some .int) 1 := ⟨tb_4 9 rfl rfl, tb_1 1 rfl rfl, by decide +kernel⟩
theorem i_X11_shown : Cond.instanceMethod yX11_shown ∈ TB := tb_4 7 rfl rfl
theorem s_X11_shown : Cond.selects RX11 yX11_shown yX11_shown ∈ TB := tb_4 8 rfl rfl
theorem k_X11_got : CY yX11_got cX11_got 3 (some .int) 2 := ⟨tb_4 99 rfl rfl, tb_1 1 rfl rfl, by decide +kernel⟩
theorem i_X11_got : Cond.instanceMethod yX11_got ∈ TB := tb_4 97 rfl rfl
theorem s_X11_got : Cond.selects RX11 yX11_got yX11_got ∈ TB := tb_4 98 rfl rfl
theorem k_X11_take : CY yX11_take cX11_take 3 (some .int) 0 := ⟨tb_4 13 rfl rfl, tb_1 1 rfl rfl, by decide +kernel⟩
theorem i_X11_take : Cond.instanceMethod yX11_take ∈ TB := tb_4 11 rfl rfl
theorem s_X11_take : Cond.selects RX11 yX11_take yX11_take ∈ TB := tb_4 12 rfl rfl
theorem k_X11_frames : CY yX11_frames cX11_frames 3 (some .int) 0 := ⟨tb_4 18 rfl rfl, tb_1 1 rfl rfl, by decide +kernel⟩
theorem i_X11_frames : Cond.instanceMethod yX11_frames ∈ TB := tb_4 16 rfl rfl
theorem s_X11_frames : Cond.selects RX11 yX11_frames yX11_frames ∈ TB := tb_4 17 rfl rfl
theorem k_X11_isChannel : CY yX11_isChannel cX11_isChannel 1 (some .boolean) 1 := ⟨tb_2 161 rfl rfl, tb_1 1 rfl rfl, by decide +kernel⟩
theorem t_X11_isChannel : Cond.static yX11_isChannel ∈ TB := tb_2 160 rfl rfl
theorem k_X11_isByte : CY yX11_isByte cX11_isByte 1 (some .boolean) 1 := ⟨tb_3 159 rfl rfl, tb_1 1 rfl rfl, by decide +kernel⟩
theorem t_X11_isByte : Cond.static yX11_isByte ∈ TB := tb_3 158 rfl rfl
theorem k_X11_isPartOf : CY yX11_isPartOf cX11_isPartOf 2 (some .boolean) 2 := ⟨tb_3 130 rfl rfl, tb_1 1 rfl rfl, by decide +kernel⟩
theorem t_X11_isPartOf : Cond.static yX11_isPartOf ∈ TB := tb_3 129 rfl rfl
theorem k_X11_partTold : CY yX11_partTold cX11_partTold 4 (some .int) 2 := ⟨tb_3 133 rfl rfl, tb_1 1 rfl rfl, by decide +kernel⟩
theorem t_X11_partTold : Cond.static yX11_partTold ∈ TB := tb_3 132 rfl rfl
theorem k_X11_fits : CY yX11_fits cX11_fits 3 (some .boolean) 2 := ⟨tb_2 164 rfl rfl, tb_1 1 rfl rfl, by decide +kernel⟩
theorem t_X11_fits : Cond.static yX11_fits ∈ TB := tb_2 163 rfl rfl
theorem k_X11_bytesOf : CY yX11_bytesOf cX11_bytesOf 1 (some .int) 1 := ⟨tb_3 53 rfl rfl, tb_1 1 rfl rfl, by decide +kernel⟩
theorem t_X11_bytesOf : Cond.static yX11_bytesOf ∈ TB := tb_3 52 rfl rfl
theorem k_X11_bitsOfRow : CY yX11_bitsOfRow cX11_bitsOfRow 2 (some .int) 2 := ⟨tb_2 194 rfl rfl, tb_1 1 rfl rfl, by decide +kernel⟩
theorem t_X11_bitsOfRow : Cond.static yX11_bitsOfRow ∈ TB := tb_2 193 rfl rfl
theorem k_X11_mayBeP : CY yX11_mayBeP cX11_mayBeP 3 (some .boolean) 3 := ⟨tb_2 238 rfl rfl, tb_1 1 rfl rfl, by decide +kernel⟩
theorem t_X11_mayBeP : Cond.static yX11_mayBeP ∈ TB := tb_2 237 rfl rfl
theorem k_X11_signed : CY yX11_signed cX11_signed 2 (some .int) 2 := ⟨tb_2 179 rfl rfl, tb_1 1 rfl rfl, by decide +kernel⟩
theorem t_X11_signed : Cond.static yX11_signed ∈ TB := tb_2 178 rfl rfl
theorem k_X11_unfold : CY yX11_unfold cX11_unfold 1 (some .int) 1 := ⟨tb_3 95 rfl rfl, tb_1 1 rfl rfl, by decide +kernel⟩
theorem t_X11_unfold : Cond.static yX11_unfold ∈ TB := tb_3 94 rfl rfl
theorem k_X12_thrown : CY yX12_thrown cX12_thrown 1 (some .int) 0 := ⟨tb_4 106 rfl rfl, tb_1 13 rfl rfl, by decide +kernel⟩
theorem i_X12_thrown : Cond.instanceMethod yX12_thrown ∈ TB := tb_4 104 rfl rfl
theorem s_X12_thrown : Cond.selects RX12 yX12_thrown yX12_thrown ∈ TB := tb_4 105 rfl rfl
theorem k_X12_init : CY yX12_init cX12_init 1 none 0 := ⟨tb_4 111 rfl rfl, tb_1 13 rfl rfl, by decide +kernel⟩
theorem i_X12_init : Cond.instanceMethod yX12_init ∈ TB := tb_4 110 rfl rfl
theorem k_X12_in : CY yX12_in cX12_in 6 (some .boolean) 3 := ⟨tb_4 235 rfl rfl, tb_1 13 rfl rfl, by decide +kernel⟩
theorem t_X12_in : Cond.static yX12_in ∈ TB := tb_4 234 rfl rfl
theorem k_X12_fits : CY yX12_fits cX12_fits 3 (some .boolean) 2 := ⟨tb_5 2 rfl rfl, tb_1 13 rfl rfl, by decide +kernel⟩
theorem t_X12_fits : Cond.static yX12_fits ∈ TB := tb_5 1 rfl rfl
theorem k_X12_depth : CY yX12_depth cX12_depth 3 (some .int) 1 := ⟨tb_4 231 rfl rfl, tb_1 13 rfl rfl, by decide +kernel⟩
theorem i_X12_depth : Cond.instanceMethod yX12_depth ∈ TB := tb_4 229 rfl rfl
theorem s_X12_depth : Cond.selects RX12 yX12_depth yX12_depth ∈ TB := tb_4 230 rfl rfl
theorem k_X12_sample : CY yX12_sample cX12_sample 3 (some .int) 2 := ⟨tb_4 239 rfl rfl, tb_1 13 rfl rfl, by decide +kernel⟩
theorem i_X12_sample : Cond.instanceMethod yX12_sample ∈ TB := tb_4 237 rfl rfl
theorem s_X12_sample : Cond.selects RX12 yX12_sample yX12_sample ∈ TB := tb_4 238 rfl rfl
theorem k_X12_drop : CY yX12_drop cX12_drop 3 (some .int) 1 := ⟨tb_5 6 rfl rfl, tb_1 13 rfl rfl, by decide +kernel⟩
theorem i_X12_drop : Cond.instanceMethod yX12_drop ∈ TB := tb_5 4 rfl rfl
theorem s_X12_drop : Cond.selects RX12 yX12_drop yX12_drop ∈ TB := tb_5 5 rfl rfl
theorem k_X12_coefficients : CY yX12_coefficients cX12_coefficients 8 (some .int) 3 := ⟨tb_5 10 rfl rfl, tb_1 13 rfl rfl, by decide +kernel⟩
theorem i_X12_coefficients : Cond.instanceMethod yX12_coefficients ∈ TB := tb_5 8 rfl rfl
theorem s_X12_coefficients : Cond.selects RX12 yX12_coefficients yX12_coefficients ∈ TB := tb_5 9 rfl rfl
theorem k_X12_takeOut : CY yX12_takeOut cX12_takeOut 4 none 1 := ⟨tb_5 25 rfl rfl, tb_1 13 rfl rfl, by decide +kernel⟩
theorem i_X12_takeOut : Cond.instanceMethod yX12_takeOut ∈ TB := tb_5 24 rfl rfl
theorem s_X12_takeOut : Cond.selects RX12 yX12_takeOut yX12_takeOut ∈ TB := tb_ofs 20 (by decide +kernel)
theorem k_X12_fixed : CY yX12_fixed cX12_fixed 9 (some .long) 5 := ⟨tb_5 49 rfl rfl, tb_1 13 rfl rfl, by decide +kernel⟩
theorem t_X12_fixed : Cond.static yX12_fixed ∈ TB := tb_5 48 rfl rfl
theorem k_X12_before : CY yX12_before cX12_before 3 (some .long) 2 := ⟨tb_5 46 rfl rfl, tb_1 13 rfl rfl, by decide +kernel⟩
theorem i_X12_before : Cond.instanceMethod yX12_before ∈ TB := tb_5 45 rfl rfl
theorem s_X12_before : Cond.selects RX12 yX12_before yX12_before ∈ TB := tb_ofs 25 (by decide +kernel)
theorem k_X12_foretold : CY yX12_foretold cX12_foretold 6 (some .long) 2 := ⟨tb_5 42 rfl rfl, tb_1 13 rfl rfl, by decide +kernel⟩
theorem i_X12_foretold : Cond.instanceMethod yX12_foretold ∈ TB := tb_5 41 rfl rfl
theorem s_X12_foretold : Cond.selects RX12 yX12_foretold yX12_foretold ∈ TB := tb_ofs 24 (by decide +kernel)
theorem k_X12_orderOf : CY yX12_orderOf cX12_orderOf 2 (some .int) 1 := ⟨tb_5 38 rfl rfl, tb_1 13 rfl rfl, by decide +kernel⟩
theorem i_X12_orderOf : Cond.instanceMethod yX12_orderOf ∈ TB := tb_5 37 rfl rfl
theorem s_X12_orderOf : Cond.selects RX12 yX12_orderOf yX12_orderOf ∈ TB := tb_ofs 23 (by decide +kernel)
theorem k_X12_roomOf : CY yX12_roomOf cX12_roomOf 3 (some .int) 1 := ⟨tb_5 69 rfl rfl, tb_1 13 rfl rfl, by decide +kernel⟩
theorem t_X12_roomOf : Cond.static yX12_roomOf ∈ TB := tb_5 68 rfl rfl
theorem k_X12_partBits : CY yX12_partBits cX12_partBits 9 (some .long) 2 := ⟨tb_5 66 rfl rfl, tb_1 13 rfl rfl, by decide +kernel⟩
theorem i_X12_partBits : Cond.instanceMethod yX12_partBits ∈ TB := tb_5 65 rfl rfl
theorem s_X12_partBits : Cond.selects RX12 yX12_partBits yX12_partBits ∈ TB := tb_ofs 28 (by decide +kernel)
theorem k_X12_mayPart : CY yX12_mayPart cX12_mayPart 3 (some .boolean) 2 := ⟨tb_5 62 rfl rfl, tb_1 13 rfl rfl, by decide +kernel⟩
theorem i_X12_mayPart : Cond.instanceMethod yX12_mayPart ∈ TB := tb_5 61 rfl rfl
theorem s_X12_mayPart : Cond.selects RX12 yX12_mayPart yX12_mayPart ∈ TB := tb_ofs 27 (by decide +kernel)
theorem k_X12_restBits : CY yX12_restBits cX12_restBits 9 (some .long) 1 := ⟨tb_5 58 rfl rfl, tb_1 13 rfl rfl, by decide +kernel⟩
theorem i_X12_restBits : Cond.instanceMethod yX12_restBits ∈ TB := tb_5 57 rfl rfl
theorem s_X12_restBits : Cond.selects RX12 yX12_restBits yX12_restBits ∈ TB := tb_ofs 26 (by decide +kernel)
theorem k_X12_bitsOf : CY yX12_bitsOf cX12_bitsOf 5 (some .long) 1 := ⟨tb_5 33 rfl rfl, tb_1 13 rfl rfl, by decide +kernel⟩
theorem i_X12_bitsOf : Cond.instanceMethod yX12_bitsOf ∈ TB := tb_5 32 rfl rfl
theorem s_X12_bitsOf : Cond.selects RX12 yX12_bitsOf yX12_bitsOf ∈ TB := tb_ofs 22 (by decide +kernel)
theorem k_X12_bestKind : CY yX12_bestKind cX12_bestKind 7 (some .int) 0 := ⟨tb_5 29 rfl rfl, tb_1 13 rfl rfl, by decide +kernel⟩
theorem i_X12_bestKind : Cond.instanceMethod yX12_bestKind ∈ TB := tb_5 28 rfl rfl
theorem s_X12_bestKind : Cond.selects RX12 yX12_bestKind yX12_bestKind ∈ TB := tb_ofs 21 (by decide +kernel)
theorem k_X12_valuesOf : CY yX12_valuesOf cX12_valuesOf 8 none 2 := ⟨tb_5 21 rfl rfl, tb_1 13 rfl rfl, by decide +kernel⟩
theorem i_X12_valuesOf : Cond.instanceMethod yX12_valuesOf ∈ TB := tb_5 20 rfl rfl
theorem s_X12_valuesOf : Cond.selects RX12 yX12_valuesOf yX12_valuesOf ∈ TB := tb_ofs 19 (by decide +kernel)
theorem k_X12_put : CY yX12_put cX12_put 5 none 2 := ⟨tb_5 74 rfl rfl, tb_1 13 rfl rfl, by decide +kernel⟩
theorem i_X12_put : Cond.instanceMethod yX12_put ∈ TB := tb_5 73 rfl rfl
theorem s_X12_put : Cond.selects RX12 yX12_put yX12_put ∈ TB := tb_ofs 29 (by decide +kernel)
theorem k_X12_putRow : CY yX12_putRow cX12_putRow 8 none 2 := ⟨tb_5 78 rfl rfl, tb_1 13 rfl rfl, by decide +kernel⟩
theorem i_X12_putRow : Cond.instanceMethod yX12_putRow ∈ TB := tb_5 77 rfl rfl
theorem s_X12_putRow : Cond.selects RX12 yX12_putRow yX12_putRow ∈ TB := tb_ofs 30 (by decide +kernel)
theorem k_X12_putRests : CY yX12_putRests cX12_putRests 13 none 2 := ⟨tb_5 82 rfl rfl, tb_1 13 rfl rfl, by decide +kernel⟩
theorem i_X12_putRests : Cond.instanceMethod yX12_putRests ∈ TB := tb_5 81 rfl rfl
theorem s_X12_putRests : Cond.selects RX12 yX12_putRests yX12_putRests ∈ TB := tb_ofs 31 (by decide +kernel)
theorem k_X12_sumOf : CY yX12_sumOf cX12_sumOf 7 (some .int) 3 := ⟨tb_5 86 rfl rfl, tb_1 13 rfl rfl, by decide +kernel⟩
theorem i_X12_sumOf : Cond.instanceMethod yX12_sumOf ∈ TB := tb_5 85 rfl rfl
theorem s_X12_sumOf : Cond.selects RX12 yX12_sumOf yX12_sumOf ∈ TB := tb_ofs 32 (by decide +kernel)
theorem k_X12_pack : CY yX12_pack cX12_pack 9 (some .int) 0 := ⟨tb_5 16 rfl rfl, tb_1 13 rfl rfl, by decide +kernel⟩
theorem i_X12_pack : Cond.instanceMethod yX12_pack ∈ TB := tb_5 14 rfl rfl
theorem s_X12_pack : Cond.selects RX12 yX12_pack yX12_pack ∈ TB := tb_5 15 rfl rfl
theorem k_X12_told : CY yX12_told cX12_told 2 (some .int) 1 := ⟨tb_5 90 rfl rfl, tb_1 13 rfl rfl, by decide +kernel⟩
theorem i_X12_told : Cond.instanceMethod yX12_told ∈ TB := tb_5 88 rfl rfl
theorem s_X12_told : Cond.selects RX12 yX12_told yX12_told ∈ TB := tb_5 89 rfl rfl
theorem k_X12_row : CY yX12_row cX12_row 6 (some .int) 2 := ⟨tb_5 94 rfl rfl, tb_1 13 rfl rfl, by decide +kernel⟩
theorem i_X12_row : Cond.instanceMethod yX12_row ∈ TB := tb_5 92 rfl rfl
theorem s_X12_row : Cond.selects RX12 yX12_row yX12_row ∈ TB := tb_5 93 rfl rfl
theorem k_X12_price : CY yX12_price cX12_price 5 (some .int) 2 := ⟨tb_5 102 rfl rfl, tb_1 13 rfl rfl, by decide +kernel⟩
theorem i_X12_price : Cond.instanceMethod yX12_price ∈ TB := tb_5 100 rfl rfl
theorem s_X12_price : Cond.selects RX12 yX12_price yX12_price ∈ TB := tb_5 101 rfl rfl
theorem k_X12_size : CY yX12_size cX12_size 1 (some .int) 0 := ⟨tb_5 106 rfl rfl, tb_1 13 rfl rfl, by decide +kernel⟩
theorem i_X12_size : Cond.instanceMethod yX12_size ∈ TB := tb_5 104 rfl rfl
theorem s_X12_size : Cond.selects RX12 yX12_size yX12_size ∈ TB := tb_5 105 rfl rfl
theorem k_X12_at : CY yX12_at cX12_at 2 (some .int) 1 := ⟨tb_5 110 rfl rfl, tb_1 13 rfl rfl, by decide +kernel⟩
theorem i_X12_at : Cond.instanceMethod yX12_at ∈ TB := tb_5 108 rfl rfl
theorem s_X12_at : Cond.selects RX12 yX12_at yX12_at ∈ TB := tb_5 109 rfl rfl
theorem k_X12_alter : CY yX12_alter cX12_alter 4 (some .int) 2 := ⟨tb_5 114 rfl rfl, tb_1 13 rfl rfl, by decide +kernel⟩
theorem i_X12_alter : Cond.instanceMethod yX12_alter ∈ TB := tb_5 112 rfl rfl
theorem s_X12_alter : Cond.selects RX12 yX12_alter yX12_alter ∈ TB := tb_5 113 rfl rfl
theorem k_X12_add : CY yX12_add cX12_add 2 (some .int) 1 := ⟨tb_5 119 rfl rfl, tb_1 13 rfl rfl, by decide +kernel⟩
theorem i_X12_add : Cond.instanceMethod yX12_add ∈ TB := tb_5 117 rfl rfl
theorem s_X12_add : Cond.selects RX12 yX12_add yX12_add ∈ TB := tb_5 118 rfl rfl
theorem k_X12_cut : CY yX12_cut cX12_cut 3 (some .int) 1 := ⟨tb_5 123 rfl rfl, tb_1 13 rfl rfl, by decide +kernel⟩
theorem i_X12_cut : Cond.instanceMethod yX12_cut ∈ TB := tb_5 121 rfl rfl
theorem s_X12_cut : Cond.selects RX12 yX12_cut yX12_cut ∈ TB := tb_5 122 rfl rfl
theorem k_X12_wrong : CY yX12_wrong cX12_wrong 2 none 1 := ⟨tb_5 143 rfl rfl, tb_1 13 rfl rfl, by decide +kernel⟩
theorem i_X12_wrong : Cond.instanceMethod yX12_wrong ∈ TB := tb_5 142 rfl rfl
theorem s_X12_wrong : Cond.selects RX12 yX12_wrong yX12_wrong ∈ TB := tb_ofs 36 (by decide +kernel)
theorem k_X12_bit : CY yX12_bit cX12_bit 1 (some .int) 0 := ⟨tb_5 139 rfl rfl, tb_1 13 rfl rfl, by decide +kernel⟩
theorem i_X12_bit : Cond.instanceMethod yX12_bit ∈ TB := tb_5 138 rfl rfl
theorem s_X12_bit : Cond.selects RX12 yX12_bit yX12_bit ∈ TB := tb_ofs 35 (by decide +kernel)
theorem k_X12_number : CY yX12_number cX12_number 5 (some .long) 1 := ⟨tb_5 135 rfl rfl, tb_1 13 rfl rfl, by decide +kernel⟩
theorem i_X12_number : Cond.instanceMethod yX12_number ∈ TB := tb_5 134 rfl rfl
theorem s_X12_number : Cond.selects RX12 yX12_number yX12_number ∈ TB := tb_ofs 34 (by decide +kernel)
theorem k_X12_signed : CY yX12_signed cX12_signed 4 (some .long) 1 := ⟨tb_5 151 rfl rfl, tb_1 13 rfl rfl, by decide +kernel⟩
theorem i_X12_signed : Cond.instanceMethod yX12_signed ∈ TB := tb_5 150 rfl rfl
theorem s_X12_signed : Cond.selects RX12 yX12_signed yX12_signed ∈ TB := tb_ofs 38 (by decide +kernel)
theorem k_X12_back : CY yX12_back cX12_back 4 (some .long) 3 := ⟨tb_5 163 rfl rfl, tb_1 13 rfl rfl, by decide +kernel⟩
theorem i_X12_back : Cond.instanceMethod yX12_back ∈ TB := tb_5 162 rfl rfl
theorem s_X12_back : Cond.selects RX12 yX12_back yX12_back ∈ TB := tb_ofs 41 (by decide +kernel)
theorem k_X12_foreseen : CY yX12_foreseen cX12_foreseen 8 (some .long) 4 := ⟨tb_5 159 rfl rfl, tb_1 13 rfl rfl, by decide +kernel⟩
theorem i_X12_foreseen : Cond.instanceMethod yX12_foreseen ∈ TB := tb_5 158 rfl rfl
theorem s_X12_foreseen : Cond.selects RX12 yX12_foreseen yX12_foreseen ∈ TB := tb_ofs 40 (by decide +kernel)
theorem k_X12_readRow : CY yX12_readRow cX12_readRow 8 none 2 := ⟨tb_5 147 rfl rfl, tb_1 13 rfl rfl, by decide +kernel⟩
theorem i_X12_readRow : Cond.instanceMethod yX12_readRow ∈ TB := tb_5 146 rfl rfl
theorem s_X12_readRow : Cond.selects RX12 yX12_readRow yX12_readRow ∈ TB := tb_ofs 37 (by decide +kernel)
theorem k_X12_readRests : CY yX12_readRests cX12_readRests 12 none 4 := ⟨tb_5 155 rfl rfl, tb_1 13 rfl rfl, by decide +kernel⟩
theorem i_X12_readRests : Cond.instanceMethod yX12_readRests ∈ TB := tb_5 154 rfl rfl
theorem s_X12_readRests : Cond.selects RX12 yX12_readRests yX12_readRests ∈ TB := tb_ofs 39 (by decide +kernel)
theorem k_X12_readRest : CY yX12_readRest cX12_readRest 7 (some .long) 2 := ⟨tb_5 167 rfl rfl, tb_1 13 rfl rfl, by decide +kernel⟩
theorem i_X12_readRest : Cond.instanceMethod yX12_readRest ∈ TB := tb_5 166 rfl rfl
theorem s_X12_readRest : Cond.selects RX12 yX12_readRest yX12_readRest ∈ TB := tb_ofs 42 (by decide +kernel)
theorem k_X12_openAt : CY yX12_openAt cX12_openAt 4 (some .int) 1 := ⟨tb_5 131 rfl rfl, tb_1 13 rfl rfl, by decide +kernel⟩
theorem i_X12_openAt : Cond.instanceMethod yX12_openAt ∈ TB := tb_5 130 rfl rfl
theorem s_X12_openAt : Cond.selects RX12 yX12_openAt yX12_openAt ∈ TB := tb_ofs 33 (by decide +kernel)
theorem k_X12_untwist : CY yX12_untwist cX12_untwist 6 none 0 := ⟨tb_5 171 rfl rfl, tb_1 13 rfl rfl, by decide +kernel⟩
theorem i_X12_untwist : Cond.instanceMethod yX12_untwist ∈ TB := tb_5 170 rfl rfl
theorem s_X12_untwist : Cond.selects RX12 yX12_untwist yX12_untwist ∈ TB := tb_ofs 43 (by decide +kernel)
theorem k_X12_open : CY yX12_open cX12_open 4 (some .int) 1 := ⟨tb_5 127 rfl rfl, tb_1 13 rfl rfl, by decide +kernel⟩
theorem i_X12_open : Cond.instanceMethod yX12_open ∈ TB := tb_5 125 rfl rfl
theorem s_X12_open : Cond.selects RX12 yX12_open yX12_open ∈ TB := tb_5 126 rfl rfl
theorem k_X12_shown : CY yX12_shown cX12_shown 2 (some .int) 1 := ⟨tb_5 175 rfl rfl, tb_1 13 rfl rfl, by decide +kernel⟩
theorem i_X12_shown : Cond.instanceMethod yX12_shown ∈ TB := tb_5 173 rfl rfl
theorem s_X12_shown : Cond.selects RX12 yX12_shown yX12_shown ∈ TB := tb_5 174 rfl rfl
theorem k_X12_got : CY yX12_got cX12_got 4 (some .int) 2 := ⟨tb_5 179 rfl rfl, tb_1 13 rfl rfl, by decide +kernel⟩
theorem i_X12_got : Cond.instanceMethod yX12_got ∈ TB := tb_5 177 rfl rfl
theorem s_X12_got : Cond.selects RX12 yX12_got yX12_got ∈ TB := tb_5 178 rfl rfl
theorem k_X12_take : CY yX12_take cX12_take 2 (some .int) 0 := ⟨tb_5 183 rfl rfl, tb_1 13 rfl rfl, by decide +kernel⟩
theorem i_X12_take : Cond.instanceMethod yX12_take ∈ TB := tb_5 181 rfl rfl
theorem s_X12_take : Cond.selects RX12 yX12_take yX12_take ∈ TB := tb_5 182 rfl rfl
theorem k_X12_frames : CY yX12_frames cX12_frames 3 (some .int) 0 := ⟨tb_5 187 rfl rfl, tb_1 13 rfl rfl, by decide +kernel⟩
theorem i_X12_frames : Cond.instanceMethod yX12_frames ∈ TB := tb_5 185 rfl rfl
theorem s_X12_frames : Cond.selects RX12 yX12_frames yX12_frames ∈ TB := tb_5 186 rfl rfl
theorem k_Jx00060_init_a7421 : CY yJx00060_init_a7421 cJx00060_init_a7421 2 none 1 := ⟨tb_4 25 rfl rfl, tb_1 22 rfl rfl, by decide +kernel⟩
theorem i_Jx00060_init_a7421 : Cond.instanceMethod yJx00060_init_a7421 ∈ TB := tb_4 24 rfl rfl
theorem k_J6_numberOfLeadingZeros_0f7a4 : CY yJ6_numberOfLeadingZeros_0f7a4 cJ6_numberOfLeadingZeros_0f7a4 2 (some .int) 1 := ⟨tb_3 28 rfl rfl, tb_1 14 rfl rfl, by decide +kernel⟩
theorem t_J6_numberOfLeadingZeros_0f7a4 : Cond.static yJ6_numberOfLeadingZeros_0f7a4 ∈ TB := tb_3 27 rfl rfl
theorem k_J6_numberOfTrailingZeros_0f7a4 : CY yJ6_numberOfTrailingZeros_0f7a4 cJ6_numberOfTrailingZeros_0f7a4 2 (some .int) 1 := ⟨tb_2 205 rfl rfl, tb_1 14 rfl rfl, by decide +kernel⟩
theorem t_J6_numberOfTrailingZeros_0f7a4 : Cond.static yJ6_numberOfTrailingZeros_0f7a4 ∈ TB := tb_2 204 rfl rfl
theorem k_J9_min_7cf53 : CY yJ9_min_7cf53 cJ9_min_7cf53 2 (some .int) 2 := ⟨tb_2 209 rfl rfl, tb_1 15 rfl rfl, by decide +kernel⟩
theorem t_J9_min_7cf53 : Cond.static yJ9_min_7cf53 ∈ TB := tb_2 208 rfl rfl
theorem k_J7_fill_d0a16 : CY yJ7_fill_d0a16 cJ7_fill_d0a16 5 none 2 := ⟨tb_3 1 rfl rfl, tb_1 16 rfl rfl, by decide +kernel⟩
theorem t_J7_fill_d0a16 : Cond.static yJ7_fill_d0a16 ∈ TB := tb_3 0 rfl rfl
theorem k_J7_fill_53178 : CY yJ7_fill_53178 cJ7_fill_53178 4 none 2 := ⟨tb_3 4 rfl rfl, tb_1 16 rfl rfl, by decide +kernel⟩
theorem t_J7_fill_53178 : Cond.static yJ7_fill_53178 ∈ TB := tb_3 3 rfl rfl
theorem l_X11_1 : Cond.methodLink RX11 1 objectInit ∈ TB := tb_1 29 rfl rfl
theorem l_X11_38 : Cond.methodLink RX11 38 yX2_init ∈ TB := tb_1 85 rfl rfl
theorem l_X11_54 : Cond.methodLink RX11 54 yX3_init ∈ TB := tb_2 47 rfl rfl
theorem l_X11_71 : Cond.methodLink RX11 71 yX11_isChannel ∈ TB := tb_2 159 rfl rfl
theorem l_X11_75 : Cond.methodLink RX11 75 yX11_fits ∈ TB := tb_2 162 rfl rfl
theorem l_X11_82 : Cond.methodLink RX11 82 yX1_becomeTold ∈ TB := tb_2 173 rfl rfl
theorem l_X11_86 : Cond.methodLink RX11 86 yX2_chooseFrame ∈ TB := tb_2 184 rfl rfl
theorem l_X11_96 : Cond.methodLink RX11 96 yX11_bytesOf ∈ TB := tb_3 51 rfl rfl
theorem l_X11_100 : Cond.methodLink RX11 100 yX2_writeFrame ∈ TB := tb_3 54 rfl rfl
theorem l_X11_103 : Cond.methodLink RX11 103 yX5_keep ∈ TB := tb_3 113 rfl rfl
theorem l_X11_117 : Cond.methodLink RX11 117 yX11_isPartOf ∈ TB := tb_3 128 rfl rfl
theorem l_X11_127 : Cond.methodLink RX11 127 yX11_partTold ∈ TB := tb_3 131 rfl rfl
theorem l_X11_153 : Cond.methodLink RX11 153 yX10_strip ∈ TB := tb_3 139 rfl rfl
theorem l_X11_159 : Cond.methodLink RX11 159 yX7_weigh ∈ TB := tb_3 140 rfl rfl
theorem l_X11_162 : Cond.methodLink RX11 162 yX0_has ∈ TB := tb_3 149 rfl rfl
theorem l_X11_168 : Cond.methodLink RX11 168 yX11_isByte ∈ TB := tb_3 157 rfl rfl
theorem l_X11_171 : Cond.methodLink RX11 171 yX3_readFrame ∈ TB := tb_3 172 rfl rfl
theorem l_X11_189 : Cond.methodLink RX11 189 yJx00060_init_a7421 ∈ TB := tb_4 102 rfl rfl
theorem l_X11_195 : Cond.methodLink RX11 195 arraycopyName ∈ TB := tb_4 14 rfl rfl
theorem l_X11_201 : Cond.methodLink RX11 201 yX8_countParts ∈ TB := tb_3 134 rfl rfl
theorem l_X0_3 : Cond.methodLink RX0 3 objectInit ∈ TB := tb_1 65 rfl rfl
theorem l_X0_25 : Cond.methodLink RX0 25 yX0_writeBit ∈ TB := tb_3 66 rfl rfl
theorem l_X0_29 : Cond.methodLink RX0 29 yX0_write ∈ TB := tb_3 100 rfl rfl
theorem l_X0_33 : Cond.methodLink RX0 33 yX0_faultIf ∈ TB := tb_3 185 rfl rfl
theorem l_X0_37 : Cond.methodLink RX0 37 yX0_read ∈ TB := tb_3 202 rfl rfl
theorem l_X1_3 : Cond.methodLink RX1 3 objectInit ∈ TB := tb_1 39 rfl rfl
theorem l_X2_3 : Cond.methodLink RX2 3 objectInit ∈ TB := tb_1 88 rfl rfl
theorem l_X2_20 : Cond.methodLink RX2 20 yX7_init ∈ TB := tb_1 136 rfl rfl
theorem l_X2_47 : Cond.methodLink RX2 47 yX2_mixChannels ∈ TB := tb_2 188 rfl rfl
theorem l_X2_54 : Cond.methodLink RX2 54 yX7_chooseRow ∈ TB := tb_2 195 rfl rfl
theorem l_X2_58 : Cond.methodLink RX2 58 yX2_chooseTurn ∈ TB := tb_3 43 rfl rfl
theorem l_X2_79 : Cond.methodLink RX2 79 yX0_begin ∈ TB := tb_3 58 rfl rfl
theorem l_X2_83 : Cond.methodLink RX2 83 yX0_write ∈ TB := tb_3 62 rfl rfl
theorem l_X2_87 : Cond.methodLink RX2 87 yX2_writeRow ∈ TB := tb_3 70 rfl rfl
theorem l_X2_90 : Cond.methodLink RX2 90 yX0_bitsToByte ∈ TB := tb_3 101 rfl rfl
theorem l_X2_94 : Cond.methodLink RX2 94 yX0_placeNow ∈ TB := tb_3 105 rfl rfl
theorem l_X2_97 : Cond.methodLink RX2 97 yX0_sumOf ∈ TB := tb_3 109 rfl rfl
theorem l_X2_104 : Cond.methodLink RX2 104 yX10_strip ∈ TB := tb_3 74 rfl rfl
theorem l_X2_116 : Cond.methodLink RX2 116 yX2_writeValues ∈ TB := tb_3 75 rfl rfl
theorem l_X2_119 : Cond.methodLink RX2 119 yX2_writeForetold ∈ TB := tb_3 79 rfl rfl
theorem l_X2_129 : Cond.methodLink RX2 129 yX7_foretellingOf ∈ TB := tb_3 83 rfl rfl
theorem l_X2_147 : Cond.methodLink RX2 147 yX8_countParts ∈ TB := tb_3 84 rfl rfl
theorem l_X2_156 : Cond.methodLink RX2 156 yX2_writeRests ∈ TB := tb_3 88 rfl rfl
theorem l_X2_160 : Cond.methodLink RX2 160 yX10_foldedRest ∈ TB := tb_3 92 rfl rfl
theorem l_X2_168 : Cond.methodLink RX2 168 yX0_writeFolded ∈ TB := tb_3 96 rfl rfl
theorem l_X3_3 : Cond.methodLink RX3 3 objectInit ∈ TB := tb_2 50 rfl rfl
theorem l_X3_17 : Cond.methodLink RX3 17 yX9_init ∈ TB := tb_2 53 rfl rfl
theorem l_X3_24 : Cond.methodLink RX3 24 yX0_begin ∈ TB := tb_3 176 rfl rfl
theorem l_X3_30 : Cond.methodLink RX3 30 yX3_readHead ∈ TB := tb_3 177 rfl rfl
theorem l_X3_64 : Cond.methodLink RX3 64 yX9_readRow ∈ TB := tb_3 192 rfl rfl
theorem l_X3_74 : Cond.methodLink RX3 74 yX3_readEnd ∈ TB := tb_3 234 rfl rfl
theorem l_X3_78 : Cond.methodLink RX3 78 yX0_read ∈ TB := tb_3 181 rfl rfl
theorem l_X3_82 : Cond.methodLink RX3 82 yX0_faultIf ∈ TB := tb_3 189 rfl rfl
theorem l_X3_86 : Cond.methodLink RX3 86 yX0_bitsToByte ∈ TB := tb_3 238 rfl rfl
theorem l_X3_90 : Cond.methodLink RX3 90 yX0_placeNow ∈ TB := tb_3 239 rfl rfl
theorem l_X3_93 : Cond.methodLink RX3 93 yX0_sumOf ∈ TB := tb_4 0 rfl rfl
theorem l_X3_99 : Cond.methodLink RX3 99 yX4_unturn ∈ TB := tb_4 1 rfl rfl
theorem l_X4_3 : Cond.methodLink RX4 3 objectInit ∈ TB := tb_2 84 rfl rfl
theorem l_X5_1 : Cond.methodLink RX5 1 objectInit ∈ TB := tb_2 17 rfl rfl
theorem l_X5_48 : Cond.methodLink RX5 48 yX8_copyFrom ∈ TB := tb_3 118 rfl rfl
theorem l_X6_3 : Cond.methodLink RX6 3 objectInit ∈ TB := tb_1 172 rfl rfl
theorem l_X6_45 : Cond.methodLink RX6 45 yJ7_fill_d0a16 ∈ TB := tb_2 239 rfl rfl
theorem l_X6_51 : Cond.methodLink RX6 51 yJ7_fill_53178 ∈ TB := tb_3 2 rfl rfl
theorem l_X6_54 : Cond.methodLink RX6 54 yX10_foldedRest ∈ TB := tb_3 5 rfl rfl
theorem l_X6_59 : Cond.methodLink RX6 59 yX6_tally ∈ TB := tb_3 14 rfl rfl
theorem l_X6_63 : Cond.methodLink RX6 63 yX6_weighPart ∈ TB := tb_3 22 rfl rfl
theorem l_X6_73 : Cond.methodLink RX6 73 arraycopyName ∈ TB := tb_3 31 rfl rfl
theorem l_X6_80 : Cond.methodLink RX6 80 yX6_joinPairs ∈ TB := tb_3 34 rfl rfl
theorem l_X6_84 : Cond.methodLink RX6 84 yJ6_numberOfLeadingZeros_0f7a4 ∈ TB := tb_3 26 rfl rfl
theorem l_X7_3 : Cond.methodLink RX7 3 objectInit ∈ TB := tb_1 139 rfl rfl
theorem l_X7_42 : Cond.methodLink RX7 42 yX1_becomeFixed ∈ TB := tb_2 226 rfl rfl
theorem l_X7_46 : Cond.methodLink RX7 46 yX10_strip ∈ TB := tb_2 199 rfl rfl
theorem l_X7_54 : Cond.methodLink RX7 54 yX7_weigh ∈ TB := tb_2 210 rfl rfl
theorem l_X7_58 : Cond.methodLink RX7 58 yX8_copyFrom ∈ TB := tb_3 38 rfl rfl
theorem l_X7_72 : Cond.methodLink RX7 72 yX10_areAlike ∈ TB := tb_2 214 rfl rfl
theorem l_X7_82 : Cond.methodLink RX7 82 yX7_weighForetold ∈ TB := tb_2 218 rfl rfl
theorem l_X7_85 : Cond.methodLink RX7 85 yX7_foretellingOf ∈ TB := tb_2 222 rfl rfl
theorem l_X7_92 : Cond.methodLink RX7 92 yX6_gather ∈ TB := tb_2 232 rfl rfl
theorem l_X7_96 : Cond.methodLink RX7 96 yX6_chooseParts ∈ TB := tb_3 18 rfl rfl
theorem l_X8_3 : Cond.methodLink RX8 3 objectInit ∈ TB := tb_1 95 rfl rfl
theorem l_X8_31 : Cond.methodLink RX8 31 arraycopyName ∈ TB := tb_3 42 rfl rfl
theorem l_X9_3 : Cond.methodLink RX9 3 objectInit ∈ TB := tb_2 56 rfl rfl
theorem l_X9_26 : Cond.methodLink RX9 26 yX0_read ∈ TB := tb_3 196 rfl rfl
theorem l_X9_32 : Cond.methodLink RX9 32 yX0_faultIf ∈ TB := tb_3 197 rfl rfl
theorem l_X9_39 : Cond.methodLink RX9 39 yX0_readSigned ∈ TB := tb_3 198 rfl rfl
theorem l_X9_42 : Cond.methodLink RX9 42 yX9_fillRow ∈ TB := tb_3 204 rfl rfl
theorem l_X9_46 : Cond.methodLink RX9 46 yX9_readValues ∈ TB := tb_3 208 rfl rfl
theorem l_X9_49 : Cond.methodLink RX9 49 yX9_readForetold ∈ TB := tb_3 212 rfl rfl
theorem l_X9_52 : Cond.methodLink RX9 52 yX9_readCoefficients ∈ TB := tb_3 216 rfl rfl
theorem l_X9_56 : Cond.methodLink RX9 56 yX1_becomeFixed ∈ TB := tb_3 220 rfl rfl
theorem l_X9_63 : Cond.methodLink RX9 63 yX9_readPart ∈ TB := tb_3 222 rfl rfl
theorem l_X9_77 : Cond.methodLink RX9 77 yX0_readFolded ∈ TB := tb_3 226 rfl rfl
theorem l_X9_80 : Cond.methodLink RX9 80 yX1_foretell ∈ TB := tb_3 231 rfl rfl
theorem l_X10_3 : Cond.methodLink RX10 3 objectInit ∈ TB := tb_1 145 rfl rfl
theorem l_X10_15 : Cond.methodLink RX10 15 yJ6_numberOfTrailingZeros_0f7a4 ∈ TB := tb_2 203 rfl rfl
theorem l_X10_21 : Cond.methodLink RX10 21 Lib.Math.min.name ∈ TB := tb_2 207 rfl rfl
theorem l_X10_37 : Cond.methodLink RX10 37 yX1_foretell ∈ TB := tb_3 9 rfl rfl
theorem l_L_7 : Cond.methodLink RL 7 yX11_got ∈ TB := tb_4 96 rfl rfl
theorem l_L_15 : Cond.methodLink RL 15 yX11_init ∈ TB := tb_1 26 rfl rfl
theorem l_L_18 : Cond.methodLink RL 18 yX12_init ∈ TB := tb_4 109 rfl rfl
theorem l_L_19 : Cond.methodLink RL 19 yX11_depth ∈ TB := tb_2 151 rfl rfl
theorem l_L_23 : Cond.methodLink RL 23 yX12_depth ∈ TB := tb_4 228 rfl rfl
theorem l_L_24 : Cond.methodLink RL 24 yX11_sample ∈ TB := tb_2 155 rfl rfl
theorem l_L_27 : Cond.methodLink RL 27 yX12_sample ∈ TB := tb_4 236 rfl rfl
theorem l_L_28 : Cond.methodLink RL 28 yX11_drop ∈ TB := tb_2 165 rfl rfl
theorem l_L_31 : Cond.methodLink RL 31 yX12_drop ∈ TB := tb_5 3 rfl rfl
theorem l_L_34 : Cond.methodLink RL 34 yX11_coefficients ∈ TB := tb_2 169 rfl rfl
theorem l_L_38 : Cond.methodLink RL 38 yX12_coefficients ∈ TB := tb_5 7 rfl rfl
theorem l_L_39 : Cond.methodLink RL 39 yX11_pack ∈ TB := tb_2 180 rfl rfl
theorem l_L_43 : Cond.methodLink RL 43 yX12_pack ∈ TB := tb_5 13 rfl rfl
theorem l_L_44 : Cond.methodLink RL 44 yX11_told ∈ TB := tb_3 120 rfl rfl
theorem l_L_47 : Cond.methodLink RL 47 yX12_told ∈ TB := tb_5 87 rfl rfl
theorem l_L_48 : Cond.methodLink RL 48 yX11_row ∈ TB := tb_3 124 rfl rfl
theorem l_L_51 : Cond.methodLink RL 51 yX12_row ∈ TB := tb_5 91 rfl rfl
theorem l_L_52 : Cond.methodLink RL 52 yX11_price ∈ TB := tb_3 135 rfl rfl
theorem l_L_55 : Cond.methodLink RL 55 yX12_price ∈ TB := tb_5 99 rfl rfl
theorem l_L_56 : Cond.methodLink RL 56 yX11_size ∈ TB := tb_3 141 rfl rfl
theorem l_L_59 : Cond.methodLink RL 59 yX12_size ∈ TB := tb_5 103 rfl rfl
theorem l_L_60 : Cond.methodLink RL 60 yX11_at ∈ TB := tb_3 145 rfl rfl
theorem l_L_63 : Cond.methodLink RL 63 yX12_at ∈ TB := tb_5 107 rfl rfl
theorem l_L_64 : Cond.methodLink RL 64 yX11_alter ∈ TB := tb_3 153 rfl rfl
theorem l_L_67 : Cond.methodLink RL 67 yX12_alter ∈ TB := tb_5 111 rfl rfl
theorem l_L_68 : Cond.methodLink RL 68 yX11_add ∈ TB := tb_3 160 rfl rfl
theorem l_L_71 : Cond.methodLink RL 71 yX12_add ∈ TB := tb_5 116 rfl rfl
theorem l_L_72 : Cond.methodLink RL 72 yX11_cut ∈ TB := tb_3 164 rfl rfl
theorem l_L_75 : Cond.methodLink RL 75 yX12_cut ∈ TB := tb_5 120 rfl rfl
theorem l_L_76 : Cond.methodLink RL 76 yX11_open ∈ TB := tb_3 168 rfl rfl
theorem l_L_79 : Cond.methodLink RL 79 yX12_open ∈ TB := tb_5 124 rfl rfl
theorem l_L_80 : Cond.methodLink RL 80 yX11_shown ∈ TB := tb_4 6 rfl rfl
theorem l_L_83 : Cond.methodLink RL 83 yX12_shown ∈ TB := tb_5 172 rfl rfl
theorem l_L_84 : Cond.methodLink RL 84 yL_got ∈ TB := tb_4 19 rfl rfl
theorem l_L_89 : Cond.methodLink RL 89 yX12_got ∈ TB := tb_5 176 rfl rfl
theorem l_L_90 : Cond.methodLink RL 90 yX12_thrown ∈ TB := tb_4 103 rfl rfl
theorem l_L_93 : Cond.methodLink RL 93 yX11_take ∈ TB := tb_4 10 rfl rfl
theorem l_L_96 : Cond.methodLink RL 96 yX12_take ∈ TB := tb_5 180 rfl rfl
theorem l_L_97 : Cond.methodLink RL 97 yX11_frames ∈ TB := tb_4 15 rfl rfl
theorem l_L_100 : Cond.methodLink RL 100 yX12_frames ∈ TB := tb_5 184 rfl rfl
theorem l_X12_7 : Cond.methodLink RX12 7 objectInit ∈ TB := tb_4 112 rfl rfl
theorem l_X12_72 : Cond.methodLink RX12 72 yX12_in ∈ TB := tb_4 233 rfl rfl
theorem l_X12_78 : Cond.methodLink RX12 78 yX12_fits ∈ TB := tb_5 0 rfl rfl
theorem l_X12_107 : Cond.methodLink RX12 107 yX12_before ∈ TB := tb_5 43 rfl rfl
theorem l_X12_111 : Cond.methodLink RX12 111 yX12_fixed ∈ TB := tb_5 47 rfl rfl
theorem l_X12_123 : Cond.methodLink RX12 123 yX12_roomOf ∈ TB := tb_5 67 rfl rfl
theorem l_X12_129 : Cond.methodLink RX12 129 yX12_mayPart ∈ TB := tb_5 59 rfl rfl
theorem l_X12_133 : Cond.methodLink RX12 133 yX12_partBits ∈ TB := tb_5 63 rfl rfl
theorem l_X12_141 : Cond.methodLink RX12 141 yX12_orderOf ∈ TB := tb_5 35 rfl rfl
theorem l_X12_145 : Cond.methodLink RX12 145 yX12_foretold ∈ TB := tb_5 39 rfl rfl
theorem l_X12_152 : Cond.methodLink RX12 152 yX12_restBits ∈ TB := tb_5 55 rfl rfl
theorem l_X12_156 : Cond.methodLink RX12 156 yX12_bitsOf ∈ TB := tb_5 30 rfl rfl
theorem l_X12_159 : Cond.methodLink RX12 159 yX12_takeOut ∈ TB := tb_5 22 rfl rfl
theorem l_X12_166 : Cond.methodLink RX12 166 yX12_put ∈ TB := tb_5 71 rfl rfl
theorem l_X12_170 : Cond.methodLink RX12 170 yX12_putRests ∈ TB := tb_5 79 rfl rfl
theorem l_X12_174 : Cond.methodLink RX12 174 yX12_valuesOf ∈ TB := tb_5 18 rfl rfl
theorem l_X12_177 : Cond.methodLink RX12 177 yX12_bestKind ∈ TB := tb_5 26 rfl rfl
theorem l_X12_181 : Cond.methodLink RX12 181 yX12_putRow ∈ TB := tb_5 75 rfl rfl
theorem l_X12_188 : Cond.methodLink RX12 188 yX12_sumOf ∈ TB := tb_5 83 rfl rfl
theorem l_X12_208 : Cond.methodLink RX12 208 yX12_wrong ∈ TB := tb_5 140 rfl rfl
theorem l_X12_211 : Cond.methodLink RX12 211 yX12_bit ∈ TB := tb_5 136 rfl rfl
theorem l_X12_214 : Cond.methodLink RX12 214 yX12_number ∈ TB := tb_5 132 rfl rfl
theorem l_X12_217 : Cond.methodLink RX12 217 yX12_back ∈ TB := tb_5 160 rfl rfl
theorem l_X12_227 : Cond.methodLink RX12 227 yX12_signed ∈ TB := tb_5 148 rfl rfl
theorem l_X12_230 : Cond.methodLink RX12 230 yX12_readRests ∈ TB := tb_5 152 rfl rfl
theorem l_X12_234 : Cond.methodLink RX12 234 yX12_foreseen ∈ TB := tb_5 156 rfl rfl
theorem l_X12_238 : Cond.methodLink RX12 238 yX12_readRest ∈ TB := tb_5 164 rfl rfl
theorem l_X12_250 : Cond.methodLink RX12 250 yX12_readRow ∈ TB := tb_5 144 rfl rfl
theorem l_X12_253 : Cond.methodLink RX12 253 yX12_untwist ∈ TB := tb_5 168 rfl rfl
theorem l_X12_256 : Cond.methodLink RX12 256 yX12_openAt ∈ TB := tb_5 128 rfl rfl
theorem n_X11_24 : Cond.methodLinkNest RX11 24 yX1_init "SamplePacks" ∈ NL := nl_of 36 (by decide +kernel)
theorem n_X11_31 : Cond.methodLinkNest RX11 31 yX0_init "SamplePacks" ∈ NL := nl_of 62 (by decide +kernel)
theorem n_X11_47 : Cond.methodLinkNest RX11 47 yX5_init "SamplePacks" ∈ NL := nl_of 254 (by decide +kernel)
theorem n_X11_63 : Cond.methodLinkNest RX11 63 yX4_init "SamplePacks" ∈ NL := nl_of 321 (by decide +kernel)
theorem n_X0_41 : Cond.methodLinkNest RX0 41 yX11_signed "SamplePacks" ∈ NL := nl_of 683 (by decide +kernel)
theorem n_X0_45 : Cond.methodLinkNest RX0 45 yX11_unfold "SamplePacks" ∈ NL := nl_of 710 (by decide +kernel)
theorem n_X1_25 : Cond.methodLinkNest RX1 25 yX11_signed "SamplePacks" ∈ NL := nl_of 417 (by decide +kernel)
theorem n_X2_11 : Cond.methodLinkNest RX2 11 yX8_init "SamplePacks" ∈ NL := nl_of 92 (by decide +kernel)
theorem n_X2_50 : Cond.methodLinkNest RX2 50 yX11_bitsOfRow "SamplePacks" ∈ NL := nl_of 432 (by decide +kernel)
theorem n_X2_164 : Cond.methodLinkNest RX2 164 yX11_unfold "SamplePacks" ∈ NL := nl_of 573 (by decide +kernel)
theorem n_X3_53 : Cond.methodLinkNest RX3 53 yX11_bitsOfRow "SamplePacks" ∈ NL := nl_of 671 (by decide +kernel)
theorem n_X4_30 : Cond.methodLinkNest RX4 30 yX11_fits "SamplePacks" ∈ NL := nl_of 725 (by decide +kernel)
theorem n_X5_9 : Cond.methodLinkNest RX5 9 yX8_init "SamplePacks" ∈ NL := nl_of 259 (by decide +kernel)
theorem n_X6_41 : Cond.methodLinkNest RX6 41 yX11_mayBeP "SamplePacks" ∈ NL := nl_of 476 (by decide +kernel)
theorem n_X7_11 : Cond.methodLinkNest RX7 11 yX10_init "SamplePacks" ∈ NL := nl_of 142 (by decide +kernel)
theorem n_X7_20 : Cond.methodLinkNest RX7 20 yX1_init "SamplePacks" ∈ NL := nl_of 166 (by decide +kernel)
theorem n_X7_27 : Cond.methodLinkNest RX7 27 yX6_init "SamplePacks" ∈ NL := nl_of 169 (by decide +kernel)
theorem n_X7_34 : Cond.methodLinkNest RX7 34 yX8_init "SamplePacks" ∈ NL := nl_of 197 (by decide +kernel)
theorem n_X9_11 : Cond.methodLinkNest RX9 11 yX1_init "SamplePacks" ∈ NL := nl_of 298 (by decide +kernel)
theorem n_X9_59 : Cond.methodLinkNest RX9 59 yX11_mayBeP "SamplePacks" ∈ NL := nl_of 701 (by decide +kernel)
theorem n_X9_84 : Cond.methodLinkNest RX9 84 yX11_fits "SamplePacks" ∈ NL := nl_of 712 (by decide +kernel)
theorem n_X1_22 : Cond.fieldLinkNest RX1 22 "SamplePacks" "FIXED_COEFFICIENTS" "[I" "SamplePacks" ∈ NL := nl_of 470 (by decide +kernel)
theorem n_X2_68 : Cond.fieldLinkNest RX2 68 "SamplePacks" "FIRST_ROW" "[I" "SamplePacks" ∈ NL := nl_of 527 (by decide +kernel)
theorem n_X2_71 : Cond.fieldLinkNest RX2 71 "SamplePacks" "SECOND_ROW" "[I" "SamplePacks" ∈ NL := nl_of 529 (by decide +kernel)
theorem n_X3_44 : Cond.fieldLinkNest RX3 44 "SamplePacks" "FIRST_ROW" "[I" "SamplePacks" ∈ NL := nl_of 670 (by decide +kernel)
theorem n_X3_71 : Cond.fieldLinkNest RX3 71 "SamplePacks" "SECOND_ROW" "[I" "SamplePacks" ∈ NL := nl_of 713 (by decide +kernel)
theorem n_X5_42 : Cond.fieldLinkNest RX5 42 "SamplePacks" "FIRST_ROW" "[I" "SamplePacks" ∈ NL := nl_of 597 (by decide +kernel)
theorem n_X5_52 : Cond.fieldLinkNest RX5 52 "SamplePacks" "SECOND_ROW" "[I" "SamplePacks" ∈ NL := nl_of 599 (by decide +kernel)
theorem q_X6_58 : Cond.constant RX6 58 (16777216 : Int32) ∈ TB := tb_3 13 rfl rfl
theorem q_J6_264 : Cond.constant RJ6 264 (65536 : Int32) ∈ TB := tb_2 206 rfl rfl
theorem q_X6_90 : Cond.constantLong RX6 90 (-1 : Int64) ∈ TB := tb_3 29 rfl rfl
theorem q_X6_92 : Cond.constantLong RX6 92 (4 : Int64) ∈ TB := tb_3 30 rfl rfl
theorem q_L_32 : Cond.constantLong RL 32 (4294967295 : Int64) ∈ TB := tb_5 188 rfl rfl
theorem q_X12_76 : Cond.constantLong RX12 76 (16 : Int64) ∈ TB := tb_4 232 rfl rfl
theorem q_X12_82 : Cond.constantLong RX12 82 (4 : Int64) ∈ TB := tb_5 11 rfl rfl
theorem q_X12_84 : Cond.constantLong RX12 84 (15 : Int64) ∈ TB := tb_5 12 rfl rfl
theorem q_X12_101 : Cond.constantLong RX12 101 (2 : Int64) ∈ TB := tb_5 50 rfl rfl
theorem q_X12_103 : Cond.constantLong RX12 103 (3 : Int64) ∈ TB := tb_5 51 rfl rfl
theorem q_X12_105 : Cond.constantLong RX12 105 (6 : Int64) ∈ TB := tb_5 52 rfl rfl
theorem q_X12_115 : Cond.constantLong RX12 115 (1000000000 : Int64) ∈ TB := tb_5 17 rfl rfl
theorem q_X12_127 : Cond.constantLong RX12 127 (9 : Int64) ∈ TB := tb_5 70 rfl rfl
theorem q_X12_139 : Cond.constantLong RX12 139 (7 : Int64) ∈ TB := tb_5 34 rfl rfl
theorem q_X12_148 : Cond.constantLong RX12 148 (-2 : Int64) ∈ TB := tb_5 53 rfl rfl
theorem q_X12_150 : Cond.constantLong RX12 150 (16777216 : Int64) ∈ TB := tb_5 54 rfl rfl
theorem q_X12_192 : Cond.constantLong RX12 192 (10 : Int64) ∈ TB := tb_5 95 rfl rfl
theorem q_X12_194 : Cond.constantLong RX12 194 (25 : Int64) ∈ TB := tb_5 96 rfl rfl
theorem q_X12_196 : Cond.constantLong RX12 196 (30 : Int64) ∈ TB := tb_5 97 rfl rfl
theorem q_X12_198 : Cond.constantLong RX12 198 (45 : Int64) ∈ TB := tb_5 98 rfl rfl
theorem q_X12_200 : Cond.constantLong RX12 200 (255 : Int64) ∈ TB := tb_5 115 rfl rfl
theorem ac_native : Cond.native arraycopyName ∈ TB := tb_3 33 rfl rfl
theorem ac_static : Cond.static arraycopyName ∈ TB := tb_3 32 rfl rfl
theorem ac_init : Cond.initialized "java/lang/System" ∈ TB := tb_1 17 rfl rfl
theorem mi_static : Cond.static Lib.Math.min.name ∈ TB := tb_2 208 rfl rfl
theorem mi_init : Cond.initialized "java/lang/Math" ∈ TB := tb_1 15 rfl rfl
theorem mi_code : Cond.code Lib.Math.min.name Lib.Math.min.code 2 (some .int) ∈ TB := tb_2 209 rfl rfl
end
section
/-! more rows, and how objects are written -/
def b2i (P : Prop) [Decidable P] : Int := if P then 1 else 0
theorem b2i_t {P : Prop} [Decidable P] (h : P) : b2i P = 1 := if_pos h
theorem b2i_f {P : Prop} [Decidable P] (h : ¬ P) : b2i P = 0 := if_neg h
theorem lsh64 (k : Nat) (hk : k < 64) : (((iI (k : Int)).toInt64 &&& 63).toBitVec.smod 64).toNat = k := by
  rw [iI_nat]
  have h : ∀ n, n < 64 → (((nI n).toInt64 &&& 63).toBitVec.smod 64).toNat = n := by decide +kernel
  exact h k hk
theorem lI_shl {a k : Int} (h0 : 0 ≤ k) (h1 : k < 64) : lI a <<< ((iI k).toInt64 &&& 63) = lI (a * 2 ^ k.toNat) := by
  obtain ⟨n, rfl⟩ := Int.eq_ofNat_of_zero_le h0
  apply Int64.toBitVec_inj.mp
  apply BitVec.eq_of_toNat_eq
  show ((lI a).toBitVec <<< (((iI (n : Int)).toInt64 &&& 63).toBitVec.smod 64).toNat).toNat = _
  rw [lsh64 n (by omega), BitVec.toNat_shiftLeft, Nat.shiftLeft_eq, lI_toBv, lI_toBv, BitVec.toNat_ofInt, BitVec.toNat_ofInt, Int.toNat_natCast]
  have hM0 : ((2 ^ 64 : Nat) : Int) ≠ 0 := by decide
  generalize (2 ^ 64 : Nat) = M at hM0 ⊢
  apply Int.ofNat.inj
  show (((a % (M : Int)).toNat * 2 ^ n % M : Nat) : Int) = ((a * 2 ^ n % (M : Int)).toNat : Int)
  rw [Int.toNat_of_nonneg (Int.emod_nonneg _ hM0), Int.natCast_emod, Int.natCast_mul, Int.toNat_of_nonneg (Int.emod_nonneg _ hM0), Int.natCast_pow]
  rw [Int.mul_emod, Int.emod_emod_of_dvd _ (Int.dvd_refl _), ← Int.mul_emod]
  rfl
theorem ediv_in {a M : Int} (n : Nat) (hM : 0 ≤ M) (h1 : -M ≤ a) (h2 : a < M) : -M ≤ a / 2 ^ n ∧ a / 2 ^ n < M := by
  have h3 : (0 : Int) < 2 ^ n := zpow_pos n
  have h4 : (1 : Int) ≤ 2 ^ n := by omega
  have h5 := Int.mul_le_mul_of_nonneg_left h4 hM
  constructor
  · rw [Int.le_ediv_iff_mul_le h3, Int.neg_mul]
    omega
  · rw [Int.ediv_lt_iff_lt_mul h3]
    omega
theorem lI_shr {a k : Int} (ha : inL a) (h0 : 0 ≤ k) (h1 : k < 64) : lI a >>> ((iI k).toInt64 &&& 63) = lI (a / 2 ^ k.toNat) := by
  obtain ⟨n, rfl⟩ := Int.eq_ofNat_of_zero_le h0
  apply Int64.toInt_inj.mp
  show ((lI a).toBitVec.sshiftRight (((iI (n : Int)).toInt64 &&& 63).toBitVec.smod 64).toNat).toInt = _
  rw [lsh64 n (by omega), BitVec.toInt_sshiftRight]
  show (lI a).toInt >>> n = _
  rw [lI_toInt ha, Int.shiftRight_eq_div_pow, lI_toInt]
  · rfl
  · have := ediv_in (a := a) n (M := 9223372036854775808) (by decide) ha.1 ha.2
    simpa using this
theorem iI_ushr {a k : Int} (ha : 0 ≤ a ∧ a < 2147483648) (h0 : 0 ≤ k) (h1 : k < 32) : ((iI a).toUInt32 >>> ((iI k).toUInt32 &&& Int32.toUInt32 31)).toInt32 = iI (a / 2 ^ k.toNat) := by
  obtain ⟨n, rfl⟩ := Int.eq_ofNat_of_zero_le h0
  obtain ⟨b, rfl⟩ := Int.eq_ofNat_of_zero_le ha.1
  rw [iI_nat b, pk_ushrN (by omega) _ n (shu32 n (by omega)), ← iI_nat]
  simp
theorem iI_div {a b : Int} (h : 0 ≤ a ∧ a < 2147483648 ∧ 0 < b ∧ b < 2147483648) : iI a / iI b = iI (a / b) := by
  obtain ⟨n, rfl⟩ := Int.eq_ofNat_of_zero_le h.1
  obtain ⟨k, rfl⟩ := Int.eq_ofNat_of_zero_le (show 0 ≤ b by omega)
  rw [iI_nat, iI_nat, pk_div (by omega) (by omega) (by omega), ← iI_nat]
  simp
theorem iI_rem {a b : Int} (h : 0 ≤ a ∧ a < 2147483648 ∧ 0 < b ∧ b < 2147483648) : iI a - iI a / iI b * iI b = iI (a % b) := by
  rw [iI_div h, iI_mul, iI_sub]
  congr 1
  have := Int.mul_ediv_add_emod a b
  have e : a / b * b = b * (a / b) := Int.mul_comm _ _
  omega
theorem iI_ne0 {b : Int} (h : 0 < b ∧ b < 2147483648) : ¬ iI b = 0 := fun q => absurd ((iI_eq (b := 0) (by omega) (by decide)).mp q) (by omega)
section JRows2
variable {x : XX} {cc : ByteArray} {own : String} {fr lo mc ms nL ck sk pc : Nat} {lv : List (Nat × Value)} {st : List Value} {ws : va_W}
theorem j_lshl (B : JB x cc own fr lo mc ms nL) {a b : Int} (d : decode cc pc = .ok (.lshl, 1)) (h : 0 ≤ b ∧ b < 64) (k : JW x ck sk (pc + 1) lv (.long (lI (a * 2 ^ b.toNat)) :: st) ws) : JW x ck sk pc lv (.int (iI b) :: .long (lI a) :: st) ws := fun H locs ls hP hD hS hl => lv_lshl B.1 B.2.1 d (lI_shl h.1 h.2) (k H locs ls hP hD hS hl)
theorem j_lshr (B : JB x cc own fr lo mc ms nL) {a b : Int} (d : decode cc pc = .ok (.lshr, 1)) (ha : inL a) (h : 0 ≤ b ∧ b < 64) (k : JW x ck sk (pc + 1) lv (.long (lI (a / 2 ^ b.toNat)) :: st) ws) : JW x ck sk pc lv (.int (iI b) :: .long (lI a) :: st) ws := fun H locs ls hP hD hS hl => lv_lshr B.1 B.2.1 d (lI_shr ha h.1 h.2) (k H locs ls hP hD hS hl)
theorem j_iushr (B : JB x cc own fr lo mc ms nL) {a b : Int} (d : decode cc pc = .ok (.iushr, 1)) (ha : 0 ≤ a ∧ a < 2147483648) (h : 0 ≤ b ∧ b < 32) (k : JW x ck sk (pc + 1) lv (.int (iI (a / 2 ^ b.toNat)) :: st) ws) : JW x ck sk pc lv (.int (iI b) :: .int (iI a) :: st) ws := fun H locs ls hP hD hS hl => lv_iushr B.1 B.2.1 d (iI_ushr ha h.1 h.2) (k H locs ls hP hD hS hl)
theorem j_idiv (B : JB x cc own fr lo mc ms nL) {a b : Int} (d : decode cc pc = .ok (.idiv, 1)) (h : 0 ≤ a ∧ a < 2147483648 ∧ 0 < b ∧ b < 2147483648) (k : JW x ck sk (pc + 1) lv (.int (iI (a / b)) :: st) ws) : JW x ck sk pc lv (.int (iI b) :: .int (iI a) :: st) ws := fun H locs ls hP hD hS hl => lv_idiv B.1 B.2.1 d (iI_ne0 h.2.2) (by rw [iI_div h]; exact k H locs ls hP hD hS hl)
theorem j_irem (B : JB x cc own fr lo mc ms nL) {a b : Int} (d : decode cc pc = .ok (.irem, 1)) (h : 0 ≤ a ∧ a < 2147483648 ∧ 0 < b ∧ b < 2147483648) (k : JW x ck sk (pc + 1) lv (.int (iI (a % b)) :: st) ws) : JW x ck sk pc lv (.int (iI b) :: .int (iI a) :: st) ws := fun H locs ls hP hD hS hl => lv_irem B.1 B.2.1 d (iI_ne0 h.2.2) (by rw [iI_rem h]; exact k H locs ls hP hD hS hl)
theorem j_ifb_eq (B : JB x cc own fr lo mc ms nL) {p : Prop} [Decidable p] {off : Int} {tgt : Nat} (d : decode cc pc = .ok (.ifCond .eq off, 3)) (ht : (pc : Int) + off = (tgt : Int)) (kt : ¬ p → JW x ck sk tgt lv st ws) (kf : p → JW x ck sk (pc + 3) lv st ws) : JW x ck sk pc lv (.int (iI (b2i p)) :: st) ws := by
  by_cases h : p
  · rw [b2i_t h]
    exact j_if_eq B d ht (by decide) (fun q => absurd q (by decide)) (fun _ => kf h)
  · rw [b2i_f h]
    exact j_if_eq B d ht (by decide) (fun _ => kt h) (fun q => absurd rfl q)
theorem j_ifb_ne (B : JB x cc own fr lo mc ms nL) {p : Prop} [Decidable p] {off : Int} {tgt : Nat} (d : decode cc pc = .ok (.ifCond .ne off, 3)) (ht : (pc : Int) + off = (tgt : Int)) (kt : p → JW x ck sk tgt lv st ws) (kf : ¬ p → JW x ck sk (pc + 3) lv st ws) : JW x ck sk pc lv (.int (iI (b2i p)) :: st) ws := by
  by_cases h : p
  · rw [b2i_t h]
    exact j_if_ne B d ht (by decide) (fun _ => kt h) (fun q => absurd q (by decide))
  · rw [b2i_f h]
    exact j_if_ne B d ht (by decide) (fun q => absurd rfl q) (fun _ => kf h)
theorem j_tswIn (B : JB x cc own fr lo mc ms nL) {a dflt l0 h0 off : Int} {offs : Array Int} {len tgt : Nat} (d : decode cc pc = .ok (.tableswitch dflt l0 h0 offs, len)) (h1 : ¬ (iI a).toInt < l0) (h2 : ¬ h0 < (iI a).toInt) (ho : offs[((iI a).toInt - l0).toNat]? = some off) (ht : (pc : Int) + off = (tgt : Int)) (k : JW x ck sk tgt lv st ws) : JW x ck sk pc lv (.int (iI a) :: st) ws := fun H locs ls hP hD hS hl => lv_tableIn B.1 B.2.1 d h1 h2 ho ht (k H locs ls hP hD hS hl)
theorem j_tswOut (B : JB x cc own fr lo mc ms nL) {a dflt l0 h0 : Int} {offs : Array Int} {len tgt : Nat} (d : decode cc pc = .ok (.tableswitch dflt l0 h0 offs, len)) (h1 : (iI a).toInt < l0 ∨ h0 < (iI a).toInt) (ht : (pc : Int) + dflt = (tgt : Int)) (k : JW x ck sk tgt lv st ws) : JW x ck sk pc lv (.int (iI a) :: st) ws := fun H locs ls hP hD hS hl => lv_tableOut B.1 B.2.1 d h1 ht (k H locs ls hP hD hS hl)
theorem j_topc {a : Int} (b : Int) (h : iI a = iI b) (k : JW x ck sk pc lv (.int (iI b) :: st) ws) : JW x ck sk pc lv (.int (iI a) :: st) ws := by rw [h]; exact k
end JRows2
abbrev oX0 (a0 : Nat) (a1 : Int) (a2 : Int) (a3 : Int) : va_E := .inr (2, [.ref a0, .int (iI a1), .int (iI a2), .int (iI a3)])
abbrev oX1 (a0 : Nat) (a1 : Int) (a2 : Int) : va_E := .inr (3, [.ref a0, .int (iI a1), .int (iI a2)])
abbrev oX2 (a0 : Nat) (a1 : Nat) (a2 : Int) (a3 : Int) (a4 : Int) (a5 : Int) (a6 : Nat) (a7 : Nat) (a8 : Int) : va_E := .inr (4, [.ref a0, .ref a1, .int (iI a2), .int (iI a3), .int (iI a4), .int (iI a5), .ref a6, .ref a7, .int (iI a8)])
abbrev oX3 (a0 : Nat) (a1 : Nat) : va_E := .inr (5, [.ref a0, .ref a1])
abbrev oX4 (a0 : Nat) (a1 : Nat) (a2 : Int) (a3 : Int) (a4 : Int) (a5 : Int) (a6 : Int) : va_E := .inr (6, [.ref a0, .ref a1, .int (iI a2), .int (iI a3), .int (iI a4), .int (iI a5), .int (iI a6)])
abbrev oX5 (a0 : Nat) (a1 : Nat) (a2 : Int) (a3 : Int) (a4 : Int) (a5 : Int) : va_E := .inr (7, [.ref a0, .ref a1, .int (iI a2), .int (iI a3), .int (iI a4), .int (iI a5)])
abbrev oX6 (a0 : Nat) (a1 : Nat) (a2 : Nat) (a3 : Nat) (a4 : Int) (a5 : Int) (a6 : Int) : va_E := .inr (8, [.ref a0, .ref a1, .ref a2, .ref a3, .int (iI a4), .int (iI a5), .int (iI a6)])
abbrev oX7 (a0 : Nat) (a1 : Nat) (a2 : Nat) (a3 : Nat) (a4 : Nat) : va_E := .inr (9, [.ref a0, .ref a1, .ref a2, .ref a3, .ref a4])
abbrev oX8 (a0 : Nat) (a1 : Nat) (a2 : Int) (a3 : Int) (a4 : Int) (a5 : Int) : va_E := .inr (10, [.ref a0, .ref a1, .int (iI a2), .int (iI a3), .int (iI a4), .int (iI a5)])
abbrev oX9 (a0 : Nat) (a1 : Nat) (a2 : Int) (a3 : Int) : va_E := .inr (11, [.ref a0, .ref a1, .int (iI a2), .int (iI a3)])
abbrev oX10 (a0 : Nat) (a1 : Int) (a2 : Int) (a3 : Int) : va_E := .inr (12, [.ref a0, .int (iI a1), .int (iI a2), .int (iI a3)])
abbrev oX11 (a0 : Nat) (a1 : Nat) (a2 : Int) (a3 : Nat) (a4 : Nat) (a5 : Nat) (a6 : Nat) (a7 : Nat) (a8 : Nat) (a9 : Nat) : va_E := .inr (13, [.ref a0, .ref a1, .int (iI a2), .ref a3, .ref a4, .ref a5, .ref a6, .ref a7, .ref a8, .ref a9])
abbrev oX12 (a0 : Int) (a1 : Int) (a2 : Nat) (a3 : Nat) (a4 : Nat) (a5 : Int) (a6 : Int) (a7 : Int) (a8 : Nat) (a9 : Int) (a10 : Nat) (a11 : Nat) (a12 : Nat) (a13 : Nat) (a14 : Int) (a15 : Nat) (a16 : Nat) (a17 : Nat) (a18 : Int) (a19 : Int) (a20 : Int) (a21 : Nat) (a22 : Nat) (a23 : Int) (a24 : Int) (a25 : Int) (a26 : Nat) (a27 : Int) (a28 : Int) (a29 : Int) (a30 : Int) (a31 : Int) (a32 : Int) (a33 : Int) (a34 : Nat) (a35 : Nat) (a36 : Nat) (a37 : Int) : va_E := .inr (14, [.int (iI a0), .int (iI a1), .ref a2, .ref a3, .ref a4, .int (iI a5), .int (iI a6), .int (iI a7), .ref a8, .int (iI a9), .ref a10, .ref a11, .ref a12, .ref a13, .int (iI a14), .ref a15, .ref a16, .ref a17, .int (iI a18), .int (iI a19), .int (iI a20), .ref a21, .ref a22, .int (iI a23), .int (iI a24), .int (iI a25), .ref a26, .int (iI a27), .int (iI a28), .int (iI a29), .int (iI a30), .int (iI a31), .int (iI a32), .int (iI a33), .ref a34, .ref a35, .ref a36, .int (iI a37)])
end
section
/-! ===== pure words of the bit stream ===== -/
theorem vb1 {p : Prop} [Decidable p] (h : p) : some (Value.int (iI 1)) = some (Value.int (iI (b2i p))) := by rw [b2i_t h]
theorem vb0 {p : Prop} [Decidable p] (h : ¬ p) : some (Value.int (iI 0)) = some (Value.int (iI (b2i p))) := by rw [b2i_f h]
def isBytes (B : Int → Int) : Prop := ∀ j, 0 ≤ j → j < 2400 → 0 ≤ B j ∧ B j < 256
def fltIf (wr fa which : Int) : Int := if wr ≠ 0 ∧ fa = 0 then which else fa
/-- bit q of the bytes B -/
def bitAt (B : Int → Int) (q : Int) : Int := B (q / 8) / 2 ^ (7 - q % 8).toNat % 2
/-- k bits from q on, as a number -/
def num (B : Int → Int) (q : Int) : Nat → Int
  | 0 => 0
  | k + 1 => 2 * num B q k + bitAt B (q + k)
theorem bitAt_01 (B : Int → Int) (q : Int) : 0 ≤ bitAt B q ∧ bitAt B q < 2 := by unfold bitAt; omega
theorem num_in (B : Int → Int) (q : Int) (k : Nat) : 0 ≤ num B q k ∧ num B q k < 2 ^ k := by
  induction k with
  | zero => exact ⟨Int.le_refl _, show (0 : Int) < 1 by decide⟩
  | succ k ih =>
    have h := bitAt_01 B (q + k)
    have e : (2 : Int) ^ (k + 1) = 2 * 2 ^ k := by rw [Int.pow_succ, Int.mul_comm]
    rw [e]
    unfold num
    omega
theorem zAnd_7 (a : Int) : zAnd a 7 = a % 8 := zAnd_mask 3 (by decide) (by decide)
theorem zAnd_1 (a : Int) : zAnd a 1 = a % 2 := zAnd_mask 1 (by decide) (by decide)
theorem p3 (a : Int) : a / 2 ^ (3 : Int).toNat = a / 8 := by rfl
/-- read(bits): what comes, and the place and fault behind it -/
def rdOk (len fa pos bits : Int) : Prop := fa = 0 ∧ pos + bits ≤ 8 * len
theorem ediv8 {p n : Int} (h0 : 0 ≤ p) (h1 : p < 8 * n) : 0 ≤ p / 8 ∧ p / 8 < n := by omega
/-! room in bits, two's complement -/
abbrev fit (v b : Int) : Prop := -(2 : Int) ^ (b - 1).toNat ≤ v ∧ v < 2 ^ (b - 1).toNat
theorem e30 : (2 : Int) ^ 30 = 1073741824 := by decide
theorem e31 : (2 : Int) ^ 31 = 2147483648 := by decide
theorem pw_le {k : Int} (n : Nat) (h : k ≤ n) : (2 : Int) ^ k.toNat ≤ 2 ^ n := zpow_le (by omega)
theorem pw_30 {k : Int} (h : k ≤ 30) : (2 : Int) ^ k.toNat ≤ 1073741824 := by have := pw_le 30 h; rw [e30] at this; exact this
theorem pw_pos (k : Int) : (0 : Int) < 2 ^ k.toNat := zpow_pos _
theorem iI_cong {a b k : Int} (h : a = b + k * 4294967296) : iI a = iI b := by
  apply Int32.toBitVec_inj.mp
  rw [iI_toBv, iI_toBv]
  apply BitVec.eq_of_toInt_eq
  rw [BitVec.toInt_ofInt, BitVec.toInt_ofInt, h]
  have e : (b + k * 4294967296) % 4294967296 = b % 4294967296 := by omega
  show (b + k * 4294967296).bmod 4294967296 = b.bmod 4294967296
  unfold Int.bmod
  show (let r := (b + k * 4294967296) % 4294967296; if r < (4294967296 + 1) / 2 then r else r - 4294967296) = (let r := b % 4294967296; if r < (4294967296 + 1) / 2 then r else r - 4294967296)
  rw [e]
/-- the b lowest bits of v, read as two's complement -/
def sgn (v b : Int) : Int := if v % 2 ^ b.toNat < 2 ^ (b - 1).toNat then v % 2 ^ b.toNat else v % 2 ^ b.toNat - 2 ^ b.toNat
theorem pw_succ {b : Int} (h : 1 ≤ b) : (2 : Int) ^ b.toNat = 2 * 2 ^ (b - 1).toNat := by
  have e : b.toNat = (b - 1).toNat + 1 := by omega
  rw [e, Int.pow_succ, Int.mul_comm]
theorem sgn_fit {v b : Int} (h : 1 ≤ b) : fit (sgn v b) b := by
  have h1 := pw_succ h
  have h2 := pw_pos (b - 1)
  have h3 := Int.emod_nonneg v (show (2 : Int) ^ b.toNat ≠ 0 by omega)
  have h4 := Int.emod_lt_of_pos v (show (0 : Int) < 2 ^ b.toNat by omega)
  unfold sgn
  split <;> constructor <;> omega
theorem sgn_cong (v b : Int) : ∃ k, v = sgn v b + k * 2 ^ b.toNat := by
  have h := Int.mul_ediv_add_emod v (2 ^ b.toNat)
  have e1 : v / 2 ^ b.toNat * 2 ^ b.toNat = 2 ^ b.toNat * (v / 2 ^ b.toNat) := Int.mul_comm _ _
  unfold sgn
  split
  · exact ⟨v / 2 ^ b.toNat, by omega⟩
  · refine ⟨v / 2 ^ b.toNat + 1, ?_⟩
    rw [Int.add_mul, Int.one_mul]
    omega
theorem sgn_shl {v b : Int} (h : 1 ≤ b) (h2 : b ≤ 32) : iI (v * 2 ^ (32 - b).toNat) = iI (sgn v b * 2 ^ (32 - b).toNat) := by
  obtain ⟨k, hk⟩ := sgn_cong v b
  have e : (2 : Int) ^ b.toNat * 2 ^ (32 - b).toNat = 4294967296 := by
    rw [← Int.pow_add, show b.toNat + (32 - b).toNat = 32 by omega]
    decide
  refine iI_cong (k := k) ?_
  have : v * 2 ^ (32 - b).toNat = (sgn v b + k * 2 ^ b.toNat) * 2 ^ (32 - b).toNat := by rw [← hk]
  rw [this, Int.add_mul, Int.mul_assoc k, e]
theorem sgn_sh_in {v b : Int} (h : 1 ≤ b) (h2 : b ≤ 32) : inR (sgn v b * 2 ^ (32 - b).toNat) := by
  have hf := sgn_fit (v := v) h
  have e : (2 : Int) ^ (b - 1).toNat * 2 ^ (32 - b).toNat = 2147483648 := by
    rw [← Int.pow_add, show (b - 1).toNat + (32 - b).toNat = 31 by omega]
    decide
  have hp := pw_pos (32 - b)
  have h3 := Int.mul_le_mul_of_nonneg_right hf.1 (Int.le_of_lt hp)
  have h4 := Int.mul_lt_mul_of_pos_right hf.2 hp
  rw [Int.neg_mul] at h3
  omega
theorem sgn_shr {v b : Int} : sgn v b * 2 ^ (32 - b).toNat / 2 ^ (32 - b).toNat = sgn v b := Int.mul_ediv_cancel _ (by have := pw_pos (32 - b); omega)
def unf (u : Int) : Int := if u % 2 = 0 then u / 2 else -(u / 2) - 1
def fld (e : Int) : Int := if e < 0 then -2 * e - 1 else 2 * e
theorem unf_fld (e : Int) : unf (fld e) = e := by
  unfold unf fld
  split <;> split <;> omega
theorem p1 (a : Int) : a / 2 ^ (1 : Int).toNat = a / 2 := by rfl
end
section
set_option maxHeartbeats 4000000 in
set_option maxRecDepth 100000 in
theorem C_X11_isChannel (l : Launch) (g : GG) (ch : Int) (h : inR ch) : Ctr l g yX11_isChannel cX11_isChannel 1 (some .boolean) 0 0 0 0 [.int (iI ch)] [] (fun vv ww => vv = some (.int (iI (b2i (0 ≤ ch ∧ ch < 2)))) ∧ ww = []) := by
  refine Ctr.of [(0, .int (iI ch))] (by decide) (Nat.le_of_ble_eq_true rfl) rfl ?_
  intro x hxl hxg jb jr hin
  subst hxl; subst hxg
  refine j_iload_n jb dX11_isChannel_0 0 rfl ?_
  refine j_if_lt (tgt := 13) jb dX11_isChannel_1 (by decide) (by omega) (fun c_1 => ?_) (fun c_1 => ?_)
  · skip
    refine j_iconst jb dX11_isChannel_13 ?_
    refine j_norm (lv' := []) (st' := [.int (iI 0)]) (ws' := []) [] [] rfl rfl (by decide) rfl ?_
    exact j_zret jb jr dX11_isChannel_14 rfl ⟨(vb0 (by omega)), rfl⟩
  · skip
    refine j_iload_n jb dX11_isChannel_4 0 rfl ?_
    refine j_iconst jb dX11_isChannel_5 ?_
    refine j_icmp_ge (tgt := 13) jb dX11_isChannel_6 (by decide) (by omega) (by omega) (fun c_6 => ?_) (fun c_6 => ?_)
    · skip
      refine j_iconst jb dX11_isChannel_13 ?_
      refine j_norm (lv' := []) (st' := [.int (iI 0)]) (ws' := []) [] [] rfl rfl (by decide) rfl ?_
      exact j_zret jb jr dX11_isChannel_14 rfl ⟨(vb0 (by omega)), rfl⟩
    · skip
      refine j_iconst jb dX11_isChannel_9 ?_
      refine j_goto (tgt := 14) jb dX11_isChannel_10 (by decide) ?_
      refine j_norm (lv' := []) (st' := [.int (iI 1)]) (ws' := []) [] [] rfl rfl (by decide) rfl ?_
      exact j_zret jb jr dX11_isChannel_14 rfl ⟨(vb1 (by omega)), rfl⟩

set_option maxHeartbeats 4000000 in
set_option maxRecDepth 100000 in
theorem C_X11_isByte (l : Launch) (g : GG) (b : Int) (h : inR b) : Ctr l g yX11_isByte cX11_isByte 1 (some .boolean) 0 0 0 0 [.int (iI b)] [] (fun vv ww => vv = some (.int (iI (b2i (0 ≤ b ∧ b ≤ 255)))) ∧ ww = []) := by
  refine Ctr.of [(0, .int (iI b))] (by decide) (Nat.le_of_ble_eq_true rfl) rfl ?_
  intro x hxl hxg jb jr hin
  subst hxl; subst hxg
  refine j_iload_n jb dX11_isByte_0 0 rfl ?_
  refine j_if_lt (tgt := 15) jb dX11_isByte_1 (by decide) (by omega) (fun c_1 => ?_) (fun c_1 => ?_)
  · skip
    refine j_iconst jb dX11_isByte_15 ?_
    refine j_norm (lv' := []) (st' := [.int (iI 0)]) (ws' := []) [] [] rfl rfl (by decide) rfl ?_
    exact j_zret jb jr dX11_isByte_16 rfl ⟨(vb0 (by omega)), rfl⟩
  · skip
    refine j_iload_n jb dX11_isByte_4 0 rfl ?_
    refine j_sipush jb dX11_isByte_5 (by decide) ?_
    refine j_icmp_gt (tgt := 15) jb dX11_isByte_8 (by decide) (by omega) (by omega) (fun c_8 => ?_) (fun c_8 => ?_)
    · skip
      refine j_iconst jb dX11_isByte_15 ?_
      refine j_norm (lv' := []) (st' := [.int (iI 0)]) (ws' := []) [] [] rfl rfl (by decide) rfl ?_
      exact j_zret jb jr dX11_isByte_16 rfl ⟨(vb0 (by omega)), rfl⟩
    · skip
      refine j_iconst jb dX11_isByte_11 ?_
      refine j_goto (tgt := 16) jb dX11_isByte_12 (by decide) ?_
      refine j_norm (lv' := []) (st' := [.int (iI 1)]) (ws' := []) [] [] rfl rfl (by decide) rfl ?_
      exact j_zret jb jr dX11_isByte_16 rfl ⟨(vb1 (by omega)), rfl⟩

set_option maxHeartbeats 4000000 in
set_option maxRecDepth 100000 in
theorem C_X11_isPartOf (l : Launch) (g : GG) (fs wh : Int) (h : inR wh) (h2 : 0 ≤ fs ∧ fs ≤ 100) : Ctr l g yX11_isPartOf cX11_isPartOf 2 (some .boolean) 0 0 0 0 [.int (iI fs), .int (iI wh)] [] (fun vv ww => vv = some (.int (iI (b2i (fs ≤ wh ∧ wh < fs + 16)))) ∧ ww = []) := by
  refine Ctr.of [(0, .int (iI fs)), (1, .int (iI wh))] (by decide) (Nat.le_of_ble_eq_true rfl) rfl ?_
  intro x hxl hxg jb jr hin
  subst hxl; subst hxg
  refine j_iload_n jb dX11_isPartOf_0 1 rfl ?_
  refine j_iload_n jb dX11_isPartOf_1 0 rfl ?_
  refine j_icmp_lt (tgt := 17) jb dX11_isPartOf_2 (by decide) (by omega) (by omega) (fun c_2 => ?_) (fun c_2 => ?_)
  · skip
    refine j_iconst jb dX11_isPartOf_17 ?_
    refine j_norm (lv' := []) (st' := [.int (iI 0)]) (ws' := []) [] [] rfl rfl (by decide) rfl ?_
    exact j_zret jb jr dX11_isPartOf_18 rfl ⟨(vb0 (by omega)), rfl⟩
  · skip
    refine j_iload_n jb dX11_isPartOf_5 1 rfl ?_
    refine j_iload_n jb dX11_isPartOf_6 0 rfl ?_
    refine j_bipush jb dX11_isPartOf_7 (by decide) ?_
    refine j_iadd jb dX11_isPartOf_9 ?_
    refine j_icmp_ge (tgt := 17) jb dX11_isPartOf_10 (by decide) (by omega) (by omega) (fun c_10 => ?_) (fun c_10 => ?_)
    · skip
      refine j_iconst jb dX11_isPartOf_17 ?_
      refine j_norm (lv' := []) (st' := [.int (iI 0)]) (ws' := []) [] [] rfl rfl (by decide) rfl ?_
      exact j_zret jb jr dX11_isPartOf_18 rfl ⟨(vb0 (by omega)), rfl⟩
    · skip
      refine j_iconst jb dX11_isPartOf_13 ?_
      refine j_goto (tgt := 18) jb dX11_isPartOf_14 (by decide) ?_
      refine j_norm (lv' := []) (st' := [.int (iI 1)]) (ws' := []) [] [] rfl rfl (by decide) rfl ?_
      exact j_zret jb jr dX11_isPartOf_18 rfl ⟨(vb1 (by omega)), rfl⟩

set_option maxHeartbeats 4000000 in
set_option maxRecDepth 100000 in
theorem C_X11_fits (l : Launch) (g : GG) (v b : Int) (h : inR v) (h2 : 1 ≤ b ∧ b ≤ 31) : Ctr l g yX11_fits cX11_fits 3 (some .boolean) 0 0 0 0 [.int (iI v), .int (iI b)] [] (fun vv ww => vv = some (.int (iI (b2i (fit v b)))) ∧ ww = []) := by
  refine Ctr.of [(0, .int (iI v)), (1, .int (iI b))] (by decide) (Nat.le_of_ble_eq_true rfl) rfl ?_
  intro x hxl hxg jb jr hin
  subst hxl; subst hxg
  have q1 := pw_30 (k := b - 1) (by omega)
  have q2 := pw_pos (b - 1)
  refine j_iconst jb dX11_fits_0 ?_
  refine j_iload_n jb dX11_fits_1 1 rfl ?_
  refine j_iconst jb dX11_fits_2 ?_
  refine j_isub jb dX11_fits_3 ?_
  refine j_ishl jb dX11_fits_4 (by omega) ?_
  refine j_istore_n (lv' := [(2, .int (iI (1 * 2 ^ (b - 1).toNat))), (0, .int (iI v)), (1, .int (iI b))]) jb dX11_fits_5 rfl (by decide) rfl ?_
  refine j_iload_n jb dX11_fits_6 1 rfl ?_
  refine j_iload_n jb dX11_fits_7 0 rfl ?_
  refine j_ineg jb dX11_fits_8 ?_
  refine j_icmp_lt (tgt := 21) jb dX11_fits_9 (by decide) (by omega) (by omega) (fun c_9 => ?_) (fun c_9 => ?_)
  · skip
    refine j_iconst jb dX11_fits_21 ?_
    refine j_norm (lv' := []) (st' := [.int (iI 0)]) (ws' := []) [] [] rfl rfl (by decide) rfl ?_
    exact j_zret jb jr dX11_fits_22 rfl ⟨(vb0 (by omega)), rfl⟩
  · skip
    refine j_iload_n jb dX11_fits_12 1 rfl ?_
    refine j_iload_n jb dX11_fits_13 0 rfl ?_
    refine j_icmp_ge (tgt := 21) jb dX11_fits_14 (by decide) (by omega) (by omega) (fun c_14 => ?_) (fun c_14 => ?_)
    · skip
      refine j_iconst jb dX11_fits_21 ?_
      refine j_norm (lv' := []) (st' := [.int (iI 0)]) (ws' := []) [] [] rfl rfl (by decide) rfl ?_
      exact j_zret jb jr dX11_fits_22 rfl ⟨(vb0 (by omega)), rfl⟩
    · skip
      refine j_iconst jb dX11_fits_17 ?_
      refine j_goto (tgt := 22) jb dX11_fits_18 (by decide) ?_
      refine j_norm (lv' := []) (st' := [.int (iI 1)]) (ws' := []) [] [] rfl rfl (by decide) rfl ?_
      exact j_zret jb jr dX11_fits_22 rfl ⟨(vb1 (by omega)), rfl⟩

set_option maxHeartbeats 4000000 in
set_option maxRecDepth 100000 in
theorem C_X11_bytesOf (l : Launch) (g : GG) (n : Int) (h : 0 ≤ n ∧ n ≤ 1000000) : Ctr l g yX11_bytesOf cX11_bytesOf 1 (some .int) 0 0 0 0 [.int (iI n)] [] (fun vv ww => vv = some (.int (iI ((n + 7) / 8 + 1))) ∧ ww = []) := by
  refine Ctr.of [(0, .int (iI n))] (by decide) (Nat.le_of_ble_eq_true rfl) rfl ?_
  intro x hxl hxg jb jr hin
  subst hxl; subst hxg
  refine j_iload_n jb dX11_bytesOf_0 0 rfl ?_
  refine j_bipush jb dX11_bytesOf_1 (by decide) ?_
  refine j_iadd jb dX11_bytesOf_3 ?_
  refine j_bipush jb dX11_bytesOf_4 (by decide) ?_
  refine j_idiv jb dX11_bytesOf_6 (by omega) ?_
  refine j_iconst jb dX11_bytesOf_7 ?_
  refine j_iadd jb dX11_bytesOf_8 ?_
  refine j_norm (lv' := []) (st' := [.int (iI (((n + 7) / 8) + 1))]) (ws' := []) [] [] rfl rfl (by decide) rfl ?_
  exact j_iret jb jr dX11_bytesOf_9 ⟨rfl, rfl⟩

set_option maxHeartbeats 4000000 in
set_option maxRecDepth 100000 in
theorem C_X11_bitsOfRow (l : Launch) (g : GG) (wh sb : Int) (h : inR wh) : Ctr l g yX11_bitsOfRow cX11_bitsOfRow 2 (some .int) 0 0 0 0 [.int (iI wh), .int (iI sb)] [] (fun vv ww => ∃ (r : Int), vv = some (.int (iI r)) ∧ ww = [] ∧ r = (if wh = 2 then sb + 1 else sb)) := by
  refine Ctr.of [(0, .int (iI wh)), (1, .int (iI sb))] (by decide) (Nat.le_of_ble_eq_true rfl) rfl ?_
  intro x hxl hxg jb jr hin
  subst hxl; subst hxg
  refine j_iload_n jb dX11_bitsOfRow_0 0 rfl ?_
  refine j_iconst jb dX11_bitsOfRow_1 ?_
  refine j_icmp_ne (tgt := 11) jb dX11_bitsOfRow_2 (by decide) (by omega) (by omega) (fun c_2 => ?_) (fun c_2 => ?_)
  · skip
    refine j_iload_n jb dX11_bitsOfRow_11 1 rfl ?_
    refine j_norm (lv' := []) (st' := [.int (iI sb)]) (ws' := []) [] [] rfl rfl (by decide) rfl ?_
    exact j_iret jb jr dX11_bitsOfRow_12 ⟨_, rfl, rfl, (by first | (rw [if_pos (by omega)]; done) | (rw [if_neg (by omega)]; done))⟩
  · skip
    refine j_iload_n jb dX11_bitsOfRow_5 1 rfl ?_
    refine j_iconst jb dX11_bitsOfRow_6 ?_
    refine j_iadd jb dX11_bitsOfRow_7 ?_
    refine j_goto (tgt := 12) jb dX11_bitsOfRow_8 (by decide) ?_
    refine j_norm (lv' := []) (st' := [.int (iI (sb + 1))]) (ws' := []) [] [] rfl rfl (by decide) rfl ?_
    exact j_iret jb jr dX11_bitsOfRow_12 ⟨_, rfl, rfl, (by first | (rw [if_pos (by omega)]; done) | (rw [if_neg (by omega)]; done))⟩

set_option maxHeartbeats 4000000 in
set_option maxRecDepth 100000 in
theorem C_X11_mayBeP (l : Launch) (g : GG) (p n o : Int) (h : 0 ≤ p ∧ p ≤ 7) (h2 : 0 ≤ n ∧ n ≤ 1000) (h3 : 0 ≤ o ∧ o ≤ 1000) : Ctr l g yX11_mayBeP cX11_mayBeP 3 (some .boolean) 0 0 0 0 [.int (iI p), .int (iI n), .int (iI o)] [] (fun vv ww => vv = some (.int (iI (b2i (p ≤ 4 ∧ n % 2 ^ p.toNat = 0 ∧ o ≤ n / 2 ^ p.toNat)))) ∧ ww = []) := by
  refine Ctr.of [(0, .int (iI p)), (1, .int (iI n)), (2, .int (iI o))] (by decide) (Nat.le_of_ble_eq_true rfl) rfl ?_
  intro x hxl hxg jb jr hin
  subst hxl; subst hxg
  have q2 := pw_pos p
  have q3 := ediv_in (a := n) p.toNat (M := 1001) (by decide) (by omega) (by omega)
  have q4 := Int.emod_nonneg n (show (2 : Int) ^ p.toNat ≠ 0 by omega)
  have q5 := Int.emod_lt_of_pos n q2
  have q6 := pw_30 (k := p) (by omega)
  refine j_iload_n jb dX11_mayBeP_0 0 rfl ?_
  refine j_iconst jb dX11_mayBeP_1 ?_
  refine j_icmp_gt (tgt := 26) jb dX11_mayBeP_2 (by decide) (by omega) (by omega) (fun c_2 => ?_) (fun c_2 => ?_)
  · skip
    refine j_iconst jb dX11_mayBeP_26 ?_
    refine j_norm (lv' := []) (st' := [.int (iI 0)]) (ws' := []) [] [] rfl rfl (by decide) rfl ?_
    exact j_zret jb jr dX11_mayBeP_27 rfl ⟨(vb0 (by omega)), rfl⟩
  · skip
    refine j_iload_n jb dX11_mayBeP_5 1 rfl ?_
    refine j_iconst jb dX11_mayBeP_6 ?_
    refine j_iload_n jb dX11_mayBeP_7 0 rfl ?_
    refine j_ishl jb dX11_mayBeP_8 (by omega) ?_
    refine j_iconst jb dX11_mayBeP_9 ?_
    refine j_isub jb dX11_mayBeP_10 ?_
    refine j_iand jb dX11_mayBeP_11 ?_
    refine j_topi (n % 2 ^ p.toNat) (zAnd_mask p.toNat (by omega) (by rw [Int.one_mul])) ?_
    refine j_if_ne (tgt := 26) jb dX11_mayBeP_12 (by decide) (by omega) (fun c_12 => ?_) (fun c_12 => ?_)
    · skip
      refine j_iconst jb dX11_mayBeP_26 ?_
      refine j_norm (lv' := []) (st' := [.int (iI 0)]) (ws' := []) [] [] rfl rfl (by decide) rfl ?_
      exact j_zret jb jr dX11_mayBeP_27 rfl ⟨(vb0 (by omega)), rfl⟩
    · skip
      refine j_iload_n jb dX11_mayBeP_15 1 rfl ?_
      refine j_iload_n jb dX11_mayBeP_16 0 rfl ?_
      refine j_ishr jb dX11_mayBeP_17 (by omega) (by omega) ?_
      refine j_iload_n jb dX11_mayBeP_18 2 rfl ?_
      refine j_icmp_lt (tgt := 26) jb dX11_mayBeP_19 (by decide) (by omega) (by omega) (fun c_19 => ?_) (fun c_19 => ?_)
      · skip
        refine j_iconst jb dX11_mayBeP_26 ?_
        refine j_norm (lv' := []) (st' := [.int (iI 0)]) (ws' := []) [] [] rfl rfl (by decide) rfl ?_
        exact j_zret jb jr dX11_mayBeP_27 rfl ⟨(vb0 (by omega)), rfl⟩
      · skip
        refine j_iconst jb dX11_mayBeP_22 ?_
        refine j_goto (tgt := 27) jb dX11_mayBeP_23 (by decide) ?_
        refine j_norm (lv' := []) (st' := [.int (iI 1)]) (ws' := []) [] [] rfl rfl (by decide) rfl ?_
        exact j_zret jb jr dX11_mayBeP_27 rfl ⟨(vb1 (by omega)), rfl⟩

set_option maxHeartbeats 4000000 in
set_option maxRecDepth 100000 in
theorem C_X11_signed (l : Launch) (g : GG) (v b : Int) (h2 : 1 ≤ b ∧ b ≤ 32) : Ctr l g yX11_signed cX11_signed 2 (some .int) 0 0 0 0 [.int (iI v), .int (iI b)] [] (fun vv ww => vv = some (.int (iI (sgn v b))) ∧ ww = []) := by
  refine Ctr.of [(0, .int (iI v)), (1, .int (iI b))] (by decide) (Nat.le_of_ble_eq_true rfl) rfl ?_
  intro x hxl hxg jb jr hin
  subst hxl; subst hxg
  refine j_iload_n jb dX11_signed_0 0 rfl ?_
  refine j_bipush jb dX11_signed_1 (by decide) ?_
  refine j_iload_n jb dX11_signed_3 1 rfl ?_
  refine j_isub jb dX11_signed_4 ?_
  refine j_ishl jb dX11_signed_5 (by omega) ?_
  refine j_topc (sgn v b * 2 ^ (32 - b).toNat) (sgn_shl h2.1 h2.2) ?_
  refine j_bipush jb dX11_signed_6 (by decide) ?_
  refine j_iload_n jb dX11_signed_8 1 rfl ?_
  refine j_isub jb dX11_signed_9 ?_
  refine j_ishr jb dX11_signed_10 (sgn_sh_in h2.1 h2.2) (by omega) ?_
  refine j_topi (sgn v b) sgn_shr ?_
  refine j_norm (lv' := []) (st' := [.int (iI (sgn v b))]) (ws' := []) [] [] rfl rfl (by decide) rfl ?_
  exact j_iret jb jr dX11_signed_11 ⟨rfl, rfl⟩

set_option maxHeartbeats 4000000 in
set_option maxRecDepth 100000 in
theorem C_X11_unfold (l : Launch) (g : GG) (u : Int) (h : inR u) : Ctr l g yX11_unfold cX11_unfold 1 (some .int) 0 0 0 0 [.int (iI u)] [] (fun vv ww => ∃ (r : Int), vv = some (.int (iI r)) ∧ ww = [] ∧ r = unf u) := by
  refine Ctr.of [(0, .int (iI u))] (by decide) (Nat.le_of_ble_eq_true rfl) rfl ?_
  intro x hxl hxg jb jr hin
  subst hxl; subst hxg
  refine j_iload_n jb dX11_unfold_0 0 rfl ?_
  refine j_iconst jb dX11_unfold_1 ?_
  refine j_iand jb dX11_unfold_2 ?_
  refine j_topi (u % 2) (zAnd_1 u) ?_
  refine j_if_ne (tgt := 12) jb dX11_unfold_3 (by decide) (by omega) (fun c_3 => ?_) (fun c_3 => ?_)
  · skip
    refine j_iload_n jb dX11_unfold_12 0 rfl ?_
    refine j_iconst jb dX11_unfold_13 ?_
    refine j_ishr jb dX11_unfold_14 (by omega) (by omega) ?_
    refine j_ineg jb dX11_unfold_15 ?_
    refine j_iconst jb dX11_unfold_16 ?_
    refine j_isub jb dX11_unfold_17 ?_
    refine j_norm (lv' := []) (st' := [.int (iI ((-(u / 2 ^ (1 : Int).toNat)) - 1))]) (ws' := []) [] [] rfl rfl (by decide) rfl ?_
    exact j_iret jb jr dX11_unfold_18 ⟨_, rfl, rfl, (by unfold unf; first | (rw [if_pos (by omega), p1]; done) | (rw [if_neg (by omega), p1]; done))⟩
  · skip
    refine j_iload_n jb dX11_unfold_6 0 rfl ?_
    refine j_iconst jb dX11_unfold_7 ?_
    refine j_ishr jb dX11_unfold_8 (by omega) (by omega) ?_
    refine j_goto (tgt := 18) jb dX11_unfold_9 (by decide) ?_
    refine j_norm (lv' := []) (st' := [.int (iI (u / 2 ^ (1 : Int).toNat))]) (ws' := []) [] [] rfl rfl (by decide) rfl ?_
    exact j_iret jb jr dX11_unfold_18 ⟨_, rfl, rfl, (by unfold unf; first | (rw [if_pos (by omega), p1]; done) | (rw [if_neg (by omega), p1]; done))⟩
end
section
/-! ===== THE SUM, written bits, read numbers ===== -/
def crc1 (s : Int) : Int := if s * 2 ≤ 255 then s * 2 else zXor (s * 2) 263
def crcR : Nat → Int → Int
  | 0, s => s
  | n + 1, s => crc1 (crcR n s)
def crc (B : Int → Int) (fr : Int) : Nat → Int
  | 0 => 0
  | k + 1 => crcR 8 (zXor (crc B fr k) (B (fr + k)))
theorem zXor_nat {a b : Nat} (ha : a < 256) (hb : b < 256) : zXor (a : Int) (b : Int) = ((a ^^^ b : Nat) : Int) := by
  unfold zXor
  have h : a ^^^ b < 256 := Nat.xor_lt_two_pow (n := 8) ha hb
  have e : iI (a : Int) ^^^ iI (b : Int) = iI ((a ^^^ b : Nat) : Int) := by
    apply Int32.toBitVec_inj.mp
    rw [Int32.toBitVec_xor, iI_toBv, iI_toBv, iI_toBv]
    apply BitVec.eq_of_toNat_eq
    rw [BitVec.toNat_xor]
    simp only [BitVec.ofInt_natCast, BitVec.toNat_ofNat]
    rw [Nat.mod_eq_of_lt (by omega), Nat.mod_eq_of_lt (by omega), Nat.mod_eq_of_lt (by omega)]
  rw [e, iI_toInt (by omega)]
theorem zXor_8 {a b : Int} (ha : 0 ≤ a ∧ a < 256) (hb : 0 ≤ b ∧ b < 256) : 0 ≤ zXor a b ∧ zXor a b < 256 := by
  obtain ⟨n, rfl⟩ := Int.eq_ofNat_of_zero_le ha.1
  obtain ⟨m, rfl⟩ := Int.eq_ofNat_of_zero_le hb.1
  have h : n ^^^ m < 256 := Nat.xor_lt_two_pow (n := 8) (by omega) (by omega)
  rw [zXor_nat (by omega) (by omega)]
  omega
theorem crc1_in {s : Int} (h : 0 ≤ s ∧ s < 256) : 0 ≤ crc1 s ∧ crc1 s < 256 := by
  obtain ⟨n, rfl⟩ := Int.eq_ofNat_of_zero_le h.1
  have k : ∀ n : Nat, n < 256 → 0 ≤ crc1 (n : Int) ∧ crc1 (n : Int) < 256 := by decide +kernel
  exact k n (by omega)
theorem crcR_in {s : Int} (h : 0 ≤ s ∧ s < 256) (n : Nat) : 0 ≤ crcR n s ∧ crcR n s < 256 := by
  induction n with
  | zero => exact h
  | succ n ih => exact crc1_in ih
theorem crc_step {t s0 s2 : Int} (ht : 0 ≤ t) (h : s2 = crcR t.toNat s0) : crcR (t + 1).toNat s0 = crc1 s2 := by
  rw [show (t + 1).toNat = t.toNat + 1 by omega, h]
  rfl
theorem crc1_lo {s : Int} (h : s * 2 ≤ 255) : crc1 s = s * 2 := if_pos h
theorem crc1_hi {s : Int} (h : ¬ s * 2 ≤ 255) : crc1 s = zXor (s * 2) 263 := if_neg h
theorem crc_next {B : Int → Int} {fr i s : Int} (hi : fr ≤ i) (h : s = crc B fr (i - fr).toNat) : crc B fr (i + 1 - fr).toNat = crcR 8 (zXor s (B i)) := by
  rw [show (i + 1 - fr).toNat = (i - fr).toNat + 1 by omega]
  show crcR 8 (zXor (crc B fr (i - fr).toNat) (B (fr + ((i - fr).toNat : Int)))) = _
  rw [← h, show fr + ((i - fr).toNat : Int) = i by omega]
/-- the bits bs stand from p on; what stood before p stays -/
def wrote (N : Int) (B : Int → Int) (p : Int) (bs : List Int) (B2 : Int → Int) : Prop :=
  (∀ j, 0 ≤ j → j < N → 0 ≤ B2 j ∧ B2 j < 256) ∧ (∀ k : Nat, k < bs.length → bitAt B2 (p + k) = bs.getD k 0) ∧ (∀ r, 0 ≤ r → r < p → bitAt B2 r = bitAt B r)
theorem wrote_nil {N : Int} {B : Int → Int} {p : Int} (h : ∀ j, 0 ≤ j → j < N → 0 ≤ B j ∧ B j < 256) : wrote N B p [] B := ⟨h, fun k hk => absurd hk (Nat.not_lt_zero k), fun _ _ _ => rfl⟩
theorem wrote_app {N : Int} {B B1 B2 : Int → Int} {p p1 : Int} {bs cs : List Int} (h1 : wrote N B p bs B1) (h2 : wrote N B1 p1 cs B2) (hp : 0 ≤ p) (e : p1 = p + bs.length) : wrote N B p (bs ++ cs) B2 := by
  subst e
  refine ⟨h2.1, fun k hk => ?_, fun r h0 h3 => ?_⟩
  · rw [List.length_append] at hk
    by_cases c : k < bs.length
    · rw [h2.2.2 (p + k) (by omega) (by omega), h1.2.1 k c]
      rw [List.getD_eq_getElem?_getD, List.getD_eq_getElem?_getD, List.getElem?_append_left c]
    · have := h2.2.1 (k - bs.length) (by omega)
      rw [show p + (bs.length : Int) + ((k - bs.length : Nat) : Int) = p + k by omega] at this
      rw [this, List.getD_eq_getElem?_getD, List.getD_eq_getElem?_getD, List.getElem?_append_right (by omega)]
  · rw [h2.2.2 r h0 (by omega), h1.2.2 r h0 h3]
def putB (b m bit : Int) : Int := if bit = 0 then zAnd b (zXor (128 / 2 ^ m.toNat) (-1)) else zOr b (128 / 2 ^ m.toNat)
theorem putB_ok : ∀ b : Nat, b < 256 → ∀ m : Nat, m < 8 → ∀ bit : Nat, bit < 2 → (0 ≤ putB b m bit ∧ putB b m bit < 256) ∧ ∀ k : Nat, k < 8 → putB b m bit / 2 ^ (7 - (k : Int)).toNat % 2 = if k = m then (bit : Int) else (b : Int) / 2 ^ (7 - (k : Int)).toNat % 2 := by decide +kernel
theorem wrote_one {N : Int} {B : Int → Int} {p bit : Int} (hB : ∀ j, 0 ≤ j → j < N → 0 ≤ B j ∧ B j < 256) (h0 : 0 ≤ p) (h1 : p < 8 * N) (hb : bit = 0 ∨ bit = 1) : wrote N B p [bit] (zup B (p / 8) (putB (B (p / 8)) (p % 8) bit)) := by
  have hb0 := hB (p / 8) (by omega) (by omega)
  obtain ⟨b, eb⟩ := Int.eq_ofNat_of_zero_le hb0.1
  obtain ⟨m, em⟩ := Int.eq_ofNat_of_zero_le (show 0 ≤ p % 8 by omega)
  obtain ⟨t, et⟩ := Int.eq_ofNat_of_zero_le (show 0 ≤ bit by omega)
  obtain ⟨q1, q2⟩ := putB_ok b (by omega) m (by omega) t (by omega)
  have bits : ∀ r, 0 ≤ r → bitAt (zup B (p / 8) (putB (B (p / 8)) (p % 8) bit)) r = if r = p then bit else bitAt B r := by
    intro r hr
    unfold bitAt
    by_cases c : r / 8 = p / 8
    · obtain ⟨k, ek⟩ := Int.eq_ofNat_of_zero_le (show 0 ≤ r % 8 by omega)
      rw [c, zup_s, eb, em, et, ek, q2 k (by omega)]
      by_cases c2 : k = m
      · rw [if_pos c2, if_pos (by omega)]
      · rw [if_neg c2, if_neg (by omega)]
    · rw [zup_n c, if_neg (fun e => c (by rw [e]))]
  refine ⟨fun j hj hj2 => ?_, fun k hk => ?_, fun r hr hr2 => ?_⟩
  · by_cases c : j = p / 8
    · rw [c, zup_s, eb, em, et]; exact q1
    · rw [zup_n c]; exact hB j hj hj2
  · have : k = 0 := by simp at hk; omega
    subst this
    rw [show p + ((0 : Nat) : Int) = p by omega, bits p h0, if_pos rfl]
    rfl
  · rw [bits r hr, if_neg (by omega)]
/-- the first k of the w bits of v, the highest first -/
def nb (v : Int) (w k : Nat) : List Int := (List.range k).map (fun j : Nat => v / 2 ^ (w - 1 - j) % 2)
theorem nb_len (v : Int) (w k : Nat) : (nb v w k).length = k := by unfold nb; simp
theorem nb_succ (v : Int) (w k : Nat) : nb v w (k + 1) = nb v w k ++ [v / 2 ^ (w - 1 - k) % 2] := by unfold nb; rw [List.range_succ, List.map_append]; rfl
/-! reading -/
def rdRel (B : Int → Int) (len fa pos bits r fa2 pos2 v : Int) : Prop := (fa = 0 ∧ pos + bits ≤ 8 * len → fa2 = 0 ∧ pos2 = pos + bits ∧ r = v) ∧ (¬ (fa = 0 ∧ pos + bits ≤ 8 * len) → fa2 = (if fa = 0 then 1 else fa) ∧ pos2 = pos ∧ r = 0)
theorem num_step {B : Int → Int} {pos i n : Int} (h0 : 0 ≤ i) (h : n = num B pos i.toNat) : 2 * n + bitAt B (pos + i) = num B pos (i + 1).toNat := by
  rw [show (i + 1).toNat = i.toNat + 1 by omega, h]
  show _ = 2 * num B pos i.toNat + bitAt B (pos + (i.toNat : Int))
  rw [show (i.toNat : Int) = i by omega]
/-- a run of 1s: (0, the place behind the 0), or (the fault, the place) -/
def frun (B : Int → Int) (len : Int) : Nat → Int → Int × Int
  | 0, p => (8, p)
  | n + 1, p => if p + 1 ≤ 8 * len then (if bitAt B p = 0 then (0, p + 1) else frun B len n (p + 1)) else (1, p)
/-- a REST of a k below 15: (the fault or 0, its value, the place) -/
def rfold (B : Int → Int) (len k pos : Int) : Int × Int × Int :=
  if (frun B len (2 ^ (24 - k).toNat) pos).1 ≠ 0 then ((frun B len (2 ^ (24 - k).toNat) pos).1, 0, (frun B len (2 ^ (24 - k).toNat) pos).2)
  else if (frun B len (2 ^ (24 - k).toNat) pos).2 + k ≤ 8 * len then (0, unf (((frun B len (2 ^ (24 - k).toNat) pos).2 - 1 - pos) * 2 ^ k.toNat + num B (frun B len (2 ^ (24 - k).toNat) pos).2 k.toNat), (frun B len (2 ^ (24 - k).toNat) pos).2 + k)
  else (1, 0, (frun B len (2 ^ (24 - k).toNat) pos).2)
theorem sgn_0 (b : Int) : sgn 0 b = 0 := by
  unfold sgn
  have := pw_pos (b - 1)
  rw [Int.zero_emod, if_pos this]
theorem frun_0 (B : Int → Int) (len k pos : Int) : frun B len (2 ^ (24 - k).toNat) pos = frun B len ((2 ^ (24 - k).toNat : Int) - 0).toNat pos := by
  rw [Int.sub_zero]
  congr 1
theorem num_1 (B : Int → Int) (p : Int) : num B p (1 : Int).toNat = bitAt B p := by
  show 2 * 0 + bitAt B (p + ((0 : Nat) : Int)) = _
  rw [show p + ((0 : Nat) : Int) = p by omega]
  omega
theorem rd_nz {B : Int → Int} {len fa pos bits r fa2 pos2 v : Int} (h : rdRel B len fa pos bits r fa2 pos2 v) (hr : ¬ r = 0) : (fa = 0 ∧ pos + bits ≤ 8 * len) ∧ fa2 = 0 ∧ pos2 = pos + bits ∧ r = v := by
  by_cases c : fa = 0 ∧ pos + bits ≤ 8 * len
  · exact ⟨c, h.1 c⟩
  · exact absurd (h.2 c).2.2 hr
theorem rd_in {B : Int → Int} {len fa pos bits r fa2 pos2 v M : Int} (h : rdRel B len fa pos bits r fa2 pos2 v) (hv : 0 ≤ v ∧ v < M) : 0 ≤ r ∧ r < M := by
  by_cases c : fa = 0 ∧ pos + bits ≤ 8 * len
  · rw [(h.1 c).2.2]; exact hv
  · rw [(h.2 c).2.2]; omega
theorem rd_pos {B : Int → Int} {len fa pos bits r fa2 pos2 v : Int} (h : rdRel B len fa pos bits r fa2 pos2 v) (hb : 0 ≤ bits) (hp : 0 ≤ pos ∧ pos ≤ 8 * len) : 0 ≤ pos2 ∧ pos2 ≤ 8 * len := by
  by_cases c : fa = 0 ∧ pos + bits ≤ 8 * len
  · have := (h.1 c).2.1; omega
  · have := (h.2 c).2.1; omega
theorem rd_fa {B : Int → Int} {len fa pos bits r fa2 pos2 v : Int} (h : rdRel B len fa pos bits r fa2 pos2 v) : fa2 = 0 ∨ fa2 = 1 ∨ fa2 = fa := by
  by_cases c : fa = 0 ∧ pos + bits ≤ 8 * len
  · have := (h.1 c).1; omega
  · have h1 := (h.2 c).1
    split at h1 <;> omega
theorem frun_next {B : Int → Int} {len n p : Int} {R : Int × Int} (h : R = frun B len n.toNat p) (hn : 0 < n) (h1 : p + 1 ≤ 8 * len) (hb : ¬ bitAt B p = 0) : R = frun B len (n - 1).toNat (p + 1) := by
  rw [h, show n.toNat = (n - 1).toNat + 1 by omega]
  show (if p + 1 ≤ 8 * len then (if bitAt B p = 0 then (0, p + 1) else frun B len (n - 1).toNat (p + 1)) else (1, p)) = _
  rw [if_pos h1, if_neg hb]
theorem frun_ok {B : Int → Int} {len n p : Int} {R : Int × Int} (h : R = frun B len n.toNat p) (hn : 0 < n) (h1 : p + 1 ≤ 8 * len) (hb : bitAt B p = 0) : R = (0, p + 1) := by
  rw [h, show n.toNat = (n - 1).toNat + 1 by omega]
  show (if p + 1 ≤ 8 * len then (if bitAt B p = 0 then (0, p + 1) else frun B len (n - 1).toNat (p + 1)) else (1, p)) = _
  rw [if_pos h1, if_pos hb]
theorem frun_end {B : Int → Int} {len n p : Int} {R : Int × Int} (h : R = frun B len n.toNat p) (hn : 0 < n) (h1 : ¬ p + 1 ≤ 8 * len) : R = (1, p) := by
  rw [h, show n.toNat = (n - 1).toNat + 1 by omega]
  show (if p + 1 ≤ 8 * len then (if bitAt B p = 0 then (0, p + 1) else frun B len (n - 1).toNat (p + 1)) else (1, p)) = _
  rw [if_neg h1]
theorem frun_many {B : Int → Int} {len n p : Int} {R : Int × Int} (h : R = frun B len n.toNat p) (hn : n ≤ 0) : R = (8, p) := by
  rw [h, show n.toNat = 0 by omega]
  rfl
theorem ones_in {o k r : Int} (ho : 0 ≤ o) (h1 : o < 2 ^ (24 - k).toNat) (hk : 0 ≤ k ∧ k ≤ 14) (hr : 0 ≤ r ∧ r < 2 ^ k.toNat) : 0 ≤ o * 2 ^ k.toNat + r ∧ o * 2 ^ k.toNat + r < 16777216 := by
  have e : (2 : Int) ^ (24 - k).toNat * 2 ^ k.toNat = 16777216 := by
    rw [← Int.pow_add, show (24 - k).toNat + k.toNat = 24 by omega]
    decide
  have hp := pw_pos k
  have h2 := Int.mul_le_mul_of_nonneg_right (show o ≤ 2 ^ (24 - k).toNat - 1 by omega) (Int.le_of_lt hp)
  rw [Int.sub_mul, e, Int.one_mul] at h2
  have h3 := Int.mul_nonneg ho (Int.le_of_lt hp)
  omega
theorem unf_in {u : Int} (h : 0 ≤ u ∧ u < 16777216) : -16777216 ≤ unf u ∧ unf u ≤ 16777216 := by
  unfold unf
  split <;> omega
theorem rfold_end {B : Int → Int} {len k pos o p f1 r1 fa1 pos1 r2 fa2 pos2 : Int} (hi3 : p = pos + o) (hi4 : f1 = 0) (hi6 : frun B len (2 ^ (24 - k).toNat) pos = frun B len ((2 ^ (24 - k).toNat : Int) - o).toNat p) (ho : o < 2 ^ (24 - k).toNat)
    (h16 : rdRel B len f1 p 1 r1 fa1 pos1 (num B p (1 : Int).toNat)) (c : r1 = 0) (h27 : rdRel B len fa1 pos1 k r2 fa2 pos2 (num B pos1 k.toNat)) :
    fa2 = (rfold B len k pos).1 ∧ (fa2 = 0 → unf (o * 2 ^ k.toNat + r2) = (rfold B len k pos).2.1 ∧ pos2 = (rfold B len k pos).2.2) := by
  rw [num_1] at h16
  by_cases ok : p + 1 ≤ 8 * len
  · obtain ⟨a1, a2, a3⟩ := h16.1 ⟨hi4, ok⟩
    have hR := frun_ok hi6 (by omega) ok (by omega)
    have e1 : (frun B len (2 ^ (24 - k).toNat) pos).1 = 0 := by rw [hR]
    have e2 : (frun B len (2 ^ (24 - k).toNat) pos).2 = p + 1 := by rw [hR]
    unfold rfold
    rw [if_neg (by omega), e2]
    by_cases ok2 : p + 1 + k ≤ 8 * len
    · obtain ⟨b1, b2, b3⟩ := h27.1 ⟨a1, by omega⟩
      rw [if_pos ok2]
      refine ⟨b1, fun _ => ⟨?_, by show pos2 = p + 1 + k; omega⟩⟩
      show _ = unf ((p + 1 - 1 - pos) * 2 ^ k.toNat + num B (p + 1) k.toNat)
      rw [b3, a2, show p + 1 - 1 - pos = o by omega]
    · obtain ⟨b1, b2, b3⟩ := h27.2 (by omega)
      rw [if_neg ok2]
      rw [if_pos a1] at b1
      exact ⟨b1, fun h => by omega⟩
  · obtain ⟨a1, a2, a3⟩ := h16.2 (by omega)
    rw [if_pos hi4] at a1
    have hR := frun_end hi6 (by omega) ok
    have e1 : (frun B len (2 ^ (24 - k).toNat) pos).1 = 1 := by rw [hR]
    obtain ⟨b1, b2, b3⟩ := h27.2 (by omega)
    rw [if_neg (by omega)] at b1
    unfold rfold
    rw [if_pos (by omega)]
    exact ⟨by show fa2 = (frun B len (2 ^ (24 - k).toNat) pos).1; omega, fun h => by omega⟩
theorem rfold_many {B : Int → Int} {len k pos p o : Int} (hi6 : frun B len (2 ^ (24 - k).toNat) pos = frun B len ((2 ^ (24 - k).toNat : Int) - o).toNat p) (ho : (2 : Int) ^ (24 - k).toNat ≤ o) : (rfold B len k pos).1 = 8 := by
  have hR := frun_many hi6 (by omega)
  have e1 : (frun B len (2 ^ (24 - k).toNat) pos).1 = 8 := by rw [hR]
  unfold rfold
  rw [if_pos (by omega)]
  exact e1
end
section
set_option maxHeartbeats 4000000 in
set_option maxRecDepth 100000 in
theorem C_X0_has (l : Launch) (g : GG) (h0 h1 : Nat) (len fa pos : Int) (i : Int) (hl : 0 ≤ len ∧ len ≤ 2400) (hi : inR i) : Ctr l g yX0_has cX0_has 2 (some .boolean) 0 0 0 0 [.ref h0, .int (iI i)] [(h0, oX0 h1 len fa pos)] (fun vv ww => vv = some (.int (iI (b2i (0 ≤ i ∧ i < len)))) ∧ ww = [(h0, oX0 h1 len fa pos)]) := by
  refine Ctr.of [(0, .ref h0), (1, .int (iI i))] (by decide) (Nat.le_of_ble_eq_true rfl) rfl ?_
  intro x hxl hxg jb jr hin
  subst hxl; subst hxg
  refine j_iload_n jb dX0_has_0 1 rfl ?_
  refine j_if_lt (tgt := 16) jb dX0_has_1 (by decide) (by omega) (fun c_1 => ?_) (fun c_1 => ?_)
  · skip
    refine j_iconst jb dX0_has_16 ?_
    refine j_norm (lv' := []) (st' := [.int (iI 0)]) (ws' := [(h0, oX0 h1 len fa pos)]) [] [0] rfl rfl (by decide) rfl ?_
    exact j_zret jb jr dX0_has_17 rfl ⟨(vb0 (by omega)), rfl⟩
  · skip
    refine j_iload_n jb dX0_has_4 1 rfl ?_
    refine j_aload_n jb dX0_has_5 0 rfl ?_
    refine j_get jb f_X0_15 dX0_has_6 0 rfl rfl ?_
    refine j_icmp_ge (tgt := 16) jb dX0_has_9 (by decide) (by omega) (by omega) (fun c_9 => ?_) (fun c_9 => ?_)
    · skip
      refine j_iconst jb dX0_has_16 ?_
      refine j_norm (lv' := []) (st' := [.int (iI 0)]) (ws' := [(h0, oX0 h1 len fa pos)]) [] [0] rfl rfl (by decide) rfl ?_
      exact j_zret jb jr dX0_has_17 rfl ⟨(vb0 (by omega)), rfl⟩
    · skip
      refine j_iconst jb dX0_has_12 ?_
      refine j_goto (tgt := 17) jb dX0_has_13 (by decide) ?_
      refine j_norm (lv' := []) (st' := [.int (iI 1)]) (ws' := [(h0, oX0 h1 len fa pos)]) [] [0] rfl rfl (by decide) rfl ?_
      exact j_zret jb jr dX0_has_17 rfl ⟨(vb1 (by omega)), rfl⟩

set_option maxHeartbeats 4000000 in
set_option maxRecDepth 100000 in
theorem C_X0_begin (l : Launch) (g : GG) (h0 h1 : Nat) (len fa pos : Int) (i : Int)  : Ctr l g yX0_begin cX0_begin 2 none 0 0 0 0 [.ref h0, .int (iI i)] [(h0, oX0 h1 len fa pos)] (fun vv ww => vv = none ∧ ww = [(h0, oX0 h1 len 0 (8 * i))]) := by
  refine Ctr.of [(0, .ref h0), (1, .int (iI i))] (by decide) (Nat.le_of_ble_eq_true rfl) rfl ?_
  intro x hxl hxg jb jr hin
  subst hxl; subst hxg
  refine j_aload_n jb dX0_begin_0 0 rfl ?_
  refine j_bipush jb dX0_begin_1 (by decide) ?_
  refine j_iload_n jb dX0_begin_3 1 rfl ?_
  refine j_imul jb dX0_begin_4 ?_
  refine j_put (ws' := [(h0, oX0 h1 len fa (8 * i))]) jb f_X0_19 w_X0_3 rfl dX0_begin_5 0 rfl rfl rfl (Nat.le_of_ble_eq_true rfl) rfl ?_
  refine j_aload_n jb dX0_begin_8 0 rfl ?_
  refine j_iconst jb dX0_begin_9 ?_
  refine j_put (ws' := [(h0, oX0 h1 len 0 (8 * i))]) jb f_X0_22 w_X0_2 rfl dX0_begin_10 0 rfl rfl rfl (Nat.le_of_ble_eq_true rfl) rfl ?_
  refine j_norm (lv' := []) (st' := []) (ws' := [(h0, oX0 h1 len 0 (8 * i))]) [] [0] rfl rfl (by decide) rfl ?_
  exact j_vret jb jr dX0_begin_13 ⟨rfl, rfl⟩

set_option maxHeartbeats 4000000 in
set_option maxRecDepth 100000 in
theorem C_X0_placeNow (l : Launch) (g : GG) (h0 h1 : Nat) (len fa pos : Int) (hp : inR pos) : Ctr l g yX0_placeNow cX0_placeNow 1 (some .int) 0 0 0 0 [.ref h0] [(h0, oX0 h1 len fa pos)] (fun vv ww => vv = some (.int (iI (pos / 8))) ∧ ww = [(h0, oX0 h1 len fa pos)]) := by
  refine Ctr.of [(0, .ref h0)] (by decide) (Nat.le_of_ble_eq_true rfl) rfl ?_
  intro x hxl hxg jb jr hin
  subst hxl; subst hxg
  refine j_aload_n jb dX0_placeNow_0 0 rfl ?_
  refine j_get jb f_X0_19 dX0_placeNow_1 0 rfl rfl ?_
  refine j_iconst jb dX0_placeNow_4 ?_
  refine j_ishr jb dX0_placeNow_5 (by omega) (by omega) ?_
  refine j_topi (pos / 8) (p3 pos) ?_
  refine j_norm (lv' := []) (st' := [.int (iI (pos / 8))]) (ws' := [(h0, oX0 h1 len fa pos)]) [] [0] rfl rfl (by decide) rfl ?_
  exact j_iret jb jr dX0_placeNow_6 ⟨rfl, rfl⟩

set_option maxHeartbeats 4000000 in
set_option maxRecDepth 100000 in
theorem C_X0_bitsToByte (l : Launch) (g : GG) (h0 h1 : Nat) (len fa pos : Int)  : Ctr l g yX0_bitsToByte cX0_bitsToByte 1 (some .int) 0 0 0 0 [.ref h0] [(h0, oX0 h1 len fa pos)] (fun vv ww => vv = some (.int (iI (-pos % 8))) ∧ ww = [(h0, oX0 h1 len fa pos)]) := by
  refine Ctr.of [(0, .ref h0)] (by decide) (Nat.le_of_ble_eq_true rfl) rfl ?_
  intro x hxl hxg jb jr hin
  subst hxl; subst hxg
  refine j_aload_n jb dX0_bitsToByte_0 0 rfl ?_
  refine j_get jb f_X0_19 dX0_bitsToByte_1 0 rfl rfl ?_
  refine j_ineg jb dX0_bitsToByte_4 ?_
  refine j_bipush jb dX0_bitsToByte_5 (by decide) ?_
  refine j_iand jb dX0_bitsToByte_7 ?_
  refine j_topi (-pos % 8) (zAnd_7 _) ?_
  refine j_norm (lv' := []) (st' := [.int (iI (-pos % 8))]) (ws' := [(h0, oX0 h1 len fa pos)]) [] [0] rfl rfl (by decide) rfl ?_
  exact j_iret jb jr dX0_bitsToByte_8 ⟨rfl, rfl⟩

set_option maxHeartbeats 4000000 in
set_option maxRecDepth 100000 in
theorem C_X0_faultIf (l : Launch) (g : GG) (h0 h1 : Nat) (len fa pos : Int) (wr which : Int) (hw : inR wr) (hf : inR fa) (hc : inR which) : Ctr l g yX0_faultIf cX0_faultIf 3 (some .boolean) 0 0 0 0 [.ref h0, .int (iI wr), .int (iI which)] [(h0, oX0 h1 len fa pos)] (fun vv ww => ∃ (fa2 : Int), vv = some (.int (iI (b2i (fa2 ≠ 0)))) ∧ ww = [(h0, oX0 h1 len fa2 pos)] ∧ fa2 = fltIf wr fa which) := by
  refine Ctr.of [(0, .ref h0), (1, .int (iI wr)), (2, .int (iI which))] (by decide) (Nat.le_of_ble_eq_true rfl) rfl ?_
  intro x hxl hxg jb jr hin
  subst hxl; subst hxg
  refine j_iload_n jb dX0_faultIf_0 1 rfl ?_
  refine j_if_eq (tgt := 16) jb dX0_faultIf_1 (by decide) (by omega) (fun c_1 => ?_) (fun c_1 => ?_)
  · skip
    refine j_aload_n jb dX0_faultIf_16 0 rfl ?_
    refine j_get jb f_X0_22 dX0_faultIf_17 0 rfl rfl ?_
    refine j_if_eq (tgt := 27) jb dX0_faultIf_20 (by decide) (by omega) (fun c_20 => ?_) (fun c_20 => ?_)
    · skip
      refine j_iconst jb dX0_faultIf_27 ?_
      refine j_norm (lv' := []) (st' := [.int (iI 0)]) (ws' := [(h0, oX0 h1 len fa pos)]) [] [0] rfl rfl (by decide) rfl ?_
      exact j_zret jb jr dX0_faultIf_28 rfl ⟨_, (vb0 (by omega)), rfl, (by unfold fltIf; first | (rw [if_pos (by omega)]; done) | (rw [if_neg (by omega)]; done))⟩
    · skip
      refine j_iconst jb dX0_faultIf_23 ?_
      refine j_goto (tgt := 28) jb dX0_faultIf_24 (by decide) ?_
      refine j_norm (lv' := []) (st' := [.int (iI 1)]) (ws' := [(h0, oX0 h1 len fa pos)]) [] [0] rfl rfl (by decide) rfl ?_
      exact j_zret jb jr dX0_faultIf_28 rfl ⟨_, (vb1 (by omega)), rfl, (by unfold fltIf; first | (rw [if_pos (by omega)]; done) | (rw [if_neg (by omega)]; done))⟩
  · skip
    refine j_aload_n jb dX0_faultIf_4 0 rfl ?_
    refine j_get jb f_X0_22 dX0_faultIf_5 0 rfl rfl ?_
    refine j_if_ne (tgt := 16) jb dX0_faultIf_8 (by decide) (by omega) (fun c_8 => ?_) (fun c_8 => ?_)
    · skip
      refine j_aload_n jb dX0_faultIf_16 0 rfl ?_
      refine j_get jb f_X0_22 dX0_faultIf_17 0 rfl rfl ?_
      refine j_if_eq (tgt := 27) jb dX0_faultIf_20 (by decide) (by omega) (fun c_20 => ?_) (fun c_20 => ?_)
      · skip
        refine j_iconst jb dX0_faultIf_27 ?_
        refine j_norm (lv' := []) (st' := [.int (iI 0)]) (ws' := [(h0, oX0 h1 len fa pos)]) [] [0] rfl rfl (by decide) rfl ?_
        exact j_zret jb jr dX0_faultIf_28 rfl ⟨_, (vb0 (by omega)), rfl, (by unfold fltIf; first | (rw [if_pos (by omega)]; done) | (rw [if_neg (by omega)]; done))⟩
      · skip
        refine j_iconst jb dX0_faultIf_23 ?_
        refine j_goto (tgt := 28) jb dX0_faultIf_24 (by decide) ?_
        refine j_norm (lv' := []) (st' := [.int (iI 1)]) (ws' := [(h0, oX0 h1 len fa pos)]) [] [0] rfl rfl (by decide) rfl ?_
        exact j_zret jb jr dX0_faultIf_28 rfl ⟨_, (vb1 (by omega)), rfl, (by unfold fltIf; first | (rw [if_pos (by omega)]; done) | (rw [if_neg (by omega)]; done))⟩
    · skip
      refine j_aload_n jb dX0_faultIf_11 0 rfl ?_
      refine j_iload_n jb dX0_faultIf_12 2 rfl ?_
      refine j_put (ws' := [(h0, oX0 h1 len which pos)]) jb f_X0_22 w_X0_2 rfl dX0_faultIf_13 0 rfl rfl rfl (Nat.le_of_ble_eq_true rfl) rfl ?_
      refine j_aload_n jb dX0_faultIf_16 0 rfl ?_
      refine j_get jb f_X0_22 dX0_faultIf_17 0 rfl rfl ?_
      refine j_if_eq (tgt := 27) jb dX0_faultIf_20 (by decide) (by omega) (fun c_20 => ?_) (fun c_20 => ?_)
      · skip
        refine j_iconst jb dX0_faultIf_27 ?_
        refine j_norm (lv' := []) (st' := [.int (iI 0)]) (ws' := [(h0, oX0 h1 len which pos)]) [] [0] rfl rfl (by decide) rfl ?_
        exact j_zret jb jr dX0_faultIf_28 rfl ⟨_, (vb0 (by omega)), rfl, (by unfold fltIf; first | (rw [if_pos (by omega)]; done) | (rw [if_neg (by omega)]; done))⟩
      · skip
        refine j_iconst jb dX0_faultIf_23 ?_
        refine j_goto (tgt := 28) jb dX0_faultIf_24 (by decide) ?_
        refine j_norm (lv' := []) (st' := [.int (iI 1)]) (ws' := [(h0, oX0 h1 len which pos)]) [] [0] rfl rfl (by decide) rfl ?_
        exact j_zret jb jr dX0_faultIf_28 rfl ⟨_, (vb1 (by omega)), rfl, (by unfold fltIf; first | (rw [if_pos (by omega)]; done) | (rw [if_neg (by omega)]; done))⟩

set_option maxHeartbeats 4000000 in
set_option maxRecDepth 100000 in
theorem C_X0_sumOf (l : Launch) (g : GG) (h0 h1 : Nat) (B : Int → Int) (len fa pos : Int) (fr to : Int) (hB : isBytes B) (hf : 0 ≤ fr ∧ fr ≤ to ∧ to ≤ 2400) : Ctr l g yX0_sumOf cX0_sumOf 6 (some .int) 0 0 0 0 [.ref h0, .int (iI fr), .int (iI to)] [(h0, oX0 h1 len fa pos), (h1, aI g 2400 B)] (fun vv ww => ∃ (r : Int), vv = some (.int (iI r)) ∧ ww = [(h0, oX0 h1 len fa pos), (h1, aI g 2400 B)] ∧ r = crc B fr (to - fr).toNat ∧ 0 ≤ r ∧ r < 256) := by
  refine Ctr.of [(0, .ref h0), (1, .int (iI fr)), (2, .int (iI to))] (by decide) (Nat.le_of_ble_eq_true rfl) rfl ?_
  intro x hxl hxg jb jr hin
  subst hxl; subst hxg
  refine j_iconst jb dX0_sumOf_0 ?_
  refine j_istore_n (lv' := [(3, .int (iI 0)), (0, .ref h0), (1, .int (iI fr)), (2, .int (iI to))]) jb dX0_sumOf_1 rfl (by decide) rfl ?_
  refine j_iload_n jb dX0_sumOf_2 2 rfl ?_
  refine j_istore (lv' := [(4, .int (iI fr)), (3, .int (iI 0)), (0, .ref h0), (1, .int (iI fr)), (2, .int (iI to))]) jb dX0_sumOf_3 (by decide) rfl ?_
  have L5 : ∀ (fu : Nat) (s i : Int), (fr ≤ i ∧ i ≤ to ∧ s = crc B fr (i - fr).toNat ∧ 0 ≤ s ∧ s < 256) → (to - i).toNat < fu → JW x 0 0 5 [(0, .ref h0), (1, .int (iI fr)), (2, .int (iI to)), (3, .int (iI s)), (4, .int (iI i))] [] [(h0, oX0 h1 len fa pos), (h1, aI x.g 2400 B)] := by
    intro fu
    induction fu with
    | zero => intro s i _ hm; exact absurd hm (by omega)
    | succ fu ih =>
      intro s i ⟨hi1, hi2, hi3, hi4, hi5⟩ hm5
      have ih5 := ih
      clear ih
      refine j_iload jb dX0_sumOf_5 4 rfl ?_
      refine j_iload_n jb dX0_sumOf_7 2 rfl ?_
      refine j_icmp_ge (tgt := 68) jb dX0_sumOf_8 (by decide) (by omega) (by omega) (fun c_8 => ?_) (fun c_8 => ?_)
      · skip
        refine j_iload_n jb dX0_sumOf_68 3 rfl ?_
        refine j_norm (lv' := []) (st' := [.int (iI s)]) (ws' := [(h0, oX0 h1 len fa pos), (h1, aI x.g 2400 B)]) [] [0, 1] rfl rfl (by decide) rfl ?_
        exact j_iret jb jr dX0_sumOf_69 ⟨_, rfl, rfl, ⟨by rw [hi3, show i = to by omega], hi4, hi5⟩⟩
      · skip
        refine j_iload jb dX0_sumOf_11 4 rfl ?_
        refine j_sipush jb dX0_sumOf_13 (by decide) ?_
        refine j_icmp_ge (tgt := 68) jb dX0_sumOf_16 (by decide) (by omega) (by omega) (fun c_16 => ?_) (fun c_16 => ?_)
        · skip
          refine j_iload_n jb dX0_sumOf_68 3 rfl ?_
          refine j_norm (lv' := []) (st' := [.int (iI s)]) (ws' := [(h0, oX0 h1 len fa pos), (h1, aI x.g 2400 B)]) [] [0, 1] rfl rfl (by decide) rfl ?_
          exact j_iret jb jr dX0_sumOf_69 ⟨_, rfl, rfl, ⟨by rw [hi3, show i = to by omega], hi4, hi5⟩⟩
        · skip
          refine j_iload_n jb dX0_sumOf_19 3 rfl ?_
          refine j_aload_n jb dX0_sumOf_20 0 rfl ?_
          refine j_get jb f_X0_9 dX0_sumOf_21 0 rfl rfl ?_
          refine j_iload jb dX0_sumOf_24 4 rfl ?_
          refine j_iald jb dX0_sumOf_26 1 rfl (by omega) (by decide) ?_
          refine j_ixor jb dX0_sumOf_27 ?_
          refine j_istore_n (lv' := [(3, .int (iI (zXor s (B i)))), (0, .ref h0), (1, .int (iI fr)), (2, .int (iI to)), (4, .int (iI i))]) jb dX0_sumOf_28 rfl (by decide) rfl ?_
          refine j_iconst jb dX0_sumOf_29 ?_
          refine j_istore (lv' := [(5, .int (iI 0)), (3, .int (iI (zXor s (B i)))), (0, .ref h0), (1, .int (iI fr)), (2, .int (iI to)), (4, .int (iI i))]) jb dX0_sumOf_30 (by decide) rfl ?_
          have L32 : ∀ (fu : Nat) (s2 t : Int), (0 ≤ t ∧ t ≤ 8 ∧ s2 = crcR t.toNat (zXor s (B i)) ∧ 0 ≤ s2 ∧ s2 < 256) → (8 - t).toNat < fu → JW x 0 0 32 [(0, .ref h0), (1, .int (iI fr)), (2, .int (iI to)), (3, .int (iI s2)), (4, .int (iI i)), (5, .int (iI t))] [] [(h0, oX0 h1 len fa pos), (h1, aI x.g 2400 B)] := by
            intro fu
            induction fu with
            | zero => intro s2 t _ hm; exact absurd hm (by omega)
            | succ fu ih =>
              intro s2 t ⟨hk1, hk2, hk3, hk4, hk5⟩ hm32
              have ih32 := ih
              clear ih
              refine j_iload jb dX0_sumOf_32 5 rfl ?_
              refine j_bipush jb dX0_sumOf_34 (by decide) ?_
              refine j_icmp_ge (tgt := 62) jb dX0_sumOf_36 (by decide) (by omega) (by omega) (fun c_36 => ?_) (fun c_36 => ?_)
              · skip
                refine j_iinc (lv' := [(4, .int (iI (i + 1))), (0, .ref h0), (1, .int (iI fr)), (2, .int (iI to)), (3, .int (iI s2)), (5, .int (iI t))]) jb dX0_sumOf_62 4 rfl (by decide) rfl ?_
                refine j_goto (tgt := 5) jb dX0_sumOf_65 (by decide) ?_
                refine j_norm (lv' := [(0, .ref h0), (1, .int (iI fr)), (2, .int (iI to)), (3, .int (iI s2)), (4, .int (iI (i + 1)))]) (st' := []) (ws' := [(h0, oX0 h1 len fa pos), (h1, aI x.g 2400 B)]) [1, 2, 3, 4, 0] [0, 1] rfl rfl (by decide) rfl ?_
                exact ih5 s2 (i + 1) ⟨by omega, by omega, by rw [crc_next hi1 hi3, hk3, show t.toNat = 8 by omega], hk4, hk5⟩ (by omega)
              · skip
                refine j_iload_n jb dX0_sumOf_39 3 rfl ?_
                refine j_iconst jb dX0_sumOf_40 ?_
                refine j_imul jb dX0_sumOf_41 ?_
                refine j_istore_n (lv' := [(3, .int (iI (s2 * 2))), (0, .ref h0), (1, .int (iI fr)), (2, .int (iI to)), (4, .int (iI i)), (5, .int (iI t))]) jb dX0_sumOf_42 rfl (by decide) rfl ?_
                refine j_iload_n jb dX0_sumOf_43 0 rfl ?_
                refine j_sipush jb dX0_sumOf_44 (by decide) ?_
                refine j_icmp_le (tgt := 56) jb dX0_sumOf_47 (by decide) (by omega) (by omega) (fun c_47 => ?_) (fun c_47 => ?_)
                · skip
                  refine j_iinc (lv' := [(5, .int (iI (t + 1))), (3, .int (iI (s2 * 2))), (0, .ref h0), (1, .int (iI fr)), (2, .int (iI to)), (4, .int (iI i))]) jb dX0_sumOf_56 5 rfl (by decide) rfl ?_
                  refine j_goto (tgt := 32) jb dX0_sumOf_59 (by decide) ?_
                  refine j_norm (lv' := [(0, .ref h0), (1, .int (iI fr)), (2, .int (iI to)), (3, .int (iI (s2 * 2))), (4, .int (iI i)), (5, .int (iI (t + 1)))]) (st' := []) (ws' := [(h0, oX0 h1 len fa pos), (h1, aI x.g 2400 B)]) [2, 3, 4, 1, 5, 0] [0, 1] rfl rfl (by decide) rfl ?_
                  exact ih32 (s2 * 2) (t + 1) (by have z := crc1_in ⟨hk4, hk5⟩; have y := crc_step hk1 hk3; first | (rw [crc1_lo c_47] at z y; exact ⟨by omega, by omega, y.symm, z.1, z.2⟩) | (rw [crc1_hi c_47] at z y; exact ⟨by omega, by omega, y.symm, z.1, z.2⟩)) (by omega)
                · skip
                  refine j_iload_n jb dX0_sumOf_50 0 rfl ?_
                  refine j_sipush jb dX0_sumOf_51 (by decide) ?_
                  refine j_ixor jb dX0_sumOf_54 ?_
                  refine j_istore_n (lv' := [(3, .int (iI (zXor (s2 * 2) 263))), (0, .ref h0), (1, .int (iI fr)), (2, .int (iI to)), (4, .int (iI i)), (5, .int (iI t))]) jb dX0_sumOf_55 rfl (by decide) rfl ?_
                  refine j_iinc (lv' := [(5, .int (iI (t + 1))), (3, .int (iI (zXor (s2 * 2) 263))), (0, .ref h0), (1, .int (iI fr)), (2, .int (iI to)), (4, .int (iI i))]) jb dX0_sumOf_56 5 rfl (by decide) rfl ?_
                  refine j_goto (tgt := 32) jb dX0_sumOf_59 (by decide) ?_
                  refine j_norm (lv' := [(0, .ref h0), (1, .int (iI fr)), (2, .int (iI to)), (3, .int (iI (zXor (s2 * 2) 263))), (4, .int (iI i)), (5, .int (iI (t + 1)))]) (st' := []) (ws' := [(h0, oX0 h1 len fa pos), (h1, aI x.g 2400 B)]) [2, 3, 4, 1, 5, 0] [0, 1] rfl rfl (by decide) rfl ?_
                  exact ih32 (zXor (s2 * 2) 263) (t + 1) (by have z := crc1_in ⟨hk4, hk5⟩; have y := crc_step hk1 hk3; first | (rw [crc1_lo c_47] at z y; exact ⟨by omega, by omega, y.symm, z.1, z.2⟩) | (rw [crc1_hi c_47] at z y; exact ⟨by omega, by omega, y.symm, z.1, z.2⟩)) (by omega)
          refine j_norm (lv' := [(0, .ref h0), (1, .int (iI fr)), (2, .int (iI to)), (3, .int (iI (zXor s (B i)))), (4, .int (iI i)), (5, .int (iI 0))]) (st' := []) (ws' := [(h0, oX0 h1 len fa pos), (h1, aI x.g 2400 B)]) [2, 3, 4, 1, 5, 0] [0, 1] rfl rfl (by decide) rfl ?_
          exact L32 _ (zXor s (B i)) 0 ⟨by decide, by decide, rfl, (zXor_8 ⟨hi4, hi5⟩ (hB i (by omega) (by omega))).1, (zXor_8 ⟨hi4, hi5⟩ (hB i (by omega) (by omega))).2⟩ (Nat.lt_succ_self _)
  refine j_norm (lv' := [(0, .ref h0), (1, .int (iI fr)), (2, .int (iI to)), (3, .int (iI 0)), (4, .int (iI fr))]) (st' := []) (ws' := [(h0, oX0 h1 len fa pos), (h1, aI x.g 2400 B)]) [2, 3, 4, 1, 0] [0, 1] rfl rfl (by decide) rfl ?_
  exact L5 _ 0 fr ⟨Int.le_refl _, hf.2.1, by rw [Int.sub_self]; rfl, by decide, by decide⟩ (Nat.lt_succ_self _)

set_option maxHeartbeats 4000000 in
set_option maxRecDepth 100000 in
theorem C_X0_writeBit (l : Launch) (g : GG) (h0 h1 : Nat) (B : Int → Int) (len fa pos : Int) (bit : Int) (hB : isBytes B) (hp : 0 ≤ pos ∧ pos < 19200) (hb : bit = 0 ∨ bit = 1) : Ctr l g yX0_writeBit cX0_writeBit 4 none 0 0 0 0 [.ref h0, .int (iI bit)] [(h0, oX0 h1 len fa pos), (h1, aI g 2400 B)] (fun vv ww => ∃ (B2 : Int → Int), vv = none ∧ ww = [(h0, oX0 h1 len fa (pos + 1)), (h1, aI g 2400 B2)] ∧ wrote 2400 B pos [bit] B2) := by
  refine Ctr.of [(0, .ref h0), (1, .int (iI bit))] (by decide) (Nat.le_of_ble_eq_true rfl) rfl ?_
  intro x hxl hxg jb jr hin
  subst hxl; subst hxg
  refine j_aload_n jb dX0_writeBit_0 0 rfl ?_
  refine j_get jb f_X0_19 dX0_writeBit_1 0 rfl rfl ?_
  refine j_iconst jb dX0_writeBit_4 ?_
  refine j_ishr jb dX0_writeBit_5 (by omega) (by omega) ?_
  refine j_topi (pos / 8) (p3 pos) ?_
  refine j_istore_n (lv' := [(2, .int (iI (pos / 8))), (0, .ref h0), (1, .int (iI bit))]) jb dX0_writeBit_6 rfl (by decide) rfl ?_
  refine j_iload_n jb dX0_writeBit_7 0 rfl ?_
  refine j_sipush jb dX0_writeBit_8 (by decide) ?_
  refine j_icmp_ge (tgt := 67) jb dX0_writeBit_11 (by decide) (by omega) (by omega) (fun c_11 => ?_) (fun c_11 => ?_)
  · skip
    exact absurd c_11 (by omega)
  · skip
    refine j_sipush jb dX0_writeBit_14 (by decide) ?_
    refine j_aload_n jb dX0_writeBit_17 1 rfl ?_
    refine j_get jb f_X0_19 dX0_writeBit_18 0 rfl rfl ?_
    refine j_bipush jb dX0_writeBit_21 (by decide) ?_
    refine j_iand jb dX0_writeBit_23 ?_
    refine j_topi (pos % 8) (zAnd_7 pos) ?_
    refine j_ishr jb dX0_writeBit_24 (by omega) (by omega) ?_
    refine j_istore_n (lv' := [(3, .int (iI (128 / 2 ^ (pos % 8).toNat))), (2, .int (iI (pos / 8))), (0, .ref h0), (1, .int (iI bit))]) jb dX0_writeBit_25 rfl (by decide) rfl ?_
    refine j_aload_n jb dX0_writeBit_26 2 rfl ?_
    refine j_get jb f_X0_9 dX0_writeBit_27 0 rfl rfl ?_
    refine j_iload_n jb dX0_writeBit_30 1 rfl ?_
    refine j_iload_n jb dX0_writeBit_31 3 rfl ?_
    refine j_if_ne (tgt := 48) jb dX0_writeBit_32 (by decide) (by omega) (fun c_32 => ?_) (fun c_32 => ?_)
    · skip
      refine j_aload_n jb dX0_writeBit_48 2 rfl ?_
      refine j_get jb f_X0_9 dX0_writeBit_49 0 rfl rfl ?_
      refine j_iload_n jb dX0_writeBit_52 1 rfl ?_
      refine j_iald jb dX0_writeBit_53 1 rfl (by omega) (by decide) ?_
      refine j_iload_n jb dX0_writeBit_54 0 rfl ?_
      refine j_ior jb dX0_writeBit_55 ?_
      refine j_iast (ws' := [(h0, oX0 h1 len fa pos), (h1, aI x.g 2400 (zup B (pos / 8) (zOr (B (pos / 8)) (128 / 2 ^ (pos % 8).toNat))))]) jb dX0_writeBit_56 1 rfl (by omega) (by decide) rfl ?_
      refine j_aload_n jb dX0_writeBit_57 2 rfl ?_
      refine j_dup jb dX0_writeBit_58 rfl ?_
      refine j_get jb f_X0_19 dX0_writeBit_59 0 rfl rfl ?_
      refine j_iconst jb dX0_writeBit_62 ?_
      refine j_iadd jb dX0_writeBit_63 ?_
      refine j_put (ws' := [(h0, oX0 h1 len fa (pos + 1)), (h1, aI x.g 2400 (zup B (pos / 8) (zOr (B (pos / 8)) (128 / 2 ^ (pos % 8).toNat))))]) jb f_X0_19 w_X0_3 rfl dX0_writeBit_64 0 rfl rfl rfl (Nat.le_of_ble_eq_true rfl) rfl ?_
      refine j_norm (lv' := []) (st' := []) (ws' := [(h0, oX0 h1 len fa (pos + 1)), (h1, aI x.g 2400 (zup B (pos / 8) (zOr (B (pos / 8)) (128 / 2 ^ (pos % 8).toNat))))]) [] [0, 1] rfl rfl (by decide) rfl ?_
      exact j_vret jb jr dX0_writeBit_67 ⟨_, rfl, rfl, (by have z := wrote_one (N := 2400) (bit := bit) hB hp.1 (by omega) hb; unfold putB at z; first | (rw [if_pos c_32] at z; exact z) | (rw [if_neg c_32] at z; exact z))⟩
    · skip
      refine j_aload_n jb dX0_writeBit_35 2 rfl ?_
      refine j_get jb f_X0_9 dX0_writeBit_36 0 rfl rfl ?_
      refine j_iload_n jb dX0_writeBit_39 1 rfl ?_
      refine j_iald jb dX0_writeBit_40 1 rfl (by omega) (by decide) ?_
      refine j_iload_n jb dX0_writeBit_41 0 rfl ?_
      refine j_iconst jb dX0_writeBit_42 ?_
      refine j_ixor jb dX0_writeBit_43 ?_
      refine j_iand jb dX0_writeBit_44 ?_
      refine j_goto (tgt := 56) jb dX0_writeBit_45 (by decide) ?_
      refine j_iast (ws' := [(h0, oX0 h1 len fa pos), (h1, aI x.g 2400 (zup B (pos / 8) (zAnd (B (pos / 8)) (zXor (128 / 2 ^ (pos % 8).toNat) (-1)))))]) jb dX0_writeBit_56 1 rfl (by omega) (by decide) rfl ?_
      refine j_aload_n jb dX0_writeBit_57 2 rfl ?_
      refine j_dup jb dX0_writeBit_58 rfl ?_
      refine j_get jb f_X0_19 dX0_writeBit_59 0 rfl rfl ?_
      refine j_iconst jb dX0_writeBit_62 ?_
      refine j_iadd jb dX0_writeBit_63 ?_
      refine j_put (ws' := [(h0, oX0 h1 len fa (pos + 1)), (h1, aI x.g 2400 (zup B (pos / 8) (zAnd (B (pos / 8)) (zXor (128 / 2 ^ (pos % 8).toNat) (-1)))))]) jb f_X0_19 w_X0_3 rfl dX0_writeBit_64 0 rfl rfl rfl (Nat.le_of_ble_eq_true rfl) rfl ?_
      refine j_norm (lv' := []) (st' := []) (ws' := [(h0, oX0 h1 len fa (pos + 1)), (h1, aI x.g 2400 (zup B (pos / 8) (zAnd (B (pos / 8)) (zXor (128 / 2 ^ (pos % 8).toNat) (-1)))))]) [] [0, 1] rfl rfl (by decide) rfl ?_
      exact j_vret jb jr dX0_writeBit_67 ⟨_, rfl, rfl, (by have z := wrote_one (N := 2400) (bit := bit) hB hp.1 (by omega) hb; unfold putB at z; first | (rw [if_pos c_32] at z; exact z) | (rw [if_neg c_32] at z; exact z))⟩

set_option maxHeartbeats 4000000 in
set_option maxRecDepth 100000 in
theorem C_X0_write (l : Launch) (g : GG) (h0 h1 : Nat) (B : Int → Int) (len fa pos : Int) (num bits : Int) (hB : isBytes B) (hn : inR num) (hb : 0 ≤ bits ∧ bits ≤ 31) (hp : 0 ≤ pos ∧ pos + bits ≤ 19200) : Ctr l g yX0_write cX0_write 4 none 1 30 0 0 [.ref h0, .int (iI num), .int (iI bits)] [(h0, oX0 h1 len fa pos), (h1, aI g 2400 B)] (fun vv ww => ∃ (B2 : Int → Int) (pos2 : Int), vv = none ∧ ww = [(h0, oX0 h1 len fa pos2), (h1, aI g 2400 B2)] ∧ wrote 2400 B pos (nb num bits.toNat bits.toNat) B2 ∧ pos2 = pos + bits) := by
  refine Ctr.of [(0, .ref h0), (1, .int (iI num)), (2, .int (iI bits))] (by decide) (Nat.le_of_ble_eq_true rfl) rfl ?_
  intro x hxl hxg jb jr hin
  subst hxl; subst hxg
  refine j_iload_n jb dX0_write_0 2 rfl ?_
  refine j_iconst jb dX0_write_1 ?_
  refine j_isub jb dX0_write_2 ?_
  refine j_istore_n (lv' := [(3, .int (iI (bits - 1))), (0, .ref h0), (1, .int (iI num)), (2, .int (iI bits))]) jb dX0_write_3 rfl (by decide) rfl ?_
  have L4 : ∀ (fu : Nat) (i p : Int) (B1 : Int → Int), (-1 ≤ i ∧ i ≤ bits - 1 ∧ p = pos + (bits - 1 - i) ∧ wrote 2400 B pos (nb num bits.toNat (bits - 1 - i).toNat) B1) → (i + 1).toNat < fu → JW x 0 0 4 [(0, .ref h0), (1, .int (iI num)), (2, .int (iI bits)), (3, .int (iI i))] [] [(h0, oX0 h1 len fa p), (h1, aI x.g 2400 B1)] := by
    intro fu
    induction fu with
    | zero => intro i p B1 _ hm; exact absurd hm (by omega)
    | succ fu ih =>
      intro i p B1 ⟨hi1, hi2, hi3, hi4⟩ hm4
      have ih4 := ih
      clear ih
      refine j_iload_n jb dX0_write_4 3 rfl ?_
      refine j_if_lt (tgt := 23) jb dX0_write_5 (by decide) (by omega) (fun c_5 => ?_) (fun c_5 => ?_)
      · skip
        refine j_norm (lv' := []) (st' := []) (ws' := [(h0, oX0 h1 len fa p), (h1, aI x.g 2400 B1)]) [] [0, 1] rfl rfl (by decide) rfl ?_
        exact j_vret jb jr dX0_write_23 ⟨_, _, rfl, rfl, ⟨by have z := hi4; rw [show bits - 1 - i = bits by omega] at z; exact z, by omega⟩⟩
      · skip
        refine j_aload_n jb dX0_write_8 0 rfl ?_
        refine j_iload_n jb dX0_write_9 1 rfl ?_
        refine j_iload_n jb dX0_write_10 3 rfl ?_
        refine j_ishr jb dX0_write_11 (by omega) (by omega) ?_
        refine j_iconst jb dX0_write_12 ?_
        refine j_iand jb dX0_write_13 ?_
        refine j_topi (num / 2 ^ i.toNat % 2) (zAnd_1 _) ?_
        refine j_callV (wr := []) jb k_X0_writeBit i_X0_writeBit s_X0_writeBit l_X0_25 (C_X0_writeBit x.l x.g h0 h1 B1 len fa p (num / 2 ^ i.toNat % 2) hi4.1 (by omega) (by omega)) 0 2 rfl rfl rfl [0, 1] [] (by decide) rfl rfl (by decide) (by decide) rfl rfl (Nat.le_of_ble_eq_true rfl) (by decide) dX0_write_14 (fun v w hp => ?_)
        obtain ⟨B2_14, rfl, rfl, h_14⟩ := hp
        refine j_norm (lv' := [(0, .ref h0), (1, .int (iI num)), (2, .int (iI bits)), (3, .int (iI i))]) (st' := []) (ws' := [(h0, oX0 h1 len fa (p + 1)), (h1, aI x.g 2400 B2_14)]) [0, 1, 2, 3] [0, 1] rfl rfl (by decide) rfl ?_
        refine j_iinc (lv' := [(3, .int (iI (i + -1))), (0, .ref h0), (1, .int (iI num)), (2, .int (iI bits))]) jb dX0_write_17 3 rfl (by decide) rfl ?_
        refine j_goto (tgt := 4) jb dX0_write_20 (by decide) ?_
        refine j_norm (lv' := [(0, .ref h0), (1, .int (iI num)), (2, .int (iI bits)), (3, .int (iI (i + -1)))]) (st' := []) (ws' := [(h0, oX0 h1 len fa (p + 1)), (h1, aI x.g 2400 B2_14)]) [1, 2, 3, 0] [0, 1] rfl rfl (by decide) rfl ?_
        exact ih4 (i + -1) (p + 1) B2_14 ⟨by omega, by omega, by omega, by rw [show (bits - 1 - (i + -1)).toNat = (bits - 1 - i).toNat + 1 by omega, nb_succ, show bits.toNat - 1 - (bits - 1 - i).toNat = i.toNat by omega]; exact wrote_app hi4 h_14 hp.1 (by rw [nb_len]; omega)⟩ (by omega)
  refine j_norm (lv' := [(0, .ref h0), (1, .int (iI num)), (2, .int (iI bits)), (3, .int (iI (bits - 1)))]) (st' := []) (ws' := [(h0, oX0 h1 len fa pos), (h1, aI x.g 2400 B)]) [1, 2, 3, 0] [0, 1] rfl rfl (by decide) rfl ?_
  exact L4 _ (bits - 1) pos B ⟨by omega, by omega, by omega, by rw [show bits - 1 - (bits - 1) = 0 by omega]; exact wrote_nil hB⟩ (Nat.lt_succ_self _)

set_option maxHeartbeats 4000000 in
set_option maxRecDepth 100000 in
theorem C_X0_writeFolded (l : Launch) (g : GG) (h0 h1 : Nat) (B : Int → Int) (len fa pos : Int) (u k : Int) (hB : isBytes B) (hu : 0 ≤ u ∧ u < 16777216) (hk : 0 ≤ k ∧ k ≤ 14) (hp : 0 ≤ pos ∧ pos + u / 2 ^ k.toNat + 1 + k ≤ 19200) : Ctr l g yX0_writeFolded cX0_writeFolded 4 none 2 60 0 0 [.ref h0, .int (iI u), .int (iI k)] [(h0, oX0 h1 len fa pos), (h1, aI g 2400 B)] (fun vv ww => ∃ (B2 : Int → Int) (pos2 : Int), vv = none ∧ ww = [(h0, oX0 h1 len fa pos2), (h1, aI g 2400 B2)] ∧ wrote 2400 B pos (List.replicate (u / 2 ^ k.toNat).toNat 1 ++ [0] ++ nb u k.toNat k.toNat) B2 ∧ pos2 = pos + u / 2 ^ k.toNat + 1 + k) := by
  refine Ctr.of [(0, .ref h0), (1, .int (iI u)), (2, .int (iI k))] (by decide) (Nat.le_of_ble_eq_true rfl) rfl ?_
  intro x hxl hxg jb jr hin
  subst hxl; subst hxg
  have q := ediv_in (a := u) k.toNat (M := 16777216) (by decide) (by omega) (by omega)
  have q0 : 0 ≤ u / 2 ^ k.toNat := Int.ediv_nonneg hu.1 (Int.le_of_lt (pw_pos k))
  refine j_iconst jb dX0_writeFolded_0 ?_
  refine j_istore_n (lv' := [(3, .int (iI 0)), (0, .ref h0), (1, .int (iI u)), (2, .int (iI k))]) jb dX0_writeFolded_1 rfl (by decide) rfl ?_
  have L2 : ∀ (fu : Nat) (o p : Int) (B1 : Int → Int), (0 ≤ o ∧ o ≤ u / 2 ^ k.toNat ∧ p = pos + o ∧ wrote 2400 B pos (List.replicate o.toNat 1) B1) → (u / 2 ^ k.toNat - o).toNat < fu → JW x 0 0 2 [(0, .ref h0), (1, .int (iI u)), (2, .int (iI k)), (3, .int (iI o))] [] [(h0, oX0 h1 len fa p), (h1, aI x.g 2400 B1)] := by
    intro fu
    induction fu with
    | zero => intro o p B1 _ hm; exact absurd hm (by omega)
    | succ fu ih =>
      intro o p B1 ⟨hi1, hi2, hi3, hi4⟩ hm2
      have ih2 := ih
      clear ih
      refine j_iload_n jb dX0_writeFolded_2 3 rfl ?_
      refine j_iload_n jb dX0_writeFolded_3 1 rfl ?_
      refine j_iload_n jb dX0_writeFolded_4 2 rfl ?_
      refine j_ishr jb dX0_writeFolded_5 (by omega) (by omega) ?_
      refine j_icmp_ge (tgt := 20) jb dX0_writeFolded_6 (by decide) (by omega) (by omega) (fun c_6 => ?_) (fun c_6 => ?_)
      · skip
        have ho : o = u / 2 ^ k.toNat := by omega
        refine j_aload_n jb dX0_writeFolded_20 0 rfl ?_
        refine j_iconst jb dX0_writeFolded_21 ?_
        refine j_callV (wr := []) jb k_X0_writeBit i_X0_writeBit s_X0_writeBit l_X0_25 (C_X0_writeBit x.l x.g h0 h1 B1 len fa p 0 hi4.1 (by omega) (by omega)) 0 2 rfl rfl rfl [0, 1] [] (by decide) rfl rfl (by decide) (by decide) rfl rfl (Nat.le_of_ble_eq_true rfl) (by decide) dX0_writeFolded_22 (fun v w hp => ?_)
        obtain ⟨B2_22, rfl, rfl, h_22⟩ := hp
        refine j_norm (lv' := [(0, .ref h0), (1, .int (iI u)), (2, .int (iI k)), (3, .int (iI o))]) (st' := []) (ws' := [(h0, oX0 h1 len fa (p + 1)), (h1, aI x.g 2400 B2_22)]) [0, 1, 2, 3] [0, 1] rfl rfl (by decide) rfl ?_
        refine j_aload_n jb dX0_writeFolded_25 0 rfl ?_
        refine j_iload_n jb dX0_writeFolded_26 1 rfl ?_
        refine j_iload_n jb dX0_writeFolded_27 2 rfl ?_
        refine j_callV (wr := []) jb k_X0_write i_X0_write s_X0_write l_X0_29 (C_X0_write x.l x.g h0 h1 B2_22 len fa (p + 1) u k h_22.1 (by omega) (by omega) (by omega)) 0 2 rfl rfl rfl [0, 1] [] (by decide) rfl rfl (by decide) (by decide) rfl rfl (Nat.le_of_ble_eq_true rfl) (by decide) dX0_writeFolded_28 (fun v w hp => ?_)
        obtain ⟨B2_28, pos2_28, rfl, rfl, h_28⟩ := hp
        refine j_norm (lv' := [(0, .ref h0), (1, .int (iI u)), (2, .int (iI k)), (3, .int (iI o))]) (st' := []) (ws' := [(h0, oX0 h1 len fa pos2_28), (h1, aI x.g 2400 B2_28)]) [0, 1, 2, 3] [0, 1] rfl rfl (by decide) rfl ?_
        refine j_norm (lv' := []) (st' := []) (ws' := [(h0, oX0 h1 len fa pos2_28), (h1, aI x.g 2400 B2_28)]) [] [0, 1] rfl rfl (by decide) rfl ?_
        exact j_vret jb jr dX0_writeFolded_31 ⟨_, _, rfl, rfl, ⟨by rw [← ho]; exact wrote_app (wrote_app hi4 h_22 hp.1 (by simp; omega)) h_28.1 hp.1 (by simp; omega), by omega⟩⟩
      · skip
        refine j_aload_n jb dX0_writeFolded_9 0 rfl ?_
        refine j_iconst jb dX0_writeFolded_10 ?_
        refine j_callV (wr := []) jb k_X0_writeBit i_X0_writeBit s_X0_writeBit l_X0_25 (C_X0_writeBit x.l x.g h0 h1 B1 len fa p 1 hi4.1 (by omega) (by omega)) 0 2 rfl rfl rfl [0, 1] [] (by decide) rfl rfl (by decide) (by decide) rfl rfl (Nat.le_of_ble_eq_true rfl) (by decide) dX0_writeFolded_11 (fun v w hp => ?_)
        obtain ⟨B2_11, rfl, rfl, h_11⟩ := hp
        refine j_norm (lv' := [(0, .ref h0), (1, .int (iI u)), (2, .int (iI k)), (3, .int (iI o))]) (st' := []) (ws' := [(h0, oX0 h1 len fa (p + 1)), (h1, aI x.g 2400 B2_11)]) [0, 1, 2, 3] [0, 1] rfl rfl (by decide) rfl ?_
        refine j_iinc (lv' := [(3, .int (iI (o + 1))), (0, .ref h0), (1, .int (iI u)), (2, .int (iI k))]) jb dX0_writeFolded_14 3 rfl (by decide) rfl ?_
        refine j_goto (tgt := 2) jb dX0_writeFolded_17 (by decide) ?_
        refine j_norm (lv' := [(0, .ref h0), (1, .int (iI u)), (2, .int (iI k)), (3, .int (iI (o + 1)))]) (st' := []) (ws' := [(h0, oX0 h1 len fa (p + 1)), (h1, aI x.g 2400 B2_11)]) [1, 2, 3, 0] [0, 1] rfl rfl (by decide) rfl ?_
        exact ih2 (o + 1) (p + 1) B2_11 ⟨by omega, by omega, by omega, by rw [show (o + 1).toNat = o.toNat + 1 by omega, List.replicate_succ']; exact wrote_app hi4 h_11 hp.1 (by simp; omega)⟩ (by omega)
  refine j_norm (lv' := [(0, .ref h0), (1, .int (iI u)), (2, .int (iI k)), (3, .int (iI 0))]) (st' := []) (ws' := [(h0, oX0 h1 len fa pos), (h1, aI x.g 2400 B)]) [1, 2, 3, 0] [0, 1] rfl rfl (by decide) rfl ?_
  exact L2 _ 0 pos B ⟨by decide, q0, by omega, wrote_nil hB⟩ (Nat.lt_succ_self _)

set_option maxHeartbeats 4000000 in
set_option maxRecDepth 100000 in
theorem C_X0_read (l : Launch) (g : GG) (h0 h1 : Nat) (B : Int → Int) (len fa pos : Int) (bits : Int) (hB : isBytes B) (hl : 0 ≤ len ∧ len ≤ 2400) (hf : inR fa) (hb : 0 ≤ bits ∧ bits ≤ 31) (hp : 0 ≤ pos ∧ pos ≤ 8 * len) : Ctr l g yX0_read cX0_read 4 (some .int) 1 30 0 0 [.ref h0, .int (iI bits)] [(h0, oX0 h1 len fa pos), (h1, aI g 2400 B)] (fun vv ww => ∃ (r fa2 pos2 : Int), vv = some (.int (iI r)) ∧ ww = [(h0, oX0 h1 len fa2 pos2), (h1, aI g 2400 B)] ∧ rdRel B len fa pos bits r fa2 pos2 (num B pos bits.toNat)) := by
  refine Ctr.of [(0, .ref h0), (1, .int (iI bits))] (by decide) (Nat.le_of_ble_eq_true rfl) rfl ?_
  intro x hxl hxg jb jr hin
  subst hxl; subst hxg
  refine j_aload_n jb dX0_read_0 0 rfl ?_
  refine j_aload_n jb dX0_read_1 0 rfl ?_
  refine j_get jb f_X0_19 dX0_read_2 0 rfl rfl ?_
  refine j_iload_n jb dX0_read_5 1 rfl ?_
  refine j_iadd jb dX0_read_6 ?_
  refine j_bipush jb dX0_read_7 (by decide) ?_
  refine j_aload_n jb dX0_read_9 0 rfl ?_
  refine j_get jb f_X0_15 dX0_read_10 0 rfl rfl ?_
  refine j_imul jb dX0_read_13 ?_
  have J22 : ∀ (wr : Int), ((wr = 1 ∧ ¬ pos + bits ≤ 8 * len) ∨ (wr = 0 ∧ pos + bits ≤ 8 * len)) → JW x 0 0 22 [(0, .ref h0), (1, .int (iI bits))] [.int (iI wr), .ref h0] [(h0, oX0 h1 len fa pos), (h1, aI x.g 2400 B)] := by
    intro wr hj22
    refine j_iconst jb dX0_read_22 ?_
    refine j_callV (wr := [(h1, aI x.g 2400 B)]) jb k_X0_faultIf i_X0_faultIf s_X0_faultIf l_X0_33 (C_X0_faultIf x.l x.g h0 h1 len fa pos wr 1 (by omega) (by omega) (by omega)) 0 2 rfl rfl rfl [0] [1] (by decide) rfl rfl (by decide) (by decide) rfl rfl (Nat.le_of_ble_eq_true rfl) (by decide) dX0_read_23 (fun v w hp => ?_)
    obtain ⟨fa2_23, rfl, rfl, h23⟩ := hp
    refine j_norm (lv' := [(0, .ref h0), (1, .int (iI bits))]) (st' := [.int (iI (b2i (fa2_23 ≠ 0)))]) (ws' := [(h0, oX0 h1 len fa2_23 pos), (h1, aI x.g 2400 B)]) [0, 1] [1, 0] rfl rfl (by decide) rfl ?_
    refine j_ifb_eq (tgt := 31) jb dX0_read_26 (by decide) (fun c_26 => ?_) (fun c_26 => ?_)
    · skip
      have hf0 : fa = 0 ∧ pos + bits ≤ 8 * len := by unfold fltIf at h23; split at h23 <;> omega
      have hz0 : fa2_23 = 0 := by omega
      refine j_iconst jb dX0_read_31 ?_
      refine j_istore_n (lv' := [(2, .int (iI 0)), (0, .ref h0), (1, .int (iI bits))]) jb dX0_read_32 rfl (by decide) rfl ?_
      refine j_iconst jb dX0_read_33 ?_
      refine j_istore_n (lv' := [(3, .int (iI 0)), (2, .int (iI 0)), (0, .ref h0), (1, .int (iI bits))]) jb dX0_read_34 rfl (by decide) rfl ?_
      have L35 : ∀ (fu : Nat) (n i p : Int), (0 ≤ i ∧ i ≤ bits ∧ p = pos + i ∧ n = num B pos i.toNat) → (bits - i).toNat < fu → JW x 0 0 35 [(0, .ref h0), (1, .int (iI bits)), (2, .int (iI n)), (3, .int (iI i))] [] [(h0, oX0 h1 len fa2_23 p), (h1, aI x.g 2400 B)] := by
        intro fu
        induction fu with
        | zero => intro n i p _ hm; exact absurd hm (by omega)
        | succ fu ih =>
          intro n i p ⟨hi1, hi2, hi3, hi4⟩ hm35
          have ih35 := ih
          clear ih
          refine j_iload_n jb dX0_read_35 3 rfl ?_
          refine j_iload_n jb dX0_read_36 1 rfl ?_
          refine j_icmp_ge (tgt := 85) jb dX0_read_37 (by decide) (by omega) (by omega) (fun c_37 => ?_) (fun c_37 => ?_)
          · skip
            refine j_iload_n jb dX0_read_85 2 rfl ?_
            refine j_norm (lv' := []) (st' := [.int (iI n)]) (ws' := [(h0, oX0 h1 len fa2_23 p), (h1, aI x.g 2400 B)]) [] [0, 1] rfl rfl (by decide) rfl ?_
            exact j_iret jb jr dX0_read_86 ⟨_, _, _, rfl, rfl, ⟨fun _ => ⟨hz0, by omega, by rw [hi4, show i = bits by omega]⟩, fun h => absurd hf0 h⟩⟩
          · skip
            have hb8 := hB (p / 8) (by omega) (by omega)
            refine j_iconst jb dX0_read_40 ?_
            refine j_iload_n jb dX0_read_41 2 rfl ?_
            refine j_imul jb dX0_read_42 ?_
            refine j_aload_n jb dX0_read_43 0 rfl ?_
            refine j_get jb f_X0_9 dX0_read_44 0 rfl rfl ?_
            refine j_aload_n jb dX0_read_47 0 rfl ?_
            refine j_get jb f_X0_19 dX0_read_48 0 rfl rfl ?_
            refine j_iconst jb dX0_read_51 ?_
            refine j_ishr jb dX0_read_52 (by omega) (by omega) ?_
            refine j_topi (p / 8) (p3 _) ?_
            refine j_iald jb dX0_read_53 1 rfl (by omega) (by decide) ?_
            refine j_bipush jb dX0_read_54 (by decide) ?_
            refine j_aload_n jb dX0_read_56 0 rfl ?_
            refine j_get jb f_X0_19 dX0_read_57 0 rfl rfl ?_
            refine j_bipush jb dX0_read_60 (by decide) ?_
            refine j_iand jb dX0_read_62 ?_
            refine j_topi (p % 8) (zAnd_7 _) ?_
            refine j_isub jb dX0_read_63 ?_
            refine j_ishr jb dX0_read_64 (by omega) (by omega) ?_
            refine j_iconst jb dX0_read_65 ?_
            refine j_iand jb dX0_read_66 ?_
            refine j_topi (bitAt B p) (zAnd_1 _) ?_
            refine j_iadd jb dX0_read_67 ?_
            refine j_istore_n (lv' := [(2, .int (iI ((2 * n) + (bitAt B p)))), (0, .ref h0), (1, .int (iI bits)), (3, .int (iI i))]) jb dX0_read_68 rfl (by decide) rfl ?_
            refine j_aload_n jb dX0_read_69 1 rfl ?_
            refine j_dup jb dX0_read_70 rfl ?_
            refine j_get jb f_X0_19 dX0_read_71 0 rfl rfl ?_
            refine j_iconst jb dX0_read_74 ?_
            refine j_iadd jb dX0_read_75 ?_
            refine j_put (ws' := [(h0, oX0 h1 len fa2_23 (p + 1)), (h1, aI x.g 2400 B)]) jb f_X0_19 w_X0_3 rfl dX0_read_76 0 rfl rfl rfl (Nat.le_of_ble_eq_true rfl) rfl ?_
            refine j_iinc (lv' := [(3, .int (iI (i + 1))), (2, .int (iI ((2 * n) + (bitAt B p)))), (0, .ref h0), (1, .int (iI bits))]) jb dX0_read_79 3 rfl (by decide) rfl ?_
            refine j_goto (tgt := 35) jb dX0_read_82 (by decide) ?_
            refine j_norm (lv' := [(0, .ref h0), (1, .int (iI bits)), (2, .int (iI ((2 * n) + (bitAt B p)))), (3, .int (iI (i + 1)))]) (st' := []) (ws' := [(h0, oX0 h1 len fa2_23 (p + 1)), (h1, aI x.g 2400 B)]) [2, 3, 1, 0] [0, 1] rfl rfl (by decide) rfl ?_
            exact ih35 ((2 * n) + (bitAt B p)) (i + 1) (p + 1) ⟨by omega, by omega, by omega, by rw [hi3]; exact num_step hi1 hi4⟩ (by omega)
      refine j_norm (lv' := [(0, .ref h0), (1, .int (iI bits)), (2, .int (iI 0)), (3, .int (iI 0))]) (st' := []) (ws' := [(h0, oX0 h1 len fa2_23 pos), (h1, aI x.g 2400 B)]) [2, 3, 1, 0] [0, 1] rfl rfl (by decide) rfl ?_
      exact L35 _ 0 0 pos ⟨by decide, hb.1, by omega, rfl⟩ (Nat.lt_succ_self _)
    · skip
      refine j_iconst jb dX0_read_29 ?_
      refine j_norm (lv' := []) (st' := [.int (iI 0)]) (ws' := [(h0, oX0 h1 len fa2_23 pos), (h1, aI x.g 2400 B)]) [] [0, 1] rfl rfl (by decide) rfl ?_
      exact j_iret jb jr dX0_read_30 ⟨_, _, _, rfl, rfl, ⟨fun h => by unfold fltIf at h23; split at h23 <;> omega, fun h => ⟨by unfold fltIf at h23; split at h23 <;> split <;> omega, rfl, rfl⟩⟩⟩
  refine j_icmp_le (tgt := 21) jb dX0_read_14 (by decide) (by omega) (by omega) (fun c_14 => ?_) (fun c_14 => ?_)
  · skip
    refine j_iconst jb dX0_read_21 ?_
    refine j_norm (lv' := [(0, .ref h0), (1, .int (iI bits))]) (st' := [.int (iI 0), .ref h0]) (ws' := [(h0, oX0 h1 len fa pos), (h1, aI x.g 2400 B)]) [0, 1] [0, 1] rfl rfl (by decide) rfl ?_
    exact J22 0 (by omega)
  · skip
    refine j_iconst jb dX0_read_17 ?_
    refine j_goto (tgt := 22) jb dX0_read_18 (by decide) ?_
    refine j_norm (lv' := [(0, .ref h0), (1, .int (iI bits))]) (st' := [.int (iI 1), .ref h0]) (ws' := [(h0, oX0 h1 len fa pos), (h1, aI x.g 2400 B)]) [0, 1] [0, 1] rfl rfl (by decide) rfl ?_
    exact J22 1 (by omega)

set_option maxHeartbeats 4000000 in
set_option maxRecDepth 100000 in
theorem C_X0_readSigned (l : Launch) (g : GG) (h0 h1 : Nat) (B : Int → Int) (len fa pos : Int) (bits : Int) (hB : isBytes B) (hl : 0 ≤ len ∧ len ≤ 2400) (hf : inR fa) (hb : 0 ≤ bits ∧ bits ≤ 31) (hp : 0 ≤ pos ∧ pos ≤ 8 * len) : Ctr l g yX0_readSigned cX0_readSigned 2 (some .int) 2 60 0 0 [.ref h0, .int (iI bits)] [(h0, oX0 h1 len fa pos), (h1, aI g 2400 B)] (fun vv ww => ∃ (r fa2 pos2 : Int), vv = some (.int (iI r)) ∧ ww = [(h0, oX0 h1 len fa2 pos2), (h1, aI g 2400 B)] ∧ rdRel B len fa pos bits r fa2 pos2 (sgn (num B pos bits.toNat) bits)) := by
  refine Ctr.of [(0, .ref h0), (1, .int (iI bits))] (by decide) (Nat.le_of_ble_eq_true rfl) rfl ?_
  intro x hxl hxg jb jr hin
  subst hxl; subst hxg
  refine j_iload_n jb dX0_readSigned_0 1 rfl ?_
  refine j_if_ne (tgt := 8) jb dX0_readSigned_1 (by decide) (by omega) (fun c_1 => ?_) (fun c_1 => ?_)
  · skip
    refine j_aload_n jb dX0_readSigned_8 0 rfl ?_
    refine j_iload_n jb dX0_readSigned_9 1 rfl ?_
    refine j_callV (wr := []) jb k_X0_read i_X0_read s_X0_read l_X0_37 (C_X0_read x.l x.g h0 h1 B len fa pos bits hB (by omega) (by omega) (by omega) (by omega)) 0 2 rfl rfl rfl [0, 1] [] (by decide) rfl rfl (by decide) (by decide) rfl rfl (Nat.le_of_ble_eq_true rfl) (by decide) dX0_readSigned_10 (fun v w hp => ?_)
    obtain ⟨r1, fa1, pos1, rfl, rfl, h10⟩ := hp
    refine j_norm (lv' := [(0, .ref h0), (1, .int (iI bits))]) (st' := [.int (iI r1)]) (ws' := [(h0, oX0 h1 len fa1 pos1), (h1, aI x.g 2400 B)]) [0, 1] [0, 1] rfl rfl (by decide) rfl ?_
    refine j_iload_n jb dX0_readSigned_13 1 rfl ?_
    refine j_callSN (wr := [(h0, oX0 h1 len fa1 pos1), (h1, aI x.g 2400 B)]) jb k_X11_signed t_X11_signed n_X0_41 (C_X11_signed x.l x.g r1 bits (by omega)) [] [0, 1] (by decide) rfl rfl (by decide) (by decide) rfl rfl (Nat.le_of_ble_eq_true rfl) (by decide) dX0_readSigned_14 (fun v w hp => ?_)
    obtain ⟨rfl, rfl⟩ := hp
    refine j_norm (lv' := [(0, .ref h0), (1, .int (iI bits))]) (st' := [.int (iI (sgn r1 bits))]) (ws' := [(h0, oX0 h1 len fa1 pos1), (h1, aI x.g 2400 B)]) [0, 1] [0, 1] rfl rfl (by decide) rfl ?_
    refine j_norm (lv' := []) (st' := [.int (iI (sgn r1 bits))]) (ws' := [(h0, oX0 h1 len fa1 pos1), (h1, aI x.g 2400 B)]) [] [0, 1] rfl rfl (by decide) rfl ?_
    exact j_iret jb jr dX0_readSigned_17 ⟨_, _, _, rfl, rfl, (by first | (have z : bits = 0 := by omega); exact ⟨fun h => ⟨h.1, by omega, by rw [z]; rfl⟩, fun h => ⟨by rw [if_neg (by omega)], rfl, rfl⟩⟩ | exact ⟨fun h => ⟨(h10.1 h).1, (h10.1 h).2.1, by rw [(h10.1 h).2.2]⟩, fun h => ⟨(h10.2 h).1, (h10.2 h).2.1, by rw [(h10.2 h).2.2]; exact sgn_0 _⟩⟩)⟩
  · skip
    refine j_iconst jb dX0_readSigned_4 ?_
    refine j_goto (tgt := 17) jb dX0_readSigned_5 (by decide) ?_
    refine j_norm (lv' := []) (st' := [.int (iI 0)]) (ws' := [(h0, oX0 h1 len fa pos), (h1, aI x.g 2400 B)]) [] [0, 1] rfl rfl (by decide) rfl ?_
    exact j_iret jb jr dX0_readSigned_17 ⟨_, _, _, rfl, rfl, (by first | (have z : bits = 0 := by omega); exact ⟨fun h => ⟨h.1, by omega, by rw [z]; rfl⟩, fun h => ⟨by rw [if_neg (by omega)], rfl, rfl⟩⟩ | exact ⟨fun h => ⟨(h10.1 h).1, (h10.1 h).2.1, by rw [(h10.1 h).2.2]⟩, fun h => ⟨(h10.2 h).1, (h10.2 h).2.1, by rw [(h10.2 h).2.2]; exact sgn_0 _⟩⟩)⟩

set_option maxHeartbeats 4000000 in
set_option maxRecDepth 100000 in
theorem C_X0_readFolded (l : Launch) (g : GG) (h0 h1 : Nat) (B : Int → Int) (len fa pos : Int) (k : Int) (hB : isBytes B) (hl : 0 ≤ len ∧ len ≤ 2400) (hf : fa = 0) (hk : 0 ≤ k ∧ k ≤ 14) (hp : 0 ≤ pos ∧ pos ≤ 8 * len) : Ctr l g yX0_readFolded cX0_readFolded 4 (some .int) 2 60 0 0 [.ref h0, .int (iI k)] [(h0, oX0 h1 len fa pos), (h1, aI g 2400 B)] (fun vv ww => ∃ (r fa2 pos2 : Int), vv = some (.int (iI r)) ∧ ww = [(h0, oX0 h1 len fa2 pos2), (h1, aI g 2400 B)] ∧ (fa2 = (rfold B len k pos).1 ∧ (fa2 = 0 → r = (rfold B len k pos).2.1 ∧ pos2 = (rfold B len k pos).2.2)) ∧ (-16777216 ≤ r ∧ r ≤ 16777216) ∧ 0 ≤ pos2 ∧ pos2 ≤ 8 * len) := by
  refine Ctr.of [(0, .ref h0), (1, .int (iI k))] (by decide) (Nat.le_of_ble_eq_true rfl) rfl ?_
  intro x hxl hxg jb jr hin
  subst hxl; subst hxg
  have q1 := pw_pos (24 - k)
  have q2 : (2 : Int) ^ (24 - k).toNat ≤ 16777216 := by have := pw_le (k := 24 - k) 24 (by omega); simpa using this
  have q3 := pw_pos k
  refine j_iconst jb dX0_readFolded_0 ?_
  refine j_bipush jb dX0_readFolded_1 (by decide) ?_
  refine j_iload_n jb dX0_readFolded_3 1 rfl ?_
  refine j_isub jb dX0_readFolded_4 ?_
  refine j_ishl jb dX0_readFolded_5 (by omega) ?_
  refine j_topi (2 ^ (24 - k).toNat) (Int.one_mul _) ?_
  refine j_istore_n (lv' := [(2, .int (iI (2 ^ (24 - k).toNat))), (0, .ref h0), (1, .int (iI k))]) jb dX0_readFolded_6 rfl (by decide) rfl ?_
  refine j_iconst jb dX0_readFolded_7 ?_
  refine j_istore_n (lv' := [(3, .int (iI 0)), (2, .int (iI (2 ^ (24 - k).toNat))), (0, .ref h0), (1, .int (iI k))]) jb dX0_readFolded_8 rfl (by decide) rfl ?_
  have L9 : ∀ (fu : Nat) (o f1 p : Int), (0 ≤ o ∧ o ≤ 2 ^ (24 - k).toNat ∧ p = pos + o ∧ f1 = 0 ∧ p ≤ 8 * len ∧ frun B len (2 ^ (24 - k).toNat) pos = frun B len ((2 ^ (24 - k).toNat : Int) - o).toNat p) → (2 ^ (24 - k).toNat - o).toNat < fu → JW x 0 0 9 [(0, .ref h0), (1, .int (iI k)), (2, .int (iI (2 ^ (24 - k).toNat))), (3, .int (iI o))] [] [(h0, oX0 h1 len f1 p), (h1, aI x.g 2400 B)] := by
    intro fu
    induction fu with
    | zero => intro o f1 p _ hm; exact absurd hm (by omega)
    | succ fu ih =>
      intro o f1 p ⟨hi1, hi2, hi3, hi4, hi5, hi6⟩ hm9
      have ih9 := ih
      clear ih
      refine j_iload_n jb dX0_readFolded_9 3 rfl ?_
      refine j_iload_n jb dX0_readFolded_10 2 rfl ?_
      refine j_icmp_ge (tgt := 41) jb dX0_readFolded_11 (by decide) (by omega) (by omega) (fun c_11 => ?_) (fun c_11 => ?_)
      · skip
        refine j_aload_n jb dX0_readFolded_41 0 rfl ?_
        refine j_iconst jb dX0_readFolded_42 ?_
        refine j_bipush jb dX0_readFolded_43 (by decide) ?_
        refine j_callV (wr := [(h1, aI x.g 2400 B)]) jb k_X0_faultIf i_X0_faultIf s_X0_faultIf l_X0_33 (C_X0_faultIf x.l x.g h0 h1 len f1 p 1 8 (by omega) (by omega) (by omega)) 0 2 rfl rfl rfl [0] [1] (by decide) rfl rfl (by decide) (by decide) rfl rfl (Nat.le_of_ble_eq_true rfl) (by decide) dX0_readFolded_45 (fun v w hp => ?_)
        obtain ⟨fa4, rfl, rfl, h45⟩ := hp
        refine j_norm (lv' := [(0, .ref h0), (1, .int (iI k)), (2, .int (iI (2 ^ (24 - k).toNat))), (3, .int (iI o))]) (st' := [.int (iI (b2i (fa4 ≠ 0)))]) (ws' := [(h0, oX0 h1 len fa4 p), (h1, aI x.g 2400 B)]) [0, 1, 2, 3] [1, 0] rfl rfl (by decide) rfl ?_
        refine j_pop jb dX0_readFolded_48 rfl ?_
        refine j_iconst jb dX0_readFolded_49 ?_
        refine j_norm (lv' := []) (st' := [.int (iI 0)]) (ws' := [(h0, oX0 h1 len fa4 p), (h1, aI x.g 2400 B)]) [] [0, 1] rfl rfl (by decide) rfl ?_
        exact j_iret jb jr dX0_readFolded_50 ⟨_, _, _, rfl, rfl, (by have z := rfold_many hi6 (by omega); have y : fa4 = 8 := (by rw [h45, hi4]; try rfl); exact ⟨⟨by omega, fun h => by omega⟩, by omega, by omega, hi5⟩)⟩
      · skip
        refine j_aload_n jb dX0_readFolded_14 0 rfl ?_
        refine j_iconst jb dX0_readFolded_15 ?_
        refine j_callV (wr := []) jb k_X0_read i_X0_read s_X0_read l_X0_37 (C_X0_read x.l x.g h0 h1 B len f1 p 1 hB (by omega) (by omega) (by omega) (by omega)) 0 2 rfl rfl rfl [0, 1] [] (by decide) rfl rfl (by decide) (by decide) rfl rfl (Nat.le_of_ble_eq_true rfl) (by decide) dX0_readFolded_16 (fun v w hp => ?_)
        obtain ⟨r1, fa1, pos1, rfl, rfl, h16⟩ := hp
        refine j_norm (lv' := [(0, .ref h0), (1, .int (iI k)), (2, .int (iI (2 ^ (24 - k).toNat))), (3, .int (iI o))]) (st' := [.int (iI r1)]) (ws' := [(h0, oX0 h1 len fa1 pos1), (h1, aI x.g 2400 B)]) [0, 1, 2, 3] [0, 1] rfl rfl (by decide) rfl ?_
        refine j_if_ne (tgt := 35) jb dX0_readFolded_19 (by decide) (by have := rd_in (M := 2) h16 (num_in B p 1); omega) (fun c_19 => ?_) (fun c_19 => ?_)
        · skip
          refine j_iinc (lv' := [(3, .int (iI (o + 1))), (0, .ref h0), (1, .int (iI k)), (2, .int (iI (2 ^ (24 - k).toNat)))]) jb dX0_readFolded_35 3 rfl (by decide) rfl ?_
          refine j_goto (tgt := 9) jb dX0_readFolded_38 (by decide) ?_
          refine j_norm (lv' := [(0, .ref h0), (1, .int (iI k)), (2, .int (iI (2 ^ (24 - k).toNat))), (3, .int (iI (o + 1)))]) (st' := []) (ws' := [(h0, oX0 h1 len fa1 pos1), (h1, aI x.g 2400 B)]) [1, 2, 3, 0] [0, 1] rfl rfl (by decide) rfl ?_
          exact ih9 (o + 1) fa1 pos1 (by have w := rd_nz h16 c_19; rw [num_1] at w; exact ⟨by omega, by omega, by omega, by omega, by omega, by have z := frun_next hi6 (by omega) w.1.2 (by omega); rw [show (2 : Int) ^ (24 - k).toNat - o - 1 = 2 ^ (24 - k).toNat - (o + 1) by omega, show p + 1 = pos1 by omega] at z; exact z⟩) (by omega)
        · skip
          refine j_iload_n jb dX0_readFolded_22 3 rfl ?_
          refine j_iload_n jb dX0_readFolded_23 1 rfl ?_
          refine j_ishl jb dX0_readFolded_24 (by omega) ?_
          refine j_aload_n jb dX0_readFolded_25 0 rfl ?_
          refine j_iload_n jb dX0_readFolded_26 1 rfl ?_
          refine j_callV (wr := []) jb k_X0_read i_X0_read s_X0_read l_X0_37 (C_X0_read x.l x.g h0 h1 B len fa1 pos1 k hB (by omega) (by have := rd_fa h16; omega) (by omega) (rd_pos h16 (by decide) ⟨by omega, hi5⟩)) 0 2 rfl rfl rfl [0, 1] [] (by decide) rfl rfl (by decide) (by decide) rfl rfl (Nat.le_of_ble_eq_true rfl) (by decide) dX0_readFolded_27 (fun v w hp => ?_)
          obtain ⟨r2, fa2, pos2, rfl, rfl, h27⟩ := hp
          refine j_norm (lv' := [(0, .ref h0), (1, .int (iI k)), (2, .int (iI (2 ^ (24 - k).toNat))), (3, .int (iI o))]) (st' := [.int (iI r2), .int (iI (o * 2 ^ k.toNat))]) (ws' := [(h0, oX0 h1 len fa2 pos2), (h1, aI x.g 2400 B)]) [0, 1, 2, 3] [0, 1] rfl rfl (by decide) rfl ?_
          have hu := ones_in hi1 (by omega) hk (rd_in h27 (num_in B pos1 k.toNat))
          refine j_iadd jb dX0_readFolded_30 ?_
          refine j_callSN (wr := [(h0, oX0 h1 len fa2 pos2), (h1, aI x.g 2400 B)]) jb k_X11_unfold t_X11_unfold n_X0_45 (C_X11_unfold x.l x.g ((o * 2 ^ k.toNat) + r2) (by omega)) [] [0, 1] (by decide) rfl rfl (by decide) (by decide) rfl rfl (Nat.le_of_ble_eq_true rfl) (by decide) dX0_readFolded_31 (fun v w hp => ?_)
          obtain ⟨r3, rfl, rfl, h31⟩ := hp
          refine j_norm (lv' := [(0, .ref h0), (1, .int (iI k)), (2, .int (iI (2 ^ (24 - k).toNat))), (3, .int (iI o))]) (st' := [.int (iI r3)]) (ws' := [(h0, oX0 h1 len fa2 pos2), (h1, aI x.g 2400 B)]) [0, 1, 2, 3] [0, 1] rfl rfl (by decide) rfl ?_
          refine j_norm (lv' := []) (st' := [.int (iI r3)]) (ws' := [(h0, oX0 h1 len fa2 pos2), (h1, aI x.g 2400 B)]) [] [0, 1] rfl rfl (by decide) rfl ?_
          exact j_iret jb jr dX0_readFolded_34 ⟨_, _, _, rfl, rfl, (by have z := rfold_end hi3 hi4 hi6 (by omega) h16 c_19 h27; rw [h31]; exact ⟨⟨z.1, fun h => z.2 h⟩, unf_in hu, rd_pos h27 hk.1 (rd_pos h16 (by decide) ⟨by omega, hi5⟩)⟩)⟩
  refine j_norm (lv' := [(0, .ref h0), (1, .int (iI k)), (2, .int (iI (2 ^ (24 - k).toNat))), (3, .int (iI 0))]) (st' := []) (ws' := [(h0, oX0 h1 len fa pos), (h1, aI x.g 2400 B)]) [2, 3, 1, 0] [0, 1] rfl rfl (by decide) rfl ?_
  exact L9 _ 0 fa pos ⟨by decide, by omega, by omega, hf, hp.2, frun_0 _ _ _ _⟩ (Nat.lt_succ_self _)
end
section
/-! ===== foretelling ===== -/
def cfOk (c : Int → Int) : Prop := ∀ j, 0 ≤ j → j < 4 → -512 ≤ c j ∧ c j ≤ 511
/-- the values ahead of i -/
def vOk (v : Int → Int) (i : Int) : Prop := ∀ j, 0 ≤ j → j < i → -65536 ≤ v j ∧ v j ≤ 65536
def fsum (c v : Int → Int) (i : Int) : Nat → Int
  | 0 => 0
  | j + 1 => fsum c v i j + c j * v (i - 1 - j)
theorem fsum_next {c v : Int → Int} {i j s : Int} (h0 : 0 ≤ j) (h : s = fsum c v i j.toNat) : s + c j * v (i - 1 - j) = fsum c v i (j + 1).toNat := by
  rw [show (j + 1).toNat = j.toNat + 1 by omega, h]
  show _ = fsum c v i j.toNat + c (j.toNat : Int) * v (i - 1 - (j.toNat : Int))
  rw [show (j.toNat : Int) = j by omega]
theorem mul_in {a b A C : Int} (ha : -A ≤ a ∧ a ≤ A) (hb : -C ≤ b ∧ b ≤ C) (hA : 0 ≤ A) : -(A * C) ≤ a * b ∧ a * b ≤ A * C := by
  have hC : 0 ≤ C := by omega
  have h1 : a.natAbs ≤ A.natAbs := by omega
  have h2 : b.natAbs ≤ C.natAbs := by omega
  have h3 : (a * b).natAbs ≤ (A * C).natAbs := by rw [Int.natAbs_mul, Int.natAbs_mul]; exact Nat.mul_le_mul h1 h2
  have h4 : 0 ≤ A * C := Int.mul_nonneg hA hC
  omega
theorem fsum_in {c v : Int → Int} {i : Int} {n : Nat} (hn : n ≤ 4) (hi : (n : Int) ≤ i) (hc : cfOk c) (hv : vOk v i) : -((n : Int) * 33554432) ≤ fsum c v i n ∧ fsum c v i n ≤ (n : Int) * 33554432 := by
  induction n with
  | zero => exact ⟨show -((0 : Int) * 33554432) ≤ 0 by decide, show (0 : Int) ≤ 0 * 33554432 by decide⟩
  | succ n ih =>
    have h1 := ih (by omega) (by omega)
    have h2 := hc n (by omega) (by omega)
    have h3 := hv (i - 1 - n) (by omega) (by omega)
    have h4 := mul_in (A := 512) (C := 65536) (a := c n) (b := v (i - 1 - n)) (by omega) (by omega) (by decide)
    show _ ≤ fsum c v i n + c n * v (i - 1 - n) ∧ fsum c v i n + c n * v (i - 1 - n) ≤ _
    omega
end
section
set_option maxHeartbeats 4000000 in
set_option maxRecDepth 100000 in
theorem C_X1_foretell (l : Launch) (g : GG) (h0 hc hv : Nat) (cf v : Int → Int) (o sh i : Int) (ho : 0 ≤ o ∧ o ≤ 4) (hs : 0 ≤ sh ∧ sh ≤ 15) (hi : o ≤ i ∧ i ≤ 400) (hcf : cfOk cf) (hv9 : vOk v i) : Ctr l g yX1_foretell cX1_foretell 5 (some .int) 0 0 0 0 [.ref h0, .ref hv, .int (iI i)] [(h0, oX1 hc o sh), (hc, aI g 4 cf), (hv, aI g 400 v)] (fun vv ww => vv = some (.int (iI (fsum cf v i o.toNat / 2 ^ sh.toNat))) ∧ ww = [(h0, oX1 hc o sh), (hc, aI g 4 cf), (hv, aI g 400 v)]) := by
  refine Ctr.of [(0, .ref h0), (1, .ref hv), (2, .int (iI i))] (by decide) (Nat.le_of_ble_eq_true rfl) rfl ?_
  intro x hxl hxg jb jr hin
  subst hxl; subst hxg
  refine j_iconst jb dX1_foretell_0 ?_
  refine j_istore_n (lv' := [(3, .int (iI 0)), (0, .ref h0), (1, .ref hv), (2, .int (iI i))]) jb dX1_foretell_1 rfl (by decide) rfl ?_
  refine j_iconst jb dX1_foretell_2 ?_
  refine j_istore (lv' := [(4, .int (iI 0)), (3, .int (iI 0)), (0, .ref h0), (1, .ref hv), (2, .int (iI i))]) jb dX1_foretell_3 (by decide) rfl ?_
  have L5 : ∀ (fu : Nat) (s j : Int), (0 ≤ j ∧ j ≤ o ∧ s = fsum cf v i j.toNat) → (o - j).toNat < fu → JW x 0 0 5 [(0, .ref h0), (1, .ref hv), (2, .int (iI i)), (3, .int (iI s)), (4, .int (iI j))] [] [(h0, oX1 hc o sh), (hc, aI x.g 4 cf), (hv, aI x.g 400 v)] := by
    intro fu
    induction fu with
    | zero => intro s j _ hm; exact absurd hm (by omega)
    | succ fu ih =>
      intro s j ⟨hi1, hi2, hi3⟩ hm5
      have ih5 := ih
      clear ih
      refine j_iload jb dX1_foretell_5 4 rfl ?_
      refine j_aload_n jb dX1_foretell_7 0 rfl ?_
      refine j_get jb f_X1_15 dX1_foretell_8 0 rfl rfl ?_
      refine j_icmp_ge (tgt := 45) jb dX1_foretell_11 (by decide) (by omega) (by omega) (fun c_11 => ?_) (fun c_11 => ?_)
      · skip
        have hj : j = o := by omega
        have hb9 := fsum_in (n := j.toNat) (by omega) (show (j.toNat : Int) ≤ i by omega) hcf hv9
        refine j_iload_n jb dX1_foretell_45 3 rfl ?_
        refine j_aload_n jb dX1_foretell_46 0 rfl ?_
        refine j_get jb f_X1_19 dX1_foretell_47 0 rfl rfl ?_
        refine j_ishr jb dX1_foretell_50 (by rw [hi3]; omega) (by omega) ?_
        refine j_topi (fsum cf v i o.toNat / 2 ^ sh.toNat) (by rw [hi3, hj]) ?_
        refine j_norm (lv' := []) (st' := [.int (iI (fsum cf v i o.toNat / 2 ^ sh.toNat))]) (ws' := [(h0, oX1 hc o sh), (hc, aI x.g 4 cf), (hv, aI x.g 400 v)]) [] [0, 1, 2] rfl rfl (by decide) rfl ?_
        exact j_iret jb jr dX1_foretell_51 ⟨rfl, rfl⟩
      · skip
        refine j_iload jb dX1_foretell_14 4 rfl ?_
        refine j_iload_n jb dX1_foretell_16 2 rfl ?_
        refine j_icmp_ge (tgt := 45) jb dX1_foretell_17 (by decide) (by omega) (by omega) (fun c_17 => ?_) (fun c_17 => ?_)
        · skip
          have hj : j = o := by omega
          have hb9 := fsum_in (n := j.toNat) (by omega) (show (j.toNat : Int) ≤ i by omega) hcf hv9
          refine j_iload_n jb dX1_foretell_45 3 rfl ?_
          refine j_aload_n jb dX1_foretell_46 0 rfl ?_
          refine j_get jb f_X1_19 dX1_foretell_47 0 rfl rfl ?_
          refine j_ishr jb dX1_foretell_50 (by rw [hi3]; omega) (by omega) ?_
          refine j_topi (fsum cf v i o.toNat / 2 ^ sh.toNat) (by rw [hi3, hj]) ?_
          refine j_norm (lv' := []) (st' := [.int (iI (fsum cf v i o.toNat / 2 ^ sh.toNat))]) (ws' := [(h0, oX1 hc o sh), (hc, aI x.g 4 cf), (hv, aI x.g 400 v)]) [] [0, 1, 2] rfl rfl (by decide) rfl ?_
          exact j_iret jb jr dX1_foretell_51 ⟨rfl, rfl⟩
        · skip
          refine j_iload_n jb dX1_foretell_20 3 rfl ?_
          refine j_aload_n jb dX1_foretell_21 0 rfl ?_
          refine j_get jb f_X1_9 dX1_foretell_22 0 rfl rfl ?_
          refine j_iload jb dX1_foretell_25 4 rfl ?_
          refine j_iald jb dX1_foretell_27 1 rfl (by omega) (by decide) ?_
          refine j_aload_n jb dX1_foretell_28 1 rfl ?_
          refine j_iload_n jb dX1_foretell_29 2 rfl ?_
          refine j_iconst jb dX1_foretell_30 ?_
          refine j_isub jb dX1_foretell_31 ?_
          refine j_iload jb dX1_foretell_32 4 rfl ?_
          refine j_isub jb dX1_foretell_34 ?_
          refine j_iald jb dX1_foretell_35 2 rfl (by omega) (by decide) ?_
          refine j_imul jb dX1_foretell_36 ?_
          refine j_iadd jb dX1_foretell_37 ?_
          refine j_istore_n (lv' := [(3, .int (iI (s + ((cf j) * (v ((i - 1) - j)))))), (0, .ref h0), (1, .ref hv), (2, .int (iI i)), (4, .int (iI j))]) jb dX1_foretell_38 rfl (by decide) rfl ?_
          refine j_iinc (lv' := [(4, .int (iI (j + 1))), (3, .int (iI (s + ((cf j) * (v ((i - 1) - j)))))), (0, .ref h0), (1, .ref hv), (2, .int (iI i))]) jb dX1_foretell_39 4 rfl (by decide) rfl ?_
          refine j_goto (tgt := 5) jb dX1_foretell_42 (by decide) ?_
          refine j_norm (lv' := [(0, .ref h0), (1, .ref hv), (2, .int (iI i)), (3, .int (iI (s + ((cf j) * (v ((i - 1) - j)))))), (4, .int (iI (j + 1)))]) (st' := []) (ws' := [(h0, oX1 hc o sh), (hc, aI x.g 4 cf), (hv, aI x.g 400 v)]) [2, 3, 4, 1, 0] [0, 1, 2] rfl rfl (by decide) rfl ?_
          exact ih5 (s + ((cf j) * (v ((i - 1) - j)))) (j + 1) ⟨by omega, by omega, fsum_next hi1 hi3⟩ (by omega)
  refine j_norm (lv' := [(0, .ref h0), (1, .ref hv), (2, .int (iI i)), (3, .int (iI 0)), (4, .int (iI 0))]) (st' := []) (ws' := [(h0, oX1 hc o sh), (hc, aI x.g 4 cf), (hv, aI x.g 400 v)]) [2, 3, 4, 1, 0] [0, 1, 2] rfl rfl (by decide) rfl ?_
  exact L5 _ 0 0 ⟨by decide, ho.1, rfl⟩ (Nat.lt_succ_self _)

set_option maxHeartbeats 4000000 in
set_option maxRecDepth 100000 in
theorem C_X1_becomeFixed (l : Launch) (g : GG) (h0 hc : Nat) (cf : Int → Int) (o sh o2 : Int) (ho : 0 ≤ o2 ∧ o2 ≤ 4) : Ctr l g yX1_becomeFixed cX1_becomeFixed 3 none 0 0 0 0 [.ref h0, .int (iI o2)] [(h0, oX1 hc o sh), (hc, aI g 4 cf)] (fun vv ww => ∃ (c2 : Int → Int), vv = none ∧ ww = [(h0, oX1 hc o2 0), (hc, aI g 4 c2)] ∧ ∀ j, 0 ≤ j → j < 4 → c2 j = zFixed (o2 * 4 + j).toNat) := by
  refine Ctr.of [(0, .ref h0), (1, .int (iI o2))] (by decide) (Nat.le_of_ble_eq_true rfl) rfl ?_
  intro x hxl hxg jb jr hin
  subst hxl; subst hxg
  refine j_aload_n jb dX1_becomeFixed_0 0 rfl ?_
  refine j_iload_n jb dX1_becomeFixed_1 1 rfl ?_
  refine j_put (ws' := [(h0, oX1 hc o2 sh), (hc, aI x.g 4 cf)]) jb f_X1_15 w_X1_1 rfl dX1_becomeFixed_2 0 rfl rfl rfl (Nat.le_of_ble_eq_true rfl) rfl ?_
  refine j_aload_n jb dX1_becomeFixed_5 0 rfl ?_
  refine j_iconst jb dX1_becomeFixed_6 ?_
  refine j_put (ws' := [(h0, oX1 hc o2 0), (hc, aI x.g 4 cf)]) jb f_X1_19 w_X1_2 rfl dX1_becomeFixed_7 0 rfl rfl rfl (Nat.le_of_ble_eq_true rfl) rfl ?_
  refine j_iconst jb dX1_becomeFixed_10 ?_
  refine j_istore_n (lv' := [(2, .int (iI 0)), (0, .ref h0), (1, .int (iI o2))]) jb dX1_becomeFixed_11 rfl (by decide) rfl ?_
  have L12 : ∀ (fu : Nat) (j : Int) (c1 : Int → Int), (0 ≤ j ∧ j ≤ 4 ∧ ∀ t, 0 ≤ t → t < j → c1 t = zFixed (o2 * 4 + t).toNat) → (4 - j).toNat < fu → JW x 0 0 12 [(0, .ref h0), (1, .int (iI o2)), (2, .int (iI j))] [] [(h0, oX1 hc o2 0), (hc, aI x.g 4 c1)] := by
    intro fu
    induction fu with
    | zero => intro j c1 _ hm; exact absurd hm (by omega)
    | succ fu ih =>
      intro j c1 ⟨hi1, hi2, hi3⟩ hm12
      have ih12 := ih
      clear ih
      refine j_iload_n jb dX1_becomeFixed_12 2 rfl ?_
      refine j_iconst jb dX1_becomeFixed_13 ?_
      refine j_icmp_ge (tgt := 38) jb dX1_becomeFixed_14 (by decide) (by omega) (by omega) (fun c_14 => ?_) (fun c_14 => ?_)
      · skip
        refine j_norm (lv' := []) (st' := []) (ws' := [(h0, oX1 hc o2 0), (hc, aI x.g 4 c1)]) [] [0, 1] rfl rfl (by decide) rfl ?_
        exact j_vret jb jr dX1_becomeFixed_38 ⟨_, rfl, rfl, (fun t h1 h2 => hi3 t h1 (by omega))⟩
      · skip
        refine j_aload_n jb dX1_becomeFixed_17 0 rfl ?_
        refine j_get jb f_X1_9 dX1_becomeFixed_18 0 rfl rfl ?_
        refine j_iload_n jb dX1_becomeFixed_21 2 rfl ?_
        refine j_getsN jb jb.2.2.2.2.2.2.2.1.2.2.1 n_X1_22 dX1_becomeFixed_22 ?_
        refine j_iload_n jb dX1_becomeFixed_25 1 rfl ?_
        refine j_iconst jb dX1_becomeFixed_26 ?_
        refine j_imul jb dX1_becomeFixed_27 ?_
        refine j_iload_n jb dX1_becomeFixed_28 2 rfl ?_
        refine j_iadd jb dX1_becomeFixed_29 ?_
        refine j_tald jb jb.2.2.2.2.2.2.2.1.2.2.2 (by omega) (by decide) dX1_becomeFixed_30 ?_
        refine j_iast (ws' := [(h0, oX1 hc o2 0), (hc, aI x.g 4 (zup c1 j (zFixed ((o2 * 4) + j).toNat)))]) jb dX1_becomeFixed_31 1 rfl (by omega) (by decide) rfl ?_
        refine j_iinc (lv' := [(2, .int (iI (j + 1))), (0, .ref h0), (1, .int (iI o2))]) jb dX1_becomeFixed_32 2 rfl (by decide) rfl ?_
        refine j_goto (tgt := 12) jb dX1_becomeFixed_35 (by decide) ?_
        refine j_norm (lv' := [(0, .ref h0), (1, .int (iI o2)), (2, .int (iI (j + 1)))]) (st' := []) (ws' := [(h0, oX1 hc o2 0), (hc, aI x.g 4 (zup c1 j (zFixed ((o2 * 4) + j).toNat)))]) [1, 2, 0] [0, 1] rfl rfl (by decide) rfl ?_
        exact ih12 (j + 1) (zup c1 j (zFixed ((o2 * 4) + j).toNat)) ⟨by omega, by omega, fun t h1 h2 => by (by_cases e : t = j); { rw [e, zup_s] }; { rw [zup_n e]; exact hi3 t h1 (by omega) }⟩ (by omega)
  refine j_norm (lv' := [(0, .ref h0), (1, .int (iI o2)), (2, .int (iI 0))]) (st' := []) (ws' := [(h0, oX1 hc o2 0), (hc, aI x.g 4 cf)]) [1, 2, 0] [0, 1] rfl rfl (by decide) rfl ?_
  exact L12 _ 0 cf ⟨by decide, by decide, fun t h1 h2 => by omega⟩ (Nat.lt_succ_self _)

set_option maxHeartbeats 4000000 in
set_option maxRecDepth 100000 in
theorem C_X1_becomeTold (l : Launch) (g : GG) (h0 hc : Nat) (cf : Int → Int) (o sh o2 s2 al : Int) (ho : 0 ≤ o2 ∧ o2 ≤ 4) (hal : inL al) : Ctr l g yX1_becomeTold cX1_becomeTold 6 none 1 30 0 0 [.ref h0, .int (iI o2), .int (iI s2), .long (lI al)] [(h0, oX1 hc o sh), (hc, aI g 4 cf)] (fun vv ww => ∃ (c2 : Int → Int), vv = none ∧ ww = [(h0, oX1 hc o2 s2), (hc, aI g 4 c2)] ∧ (∀ j, 0 ≤ j → j < o2 → c2 j = sgn (al / 2 ^ (j * 10).toNat) 10) ∧ (∀ j, o2 ≤ j → c2 j = cf j)) := by
  refine Ctr.of [(0, .ref h0), (1, .int (iI o2)), (2, .int (iI s2)), (3, .long (lI al))] (by decide) (Nat.le_of_ble_eq_true rfl) rfl ?_
  intro x hxl hxg jb jr hin
  subst hxl; subst hxg
  refine j_aload_n jb dX1_becomeTold_0 0 rfl ?_
  refine j_iload_n jb dX1_becomeTold_1 1 rfl ?_
  refine j_put (ws' := [(h0, oX1 hc o2 sh), (hc, aI x.g 4 cf)]) jb f_X1_15 w_X1_1 rfl dX1_becomeTold_2 0 rfl rfl rfl (Nat.le_of_ble_eq_true rfl) rfl ?_
  refine j_aload_n jb dX1_becomeTold_5 0 rfl ?_
  refine j_iload_n jb dX1_becomeTold_6 2 rfl ?_
  refine j_put (ws' := [(h0, oX1 hc o2 s2), (hc, aI x.g 4 cf)]) jb f_X1_19 w_X1_2 rfl dX1_becomeTold_7 0 rfl rfl rfl (Nat.le_of_ble_eq_true rfl) rfl ?_
  refine j_iconst jb dX1_becomeTold_10 ?_
  refine j_istore (lv' := [(5, .int (iI 0)), (0, .ref h0), (1, .int (iI o2)), (2, .int (iI s2)), (3, .long (lI al))]) jb dX1_becomeTold_11 (by decide) rfl ?_
  have L13 : ∀ (fu : Nat) (j : Int) (c1 : Int → Int), (0 ≤ j ∧ j ≤ o2 ∧ (∀ t, 0 ≤ t → t < j → c1 t = sgn (al / 2 ^ (t * 10).toNat) 10) ∧ (∀ t, o2 ≤ t → c1 t = cf t)) → (o2 - j).toNat < fu → JW x 0 0 13 [(0, .ref h0), (1, .int (iI o2)), (2, .int (iI s2)), (3, .long (lI al)), (5, .int (iI j))] [] [(h0, oX1 hc o2 s2), (hc, aI x.g 4 c1)] := by
    intro fu
    induction fu with
    | zero => intro j c1 _ hm; exact absurd hm (by omega)
    | succ fu ih =>
      intro j c1 ⟨hi1, hi2, hi3, hi4⟩ hm13
      have ih13 := ih
      clear ih
      refine j_iload jb dX1_becomeTold_13 4 rfl ?_
      refine j_iload_n jb dX1_becomeTold_15 1 rfl ?_
      refine j_icmp_ge (tgt := 45) jb dX1_becomeTold_16 (by decide) (by omega) (by omega) (fun c_16 => ?_) (fun c_16 => ?_)
      · skip
        refine j_norm (lv' := []) (st' := []) (ws' := [(h0, oX1 hc o2 s2), (hc, aI x.g 4 c1)]) [] [0, 1] rfl rfl (by decide) rfl ?_
        exact j_vret jb jr dX1_becomeTold_45 ⟨_, rfl, rfl, ⟨fun t h1 h2 => hi3 t h1 (by omega), hi4⟩⟩
      · skip
        refine j_aload_n jb dX1_becomeTold_19 0 rfl ?_
        refine j_get jb f_X1_9 dX1_becomeTold_20 0 rfl rfl ?_
        refine j_iload jb dX1_becomeTold_23 4 rfl ?_
        refine j_lload_n jb dX1_becomeTold_25 3 rfl ?_
        refine j_iload jb dX1_becomeTold_26 4 rfl ?_
        refine j_bipush jb dX1_becomeTold_28 (by decide) ?_
        refine j_imul jb dX1_becomeTold_30 ?_
        refine j_lshr jb dX1_becomeTold_31 (by omega) (by omega) ?_
        refine j_l2i jb dX1_becomeTold_32 ?_
        refine j_bipush jb dX1_becomeTold_33 (by decide) ?_
        refine j_callSN (wr := [(h0, oX1 hc o2 s2), (hc, aI x.g 4 c1)]) jb k_X11_signed t_X11_signed n_X1_25 (C_X11_signed x.l x.g (al / 2 ^ (j * 10).toNat) 10 (by omega)) [] [0, 1] (by decide) rfl rfl (by decide) (by decide) rfl rfl (Nat.le_of_ble_eq_true rfl) (by decide) dX1_becomeTold_35 (fun v w hp => ?_)
        obtain ⟨rfl, rfl⟩ := hp
        refine j_norm (lv' := [(0, .ref h0), (1, .int (iI o2)), (2, .int (iI s2)), (3, .long (lI al)), (5, .int (iI j))]) (st' := [.int (iI (sgn (al / 2 ^ (j * 10).toNat) 10)), .int (iI j), .ref hc]) (ws' := [(h0, oX1 hc o2 s2), (hc, aI x.g 4 c1)]) [0, 1, 2, 3, 4] [0, 1] rfl rfl (by decide) rfl ?_
        refine j_iast (ws' := [(h0, oX1 hc o2 s2), (hc, aI x.g 4 (zup c1 j (sgn (al / 2 ^ (j * 10).toNat) 10)))]) jb dX1_becomeTold_38 1 rfl (by omega) (by decide) rfl ?_
        refine j_iinc (lv' := [(5, .int (iI (j + 1))), (0, .ref h0), (1, .int (iI o2)), (2, .int (iI s2)), (3, .long (lI al))]) jb dX1_becomeTold_39 4 rfl (by decide) rfl ?_
        refine j_goto (tgt := 13) jb dX1_becomeTold_42 (by decide) ?_
        refine j_norm (lv' := [(0, .ref h0), (1, .int (iI o2)), (2, .int (iI s2)), (3, .long (lI al)), (5, .int (iI (j + 1)))]) (st' := []) (ws' := [(h0, oX1 hc o2 s2), (hc, aI x.g 4 (zup c1 j (sgn (al / 2 ^ (j * 10).toNat) 10)))]) [1, 2, 3, 4, 0] [0, 1] rfl rfl (by decide) rfl ?_
        exact ih13 (j + 1) (zup c1 j (sgn (al / 2 ^ (j * 10).toNat) 10)) ⟨by omega, by omega, fun t h1 h2 => by (by_cases e : t = j); { rw [e, zup_s] }; { rw [zup_n e]; exact hi3 t h1 (by omega) }, fun t h1 => by rw [zup_n (by omega)]; exact hi4 t h1⟩ (by omega)
  refine j_norm (lv' := [(0, .ref h0), (1, .int (iI o2)), (2, .int (iI s2)), (3, .long (lI al)), (5, .int (iI 0))]) (st' := []) (ws' := [(h0, oX1 hc o2 s2), (hc, aI x.g 4 cf)]) [1, 2, 3, 4, 0] [0, 1] rfl rfl (by decide) rfl ?_
  exact L13 _ 0 cf ⟨by decide, ho.1, fun t h1 h2 => by omega, fun _ _ => rfl⟩ (Nat.lt_succ_self _)
end
