section
-- ===== PART A: goes FIRST, ahead of the names: the tables' words, and 'selects' of the private methods out of them =====
/-- a private method of a class that the tables say can be made, by its rows of tables_1 -/
def lw_okq (q : MethodName × Nat) : Prop := (q.1.cls ≠ "java/lang/invoke/MethodHandle" ∧ q.1.cls ≠ "java/lang/invoke/VarHandle") ∧ Cond.instantiable q.1.cls q.2 ∈ tables_1 ∧ Cond.privateMethod q.1 ∈ tables_1 ∧ Cond.instanceMethod q.1 ∈ tables_1
theorem lw_p0 : lw_okq (⟨"TwoKings$LawReader", "readSum", "()Z"⟩, 7) := ⟨⟨by decide +kernel, by decide +kernel⟩, List.mem_of_getElem? (i := 80) (by decide +kernel), List.mem_of_getElem? (i := 573) (by decide +kernel), List.mem_of_getElem? (i := 574) (by decide +kernel)⟩
theorem lw_p1 : lw_okq (⟨"TwoKings$LawReader", "readTerm", "()Z"⟩, 7) := ⟨⟨by decide +kernel, by decide +kernel⟩, List.mem_of_getElem? (i := 80) (by decide +kernel), List.mem_of_getElem? (i := 577) (by decide +kernel), List.mem_of_getElem? (i := 578) (by decide +kernel)⟩
theorem lw_p2 : lw_okq (⟨"TwoKings$LawReader", "readFactor", "()Z"⟩, 7) := ⟨⟨by decide +kernel, by decide +kernel⟩, List.mem_of_getElem? (i := 80) (by decide +kernel), List.mem_of_getElem? (i := 581) (by decide +kernel), List.mem_of_getElem? (i := 582) (by decide +kernel)⟩
theorem lw_p3 : lw_okq (⟨"TwoKings$LawReader", "readBracket", "()Z"⟩, 7) := ⟨⟨by decide +kernel, by decide +kernel⟩, List.mem_of_getElem? (i := 80) (by decide +kernel), List.mem_of_getElem? (i := 586) (by decide +kernel), List.mem_of_getElem? (i := 587) (by decide +kernel)⟩
theorem lw_p4 : lw_okq (⟨"TwoKings$LawReader", "opens", "()Z"⟩, 7) := ⟨⟨by decide +kernel, by decide +kernel⟩, List.mem_of_getElem? (i := 80) (by decide +kernel), List.mem_of_getElem? (i := 590) (by decide +kernel), List.mem_of_getElem? (i := 591) (by decide +kernel)⟩
theorem lw_p5 : lw_okq (⟨"TwoKings$LawReader", "readGroup", "()Z"⟩, 7) := ⟨⟨by decide +kernel, by decide +kernel⟩, List.mem_of_getElem? (i := 80) (by decide +kernel), List.mem_of_getElem? (i := 618) (by decide +kernel), List.mem_of_getElem? (i := 619) (by decide +kernel)⟩
theorem lw_p6 : lw_okq (⟨"TwoKings$LawReader", "readChoice", "()Z"⟩, 7) := ⟨⟨by decide +kernel, by decide +kernel⟩, List.mem_of_getElem? (i := 80) (by decide +kernel), List.mem_of_getElem? (i := 622) (by decide +kernel), List.mem_of_getElem? (i := 623) (by decide +kernel)⟩
theorem lw_p7 : lw_okq (⟨"TwoKings$LawReader", "readPart", "()Z"⟩, 7) := ⟨⟨by decide +kernel, by decide +kernel⟩, List.mem_of_getElem? (i := 80) (by decide +kernel), List.mem_of_getElem? (i := 626) (by decide +kernel), List.mem_of_getElem? (i := 627) (by decide +kernel)⟩
theorem lw_p8 : lw_okq (⟨"TwoKings$LawReader", "readTest", "()Z"⟩, 7) := ⟨⟨by decide +kernel, by decide +kernel⟩, List.mem_of_getElem? (i := 80) (by decide +kernel), List.mem_of_getElem? (i := 630) (by decide +kernel), List.mem_of_getElem? (i := 631) (by decide +kernel)⟩
theorem lw_p9 : lw_okq (⟨"TwoKings$LawReader", "readNot", "()Z"⟩, 7) := ⟨⟨by decide +kernel, by decide +kernel⟩, List.mem_of_getElem? (i := 80) (by decide +kernel), List.mem_of_getElem? (i := 635) (by decide +kernel), List.mem_of_getElem? (i := 636) (by decide +kernel)⟩
theorem lw_p10 : lw_okq (⟨"TwoKings$OrdersReader", "obeyLine", "(ILTwoKings$King;)V"⟩, 8) := ⟨⟨by decide +kernel, by decide +kernel⟩, List.mem_of_getElem? (i := 126) (by decide +kernel), List.mem_of_getElem? (i := 708) (by decide +kernel), List.mem_of_getElem? (i := 709) (by decide +kernel)⟩
theorem lw_p11 : lw_okq (⟨"TwoKings$Treaty", "agrees", "(III)Z"⟩, 6) := ⟨⟨by decide +kernel, by decide +kernel⟩, List.mem_of_getElem? (i := 147) (by decide +kernel), List.mem_of_getElem? (i := 732) (by decide +kernel), List.mem_of_getElem? (i := 733) (by decide +kernel)⟩
theorem lw_p12 : lw_okq (⟨"TwoKings$Treaty", "joinActs", "(II)V"⟩, 6) := ⟨⟨by decide +kernel, by decide +kernel⟩, List.mem_of_getElem? (i := 147) (by decide +kernel), List.mem_of_getElem? (i := 737) (by decide +kernel), List.mem_of_getElem? (i := 738) (by decide +kernel)⟩
theorem lw_p13 : lw_okq (⟨"TwoKings$Treaty", "shareAhead", "()V"⟩, 6) := ⟨⟨by decide +kernel, by decide +kernel⟩, List.mem_of_getElem? (i := 147) (by decide +kernel), List.mem_of_getElem? (i := 741) (by decide +kernel), List.mem_of_getElem? (i := 742) (by decide +kernel)⟩
theorem lw_p14 : lw_okq (⟨"TwoKings$Treaty", "closeAhead", "()V"⟩, 6) := ⟨⟨by decide +kernel, by decide +kernel⟩, List.mem_of_getElem? (i := 147) (by decide +kernel), List.mem_of_getElem? (i := 745) (by decide +kernel), List.mem_of_getElem? (i := 746) (by decide +kernel)⟩
theorem lw_p15 : lw_okq (⟨"TwoKings$Treaty", "findMoments", "()V"⟩, 6) := ⟨⟨by decide +kernel, by decide +kernel⟩, List.mem_of_getElem? (i := 147) (by decide +kernel), List.mem_of_getElem? (i := 749) (by decide +kernel), List.mem_of_getElem? (i := 750) (by decide +kernel)⟩
def lw_privs_1 : List (MethodName × Nat) := [(⟨"TwoKings$LawReader", "readSum", "()Z"⟩, 7), (⟨"TwoKings$LawReader", "readTerm", "()Z"⟩, 7), (⟨"TwoKings$LawReader", "readFactor", "()Z"⟩, 7), (⟨"TwoKings$LawReader", "readBracket", "()Z"⟩, 7), (⟨"TwoKings$LawReader", "opens", "()Z"⟩, 7), (⟨"TwoKings$LawReader", "readGroup", "()Z"⟩, 7), (⟨"TwoKings$LawReader", "readChoice", "()Z"⟩, 7), (⟨"TwoKings$LawReader", "readPart", "()Z"⟩, 7), (⟨"TwoKings$LawReader", "readTest", "()Z"⟩, 7), (⟨"TwoKings$LawReader", "readNot", "()Z"⟩, 7), (⟨"TwoKings$OrdersReader", "obeyLine", "(ILTwoKings$King;)V"⟩, 8), (⟨"TwoKings$Treaty", "agrees", "(III)Z"⟩, 6), (⟨"TwoKings$Treaty", "joinActs", "(II)V"⟩, 6), (⟨"TwoKings$Treaty", "shareAhead", "()V"⟩, 6), (⟨"TwoKings$Treaty", "closeAhead", "()V"⟩, 6), (⟨"TwoKings$Treaty", "findMoments", "()V"⟩, 6)]
theorem lw_r1 : ∀ q ∈ lw_privs_1, lw_okq q := List.forall_mem_cons.mpr ⟨lw_p0, List.forall_mem_cons.mpr ⟨lw_p1, List.forall_mem_cons.mpr ⟨lw_p2, List.forall_mem_cons.mpr ⟨lw_p3, List.forall_mem_cons.mpr ⟨lw_p4, List.forall_mem_cons.mpr ⟨lw_p5, List.forall_mem_cons.mpr ⟨lw_p6, List.forall_mem_cons.mpr ⟨lw_p7, List.forall_mem_cons.mpr ⟨lw_p8, List.forall_mem_cons.mpr ⟨lw_p9, List.forall_mem_cons.mpr ⟨lw_p10, List.forall_mem_cons.mpr ⟨lw_p11, List.forall_mem_cons.mpr ⟨lw_p12, List.forall_mem_cons.mpr ⟨lw_p13, List.forall_mem_cons.mpr ⟨lw_p14, List.forall_mem_cons.mpr ⟨lw_p15, fun _ h => absurd h List.not_mem_nil⟩⟩⟩⟩⟩⟩⟩⟩⟩⟩⟩⟩⟩⟩⟩⟩
theorem lw_p16 : lw_okq (⟨"TwoKings$Treaty", "momentBehind", "(I)I"⟩, 6) := ⟨⟨by decide +kernel, by decide +kernel⟩, List.mem_of_getElem? (i := 147) (by decide +kernel), List.mem_of_getElem? (i := 756) (by decide +kernel), List.mem_of_getElem? (i := 757) (by decide +kernel)⟩
theorem lw_p17 : lw_okq (⟨"TwoKings", "goesBy", "(LTwoKings$Meeting;)Z"⟩, 14) := ⟨⟨by decide +kernel, by decide +kernel⟩, List.mem_of_getElem? (i := 24) (by decide +kernel), List.mem_of_getElem? (i := 765) (by decide +kernel), List.mem_of_getElem? (i := 766) (by decide +kernel)⟩
theorem lw_p18 : lw_okq (⟨"TwoKings$Meeting", "draw", "()I"⟩, 4) := ⟨⟨by decide +kernel, by decide +kernel⟩, List.mem_of_getElem? (i := 199) (by decide +kernel), List.mem_of_getElem? (i := 785) (by decide +kernel), List.mem_of_getElem? (i := 786) (by decide +kernel)⟩
theorem lw_p19 : lw_okq (⟨"TwoKings$Law", "reckon", "(I)I"⟩, 8) := ⟨⟨by decide +kernel, by decide +kernel⟩, List.mem_of_getElem? (i := 48) (by decide +kernel), List.mem_of_getElem? (i := 802) (by decide +kernel), List.mem_of_getElem? (i := 803) (by decide +kernel)⟩
theorem lw_p20 : lw_okq (⟨"TwoKings$Law", "seenAt", "(I)I"⟩, 8) := ⟨⟨by decide +kernel, by decide +kernel⟩, List.mem_of_getElem? (i := 48) (by decide +kernel), List.mem_of_getElem? (i := 806) (by decide +kernel), List.mem_of_getElem? (i := 807) (by decide +kernel)⟩
theorem lw_p21 : lw_okq (⟨"TwoKings$Lane", "packed", "()I"⟩, 7) := ⟨⟨by decide +kernel, by decide +kernel⟩, List.mem_of_getElem? (i := 277) (by decide +kernel), List.mem_of_getElem? (i := 934) (by decide +kernel), List.mem_of_getElem? (i := 935) (by decide +kernel)⟩
theorem lw_p22 : lw_okq (⟨"TwoKings$Lane", "add", "(II)V"⟩, 7) := ⟨⟨by decide +kernel, by decide +kernel⟩, List.mem_of_getElem? (i := 277) (by decide +kernel), List.mem_of_getElem? (i := 940) (by decide +kernel), List.mem_of_getElem? (i := 941) (by decide +kernel)⟩
theorem lw_p23 : lw_okq (⟨"TwoKings$Lane", "unpack", "(I)V"⟩, 7) := ⟨⟨by decide +kernel, by decide +kernel⟩, List.mem_of_getElem? (i := 277) (by decide +kernel), List.mem_of_getElem? (i := 944) (by decide +kernel), List.mem_of_getElem? (i := 945) (by decide +kernel)⟩
theorem lw_p24 : lw_okq (⟨"TwoKings$Lane", "allHavePassed", "()Z"⟩, 7) := ⟨⟨by decide +kernel, by decide +kernel⟩, List.mem_of_getElem? (i := 277) (by decide +kernel), List.mem_of_getElem? (i := 948) (by decide +kernel), List.mem_of_getElem? (i := 949) (by decide +kernel)⟩
theorem lw_p25 : lw_okq (⟨"TwoKings$Lane", "addMoves", "(II)V"⟩, 7) := ⟨⟨by decide +kernel, by decide +kernel⟩, List.mem_of_getElem? (i := 277) (by decide +kernel), List.mem_of_getElem? (i := 952) (by decide +kernel), List.mem_of_getElem? (i := 953) (by decide +kernel)⟩
theorem lw_p26 : lw_okq (⟨"TwoKings$Lane", "landing", "(I)I"⟩, 7) := ⟨⟨by decide +kernel, by decide +kernel⟩, List.mem_of_getElem? (i := 277) (by decide +kernel), List.mem_of_getElem? (i := 956) (by decide +kernel), List.mem_of_getElem? (i := 957) (by decide +kernel)⟩
theorem lw_p27 : lw_okq (⟨"TwoKings$Lane", "standsAt", "(I)I"⟩, 7) := ⟨⟨by decide +kernel, by decide +kernel⟩, List.mem_of_getElem? (i := 277) (by decide +kernel), List.mem_of_getElem? (i := 960) (by decide +kernel), List.mem_of_getElem? (i := 961) (by decide +kernel)⟩
theorem lw_p28 : lw_okq (⟨"TwoKings$Ceremonies", "sortInto", "([III)V"⟩, 11) := ⟨⟨by decide +kernel, by decide +kernel⟩, List.mem_of_getElem? (i := 307) (by decide +kernel), List.mem_of_getElem? (i := 996) (by decide +kernel), List.mem_of_getElem? (i := 997) (by decide +kernel)⟩
theorem lw_p29 : lw_okq (⟨"TwoKings$Ceremonies", "leastPile", "(II)I"⟩, 11) := ⟨⟨by decide +kernel, by decide +kernel⟩, List.mem_of_getElem? (i := 307) (by decide +kernel), List.mem_of_getElem? (i := 1013) (by decide +kernel), List.mem_of_getElem? (i := 1014) (by decide +kernel)⟩
theorem lw_p30 : lw_okq (⟨"TwoKings$Ceremonies", "seatedBadly", "(I)I"⟩, 11) := ⟨⟨by decide +kernel, by decide +kernel⟩, List.mem_of_getElem? (i := 307) (by decide +kernel), List.mem_of_getElem? (i := 1025) (by decide +kernel), List.mem_of_getElem? (i := 1026) (by decide +kernel)⟩
theorem lw_p31 : lw_okq (⟨"TwoKings$Ceremonies", "goesToNextRow", "(I)Z"⟩, 11) := ⟨⟨by decide +kernel, by decide +kernel⟩, List.mem_of_getElem? (i := 307) (by decide +kernel), List.mem_of_getElem? (i := 1030) (by decide +kernel), List.mem_of_getElem? (i := 1031) (by decide +kernel)⟩
def lw_privs_2 : List (MethodName × Nat) := [(⟨"TwoKings$Treaty", "momentBehind", "(I)I"⟩, 6), (⟨"TwoKings", "goesBy", "(LTwoKings$Meeting;)Z"⟩, 14), (⟨"TwoKings$Meeting", "draw", "()I"⟩, 4), (⟨"TwoKings$Law", "reckon", "(I)I"⟩, 8), (⟨"TwoKings$Law", "seenAt", "(I)I"⟩, 8), (⟨"TwoKings$Lane", "packed", "()I"⟩, 7), (⟨"TwoKings$Lane", "add", "(II)V"⟩, 7), (⟨"TwoKings$Lane", "unpack", "(I)V"⟩, 7), (⟨"TwoKings$Lane", "allHavePassed", "()Z"⟩, 7), (⟨"TwoKings$Lane", "addMoves", "(II)V"⟩, 7), (⟨"TwoKings$Lane", "landing", "(I)I"⟩, 7), (⟨"TwoKings$Lane", "standsAt", "(I)I"⟩, 7), (⟨"TwoKings$Ceremonies", "sortInto", "([III)V"⟩, 11), (⟨"TwoKings$Ceremonies", "leastPile", "(II)I"⟩, 11), (⟨"TwoKings$Ceremonies", "seatedBadly", "(I)I"⟩, 11), (⟨"TwoKings$Ceremonies", "goesToNextRow", "(I)Z"⟩, 11)]
theorem lw_r2 : ∀ q ∈ lw_privs_2, lw_okq q := List.forall_mem_cons.mpr ⟨lw_p16, List.forall_mem_cons.mpr ⟨lw_p17, List.forall_mem_cons.mpr ⟨lw_p18, List.forall_mem_cons.mpr ⟨lw_p19, List.forall_mem_cons.mpr ⟨lw_p20, List.forall_mem_cons.mpr ⟨lw_p21, List.forall_mem_cons.mpr ⟨lw_p22, List.forall_mem_cons.mpr ⟨lw_p23, List.forall_mem_cons.mpr ⟨lw_p24, List.forall_mem_cons.mpr ⟨lw_p25, List.forall_mem_cons.mpr ⟨lw_p26, List.forall_mem_cons.mpr ⟨lw_p27, List.forall_mem_cons.mpr ⟨lw_p28, List.forall_mem_cons.mpr ⟨lw_p29, List.forall_mem_cons.mpr ⟨lw_p30, List.forall_mem_cons.mpr ⟨lw_p31, fun _ h => absurd h List.not_mem_nil⟩⟩⟩⟩⟩⟩⟩⟩⟩⟩⟩⟩⟩⟩⟩⟩
theorem lw_p32 : lw_okq (⟨"TwoKings$Ceremonies", "swapSeats", "(II)V"⟩, 11) := ⟨⟨by decide +kernel, by decide +kernel⟩, List.mem_of_getElem? (i := 307) (by decide +kernel), List.mem_of_getElem? (i := 1034) (by decide +kernel), List.mem_of_getElem? (i := 1035) (by decide +kernel)⟩
theorem lw_p33 : lw_okq (⟨"TwoKings$Ceremonies", "waysTo", "(I)J"⟩, 11) := ⟨⟨by decide +kernel, by decide +kernel⟩, List.mem_of_getElem? (i := 307) (by decide +kernel), List.mem_of_getElem? (i := 1067) (by decide +kernel), List.mem_of_getElem? (i := 1068) (by decide +kernel)⟩
theorem lw_p34 : lw_okq (⟨"TwoKingsModel", "types", "(I)V"⟩, 63) := ⟨⟨by decide +kernel, by decide +kernel⟩, List.mem_of_getElem? (i := 1097) (by decide +kernel), List.mem_of_getElem? (i := 1309) (by decide +kernel), List.mem_of_getElem? (i := 1310) (by decide +kernel)⟩
theorem lw_p35 : lw_okq (⟨"TwoKingsModel", "beginsText", "(I)V"⟩, 63) := ⟨⟨by decide +kernel, by decide +kernel⟩, List.mem_of_getElem? (i := 1097) (by decide +kernel), List.mem_of_getElem? (i := 1317) (by decide +kernel), List.mem_of_getElem? (i := 1318) (by decide +kernel)⟩
theorem lw_p36 : lw_okq (⟨"TwoKingsModel", "readsRule", "()Z"⟩, 63) := ⟨⟨by decide +kernel, by decide +kernel⟩, List.mem_of_getElem? (i := 1097) (by decide +kernel), List.mem_of_getElem? (i := 1321) (by decide +kernel), List.mem_of_getElem? (i := 1322) (by decide +kernel)⟩
theorem lw_p37 : lw_okq (⟨"TwoKingsModel", "here", "()I"⟩, 63) := ⟨⟨by decide +kernel, by decide +kernel⟩, List.mem_of_getElem? (i := 1097) (by decide +kernel), List.mem_of_getElem? (i := 1325) (by decide +kernel), List.mem_of_getElem? (i := 1326) (by decide +kernel)⟩
theorem lw_p38 : lw_okq (⟨"TwoKingsModel", "wrongAt", "(II)Z"⟩, 63) := ⟨⟨by decide +kernel, by decide +kernel⟩, List.mem_of_getElem? (i := 1097) (by decide +kernel), List.mem_of_getElem? (i := 1329) (by decide +kernel), List.mem_of_getElem? (i := 1330) (by decide +kernel)⟩
theorem lw_p39 : lw_okq (⟨"TwoKingsModel", "readsSum", "()Z"⟩, 63) := ⟨⟨by decide +kernel, by decide +kernel⟩, List.mem_of_getElem? (i := 1097) (by decide +kernel), List.mem_of_getElem? (i := 1333) (by decide +kernel), List.mem_of_getElem? (i := 1334) (by decide +kernel)⟩
theorem lw_p40 : lw_okq (⟨"TwoKingsModel", "readsFactor", "()Z"⟩, 63) := ⟨⟨by decide +kernel, by decide +kernel⟩, List.mem_of_getElem? (i := 1097) (by decide +kernel), List.mem_of_getElem? (i := 1337) (by decide +kernel), List.mem_of_getElem? (i := 1338) (by decide +kernel)⟩
theorem lw_p41 : lw_okq (⟨"TwoKingsModel", "opens", "(I)Z"⟩, 63) := ⟨⟨by decide +kernel, by decide +kernel⟩, List.mem_of_getElem? (i := 1097) (by decide +kernel), List.mem_of_getElem? (i := 1341) (by decide +kernel), List.mem_of_getElem? (i := 1342) (by decide +kernel)⟩
theorem lw_p42 : lw_okq (⟨"TwoKingsModel", "isDigit", "()Z"⟩, 63) := ⟨⟨by decide +kernel, by decide +kernel⟩, List.mem_of_getElem? (i := 1097) (by decide +kernel), List.mem_of_getElem? (i := 1346) (by decide +kernel), List.mem_of_getElem? (i := 1347) (by decide +kernel)⟩
theorem lw_p43 : lw_okq (⟨"TwoKingsModel", "readsNumber", "()Z"⟩, 63) := ⟨⟨by decide +kernel, by decide +kernel⟩, List.mem_of_getElem? (i := 1097) (by decide +kernel), List.mem_of_getElem? (i := 1350) (by decide +kernel), List.mem_of_getElem? (i := 1351) (by decide +kernel)⟩
theorem lw_p44 : lw_okq (⟨"TwoKingsModel", "notes", "(II)V"⟩, 63) := ⟨⟨by decide +kernel, by decide +kernel⟩, List.mem_of_getElem? (i := 1097) (by decide +kernel), List.mem_of_getElem? (i := 1354) (by decide +kernel), List.mem_of_getElem? (i := 1355) (by decide +kernel)⟩
theorem lw_p45 : lw_okq (⟨"TwoKingsModel", "closesSums", "(Z)V"⟩, 63) := ⟨⟨by decide +kernel, by decide +kernel⟩, List.mem_of_getElem? (i := 1097) (by decide +kernel), List.mem_of_getElem? (i := 1364) (by decide +kernel), List.mem_of_getElem? (i := 1365) (by decide +kernel)⟩
theorem lw_p46 : lw_okq (⟨"TwoKingsModel", "waitTop", "()I"⟩, 63) := ⟨⟨by decide +kernel, by decide +kernel⟩, List.mem_of_getElem? (i := 1097) (by decide +kernel), List.mem_of_getElem? (i := 1368) (by decide +kernel), List.mem_of_getElem? (i := 1369) (by decide +kernel)⟩
theorem lw_p47 : lw_okq (⟨"TwoKingsModel", "hasOpenSum", "(I)Z"⟩, 63) := ⟨⟨by decide +kernel, by decide +kernel⟩, List.mem_of_getElem? (i := 1097) (by decide +kernel), List.mem_of_getElem? (i := 1372) (by decide +kernel), List.mem_of_getElem? (i := 1373) (by decide +kernel)⟩
def lw_privs_3 : List (MethodName × Nat) := [(⟨"TwoKings$Ceremonies", "swapSeats", "(II)V"⟩, 11), (⟨"TwoKings$Ceremonies", "waysTo", "(I)J"⟩, 11), (⟨"TwoKingsModel", "types", "(I)V"⟩, 63), (⟨"TwoKingsModel", "beginsText", "(I)V"⟩, 63), (⟨"TwoKingsModel", "readsRule", "()Z"⟩, 63), (⟨"TwoKingsModel", "here", "()I"⟩, 63), (⟨"TwoKingsModel", "wrongAt", "(II)Z"⟩, 63), (⟨"TwoKingsModel", "readsSum", "()Z"⟩, 63), (⟨"TwoKingsModel", "readsFactor", "()Z"⟩, 63), (⟨"TwoKingsModel", "opens", "(I)Z"⟩, 63), (⟨"TwoKingsModel", "isDigit", "()Z"⟩, 63), (⟨"TwoKingsModel", "readsNumber", "()Z"⟩, 63), (⟨"TwoKingsModel", "notes", "(II)V"⟩, 63), (⟨"TwoKingsModel", "closesSums", "(Z)V"⟩, 63), (⟨"TwoKingsModel", "waitTop", "()I"⟩, 63), (⟨"TwoKingsModel", "hasOpenSum", "(I)Z"⟩, 63)]
theorem lw_r3 : ∀ q ∈ lw_privs_3, lw_okq q := List.forall_mem_cons.mpr ⟨lw_p32, List.forall_mem_cons.mpr ⟨lw_p33, List.forall_mem_cons.mpr ⟨lw_p34, List.forall_mem_cons.mpr ⟨lw_p35, List.forall_mem_cons.mpr ⟨lw_p36, List.forall_mem_cons.mpr ⟨lw_p37, List.forall_mem_cons.mpr ⟨lw_p38, List.forall_mem_cons.mpr ⟨lw_p39, List.forall_mem_cons.mpr ⟨lw_p40, List.forall_mem_cons.mpr ⟨lw_p41, List.forall_mem_cons.mpr ⟨lw_p42, List.forall_mem_cons.mpr ⟨lw_p43, List.forall_mem_cons.mpr ⟨lw_p44, List.forall_mem_cons.mpr ⟨lw_p45, List.forall_mem_cons.mpr ⟨lw_p46, List.forall_mem_cons.mpr ⟨lw_p47, fun _ h => absurd h List.not_mem_nil⟩⟩⟩⟩⟩⟩⟩⟩⟩⟩⟩⟩⟩⟩⟩⟩
theorem lw_p48 : lw_okq (⟨"TwoKingsModel", "readsCondition", "()Z"⟩, 63) := ⟨⟨by decide +kernel, by decide +kernel⟩, List.mem_of_getElem? (i := 1097) (by decide +kernel), List.mem_of_getElem? (i := 1376) (by decide +kernel), List.mem_of_getElem? (i := 1377) (by decide +kernel)⟩
theorem lw_p49 : lw_okq (⟨"TwoKingsModel", "readsCompared", "()Z"⟩, 63) := ⟨⟨by decide +kernel, by decide +kernel⟩, List.mem_of_getElem? (i := 1097) (by decide +kernel), List.mem_of_getElem? (i := 1380) (by decide +kernel), List.mem_of_getElem? (i := 1381) (by decide +kernel)⟩
theorem lw_p50 : lw_okq (⟨"TwoKingsModel", "endsPiece", "()V"⟩, 63) := ⟨⟨by decide +kernel, by decide +kernel⟩, List.mem_of_getElem? (i := 1097) (by decide +kernel), List.mem_of_getElem? (i := 1384) (by decide +kernel), List.mem_of_getElem? (i := 1385) (by decide +kernel)⟩
theorem lw_p51 : lw_okq (⟨"TwoKingsModel", "lands", "(Z)V"⟩, 63) := ⟨⟨by decide +kernel, by decide +kernel⟩, List.mem_of_getElem? (i := 1097) (by decide +kernel), List.mem_of_getElem? (i := 1388) (by decide +kernel), List.mem_of_getElem? (i := 1389) (by decide +kernel)⟩
theorem lw_p52 : lw_okq (⟨"TwoKingsModel", "jumps", "(I)V"⟩, 63) := ⟨⟨by decide +kernel, by decide +kernel⟩, List.mem_of_getElem? (i := 1097) (by decide +kernel), List.mem_of_getElem? (i := 1392) (by decide +kernel), List.mem_of_getElem? (i := 1393) (by decide +kernel)⟩
theorem lw_p53 : lw_okq (⟨"TwoKingsModel", "takes", "(I)Z"⟩, 63) := ⟨⟨by decide +kernel, by decide +kernel⟩, List.mem_of_getElem? (i := 1097) (by decide +kernel), List.mem_of_getElem? (i := 1396) (by decide +kernel), List.mem_of_getElem? (i := 1397) (by decide +kernel)⟩
theorem lw_p54 : lw_okq (⟨"TwoKingsModel", "readsLine", "()Z"⟩, 63) := ⟨⟨by decide +kernel, by decide +kernel⟩, List.mem_of_getElem? (i := 1097) (by decide +kernel), List.mem_of_getElem? (i := 1407) (by decide +kernel), List.mem_of_getElem? (i := 1408) (by decide +kernel)⟩
theorem lw_p55 : lw_okq (⟨"TwoKingsModel", "readsAmount", "()Z"⟩, 63) := ⟨⟨by decide +kernel, by decide +kernel⟩, List.mem_of_getElem? (i := 1097) (by decide +kernel), List.mem_of_getElem? (i := 1411) (by decide +kernel), List.mem_of_getElem? (i := 1412) (by decide +kernel)⟩
theorem lw_p56 : lw_okq (⟨"TwoKingsModel", "obeys", "(II)V"⟩, 63) := ⟨⟨by decide +kernel, by decide +kernel⟩, List.mem_of_getElem? (i := 1097) (by decide +kernel), List.mem_of_getElem? (i := 1415) (by decide +kernel), List.mem_of_getElem? (i := 1416) (by decide +kernel)⟩
theorem lw_p57 : lw_okq (⟨"TwoKingsModel", "breathsGo", "(I)V"⟩, 63) := ⟨⟨by decide +kernel, by decide +kernel⟩, List.mem_of_getElem? (i := 1097) (by decide +kernel), List.mem_of_getElem? (i := 1426) (by decide +kernel), List.mem_of_getElem? (i := 1427) (by decide +kernel)⟩
theorem lw_p58 : lw_okq (⟨"TwoKingsModel", "thereNow", "()I"⟩, 63) := ⟨⟨by decide +kernel, by decide +kernel⟩, List.mem_of_getElem? (i := 1097) (by decide +kernel), List.mem_of_getElem? (i := 1430) (by decide +kernel), List.mem_of_getElem? (i := 1431) (by decide +kernel)⟩
theorem lw_p59 : lw_okq (⟨"TwoKingsModel", "haveMet", "()Z"⟩, 63) := ⟨⟨by decide +kernel, by decide +kernel⟩, List.mem_of_getElem? (i := 1097) (by decide +kernel), List.mem_of_getElem? (i := 1434) (by decide +kernel), List.mem_of_getElem? (i := 1435) (by decide +kernel)⟩
theorem lw_p60 : lw_okq (⟨"TwoKingsModel", "apartNow", "()I"⟩, 63) := ⟨⟨by decide +kernel, by decide +kernel⟩, List.mem_of_getElem? (i := 1097) (by decide +kernel), List.mem_of_getElem? (i := 1438) (by decide +kernel), List.mem_of_getElem? (i := 1439) (by decide +kernel)⟩
theorem lw_p61 : lw_okq (⟨"TwoKingsModel", "goesOn", "()Z"⟩, 63) := ⟨⟨by decide +kernel, by decide +kernel⟩, List.mem_of_getElem? (i := 1097) (by decide +kernel), List.mem_of_getElem? (i := 1445) (by decide +kernel), List.mem_of_getElem? (i := 1446) (by decide +kernel)⟩
theorem lw_p62 : lw_okq (⟨"TwoKingsModel", "goneSet", "()I"⟩, 63) := ⟨⟨by decide +kernel, by decide +kernel⟩, List.mem_of_getElem? (i := 1097) (by decide +kernel), List.mem_of_getElem? (i := 1449) (by decide +kernel), List.mem_of_getElem? (i := 1450) (by decide +kernel)⟩
theorem lw_p63 : lw_okq (⟨"TwoKingsModel", "breathGoes", "()V"⟩, 63) := ⟨⟨by decide +kernel, by decide +kernel⟩, List.mem_of_getElem? (i := 1097) (by decide +kernel), List.mem_of_getElem? (i := 1453) (by decide +kernel), List.mem_of_getElem? (i := 1454) (by decide +kernel)⟩
def lw_privs_4 : List (MethodName × Nat) := [(⟨"TwoKingsModel", "readsCondition", "()Z"⟩, 63), (⟨"TwoKingsModel", "readsCompared", "()Z"⟩, 63), (⟨"TwoKingsModel", "endsPiece", "()V"⟩, 63), (⟨"TwoKingsModel", "lands", "(Z)V"⟩, 63), (⟨"TwoKingsModel", "jumps", "(I)V"⟩, 63), (⟨"TwoKingsModel", "takes", "(I)Z"⟩, 63), (⟨"TwoKingsModel", "readsLine", "()Z"⟩, 63), (⟨"TwoKingsModel", "readsAmount", "()Z"⟩, 63), (⟨"TwoKingsModel", "obeys", "(II)V"⟩, 63), (⟨"TwoKingsModel", "breathsGo", "(I)V"⟩, 63), (⟨"TwoKingsModel", "thereNow", "()I"⟩, 63), (⟨"TwoKingsModel", "haveMet", "()Z"⟩, 63), (⟨"TwoKingsModel", "apartNow", "()I"⟩, 63), (⟨"TwoKingsModel", "goesOn", "()Z"⟩, 63), (⟨"TwoKingsModel", "goneSet", "()I"⟩, 63), (⟨"TwoKingsModel", "breathGoes", "()V"⟩, 63)]
theorem lw_r4 : ∀ q ∈ lw_privs_4, lw_okq q := List.forall_mem_cons.mpr ⟨lw_p48, List.forall_mem_cons.mpr ⟨lw_p49, List.forall_mem_cons.mpr ⟨lw_p50, List.forall_mem_cons.mpr ⟨lw_p51, List.forall_mem_cons.mpr ⟨lw_p52, List.forall_mem_cons.mpr ⟨lw_p53, List.forall_mem_cons.mpr ⟨lw_p54, List.forall_mem_cons.mpr ⟨lw_p55, List.forall_mem_cons.mpr ⟨lw_p56, List.forall_mem_cons.mpr ⟨lw_p57, List.forall_mem_cons.mpr ⟨lw_p58, List.forall_mem_cons.mpr ⟨lw_p59, List.forall_mem_cons.mpr ⟨lw_p60, List.forall_mem_cons.mpr ⟨lw_p61, List.forall_mem_cons.mpr ⟨lw_p62, List.forall_mem_cons.mpr ⟨lw_p63, fun _ h => absurd h List.not_mem_nil⟩⟩⟩⟩⟩⟩⟩⟩⟩⟩⟩⟩⟩⟩⟩⟩
theorem lw_p64 : lw_okq (⟨"TwoKingsModel", "asks", "(I)V"⟩, 63) := ⟨⟨by decide +kernel, by decide +kernel⟩, List.mem_of_getElem? (i := 1097) (by decide +kernel), List.mem_of_getElem? (i := 1458) (by decide +kernel), List.mem_of_getElem? (i := 1459) (by decide +kernel)⟩
theorem lw_p65 : lw_okq (⟨"TwoKingsModel", "feels", "(I)V"⟩, 63) := ⟨⟨by decide +kernel, by decide +kernel⟩, List.mem_of_getElem? (i := 1097) (by decide +kernel), List.mem_of_getElem? (i := 1462) (by decide +kernel), List.mem_of_getElem? (i := 1463) (by decide +kernel)⟩
theorem lw_p66 : lw_okq (⟨"TwoKingsModel", "byLaw", "(II)I"⟩, 63) := ⟨⟨by decide +kernel, by decide +kernel⟩, List.mem_of_getElem? (i := 1097) (by decide +kernel), List.mem_of_getElem? (i := 1466) (by decide +kernel), List.mem_of_getElem? (i := 1467) (by decide +kernel)⟩
theorem lw_p67 : lw_okq (⟨"TwoKingsModel", "comesTo", "(II)I"⟩, 63) := ⟨⟨by decide +kernel, by decide +kernel⟩, List.mem_of_getElem? (i := 1097) (by decide +kernel), List.mem_of_getElem? (i := 1470) (by decide +kernel), List.mem_of_getElem? (i := 1471) (by decide +kernel)⟩
theorem lw_p68 : lw_okq (⟨"TwoKingsModel", "holdsAny", "(I)Z"⟩, 63) := ⟨⟨by decide +kernel, by decide +kernel⟩, List.mem_of_getElem? (i := 1097) (by decide +kernel), List.mem_of_getElem? (i := 1477) (by decide +kernel), List.mem_of_getElem? (i := 1478) (by decide +kernel)⟩
theorem lw_p69 : lw_okq (⟨"TwoKingsModel", "moves", "(I)V"⟩, 63) := ⟨⟨by decide +kernel, by decide +kernel⟩, List.mem_of_getElem? (i := 1097) (by decide +kernel), List.mem_of_getElem? (i := 1481) (by decide +kernel), List.mem_of_getElem? (i := 1482) (by decide +kernel)⟩
theorem lw_p70 : lw_okq (⟨"TwoKingsModel", "hasRule", "(I)Z"⟩, 63) := ⟨⟨by decide +kernel, by decide +kernel⟩, List.mem_of_getElem? (i := 1097) (by decide +kernel), List.mem_of_getElem? (i := 1488) (by decide +kernel), List.mem_of_getElem? (i := 1489) (by decide +kernel)⟩
theorem lw_p71 : lw_okq (⟨"TwoKingsModel", "offenceTo", "(I)I"⟩, 63) := ⟨⟨by decide +kernel, by decide +kernel⟩, List.mem_of_getElem? (i := 1097) (by decide +kernel), List.mem_of_getElem? (i := 1492) (by decide +kernel), List.mem_of_getElem? (i := 1493) (by decide +kernel)⟩
theorem lw_p72 : lw_okq (⟨"TwoKingsModel", "readsPair", "()Z"⟩, 63) := ⟨⟨by decide +kernel, by decide +kernel⟩, List.mem_of_getElem? (i := 1097) (by decide +kernel), List.mem_of_getElem? (i := 1524) (by decide +kernel), List.mem_of_getElem? (i := 1525) (by decide +kernel)⟩
theorem lw_p73 : lw_okq (⟨"TwoKingsModel", "contradictsAt", "()I"⟩, 63) := ⟨⟨by decide +kernel, by decide +kernel⟩, List.mem_of_getElem? (i := 1097) (by decide +kernel), List.mem_of_getElem? (i := 1532) (by decide +kernel), List.mem_of_getElem? (i := 1533) (by decide +kernel)⟩
theorem lw_p74 : lw_okq (⟨"TwoKingsModel", "laysMoments", "(I)Z"⟩, 63) := ⟨⟨by decide +kernel, by decide +kernel⟩, List.mem_of_getElem? (i := 1097) (by decide +kernel), List.mem_of_getElem? (i := 1536) (by decide +kernel), List.mem_of_getElem? (i := 1537) (by decide +kernel)⟩
theorem lw_p75 : lw_okq (⟨"TwoKingsModel", "lifts", "(I)Z"⟩, 63) := ⟨⟨by decide +kernel, by decide +kernel⟩, List.mem_of_getElem? (i := 1097) (by decide +kernel), List.mem_of_getElem? (i := 1540) (by decide +kernel), List.mem_of_getElem? (i := 1541) (by decide +kernel)⟩
theorem lw_p76 : lw_okq (⟨"TwoKingsModel", "named", "()I"⟩, 63) := ⟨⟨by decide +kernel, by decide +kernel⟩, List.mem_of_getElem? (i := 1097) (by decide +kernel), List.mem_of_getElem? (i := 1544) (by decide +kernel), List.mem_of_getElem? (i := 1545) (by decide +kernel)⟩
theorem lw_p77 : lw_okq (⟨"TwoKingsModel", "atOnceWith", "(I)I"⟩, 63) := ⟨⟨by decide +kernel, by decide +kernel⟩, List.mem_of_getElem? (i := 1097) (by decide +kernel), List.mem_of_getElem? (i := 1555) (by decide +kernel), List.mem_of_getElem? (i := 1556) (by decide +kernel)⟩
theorem lw_p78 : lw_okq (⟨"TwoKingsModel", "aheadOf", "(I)I"⟩, 63) := ⟨⟨by decide +kernel, by decide +kernel⟩, List.mem_of_getElem? (i := 1097) (by decide +kernel), List.mem_of_getElem? (i := 1559) (by decide +kernel), List.mem_of_getElem? (i := 1560) (by decide +kernel)⟩
theorem lw_p79 : lw_okq (⟨"TwoKingsModel", "octet", "(I)I"⟩, 63) := ⟨⟨by decide +kernel, by decide +kernel⟩, List.mem_of_getElem? (i := 1097) (by decide +kernel), List.mem_of_getElem? (i := 1567) (by decide +kernel), List.mem_of_getElem? (i := 1568) (by decide +kernel)⟩
def lw_privs_5 : List (MethodName × Nat) := [(⟨"TwoKingsModel", "asks", "(I)V"⟩, 63), (⟨"TwoKingsModel", "feels", "(I)V"⟩, 63), (⟨"TwoKingsModel", "byLaw", "(II)I"⟩, 63), (⟨"TwoKingsModel", "comesTo", "(II)I"⟩, 63), (⟨"TwoKingsModel", "holdsAny", "(I)Z"⟩, 63), (⟨"TwoKingsModel", "moves", "(I)V"⟩, 63), (⟨"TwoKingsModel", "hasRule", "(I)Z"⟩, 63), (⟨"TwoKingsModel", "offenceTo", "(I)I"⟩, 63), (⟨"TwoKingsModel", "readsPair", "()Z"⟩, 63), (⟨"TwoKingsModel", "contradictsAt", "()I"⟩, 63), (⟨"TwoKingsModel", "laysMoments", "(I)Z"⟩, 63), (⟨"TwoKingsModel", "lifts", "(I)Z"⟩, 63), (⟨"TwoKingsModel", "named", "()I"⟩, 63), (⟨"TwoKingsModel", "atOnceWith", "(I)I"⟩, 63), (⟨"TwoKingsModel", "aheadOf", "(I)I"⟩, 63), (⟨"TwoKingsModel", "octet", "(I)I"⟩, 63)]
theorem lw_r5 : ∀ q ∈ lw_privs_5, lw_okq q := List.forall_mem_cons.mpr ⟨lw_p64, List.forall_mem_cons.mpr ⟨lw_p65, List.forall_mem_cons.mpr ⟨lw_p66, List.forall_mem_cons.mpr ⟨lw_p67, List.forall_mem_cons.mpr ⟨lw_p68, List.forall_mem_cons.mpr ⟨lw_p69, List.forall_mem_cons.mpr ⟨lw_p70, List.forall_mem_cons.mpr ⟨lw_p71, List.forall_mem_cons.mpr ⟨lw_p72, List.forall_mem_cons.mpr ⟨lw_p73, List.forall_mem_cons.mpr ⟨lw_p74, List.forall_mem_cons.mpr ⟨lw_p75, List.forall_mem_cons.mpr ⟨lw_p76, List.forall_mem_cons.mpr ⟨lw_p77, List.forall_mem_cons.mpr ⟨lw_p78, List.forall_mem_cons.mpr ⟨lw_p79, fun _ h => absurd h List.not_mem_nil⟩⟩⟩⟩⟩⟩⟩⟩⟩⟩⟩⟩⟩⟩⟩⟩
theorem lw_p80 : lw_okq (⟨"TwoKingsModel", "searches", "(II)I"⟩, 63) := ⟨⟨by decide +kernel, by decide +kernel⟩, List.mem_of_getElem? (i := 1097) (by decide +kernel), List.mem_of_getElem? (i := 1571) (by decide +kernel), List.mem_of_getElem? (i := 1572) (by decide +kernel)⟩
theorem lw_p81 : lw_okq (⟨"TwoKingsModel", "unfolds", "(II)V"⟩, 63) := ⟨⟨by decide +kernel, by decide +kernel⟩, List.mem_of_getElem? (i := 1097) (by decide +kernel), List.mem_of_getElem? (i := 1575) (by decide +kernel), List.mem_of_getElem? (i := 1576) (by decide +kernel)⟩
theorem lw_p82 : lw_okq (⟨"TwoKingsModel", "isThrough", "(I)Z"⟩, 63) := ⟨⟨by decide +kernel, by decide +kernel⟩, List.mem_of_getElem? (i := 1097) (by decide +kernel), List.mem_of_getElem? (i := 1579) (by decide +kernel), List.mem_of_getElem? (i := 1580) (by decide +kernel)⟩
theorem lw_p83 : lw_okq (⟨"TwoKingsModel", "goesTo", "(II)I"⟩, 63) := ⟨⟨by decide +kernel, by decide +kernel⟩, List.mem_of_getElem? (i := 1097) (by decide +kernel), List.mem_of_getElem? (i := 1583) (by decide +kernel), List.mem_of_getElem? (i := 1584) (by decide +kernel)⟩
theorem lw_p84 : lw_okq (⟨"TwoKingsModel", "leastGifts", "(II)I"⟩, 63) := ⟨⟨by decide +kernel, by decide +kernel⟩, List.mem_of_getElem? (i := 1097) (by decide +kernel), List.mem_of_getElem? (i := 1600) (by decide +kernel), List.mem_of_getElem? (i := 1601) (by decide +kernel)⟩
theorem lw_p85 : lw_okq (⟨"TwoKingsModel", "unlike", "(III)I"⟩, 63) := ⟨⟨by decide +kernel, by decide +kernel⟩, List.mem_of_getElem? (i := 1097) (by decide +kernel), List.mem_of_getElem? (i := 1607) (by decide +kernel), List.mem_of_getElem? (i := 1608) (by decide +kernel)⟩
theorem lw_p86 : lw_okq (⟨"TwoKingsModel", "sumOf", "(II)I"⟩, 63) := ⟨⟨by decide +kernel, by decide +kernel⟩, List.mem_of_getElem? (i := 1097) (by decide +kernel), List.mem_of_getElem? (i := 1615) (by decide +kernel), List.mem_of_getElem? (i := 1616) (by decide +kernel)⟩
theorem lw_p87 : lw_okq (⟨"TwoKingsModel", "mayBeSeats", "(I)V"⟩, 63) := ⟨⟨by decide +kernel, by decide +kernel⟩, List.mem_of_getElem? (i := 1097) (by decide +kernel), List.mem_of_getElem? (i := 1623) (by decide +kernel), List.mem_of_getElem? (i := 1624) (by decide +kernel)⟩
theorem lw_p88 : lw_okq (⟨"TwoKingsModel", "wrongsNow", "(I)I"⟩, 63) := ⟨⟨by decide +kernel, by decide +kernel⟩, List.mem_of_getElem? (i := 1097) (by decide +kernel), List.mem_of_getElem? (i := 1627) (by decide +kernel), List.mem_of_getElem? (i := 1628) (by decide +kernel)⟩
theorem lw_p89 : lw_okq (⟨"TwoKingsModel", "nextSeats", "(I)Z"⟩, 63) := ⟨⟨by decide +kernel, by decide +kernel⟩, List.mem_of_getElem? (i := 1097) (by decide +kernel), List.mem_of_getElem? (i := 1631) (by decide +kernel), List.mem_of_getElem? (i := 1632) (by decide +kernel)⟩
theorem lw_p90 : lw_okq (⟨"TwoKingsModel", "changesSeats", "(II)V"⟩, 63) := ⟨⟨by decide +kernel, by decide +kernel⟩, List.mem_of_getElem? (i := 1097) (by decide +kernel), List.mem_of_getElem? (i := 1635) (by decide +kernel), List.mem_of_getElem? (i := 1636) (by decide +kernel)⟩
def lw_privs_6 : List (MethodName × Nat) := [(⟨"TwoKingsModel", "searches", "(II)I"⟩, 63), (⟨"TwoKingsModel", "unfolds", "(II)V"⟩, 63), (⟨"TwoKingsModel", "isThrough", "(I)Z"⟩, 63), (⟨"TwoKingsModel", "goesTo", "(II)I"⟩, 63), (⟨"TwoKingsModel", "leastGifts", "(II)I"⟩, 63), (⟨"TwoKingsModel", "unlike", "(III)I"⟩, 63), (⟨"TwoKingsModel", "sumOf", "(II)I"⟩, 63), (⟨"TwoKingsModel", "mayBeSeats", "(I)V"⟩, 63), (⟨"TwoKingsModel", "wrongsNow", "(I)I"⟩, 63), (⟨"TwoKingsModel", "nextSeats", "(I)Z"⟩, 63), (⟨"TwoKingsModel", "changesSeats", "(II)V"⟩, 63)]
theorem lw_r6 : ∀ q ∈ lw_privs_6, lw_okq q := List.forall_mem_cons.mpr ⟨lw_p80, List.forall_mem_cons.mpr ⟨lw_p81, List.forall_mem_cons.mpr ⟨lw_p82, List.forall_mem_cons.mpr ⟨lw_p83, List.forall_mem_cons.mpr ⟨lw_p84, List.forall_mem_cons.mpr ⟨lw_p85, List.forall_mem_cons.mpr ⟨lw_p86, List.forall_mem_cons.mpr ⟨lw_p87, List.forall_mem_cons.mpr ⟨lw_p88, List.forall_mem_cons.mpr ⟨lw_p89, List.forall_mem_cons.mpr ⟨lw_p90, fun _ h => absurd h List.not_mem_nil⟩⟩⟩⟩⟩⟩⟩⟩⟩⟩⟩
def lw_privs : List (MethodName × Nat) := lw_privs_1 ++ (lw_privs_2 ++ (lw_privs_3 ++ (lw_privs_4 ++ (lw_privs_5 ++ (lw_privs_6)))))
def lw_tbl : List Cond := k2_sels lw_privs ++ tables_1
theorem lw_privs_ok : ∀ q ∈ lw_privs, lw_okq q := by
  show ∀ q ∈ lw_privs_1 ++ (lw_privs_2 ++ (lw_privs_3 ++ (lw_privs_4 ++ (lw_privs_5 ++ (lw_privs_6))))), lw_okq q
  exact List.forall_mem_append.mpr ⟨lw_r1, List.forall_mem_append.mpr ⟨lw_r2, List.forall_mem_append.mpr ⟨lw_r3, List.forall_mem_append.mpr ⟨lw_r4, List.forall_mem_append.mpr ⟨lw_r5, lw_r6⟩⟩⟩⟩⟩
end
section
def RX0 : String := "TwoKings$Ceremonies"
def TX0 : u_T := fun k => match k with
  | 0 => ("TwoKings$Ceremonies", "tape", "LTwoKings$Tape;", true)
  | 1 => ("TwoKings$Ceremonies", "mine", "[I", true)
  | 2 => ("TwoKings$Ceremonies", "yours", "[I", true)
  | 3 => ("TwoKings$Ceremonies", "pileHeight", "[I", true)
  | 4 => ("TwoKings$Ceremonies", "readBy", "[[I", true)
  | 5 => ("TwoKings$Ceremonies", "seats", "[I", true)
  | 6 => ("TwoKings$Ceremonies", "leastSeats", "[I", true)
  | 7 => ("TwoKings$Ceremonies", "ways", "[J", true)
  | 8 => ("TwoKings$Ceremonies", "best", "I", false)
  | 9 => ("TwoKings$Ceremonies", "second", "I", false)
  | _ => ("TwoKings$Ceremonies", "third", "I", false)
def tyX0 : Nat → FieldType := fun k => match k with
  | 0 => .object "TwoKings$Tape"
  | 1 => .array .int
  | 2 => .array .int
  | 3 => .array .int
  | 4 => .array (.array .int)
  | 5 => .array .int
  | 6 => .array .int
  | 7 => .array .long
  | 8 => .int
  | 9 => .int
  | _ => .int
theorem nmX0 : ∀ a, a < 11 → ∀ b, b < 11 → a ≠ b → (TX0 a).2.1 ≠ (TX0 b).2.1 := by decide +kernel
theorem tyX0_ok : ∀ k, k < 11 → parseFieldDescriptor (TX0 k).2.2.1 = some (tyX0 k) := by decide +kernel
abbrev cX0_init : ByteArray := prog_2_method_1_code
def yX0_init : MethodName := ⟨RX0, "<init>", "(LTwoKings$Tape;)V"⟩
abbrev cX0_allWithin : ByteArray := prog_2_method_2_code
def yX0_allWithin : MethodName := ⟨RX0, "allWithin", "(III)Z"⟩
abbrev cX0_sign : ByteArray := prog_2_method_3_code
def yX0_sign : MethodName := ⟨RX0, "sign", "(I)V"⟩
abbrev cX0_readTitles : ByteArray := prog_2_method_4_code
def yX0_readTitles : MethodName := ⟨RX0, "readTitles", "(II)V"⟩
abbrev cX0_openGifts : ByteArray := prog_2_method_5_code
def yX0_openGifts : MethodName := ⟨RX0, "openGifts", "(I)V"⟩
abbrev cX0_sortInto : ByteArray := prog_2_method_6_code
def yX0_sortInto : MethodName := ⟨RX0, "sortInto", "([III)V"⟩
abbrev cX0_pile : ByteArray := prog_2_method_7_code
def yX0_pile : MethodName := ⟨RX0, "pile", "(III)V"⟩
abbrev cX0_leastPile : ByteArray := prog_2_method_8_code
def yX0_leastPile : MethodName := ⟨RX0, "leastPile", "(II)I"⟩
abbrev cX0_seatAll : ByteArray := prog_2_method_9_code
def yX0_seatAll : MethodName := ⟨RX0, "seatAll", "(I)V"⟩
abbrev cX0_seatedBehind : ByteArray := prog_2_method_10_code
def yX0_seatedBehind : MethodName := ⟨RX0, "seatedBehind", "(I)I"⟩
abbrev cX0_seatedBadly : ByteArray := prog_2_method_11_code
def yX0_seatedBadly : MethodName := ⟨RX0, "seatedBadly", "(I)I"⟩
abbrev cX0_goesToNextRow : ByteArray := prog_2_method_12_code
def yX0_goesToNextRow : MethodName := ⟨RX0, "goesToNextRow", "(I)Z"⟩
abbrev cX0_swapSeats : ByteArray := prog_2_method_13_code
def yX0_swapSeats : MethodName := ⟨RX0, "swapSeats", "(II)V"⟩
abbrev cX0_cut : ByteArray := prog_2_method_14_code
def yX0_cut : MethodName := ⟨RX0, "cut", "(I)V"⟩
abbrev cX0_climb : ByteArray := prog_2_method_15_code
def yX0_climb : MethodName := ⟨RX0, "climb", "(III)J"⟩
abbrev cX0_waysTo : ByteArray := prog_2_method_16_code
def yX0_waysTo : MethodName := ⟨RX0, "waysTo", "(I)J"⟩
def RX1 : String := "TwoKings$King"
def TX1 : u_T := fun k => match k with
  | 0 => ("TwoKings$King", "stepsLeft", "I", false)
  | 1 => ("TwoKings$King", "bow", "I", false)
  | 2 => ("TwoKings$King", "offence", "I", false)
  | 3 => ("TwoKings$King", "hatOn", "Z", false)
  | 4 => ("TwoKings$King", "limps", "Z", false)
  | 5 => ("TwoKings$King", "hasLeft", "Z", false)
  | 6 => ("TwoKings$King", "forward", "I", false)
  | 7 => ("TwoKings$King", "deeper", "I", false)
  | 8 => ("TwoKings$King", "higher", "I", false)
  | 9 => ("TwoKings$King", "hatOnNext", "Z", false)
  | _ => ("TwoKings$King", "leavesNext", "Z", false)
def tyX1 : Nat → FieldType := fun k => match k with
  | 0 => .int
  | 1 => .int
  | 2 => .int
  | 3 => .boolean
  | 4 => .boolean
  | 5 => .boolean
  | 6 => .int
  | 7 => .int
  | 8 => .int
  | 9 => .boolean
  | _ => .boolean
theorem nmX1 : ∀ a, a < 11 → ∀ b, b < 11 → a ≠ b → (TX1 a).2.1 ≠ (TX1 b).2.1 := by decide +kernel
theorem tyX1_ok : ∀ k, k < 11 → parseFieldDescriptor (TX1 k).2.2.1 = some (tyX1 k) := by decide +kernel
abbrev cX1_init : ByteArray := prog_3_method_1_code
def yX1_init : MethodName := ⟨RX1, "<init>", "()V"⟩
abbrev cX1_begin : ByteArray := prog_3_method_2_code
def yX1_begin : MethodName := ⟨RX1, "begin", "(IZ)V"⟩
abbrev cX1_become : ByteArray := prog_3_method_3_code
def yX1_become : MethodName := ⟨RX1, "become", "(LTwoKings$King;)V"⟩
abbrev cX1_ask : ByteArray := prog_3_method_4_code
def yX1_ask : MethodName := ⟨RX1, "ask", "(LTwoKings$Law;)V"⟩
abbrev cX1_goForward : ByteArray := prog_3_method_5_code
def yX1_goForward : MethodName := ⟨RX1, "goForward", "(I)V"⟩
abbrev cX1_appease : ByteArray := prog_3_method_6_code
def yX1_appease : MethodName := ⟨RX1, "appease", "(I)V"⟩
abbrev cX1_move : ByteArray := prog_3_method_7_code
def yX1_move : MethodName := ⟨RX1, "move", "()V"⟩
abbrev cX1_takeOffence : ByteArray := prog_3_method_8_code
def yX1_takeOffence : MethodName := ⟨RX1, "takeOffence", "(LTwoKings$King;II)V"⟩
def RX2 : String := "TwoKings$Lane"
def TX2 : u_T := fun k => match k with
  | 0 => ("TwoKings$Lane", "queue", "[I", true)
  | 1 => ("TwoKings$Lane", "known", "[I", true)
  | 2 => ("TwoKings$Lane", "row", "[I", true)
  | 3 => ("TwoKings$Lane", "places", "I", false)
  | 4 => ("TwoKings$Lane", "tail", "I", false)
  | 5 => ("TwoKings$Lane", "moves", "I", false)
  | _ => ("TwoKings$Lane", "firstPlace", "I", false)
def tyX2 : Nat → FieldType := fun k => match k with
  | 0 => .array .int
  | 1 => .array .int
  | 2 => .array .int
  | 3 => .int
  | 4 => .int
  | 5 => .int
  | _ => .int
theorem nmX2 : ∀ a, a < 7 → ∀ b, b < 7 → a ≠ b → (TX2 a).2.1 ≠ (TX2 b).2.1 := by decide +kernel
theorem tyX2_ok : ∀ k, k < 7 → parseFieldDescriptor (TX2 k).2.2.1 = some (tyX2 k) := by decide +kernel
abbrev cX2_init : ByteArray := prog_4_method_1_code
def yX2_init : MethodName := ⟨RX2, "<init>", "()V"⟩
abbrev cX2_readFrom : ByteArray := prog_4_method_2_code
def yX2_readFrom : MethodName := ⟨RX2, "readFrom", "(LTwoKings$Tape;I)I"⟩
abbrev cX2_canPass : ByteArray := prog_4_method_3_code
def yX2_canPass : MethodName := ⟨RX2, "canPass", "()Z"⟩
abbrev cX2_addMoves : ByteArray := prog_4_method_4_code
def yX2_addMoves : MethodName := ⟨RX2, "addMoves", "(II)V"⟩
abbrev cX2_add : ByteArray := prog_4_method_5_code
def yX2_add : MethodName := ⟨RX2, "add", "(II)V"⟩
abbrev cX2_allHavePassed : ByteArray := prog_4_method_6_code
def yX2_allHavePassed : MethodName := ⟨RX2, "allHavePassed", "()Z"⟩
abbrev cX2_landing : ByteArray := prog_4_method_7_code
def yX2_landing : MethodName := ⟨RX2, "landing", "(I)I"⟩
abbrev cX2_standsAt : ByteArray := prog_4_method_8_code
def yX2_standsAt : MethodName := ⟨RX2, "standsAt", "(I)I"⟩
abbrev cX2_packed : ByteArray := prog_4_method_9_code
def yX2_packed : MethodName := ⟨RX2, "packed", "()I"⟩
abbrev cX2_unpack : ByteArray := prog_4_method_10_code
def yX2_unpack : MethodName := ⟨RX2, "unpack", "(I)V"⟩
def RX3 : String := "TwoKings$Law"
def TX3 : u_T := fun k => match k with
  | 0 => ("TwoKings$Law", "code", "[I", true)
  | 1 => ("TwoKings$Law", "letters", "[I", true)
  | 2 => ("TwoKings$Law", "amountAt", "[I", true)
  | 3 => ("TwoKings$Law", "testAt", "[I", true)
  | 4 => ("TwoKings$Law", "stack", "[I", true)
  | 5 => ("TwoKings$Law", "seen", "[I", true)
  | 6 => ("TwoKings$Law", "size", "I", false)
  | _ => ("TwoKings$Law", "rules", "I", false)
def tyX3 : Nat → FieldType := fun k => match k with
  | 0 => .array .int
  | 1 => .array .int
  | 2 => .array .int
  | 3 => .array .int
  | 4 => .array .int
  | 5 => .array .int
  | 6 => .int
  | _ => .int
theorem nmX3 : ∀ a, a < 8 → ∀ b, b < 8 → a ≠ b → (TX3 a).2.1 ≠ (TX3 b).2.1 := by decide +kernel
theorem tyX3_ok : ∀ k, k < 8 → parseFieldDescriptor (TX3 k).2.2.1 = some (tyX3 k) := by decide +kernel
abbrev cX3_init : ByteArray := prog_5_method_1_code
def yX3_init : MethodName := ⟨RX3, "<init>", "()V"⟩
abbrev cX3_clear : ByteArray := prog_5_method_2_code
def yX3_clear : MethodName := ⟨RX3, "clear", "()V"⟩
abbrev cX3_become : ByteArray := prog_5_method_3_code
def yX3_become : MethodName := ⟨RX3, "become", "(LTwoKings$Law;)V"⟩
abbrev cX3_beginRule : ByteArray := prog_5_method_4_code
def yX3_beginRule : MethodName := ⟨RX3, "beginRule", "(I)V"⟩
abbrev cX3_beginTest : ByteArray := prog_5_method_5_code
def yX3_beginTest : MethodName := ⟨RX3, "beginTest", "()V"⟩
abbrev cX3_put : ByteArray := prog_5_method_6_code
def yX3_put : MethodName := ⟨RX3, "put", "(II)I"⟩
abbrev cX3_letGoOnHere : ByteArray := prog_5_method_7_code
def yX3_letGoOnHere : MethodName := ⟨RX3, "letGoOnHere", "(I)V"⟩
abbrev cX3_lookAt : ByteArray := prog_5_method_8_code
def yX3_lookAt : MethodName := ⟨RX3, "lookAt", "(ILTwoKings$King;LTwoKings$King;II)V"⟩
abbrev cX3_amountOf : ByteArray := prog_5_method_9_code
def yX3_amountOf : MethodName := ⟨RX3, "amountOf", "(II)I"⟩
abbrev cX3_anyHolds : ByteArray := prog_5_method_10_code
def yX3_anyHolds : MethodName := ⟨RX3, "anyHolds", "(I)Z"⟩
abbrev cX3_speaksOf : ByteArray := prog_5_method_11_code
def yX3_speaksOf : MethodName := ⟨RX3, "speaksOf", "(I)Z"⟩
abbrev cX3_reckon : ByteArray := prog_5_method_12_code
def yX3_reckon : MethodName := ⟨RX3, "reckon", "(I)I"⟩
abbrev cX3_seenAt : ByteArray := prog_5_method_13_code
def yX3_seenAt : MethodName := ⟨RX3, "seenAt", "(I)I"⟩
abbrev cX3_isRefused : ByteArray := prog_5_method_14_code
def yX3_isRefused : MethodName := ⟨RX3, "isRefused", "(II)Z"⟩
abbrev cX3_join : ByteArray := prog_5_method_15_code
def yX3_join : MethodName := ⟨RX3, "join", "(III)I"⟩
def RX4 : String := "TwoKings$LawReader"
def TX4 : u_T := fun k => match k with
  | 0 => ("TwoKings$Reader", "tape", "LTwoKings$Tape;", true)
  | 1 => ("TwoKings$Reader", "end", "I", false)
  | 2 => ("TwoKings$Reader", "fault", "I", false)
  | 3 => ("TwoKings$Reader", "at", "I", false)
  | 4 => ("TwoKings$Reader", "value", "I", false)
  | 5 => ("TwoKings$LawReader", "draft", "LTwoKings$Law;", true)
  | _ => ("TwoKings$LawReader", "open", "I", false)
def tyX4 : Nat → FieldType := fun k => match k with
  | 0 => .object "TwoKings$Tape"
  | 1 => .int
  | 2 => .int
  | 3 => .int
  | 4 => .int
  | 5 => .object "TwoKings$Law"
  | _ => .int
theorem nmX4 : ∀ a, a < 7 → ∀ b, b < 7 → a ≠ b → (TX4 a).2.1 ≠ (TX4 b).2.1 := by decide +kernel
theorem tyX4_ok : ∀ k, k < 7 → parseFieldDescriptor (TX4 k).2.2.1 = some (tyX4 k) := by decide +kernel
abbrev cX4_init : ByteArray := prog_6_method_1_code
def yX4_init : MethodName := ⟨RX4, "<init>", "(LTwoKings$Tape;)V"⟩
abbrev cX4_readLine : ByteArray := prog_6_method_2_code
def yX4_readLine : MethodName := ⟨RX4, "readLine", "(I)Z"⟩
abbrev cX4_readGroup : ByteArray := prog_6_method_3_code
def yX4_readGroup : MethodName := ⟨RX4, "readGroup", "()Z"⟩
abbrev cX4_readChoice : ByteArray := prog_6_method_4_code
def yX4_readChoice : MethodName := ⟨RX4, "readChoice", "()Z"⟩
abbrev cX4_readPart : ByteArray := prog_6_method_5_code
def yX4_readPart : MethodName := ⟨RX4, "readPart", "()Z"⟩
abbrev cX4_readTest : ByteArray := prog_6_method_6_code
def yX4_readTest : MethodName := ⟨RX4, "readTest", "()Z"⟩
abbrev cX4_readNot : ByteArray := prog_6_method_7_code
def yX4_readNot : MethodName := ⟨RX4, "readNot", "()Z"⟩
abbrev cX4_readSum : ByteArray := prog_6_method_8_code
def yX4_readSum : MethodName := ⟨RX4, "readSum", "()Z"⟩
abbrev cX4_readTerm : ByteArray := prog_6_method_9_code
def yX4_readTerm : MethodName := ⟨RX4, "readTerm", "()Z"⟩
abbrev cX4_readFactor : ByteArray := prog_6_method_10_code
def yX4_readFactor : MethodName := ⟨RX4, "readFactor", "()Z"⟩
abbrev cX4_readBracket : ByteArray := prog_6_method_11_code
def yX4_readBracket : MethodName := ⟨RX4, "readBracket", "()Z"⟩
abbrev cX4_opens : ByteArray := prog_6_method_12_code
def yX4_opens : MethodName := ⟨RX4, "opens", "()Z"⟩
def RX5 : String := "TwoKings$Meeting"
def TX5 : u_T := fun k => match k with
  | 0 => ("TwoKings$Meeting", "first", "LTwoKings$King;", true)
  | 1 => ("TwoKings$Meeting", "other", "LTwoKings$King;", true)
  | 2 => ("TwoKings$Meeting", "breath", "I", false)
  | _ => ("TwoKings$Meeting", "x", "I", false)
def tyX5 : Nat → FieldType := fun k => match k with
  | 0 => .object "TwoKings$King"
  | 1 => .object "TwoKings$King"
  | 2 => .int
  | _ => .int
theorem nmX5 : ∀ a, a < 4 → ∀ b, b < 4 → a ≠ b → (TX5 a).2.1 ≠ (TX5 b).2.1 := by decide +kernel
theorem tyX5_ok : ∀ k, k < 4 → parseFieldDescriptor (TX5 k).2.2.1 = some (tyX5 k) := by decide +kernel
abbrev cX5_init : ByteArray := prog_7_method_1_code
def yX5_init : MethodName := ⟨RX5, "<init>", "()V"⟩
abbrev cX5_kingOf : ByteArray := prog_7_method_2_code
def yX5_kingOf : MethodName := ⟨RX5, "kingOf", "(I)LTwoKings$King;"⟩
abbrev cX5_become : ByteArray := prog_7_method_3_code
def yX5_become : MethodName := ⟨RX5, "become", "(LTwoKings$Meeting;)V"⟩
abbrev cX5_whoArrived : ByteArray := prog_7_method_4_code
def yX5_whoArrived : MethodName := ⟨RX5, "whoArrived", "()I"⟩
abbrev cX5_haveMet : ByteArray := prog_7_method_5_code
def yX5_haveMet : MethodName := ⟨RX5, "haveMet", "()Z"⟩
abbrev cX5_whoLeft : ByteArray := prog_7_method_6_code
def yX5_whoLeft : MethodName := ⟨RX5, "whoLeft", "()I"⟩
abbrev cX5_lead : ByteArray := prog_7_method_7_code
def yX5_lead : MethodName := ⟨RX5, "lead", "()I"⟩
abbrev cX5_whoIsNearer : ByteArray := prog_7_method_8_code
def yX5_whoIsNearer : MethodName := ⟨RX5, "whoIsNearer", "()I"⟩
abbrev cX5_breathe : ByteArray := prog_7_method_9_code
def yX5_breathe : MethodName := ⟨RX5, "breathe", "(LTwoKings$Law;II)Z"⟩
abbrev cX5_draw : ByteArray := prog_7_method_10_code
def yX5_draw : MethodName := ⟨RX5, "draw", "()I"⟩
def RX6 : String := "TwoKings$OrdersReader"
def TX6 : u_T := fun k => match k with
  | 0 => ("TwoKings$Reader", "tape", "LTwoKings$Tape;", true)
  | 1 => ("TwoKings$Reader", "end", "I", false)
  | 2 => ("TwoKings$Reader", "fault", "I", false)
  | 3 => ("TwoKings$Reader", "at", "I", false)
  | 4 => ("TwoKings$Reader", "value", "I", false)
  | 5 => ("TwoKings$OrdersReader", "whom", "[I", true)
  | 6 => ("TwoKings$OrdersReader", "what", "[I", true)
  | _ => ("TwoKings$OrdersReader", "much", "[I", true)
def tyX6 : Nat → FieldType := fun k => match k with
  | 0 => .object "TwoKings$Tape"
  | 1 => .int
  | 2 => .int
  | 3 => .int
  | 4 => .int
  | 5 => .array .int
  | 6 => .array .int
  | _ => .array .int
theorem nmX6 : ∀ a, a < 8 → ∀ b, b < 8 → a ≠ b → (TX6 a).2.1 ≠ (TX6 b).2.1 := by decide +kernel
theorem tyX6_ok : ∀ k, k < 8 → parseFieldDescriptor (TX6 k).2.2.1 = some (tyX6 k) := by decide +kernel
abbrev cX6_init : ByteArray := prog_8_method_1_code
def yX6_init : MethodName := ⟨RX6, "<init>", "(LTwoKings$Tape;)V"⟩
abbrev cX6_readLine : ByteArray := prog_8_method_2_code
def yX6_readLine : MethodName := ⟨RX6, "readLine", "(I)Z"⟩
abbrev cX6_obey : ByteArray := prog_8_method_3_code
def yX6_obey : MethodName := ⟨RX6, "obey", "(LTwoKings$Meeting;I)V"⟩
abbrev cX6_obeyLine : ByteArray := prog_8_method_4_code
def yX6_obeyLine : MethodName := ⟨RX6, "obeyLine", "(ILTwoKings$King;)V"⟩
def RX7 : String := "TwoKings$Reader"
def TX7 : u_T := fun k => match k with
  | _ => ("", "", "", false)
def tyX7 : Nat → FieldType := fun k => match k with
  | _ => .int
theorem nmX7 : ∀ a, a < 0 → ∀ b, b < 0 → a ≠ b → (TX7 a).2.1 ≠ (TX7 b).2.1 := by decide +kernel
theorem tyX7_ok : ∀ k, k < 0 → parseFieldDescriptor (TX7 k).2.2.1 = some (tyX7 k) := by decide +kernel
abbrev cX7_init : ByteArray := prog_9_method_1_code
def yX7_init : MethodName := ⟨RX7, "<init>", "(LTwoKings$Tape;)V"⟩
abbrev cX7_readText : ByteArray := prog_9_method_3_code
def yX7_readText : MethodName := ⟨RX7, "readText", "(I)I"⟩
abbrev cX7_isOn : ByteArray := prog_9_method_4_code
def yX7_isOn : MethodName := ⟨RX7, "isOn", "(Ljava/lang/String;)Z"⟩
abbrev cX7_takes : ByteArray := prog_9_method_5_code
def yX7_takes : MethodName := ⟨RX7, "takes", "(Ljava/lang/String;)Z"⟩
abbrev cX7_readNumber : ByteArray := prog_9_method_6_code
def yX7_readNumber : MethodName := ⟨RX7, "readNumber", "(I)Z"⟩
abbrev cX7_cannotStand : ByteArray := prog_9_method_7_code
def yX7_cannotStand : MethodName := ⟨RX7, "cannotStand", "()Z"⟩
abbrev cX7_fails : ByteArray := prog_9_method_8_code
def yX7_fails : MethodName := ⟨RX7, "fails", "(II)Z"⟩
def RX8 : String := "TwoKings$Tape"
def TX8 : u_T := fun k => match k with
  | 0 => ("TwoKings$Tape", "bytes", "[I", true)
  | _ => ("TwoKings$Tape", "size", "I", false)
def tyX8 : Nat → FieldType := fun k => match k with
  | 0 => .array .int
  | _ => .int
theorem nmX8 : ∀ a, a < 2 → ∀ b, b < 2 → a ≠ b → (TX8 a).2.1 ≠ (TX8 b).2.1 := by decide +kernel
theorem tyX8_ok : ∀ k, k < 2 → parseFieldDescriptor (TX8 k).2.2.1 = some (tyX8 k) := by decide +kernel
abbrev cX8_init : ByteArray := prog_10_method_1_code
def yX8_init : MethodName := ⟨RX8, "<init>", "()V"⟩
abbrev cX8_has : ByteArray := prog_10_method_2_code
def yX8_has : MethodName := ⟨RX8, "has", "(I)Z"⟩
abbrev cX8_append : ByteArray := prog_10_method_3_code
def yX8_append : MethodName := ⟨RX8, "append", "(I)V"⟩
abbrev cX8_byteAt : ByteArray := prog_10_method_4_code
def yX8_byteAt : MethodName := ⟨RX8, "byteAt", "(I)I"⟩
abbrev cX8_clear : ByteArray := prog_10_method_5_code
def yX8_clear : MethodName := ⟨RX8, "clear", "()V"⟩
def RX9 : String := "TwoKings$Treaty"
def TX9 : u_T := fun k => match k with
  | 0 => ("TwoKings$Treaty", "atOnce", "[I", true)
  | 1 => ("TwoKings$Treaty", "ahead", "[I", true)
  | 2 => ("TwoKings$Treaty", "moment", "[I", true)
  | 3 => ("TwoKings$Treaty", "lines", "I", false)
  | 4 => ("TwoKings$Treaty", "named", "I", false)
  | _ => ("TwoKings$Treaty", "contradiction", "I", false)
def tyX9 : Nat → FieldType := fun k => match k with
  | 0 => .array .int
  | 1 => .array .int
  | 2 => .array .int
  | 3 => .int
  | 4 => .int
  | _ => .int
theorem nmX9 : ∀ a, a < 6 → ∀ b, b < 6 → a ≠ b → (TX9 a).2.1 ≠ (TX9 b).2.1 := by decide +kernel
theorem tyX9_ok : ∀ k, k < 6 → parseFieldDescriptor (TX9 k).2.2.1 = some (tyX9 k) := by decide +kernel
abbrev cX9_init : ByteArray := prog_11_method_1_code
def yX9_init : MethodName := ⟨RX9, "<init>", "()V"⟩
abbrev cX9_become : ByteArray := prog_11_method_2_code
def yX9_become : MethodName := ⟨RX9, "become", "(LTwoKings$TreatyReader;I)V"⟩
abbrev cX9_names : ByteArray := prog_11_method_3_code
def yX9_names : MethodName := ⟨RX9, "names", "(I)Z"⟩
abbrev cX9_atOnceWith : ByteArray := prog_11_method_4_code
def yX9_atOnceWith : MethodName := ⟨RX9, "atOnceWith", "(I)I"⟩
abbrev cX9_aheadOf : ByteArray := prog_11_method_5_code
def yX9_aheadOf : MethodName := ⟨RX9, "aheadOf", "(I)I"⟩
abbrev cX9_momentOf : ByteArray := prog_11_method_6_code
def yX9_momentOf : MethodName := ⟨RX9, "momentOf", "(I)I"⟩
abbrev cX9_lastMoment : ByteArray := prog_11_method_7_code
def yX9_lastMoment : MethodName := ⟨RX9, "lastMoment", "()I"⟩
abbrev cX9_agrees : ByteArray := prog_11_method_8_code
def yX9_agrees : MethodName := ⟨RX9, "agrees", "(III)Z"⟩
abbrev cX9_joinActs : ByteArray := prog_11_method_9_code
def yX9_joinActs : MethodName := ⟨RX9, "joinActs", "(II)V"⟩
abbrev cX9_shareAhead : ByteArray := prog_11_method_10_code
def yX9_shareAhead : MethodName := ⟨RX9, "shareAhead", "()V"⟩
abbrev cX9_closeAhead : ByteArray := prog_11_method_11_code
def yX9_closeAhead : MethodName := ⟨RX9, "closeAhead", "()V"⟩
abbrev cX9_findMoments : ByteArray := prog_11_method_12_code
def yX9_findMoments : MethodName := ⟨RX9, "findMoments", "()V"⟩
abbrev cX9_momentBehind : ByteArray := prog_11_method_13_code
def yX9_momentBehind : MethodName := ⟨RX9, "momentBehind", "(I)I"⟩
def RX10 : String := "TwoKings$TreatyReader"
def TX10 : u_T := fun k => match k with
  | 0 => ("TwoKings$Reader", "tape", "LTwoKings$Tape;", true)
  | 1 => ("TwoKings$Reader", "end", "I", false)
  | 2 => ("TwoKings$Reader", "fault", "I", false)
  | 3 => ("TwoKings$Reader", "at", "I", false)
  | 4 => ("TwoKings$Reader", "value", "I", false)
  | 5 => ("TwoKings$TreatyReader", "left", "[I", true)
  | 6 => ("TwoKings$TreatyReader", "sign", "[I", true)
  | _ => ("TwoKings$TreatyReader", "right", "[I", true)
def tyX10 : Nat → FieldType := fun k => match k with
  | 0 => .object "TwoKings$Tape"
  | 1 => .int
  | 2 => .int
  | 3 => .int
  | 4 => .int
  | 5 => .array .int
  | 6 => .array .int
  | _ => .array .int
theorem nmX10 : ∀ a, a < 8 → ∀ b, b < 8 → a ≠ b → (TX10 a).2.1 ≠ (TX10 b).2.1 := by decide +kernel
theorem tyX10_ok : ∀ k, k < 8 → parseFieldDescriptor (TX10 k).2.2.1 = some (tyX10 k) := by decide +kernel
abbrev cX10_init : ByteArray := prog_12_method_1_code
def yX10_init : MethodName := ⟨RX10, "<init>", "(LTwoKings$Tape;)V"⟩
abbrev cX10_readLine : ByteArray := prog_12_method_2_code
def yX10_readLine : MethodName := ⟨RX10, "readLine", "(I)Z"⟩
def RX11 : String := "TwoKings"
def TX11 : u_T := fun k => match k with
  | 0 => ("TwoKings", "tape", "LTwoKings$Tape;", true)
  | 1 => ("TwoKings", "law", "LTwoKings$Law;", true)
  | 2 => ("TwoKings", "lawReader", "LTwoKings$LawReader;", true)
  | 3 => ("TwoKings", "ordersReader", "LTwoKings$OrdersReader;", true)
  | 4 => ("TwoKings", "treaty", "LTwoKings$Treaty;", true)
  | 5 => ("TwoKings", "treatyReader", "LTwoKings$TreatyReader;", true)
  | 6 => ("TwoKings", "now", "LTwoKings$Meeting;", true)
  | 7 => ("TwoKings", "trial", "LTwoKings$Meeting;", true)
  | 8 => ("TwoKings", "kept", "LTwoKings$Meeting;", true)
  | 9 => ("TwoKings", "mules", "LTwoKings$Lane;", true)
  | 10 => ("TwoKings", "ceremonies", "LTwoKings$Ceremonies;", true)
  | 11 => ("TwoKings", "hasKept", "Z", false)
  | 12 => ("TwoKings", "stepTolerance", "I", false)
  | _ => ("TwoKings", "bowTolerance", "I", false)
def tyX11 : Nat → FieldType := fun k => match k with
  | 0 => .object "TwoKings$Tape"
  | 1 => .object "TwoKings$Law"
  | 2 => .object "TwoKings$LawReader"
  | 3 => .object "TwoKings$OrdersReader"
  | 4 => .object "TwoKings$Treaty"
  | 5 => .object "TwoKings$TreatyReader"
  | 6 => .object "TwoKings$Meeting"
  | 7 => .object "TwoKings$Meeting"
  | 8 => .object "TwoKings$Meeting"
  | 9 => .object "TwoKings$Lane"
  | 10 => .object "TwoKings$Ceremonies"
  | 11 => .boolean
  | 12 => .int
  | _ => .int
theorem nmX11 : ∀ a, a < 14 → ∀ b, b < 14 → a ≠ b → (TX11 a).2.1 ≠ (TX11 b).2.1 := by decide +kernel
theorem tyX11_ok : ∀ k, k < 14 → parseFieldDescriptor (TX11 k).2.2.1 = some (tyX11 k) := by decide +kernel
abbrev cX11_init : ByteArray := prog_1_method_1_code
def yX11_init : MethodName := ⟨RX11, "<init>", "()V"⟩
abbrev cX11_king : ByteArray := prog_1_method_2_code
def yX11_king : MethodName := ⟨RX11, "king", "(IIZ)Z"⟩
abbrev cX11_tolerance : ByteArray := prog_1_method_3_code
def yX11_tolerance : MethodName := ⟨RX11, "tolerance", "(II)Z"⟩
abbrev cX11_feed : ByteArray := prog_1_method_4_code
def yX11_feed : MethodName := ⟨RX11, "feed", "(IIIII)I"⟩
abbrev cX11_law : ByteArray := prog_1_method_5_code
def yX11_law : MethodName := ⟨RX11, "law", "(I)I"⟩
abbrev cX11_orders : ByteArray := prog_1_method_6_code
def yX11_orders : MethodName := ⟨RX11, "orders", "(I)I"⟩
abbrev cX11_treaty : ByteArray := prog_1_method_7_code
def yX11_treaty : MethodName := ⟨RX11, "treaty", "(I)I"⟩
abbrev cX11_breaths : ByteArray := prog_1_method_8_code
def yX11_breaths : MethodName := ⟨RX11, "breaths", "(I)I"⟩
abbrev cX11_tried : ByteArray := prog_1_method_9_code
def yX11_tried : MethodName := ⟨RX11, "tried", "(II)I"⟩
abbrev cX11_kingIs : ByteArray := prog_1_method_10_code
def yX11_kingIs : MethodName := ⟨RX11, "kingIs", "(II)I"⟩
abbrev cX11_meet : ByteArray := prog_1_method_11_code
def yX11_meet : MethodName := ⟨RX11, "meet", "(II)I"⟩
abbrev cX11_leaves : ByteArray := prog_1_method_12_code
def yX11_leaves : MethodName := ⟨RX11, "leaves", "(II)I"⟩
abbrev cX11_worst : ByteArray := prog_1_method_13_code
def yX11_worst : MethodName := ⟨RX11, "worst", "(I)I"⟩
abbrev cX11_nearer : ByteArray := prog_1_method_14_code
def yX11_nearer : MethodName := ⟨RX11, "nearer", "(II)I"⟩
abbrev cX11_moments : ByteArray := prog_1_method_15_code
def yX11_moments : MethodName := ⟨RX11, "moments", "(I)I"⟩
abbrev cX11_act : ByteArray := prog_1_method_16_code
def yX11_act : MethodName := ⟨RX11, "act", "(II)I"⟩
abbrev cX11_lane : ByteArray := prog_1_method_17_code
def yX11_lane : MethodName := ⟨RX11, "lane", "(II)I"⟩
abbrev cX11_signing : ByteArray := prog_1_method_18_code
def yX11_signing : MethodName := ⟨RX11, "signing", "(II)I"⟩
abbrev cX11_titles : ByteArray := prog_1_method_19_code
def yX11_titles : MethodName := ⟨RX11, "titles", "(III)I"⟩
abbrev cX11_gifts : ByteArray := prog_1_method_20_code
def yX11_gifts : MethodName := ⟨RX11, "gifts", "(II)I"⟩
abbrev cX11_cushions : ByteArray := prog_1_method_21_code
def yX11_cushions : MethodName := ⟨RX11, "cushions", "(IIII)I"⟩
abbrev cX11_table : ByteArray := prog_1_method_22_code
def yX11_table : MethodName := ⟨RX11, "table", "(II)I"⟩
abbrev cX11_drums : ByteArray := prog_1_method_23_code
def yX11_drums : MethodName := ⟨RX11, "drums", "(IIII)I"⟩
abbrev cX11_tent : ByteArray := prog_1_method_24_code
def yX11_tent : MethodName := ⟨RX11, "tent", "(II)I"⟩
abbrev cX11_stairs : ByteArray := prog_1_method_25_code
def yX11_stairs : MethodName := ⟨RX11, "stairs", "(III)J"⟩
abbrev cX11_heralds : ByteArray := prog_1_method_26_code
def yX11_heralds : MethodName := ⟨RX11, "heralds", "(II)I"⟩
abbrev cX11_seed : ByteArray := prog_1_method_27_code
def yX11_seed : MethodName := ⟨RX11, "seed", "(I)Z"⟩
abbrev cX11_keep : ByteArray := prog_1_method_28_code
def yX11_keep : MethodName := ⟨RX11, "keep", "()I"⟩
abbrev cX11_undo : ByteArray := prog_1_method_29_code
def yX11_undo : MethodName := ⟨RX11, "undo", "()Z"⟩
abbrev cX11_check : ByteArray := prog_1_method_30_code
def yX11_check : MethodName := ⟨RX11, "check", "()I"⟩
abbrev cX11_count : ByteArray := prog_1_method_31_code
def yX11_count : MethodName := ⟨RX11, "count", "(I)I"⟩
abbrev cX11_goesBy : ByteArray := prog_1_method_32_code
def yX11_goesBy : MethodName := ⟨RX11, "goesBy", "(LTwoKings$Meeting;)Z"⟩
abbrev cX11_triedKing : ByteArray := prog_1_method_33_code
def yX11_triedKing : MethodName := ⟨RX11, "triedKing", "(LTwoKings$King;I)I"⟩
abbrev cX11_outside : ByteArray := prog_1_method_34_code
def yX11_outside : MethodName := ⟨RX11, "outside", "(III)Z"⟩
abbrev cX11_whoOfBits : ByteArray := prog_1_method_35_code
def yX11_whoOfBits : MethodName := ⟨RX11, "whoOfBits", "(I)I"⟩
def RX12 : String := "TwoKingsModel"
def TX12 : u_T := fun k => match k with
  | 0 => ("TwoKingsModel", "now", "[I", true)
  | 1 => ("TwoKingsModel", "aside", "[I", true)
  | 2 => ("TwoKingsModel", "kept", "[I", true)
  | 3 => ("TwoKingsModel", "mostSteps", "I", false)
  | 4 => ("TwoKingsModel", "mostDegrees", "I", false)
  | 5 => ("TwoKingsModel", "tape", "[B", true)
  | 6 => ("TwoKingsModel", "taped", "I", false)
  | 7 => ("TwoKingsModel", "place0", "I", false)
  | 8 => ("TwoKingsModel", "length0", "I", false)
  | 9 => ("TwoKingsModel", "fault", "I", false)
  | 10 => ("TwoKingsModel", "number0", "I", false)
  | 11 => ("TwoKingsModel", "open", "I", false)
  | 12 => ("TwoKingsModel", "codeMany", "I", false)
  | 13 => ("TwoKingsModel", "waiting", "I", false)
  | 14 => ("TwoKingsModel", "saidMany", "I", false)
  | 15 => ("TwoKingsModel", "clauses", "I", false)
  | 16 => ("TwoKingsModel", "said", "[I", true)
  | 17 => ("TwoKingsModel", "waitsAt", "[I", true)
  | 18 => ("TwoKingsModel", "saidLetter", "[I", true)
  | 19 => ("TwoKingsModel", "saidFrom", "[I", true)
  | 20 => ("TwoKingsModel", "saidHalf", "[I", true)
  | 21 => ("TwoKingsModel", "saidTo", "[I", true)
  | 22 => ("TwoKingsModel", "codes", "[I", true)
  | 23 => ("TwoKingsModel", "clauseOf", "[I", true)
  | 24 => ("TwoKingsModel", "codeFrom", "[I", true)
  | 25 => ("TwoKingsModel", "codeHalf", "[I", true)
  | 26 => ("TwoKingsModel", "codeTo", "[I", true)
  | 27 => ("TwoKingsModel", "stack", "[I", true)
  | 28 => ("TwoKingsModel", "facts", "[I", true)
  | 29 => ("TwoKingsModel", "lines", "I", false)
  | 30 => ("TwoKingsModel", "drawn", "[I", true)
  | 31 => ("TwoKingsModel", "forward", "[I", true)
  | 32 => ("TwoKingsModel", "bends", "[I", true)
  | 33 => ("TwoKingsModel", "rises", "[I", true)
  | 34 => ("TwoKingsModel", "grew", "[I", true)
  | 35 => ("TwoKingsModel", "nearerIn", "[I", true)
  | 36 => ("TwoKingsModel", "isOff", "[Z", true)
  | 37 => ("TwoKingsModel", "goesAway", "[Z", true)
  | 38 => ("TwoKingsModel", "wentBy", "I", false)
  | 39 => ("TwoKingsModel", "firstThere", "I", false)
  | 40 => ("TwoKingsModel", "worstNow", "I", false)
  | 41 => ("TwoKingsModel", "lineA", "[I", true)
  | 42 => ("TwoKingsModel", "lineB", "[I", true)
  | 43 => ("TwoKingsModel", "newA", "[I", true)
  | 44 => ("TwoKingsModel", "newB", "[I", true)
  | 45 => ("TwoKingsModel", "momentOf", "[I", true)
  | 46 => ("TwoKingsModel", "isAtOnce", "[Z", true)
  | 47 => ("TwoKingsModel", "newAtOnce", "[Z", true)
  | 48 => ("TwoKingsModel", "treatyLines", "I", false)
  | 49 => ("TwoKingsModel", "newLines", "I", false)
  | 50 => ("TwoKingsModel", "queue", "[I", true)
  | 51 => ("TwoKingsModel", "farTo", "[I", true)
  | 52 => ("TwoKingsModel", "firstBy", "[I", true)
  | 53 => ("TwoKingsModel", "power", "[I", true)
  | 54 => ("TwoKingsModel", "laneNow", "[I", true)
  | 55 => ("TwoKingsModel", "readBy", "[I", true)
  | 56 => ("TwoKingsModel", "giftBy", "[I", true)
  | 57 => ("TwoKingsModel", "seatNow", "[I", true)
  | 58 => ("TwoKingsModel", "seatBest", "[I", true)
  | 59 => ("TwoKingsModel", "ways", "I", false)
  | 60 => ("TwoKingsModel", "fewest", "I", false)
  | 61 => ("TwoKingsModel", "climbs", "[J", true)
  | _ => ("TwoKingsModel", "isKept", "Z", false)
def tyX12 : Nat → FieldType := fun k => match k with
  | 0 => .array .int
  | 1 => .array .int
  | 2 => .array .int
  | 3 => .int
  | 4 => .int
  | 5 => .array .byte
  | 6 => .int
  | 7 => .int
  | 8 => .int
  | 9 => .int
  | 10 => .int
  | 11 => .int
  | 12 => .int
  | 13 => .int
  | 14 => .int
  | 15 => .int
  | 16 => .array .int
  | 17 => .array .int
  | 18 => .array .int
  | 19 => .array .int
  | 20 => .array .int
  | 21 => .array .int
  | 22 => .array .int
  | 23 => .array .int
  | 24 => .array .int
  | 25 => .array .int
  | 26 => .array .int
  | 27 => .array .int
  | 28 => .array .int
  | 29 => .int
  | 30 => .array .int
  | 31 => .array .int
  | 32 => .array .int
  | 33 => .array .int
  | 34 => .array .int
  | 35 => .array .int
  | 36 => .array .boolean
  | 37 => .array .boolean
  | 38 => .int
  | 39 => .int
  | 40 => .int
  | 41 => .array .int
  | 42 => .array .int
  | 43 => .array .int
  | 44 => .array .int
  | 45 => .array .int
  | 46 => .array .boolean
  | 47 => .array .boolean
  | 48 => .int
  | 49 => .int
  | 50 => .array .int
  | 51 => .array .int
  | 52 => .array .int
  | 53 => .array .int
  | 54 => .array .int
  | 55 => .array .int
  | 56 => .array .int
  | 57 => .array .int
  | 58 => .array .int
  | 59 => .int
  | 60 => .int
  | 61 => .array .long
  | _ => .boolean
theorem nmX12 : ∀ a, a < 63 → ∀ b, b < 63 → a ≠ b → (TX12 a).2.1 ≠ (TX12 b).2.1 := by decide +kernel
theorem tyX12_ok : ∀ k, k < 63 → parseFieldDescriptor (TX12 k).2.2.1 = some (tyX12 k) := by decide +kernel
abbrev cX12_init : ByteArray := prog_14_method_1_code
def yX12_init : MethodName := ⟨RX12, "<init>", "()V"⟩
abbrev cX12_in : ByteArray := prog_14_method_2_code
def yX12_in : MethodName := ⟨RX12, "in", "(III)Z"⟩
abbrev cX12_min : ByteArray := prog_14_method_3_code
def yX12_min : MethodName := ⟨RX12, "min", "(II)I"⟩
abbrev cX12_max : ByteArray := prog_14_method_4_code
def yX12_max : MethodName := ⟨RX12, "max", "(II)I"⟩
abbrev cX12_size : ByteArray := prog_14_method_5_code
def yX12_size : MethodName := ⟨RX12, "size", "(I)I"⟩
abbrev cX12_has : ByteArray := prog_14_method_6_code
def yX12_has : MethodName := ⟨RX12, "has", "(II)Z"⟩
abbrev cX12_bits : ByteArray := prog_14_method_7_code
def yX12_bits : MethodName := ⟨RX12, "bits", "(I)I"⟩
abbrev cX12_copies : ByteArray := prog_14_method_8_code
def yX12_copies : MethodName := ⟨RX12, "copies", "([I[I)V"⟩
abbrev cX12_haveMet : ByteArray := prog_14_method_9_code
def yX12_haveMet : MethodName := ⟨RX12, "haveMet", "()Z"⟩
abbrev cX12_goneSet : ByteArray := prog_14_method_10_code
def yX12_goneSet : MethodName := ⟨RX12, "goneSet", "()I"⟩
abbrev cX12_king : ByteArray := prog_14_method_11_code
def yX12_king : MethodName := ⟨RX12, "king", "(IIZ)Z"⟩
abbrev cX12_tolerance : ByteArray := prog_14_method_12_code
def yX12_tolerance : MethodName := ⟨RX12, "tolerance", "(II)Z"⟩
abbrev cX12_types : ByteArray := prog_14_method_13_code
def yX12_types : MethodName := ⟨RX12, "types", "(I)V"⟩
abbrev cX12_feed : ByteArray := prog_14_method_14_code
def yX12_feed : MethodName := ⟨RX12, "feed", "(IIIII)I"⟩
abbrev cX12_octet : ByteArray := prog_14_method_15_code
def yX12_octet : MethodName := ⟨RX12, "octet", "(I)I"⟩
abbrev cX12_here : ByteArray := prog_14_method_16_code
def yX12_here : MethodName := ⟨RX12, "here", "()I"⟩
abbrev cX12_isDigit : ByteArray := prog_14_method_17_code
def yX12_isDigit : MethodName := ⟨RX12, "isDigit", "()Z"⟩
abbrev cX12_wrongAt : ByteArray := prog_14_method_18_code
def yX12_wrongAt : MethodName := ⟨RX12, "wrongAt", "(II)Z"⟩
abbrev cX12_takes : ByteArray := prog_14_method_19_code
def yX12_takes : MethodName := ⟨RX12, "takes", "(I)Z"⟩
abbrev cX12_readsNumber : ByteArray := prog_14_method_20_code
def yX12_readsNumber : MethodName := ⟨RX12, "readsNumber", "()Z"⟩
abbrev cX12_notes : ByteArray := prog_14_method_21_code
def yX12_notes : MethodName := ⟨RX12, "notes", "(II)V"⟩
abbrev cX12_opens : ByteArray := prog_14_method_22_code
def yX12_opens : MethodName := ⟨RX12, "opens", "(I)Z"⟩
abbrev cX12_waitTop : ByteArray := prog_14_method_23_code
def yX12_waitTop : MethodName := ⟨RX12, "waitTop", "()I"⟩
abbrev cX12_factOf : ByteArray := prog_14_method_24_code
def yX12_factOf : MethodName := ⟨RX12, "factOf", "(I)I"⟩
abbrev cX12_sumSign : ByteArray := prog_14_method_25_code
def yX12_sumSign : MethodName := ⟨RX12, "sumSign", "(I)I"⟩
abbrev cX12_closesSums : ByteArray := prog_14_method_26_code
def yX12_closesSums : MethodName := ⟨RX12, "closesSums", "(Z)V"⟩
abbrev cX12_readsFactor : ByteArray := prog_14_method_27_code
def yX12_readsFactor : MethodName := ⟨RX12, "readsFactor", "()Z"⟩
abbrev cX12_hasOpenSum : ByteArray := prog_14_method_28_code
def yX12_hasOpenSum : MethodName := ⟨RX12, "hasOpenSum", "(I)Z"⟩
abbrev cX12_readsSum : ByteArray := prog_14_method_29_code
def yX12_readsSum : MethodName := ⟨RX12, "readsSum", "()Z"⟩
abbrev cX12_endsPiece : ByteArray := prog_14_method_30_code
def yX12_endsPiece : MethodName := ⟨RX12, "endsPiece", "()V"⟩
abbrev cX12_lands : ByteArray := prog_14_method_31_code
def yX12_lands : MethodName := ⟨RX12, "lands", "(Z)V"⟩
abbrev cX12_jumps : ByteArray := prog_14_method_32_code
def yX12_jumps : MethodName := ⟨RX12, "jumps", "(I)V"⟩
abbrev cX12_readsCompared : ByteArray := prog_14_method_33_code
def yX12_readsCompared : MethodName := ⟨RX12, "readsCompared", "()Z"⟩
abbrev cX12_readsCondition : ByteArray := prog_14_method_34_code
def yX12_readsCondition : MethodName := ⟨RX12, "readsCondition", "()Z"⟩
abbrev cX12_readsRule : ByteArray := prog_14_method_35_code
def yX12_readsRule : MethodName := ⟨RX12, "readsRule", "()Z"⟩
abbrev cX12_beginsText : ByteArray := prog_14_method_36_code
def yX12_beginsText : MethodName := ⟨RX12, "beginsText", "(I)V"⟩
abbrev cX12_law : ByteArray := prog_14_method_37_code
def yX12_law : MethodName := ⟨RX12, "law", "(I)I"⟩
abbrev cX12_reckon : ByteArray := prog_14_method_38_code
def yX12_reckon : MethodName := ⟨RX12, "reckon", "(III)I"⟩
abbrev cX12_comesTo : ByteArray := prog_14_method_39_code
def yX12_comesTo : MethodName := ⟨RX12, "comesTo", "(II)I"⟩
abbrev cX12_byLaw : ByteArray := prog_14_method_40_code
def yX12_byLaw : MethodName := ⟨RX12, "byLaw", "(II)I"⟩
abbrev cX12_holdsAny : ByteArray := prog_14_method_41_code
def yX12_holdsAny : MethodName := ⟨RX12, "holdsAny", "(I)Z"⟩
abbrev cX12_hasRule : ByteArray := prog_14_method_42_code
def yX12_hasRule : MethodName := ⟨RX12, "hasRule", "(I)Z"⟩
abbrev cX12_readsAmount : ByteArray := prog_14_method_43_code
def yX12_readsAmount : MethodName := ⟨RX12, "readsAmount", "()Z"⟩
abbrev cX12_obeys : ByteArray := prog_14_method_44_code
def yX12_obeys : MethodName := ⟨RX12, "obeys", "(II)V"⟩
abbrev cX12_readsLine : ByteArray := prog_14_method_45_code
def yX12_readsLine : MethodName := ⟨RX12, "readsLine", "()Z"⟩
abbrev cX12_orders : ByteArray := prog_14_method_46_code
def yX12_orders : MethodName := ⟨RX12, "orders", "(I)I"⟩
abbrev cX12_feels : ByteArray := prog_14_method_47_code
def yX12_feels : MethodName := ⟨RX12, "feels", "(I)V"⟩
abbrev cX12_asks : ByteArray := prog_14_method_48_code
def yX12_asks : MethodName := ⟨RX12, "asks", "(I)V"⟩
abbrev cX12_moves : ByteArray := prog_14_method_49_code
def yX12_moves : MethodName := ⟨RX12, "moves", "(I)V"⟩
abbrev cX12_offenceTo : ByteArray := prog_14_method_50_code
def yX12_offenceTo : MethodName := ⟨RX12, "offenceTo", "(I)I"⟩
abbrev cX12_apartNow : ByteArray := prog_14_method_51_code
def yX12_apartNow : MethodName := ⟨RX12, "apartNow", "()I"⟩
abbrev cX12_goesOn : ByteArray := prog_14_method_52_code
def yX12_goesOn : MethodName := ⟨RX12, "goesOn", "()Z"⟩
abbrev cX12_thereNow : ByteArray := prog_14_method_53_code
def yX12_thereNow : MethodName := ⟨RX12, "thereNow", "()I"⟩
abbrev cX12_breathGoes : ByteArray := prog_14_method_54_code
def yX12_breathGoes : MethodName := ⟨RX12, "breathGoes", "()V"⟩
abbrev cX12_breathsGo : ByteArray := prog_14_method_55_code
def yX12_breathsGo : MethodName := ⟨RX12, "breathsGo", "(I)V"⟩
abbrev cX12_breaths : ByteArray := prog_14_method_56_code
def yX12_breaths : MethodName := ⟨RX12, "breaths", "(I)I"⟩
abbrev cX12_tried : ByteArray := prog_14_method_57_code
def yX12_tried : MethodName := ⟨RX12, "tried", "(II)I"⟩
abbrev cX12_kingIs : ByteArray := prog_14_method_58_code
def yX12_kingIs : MethodName := ⟨RX12, "kingIs", "(II)I"⟩
abbrev cX12_meet : ByteArray := prog_14_method_59_code
def yX12_meet : MethodName := ⟨RX12, "meet", "(II)I"⟩
abbrev cX12_leaves : ByteArray := prog_14_method_60_code
def yX12_leaves : MethodName := ⟨RX12, "leaves", "(II)I"⟩
abbrev cX12_worst : ByteArray := prog_14_method_61_code
def yX12_worst : MethodName := ⟨RX12, "worst", "(I)I"⟩
abbrev cX12_nearer : ByteArray := prog_14_method_62_code
def yX12_nearer : MethodName := ⟨RX12, "nearer", "(II)I"⟩
abbrev cX12_readsPair : ByteArray := prog_14_method_63_code
def yX12_readsPair : MethodName := ⟨RX12, "readsPair", "()Z"⟩
abbrev cX12_treaty : ByteArray := prog_14_method_64_code
def yX12_treaty : MethodName := ⟨RX12, "treaty", "(I)I"⟩
abbrev cX12_named : ByteArray := prog_14_method_65_code
def yX12_named : MethodName := ⟨RX12, "named", "()I"⟩
abbrev cX12_laysMoments : ByteArray := prog_14_method_66_code
def yX12_laysMoments : MethodName := ⟨RX12, "laysMoments", "(I)Z"⟩
abbrev cX12_lifts : ByteArray := prog_14_method_67_code
def yX12_lifts : MethodName := ⟨RX12, "lifts", "(I)Z"⟩
abbrev cX12_contradictsAt : ByteArray := prog_14_method_68_code
def yX12_contradictsAt : MethodName := ⟨RX12, "contradictsAt", "()I"⟩
abbrev cX12_moments : ByteArray := prog_14_method_69_code
def yX12_moments : MethodName := ⟨RX12, "moments", "(I)I"⟩
abbrev cX12_atOnceWith : ByteArray := prog_14_method_70_code
def yX12_atOnceWith : MethodName := ⟨RX12, "atOnceWith", "(I)I"⟩
abbrev cX12_aheadOf : ByteArray := prog_14_method_71_code
def yX12_aheadOf : MethodName := ⟨RX12, "aheadOf", "(I)I"⟩
abbrev cX12_act : ByteArray := prog_14_method_72_code
def yX12_act : MethodName := ⟨RX12, "act", "(II)I"⟩
abbrev cX12_unfolds : ByteArray := prog_14_method_73_code
def yX12_unfolds : MethodName := ⟨RX12, "unfolds", "(II)V"⟩
abbrev cX12_isThrough : ByteArray := prog_14_method_74_code
def yX12_isThrough : MethodName := ⟨RX12, "isThrough", "(I)Z"⟩
abbrev cX12_goesTo : ByteArray := prog_14_method_75_code
def yX12_goesTo : MethodName := ⟨RX12, "goesTo", "(II)I"⟩
abbrev cX12_searches : ByteArray := prog_14_method_76_code
def yX12_searches : MethodName := ⟨RX12, "searches", "(II)I"⟩
abbrev cX12_lane : ByteArray := prog_14_method_77_code
def yX12_lane : MethodName := ⟨RX12, "lane", "(II)I"⟩
abbrev cX12_signing : ByteArray := prog_14_method_78_code
def yX12_signing : MethodName := ⟨RX12, "signing", "(II)I"⟩
abbrev cX12_titles : ByteArray := prog_14_method_79_code
def yX12_titles : MethodName := ⟨RX12, "titles", "(III)I"⟩
abbrev cX12_unlike : ByteArray := prog_14_method_80_code
def yX12_unlike : MethodName := ⟨RX12, "unlike", "(III)I"⟩
abbrev cX12_leastGifts : ByteArray := prog_14_method_81_code
def yX12_leastGifts : MethodName := ⟨RX12, "leastGifts", "(II)I"⟩
abbrev cX12_gifts : ByteArray := prog_14_method_82_code
def yX12_gifts : MethodName := ⟨RX12, "gifts", "(II)I"⟩
abbrev cX12_sumOf : ByteArray := prog_14_method_83_code
def yX12_sumOf : MethodName := ⟨RX12, "sumOf", "(II)I"⟩
abbrev cX12_cushions : ByteArray := prog_14_method_84_code
def yX12_cushions : MethodName := ⟨RX12, "cushions", "(IIII)I"⟩
abbrev cX12_wrongsNow : ByteArray := prog_14_method_85_code
def yX12_wrongsNow : MethodName := ⟨RX12, "wrongsNow", "(I)I"⟩
abbrev cX12_changesSeats : ByteArray := prog_14_method_86_code
def yX12_changesSeats : MethodName := ⟨RX12, "changesSeats", "(II)V"⟩
abbrev cX12_nextSeats : ByteArray := prog_14_method_87_code
def yX12_nextSeats : MethodName := ⟨RX12, "nextSeats", "(I)Z"⟩
abbrev cX12_mayBeSeats : ByteArray := prog_14_method_88_code
def yX12_mayBeSeats : MethodName := ⟨RX12, "mayBeSeats", "(I)V"⟩
abbrev cX12_table : ByteArray := prog_14_method_89_code
def yX12_table : MethodName := ⟨RX12, "table", "(II)I"⟩
abbrev cX12_drums : ByteArray := prog_14_method_90_code
def yX12_drums : MethodName := ⟨RX12, "drums", "(IIII)I"⟩
abbrev cX12_tent : ByteArray := prog_14_method_91_code
def yX12_tent : MethodName := ⟨RX12, "tent", "(II)I"⟩
abbrev cX12_stairs : ByteArray := prog_14_method_92_code
def yX12_stairs : MethodName := ⟨RX12, "stairs", "(III)J"⟩
abbrev cX12_heralds : ByteArray := prog_14_method_93_code
def yX12_heralds : MethodName := ⟨RX12, "heralds", "(II)I"⟩
abbrev cX12_seed : ByteArray := prog_14_method_94_code
def yX12_seed : MethodName := ⟨RX12, "seed", "(I)Z"⟩
abbrev cX12_keep : ByteArray := prog_14_method_95_code
def yX12_keep : MethodName := ⟨RX12, "keep", "()I"⟩
abbrev cX12_undo : ByteArray := prog_14_method_96_code
def yX12_undo : MethodName := ⟨RX12, "undo", "()Z"⟩
abbrev cX12_check : ByteArray := prog_14_method_97_code
def yX12_check : MethodName := ⟨RX12, "check", "()I"⟩
abbrev cX12_count : ByteArray := prog_14_method_98_code
def yX12_count : MethodName := ⟨RX12, "count", "(I)I"⟩
def RJ11 : String := "java/lang/Character"
abbrev cJ11_isValidCodePoint_9a6ad : ByteArray := prog_15_method_11_code
def yJ11_isValidCodePoint_9a6ad : MethodName := ⟨RJ11, "isValidCodePoint", "(I)Z"⟩
abbrev cJ11_highSurrogate_5068e : ByteArray := prog_15_method_28_code
def yJ11_highSurrogate_5068e : MethodName := ⟨RJ11, "highSurrogate", "(I)C"⟩
abbrev cJ11_lowSurrogate_5068e : ByteArray := prog_15_method_29_code
def yJ11_lowSurrogate_5068e : MethodName := ⟨RJ11, "lowSurrogate", "(I)C"⟩
def RJ6 : String := "java/lang/Integer"
abbrev cJ6_numberOfTrailingZeros_0f7a4 : ByteArray := prog_16_method_48_code
def yJ6_numberOfTrailingZeros_0f7a4 : MethodName := ⟨RJ6, "numberOfTrailingZeros", "(I)I"⟩
def RJ9 : String := "java/lang/Math"
abbrev cJ9_abs_0f7a4 : ByteArray := prog_17_method_59_code
def yJ9_abs_0f7a4 : MethodName := ⟨RJ9, "abs", "(I)I"⟩
abbrev cJ9_max_7cf53 : ByteArray := prog_17_method_65_code
def yJ9_max_7cf53 : MethodName := ⟨RJ9, "max", "(II)I"⟩
abbrev cJ9_min_7cf53 : ByteArray := prog_17_method_69_code
def yJ9_min_7cf53 : MethodName := ⟨RJ9, "min", "(II)I"⟩
def RJ0 : String := "java/lang/String"
abbrev cJ0_length_8abf5 : ByteArray := prog_18_method_54_code
def yJ0_length_8abf5 : MethodName := ⟨RJ0, "length", "()I"⟩
abbrev cJ0_indexOf_0f7a4 : ByteArray := prog_18_method_79_code
def yJ0_indexOf_0f7a4 : MethodName := ⟨RJ0, "indexOf", "(I)I"⟩
abbrev cJ0_indexOf_7cf53 : ByteArray := prog_18_method_80_code
def yJ0_indexOf_7cf53 : MethodName := ⟨RJ0, "indexOf", "(II)I"⟩
abbrev cJ0_coder_7d493 : ByteArray := prog_18_method_152_code
def yJ0_coder_7d493 : MethodName := ⟨RJ0, "coder", "()B"⟩
abbrev cJ0_isLatin1_aae02 : ByteArray := prog_18_method_154_code
def yJ0_isLatin1_aae02 : MethodName := ⟨RJ0, "isLatin1", "()Z"⟩
abbrev cJ0_checkBoundsBeginEnd_23922 : ByteArray := prog_18_method_158_code
def yJ0_checkBoundsBeginEnd_23922 : MethodName := ⟨RJ0, "checkBoundsBeginEnd", "(III)V"⟩
def RJ1 : String := "java/lang/StringLatin1"
abbrev cJ1_canEncode_9a6ad : ByteArray := prog_19_method_4_code
def yJ1_canEncode_9a6ad : MethodName := ⟨RJ1, "canEncode", "(I)Z"⟩
abbrev cJ1_indexOf_4cfef : ByteArray := prog_19_method_22_code
def yJ1_indexOf_4cfef : MethodName := ⟨RJ1, "indexOf", "([BIII)I"⟩
abbrev cJ1_indexOfChar_4cfef : ByteArray := prog_19_method_23_code
def yJ1_indexOfChar_4cfef : MethodName := ⟨RJ1, "indexOfChar", "([BIII)I"⟩
def RJ2 : String := "java/lang/StringUTF16"
abbrev cJ2_getChar_3b067 : ByteArray := prog_20_method_5_code
def yJ2_getChar_3b067 : MethodName := ⟨RJ2, "getChar", "([BI)C"⟩
abbrev cJ2_length_9d52b : ByteArray := prog_20_method_6_code
def yJ2_length_9d52b : MethodName := ⟨RJ2, "length", "([B)I"⟩
abbrev cJ2_indexOf_4cfef : ByteArray := prog_20_method_40_code
def yJ2_indexOf_4cfef : MethodName := ⟨RJ2, "indexOf", "([BIII)I"⟩
abbrev cJ2_indexOfChar_4cfef : ByteArray := prog_20_method_47_code
def yJ2_indexOfChar_4cfef : MethodName := ⟨RJ2, "indexOfChar", "([BIII)I"⟩
abbrev cJ2_indexOfCharUnsafe_4cfef : ByteArray := prog_20_method_48_code
def yJ2_indexOfCharUnsafe_4cfef : MethodName := ⟨RJ2, "indexOfCharUnsafe", "([BIII)I"⟩
abbrev cJ2_indexOfSupplementary_4cfef : ByteArray := prog_20_method_49_code
def yJ2_indexOfSupplementary_4cfef : MethodName := ⟨RJ2, "indexOfSupplementary", "([BIII)I"⟩
abbrev cJ2_checkBoundsBeginEnd_d044e : ByteArray := prog_20_method_93_code
def yJ2_checkBoundsBeginEnd_d044e : MethodName := ⟨RJ2, "checkBoundsBeginEnd", "(II[B)V"⟩
def RJ10 : String := "java/lang/System"
def RJ7 : String := "java/util/Arrays"
abbrev cJ7_fill_d0a16 : ByteArray := prog_22_method_101_code
def yJ7_fill_d0a16 : MethodName := ⟨RJ7, "fill", "([JJ)V"⟩
abbrev cJ7_fill_53178 : ByteArray := prog_22_method_103_code
def yJ7_fill_53178 : MethodName := ⟨RJ7, "fill", "([II)V"⟩
def RJ3 : String := "jdk/internal/util/Preconditions"
abbrev cJ3_checkFromToIndex_8c36e : ByteArray := prog_23_method_12_code
def yJ3_checkFromToIndex_8c36e : MethodName := ⟨RJ3, "checkFromToIndex", "(IIILjava/util/function/BiFunction;)I"⟩
def RL : String := "TwoKingsLaw"
abbrev cL_law : ByteArray := code
def yL_law : MethodName := ⟨RL, "law", "([I)Z"⟩
abbrev vwCl : List vw_C := [(RX0, TX0, 11), (RX1, TX1, 11), (RX2, TX2, 7), (RX3, TX3, 8), (RX4, TX4, 7), (RX5, TX5, 4), (RX6, TX6, 8), (RX8, TX8, 2), (RX9, TX9, 6), (RX10, TX10, 8), (RX11, TX11, 14), (RX12, TX12, 63)]
def am_N : Nat := 238
end
section
/-! ===== THE SMALL MACHINE: configurations over cells that are numbered; one step as a predicate ===== -/
/-- an instruction: its place, itself, resolved numbers, a number that it carries, places of its words -/
abbrev am_E : Type := Nat × Instr × List Nat × Int32 × List Nat
/-- a cell's form: its kind (class number; 100 ints, 101 booleans, 102 bytes, 103 longs, 104 rows of ints), its length, what its reference places hold -/
abbrev am_S : Type := Nat × Nat × List (Option Nat)
abbrev am_V : Type := Nat → Nat → Int32
abbrev am_X : Type := Nat → Nat → Int64
abbrev am_H : Type := List am_S × am_V × am_X
abbrev am_L : Type := List (Option Value)
abbrev am_C : Type := List am_E × am_L × List Value × am_H × Nat × Nat
/-- constants that lie there before: an array of ints by its number -/
abbrev am_K : Type := Nat → Option (Nat × (Nat → Int32))
def am_get : am_L → Nat → Option Value
  | [], _ => none
  | a :: _, 0 => a
  | _ :: as, n + 1 => am_get as n
def am_isL : Option Value → Bool
  | some (.long _) => true
  | some (.double _) => true
  | _ => false
def am_set : am_L → Nat → Value → Option am_L
  | [], _, _ => none
  | _ :: as, 0, v => some (some v :: as)
  | a :: as, n + 1, v => match Nat.beq n 0 && am_isL a with
    | true => none
    | false => match am_set as n v with
      | none => none
      | some r => some (a :: r)
def am_setL : am_L → Nat → Value → Option am_L
  | [], _, _ => none
  | _ :: as, 0, v => match as with
    | [] => none
    | _ :: r => some (some v :: none :: r)
  | a :: as, n + 1, v => match Nat.beq n 0 && am_isL a with
    | true => none
    | false => match am_setL as n v with
      | none => none
      | some r => some (a :: r)
def am_at : List am_S → Nat → Option am_S
  | [], _ => none
  | a :: _, 0 => some a
  | _ :: as, n + 1 => am_at as n
def am_nth : List (Option Nat) → Nat → Option (Option Nat)
  | [], _ => none
  | a :: _, 0 => some a
  | _ :: as, n + 1 => am_nth as n
def am_mem (k : Nat) : List Nat → Bool
  | [] => false
  | a :: as => match Nat.beq k a with
    | true => true
    | false => am_mem k as
/-- in a list of pairs: what stands behind the first that is k -/
def am_pick (k : Nat) : List Nat → Option Nat
  | a :: b :: as => match Nat.beq k a with
    | true => some b
    | false => am_pick k as
  | _ => none
def am_pop : Nat → List Value → List Value → Option (List Value × List Value)
  | 0, acc, st => some (acc, st)
  | n + 1, acc, v :: st => am_pop n (v :: acc) st
  | _ + 1, _, [] => none
def am_push : Option Value → List Value → List Value
  | none, st => st
  | some v, st => v :: st
def am_up (v : am_V) (k j : Nat) (x : Int32) : am_V := fun a b => match Nat.beq a k && Nat.beq b j with
  | true => x
  | false => v a b
def am_upX (v : am_X) (k j : Nat) (x : Int64) : am_X := fun a b => match Nat.beq a k && Nat.beq b j with
  | true => x
  | false => v a b
/-- a row copied over another -/
def am_cpy (v : am_V) (k k2 sp dp n : Nat) : am_V := fun a b => match Nat.beq a k2 && (Nat.ble dp b && Nat.blt b (dp + n)) with
  | true => v k (sp + (b - dp))
  | false => v a b
def am_setR : List (Option Nat) → Nat → Option Nat → List (Option Nat)
  | [], _, _ => []
  | _ :: as, 0, q => q :: as
  | a :: as, n + 1, q => a :: am_setR as n q
def am_setS : List am_S → Nat → am_S → List am_S
  | [], _, _ => []
  | _ :: as, 0, q => q :: as
  | a :: as, n + 1, q => a :: am_setS as n q
def am_ws : List Value → Nat
  | [] => 0
  | v :: st => v.category + am_ws st
/-- references of a list are of cells that stand, or of constants -/
def am_rv (n : Nat) : Value → Bool
  | .ref k => Nat.blt k n || Nat.ble 1000 k
  | _ => true
def am_rl (n : Nat) : am_L → Bool
  | [] => true
  | some v :: l => am_rv n v && am_rl n l
  | none :: l => am_rl n l
def am_rs (n : Nat) : List Value → Bool
  | [] => true
  | v :: l => am_rv n v && am_rs n l
def am_rq (n : Nat) : List (Option Nat) → Bool
  | [] => true
  | some k :: l => (Nat.blt k n || Nat.ble 1000 k) && am_rq n l
  | none :: l => am_rq n l
def am_rh (n : Nat) : List am_S → Bool
  | [] => true
  | a :: l => am_rq n a.2.2 && am_rh n l
def am_nones : Nat → List (Option Nat)
  | 0 => []
  | n + 1 => none :: am_nones n
def am_rows (b : Nat) : Nat → List (Option Nat)
  | 0 => []
  | n + 1 => some b :: am_rows (b + 1) n
def am_reps : Nat → am_S → List am_S
  | 0, _ => []
  | n + 1, s => s :: am_reps n s
abbrev am_T : Type := Nat → List Value → am_H → Nat → Nat → (Option Value → am_H → Prop) → Prop
/-- what the texts' indexOf answers: by number of the text -/
abbrev am_I : Type := Nat → Option (Int32 → Int32)
def am_br (cd : Jvm.ClassFile.Cond) (x y : Int32) (A B : Prop) : Prop := match cd with
  | .eq => (x = y → A) ∧ (¬ x = y → B)
  | .ne => (¬ x = y → A) ∧ (x = y → B)
  | .lt => (x < y → A) ∧ (¬ x < y → B)
  | .ge => (y ≤ x → A) ∧ (¬ y ≤ x → B)
  | .gt => (y < x → A) ∧ (¬ y < x → B)
  | .le => (x ≤ y → A) ∧ (¬ x ≤ y → B)
/-- a table switch: the cases in order, from lo on -/
def am_tab (x : Int32) (f : Nat → Prop) : Int32 → List Nat → Prop
  | _, [] => True
  | lo, t :: ts => (x = lo → f t) ∧ am_tab x f (lo + 1) ts
/-- a lookup switch: pairs of a key (plus 2^31) and a target -/
def am_look (x : Int32) (f : Nat → Prop) (d : Nat) : List Nat → Prop
  | k :: t :: ts => (x = Int32.ofNat k → f t) ∧ (¬ x = Int32.ofNat k → am_look x f d ts)
  | _ => f d
def am_ent : Nat → List Value → am_L
  | 0, _ => []
  | n + 1, [] => none :: am_ent n []
  | n + 1, v :: vs => match am_isL (some v) with
    | true => some v :: (match n with
      | 0 => []
      | k + 1 => none :: am_ent k vs)
    | false => some v :: am_ent n vs
/-- a primitive of the JDK -/
def am_prim (I : am_I) (pk : Nat) (st : List Value) (hp : am_H) (g : List Value → am_H → Prop) : Prop := match pk with
  | 0 => match st with
    | .ref _ :: r => g r hp
    | _ => False
  | 1 => match st with
    | .int y :: .int x :: r => g (.int (if x < y then y else x) :: r) hp
    | _ => False
  | 2 => match st with
    | .int y :: .int x :: r => g (.int (if y < x then y else x) :: r) hp
    | _ => False
  | 3 => match st with
    | .int x :: r => g (.int (if 0 ≤ x then x else 0 - x) :: r) hp
    | _ => False
  | 4 => match st with
    | .int n :: .int dp :: .ref k2 :: .int sp :: .ref k :: r => match am_at hp.1 k with
      | some (100, n0, _) => match am_at hp.1 k2 with
        | some (100, n1, _) => (¬ sp < 0 ∧ ¬ dp < 0 ∧ ¬ n < 0 ∧ sp.toNatClampNeg + n.toNatClampNeg ≤ n0 ∧ dp.toNatClampNeg + n.toNatClampNeg ≤ n1) ∧ g r (hp.1, am_cpy hp.2.1 k k2 sp.toNatClampNeg dp.toNatClampNeg n.toNatClampNeg, hp.2.2)
        | _ => False
      | _ => False
    | _ => False
  | _ => match st with
    | .int c :: .ref k :: r => match I k with
      | some f => (0 ≤ c ∧ c < 65536) ∧ g (.int (f c) :: r) hp
      | none => False
    | _ => False
/-- the remainder as the machine reckons it -/
def am_rem (x y : Int32) : Int32 := x - x / y * y
/-- one step: what must hold of a configuration, P of those that follow, Q at a return -/
def am_step (K : am_K) (I : am_I) (Tc : am_T) (cd : List am_E) (mc ms : Nat) (Q : Option Value → am_H → Prop) (P : am_C → Prop) (c : am_C) : Prop := match c with
  | ([], _) => False
  | ((_, ins, rs, im, _) :: is, ls, st, hp, nc, ns) => match ins with
    | .iconst _ => P (is, ls, .int im :: st, hp, nc, ns)
    | .bipush _ => P (is, ls, .int im :: st, hp, nc, ns)
    | .sipush _ => P (is, ls, .int im :: st, hp, nc, ns)
    | .ldc _ => match rs with
      | [] => P (is, ls, .int im :: st, hp, nc, ns)
      | k :: _ => P (is, ls, .ref k :: st, hp, nc, ns)
    | .ldc_w _ => P (is, ls, .int im :: st, hp, nc, ns)
    | .ldc2_w _ => P (is, ls, .long (-1) :: st, hp, nc, ns)
    | .lconst _ => P (is, ls, .long im.toInt64 :: st, hp, nc, ns)
    | .iload_n _ => match rs with
      | [i] => match am_get ls i with
        | some (.int x) => P (is, ls, .int x :: st, hp, nc, ns)
        | _ => False
      | _ => False
    | .iload _ => match rs with
      | [i] => match am_get ls i with
        | some (.int x) => P (is, ls, .int x :: st, hp, nc, ns)
        | _ => False
      | _ => False
    | .aload_n _ => match rs with
      | [i] => match am_get ls i with
        | some (.ref x) => P (is, ls, .ref x :: st, hp, nc, ns)
        | _ => False
      | _ => False
    | .aload _ => match rs with
      | [i] => match am_get ls i with
        | some (.ref x) => P (is, ls, .ref x :: st, hp, nc, ns)
        | _ => False
      | _ => False
    | .lload_n _ => match rs with
      | [i] => match am_get ls i with
        | some (.long x) => P (is, ls, .long x :: st, hp, nc, ns)
        | _ => False
      | _ => False
    | .lload _ => match rs with
      | [i] => match am_get ls i with
        | some (.long x) => P (is, ls, .long x :: st, hp, nc, ns)
        | _ => False
      | _ => False
    | .istore_n _ => match rs, st with
      | [i], .int x :: r => match am_set ls i (.int x) with
        | some l2 => P (is, l2, r, hp, nc, ns)
        | none => False
      | _, _ => False
    | .istore _ => match rs, st with
      | [i], .int x :: r => match am_set ls i (.int x) with
        | some l2 => P (is, l2, r, hp, nc, ns)
        | none => False
      | _, _ => False
    | .astore_n _ => match rs, st with
      | [i], .ref x :: r => match am_set ls i (.ref x) with
        | some l2 => P (is, l2, r, hp, nc, ns)
        | none => False
      | _, _ => False
    | .astore _ => match rs, st with
      | [i], .ref x :: r => match am_set ls i (.ref x) with
        | some l2 => P (is, l2, r, hp, nc, ns)
        | none => False
      | _, _ => False
    | .lstore_n _ => match rs, st with
      | [i], .long x :: r => match am_setL ls i (.long x) with
        | some l2 => P (is, l2, r, hp, nc, ns)
        | none => False
      | _, _ => False
    | .lstore _ => match rs, st with
      | [i], .long x :: r => match am_setL ls i (.long x) with
        | some l2 => P (is, l2, r, hp, nc, ns)
        | none => False
      | _, _ => False
    | .iinc _ _ => match rs with
      | [i] => match am_get ls i with
        | some (.int x) => match am_set ls i (.int (x + im)) with
          | some l2 => P (is, l2, st, hp, nc, ns)
          | none => False
        | _ => False
      | _ => False
    | .iadd => match st with
      | .int y :: .int x :: r => P (is, ls, .int (x + y) :: r, hp, nc, ns)
      | _ => False
    | .isub => match st with
      | .int y :: .int x :: r => P (is, ls, .int (x - y) :: r, hp, nc, ns)
      | _ => False
    | .imul => match st with
      | .int y :: .int x :: r => P (is, ls, .int (x * y) :: r, hp, nc, ns)
      | _ => False
    | .iand => match st with
      | .int y :: .int x :: r => P (is, ls, .int (x &&& y) :: r, hp, nc, ns)
      | _ => False
    | .ior => match st with
      | .int y :: .int x :: r => P (is, ls, .int (x ||| y) :: r, hp, nc, ns)
      | _ => False
    | .ixor => match st with
      | .int y :: .int x :: r => P (is, ls, .int (x ^^^ y) :: r, hp, nc, ns)
      | _ => False
    | .ishl => match st with
      | .int y :: .int x :: r => P (is, ls, .int (x <<< (y &&& 31)) :: r, hp, nc, ns)
      | _ => False
    | .ishr => match st with
      | .int y :: .int x :: r => P (is, ls, .int (x >>> (y &&& 31)) :: r, hp, nc, ns)
      | _ => False
    | .iushr => match st with
      | .int y :: .int x :: r => P (is, ls, .int ((x.toUInt32 >>> (y.toUInt32 &&& Int32.toUInt32 31)).toInt32) :: r, hp, nc, ns)
      | _ => False
    | .idiv => match st with
      | .int y :: .int x :: r => ¬ y = 0 ∧ P (is, ls, .int (x / y) :: r, hp, nc, ns)
      | _ => False
    | .irem => match st with
      | .int y :: .int x :: r => ¬ y = 0 ∧ P (is, ls, .int (am_rem x y) :: r, hp, nc, ns)
      | _ => False
    | .ineg => match st with
      | .int x :: r => P (is, ls, .int (-x) :: r, hp, nc, ns)
      | _ => False
    | .i2b => match st with
      | .int x :: r => P (is, ls, .int (x.toInt8.toInt32) :: r, hp, nc, ns)
      | _ => False
    | .i2c => match st with
      | .int x :: r => P (is, ls, .int ((x.toUInt32 % 65536).toInt32) :: r, hp, nc, ns)
      | _ => False
    | .i2l => match st with
      | .int x :: r => P (is, ls, .long x.toInt64 :: r, hp, nc, ns)
      | _ => False
    | .ladd => match st with
      | .long y :: .long x :: r => P (is, ls, .long (x + y) :: r, hp, nc, ns)
      | _ => False
    | .lcmp => match st with
      | .long y :: .long x :: r => P (is, ls, .int (lg_cmp x y) :: r, hp, nc, ns)
      | _ => False
    | .dup => match st with
      | .int x :: r => P (is, ls, .int x :: .int x :: r, hp, nc, ns)
      | .ref x :: r => P (is, ls, .ref x :: .ref x :: r, hp, nc, ns)
      | _ => False
    | .dup2 => match st with
      | .int i :: .ref k :: r => P (is, ls, .int i :: .ref k :: .int i :: .ref k :: r, hp, nc, ns)
      | _ => False
    | .pop => match st with
      | .int _ :: r => P (is, ls, r, hp, nc, ns)
      | _ => False
    | .goto _ => match rs with
      | [t] => P (cd.drop t, ls, st, hp, nc, ns)
      | _ => False
    | .if_icmp cnd _ => match rs, st with
      | [t], .int y :: .int x :: r => am_br cnd x y (P (cd.drop t, ls, r, hp, nc, ns)) (P (is, ls, r, hp, nc, ns))
      | _, _ => False
    | .ifCond cnd _ => match rs, st with
      | [t], .int x :: r => am_br cnd x 0 (P (cd.drop t, ls, r, hp, nc, ns)) (P (is, ls, r, hp, nc, ns))
      | _, _ => False
    | .tableswitch _ _ _ _ => match rs, st with
      | d :: ts, .int x :: r => am_tab x (fun t => P (cd.drop t, ls, r, hp, nc, ns)) im ts ∧ ((x < im ∨ im + Int32.ofNat ts.length ≤ x) → P (cd.drop d, ls, r, hp, nc, ns))
      | _, _ => False
    | .lookupswitch _ _ => match rs, st with
      | d :: ts, .int x :: r => am_look x (fun t => P (cd.drop t, ls, r, hp, nc, ns)) d ts
      | _, _ => False
    | .getfield _ => match rs, st with
      | j :: f :: cs, .ref k :: r => match am_at hp.1 k with
        | some (kd, _, q) => match am_mem kd cs with
          | true => match f with
            | 0 => P (is, ls, .int (hp.2.1 k j) :: r, hp, nc, ns)
            | _ => match am_nth q j with
              | some (some a) => P (is, ls, .ref a :: r, hp, nc, ns)
              | _ => False
          | false => False
        | none => False
      | _, _ => False
    | .putfield _ => match rs, st with
      | j :: f :: cs, v :: .ref k :: r => match am_at hp.1 k with
        | some (kd, n, q) => match am_mem kd cs with
          | true => match f, v with
            | 0, .int x => P (is, ls, r, (hp.1, am_up hp.2.1 k j x, hp.2.2), nc, ns)
            | 1, .int x => (x = 0 ∨ x = 1) ∧ P (is, ls, r, (hp.1, am_up hp.2.1 k j x, hp.2.2), nc, ns)
            | 2, .ref a => match Nat.blt j q.length with
              | true => P (is, ls, r, (am_setS hp.1 k (kd, n, am_setR q j (some a)), hp.2.1, hp.2.2), nc, ns)
              | false => False
            | _, _ => False
          | false => False
        | none => False
      | _, _ => False
    | .getstatic _ => match rs with
      | [k] => P (is, ls, .ref k :: st, hp, nc, ns)
      | _ => False
    | .iaload => match st with
      | .int i :: .ref k :: r => match am_at hp.1 k with
        | some (100, n, _) => vp_in i n ∧ P (is, ls, .int (hp.2.1 k i.toNatClampNeg) :: r, hp, nc, ns)
        | none => match K k with
          | some (n, f) => vp_in i n ∧ P (is, ls, .int (f i.toNatClampNeg) :: r, hp, nc, ns)
          | none => False
        | _ => False
      | _ => False
    | .baload => match st with
      | .int i :: .ref k :: r => match am_at hp.1 k with
        | some (101, n, _) => vp_in i n ∧ P (is, ls, .int (hp.2.1 k i.toNatClampNeg) :: r, hp, nc, ns)
        | some (102, n, _) => vp_in i n ∧ P (is, ls, .int (hp.2.1 k i.toNatClampNeg) :: r, hp, nc, ns)
        | _ => False
      | _ => False
    | .laload => match st with
      | .int i :: .ref k :: r => match am_at hp.1 k with
        | some (103, n, _) => vp_in i n ∧ P (is, ls, .long (hp.2.2 k i.toNatClampNeg) :: r, hp, nc, ns)
        | _ => False
      | _ => False
    | .aaload => match st with
      | .int i :: .ref k :: r => match am_at hp.1 k with
        | some (104, n, q) => vp_in i n ∧ (match am_nth q i.toNatClampNeg with
          | some (some a) => P (is, ls, .ref a :: r, hp, nc, ns)
          | _ => False)
        | _ => False
      | _ => False
    | .iastore => match st with
      | .int x :: .int i :: .ref k :: r => match am_at hp.1 k with
        | some (100, n, _) => vp_in i n ∧ P (is, ls, r, (hp.1, am_up hp.2.1 k i.toNatClampNeg x, hp.2.2), nc, ns)
        | _ => False
      | _ => False
    | .bastore => match st with
      | .int x :: .int i :: .ref k :: r => match am_at hp.1 k with
        | some (101, n, _) => vp_in i n ∧ P (is, ls, r, (hp.1, am_up hp.2.1 k i.toNatClampNeg (vp_nar .boolean x), hp.2.2), nc, ns)
        | some (102, n, _) => vp_in i n ∧ P (is, ls, r, (hp.1, am_up hp.2.1 k i.toNatClampNeg (vp_nar .byte x), hp.2.2), nc, ns)
        | _ => False
      | _ => False
    | .lastore => match st with
      | .long x :: .int i :: .ref k :: r => match am_at hp.1 k with
        | some (103, n, _) => vp_in i n ∧ P (is, ls, r, (hp.1, hp.2.1, am_upX hp.2.2 k i.toNatClampNeg x), nc, ns)
        | _ => False
      | _ => False
    | .arraylength => match st with
      | .ref k :: r => match am_at hp.1 k with
        | some (100, n, _) => P (is, ls, .int (Int32.ofNat n) :: r, hp, nc, ns)
        | some (103, n, _) => P (is, ls, .int (Int32.ofNat n) :: r, hp, nc, ns)
        | none => match K k with
          | some (n, _) => P (is, ls, .int (Int32.ofNat n) :: r, hp, nc, ns)
          | none => False
        | _ => False
      | _ => False
    | .invokestatic _ => match rs with
      | [0, n, mid] => match am_pop n [] st with
        | some (as, r) => match Nat.ble (am_ws r) 8 with
          | true => Tc mid as hp 0 0 (fun o h2 => P (is, ls, am_push o r, h2, nc, ns))
          | false => False
        | none => False
      | [2, pk] => match Nat.ble (am_ws st) 16 with
        | true => am_prim I pk st hp (fun s2 h2 => P (is, ls, s2, h2, nc, ns))
        | false => False
      | _ => False
    | .invokevirtual _ => match rs with
      | 1 :: n :: cs => match am_pop n [] st with
        | some (.ref k :: as, r) => match am_at hp.1 k with
          | some (kd, _, _) => match am_pick kd cs with
            | some mid => match Nat.ble (am_ws r) 8 with
              | true => Tc mid (.ref k :: as) hp 0 0 (fun o h2 => P (is, ls, am_push o r, h2, nc, ns))
              | false => False
            | none => False
          | none => False
        | _ => False
      | [2, pk] => match Nat.ble (am_ws st) 10 with
        | true => am_prim I pk st hp (fun s2 h2 => P (is, ls, s2, h2, nc, ns))
        | false => False
      | _ => False
    | .invokespecial _ => match rs with
      | [3, n, mid, c2, s2] => match am_pop n [] st with
        | some (.ref k :: as, r) => match Nat.ble (am_ws r) 8 && (am_rl hp.1.length ls && am_rs hp.1.length r) with
          | true => (nc + c2 ≤ mc ∧ ns + s2 ≤ ms) ∧ Tc mid (.ref k :: as) hp c2 s2 (fun o h2 => P (is, ls, am_push o r, h2, nc + c2, ns + s2))
          | false => False
        | _ => False
      | [2, pk] => match Nat.ble (am_ws st) 8 with
        | true => am_prim I pk st hp (fun s2 h2 => P (is, ls, s2, h2, nc, ns))
        | false => False
      | _ => False
    | .ireturn => match rs, st with
      | [0], [.int x] => Q (some (.int x)) hp
      | [1], [.int x] => (x = 0 ∨ x = 1) ∧ Q (some (.int x)) hp
      | _, _ => False
    | .lreturn => match st with
      | [.long x] => Q (some (.long x)) hp
      | _ => False
    | .areturn => match st with
      | [.ref k] => Q (some (.ref k)) hp
      | _ => False
    | .return_ => match st with
      | [] => Q none hp
      | _ => False
    | .new _ => match rs with
      | [ci, n] => match am_rl hp.1.length ls && (am_rs hp.1.length st && (am_rh hp.1.length hp.1 && Nat.blt hp.1.length 1000)) with
        | true => (nc + 1 ≤ mc ∧ ns + n ≤ ms ∧ ∀ j, hp.2.1 hp.1.length j = 0) ∧ P (is, ls, .ref hp.1.length :: st, (hp.1 ++ [(ci, 0, am_nones n)], hp.2.1, hp.2.2), nc + 1, ns + n)
        | false => False
      | _ => False
    | .newarray _ => match rs, st with
      | [kd, n], .int x :: r => match am_rl hp.1.length ls && (am_rs hp.1.length r && (am_rh hp.1.length hp.1 && Nat.blt hp.1.length 1000)) with
        | true => (x = im ∧ nc + 1 ≤ mc ∧ ns + n ≤ ms ∧ (∀ j, hp.2.1 hp.1.length j = 0) ∧ ∀ j, hp.2.2 hp.1.length j = 0) ∧ P (is, ls, .ref hp.1.length :: r, (hp.1 ++ [(kd, n, [])], hp.2.1, hp.2.2), nc + 1, ns + n)
        | false => False
      | _, _ => False
    | .multianewarray _ _ => match rs, st with
      | [n, k], .int y :: .int x :: r => match am_rl hp.1.length ls && (am_rs hp.1.length r && (am_rh hp.1.length hp.1 && Nat.blt (hp.1.length + n) 1000)) with
        | true => (x = im ∧ y = im ∧ nc + (1 + n) ≤ mc ∧ ns + (n + n * k) ≤ ms ∧ (∀ i j, i ≤ n → hp.2.1 (hp.1.length + i) j = 0)) ∧ P (is, ls, .ref hp.1.length :: r, (hp.1 ++ ((104, n, am_rows (hp.1.length + 1) n) :: am_reps n (100, k, [])), hp.2.1, hp.2.2), nc + (1 + n), ns + (n + n * k))
        | false => False
      | _, _ => False
    | _ => False
/-- a method's table: its instructions, how many locals -/
abbrev am_M : Type := Nat → List am_E × Nat
def am_run (K : am_K) (I : am_I) (M : am_M) : Nat → am_T
  | 0 => fun _ _ _ _ _ _ => False
  | d + 1 => fun mid as hp mc ms Q => Nat.ble (am_ws as) (M mid).2 = true ∧ ∀ P : am_C → Prop, (∀ c, am_step K I (am_run K I M d) (M mid).1 mc ms Q P c → P c) → P ((M mid).1, am_ent (M mid).2 as, [], hp, 0, 0)
end
section
/-! ===== the small machine's cells on the heap; what holds of a state; which instruction lists are right ===== -/
def am_v (ad : Nat → Nat) : Value → Value
  | .ref k => .ref (ad k)
  | v => v
def am_isR (ci j : Nat) : Bool := match vwCl[ci]? with
  | some (_, T, _) => !(decide ((T j).2.2.1 = "I") || decide ((T j).2.2.1 = "Z"))
  | none => false
def am_nf (ci : Nat) : Nat := match vwCl[ci]? with
  | some (_, _, N) => N
  | none => 0
def am_fv (ad : Nat → Nat) (v : am_V) (k ci : Nat) (q : List (Option Nat)) (j : Nat) : Value := match am_isR ci j with
  | true => va_rf ((q.getD j none).map ad)
  | false => .int (v k j)
def am_fs (ad : Nat → Nat) (v : am_V) (k ci : Nat) (q : List (Option Nat)) : List Value := (List.range (am_nf ci)).map (am_fv ad v k ci q)
def am_cell (cA : Nat → ClassId) (ad : Nat → Nat) (v : am_V) (w : am_X) (k : Nat) (s : am_S) : va_E :=
  if s.1 < 100 then .inr (s.1, am_fs ad v k s.1 s.2.2)
  else if s.1 = 103 then .inl (cA 103, s.2.1, .inr (.inl (w k)))
  else if s.1 = 104 then .inl (cA 104, s.2.1, .inr (.inr (.inr (.inr (fun j => (s.2.2.getD j none).map ad)))))
  else .inl (cA s.1, s.2.1, .inl (v k))
def am_cw (cA : Nat → ClassId) (ad : Nat → Nat) (hp : am_H) : va_W := hp.1.mapIdx (fun k s => (ad k, am_cell cA ad hp.2.1 hp.2.2 k s))
def am_tys (cA : Nat → ClassId) : List (ClassId × FieldType) := [(cA 100, .int), (cA 101, .boolean), (cA 102, .byte), (cA 103, .long), (cA 104, .array .int)]
def am_LV (ad : Nat → Nat) (ls : am_L) (la : Array Slot) (nL : Nat) : Prop := la.size = nL ∧ lv_wf la ∧ (∀ (i : Nat) (v : Value), am_get ls i = some v → la[i]? = some (.val (am_v ad v))) ∧ ls.length = nL
def am_pcl : List am_E → Nat
  | [] => 0
  | e :: _ => e.1
def am_isAC (comp : ClassId) (x : Class) : Bool := match x.kind with
  | .array component _ => component == comp
  | _ => false
theorem am_idx_bare (vm : Vm) (comp : ClassId) : vm.bare.classes.findIdx? (am_isAC comp) = vm.classes.findIdx? (am_isAC comp) := by
  simp only [Vm.bare, Array.findIdx?_map]
  rfl
theorem am_over_spec {s : State} {t : FieldType} {a : Array Value} (h : (Jvm.Cond.arrayOver (.array t)).before a s = true) :
    ∃ (comp c : ClassId) (k : Class), s.vm.findClass (FieldType.array t).toString = some comp ∧ s.vm.classes.findIdx? (am_isAC comp) = some c ∧ s.vm.classes[c]? = some k ∧ k.kind = .array comp (.array t) ∧ s.vm.findClass ("[" ++ (FieldType.array t).toString) = some c := by
  unfold Jvm.Cond.before at h
  simp only [Cond.holds, Cond.value, beq_iff_eq] at h
  cases hc : s.vm.findClass (FieldType.array t).toString with
  | none => simp [hc] at h
  | some comp =>
    simp only [hc, Option.bind_some, Option.bind_eq_some_iff, Option.map_eq_some_iff] at h
    obtain ⟨c, hi, k, hk, hb⟩ := h
    obtain ⟨hlt, hp, -⟩ := Array.findIdx?_eq_some_iff_getElem.mp hi
    have hkk : s.vm.classes[c] = k := (Array.getElem?_eq_some_iff.mp hk).2
    rw [hkk] at hp
    cases hkind : k.kind with
    | array component ty =>
      rw [hkind] at hb hp
      simp at hb hp
      exact ⟨comp, c, k, rfl, hi, hk, by rw [hkind, hp, hb.1], hb.2⟩
    | _ => rw [hkind] at hb; simp at hb
theorem am_over_moved {t : FieldType} {u U : State} {a b : Array Value} (hvm : u.vm.Alike U.vm) (h : (Jvm.Cond.arrayOver (.array t)).before a u = true) : (Jvm.Cond.arrayOver (.array t)).before b U = true := by
  obtain ⟨comp, c, k, h1, h2, h3, h4, h5⟩ := am_over_spec h
  obtain ⟨k', hk', he⟩ := hvm.2.2 _ _ h3
  have hi : U.vm.classes.findIdx? (am_isAC comp) = some c := by
    rw [← am_idx_bare]
    first | rw [hvm.bare_eq] | rw [← hvm.bare_eq]
    rw [am_idx_bare]
    exact h2
  have hkind : k'.kind = .array comp (.array t) := by rw [he]; exact h4
  have f1 : U.vm.findClass (FieldType.array t).toString = some comp := by rw [hvm.findClass]; exact h1
  have f2 : U.vm.findClass ("[" ++ (FieldType.array t).toString) = some c := by rw [hvm.findClass]; exact h5
  unfold Cond.before Cond.holds
  simp only [Cond.value]
  rw [f1, Option.bind_some]
  refine (congrArg (fun o : Option Nat => (o.bind (fun c => (U.vm.classes[c]?).map fun (k : Class) => match k.kind with | .array _ ty => decide (ty = FieldType.array t) && decide (U.vm.findClass ("[" ++ (FieldType.array t).toString) = some c) | _ => false) == some true)) hi).trans ?_
  simp [hk', hkind, f2]
def am_okw (w : Jvm.Cond) : Bool := goodWord w || (match w with
  | .fieldLinkNest _ _ _ _ _ _ => true
  | .methodLinkNest _ _ _ _ => true
  | .declares _ => true
  | .arrayOver (.array _) => true
  | _ => false)
def am_TW (U : State) : Prop := ∀ w ∈ lw_tbl, am_okw w = true → ∀ a : Array Value, w.before a U = true
theorem am_TW.warm {s U : State} (hW : s.WarmedH U.vm) (h : am_TW s) : am_TW U := by
  intro w hw hok a
  have h0 := h w hw hok
  rcases (Bool.or_eq_true _ _).mp hok with hg | hg
  · exact word_at hW (good_of_word hg) (h0 a)
  · cases w <;> first | exact absurd (show false = true from hg) (by decide) | skip
    case arrayOver ty =>
      cases ty <;> first | exact absurd (show false = true from hg) (by decide) | skip
      exact am_over_moved hW.alike (h0 #[])
    case fieldLinkNest => exact va_Nw.use rfl (va_Nw.warmF hW (h0 #[]))
    case methodLinkNest => exact va_Nw.use rfl (va_Nw.warmM hW (h0 #[]))
    case declares => exact va_Nw.use rfl (va_Nw.warmD hW (h0 #[]))
theorem am_TW.at {s : State} (h : am_TW s) {i : Nat} {w : Jvm.Cond} (hi : lw_tbl[i]? = some w) (hok : am_okw w = true) (a : Array Value) : w.before a s = true := h w (List.mem_of_getElem? hi) hok a
theorem am_at_eq : ∀ (l : List am_S) (k : Nat), am_at l k = l[k]?
  | [], k => by cases k <;> rfl
  | _ :: _, 0 => rfl
  | _ :: as, k + 1 => am_at_eq as k
theorem am_nth_eq : ∀ (l : List (Option Nat)) (k : Nat), am_nth l k = l[k]?
  | [], k => by cases k <;> rfl
  | _ :: _, 0 => rfl
  | _ :: as, k + 1 => am_nth_eq as k
theorem am_cw_at {cA : Nat → ClassId} {ad : Nat → Nat} {hp : am_H} {k : Nat} {z : am_S} (h : am_at hp.1 k = some z) : (am_cw cA ad hp)[k]? = some (ad k, am_cell cA ad hp.2.1 hp.2.2 k z) := by
  rw [am_at_eq] at h
  simp [am_cw, h]
theorem am_fs_at {ad : Nat → Nat} {v : am_V} {k ci : Nat} {q : List (Option Nat)} {j : Nat} (h : j < am_nf ci) : (am_fs ad v k ci q)[j]? = some (am_fv ad v k ci q j) := by
  simp [am_fs, h]
theorem am_fs_len {ad : Nat → Nat} {v : am_V} {k ci : Nat} {q : List (Option Nat)} : (am_fs ad v k ci q).length = am_nf ci := by
  simp [am_fs]
end
section
/-! ===== the checker of instruction lists ===== -/
def am_d (bytes : ByteArray) (pc : Nat) (ins : Instr) (len : Nat) (is : List am_E) : Bool := decide (decode bytes pc = .ok (ins, len)) && Nat.beq (am_pcl is) (pc + len)
def am_dj (bytes : ByteArray) (pc : Nat) (ins : Instr) (len : Nat) : Bool := decide (decode bytes pc = .ok (ins, len))
def am_j (cd : List am_E) (pc : Nat) (off : Int) (t : Nat) : Bool := decide ((pc : Int) + off = ((am_pcl (cd.drop t) : Nat) : Int))
def am_fok (own : String) (idx : Nat) (wl : List Nat) (j ci : Nat) : Bool := match vwCl[ci]? with
  | some (_, T, N) => Nat.blt j N && (match wl with
    | [wi] => decide (lw_tbl[wi]? = some (.fieldLink own idx (T j).1 (T j).2.1 (T j).2.2.1)) || decide (lw_tbl[wi]? = some (.fieldLinkNest own idx (T j).1 (T j).2.1 (T j).2.2.1 "TwoKings"))
    | [wi, wj] => decide (lw_tbl[wi]? = some (.fieldLink own idx own (T j).2.1 (T j).2.2.1)) && decide (lw_tbl[wj]? = some (.sameField own (T j).1 (T j).2.1 (T j).2.2.1))
    | _ => false)
  | none => false
def am_isRT (d : String) : Bool := match parseFieldDescriptor d with
  | some (.object _) => true
  | some (.array _) => true
  | _ => false
def am_pok (own : String) (isI : Bool) (idx : Nat) (wl : List Nat) (j f ci : Nat) : Bool := match vwCl[ci]? with
  | some (_, T, N) => Nat.blt j N && ((match (T j).2.2.2 with
    | false => am_fok own idx wl j ci
    | true => isI && (decide ((T j).1 = own) && (match wl with
      | [wi] => decide (lw_tbl[wi]? = some (.fieldLink own idx (T j).1 (T j).2.1 (T j).2.2.1))
      | _ => false))) && (match f with
    | 0 => decide ((T j).2.2.1 = "I") && !am_isR ci j
    | 1 => decide ((T j).2.2.1 = "Z") && !am_isR ci j
    | _ => am_isRT (T j).2.2.1 && am_isR ci j))
  | none => false
/-- a method's row: its name, code, locals, what it returns; places of its words: code, initialized, static or instance -/
abbrev am_Y : Type := Nat → MethodName × ByteArray × Nat × Option FieldType × Nat × Nat × Nat
def am_np (d : String) : Option Nat := (parseMethodDescriptor d).map (fun d => d.parameters.length)
def am_sok (Y : am_Y) (own : String) (idx : Nat) (wl : List Nat) (n mid : Nat) : Bool := match wl with
  | [wi] => decide (am_np (Y mid).1.desc = some n ∧ mid < am_N) && (decide (lw_tbl[(Y mid).2.2.2.2.2.2]? = some (.static (Y mid).1)) && (decide (lw_tbl[wi]? = some (.methodLink own idx (Y mid).1)) || decide (lw_tbl[wi]? = some (.methodLinkNest own idx (Y mid).1 "TwoKings"))))
  | _ => false
def am_iok (Y : am_Y) (own : String) (idx : Nat) (wl : List Nat) (n mid : Nat) : Bool := match wl with
  | [wi] => decide (am_np (Y mid).1.desc = some (n - 1) ∧ mid < am_N) && (decide ((Y mid).1.name = "<init>" ∧ (Y mid).2.2.2.1 = none ∧ 1 ≤ n) && (decide (lw_tbl[(Y mid).2.2.2.2.2.2]? = some (.instanceMethod (Y mid).1)) && (decide (lw_tbl[wi]? = some (.methodLink own idx (Y mid).1)) || decide (lw_tbl[wi]? = some (.methodLinkNest own idx (Y mid).1 "TwoKings")))))
  | _ => false
/-- a virtual call: pairs (class, method); the words' places: link, sameMethod, declares, then a selects each -/
def am_vok (Y : am_Y) (own : String) (idx : Nat) (wi sm dc n : Nat) : List Nat → List Nat → Bool
  | [], _ => true
  | ci :: mid :: cs, w :: ws => (match vwCl[ci]? with
    | some (C, _, _) => decide (lw_tbl[(Y mid).2.2.2.2.2.2]? = some (.instanceMethod (Y mid).1)) && (decide (am_np (Y mid).1.desc = some (n - 1) ∧ 1 ≤ n ∧ mid < am_N) && ((decide (lw_tbl[wi]? = some (.methodLink own idx (Y mid).1)) && decide (lw_tbl[w]? = some (.selects C (Y mid).1 (Y mid).1))) || (match lw_tbl[wi]? with
      | some (.methodLink o i x) => decide (o = own ∧ i = idx) && (decide (lw_tbl[w]? = some (.selects C x (Y mid).1)) && (decide (lw_tbl[sm]? = some (.sameMethod x.cls "TwoKings$Reader" x.name x.desc)) && (decide (lw_tbl[dc]? = some (.declares ⟨"TwoKings$Reader", x.name, x.desc⟩)) && decide (am_np x.desc = some (n - 1)))))
      | _ => false)))
    | none => false) && am_vok Y own idx wi sm dc n cs ws
  | _, _ => false
def am_primN (pk : Nat) : MethodName := match pk with
  | 0 => Lib.objectInit
  | 1 => Lib.Math.max.name
  | 2 => Lib.Math.min.name
  | 3 => Lib.Math.abs.name
  | 4 => arraycopyName
  | _ => yJ0_indexOf_0f7a4
def am_pl (own : String) (i pk : Nat) (wl : List Nat) : Bool := match wl with
  | [wi] => decide (lw_tbl[wi]? = some (.methodLink own i (am_primN pk)))
  | _ => false
def am_vw (Y : am_Y) (own : String) (i n : Nat) (cs wl : List Nat) : Bool := match wl with
  | wi :: sm :: dc :: ws => am_vok Y own i wi sm dc n cs ws
  | _ => false
/-- the tables have what the primitives want -/
def am_primsOk : Bool := decide (Jvm.Cond.instanceMethod Lib.objectInit ∈ lw_tbl) && (decide (Jvm.Cond.code Lib.objectInit ⟨#[0xb1]⟩ 1 none ∈ lw_tbl) && (decide (Jvm.Cond.initialized "java/lang/Math" ∈ lw_tbl) && (decide (Jvm.Cond.static Lib.Math.max.name ∈ lw_tbl) && (decide (Jvm.Cond.static Lib.Math.min.name ∈ lw_tbl) && (decide (Jvm.Cond.static Lib.Math.abs.name ∈ lw_tbl) && (decide (Jvm.Cond.code Lib.Math.max.name Lib.Math.max.code 2 (some .int) ∈ lw_tbl) && (decide (Jvm.Cond.code Lib.Math.min.name Lib.Math.min.code 2 (some .int) ∈ lw_tbl) && (decide (Jvm.Cond.code Lib.Math.abs.name Lib.Math.abs.code 1 (some .int) ∈ lw_tbl) && (decide (Jvm.Cond.native arraycopyName ∈ lw_tbl) && (decide (Jvm.Cond.static arraycopyName ∈ lw_tbl) && decide (Jvm.Cond.initialized "java/lang/System" ∈ lw_tbl)))))))))))
theorem am_primsOk_t : am_primsOk = true := by decide +kernel
def am_lok (cd : List am_E) (pc : Nat) : List (Int × Int) → List Nat → Bool
  | [], [] => true
  | (k, o) :: ps, a :: t :: ts => decide ((Int32.ofNat a).toInt = k) && (am_j cd pc o t && am_lok cd pc ps ts)
  | _, _ => false
def am_tok (cd : List am_E) (pc : Nat) : List Int → List Nat → Bool
  | [], [] => true
  | o :: os, t :: ts => am_j cd pc o t && am_tok cd pc os ts
  | _, _ => false
def am_sxok (own : String) (idx wi : Nat) (k : Nat) : Bool := match lw_tbl[wi]? with
  | some (.stringRef o i _) => decide (o = own ∧ i = idx) && Nat.beq k (2000 + wi)
  | _ => false
def am_okb (Y : am_Y) (own : String) (bytes : ByteArray) (isI : Bool) (ret : Option FieldType) (cd : List am_E) (q : am_E) (is : List am_E) : Bool := match q with
  | (pc, ins, rs, im, wl) => match ins with
    | .iconst n => am_d bytes pc ins 1 is && decide (Int32.ofInt n = im)
    | .bipush n => am_d bytes pc ins 2 is && decide ((Int8.ofInt n).toInt32 = im)
    | .sipush n => am_d bytes pc ins 3 is && decide ((Int16.ofInt n).toInt32 = im)
    | .ldc i => am_d bytes pc ins 2 is && (match rs, wl with
      | [], [wi] => decide (lw_tbl[wi]? = some (.constant own i im))
      | [k], [wi] => am_sxok own i wi k
      | _, _ => false)
    | .ldc_w i => am_d bytes pc ins 3 is && (match wl with
      | [wi] => decide (lw_tbl[wi]? = some (.constant own i im))
      | _ => false)
    | .ldc2_w i => am_d bytes pc ins 3 is && (match wl with
      | [wi] => decide (lw_tbl[wi]? = some (.constantLong own i (-1)))
      | _ => false)
    | .lconst n => am_d bytes pc ins 1 is && decide (Int64.ofNat (n : Nat) = im.toInt64)
    | .iload_n k => am_d bytes pc ins 1 is && decide (rs = [(k : Nat)])
    | .aload_n k => am_d bytes pc ins 1 is && decide (rs = [(k : Nat)])
    | .lload_n k => am_d bytes pc ins 1 is && decide (rs = [(k : Nat)])
    | .istore_n k => am_d bytes pc ins 1 is && decide (rs = [(k : Nat)])
    | .astore_n k => am_d bytes pc ins 1 is && decide (rs = [(k : Nat)])
    | .lstore_n k => am_d bytes pc ins 1 is && decide (rs = [(k : Nat)])
    | .iload k => am_d bytes pc ins 2 is && decide (rs = [k])
    | .aload k => am_d bytes pc ins 2 is && decide (rs = [k])
    | .lload k => am_d bytes pc ins 2 is && decide (rs = [k])
    | .istore k => am_d bytes pc ins 2 is && decide (rs = [k])
    | .astore k => am_d bytes pc ins 2 is && decide (rs = [k])
    | .lstore k => am_d bytes pc ins 2 is && decide (rs = [k])
    | .iinc k n => am_d bytes pc ins 3 is && decide (rs = [k] ∧ Int32.ofInt n = im)
    | .goto off => am_dj bytes pc ins 3 && (match rs with
      | [t] => am_j cd pc off t
      | _ => false)
    | .if_icmp _ off => am_d bytes pc ins 3 is && (match rs with
      | [t] => am_j cd pc off t
      | _ => false)
    | .ifCond _ off => am_d bytes pc ins 3 is && (match rs with
      | [t] => am_j cd pc off t
      | _ => false)
    | .tableswitch dflt lo hi offs => (match decode bytes pc with
      | .ok (i, _) => decide (i = ins)
      | .error _ => false) && (match rs with
      | d :: ts => am_j cd pc dflt d && (am_tok cd pc offs.toList ts && decide (im.toInt = lo ∧ hi = lo + (ts.length : Int) - 1 ∧ 0 ≤ lo ∧ hi < 1000))
      | _ => false)
    | .lookupswitch dflt ps => (match decode bytes pc with
      | .ok (i, _) => decide (i = ins)
      | .error _ => false) && (match rs with
      | d :: ts => am_j cd pc dflt d && (am_lok cd pc ps.toList ts && (ps.toList.zip (ps.toList.drop 1)).all (fun (a, next) => a.1 < next.1))
      | _ => false)
    | .getfield i => am_d bytes pc ins 3 is && (match rs with
      | j :: f :: cs => cs.all (fun ci => am_fok own i wl j ci && (Nat.blt ci 100 && (match f with
        | 0 => !am_isR ci j
        | _ => am_isR ci j)))
      | _ => false)
    | .putfield i => am_d bytes pc ins 3 is && (match rs with
      | j :: f :: cs => cs.all (fun ci => am_pok own isI i wl j f ci && Nat.blt ci 100)
      | _ => false)
    | .getstatic i => am_d bytes pc ins 3 is && (match rs, wl with
      | [k], [wi] => decide (k = 1001) && decide (lw_tbl[wi]? = some (.fieldLink own i "TwoKings$Lane" "WEIGHT" "[I"))
      | _, _ => false)
    | .invokestatic i => am_d bytes pc ins 3 is && (match rs with
      | [0, n, mid] => am_sok Y own i wl n mid
      | [2, pk] => Nat.ble 1 pk && (Nat.ble pk 4 && am_pl own i pk wl)
      | _ => false)
    | .invokespecial i => am_d bytes pc ins 3 is && (match rs with
      | [3, n, mid, _, _] => am_iok Y own i wl n mid
      | [2, pk] => Nat.beq pk 0 && am_pl own i 0 wl
      | _ => false)
    | .invokevirtual i => am_d bytes pc ins 3 is && (match rs with
      | 1 :: n :: cs => am_vw Y own i n cs wl
      | [2, pk] => Nat.beq pk 5 && am_pl own i 5 wl
      | _ => false)
    | .ireturn => am_dj bytes pc ins 1 && (match rs with
      | [0] => decide (ret = some .int)
      | [1] => decide (ret = some .boolean)
      | _ => false)
    | .lreturn => am_dj bytes pc ins 1 && decide (ret = some .long)
    | .areturn => am_dj bytes pc ins 1 && (match ret with
      | some (.object _) => true
      | _ => false)
    | .return_ => am_dj bytes pc ins 1 && decide (ret = none)
    | .new i => am_d bytes pc ins 3 is && (match rs, wl with
      | [ci, n], [wi, wj, wk] => (match vwCl[ci]? with
        | some (C, _, N) => decide (n = N ∧ ci < 100) && (decide (lw_tbl[wi]? = some (.classLink own i C)) && (decide (lw_tbl[wj]? = some (.instantiable C N)) && decide (lw_tbl[wk]? = some (.initialized C))))
        | none => false)
      | _, _ => false)
    | .newarray ty => am_d bytes pc ins 2 is && (match rs, wl with
      | [kd, n], [wi] => decide (im.toNatClampNeg = n ∧ ¬ im < 0 ∧ n ≤ 100000) && (decide (lw_tbl[wi]? = some (.arrayClass (newarray.typeOf ty))) && decide ((kd = 100 ∧ ty = .int) ∨ (kd = 101 ∧ ty = .boolean) ∨ (kd = 102 ∧ ty = .byte) ∨ (kd = 103 ∧ ty = .long)))
      | _, _ => false)
    | .multianewarray i k => am_d bytes pc ins 4 is && (match rs, wl with
      | [n, n2], [wi, wj, wk] => decide (im.toNatClampNeg = n ∧ ¬ im < 0 ∧ n2 = n ∧ n ≤ 1000 ∧ k = 2) && (decide (lw_tbl[wi]? = some (.classLink own i "[[I")) && (decide (lw_tbl[wj]? = some (.arrayOver (.array .int))) && decide (lw_tbl[wk]? = some (.arrayClass .int))))
      | _, _ => false)
    | _ => am_d bytes pc ins 1 is
/-- all of a list -/
def am_chk (Y : am_Y) (own : String) (bytes : ByteArray) (isI : Bool) (ret : Option FieldType) (cd : List am_E) : List am_E → Bool
  | [] => true
  | q :: is => am_okb Y own bytes isI ret cd q is && am_chk Y own bytes isI ret cd is
theorem am_chk_suf {Y : am_Y} {own : String} {bytes : ByteArray} {isI : Bool} {ret : Option FieldType} {cd : List am_E} : ∀ (l : List am_E), am_chk Y own bytes isI ret cd l = true → ∀ (q : am_E) (is : List am_E), (q :: is) <:+ l → am_okb Y own bytes isI ret cd q is = true
  | [], _, q, is, h => by
    have := h.length_le
    simp at this
  | a :: l, hc, q, is, h => by
    have h2 := (Bool.and_eq_true _ _).mp hc
    rcases List.suffix_cons_iff.mp h with h3 | h3
    · cases h3
      exact h2.1
    · exact am_chk_suf l h2.2 q is h3
end
section
def am_str (i : Nat) : Nat := 2000 + i
/-! ===== the relation between configurations and the machine's states; a theorem an instruction ===== -/
/-- constants: arrays of ints, the static row, the texts -/
def am_CU (K : am_K) (ad0 : Nat → Nat) (B : Nat) (U : State) (H : Heap) : Prop := (∀ (k n : Nat) (f : Nat → Int32), K k = some (n, f) → 1000 ≤ k ∧ va_X (ad0 k) n f U H ∧ ad0 k < B) ∧ va_Z "TwoKings$Lane" "WEIGHT" "[I" (.ref (ad0 1001)) (fun a => B ≤ a) U H ∧ ∀ (i : Nat) (o : String) (j : Nat) (tx : String), lw_tbl[i]? = some (.stringRef o j tx) → vk_R o j tx (ad0 (am_str i)) U
def am_Rel (s : State) (D : va_G) (cA : Nat → ClassId) (B : Nat) (cd : List am_E) (nL mc ms n0 : Nat) (ad0 : Nat → Nat) (q : am_C) (ad : Nat → Nat) (H : Heap) (locs : List Loc) (la : Array Slot) : Prop :=
  (q.1 <:+ cd ∧ (mc = 0 → ad = ad0) ∧ (∀ k, (k < n0 ∨ 1000 ≤ k) → ad k = ad0 k) ∧ n0 ≤ q.2.2.2.1.1.length ∧ q.2.2.2.2.1 ≤ mc ∧ q.2.2.2.2.2 ≤ ms) ∧ va_P D vwCl (am_cw cA ad q.2.2.2.1) H ∧ va_D (fun a => B ≤ a) (am_cw cA ad q.2.2.2.1) ∧ va_S (fun a => B ≤ a) s.heap H locs ∧ am_LV ad q.2.1 la nL
def am_PW (p : Program) (l : Launch) (e : Env) (R : Room) (s : State) (m : MethodId) (args : Array Value) (below : List Frame) (meth : Method) (c : Code) (Qf : State → Prop) (D : va_G) (cA : Nat → ClassId) (B : Nat) (cd : List am_E) (nL mc ms n0 : Nat) (ad0 : Nat → Nat) (q : am_C) : Prop :=
  ∀ (ad : Nat → Nat) (H : Heap) (locs : List Loc) (la : Array Slot), am_Rel s D cA B cd nL mc ms n0 ad0 q ad H locs la → W p l e R s m args below meth c H locs q.2.2.2.2.1 q.2.2.2.2.2 Qf (F0 m (am_pcl q.1) la (q.2.2.1.map (am_v ad)))
def am_CX (p : Program) (R : Room) (s : State) (m : MethodId) (meth : Method) (c : Code) (D : va_G) (cA : Nat → ClassId) (B : Nat) (cd : List am_E) (nL mc ms : Nat) (ad0 : Nat → Nat) (K : am_K) (own : String) (bytes : ByteArray) (isI : Bool) (ret : Option FieldType) (Y : am_Y) : Prop :=
  p.tables.exec = Jvm.exec ∧ c.code = bytes ∧ c.maxLocals = nL ∧ s.vm.findClass own = some m.cls ∧ (isI = true → meth.name = "<init>") ∧ am_TW s ∧ va_K D vwCl (am_tys cA) s ∧ am_CU K ad0 B s s.heap ∧ B ≤ s.heap.size ∧ (mc ≤ R.cells ∧ ms ≤ R.slots) ∧ (8 ≤ R.frames ∧ 400 ≤ R.locals) ∧ ∀ (q : am_E) (is : List am_E), (q :: is) <:+ cd → am_okb Y own bytes isI ret cd q is = true
theorem am_Rel.go {s : State} {D : va_G} {cA : Nat → ClassId} {B : Nat} {cd : List am_E} {nL mc ms n0 : Nat} {ad0 : Nat → Nat} {i1 is : List am_E} {ls : am_L} {st st2 : List Value} {hp : am_H} {nc ns : Nat} {ad : Nat → Nat} {H : Heap} {locs : List Loc} {la : Array Slot} (hr : am_Rel s D cA B cd nL mc ms n0 ad0 (i1, ls, st, hp, nc, ns) ad H locs la) (hs : is <:+ cd) : am_Rel s D cA B cd nL mc ms n0 ad0 (is, ls, st2, hp, nc, ns) ad H locs la := ⟨⟨hs, hr.1.2⟩, hr.2⟩
theorem am_Rel.tl {s : State} {D : va_G} {cA : Nat → ClassId} {B : Nat} {cd : List am_E} {nL mc ms n0 : Nat} {ad0 : Nat → Nat} {q : am_E} {is : List am_E} {ls : am_L} {st st2 : List Value} {hp : am_H} {nc ns : Nat} {ad : Nat → Nat} {H : Heap} {locs : List Loc} {la : Array Slot} (hr : am_Rel s D cA B cd nL mc ms n0 ad0 (q :: is, ls, st, hp, nc, ns) ad H locs la) : am_Rel s D cA B cd nL mc ms n0 ad0 (is, ls, st2, hp, nc, ns) ad H locs la := hr.go ((List.suffix_cons _ _).trans hr.1.1)
theorem am_Rel.lv {s : State} {D : va_G} {cA : Nat → ClassId} {B : Nat} {cd : List am_E} {nL mc ms n0 : Nat} {ad0 : Nat → Nat} {q : am_E} {is : List am_E} {ls l2 : am_L} {st st2 : List Value} {hp : am_H} {nc ns : Nat} {ad : Nat → Nat} {H : Heap} {locs : List Loc} {la la2 : Array Slot} (hr : am_Rel s D cA B cd nL mc ms n0 ad0 (q :: is, ls, st, hp, nc, ns) ad H locs la) (h : am_LV ad l2 la2 nL) : am_Rel s D cA B cd nL mc ms n0 ad0 (is, l2, st2, hp, nc, ns) ad H locs la2 := ⟨⟨(List.suffix_cons _ _).trans hr.1.1, hr.1.2⟩, hr.2.1, hr.2.2.1, hr.2.2.2.1, h⟩
theorem am_d_spec {bytes : ByteArray} {pc : Nat} {ins : Instr} {len : Nat} {is : List am_E} (h : am_d bytes pc ins len is = true) : decode bytes pc = .ok (ins, len) ∧ am_pcl is = pc + len := by
  have h2 := (Bool.and_eq_true _ _).mp h
  exact ⟨of_decide_eq_true h2.1, Nat.eq_of_beq_eq_true h2.2⟩
theorem am_j_spec {cd : List am_E} {pc t : Nat} {off : Int} (h : am_j cd pc off t = true) : (pc : Int) + off = ((am_pcl (cd.drop t) : Nat) : Int) := of_decide_eq_true h
/-- the locals as a list of pairs -/
def am_lp (ad : Nat → Nat) : Nat → am_L → List (Nat × Value)
  | _, [] => []
  | i, none :: l => am_lp ad (i + 1) l
  | i, some v :: l => (i, am_v ad v) :: am_lp ad (i + 1) l
theorem am_lp_mem {ad : Nat → Nat} : ∀ (l : am_L) (i : Nat) (q : Nat × Value), q ∈ am_lp ad i l ↔ ∃ (j : Nat) (v : Value), am_get l j = some v ∧ q = (i + j, am_v ad v)
  | [], i, q => by simp [am_lp, am_get]
  | none :: l, i, q => by
    rw [show am_lp ad i (none :: l) = am_lp ad (i + 1) l from rfl, am_lp_mem l (i + 1) q]
    constructor
    · rintro ⟨j, v, h1, h2⟩
      exact ⟨j + 1, v, h1, by rw [h2]; congr 1; omega⟩
    · rintro ⟨j, v, h1, h2⟩
      cases j with
      | zero => cases h1
      | succ j => exact ⟨j, v, h1, by rw [h2]; congr 1; omega⟩
  | some w :: l, i, q => by
    rw [show am_lp ad i (some w :: l) = (i, am_v ad w) :: am_lp ad (i + 1) l from rfl, List.mem_cons, am_lp_mem l (i + 1) q]
    constructor
    · rintro (h | ⟨j, v, h1, h2⟩)
      · exact ⟨0, w, rfl, h⟩
      · exact ⟨j + 1, v, h1, by rw [h2]; congr 1; omega⟩
    · rintro ⟨j, v, h1, h2⟩
      cases j with
      | zero => cases h1; exact Or.inl h2
      | succ j => exact Or.inr ⟨j, v, h1, by rw [h2]; congr 1; omega⟩
theorem am_LV.get {ad : Nat → Nat} {ls : am_L} {la : Array Slot} {nL : Nat} (h : am_LV ad ls la nL) {i : Nat} {v : Value} (hg : am_get ls i = some v) : la[i]? = some (.val (am_v ad v)) := h.2.2.1 i v hg
theorem am_set_len2 : ∀ {l l2 : am_L} {i : Nat} {v : Value}, am_set l i v = some l2 → l2.length = l.length
  | [], _, _, _, h => by simp [am_set] at h
  | _ :: as, l2, 0, v, h => by
    have h2 : some (some v :: as) = some l2 := h
    cases h2
    rfl
  | a :: as, l2, n + 1, v, h => by
    unfold am_set at h
    split at h
    · cases h
    · split at h
      · cases h
      · rename_i r hs
        cases h
        simp [am_set_len2 hs]
theorem am_setL_len2 : ∀ {l l2 : am_L} {i : Nat} {v : Value}, am_setL l i v = some l2 → l2.length = l.length
  | [], _, _, _, h => by simp [am_setL] at h
  | [_], l2, 0, v, h => by simp [am_setL] at h
  | _ :: b :: as, l2, 0, v, h => by
    have h2 : some (some v :: none :: as) = some l2 := h
    cases h2
    rfl
  | a :: as, l2, n + 1, v, h => by
    unfold am_setL at h
    split at h
    · cases h
    · split at h
      · cases h
      · rename_i r hs
        cases h
        simp [am_setL_len2 hs]
theorem am_set_len : ∀ {l l2 : am_L} {i : Nat} {v : Value}, am_set l i v = some l2 → i < l.length
  | [], _, _, _, h => by simp [am_set] at h
  | _ :: _, _, 0, _, _ => by simp
  | a :: as, l2, n + 1, v, h => by
    unfold am_set at h
    split at h
    · cases h
    · split at h
      · cases h
      · rename_i r hs
        have := am_set_len hs
        simp
        omega
theorem am_setL_len : ∀ {l l2 : am_L} {i : Nat} {v : Value}, am_setL l i v = some l2 → i + 1 < l.length
  | [], _, _, _, h => by simp [am_setL] at h
  | [_], _, 0, _, h => by simp [am_setL] at h
  | _ :: _ :: _, _, 0, _, _ => by simp
  | a :: as, l2, n + 1, v, h => by
    unfold am_setL at h
    split at h
    · cases h
    · split at h
      · cases h
      · rename_i r hs
        have := am_setL_len hs
        simp
        omega
theorem am_set_lt {ad : Nat → Nat} {ls l2 : am_L} {la : Array Slot} {nL i : Nat} {v : Value} (h : am_LV ad ls la nL) (hs : am_set ls i v = some l2) : i < nL := by rw [← h.2.2.2]; exact am_set_len hs
theorem am_set_ltL {ad : Nat → Nat} {ls l2 : am_L} {la : Array Slot} {nL i : Nat} {v : Value} (h : am_LV ad ls la nL) (hs : am_setL ls i v = some l2) : i + 1 < nL := by rw [← h.2.2.2]; exact am_setL_len hs
theorem am_LV.has {ad : Nat → Nat} {ls : am_L} {la : Array Slot} {nL : Nat} (h : am_LV ad ls la nL) : lv_has la nL (am_lp ad 0 ls) := by
  refine ⟨h.1, h.2.1, fun q hq => ?_⟩
  obtain ⟨j, v, h1, rfl⟩ := (am_lp_mem ls 0 q).mp hq
  rw [Nat.zero_add]
  exact h.get h1
theorem am_get_set : ∀ {l l2 : am_L} {i : Nat} {v : Value}, am_set l i v = some l2 → ∀ (j : Nat) (w : Value), am_get l2 j = some w → (j = i ∧ w = v) ∨ (j ≠ i ∧ am_get l j = some w ∧ (j + 1 = i → am_isL (some w) = false))
  | [], _, _, _, h, _, _, _ => by simp [am_set] at h
  | _ :: as, l2, 0, v, h, j, w, hw => by
    have h2 : some (some v :: as) = some l2 := h
    cases h2
    cases j with
    | zero => exact Or.inl ⟨rfl, (Option.some.inj hw).symm⟩
    | succ j => exact Or.inr ⟨by omega, hw, by omega⟩
  | a :: as, l2, n + 1, v, h, j, w, hw => by
    unfold am_set at h
    split at h
    · cases h
    · rename_i hb
      split at h
      · cases h
      · rename_i r hs
        cases h
        cases j with
        | zero =>
          refine Or.inr ⟨by omega, hw, fun hj => ?_⟩
          have hn : n = 0 := by omega
          subst hn
          have ha : a = some w := hw
          rw [ha] at hb
          simpa using hb
        | succ j =>
          rcases am_get_set hs j w hw with ⟨h1, h2⟩ | ⟨h1, h2, h3⟩
          · exact Or.inl ⟨by omega, h2⟩
          · exact Or.inr ⟨by omega, h2, fun hj => h3 (by omega)⟩
theorem am_get_setL : ∀ {l l2 : am_L} {i : Nat} {v : Value}, am_setL l i v = some l2 → ∀ (j : Nat) (w : Value), am_get l2 j = some w → (j = i ∧ w = v) ∨ (j ≠ i ∧ j ≠ i + 1 ∧ am_get l j = some w ∧ (j + 1 = i → am_isL (some w) = false))
  | [], _, _, _, h, _, _, _ => by simp [am_setL] at h
  | _ :: [], l2, 0, v, h, j, w, hw => by simp [am_setL] at h
  | _ :: b :: as, l2, 0, v, h, j, w, hw => by
    have h2 : some (some v :: none :: as) = some l2 := h
    cases h2
    cases j with
    | zero => exact Or.inl ⟨rfl, (Option.some.inj hw).symm⟩
    | succ j => cases j with
      | zero => cases hw
      | succ j => exact Or.inr ⟨by omega, by omega, hw, by omega⟩
  | a :: as, l2, n + 1, v, h, j, w, hw => by
    unfold am_setL at h
    split at h
    · cases h
    · rename_i hb
      split at h
      · cases h
      · rename_i r hs
        cases h
        cases j with
        | zero =>
          refine Or.inr ⟨by omega, by omega, hw, fun hj => ?_⟩
          have hn : n = 0 := by omega
          subst hn
          have ha : a = some w := hw
          rw [ha] at hb
          simpa using hb
        | succ j =>
          rcases am_get_setL hs j w hw with ⟨h1, h2⟩ | ⟨h1, h2, h3, h4⟩
          · exact Or.inl ⟨by omega, h2⟩
          · exact Or.inr ⟨by omega, by omega, h3, fun hj => h4 (by omega)⟩
theorem am_v_cat (ad : Nat → Nat) (w : Value) : (am_v ad w).category = w.category := by cases w <;> rfl
theorem am_isL_cat {w : Value} (h : am_isL (some w) = false) : ¬ w.category = 2 := by cases w <;> simp [Value.category, am_isL] at h ⊢
/-- behind a store of one word -/
theorem am_LV.st {ad : Nat → Nat} {ls l2 : am_L} {la2 : Array Slot} {nL i : Nat} {v : Value} (hlen : ls.length = nL) (hs : am_set ls i v = some l2) (h2 : lv_has la2 nL ((i, am_v ad v) :: (am_lp ad 0 ls).filter (fun q => !(q.1 == i) && !(q.1 + 1 == i && q.2.category == 2)))) : am_LV ad l2 la2 nL := by
  refine ⟨h2.1, h2.2.1, fun j w hw => ?_, (am_set_len2 hs).trans hlen⟩
  rcases am_get_set hs j w hw with ⟨rfl, rfl⟩ | ⟨hj, hg, hL⟩
  · exact h2.2.2 (j, am_v ad w) List.mem_cons_self
  · refine h2.2.2 (j, am_v ad w) (List.mem_cons_of_mem _ (List.mem_filter.mpr ⟨(am_lp_mem ls 0 _).mpr ⟨j, w, hg, by rw [Nat.zero_add]⟩, ?_⟩))
    by_cases hji : j + 1 = i
    · have := am_isL_cat (hL hji)
      simp [hj, am_v_cat, this]
    · simp [hj, hji]
theorem am_LV.stL {ad : Nat → Nat} {ls l2 : am_L} {la2 : Array Slot} {nL i : Nat} {v : Value} (hlen : ls.length = nL) (hs : am_setL ls i v = some l2) (h2 : lv_has la2 nL ((i, am_v ad v) :: (am_lp ad 0 ls).filter (fun q => !(q.1 == i) && (!(q.1 == i + 1) && !(q.1 + 1 == i && q.2.category == 2))))) : am_LV ad l2 la2 nL := by
  refine ⟨h2.1, h2.2.1, fun j w hw => ?_, (am_setL_len2 hs).trans hlen⟩
  rcases am_get_setL hs j w hw with ⟨rfl, rfl⟩ | ⟨hj, hj2, hg, hL⟩
  · exact h2.2.2 (j, am_v ad w) List.mem_cons_self
  · refine h2.2.2 (j, am_v ad w) (List.mem_cons_of_mem _ (List.mem_filter.mpr ⟨(am_lp_mem ls 0 _).mpr ⟨j, w, hg, by rw [Nat.zero_add]⟩, ?_⟩))
    by_cases hji : j + 1 = i
    · have := am_isL_cat (hL hji)
      simp [hj, hj2, am_v_cat, this]
    · simp [hj, hj2, hji]
set_option maxHeartbeats 1000000 in
theorem am_s_iconst {p : Program} {l : Launch} {e : Env} {R : Room} {s : State} {m : MethodId} {args : Array Value} {below : List Frame} {meth : Method} {c : Code} {Qf : State → Prop} {D : va_G} {cA : Nat → ClassId} {B : Nat} {cd : List am_E} {nL mc ms n0 : Nat} {ad0 : Nat → Nat} {K : am_K} {I : am_I} {Tc : am_T} {Q : Option Value → am_H → Prop} {own : String} {bytes : ByteArray} {isI : Bool} {ret : Option FieldType} {Y : am_Y} (X : am_CX p R s m meth c D cA B cd nL mc ms ad0 K own bytes isI ret Y) {pc : Nat} {n : Int} {rs : List Nat} {im : Int32} {wl : List Nat} {is : List am_E} {ls : am_L} {st : List Value} {hp : am_H} {nc ns : Nat} (h : am_step K I Tc cd mc ms Q (am_PW p l e R s m args below meth c Qf D cA B cd nL mc ms n0 ad0) ((pc, .iconst n, rs, im, wl) :: is, ls, st, hp, nc, ns)) : (am_PW p l e R s m args below meth c Qf D cA B cd nL mc ms n0 ad0) ((pc, .iconst n, rs, im, wl) :: is, ls, st, hp, nc, ns) := by
  intro ad H locs la hr
  obtain ⟨hx, hb, hml, hown, hisI, hTW, hK, hCU, hBs, hRc, hRf, hV⟩ := X
  have hok := hV _ _ hr.1.1
  obtain ⟨hd, hv⟩ := (Bool.and_eq_true _ _).mp hok
  obtain ⟨hdg, hpc⟩ := am_d_spec hd
  have k := h ad H locs la hr.tl
  dsimp only at k
  rw [hpc] at k
  exact lv_iconst hx hb hdg (of_decide_eq_true hv) k
set_option maxHeartbeats 1000000 in
theorem am_s_bipush {p : Program} {l : Launch} {e : Env} {R : Room} {s : State} {m : MethodId} {args : Array Value} {below : List Frame} {meth : Method} {c : Code} {Qf : State → Prop} {D : va_G} {cA : Nat → ClassId} {B : Nat} {cd : List am_E} {nL mc ms n0 : Nat} {ad0 : Nat → Nat} {K : am_K} {I : am_I} {Tc : am_T} {Q : Option Value → am_H → Prop} {own : String} {bytes : ByteArray} {isI : Bool} {ret : Option FieldType} {Y : am_Y} (X : am_CX p R s m meth c D cA B cd nL mc ms ad0 K own bytes isI ret Y) {pc : Nat} {n : Int} {rs : List Nat} {im : Int32} {wl : List Nat} {is : List am_E} {ls : am_L} {st : List Value} {hp : am_H} {nc ns : Nat} (h : am_step K I Tc cd mc ms Q (am_PW p l e R s m args below meth c Qf D cA B cd nL mc ms n0 ad0) ((pc, .bipush n, rs, im, wl) :: is, ls, st, hp, nc, ns)) : (am_PW p l e R s m args below meth c Qf D cA B cd nL mc ms n0 ad0) ((pc, .bipush n, rs, im, wl) :: is, ls, st, hp, nc, ns) := by
  intro ad H locs la hr
  obtain ⟨hx, hb, hml, hown, hisI, hTW, hK, hCU, hBs, hRc, hRf, hV⟩ := X
  have hok := hV _ _ hr.1.1
  obtain ⟨hd, hv⟩ := (Bool.and_eq_true _ _).mp hok
  obtain ⟨hdg, hpc⟩ := am_d_spec hd
  have k := h ad H locs la hr.tl
  dsimp only at k
  rw [hpc] at k
  exact lv_bipush hx hb hdg (of_decide_eq_true hv) k
set_option maxHeartbeats 1000000 in
theorem am_s_sipush {p : Program} {l : Launch} {e : Env} {R : Room} {s : State} {m : MethodId} {args : Array Value} {below : List Frame} {meth : Method} {c : Code} {Qf : State → Prop} {D : va_G} {cA : Nat → ClassId} {B : Nat} {cd : List am_E} {nL mc ms n0 : Nat} {ad0 : Nat → Nat} {K : am_K} {I : am_I} {Tc : am_T} {Q : Option Value → am_H → Prop} {own : String} {bytes : ByteArray} {isI : Bool} {ret : Option FieldType} {Y : am_Y} (X : am_CX p R s m meth c D cA B cd nL mc ms ad0 K own bytes isI ret Y) {pc : Nat} {n : Int} {rs : List Nat} {im : Int32} {wl : List Nat} {is : List am_E} {ls : am_L} {st : List Value} {hp : am_H} {nc ns : Nat} (h : am_step K I Tc cd mc ms Q (am_PW p l e R s m args below meth c Qf D cA B cd nL mc ms n0 ad0) ((pc, .sipush n, rs, im, wl) :: is, ls, st, hp, nc, ns)) : (am_PW p l e R s m args below meth c Qf D cA B cd nL mc ms n0 ad0) ((pc, .sipush n, rs, im, wl) :: is, ls, st, hp, nc, ns) := by
  intro ad H locs la hr
  obtain ⟨hx, hb, hml, hown, hisI, hTW, hK, hCU, hBs, hRc, hRf, hV⟩ := X
  have hok := hV _ _ hr.1.1
  obtain ⟨hd, hv⟩ := (Bool.and_eq_true _ _).mp hok
  obtain ⟨hdg, hpc⟩ := am_d_spec hd
  have k := h ad H locs la hr.tl
  dsimp only at k
  rw [hpc] at k
  exact lv_sipush hx hb hdg (of_decide_eq_true hv) k
set_option maxHeartbeats 1000000 in
theorem am_s_lconst {p : Program} {l : Launch} {e : Env} {R : Room} {s : State} {m : MethodId} {args : Array Value} {below : List Frame} {meth : Method} {c : Code} {Qf : State → Prop} {D : va_G} {cA : Nat → ClassId} {B : Nat} {cd : List am_E} {nL mc ms n0 : Nat} {ad0 : Nat → Nat} {K : am_K} {I : am_I} {Tc : am_T} {Q : Option Value → am_H → Prop} {own : String} {bytes : ByteArray} {isI : Bool} {ret : Option FieldType} {Y : am_Y} (X : am_CX p R s m meth c D cA B cd nL mc ms ad0 K own bytes isI ret Y) {pc : Nat} {n : Fin 2} {rs : List Nat} {im : Int32} {wl : List Nat} {is : List am_E} {ls : am_L} {st : List Value} {hp : am_H} {nc ns : Nat} (h : am_step K I Tc cd mc ms Q (am_PW p l e R s m args below meth c Qf D cA B cd nL mc ms n0 ad0) ((pc, .lconst n, rs, im, wl) :: is, ls, st, hp, nc, ns)) : (am_PW p l e R s m args below meth c Qf D cA B cd nL mc ms n0 ad0) ((pc, .lconst n, rs, im, wl) :: is, ls, st, hp, nc, ns) := by
  intro ad H locs la hr
  obtain ⟨hx, hb, hml, hown, hisI, hTW, hK, hCU, hBs, hRc, hRf, hV⟩ := X
  have hok := hV _ _ hr.1.1
  obtain ⟨hd, hv⟩ := (Bool.and_eq_true _ _).mp hok
  obtain ⟨hdg, hpc⟩ := am_d_spec hd
  have k := h ad H locs la hr.tl
  dsimp only at k
  rw [hpc] at k
  exact lv_lconst hx hb hdg (of_decide_eq_true hv) k
set_option maxHeartbeats 1000000 in
theorem am_s_iload_n {p : Program} {l : Launch} {e : Env} {R : Room} {s : State} {m : MethodId} {args : Array Value} {below : List Frame} {meth : Method} {c : Code} {Qf : State → Prop} {D : va_G} {cA : Nat → ClassId} {B : Nat} {cd : List am_E} {nL mc ms n0 : Nat} {ad0 : Nat → Nat} {K : am_K} {I : am_I} {Tc : am_T} {Q : Option Value → am_H → Prop} {own : String} {bytes : ByteArray} {isI : Bool} {ret : Option FieldType} {Y : am_Y} (X : am_CX p R s m meth c D cA B cd nL mc ms ad0 K own bytes isI ret Y) {pc : Nat} {k : Fin 4} {rs : List Nat} {im : Int32} {wl : List Nat} {is : List am_E} {ls : am_L} {st : List Value} {hp : am_H} {nc ns : Nat} (h : am_step K I Tc cd mc ms Q (am_PW p l e R s m args below meth c Qf D cA B cd nL mc ms n0 ad0) ((pc, .iload_n k, rs, im, wl) :: is, ls, st, hp, nc, ns)) : (am_PW p l e R s m args below meth c Qf D cA B cd nL mc ms n0 ad0) ((pc, .iload_n k, rs, im, wl) :: is, ls, st, hp, nc, ns) := by
  intro ad H locs la hr
  obtain ⟨hx, hb, hml, hown, hisI, hTW, hK, hCU, hBs, hRc, hRf, hV⟩ := X
  have hok := hV _ _ hr.1.1
  obtain ⟨hd, hv⟩ := (Bool.and_eq_true _ _).mp hok
  obtain ⟨hdg, hpc⟩ := am_d_spec hd
  have hrs := of_decide_eq_true hv
  subst hrs
  dsimp only [am_step] at h
  split at h
  · rename_i x hg
    have k := h ad H locs la hr.tl
    dsimp only at k
    rw [hpc] at k
    exact lv_iload_n hx hb hdg rfl (hr.2.2.2.2.get hg) k
  · exact h.elim
set_option maxHeartbeats 1000000 in
theorem am_s_iload {p : Program} {l : Launch} {e : Env} {R : Room} {s : State} {m : MethodId} {args : Array Value} {below : List Frame} {meth : Method} {c : Code} {Qf : State → Prop} {D : va_G} {cA : Nat → ClassId} {B : Nat} {cd : List am_E} {nL mc ms n0 : Nat} {ad0 : Nat → Nat} {K : am_K} {I : am_I} {Tc : am_T} {Q : Option Value → am_H → Prop} {own : String} {bytes : ByteArray} {isI : Bool} {ret : Option FieldType} {Y : am_Y} (X : am_CX p R s m meth c D cA B cd nL mc ms ad0 K own bytes isI ret Y) {pc : Nat} {k : Nat} {rs : List Nat} {im : Int32} {wl : List Nat} {is : List am_E} {ls : am_L} {st : List Value} {hp : am_H} {nc ns : Nat} (h : am_step K I Tc cd mc ms Q (am_PW p l e R s m args below meth c Qf D cA B cd nL mc ms n0 ad0) ((pc, .iload k, rs, im, wl) :: is, ls, st, hp, nc, ns)) : (am_PW p l e R s m args below meth c Qf D cA B cd nL mc ms n0 ad0) ((pc, .iload k, rs, im, wl) :: is, ls, st, hp, nc, ns) := by
  intro ad H locs la hr
  obtain ⟨hx, hb, hml, hown, hisI, hTW, hK, hCU, hBs, hRc, hRf, hV⟩ := X
  have hok := hV _ _ hr.1.1
  obtain ⟨hd, hv⟩ := (Bool.and_eq_true _ _).mp hok
  obtain ⟨hdg, hpc⟩ := am_d_spec hd
  have hrs := of_decide_eq_true hv
  subst hrs
  dsimp only [am_step] at h
  split at h
  · rename_i x hg
    have k := h ad H locs la hr.tl
    dsimp only at k
    rw [hpc] at k
    exact lv_iload hx hb hdg (hr.2.2.2.2.get hg) k
  · exact h.elim
set_option maxHeartbeats 1000000 in
theorem am_s_aload_n {p : Program} {l : Launch} {e : Env} {R : Room} {s : State} {m : MethodId} {args : Array Value} {below : List Frame} {meth : Method} {c : Code} {Qf : State → Prop} {D : va_G} {cA : Nat → ClassId} {B : Nat} {cd : List am_E} {nL mc ms n0 : Nat} {ad0 : Nat → Nat} {K : am_K} {I : am_I} {Tc : am_T} {Q : Option Value → am_H → Prop} {own : String} {bytes : ByteArray} {isI : Bool} {ret : Option FieldType} {Y : am_Y} (X : am_CX p R s m meth c D cA B cd nL mc ms ad0 K own bytes isI ret Y) {pc : Nat} {k : Fin 4} {rs : List Nat} {im : Int32} {wl : List Nat} {is : List am_E} {ls : am_L} {st : List Value} {hp : am_H} {nc ns : Nat} (h : am_step K I Tc cd mc ms Q (am_PW p l e R s m args below meth c Qf D cA B cd nL mc ms n0 ad0) ((pc, .aload_n k, rs, im, wl) :: is, ls, st, hp, nc, ns)) : (am_PW p l e R s m args below meth c Qf D cA B cd nL mc ms n0 ad0) ((pc, .aload_n k, rs, im, wl) :: is, ls, st, hp, nc, ns) := by
  intro ad H locs la hr
  obtain ⟨hx, hb, hml, hown, hisI, hTW, hK, hCU, hBs, hRc, hRf, hV⟩ := X
  have hok := hV _ _ hr.1.1
  obtain ⟨hd, hv⟩ := (Bool.and_eq_true _ _).mp hok
  obtain ⟨hdg, hpc⟩ := am_d_spec hd
  have hrs := of_decide_eq_true hv
  subst hrs
  dsimp only [am_step] at h
  split at h
  · rename_i x hg
    have k := h ad H locs la hr.tl
    dsimp only at k
    rw [hpc] at k
    exact lv_aload_n hx hb hdg rfl (hr.2.2.2.2.get hg) k
  · exact h.elim
set_option maxHeartbeats 1000000 in
theorem am_s_aload {p : Program} {l : Launch} {e : Env} {R : Room} {s : State} {m : MethodId} {args : Array Value} {below : List Frame} {meth : Method} {c : Code} {Qf : State → Prop} {D : va_G} {cA : Nat → ClassId} {B : Nat} {cd : List am_E} {nL mc ms n0 : Nat} {ad0 : Nat → Nat} {K : am_K} {I : am_I} {Tc : am_T} {Q : Option Value → am_H → Prop} {own : String} {bytes : ByteArray} {isI : Bool} {ret : Option FieldType} {Y : am_Y} (X : am_CX p R s m meth c D cA B cd nL mc ms ad0 K own bytes isI ret Y) {pc : Nat} {k : Nat} {rs : List Nat} {im : Int32} {wl : List Nat} {is : List am_E} {ls : am_L} {st : List Value} {hp : am_H} {nc ns : Nat} (h : am_step K I Tc cd mc ms Q (am_PW p l e R s m args below meth c Qf D cA B cd nL mc ms n0 ad0) ((pc, .aload k, rs, im, wl) :: is, ls, st, hp, nc, ns)) : (am_PW p l e R s m args below meth c Qf D cA B cd nL mc ms n0 ad0) ((pc, .aload k, rs, im, wl) :: is, ls, st, hp, nc, ns) := by
  intro ad H locs la hr
  obtain ⟨hx, hb, hml, hown, hisI, hTW, hK, hCU, hBs, hRc, hRf, hV⟩ := X
  have hok := hV _ _ hr.1.1
  obtain ⟨hd, hv⟩ := (Bool.and_eq_true _ _).mp hok
  obtain ⟨hdg, hpc⟩ := am_d_spec hd
  have hrs := of_decide_eq_true hv
  subst hrs
  dsimp only [am_step] at h
  split at h
  · rename_i x hg
    have k := h ad H locs la hr.tl
    dsimp only at k
    rw [hpc] at k
    exact lv_aload hx hb hdg (hr.2.2.2.2.get hg) k
  · exact h.elim
set_option maxHeartbeats 1000000 in
theorem am_s_lload_n {p : Program} {l : Launch} {e : Env} {R : Room} {s : State} {m : MethodId} {args : Array Value} {below : List Frame} {meth : Method} {c : Code} {Qf : State → Prop} {D : va_G} {cA : Nat → ClassId} {B : Nat} {cd : List am_E} {nL mc ms n0 : Nat} {ad0 : Nat → Nat} {K : am_K} {I : am_I} {Tc : am_T} {Q : Option Value → am_H → Prop} {own : String} {bytes : ByteArray} {isI : Bool} {ret : Option FieldType} {Y : am_Y} (X : am_CX p R s m meth c D cA B cd nL mc ms ad0 K own bytes isI ret Y) {pc : Nat} {k : Fin 4} {rs : List Nat} {im : Int32} {wl : List Nat} {is : List am_E} {ls : am_L} {st : List Value} {hp : am_H} {nc ns : Nat} (h : am_step K I Tc cd mc ms Q (am_PW p l e R s m args below meth c Qf D cA B cd nL mc ms n0 ad0) ((pc, .lload_n k, rs, im, wl) :: is, ls, st, hp, nc, ns)) : (am_PW p l e R s m args below meth c Qf D cA B cd nL mc ms n0 ad0) ((pc, .lload_n k, rs, im, wl) :: is, ls, st, hp, nc, ns) := by
  intro ad H locs la hr
  obtain ⟨hx, hb, hml, hown, hisI, hTW, hK, hCU, hBs, hRc, hRf, hV⟩ := X
  have hok := hV _ _ hr.1.1
  obtain ⟨hd, hv⟩ := (Bool.and_eq_true _ _).mp hok
  obtain ⟨hdg, hpc⟩ := am_d_spec hd
  have hrs := of_decide_eq_true hv
  subst hrs
  dsimp only [am_step] at h
  split at h
  · rename_i x hg
    have k := h ad H locs la hr.tl
    dsimp only at k
    rw [hpc] at k
    exact lv_lload_n hx hb hdg rfl (hr.2.2.2.2.get hg) k
  · exact h.elim
set_option maxHeartbeats 1000000 in
theorem am_s_lload {p : Program} {l : Launch} {e : Env} {R : Room} {s : State} {m : MethodId} {args : Array Value} {below : List Frame} {meth : Method} {c : Code} {Qf : State → Prop} {D : va_G} {cA : Nat → ClassId} {B : Nat} {cd : List am_E} {nL mc ms n0 : Nat} {ad0 : Nat → Nat} {K : am_K} {I : am_I} {Tc : am_T} {Q : Option Value → am_H → Prop} {own : String} {bytes : ByteArray} {isI : Bool} {ret : Option FieldType} {Y : am_Y} (X : am_CX p R s m meth c D cA B cd nL mc ms ad0 K own bytes isI ret Y) {pc : Nat} {k : Nat} {rs : List Nat} {im : Int32} {wl : List Nat} {is : List am_E} {ls : am_L} {st : List Value} {hp : am_H} {nc ns : Nat} (h : am_step K I Tc cd mc ms Q (am_PW p l e R s m args below meth c Qf D cA B cd nL mc ms n0 ad0) ((pc, .lload k, rs, im, wl) :: is, ls, st, hp, nc, ns)) : (am_PW p l e R s m args below meth c Qf D cA B cd nL mc ms n0 ad0) ((pc, .lload k, rs, im, wl) :: is, ls, st, hp, nc, ns) := by
  intro ad H locs la hr
  obtain ⟨hx, hb, hml, hown, hisI, hTW, hK, hCU, hBs, hRc, hRf, hV⟩ := X
  have hok := hV _ _ hr.1.1
  obtain ⟨hd, hv⟩ := (Bool.and_eq_true _ _).mp hok
  obtain ⟨hdg, hpc⟩ := am_d_spec hd
  have hrs := of_decide_eq_true hv
  subst hrs
  dsimp only [am_step] at h
  split at h
  · rename_i x hg
    have k := h ad H locs la hr.tl
    dsimp only at k
    rw [hpc] at k
    exact lv_lload hx hb hdg (hr.2.2.2.2.get hg) k
  · exact h.elim
set_option maxHeartbeats 1000000 in
theorem am_s_istore_n {p : Program} {l : Launch} {e : Env} {R : Room} {s : State} {m : MethodId} {args : Array Value} {below : List Frame} {meth : Method} {c : Code} {Qf : State → Prop} {D : va_G} {cA : Nat → ClassId} {B : Nat} {cd : List am_E} {nL mc ms n0 : Nat} {ad0 : Nat → Nat} {K : am_K} {I : am_I} {Tc : am_T} {Q : Option Value → am_H → Prop} {own : String} {bytes : ByteArray} {isI : Bool} {ret : Option FieldType} {Y : am_Y} (X : am_CX p R s m meth c D cA B cd nL mc ms ad0 K own bytes isI ret Y) {pc : Nat} {k : Fin 4} {rs : List Nat} {im : Int32} {wl : List Nat} {is : List am_E} {ls : am_L} {st : List Value} {hp : am_H} {nc ns : Nat} (h : am_step K I Tc cd mc ms Q (am_PW p l e R s m args below meth c Qf D cA B cd nL mc ms n0 ad0) ((pc, .istore_n k, rs, im, wl) :: is, ls, st, hp, nc, ns)) : (am_PW p l e R s m args below meth c Qf D cA B cd nL mc ms n0 ad0) ((pc, .istore_n k, rs, im, wl) :: is, ls, st, hp, nc, ns) := by
  intro ad H locs la hr
  obtain ⟨hx, hb, hml, hown, hisI, hTW, hK, hCU, hBs, hRc, hRf, hV⟩ := X
  have hok := hV _ _ hr.1.1
  obtain ⟨hd, hv⟩ := (Bool.and_eq_true _ _).mp hok
  obtain ⟨hdg, hpc⟩ := am_d_spec hd
  have hrs := of_decide_eq_true hv
  subst hrs
  dsimp only [am_step] at h
  split at h
  · rename_i i x r he
    cases he
    split at h
    · rename_i l2 hs
      refine lv_istore_n hx hb hdg rfl hr.2.2.2.2.has (am_set_lt hr.2.2.2.2 hs) rfl (fun la2 h2 => ?_)
      have k := h ad H locs la2 (hr.lv (am_LV.st hr.2.2.2.2.2.2.2 hs h2))
      dsimp only at k
      rw [hpc] at k
      exact k
    · exact h.elim
  · exact h.elim
set_option maxHeartbeats 1000000 in
theorem am_s_istore {p : Program} {l : Launch} {e : Env} {R : Room} {s : State} {m : MethodId} {args : Array Value} {below : List Frame} {meth : Method} {c : Code} {Qf : State → Prop} {D : va_G} {cA : Nat → ClassId} {B : Nat} {cd : List am_E} {nL mc ms n0 : Nat} {ad0 : Nat → Nat} {K : am_K} {I : am_I} {Tc : am_T} {Q : Option Value → am_H → Prop} {own : String} {bytes : ByteArray} {isI : Bool} {ret : Option FieldType} {Y : am_Y} (X : am_CX p R s m meth c D cA B cd nL mc ms ad0 K own bytes isI ret Y) {pc : Nat} {k : Nat} {rs : List Nat} {im : Int32} {wl : List Nat} {is : List am_E} {ls : am_L} {st : List Value} {hp : am_H} {nc ns : Nat} (h : am_step K I Tc cd mc ms Q (am_PW p l e R s m args below meth c Qf D cA B cd nL mc ms n0 ad0) ((pc, .istore k, rs, im, wl) :: is, ls, st, hp, nc, ns)) : (am_PW p l e R s m args below meth c Qf D cA B cd nL mc ms n0 ad0) ((pc, .istore k, rs, im, wl) :: is, ls, st, hp, nc, ns) := by
  intro ad H locs la hr
  obtain ⟨hx, hb, hml, hown, hisI, hTW, hK, hCU, hBs, hRc, hRf, hV⟩ := X
  have hok := hV _ _ hr.1.1
  obtain ⟨hd, hv⟩ := (Bool.and_eq_true _ _).mp hok
  obtain ⟨hdg, hpc⟩ := am_d_spec hd
  have hrs := of_decide_eq_true hv
  subst hrs
  dsimp only [am_step] at h
  split at h
  · rename_i i x r he
    cases he
    split at h
    · rename_i l2 hs
      refine lv_istore hx hb hdg hr.2.2.2.2.has (am_set_lt hr.2.2.2.2 hs) rfl (fun la2 h2 => ?_)
      have k := h ad H locs la2 (hr.lv (am_LV.st hr.2.2.2.2.2.2.2 hs h2))
      dsimp only at k
      rw [hpc] at k
      exact k
    · exact h.elim
  · exact h.elim
set_option maxHeartbeats 1000000 in
theorem am_s_astore_n {p : Program} {l : Launch} {e : Env} {R : Room} {s : State} {m : MethodId} {args : Array Value} {below : List Frame} {meth : Method} {c : Code} {Qf : State → Prop} {D : va_G} {cA : Nat → ClassId} {B : Nat} {cd : List am_E} {nL mc ms n0 : Nat} {ad0 : Nat → Nat} {K : am_K} {I : am_I} {Tc : am_T} {Q : Option Value → am_H → Prop} {own : String} {bytes : ByteArray} {isI : Bool} {ret : Option FieldType} {Y : am_Y} (X : am_CX p R s m meth c D cA B cd nL mc ms ad0 K own bytes isI ret Y) {pc : Nat} {k : Fin 4} {rs : List Nat} {im : Int32} {wl : List Nat} {is : List am_E} {ls : am_L} {st : List Value} {hp : am_H} {nc ns : Nat} (h : am_step K I Tc cd mc ms Q (am_PW p l e R s m args below meth c Qf D cA B cd nL mc ms n0 ad0) ((pc, .astore_n k, rs, im, wl) :: is, ls, st, hp, nc, ns)) : (am_PW p l e R s m args below meth c Qf D cA B cd nL mc ms n0 ad0) ((pc, .astore_n k, rs, im, wl) :: is, ls, st, hp, nc, ns) := by
  intro ad H locs la hr
  obtain ⟨hx, hb, hml, hown, hisI, hTW, hK, hCU, hBs, hRc, hRf, hV⟩ := X
  have hok := hV _ _ hr.1.1
  obtain ⟨hd, hv⟩ := (Bool.and_eq_true _ _).mp hok
  obtain ⟨hdg, hpc⟩ := am_d_spec hd
  have hrs := of_decide_eq_true hv
  subst hrs
  dsimp only [am_step] at h
  split at h
  · rename_i i x r he
    cases he
    split at h
    · rename_i l2 hs
      refine lv_astore_n hx hb hdg rfl hr.2.2.2.2.has (am_set_lt hr.2.2.2.2 hs) rfl (fun la2 h2 => ?_)
      have k := h ad H locs la2 (hr.lv (am_LV.st hr.2.2.2.2.2.2.2 hs h2))
      dsimp only at k
      rw [hpc] at k
      exact k
    · exact h.elim
  · exact h.elim
set_option maxHeartbeats 1000000 in
theorem am_s_astore {p : Program} {l : Launch} {e : Env} {R : Room} {s : State} {m : MethodId} {args : Array Value} {below : List Frame} {meth : Method} {c : Code} {Qf : State → Prop} {D : va_G} {cA : Nat → ClassId} {B : Nat} {cd : List am_E} {nL mc ms n0 : Nat} {ad0 : Nat → Nat} {K : am_K} {I : am_I} {Tc : am_T} {Q : Option Value → am_H → Prop} {own : String} {bytes : ByteArray} {isI : Bool} {ret : Option FieldType} {Y : am_Y} (X : am_CX p R s m meth c D cA B cd nL mc ms ad0 K own bytes isI ret Y) {pc : Nat} {k : Nat} {rs : List Nat} {im : Int32} {wl : List Nat} {is : List am_E} {ls : am_L} {st : List Value} {hp : am_H} {nc ns : Nat} (h : am_step K I Tc cd mc ms Q (am_PW p l e R s m args below meth c Qf D cA B cd nL mc ms n0 ad0) ((pc, .astore k, rs, im, wl) :: is, ls, st, hp, nc, ns)) : (am_PW p l e R s m args below meth c Qf D cA B cd nL mc ms n0 ad0) ((pc, .astore k, rs, im, wl) :: is, ls, st, hp, nc, ns) := by
  intro ad H locs la hr
  obtain ⟨hx, hb, hml, hown, hisI, hTW, hK, hCU, hBs, hRc, hRf, hV⟩ := X
  have hok := hV _ _ hr.1.1
  obtain ⟨hd, hv⟩ := (Bool.and_eq_true _ _).mp hok
  obtain ⟨hdg, hpc⟩ := am_d_spec hd
  have hrs := of_decide_eq_true hv
  subst hrs
  dsimp only [am_step] at h
  split at h
  · rename_i i x r he
    cases he
    split at h
    · rename_i l2 hs
      refine lv_astore hx hb hdg hr.2.2.2.2.has (am_set_lt hr.2.2.2.2 hs) rfl (fun la2 h2 => ?_)
      have k := h ad H locs la2 (hr.lv (am_LV.st hr.2.2.2.2.2.2.2 hs h2))
      dsimp only at k
      rw [hpc] at k
      exact k
    · exact h.elim
  · exact h.elim
set_option maxHeartbeats 1000000 in
theorem am_s_lstore_n {p : Program} {l : Launch} {e : Env} {R : Room} {s : State} {m : MethodId} {args : Array Value} {below : List Frame} {meth : Method} {c : Code} {Qf : State → Prop} {D : va_G} {cA : Nat → ClassId} {B : Nat} {cd : List am_E} {nL mc ms n0 : Nat} {ad0 : Nat → Nat} {K : am_K} {I : am_I} {Tc : am_T} {Q : Option Value → am_H → Prop} {own : String} {bytes : ByteArray} {isI : Bool} {ret : Option FieldType} {Y : am_Y} (X : am_CX p R s m meth c D cA B cd nL mc ms ad0 K own bytes isI ret Y) {pc : Nat} {k : Fin 4} {rs : List Nat} {im : Int32} {wl : List Nat} {is : List am_E} {ls : am_L} {st : List Value} {hp : am_H} {nc ns : Nat} (h : am_step K I Tc cd mc ms Q (am_PW p l e R s m args below meth c Qf D cA B cd nL mc ms n0 ad0) ((pc, .lstore_n k, rs, im, wl) :: is, ls, st, hp, nc, ns)) : (am_PW p l e R s m args below meth c Qf D cA B cd nL mc ms n0 ad0) ((pc, .lstore_n k, rs, im, wl) :: is, ls, st, hp, nc, ns) := by
  intro ad H locs la hr
  obtain ⟨hx, hb, hml, hown, hisI, hTW, hK, hCU, hBs, hRc, hRf, hV⟩ := X
  have hok := hV _ _ hr.1.1
  obtain ⟨hd, hv⟩ := (Bool.and_eq_true _ _).mp hok
  obtain ⟨hdg, hpc⟩ := am_d_spec hd
  have hrs := of_decide_eq_true hv
  subst hrs
  dsimp only [am_step] at h
  split at h
  · rename_i i x r he
    cases he
    split at h
    · rename_i l2 hs
      refine lv_lstore_n hx hb hdg rfl hr.2.2.2.2.has (am_set_ltL hr.2.2.2.2 hs) rfl (fun la2 h2 => ?_)
      have k := h ad H locs la2 (hr.lv (am_LV.stL hr.2.2.2.2.2.2.2 hs h2))
      dsimp only at k
      rw [hpc] at k
      exact k
    · exact h.elim
  · exact h.elim
set_option maxHeartbeats 1000000 in
theorem am_s_lstore {p : Program} {l : Launch} {e : Env} {R : Room} {s : State} {m : MethodId} {args : Array Value} {below : List Frame} {meth : Method} {c : Code} {Qf : State → Prop} {D : va_G} {cA : Nat → ClassId} {B : Nat} {cd : List am_E} {nL mc ms n0 : Nat} {ad0 : Nat → Nat} {K : am_K} {I : am_I} {Tc : am_T} {Q : Option Value → am_H → Prop} {own : String} {bytes : ByteArray} {isI : Bool} {ret : Option FieldType} {Y : am_Y} (X : am_CX p R s m meth c D cA B cd nL mc ms ad0 K own bytes isI ret Y) {pc : Nat} {k : Nat} {rs : List Nat} {im : Int32} {wl : List Nat} {is : List am_E} {ls : am_L} {st : List Value} {hp : am_H} {nc ns : Nat} (h : am_step K I Tc cd mc ms Q (am_PW p l e R s m args below meth c Qf D cA B cd nL mc ms n0 ad0) ((pc, .lstore k, rs, im, wl) :: is, ls, st, hp, nc, ns)) : (am_PW p l e R s m args below meth c Qf D cA B cd nL mc ms n0 ad0) ((pc, .lstore k, rs, im, wl) :: is, ls, st, hp, nc, ns) := by
  intro ad H locs la hr
  obtain ⟨hx, hb, hml, hown, hisI, hTW, hK, hCU, hBs, hRc, hRf, hV⟩ := X
  have hok := hV _ _ hr.1.1
  obtain ⟨hd, hv⟩ := (Bool.and_eq_true _ _).mp hok
  obtain ⟨hdg, hpc⟩ := am_d_spec hd
  have hrs := of_decide_eq_true hv
  subst hrs
  dsimp only [am_step] at h
  split at h
  · rename_i i x r he
    cases he
    split at h
    · rename_i l2 hs
      refine lv_lstore hx hb hdg hr.2.2.2.2.has (am_set_ltL hr.2.2.2.2 hs) rfl (fun la2 h2 => ?_)
      have k := h ad H locs la2 (hr.lv (am_LV.stL hr.2.2.2.2.2.2.2 hs h2))
      dsimp only at k
      rw [hpc] at k
      exact k
    · exact h.elim
  · exact h.elim
set_option maxHeartbeats 1000000 in
theorem am_s_iinc {p : Program} {l : Launch} {e : Env} {R : Room} {s : State} {m : MethodId} {args : Array Value} {below : List Frame} {meth : Method} {c : Code} {Qf : State → Prop} {D : va_G} {cA : Nat → ClassId} {B : Nat} {cd : List am_E} {nL mc ms n0 : Nat} {ad0 : Nat → Nat} {K : am_K} {I : am_I} {Tc : am_T} {Q : Option Value → am_H → Prop} {own : String} {bytes : ByteArray} {isI : Bool} {ret : Option FieldType} {Y : am_Y} (X : am_CX p R s m meth c D cA B cd nL mc ms ad0 K own bytes isI ret Y) {pc : Nat} {k : Nat} {n : Int} {rs : List Nat} {im : Int32} {wl : List Nat} {is : List am_E} {ls : am_L} {st : List Value} {hp : am_H} {nc ns : Nat} (h : am_step K I Tc cd mc ms Q (am_PW p l e R s m args below meth c Qf D cA B cd nL mc ms n0 ad0) ((pc, .iinc k n, rs, im, wl) :: is, ls, st, hp, nc, ns)) : (am_PW p l e R s m args below meth c Qf D cA B cd nL mc ms n0 ad0) ((pc, .iinc k n, rs, im, wl) :: is, ls, st, hp, nc, ns) := by
  intro ad H locs la hr
  obtain ⟨hx, hb, hml, hown, hisI, hTW, hK, hCU, hBs, hRc, hRf, hV⟩ := X
  have hok := hV _ _ hr.1.1
  obtain ⟨hd, hv⟩ := (Bool.and_eq_true _ _).mp hok
  obtain ⟨hdg, hpc⟩ := am_d_spec hd
  obtain ⟨hrs, him⟩ := of_decide_eq_true hv
  subst hrs
  dsimp only [am_step] at h
  split at h
  · rename_i x hg
    split at h
    · rename_i l2 hs
      obtain ⟨kk, hkk⟩ := List.getElem?_of_mem ((am_lp_mem (ad := ad) ls 0 (k, .int x)).mpr ⟨k, .int x, hg, by rw [Nat.zero_add]; rfl⟩)
      refine lv_iinc (v := x + im) hx hb hdg hr.2.2.2.2.has hkk (by rw [him]) (am_set_lt hr.2.2.2.2 hs) rfl (fun la2 h2 => ?_)
      have k := h ad H locs la2 (hr.lv (am_LV.st hr.2.2.2.2.2.2.2 hs h2))
      dsimp only at k
      rw [hpc] at k
      exact k
    · exact h.elim
  · exact h.elim
set_option maxHeartbeats 1000000 in
theorem am_s_iadd {p : Program} {l : Launch} {e : Env} {R : Room} {s : State} {m : MethodId} {args : Array Value} {below : List Frame} {meth : Method} {c : Code} {Qf : State → Prop} {D : va_G} {cA : Nat → ClassId} {B : Nat} {cd : List am_E} {nL mc ms n0 : Nat} {ad0 : Nat → Nat} {K : am_K} {I : am_I} {Tc : am_T} {Q : Option Value → am_H → Prop} {own : String} {bytes : ByteArray} {isI : Bool} {ret : Option FieldType} {Y : am_Y} (X : am_CX p R s m meth c D cA B cd nL mc ms ad0 K own bytes isI ret Y) {pc : Nat} {rs : List Nat} {im : Int32} {wl : List Nat} {is : List am_E} {ls : am_L} {st : List Value} {hp : am_H} {nc ns : Nat} (h : am_step K I Tc cd mc ms Q (am_PW p l e R s m args below meth c Qf D cA B cd nL mc ms n0 ad0) ((pc, .iadd, rs, im, wl) :: is, ls, st, hp, nc, ns)) : (am_PW p l e R s m args below meth c Qf D cA B cd nL mc ms n0 ad0) ((pc, .iadd, rs, im, wl) :: is, ls, st, hp, nc, ns) := by
  intro ad H locs la hr
  obtain ⟨hx, hb, hml, hown, hisI, hTW, hK, hCU, hBs, hRc, hRf, hV⟩ := X
  have hok := hV _ _ hr.1.1
  obtain ⟨hdg, hpc⟩ := am_d_spec hok
  dsimp only [am_step] at h
  split at h
  · have k := h ad H locs la hr.tl
    dsimp only at k
    rw [hpc] at k
    exact lv_iadd hx hb hdg k
  · exact h.elim
set_option maxHeartbeats 1000000 in
theorem am_s_isub {p : Program} {l : Launch} {e : Env} {R : Room} {s : State} {m : MethodId} {args : Array Value} {below : List Frame} {meth : Method} {c : Code} {Qf : State → Prop} {D : va_G} {cA : Nat → ClassId} {B : Nat} {cd : List am_E} {nL mc ms n0 : Nat} {ad0 : Nat → Nat} {K : am_K} {I : am_I} {Tc : am_T} {Q : Option Value → am_H → Prop} {own : String} {bytes : ByteArray} {isI : Bool} {ret : Option FieldType} {Y : am_Y} (X : am_CX p R s m meth c D cA B cd nL mc ms ad0 K own bytes isI ret Y) {pc : Nat} {rs : List Nat} {im : Int32} {wl : List Nat} {is : List am_E} {ls : am_L} {st : List Value} {hp : am_H} {nc ns : Nat} (h : am_step K I Tc cd mc ms Q (am_PW p l e R s m args below meth c Qf D cA B cd nL mc ms n0 ad0) ((pc, .isub, rs, im, wl) :: is, ls, st, hp, nc, ns)) : (am_PW p l e R s m args below meth c Qf D cA B cd nL mc ms n0 ad0) ((pc, .isub, rs, im, wl) :: is, ls, st, hp, nc, ns) := by
  intro ad H locs la hr
  obtain ⟨hx, hb, hml, hown, hisI, hTW, hK, hCU, hBs, hRc, hRf, hV⟩ := X
  have hok := hV _ _ hr.1.1
  obtain ⟨hdg, hpc⟩ := am_d_spec hok
  dsimp only [am_step] at h
  split at h
  · have k := h ad H locs la hr.tl
    dsimp only at k
    rw [hpc] at k
    exact lv_isub hx hb hdg k
  · exact h.elim
set_option maxHeartbeats 1000000 in
theorem am_s_imul {p : Program} {l : Launch} {e : Env} {R : Room} {s : State} {m : MethodId} {args : Array Value} {below : List Frame} {meth : Method} {c : Code} {Qf : State → Prop} {D : va_G} {cA : Nat → ClassId} {B : Nat} {cd : List am_E} {nL mc ms n0 : Nat} {ad0 : Nat → Nat} {K : am_K} {I : am_I} {Tc : am_T} {Q : Option Value → am_H → Prop} {own : String} {bytes : ByteArray} {isI : Bool} {ret : Option FieldType} {Y : am_Y} (X : am_CX p R s m meth c D cA B cd nL mc ms ad0 K own bytes isI ret Y) {pc : Nat} {rs : List Nat} {im : Int32} {wl : List Nat} {is : List am_E} {ls : am_L} {st : List Value} {hp : am_H} {nc ns : Nat} (h : am_step K I Tc cd mc ms Q (am_PW p l e R s m args below meth c Qf D cA B cd nL mc ms n0 ad0) ((pc, .imul, rs, im, wl) :: is, ls, st, hp, nc, ns)) : (am_PW p l e R s m args below meth c Qf D cA B cd nL mc ms n0 ad0) ((pc, .imul, rs, im, wl) :: is, ls, st, hp, nc, ns) := by
  intro ad H locs la hr
  obtain ⟨hx, hb, hml, hown, hisI, hTW, hK, hCU, hBs, hRc, hRf, hV⟩ := X
  have hok := hV _ _ hr.1.1
  obtain ⟨hdg, hpc⟩ := am_d_spec hok
  dsimp only [am_step] at h
  split at h
  · have k := h ad H locs la hr.tl
    dsimp only at k
    rw [hpc] at k
    exact lv_imul hx hb hdg k
  · exact h.elim
set_option maxHeartbeats 1000000 in
theorem am_s_iand {p : Program} {l : Launch} {e : Env} {R : Room} {s : State} {m : MethodId} {args : Array Value} {below : List Frame} {meth : Method} {c : Code} {Qf : State → Prop} {D : va_G} {cA : Nat → ClassId} {B : Nat} {cd : List am_E} {nL mc ms n0 : Nat} {ad0 : Nat → Nat} {K : am_K} {I : am_I} {Tc : am_T} {Q : Option Value → am_H → Prop} {own : String} {bytes : ByteArray} {isI : Bool} {ret : Option FieldType} {Y : am_Y} (X : am_CX p R s m meth c D cA B cd nL mc ms ad0 K own bytes isI ret Y) {pc : Nat} {rs : List Nat} {im : Int32} {wl : List Nat} {is : List am_E} {ls : am_L} {st : List Value} {hp : am_H} {nc ns : Nat} (h : am_step K I Tc cd mc ms Q (am_PW p l e R s m args below meth c Qf D cA B cd nL mc ms n0 ad0) ((pc, .iand, rs, im, wl) :: is, ls, st, hp, nc, ns)) : (am_PW p l e R s m args below meth c Qf D cA B cd nL mc ms n0 ad0) ((pc, .iand, rs, im, wl) :: is, ls, st, hp, nc, ns) := by
  intro ad H locs la hr
  obtain ⟨hx, hb, hml, hown, hisI, hTW, hK, hCU, hBs, hRc, hRf, hV⟩ := X
  have hok := hV _ _ hr.1.1
  obtain ⟨hdg, hpc⟩ := am_d_spec hok
  dsimp only [am_step] at h
  split at h
  · have k := h ad H locs la hr.tl
    dsimp only at k
    rw [hpc] at k
    exact lv_iand hx hb hdg k
  · exact h.elim
set_option maxHeartbeats 1000000 in
theorem am_s_ior {p : Program} {l : Launch} {e : Env} {R : Room} {s : State} {m : MethodId} {args : Array Value} {below : List Frame} {meth : Method} {c : Code} {Qf : State → Prop} {D : va_G} {cA : Nat → ClassId} {B : Nat} {cd : List am_E} {nL mc ms n0 : Nat} {ad0 : Nat → Nat} {K : am_K} {I : am_I} {Tc : am_T} {Q : Option Value → am_H → Prop} {own : String} {bytes : ByteArray} {isI : Bool} {ret : Option FieldType} {Y : am_Y} (X : am_CX p R s m meth c D cA B cd nL mc ms ad0 K own bytes isI ret Y) {pc : Nat} {rs : List Nat} {im : Int32} {wl : List Nat} {is : List am_E} {ls : am_L} {st : List Value} {hp : am_H} {nc ns : Nat} (h : am_step K I Tc cd mc ms Q (am_PW p l e R s m args below meth c Qf D cA B cd nL mc ms n0 ad0) ((pc, .ior, rs, im, wl) :: is, ls, st, hp, nc, ns)) : (am_PW p l e R s m args below meth c Qf D cA B cd nL mc ms n0 ad0) ((pc, .ior, rs, im, wl) :: is, ls, st, hp, nc, ns) := by
  intro ad H locs la hr
  obtain ⟨hx, hb, hml, hown, hisI, hTW, hK, hCU, hBs, hRc, hRf, hV⟩ := X
  have hok := hV _ _ hr.1.1
  obtain ⟨hdg, hpc⟩ := am_d_spec hok
  dsimp only [am_step] at h
  split at h
  · have k := h ad H locs la hr.tl
    dsimp only at k
    rw [hpc] at k
    exact lv_ior hx hb hdg k
  · exact h.elim
set_option maxHeartbeats 1000000 in
theorem am_s_ixor {p : Program} {l : Launch} {e : Env} {R : Room} {s : State} {m : MethodId} {args : Array Value} {below : List Frame} {meth : Method} {c : Code} {Qf : State → Prop} {D : va_G} {cA : Nat → ClassId} {B : Nat} {cd : List am_E} {nL mc ms n0 : Nat} {ad0 : Nat → Nat} {K : am_K} {I : am_I} {Tc : am_T} {Q : Option Value → am_H → Prop} {own : String} {bytes : ByteArray} {isI : Bool} {ret : Option FieldType} {Y : am_Y} (X : am_CX p R s m meth c D cA B cd nL mc ms ad0 K own bytes isI ret Y) {pc : Nat} {rs : List Nat} {im : Int32} {wl : List Nat} {is : List am_E} {ls : am_L} {st : List Value} {hp : am_H} {nc ns : Nat} (h : am_step K I Tc cd mc ms Q (am_PW p l e R s m args below meth c Qf D cA B cd nL mc ms n0 ad0) ((pc, .ixor, rs, im, wl) :: is, ls, st, hp, nc, ns)) : (am_PW p l e R s m args below meth c Qf D cA B cd nL mc ms n0 ad0) ((pc, .ixor, rs, im, wl) :: is, ls, st, hp, nc, ns) := by
  intro ad H locs la hr
  obtain ⟨hx, hb, hml, hown, hisI, hTW, hK, hCU, hBs, hRc, hRf, hV⟩ := X
  have hok := hV _ _ hr.1.1
  obtain ⟨hdg, hpc⟩ := am_d_spec hok
  dsimp only [am_step] at h
  split at h
  · have k := h ad H locs la hr.tl
    dsimp only at k
    rw [hpc] at k
    exact lv_ixor hx hb hdg k
  · exact h.elim
set_option maxHeartbeats 1000000 in
theorem am_s_ishl {p : Program} {l : Launch} {e : Env} {R : Room} {s : State} {m : MethodId} {args : Array Value} {below : List Frame} {meth : Method} {c : Code} {Qf : State → Prop} {D : va_G} {cA : Nat → ClassId} {B : Nat} {cd : List am_E} {nL mc ms n0 : Nat} {ad0 : Nat → Nat} {K : am_K} {I : am_I} {Tc : am_T} {Q : Option Value → am_H → Prop} {own : String} {bytes : ByteArray} {isI : Bool} {ret : Option FieldType} {Y : am_Y} (X : am_CX p R s m meth c D cA B cd nL mc ms ad0 K own bytes isI ret Y) {pc : Nat} {rs : List Nat} {im : Int32} {wl : List Nat} {is : List am_E} {ls : am_L} {st : List Value} {hp : am_H} {nc ns : Nat} (h : am_step K I Tc cd mc ms Q (am_PW p l e R s m args below meth c Qf D cA B cd nL mc ms n0 ad0) ((pc, .ishl, rs, im, wl) :: is, ls, st, hp, nc, ns)) : (am_PW p l e R s m args below meth c Qf D cA B cd nL mc ms n0 ad0) ((pc, .ishl, rs, im, wl) :: is, ls, st, hp, nc, ns) := by
  intro ad H locs la hr
  obtain ⟨hx, hb, hml, hown, hisI, hTW, hK, hCU, hBs, hRc, hRf, hV⟩ := X
  have hok := hV _ _ hr.1.1
  obtain ⟨hdg, hpc⟩ := am_d_spec hok
  dsimp only [am_step] at h
  split at h
  · have k := h ad H locs la hr.tl
    dsimp only at k
    rw [hpc] at k
    exact lv_ishl hx hb hdg k
  · exact h.elim
set_option maxHeartbeats 1000000 in
theorem am_s_ishr {p : Program} {l : Launch} {e : Env} {R : Room} {s : State} {m : MethodId} {args : Array Value} {below : List Frame} {meth : Method} {c : Code} {Qf : State → Prop} {D : va_G} {cA : Nat → ClassId} {B : Nat} {cd : List am_E} {nL mc ms n0 : Nat} {ad0 : Nat → Nat} {K : am_K} {I : am_I} {Tc : am_T} {Q : Option Value → am_H → Prop} {own : String} {bytes : ByteArray} {isI : Bool} {ret : Option FieldType} {Y : am_Y} (X : am_CX p R s m meth c D cA B cd nL mc ms ad0 K own bytes isI ret Y) {pc : Nat} {rs : List Nat} {im : Int32} {wl : List Nat} {is : List am_E} {ls : am_L} {st : List Value} {hp : am_H} {nc ns : Nat} (h : am_step K I Tc cd mc ms Q (am_PW p l e R s m args below meth c Qf D cA B cd nL mc ms n0 ad0) ((pc, .ishr, rs, im, wl) :: is, ls, st, hp, nc, ns)) : (am_PW p l e R s m args below meth c Qf D cA B cd nL mc ms n0 ad0) ((pc, .ishr, rs, im, wl) :: is, ls, st, hp, nc, ns) := by
  intro ad H locs la hr
  obtain ⟨hx, hb, hml, hown, hisI, hTW, hK, hCU, hBs, hRc, hRf, hV⟩ := X
  have hok := hV _ _ hr.1.1
  obtain ⟨hdg, hpc⟩ := am_d_spec hok
  dsimp only [am_step] at h
  split at h
  · have k := h ad H locs la hr.tl
    dsimp only at k
    rw [hpc] at k
    exact lv_ishr hx hb hdg k
  · exact h.elim
set_option maxHeartbeats 1000000 in
theorem am_s_iushr {p : Program} {l : Launch} {e : Env} {R : Room} {s : State} {m : MethodId} {args : Array Value} {below : List Frame} {meth : Method} {c : Code} {Qf : State → Prop} {D : va_G} {cA : Nat → ClassId} {B : Nat} {cd : List am_E} {nL mc ms n0 : Nat} {ad0 : Nat → Nat} {K : am_K} {I : am_I} {Tc : am_T} {Q : Option Value → am_H → Prop} {own : String} {bytes : ByteArray} {isI : Bool} {ret : Option FieldType} {Y : am_Y} (X : am_CX p R s m meth c D cA B cd nL mc ms ad0 K own bytes isI ret Y) {pc : Nat} {rs : List Nat} {im : Int32} {wl : List Nat} {is : List am_E} {ls : am_L} {st : List Value} {hp : am_H} {nc ns : Nat} (h : am_step K I Tc cd mc ms Q (am_PW p l e R s m args below meth c Qf D cA B cd nL mc ms n0 ad0) ((pc, .iushr, rs, im, wl) :: is, ls, st, hp, nc, ns)) : (am_PW p l e R s m args below meth c Qf D cA B cd nL mc ms n0 ad0) ((pc, .iushr, rs, im, wl) :: is, ls, st, hp, nc, ns) := by
  intro ad H locs la hr
  obtain ⟨hx, hb, hml, hown, hisI, hTW, hK, hCU, hBs, hRc, hRf, hV⟩ := X
  have hok := hV _ _ hr.1.1
  obtain ⟨hdg, hpc⟩ := am_d_spec hok
  dsimp only [am_step] at h
  split at h
  · have k := h ad H locs la hr.tl
    dsimp only at k
    rw [hpc] at k
    exact lv_iushr hx hb hdg rfl k
  · exact h.elim
set_option maxHeartbeats 1000000 in
theorem am_s_ineg {p : Program} {l : Launch} {e : Env} {R : Room} {s : State} {m : MethodId} {args : Array Value} {below : List Frame} {meth : Method} {c : Code} {Qf : State → Prop} {D : va_G} {cA : Nat → ClassId} {B : Nat} {cd : List am_E} {nL mc ms n0 : Nat} {ad0 : Nat → Nat} {K : am_K} {I : am_I} {Tc : am_T} {Q : Option Value → am_H → Prop} {own : String} {bytes : ByteArray} {isI : Bool} {ret : Option FieldType} {Y : am_Y} (X : am_CX p R s m meth c D cA B cd nL mc ms ad0 K own bytes isI ret Y) {pc : Nat} {rs : List Nat} {im : Int32} {wl : List Nat} {is : List am_E} {ls : am_L} {st : List Value} {hp : am_H} {nc ns : Nat} (h : am_step K I Tc cd mc ms Q (am_PW p l e R s m args below meth c Qf D cA B cd nL mc ms n0 ad0) ((pc, .ineg, rs, im, wl) :: is, ls, st, hp, nc, ns)) : (am_PW p l e R s m args below meth c Qf D cA B cd nL mc ms n0 ad0) ((pc, .ineg, rs, im, wl) :: is, ls, st, hp, nc, ns) := by
  intro ad H locs la hr
  obtain ⟨hx, hb, hml, hown, hisI, hTW, hK, hCU, hBs, hRc, hRf, hV⟩ := X
  have hok := hV _ _ hr.1.1
  obtain ⟨hdg, hpc⟩ := am_d_spec hok
  dsimp only [am_step] at h
  split at h
  · have k := h ad H locs la hr.tl
    dsimp only at k
    rw [hpc] at k
    exact lv_ineg hx hb hdg k
  · exact h.elim
set_option maxHeartbeats 1000000 in
theorem am_s_i2b {p : Program} {l : Launch} {e : Env} {R : Room} {s : State} {m : MethodId} {args : Array Value} {below : List Frame} {meth : Method} {c : Code} {Qf : State → Prop} {D : va_G} {cA : Nat → ClassId} {B : Nat} {cd : List am_E} {nL mc ms n0 : Nat} {ad0 : Nat → Nat} {K : am_K} {I : am_I} {Tc : am_T} {Q : Option Value → am_H → Prop} {own : String} {bytes : ByteArray} {isI : Bool} {ret : Option FieldType} {Y : am_Y} (X : am_CX p R s m meth c D cA B cd nL mc ms ad0 K own bytes isI ret Y) {pc : Nat} {rs : List Nat} {im : Int32} {wl : List Nat} {is : List am_E} {ls : am_L} {st : List Value} {hp : am_H} {nc ns : Nat} (h : am_step K I Tc cd mc ms Q (am_PW p l e R s m args below meth c Qf D cA B cd nL mc ms n0 ad0) ((pc, .i2b, rs, im, wl) :: is, ls, st, hp, nc, ns)) : (am_PW p l e R s m args below meth c Qf D cA B cd nL mc ms n0 ad0) ((pc, .i2b, rs, im, wl) :: is, ls, st, hp, nc, ns) := by
  intro ad H locs la hr
  obtain ⟨hx, hb, hml, hown, hisI, hTW, hK, hCU, hBs, hRc, hRf, hV⟩ := X
  have hok := hV _ _ hr.1.1
  obtain ⟨hdg, hpc⟩ := am_d_spec hok
  dsimp only [am_step] at h
  split at h
  · have k := h ad H locs la hr.tl
    dsimp only at k
    rw [hpc] at k
    exact lv_i2b hx hb hdg rfl k
  · exact h.elim
set_option maxHeartbeats 1000000 in
theorem am_s_i2c {p : Program} {l : Launch} {e : Env} {R : Room} {s : State} {m : MethodId} {args : Array Value} {below : List Frame} {meth : Method} {c : Code} {Qf : State → Prop} {D : va_G} {cA : Nat → ClassId} {B : Nat} {cd : List am_E} {nL mc ms n0 : Nat} {ad0 : Nat → Nat} {K : am_K} {I : am_I} {Tc : am_T} {Q : Option Value → am_H → Prop} {own : String} {bytes : ByteArray} {isI : Bool} {ret : Option FieldType} {Y : am_Y} (X : am_CX p R s m meth c D cA B cd nL mc ms ad0 K own bytes isI ret Y) {pc : Nat} {rs : List Nat} {im : Int32} {wl : List Nat} {is : List am_E} {ls : am_L} {st : List Value} {hp : am_H} {nc ns : Nat} (h : am_step K I Tc cd mc ms Q (am_PW p l e R s m args below meth c Qf D cA B cd nL mc ms n0 ad0) ((pc, .i2c, rs, im, wl) :: is, ls, st, hp, nc, ns)) : (am_PW p l e R s m args below meth c Qf D cA B cd nL mc ms n0 ad0) ((pc, .i2c, rs, im, wl) :: is, ls, st, hp, nc, ns) := by
  intro ad H locs la hr
  obtain ⟨hx, hb, hml, hown, hisI, hTW, hK, hCU, hBs, hRc, hRf, hV⟩ := X
  have hok := hV _ _ hr.1.1
  obtain ⟨hdg, hpc⟩ := am_d_spec hok
  dsimp only [am_step] at h
  split at h
  · have k := h ad H locs la hr.tl
    dsimp only at k
    rw [hpc] at k
    exact lv_i2c hx hb hdg rfl k
  · exact h.elim
set_option maxHeartbeats 1000000 in
theorem am_s_i2l {p : Program} {l : Launch} {e : Env} {R : Room} {s : State} {m : MethodId} {args : Array Value} {below : List Frame} {meth : Method} {c : Code} {Qf : State → Prop} {D : va_G} {cA : Nat → ClassId} {B : Nat} {cd : List am_E} {nL mc ms n0 : Nat} {ad0 : Nat → Nat} {K : am_K} {I : am_I} {Tc : am_T} {Q : Option Value → am_H → Prop} {own : String} {bytes : ByteArray} {isI : Bool} {ret : Option FieldType} {Y : am_Y} (X : am_CX p R s m meth c D cA B cd nL mc ms ad0 K own bytes isI ret Y) {pc : Nat} {rs : List Nat} {im : Int32} {wl : List Nat} {is : List am_E} {ls : am_L} {st : List Value} {hp : am_H} {nc ns : Nat} (h : am_step K I Tc cd mc ms Q (am_PW p l e R s m args below meth c Qf D cA B cd nL mc ms n0 ad0) ((pc, .i2l, rs, im, wl) :: is, ls, st, hp, nc, ns)) : (am_PW p l e R s m args below meth c Qf D cA B cd nL mc ms n0 ad0) ((pc, .i2l, rs, im, wl) :: is, ls, st, hp, nc, ns) := by
  intro ad H locs la hr
  obtain ⟨hx, hb, hml, hown, hisI, hTW, hK, hCU, hBs, hRc, hRf, hV⟩ := X
  have hok := hV _ _ hr.1.1
  obtain ⟨hdg, hpc⟩ := am_d_spec hok
  dsimp only [am_step] at h
  split at h
  · have k := h ad H locs la hr.tl
    dsimp only at k
    rw [hpc] at k
    exact lv_i2l hx hb hdg rfl k
  · exact h.elim
set_option maxHeartbeats 1000000 in
theorem am_s_ladd {p : Program} {l : Launch} {e : Env} {R : Room} {s : State} {m : MethodId} {args : Array Value} {below : List Frame} {meth : Method} {c : Code} {Qf : State → Prop} {D : va_G} {cA : Nat → ClassId} {B : Nat} {cd : List am_E} {nL mc ms n0 : Nat} {ad0 : Nat → Nat} {K : am_K} {I : am_I} {Tc : am_T} {Q : Option Value → am_H → Prop} {own : String} {bytes : ByteArray} {isI : Bool} {ret : Option FieldType} {Y : am_Y} (X : am_CX p R s m meth c D cA B cd nL mc ms ad0 K own bytes isI ret Y) {pc : Nat} {rs : List Nat} {im : Int32} {wl : List Nat} {is : List am_E} {ls : am_L} {st : List Value} {hp : am_H} {nc ns : Nat} (h : am_step K I Tc cd mc ms Q (am_PW p l e R s m args below meth c Qf D cA B cd nL mc ms n0 ad0) ((pc, .ladd, rs, im, wl) :: is, ls, st, hp, nc, ns)) : (am_PW p l e R s m args below meth c Qf D cA B cd nL mc ms n0 ad0) ((pc, .ladd, rs, im, wl) :: is, ls, st, hp, nc, ns) := by
  intro ad H locs la hr
  obtain ⟨hx, hb, hml, hown, hisI, hTW, hK, hCU, hBs, hRc, hRf, hV⟩ := X
  have hok := hV _ _ hr.1.1
  obtain ⟨hdg, hpc⟩ := am_d_spec hok
  dsimp only [am_step] at h
  split at h
  · have k := h ad H locs la hr.tl
    dsimp only at k
    rw [hpc] at k
    exact lv_ladd hx hb hdg k
  · exact h.elim
set_option maxHeartbeats 1000000 in
theorem am_s_lcmp {p : Program} {l : Launch} {e : Env} {R : Room} {s : State} {m : MethodId} {args : Array Value} {below : List Frame} {meth : Method} {c : Code} {Qf : State → Prop} {D : va_G} {cA : Nat → ClassId} {B : Nat} {cd : List am_E} {nL mc ms n0 : Nat} {ad0 : Nat → Nat} {K : am_K} {I : am_I} {Tc : am_T} {Q : Option Value → am_H → Prop} {own : String} {bytes : ByteArray} {isI : Bool} {ret : Option FieldType} {Y : am_Y} (X : am_CX p R s m meth c D cA B cd nL mc ms ad0 K own bytes isI ret Y) {pc : Nat} {rs : List Nat} {im : Int32} {wl : List Nat} {is : List am_E} {ls : am_L} {st : List Value} {hp : am_H} {nc ns : Nat} (h : am_step K I Tc cd mc ms Q (am_PW p l e R s m args below meth c Qf D cA B cd nL mc ms n0 ad0) ((pc, .lcmp, rs, im, wl) :: is, ls, st, hp, nc, ns)) : (am_PW p l e R s m args below meth c Qf D cA B cd nL mc ms n0 ad0) ((pc, .lcmp, rs, im, wl) :: is, ls, st, hp, nc, ns) := by
  intro ad H locs la hr
  obtain ⟨hx, hb, hml, hown, hisI, hTW, hK, hCU, hBs, hRc, hRf, hV⟩ := X
  have hok := hV _ _ hr.1.1
  obtain ⟨hdg, hpc⟩ := am_d_spec hok
  dsimp only [am_step] at h
  split at h
  · have k := h ad H locs la hr.tl
    dsimp only at k
    rw [hpc] at k
    exact W.lcmp hx hb hdg k
  · exact h.elim
set_option maxHeartbeats 1000000 in
theorem am_s_pop {p : Program} {l : Launch} {e : Env} {R : Room} {s : State} {m : MethodId} {args : Array Value} {below : List Frame} {meth : Method} {c : Code} {Qf : State → Prop} {D : va_G} {cA : Nat → ClassId} {B : Nat} {cd : List am_E} {nL mc ms n0 : Nat} {ad0 : Nat → Nat} {K : am_K} {I : am_I} {Tc : am_T} {Q : Option Value → am_H → Prop} {own : String} {bytes : ByteArray} {isI : Bool} {ret : Option FieldType} {Y : am_Y} (X : am_CX p R s m meth c D cA B cd nL mc ms ad0 K own bytes isI ret Y) {pc : Nat} {rs : List Nat} {im : Int32} {wl : List Nat} {is : List am_E} {ls : am_L} {st : List Value} {hp : am_H} {nc ns : Nat} (h : am_step K I Tc cd mc ms Q (am_PW p l e R s m args below meth c Qf D cA B cd nL mc ms n0 ad0) ((pc, .pop, rs, im, wl) :: is, ls, st, hp, nc, ns)) : (am_PW p l e R s m args below meth c Qf D cA B cd nL mc ms n0 ad0) ((pc, .pop, rs, im, wl) :: is, ls, st, hp, nc, ns) := by
  intro ad H locs la hr
  obtain ⟨hx, hb, hml, hown, hisI, hTW, hK, hCU, hBs, hRc, hRf, hV⟩ := X
  have hok := hV _ _ hr.1.1
  obtain ⟨hdg, hpc⟩ := am_d_spec hok
  dsimp only [am_step] at h
  split at h
  · have k := h ad H locs la hr.tl
    dsimp only at k
    rw [hpc] at k
    exact lv_pop hx hb hdg rfl k
  · exact h.elim
set_option maxHeartbeats 1000000 in
theorem am_s_dup2 {p : Program} {l : Launch} {e : Env} {R : Room} {s : State} {m : MethodId} {args : Array Value} {below : List Frame} {meth : Method} {c : Code} {Qf : State → Prop} {D : va_G} {cA : Nat → ClassId} {B : Nat} {cd : List am_E} {nL mc ms n0 : Nat} {ad0 : Nat → Nat} {K : am_K} {I : am_I} {Tc : am_T} {Q : Option Value → am_H → Prop} {own : String} {bytes : ByteArray} {isI : Bool} {ret : Option FieldType} {Y : am_Y} (X : am_CX p R s m meth c D cA B cd nL mc ms ad0 K own bytes isI ret Y) {pc : Nat} {rs : List Nat} {im : Int32} {wl : List Nat} {is : List am_E} {ls : am_L} {st : List Value} {hp : am_H} {nc ns : Nat} (h : am_step K I Tc cd mc ms Q (am_PW p l e R s m args below meth c Qf D cA B cd nL mc ms n0 ad0) ((pc, .dup2, rs, im, wl) :: is, ls, st, hp, nc, ns)) : (am_PW p l e R s m args below meth c Qf D cA B cd nL mc ms n0 ad0) ((pc, .dup2, rs, im, wl) :: is, ls, st, hp, nc, ns) := by
  intro ad H locs la hr
  obtain ⟨hx, hb, hml, hown, hisI, hTW, hK, hCU, hBs, hRc, hRf, hV⟩ := X
  have hok := hV _ _ hr.1.1
  obtain ⟨hdg, hpc⟩ := am_d_spec hok
  dsimp only [am_step] at h
  split at h
  · have k := h ad H locs la hr.tl
    dsimp only at k
    rw [hpc] at k
    exact lv_dup2_11 hx hb hdg rfl rfl k
  · exact h.elim
set_option maxHeartbeats 1000000 in
theorem am_s_dup {p : Program} {l : Launch} {e : Env} {R : Room} {s : State} {m : MethodId} {args : Array Value} {below : List Frame} {meth : Method} {c : Code} {Qf : State → Prop} {D : va_G} {cA : Nat → ClassId} {B : Nat} {cd : List am_E} {nL mc ms n0 : Nat} {ad0 : Nat → Nat} {K : am_K} {I : am_I} {Tc : am_T} {Q : Option Value → am_H → Prop} {own : String} {bytes : ByteArray} {isI : Bool} {ret : Option FieldType} {Y : am_Y} (X : am_CX p R s m meth c D cA B cd nL mc ms ad0 K own bytes isI ret Y) {pc : Nat} {rs : List Nat} {im : Int32} {wl : List Nat} {is : List am_E} {ls : am_L} {st : List Value} {hp : am_H} {nc ns : Nat} (h : am_step K I Tc cd mc ms Q (am_PW p l e R s m args below meth c Qf D cA B cd nL mc ms n0 ad0) ((pc, .dup, rs, im, wl) :: is, ls, st, hp, nc, ns)) : (am_PW p l e R s m args below meth c Qf D cA B cd nL mc ms n0 ad0) ((pc, .dup, rs, im, wl) :: is, ls, st, hp, nc, ns) := by
  intro ad H locs la hr
  obtain ⟨hx, hb, hml, hown, hisI, hTW, hK, hCU, hBs, hRc, hRf, hV⟩ := X
  have hok := hV _ _ hr.1.1
  obtain ⟨hdg, hpc⟩ := am_d_spec hok
  dsimp only [am_step] at h
  split at h
  · have k := h ad H locs la hr.tl
    dsimp only at k
    rw [hpc] at k
    exact lv_dup hx hb hdg rfl k
  · have k := h ad H locs la hr.tl
    dsimp only at k
    rw [hpc] at k
    exact lv_dup hx hb hdg rfl k
  · exact h.elim
set_option maxHeartbeats 1000000 in
theorem am_s_idiv {p : Program} {l : Launch} {e : Env} {R : Room} {s : State} {m : MethodId} {args : Array Value} {below : List Frame} {meth : Method} {c : Code} {Qf : State → Prop} {D : va_G} {cA : Nat → ClassId} {B : Nat} {cd : List am_E} {nL mc ms n0 : Nat} {ad0 : Nat → Nat} {K : am_K} {I : am_I} {Tc : am_T} {Q : Option Value → am_H → Prop} {own : String} {bytes : ByteArray} {isI : Bool} {ret : Option FieldType} {Y : am_Y} (X : am_CX p R s m meth c D cA B cd nL mc ms ad0 K own bytes isI ret Y) {pc : Nat} {rs : List Nat} {im : Int32} {wl : List Nat} {is : List am_E} {ls : am_L} {st : List Value} {hp : am_H} {nc ns : Nat} (h : am_step K I Tc cd mc ms Q (am_PW p l e R s m args below meth c Qf D cA B cd nL mc ms n0 ad0) ((pc, .idiv, rs, im, wl) :: is, ls, st, hp, nc, ns)) : (am_PW p l e R s m args below meth c Qf D cA B cd nL mc ms n0 ad0) ((pc, .idiv, rs, im, wl) :: is, ls, st, hp, nc, ns) := by
  intro ad H locs la hr
  obtain ⟨hx, hb, hml, hown, hisI, hTW, hK, hCU, hBs, hRc, hRf, hV⟩ := X
  have hok := hV _ _ hr.1.1
  obtain ⟨hdg, hpc⟩ := am_d_spec hok
  dsimp only [am_step] at h
  split at h
  · have k := h.2 ad H locs la hr.tl
    dsimp only at k
    rw [hpc] at k
    exact lv_idiv hx hb hdg h.1 k
  · exact h.elim
set_option maxHeartbeats 1000000 in
theorem am_s_irem {p : Program} {l : Launch} {e : Env} {R : Room} {s : State} {m : MethodId} {args : Array Value} {below : List Frame} {meth : Method} {c : Code} {Qf : State → Prop} {D : va_G} {cA : Nat → ClassId} {B : Nat} {cd : List am_E} {nL mc ms n0 : Nat} {ad0 : Nat → Nat} {K : am_K} {I : am_I} {Tc : am_T} {Q : Option Value → am_H → Prop} {own : String} {bytes : ByteArray} {isI : Bool} {ret : Option FieldType} {Y : am_Y} (X : am_CX p R s m meth c D cA B cd nL mc ms ad0 K own bytes isI ret Y) {pc : Nat} {rs : List Nat} {im : Int32} {wl : List Nat} {is : List am_E} {ls : am_L} {st : List Value} {hp : am_H} {nc ns : Nat} (h : am_step K I Tc cd mc ms Q (am_PW p l e R s m args below meth c Qf D cA B cd nL mc ms n0 ad0) ((pc, .irem, rs, im, wl) :: is, ls, st, hp, nc, ns)) : (am_PW p l e R s m args below meth c Qf D cA B cd nL mc ms n0 ad0) ((pc, .irem, rs, im, wl) :: is, ls, st, hp, nc, ns) := by
  intro ad H locs la hr
  obtain ⟨hx, hb, hml, hown, hisI, hTW, hK, hCU, hBs, hRc, hRf, hV⟩ := X
  have hok := hV _ _ hr.1.1
  obtain ⟨hdg, hpc⟩ := am_d_spec hok
  dsimp only [am_step] at h
  split at h
  · have k := h.2 ad H locs la hr.tl
    dsimp only at k
    rw [hpc] at k
    exact lv_irem hx hb hdg h.1 k
  · exact h.elim
set_option maxHeartbeats 1000000 in
theorem am_s_goto {p : Program} {l : Launch} {e : Env} {R : Room} {s : State} {m : MethodId} {args : Array Value} {below : List Frame} {meth : Method} {c : Code} {Qf : State → Prop} {D : va_G} {cA : Nat → ClassId} {B : Nat} {cd : List am_E} {nL mc ms n0 : Nat} {ad0 : Nat → Nat} {K : am_K} {I : am_I} {Tc : am_T} {Q : Option Value → am_H → Prop} {own : String} {bytes : ByteArray} {isI : Bool} {ret : Option FieldType} {Y : am_Y} (X : am_CX p R s m meth c D cA B cd nL mc ms ad0 K own bytes isI ret Y) {pc : Nat} {off : Int} {rs : List Nat} {im : Int32} {wl : List Nat} {is : List am_E} {ls : am_L} {st : List Value} {hp : am_H} {nc ns : Nat} (h : am_step K I Tc cd mc ms Q (am_PW p l e R s m args below meth c Qf D cA B cd nL mc ms n0 ad0) ((pc, .goto off, rs, im, wl) :: is, ls, st, hp, nc, ns)) : (am_PW p l e R s m args below meth c Qf D cA B cd nL mc ms n0 ad0) ((pc, .goto off, rs, im, wl) :: is, ls, st, hp, nc, ns) := by
  intro ad H locs la hr
  obtain ⟨hx, hb, hml, hown, hisI, hTW, hK, hCU, hBs, hRc, hRf, hV⟩ := X
  have hok := hV _ _ hr.1.1
  obtain ⟨hd, hv⟩ := (Bool.and_eq_true _ _).mp hok
  have hdg : decode bytes pc = .ok (.goto off, 3) := of_decide_eq_true hd
  dsimp only [am_step] at h
  split at h
  · rename_i t
    have k := h ad H locs la (hr.go (List.drop_suffix t cd))
    exact lv_goto hx hb hdg (am_j_spec hv) k
  · exact h.elim
set_option maxHeartbeats 1000000 in
theorem am_s_if_icmp {p : Program} {l : Launch} {e : Env} {R : Room} {s : State} {m : MethodId} {args : Array Value} {below : List Frame} {meth : Method} {c : Code} {Qf : State → Prop} {D : va_G} {cA : Nat → ClassId} {B : Nat} {cd : List am_E} {nL mc ms n0 : Nat} {ad0 : Nat → Nat} {K : am_K} {I : am_I} {Tc : am_T} {Q : Option Value → am_H → Prop} {own : String} {bytes : ByteArray} {isI : Bool} {ret : Option FieldType} {Y : am_Y} (X : am_CX p R s m meth c D cA B cd nL mc ms ad0 K own bytes isI ret Y) {pc : Nat} {cnd : Jvm.ClassFile.Cond} {off : Int} {rs : List Nat} {im : Int32} {wl : List Nat} {is : List am_E} {ls : am_L} {st : List Value} {hp : am_H} {nc ns : Nat} (h : am_step K I Tc cd mc ms Q (am_PW p l e R s m args below meth c Qf D cA B cd nL mc ms n0 ad0) ((pc, .if_icmp cnd off, rs, im, wl) :: is, ls, st, hp, nc, ns)) : (am_PW p l e R s m args below meth c Qf D cA B cd nL mc ms n0 ad0) ((pc, .if_icmp cnd off, rs, im, wl) :: is, ls, st, hp, nc, ns) := by
  intro ad H locs la hr
  obtain ⟨hx, hb, hml, hown, hisI, hTW, hK, hCU, hBs, hRc, hRf, hV⟩ := X
  have hok := hV _ _ hr.1.1
  obtain ⟨hd, hv⟩ := (Bool.and_eq_true _ _).mp hok
  obtain ⟨hdg, hpc⟩ := am_d_spec hd
  dsimp only [am_step] at h
  split at h
  · have ht := am_j_spec hv
    cases cnd
    · exact lv_icmp_eq hx hb hdg ht (fun cc => h.1 cc ad H locs la (hr.go (List.drop_suffix _ cd))) (fun cc => by
        have k := h.2 cc ad H locs la hr.tl
        dsimp only at k
        rw [hpc] at k
        exact k)
    · exact lv_icmp_ne hx hb hdg ht (fun cc => h.1 cc ad H locs la (hr.go (List.drop_suffix _ cd))) (fun cc => by
        have k := h.2 cc ad H locs la hr.tl
        dsimp only at k
        rw [hpc] at k
        exact k)
    · exact lv_icmp_lt hx hb hdg ht (fun cc => h.1 cc ad H locs la (hr.go (List.drop_suffix _ cd))) (fun cc => by
        have k := h.2 cc ad H locs la hr.tl
        dsimp only at k
        rw [hpc] at k
        exact k)
    · exact lv_icmp_ge hx hb hdg ht (fun cc => h.1 cc ad H locs la (hr.go (List.drop_suffix _ cd))) (fun cc => by
        have k := h.2 cc ad H locs la hr.tl
        dsimp only at k
        rw [hpc] at k
        exact k)
    · exact lv_icmp_gt hx hb hdg ht (fun cc => h.1 cc ad H locs la (hr.go (List.drop_suffix _ cd))) (fun cc => by
        have k := h.2 cc ad H locs la hr.tl
        dsimp only at k
        rw [hpc] at k
        exact k)
    · exact lv_icmp_le hx hb hdg ht (fun cc => h.1 cc ad H locs la (hr.go (List.drop_suffix _ cd))) (fun cc => by
        have k := h.2 cc ad H locs la hr.tl
        dsimp only at k
        rw [hpc] at k
        exact k)
  · exact h.elim
set_option maxHeartbeats 1000000 in
theorem am_s_ifCond {p : Program} {l : Launch} {e : Env} {R : Room} {s : State} {m : MethodId} {args : Array Value} {below : List Frame} {meth : Method} {c : Code} {Qf : State → Prop} {D : va_G} {cA : Nat → ClassId} {B : Nat} {cd : List am_E} {nL mc ms n0 : Nat} {ad0 : Nat → Nat} {K : am_K} {I : am_I} {Tc : am_T} {Q : Option Value → am_H → Prop} {own : String} {bytes : ByteArray} {isI : Bool} {ret : Option FieldType} {Y : am_Y} (X : am_CX p R s m meth c D cA B cd nL mc ms ad0 K own bytes isI ret Y) {pc : Nat} {cnd : Jvm.ClassFile.Cond} {off : Int} {rs : List Nat} {im : Int32} {wl : List Nat} {is : List am_E} {ls : am_L} {st : List Value} {hp : am_H} {nc ns : Nat} (h : am_step K I Tc cd mc ms Q (am_PW p l e R s m args below meth c Qf D cA B cd nL mc ms n0 ad0) ((pc, .ifCond cnd off, rs, im, wl) :: is, ls, st, hp, nc, ns)) : (am_PW p l e R s m args below meth c Qf D cA B cd nL mc ms n0 ad0) ((pc, .ifCond cnd off, rs, im, wl) :: is, ls, st, hp, nc, ns) := by
  intro ad H locs la hr
  obtain ⟨hx, hb, hml, hown, hisI, hTW, hK, hCU, hBs, hRc, hRf, hV⟩ := X
  have hok := hV _ _ hr.1.1
  obtain ⟨hd, hv⟩ := (Bool.and_eq_true _ _).mp hok
  obtain ⟨hdg, hpc⟩ := am_d_spec hd
  dsimp only [am_step] at h
  split at h
  · have ht := am_j_spec hv
    cases cnd
    · exact lv_if_eq hx hb hdg ht (fun cc => h.1 cc ad H locs la (hr.go (List.drop_suffix _ cd))) (fun cc => by
        have k := h.2 cc ad H locs la hr.tl
        dsimp only at k
        rw [hpc] at k
        exact k)
    · exact lv_if_ne hx hb hdg ht (fun cc => h.1 cc ad H locs la (hr.go (List.drop_suffix _ cd))) (fun cc => by
        have k := h.2 cc ad H locs la hr.tl
        dsimp only at k
        rw [hpc] at k
        exact k)
    · exact lv_if_lt hx hb hdg ht (fun cc => h.1 cc ad H locs la (hr.go (List.drop_suffix _ cd))) (fun cc => by
        have k := h.2 cc ad H locs la hr.tl
        dsimp only at k
        rw [hpc] at k
        exact k)
    · exact lv_if_ge hx hb hdg ht (fun cc => h.1 cc ad H locs la (hr.go (List.drop_suffix _ cd))) (fun cc => by
        have k := h.2 cc ad H locs la hr.tl
        dsimp only at k
        rw [hpc] at k
        exact k)
    · exact lv_if_gt hx hb hdg ht (fun cc => h.1 cc ad H locs la (hr.go (List.drop_suffix _ cd))) (fun cc => by
        have k := h.2 cc ad H locs la hr.tl
        dsimp only at k
        rw [hpc] at k
        exact k)
    · exact lv_if_le hx hb hdg ht (fun cc => h.1 cc ad H locs la (hr.go (List.drop_suffix _ cd))) (fun cc => by
        have k := h.2 cc ad H locs la hr.tl
        dsimp only at k
        rw [hpc] at k
        exact k)
  · exact h.elim
end
section
theorem am_ws0 : u_ws RX0 TX0 11 = ([419, 421, 423, 425, 427, 429, 431, 433, 435, 437, 439] : List Nat).filterMap (fun i => lw_tbl[i]?) := by decide +kernel
theorem am_ws1 : u_ws RX1 TX1 11 = ([327, 329, 331, 333, 335, 337, 339, 341, 343, 345, 347] : List Nat).filterMap (fun i => lw_tbl[i]?) := by decide +kernel
theorem am_ws2 : u_ws RX2 TX2 7 = ([382, 384, 386, 388, 390, 392, 394] : List Nat).filterMap (fun i => lw_tbl[i]?) := by decide +kernel
theorem am_ws3 : u_ws RX3 TX3 8 = ([153, 155, 157, 159, 161, 163, 165, 167] : List Nat).filterMap (fun i => lw_tbl[i]?) := by decide +kernel
theorem am_ws4 : u_ws RX4 TX4 7 = ([205, 207, 209, 211, 213, 201, 203] : List Nat).filterMap (fun i => lw_tbl[i]?) := by decide +kernel
theorem am_ws5 : u_ws RX5 TX5 4 = ([358, 360, 362, 364] : List Nat).filterMap (fun i => lw_tbl[i]?) := by decide +kernel
theorem am_ws6 : u_ws RX6 TX6 8 = ([231, 232, 233, 234, 235, 225, 227, 229] : List Nat).filterMap (fun i => lw_tbl[i]?) := by decide +kernel
theorem am_ws7 : u_ws RX8 TX8 2 = ([132, 134] : List Nat).filterMap (fun i => lw_tbl[i]?) := by decide +kernel
theorem am_ws8 : u_ws RX9 TX9 6 = ([252, 254, 256, 258, 260, 262] : List Nat).filterMap (fun i => lw_tbl[i]?) := by decide +kernel
theorem am_ws9 : u_ws RX10 TX10 8 = ([283, 284, 285, 286, 287, 277, 279, 281] : List Nat).filterMap (fun i => lw_tbl[i]?) := by decide +kernel
theorem am_ws10 : u_ws RX11 TX11 14 = ([457, 459, 461, 463, 465, 467, 469, 471, 473, 475, 477, 479, 481, 483] : List Nat).filterMap (fun i => lw_tbl[i]?) := by decide +kernel
theorem am_ws11 : u_ws RX12 TX12 63 = ([1256, 1258, 1260, 1262, 1264, 1266, 1268, 1270, 1272, 1274, 1276, 1278, 1280, 1282, 1284, 1286, 1288, 1290, 1292, 1294, 1296, 1298, 1300, 1302, 1304, 1306, 1308, 1310, 1312, 1314, 1316, 1318, 1320, 1322, 1324, 1326, 1328, 1330, 1332, 1334, 1336, 1338, 1340, 1342, 1344, 1346, 1348, 1350, 1352, 1354, 1356, 1358, 1360, 1362, 1364, 1366, 1368, 1370, 1372, 1374, 1376, 1378, 1380] : List Nat).filterMap (fun i => lw_tbl[i]?) := by decide +kernel
theorem am_ws_in {C : String} {T : u_T} {N : Nat} {ps : List Nat} (h : u_ws C T N = ps.filterMap (fun i => lw_tbl[i]?)) : ∀ w ∈ u_ws C T N, w ∈ lw_tbl := by
  intro w hw
  rw [h] at hw
  obtain ⟨i, -, hi⟩ := List.mem_filterMap.mp hw
  exact List.mem_of_getElem? hi
theorem am_ws_ok {C : String} {T : u_T} {N : Nat} : ∀ w ∈ u_ws C T N, am_okw w = true := by
  intro w hw
  obtain ⟨k, -, rfl⟩ := List.mem_map.mp hw
  unfold u_lay
  split <;> rfl
/-- what is known of a class -/
theorem am_cls {ci : Nat} {C : String} {T : u_T} {N : Nat} (h : vwCl[ci]? = some (C, T, N)) : ∃ ty0 : Nat → FieldType, (∀ k, k < N → parseFieldDescriptor (T k).2.2.1 = some (ty0 k)) ∧ (∀ a, a < N → ∀ b, b < N → a ≠ b → (T a).2.1 ≠ (T b).2.1) ∧ ∀ w ∈ u_ws C T N, w ∈ lw_tbl := by
  match ci, h with
  | 0, h => cases h; exact ⟨tyX0, tyX0_ok, nmX0, am_ws_in am_ws0⟩
  | 1, h => cases h; exact ⟨tyX1, tyX1_ok, nmX1, am_ws_in am_ws1⟩
  | 2, h => cases h; exact ⟨tyX2, tyX2_ok, nmX2, am_ws_in am_ws2⟩
  | 3, h => cases h; exact ⟨tyX3, tyX3_ok, nmX3, am_ws_in am_ws3⟩
  | 4, h => cases h; exact ⟨tyX4, tyX4_ok, nmX4, am_ws_in am_ws4⟩
  | 5, h => cases h; exact ⟨tyX5, tyX5_ok, nmX5, am_ws_in am_ws5⟩
  | 6, h => cases h; exact ⟨tyX6, tyX6_ok, nmX6, am_ws_in am_ws6⟩
  | 7, h => cases h; exact ⟨tyX8, tyX8_ok, nmX8, am_ws_in am_ws7⟩
  | 8, h => cases h; exact ⟨tyX9, tyX9_ok, nmX9, am_ws_in am_ws8⟩
  | 9, h => cases h; exact ⟨tyX10, tyX10_ok, nmX10, am_ws_in am_ws9⟩
  | 10, h => cases h; exact ⟨tyX11, tyX11_ok, nmX11, am_ws_in am_ws10⟩
  | 11, h => cases h; exact ⟨tyX12, tyX12_ok, nmX12, am_ws_in am_ws11⟩
  | n + 12, h => simp [vwCl] at h
theorem am_hts {s : State} (hTW : am_TW s) {ci : Nat} {C : String} {T : u_T} {N : Nat} (h : vwCl[ci]? = some (C, T, N)) (args : Array Value) : ∀ w ∈ u_ws C T N, w.before args s = true := fun w hw => hTW w ((am_cls h).choose_spec.2.2 w hw) (am_ws_ok w hw) args
/-- cells of a world that has changed in one place -/
theorem am_cw_set {cA : Nat → ClassId} {ad : Nat → Nat} {hp h2 : am_H} {k : Nat} {z z2 : am_S} {x : va_E} (hz : am_at hp.1 k = some z) (hs : ∀ i, h2.1[i]? = if i = k then some z2 else hp.1[i]?) (ho : ∀ (i : Nat) (y : am_S), i ≠ k → am_cell cA ad h2.2.1 h2.2.2 i y = am_cell cA ad hp.2.1 hp.2.2 i y) (hx : am_cell cA ad h2.2.1 h2.2.2 k z2 = x) : (am_cw cA ad hp).set k (ad k, x) = am_cw cA ad h2 := by
  have hk : k < hp.1.length := by
    rw [am_at_eq] at hz
    exact (List.getElem?_eq_some_iff.mp hz).1
  apply List.ext_getElem?
  intro i
  rw [List.getElem?_set]
  simp only [am_cw, List.getElem?_mapIdx, List.length_mapIdx]
  by_cases e : k = i
  · subst e
    simp [hk, hs, hx]
  · have e2 : ¬ i = k := fun q => e q.symm
    rw [if_neg e, hs i, if_neg e2]
    cases hp.1[i]? with
    | none => rfl
    | some y => simp [ho i y e2]
theorem am_cell_lt {cA : Nat → ClassId} {ad : Nat → Nat} {v : am_V} {w : am_X} {k kd n : Nat} {q : List (Option Nat)} (h : kd < 100) : am_cell cA ad v w k (kd, n, q) = .inr (kd, am_fs ad v k kd q) := if_pos h
theorem am_bne {a b : Nat} (h : ¬ a = b) : Nat.beq a b = false := by
  cases hh : Nat.beq a b with
  | false => rfl
  | true => exact absurd (Nat.eq_of_beq_eq_true hh) h
theorem am_beq (a : Nat) : Nat.beq a a = true := Nat.beq_refl a
theorem am_up_eq (v : am_V) (k j : Nat) (x : Int32) (a b : Nat) : am_up v k j x a b = if a = k ∧ b = j then x else v a b := by
  unfold am_up
  by_cases e : a = k
  · subst e
    by_cases f : b = j
    · subst f
      simp [am_beq]
    · simp [am_beq, am_bne f, f]
  · simp [am_bne e, e]
theorem am_upX_eq (v : am_X) (k j : Nat) (x : Int64) (a b : Nat) : am_upX v k j x a b = if a = k ∧ b = j then x else v a b := by
  unfold am_upX
  by_cases e : a = k
  · subst e
    by_cases f : b = j
    · subst f
      simp [am_beq]
    · simp [am_beq, am_bne f, f]
  · simp [am_bne e, e]
theorem am_up_same (v : am_V) (k j : Nat) (x : Int32) : am_up v k j x k = upd (v k) j x := by
  funext b
  rw [am_up_eq]
  unfold upd
  by_cases e : b = j
  · simp [e]
  · simp [e]
theorem am_up_ne (v : am_V) {k i : Nat} (j : Nat) (x : Int32) (h : i ≠ k) : am_up v k j x i = v i := by
  funext b
  rw [am_up_eq]
  simp [h]
theorem am_upX_same (v : am_X) (k j : Nat) (x : Int64) : am_upX v k j x k = vp_updL (v k) j x := by
  funext b
  rw [am_upX_eq]
  unfold vp_updL
  by_cases e : b = j
  · simp [e]
  · simp [e]
theorem am_upX_ne (v : am_X) {k i : Nat} (j : Nat) (x : Int64) (h : i ≠ k) : am_upX v k j x i = v i := by
  funext b
  rw [am_upX_eq]
  simp [h]
theorem am_cell_v {cA : Nat → ClassId} {ad : Nat → Nat} {v v2 : am_V} {w w2 : am_X} {k : Nat} (y : am_S) (hv : v2 k = v k) (hw : w2 k = w k) : am_cell cA ad v2 w2 k y = am_cell cA ad v w k y := by
  unfold am_cell am_fs am_fv
  rw [hv, hw]
theorem am_fs_set {ad : Nat → Nat} {v : am_V} {k ci j : Nat} {q : List (Option Nat)} {x : Int32} (hR : am_isR ci j = false) : am_fs ad (am_up v k j x) k ci q = (am_fs ad v k ci q).set j (.int x) := by
  apply List.ext_getElem?
  intro i
  rw [List.getElem?_set]
  simp only [am_fs, List.getElem?_map, List.length_map, List.length_range]
  by_cases e : j = i
  · subst e
    by_cases hj : j < am_nf ci
    · simp [hj, am_fv, hR, am_up_eq]
    · simp [hj]
  · rw [if_neg e]
    by_cases hi : i < am_nf ci
    · have e2 : ¬ i = j := fun q => e q.symm
      simp [hi, am_fv, am_up_eq, e2]
    · simp [hi]
theorem am_setR_at : ∀ (q : List (Option Nat)) (j : Nat) (x : Option Nat) (i : Nat), (am_setR q j x).getD i none = if i = j ∧ j < q.length then x else q.getD i none
  | [], j, x, i => by simp [am_setR]
  | a :: q, 0, x, i => by cases i <;> simp [am_setR]
  | a :: q, j + 1, x, i => by
    cases i with
    | zero => simp [am_setR]
    | succ i =>
      have := am_setR_at q j x i
      simp only [am_setR, List.getD_cons_succ, this, List.length_cons]
      by_cases e : i = j ∧ j < q.length
      · rw [if_pos e, if_pos ⟨by omega, by omega⟩]
      · rw [if_neg e, if_neg (fun h => e ⟨by omega, by omega⟩)]
theorem am_setS_at : ∀ (l : List am_S) (k : Nat) (z : am_S) (i : Nat), k < l.length → (am_setS l k z)[i]? = if i = k then some z else l[i]?
  | [], k, z, i, h => by simp at h
  | a :: l, 0, z, i, h => by cases i <;> simp [am_setS]
  | a :: l, k + 1, z, i, h => by
    cases i with
    | zero => simp [am_setS]
    | succ i =>
      have := am_setS_at l k z i (by simpa using h)
      simp only [am_setS, List.getElem?_cons_succ, this]
      by_cases e : i = k
      · simp [e]
      · simp [e]
theorem am_fs_setR {ad : Nat → Nat} {v : am_V} {k ci j a : Nat} {q : List (Option Nat)} (hR : am_isR ci j = true) (hj : j < q.length) : am_fs ad v k ci (am_setR q j (some a)) = (am_fs ad v k ci q).set j (.ref (ad a)) := by
  apply List.ext_getElem?
  intro i
  rw [List.getElem?_set]
  simp only [am_fs, List.getElem?_map, List.length_map, List.length_range]
  by_cases e : j = i
  · subst e
    by_cases hj2 : j < am_nf ci
    · rw [if_pos rfl, if_pos hj2, List.getElem?_range hj2]
      show some (am_fv ad v k ci (am_setR q j (some a)) j) = some (Value.ref (ad a))
      unfold am_fv
      rw [hR, am_setR_at, if_pos ⟨rfl, hj⟩]
      rfl
    · simp [hj2]
  · rw [if_neg e]
    by_cases hi : i < am_nf ci
    · have e2 : ¬ (i = j ∧ j < q.length) := fun q => e q.1.symm
      rw [List.getElem?_range hi]
      show some (am_fv ad v k ci (am_setR q j (some a)) i) = some (am_fv ad v k ci q i)
      unfold am_fv
      rw [am_setR_at, if_neg e2]
    · simp [hi]
theorem am_mem_in {k : Nat} : ∀ {l : List Nat}, am_mem k l = true → k ∈ l
  | [], h => by simp [am_mem] at h
  | a :: l, h => by
    unfold am_mem at h
    split at h
    · rename_i e
      rw [Nat.eq_of_beq_eq_true e]
      exact List.mem_cons_self
    · exact List.mem_cons_of_mem _ (am_mem_in h)
end
section
/-! ===== fields, arrays, constants, switches ===== -/
theorem am_blt {a b : Nat} (h : Nat.blt a b = true) : a < b := Nat.le_of_ble_eq_true h
def am_fty (f : Nat) (ty : FieldType) : Prop := match f with
  | 0 => ty = .int
  | 1 => ty = .boolean
  | _ => (∃ C, ty = .object C) ∨ ∃ t, ty = .array t
theorem am_nf_eq {ci : Nat} {C : String} {T : u_T} {N : Nat} (h : vwCl[ci]? = some (C, T, N)) : am_nf ci = N := by
  unfold am_nf
  rw [h]
theorem am_fok_spec {s : State} (hTW : am_TW s) (args : Array Value) {own : String} {idx j ci : Nat} {wl : List Nat} (h : am_fok own idx wl j ci = true) : ∃ (C : String) (T : u_T) (N : Nat), vwCl[ci]? = some (C, T, N) ∧ j < N ∧ ((∃ ref : String, (Cond.fieldLink own idx ref (T j).2.1 (T j).2.2.1).before args s = true ∧ ∀ x, s.fieldFound? (T j).1 (T j).2.1 (T j).2.2.1 = some x → s.fieldFound? ref (T j).2.1 (T j).2.2.1 = some x) ∨ (Cond.fieldLinkNest own idx (T j).1 (T j).2.1 (T j).2.2.1 "TwoKings").before args s = true) := by
  unfold am_fok at h
  split at h
  · rename_i C T N hc
    obtain ⟨h1, h2⟩ := (Bool.and_eq_true _ _).mp h
    refine ⟨C, T, N, hc, am_blt h1, ?_⟩
    split at h2
    · rcases (Bool.or_eq_true _ _).mp h2 with h3 | h3
      · exact Or.inl ⟨_, hTW.at (of_decide_eq_true h3) rfl args, fun _ h9 => h9⟩
      · exact Or.inr (hTW.at (of_decide_eq_true h3) rfl args)
    · obtain ⟨h3, h4⟩ := (Bool.and_eq_true _ _).mp h2
      exact Or.inl ⟨_, hTW.at (of_decide_eq_true h3) rfl args, fun x h9 => u_same (hTW.at (of_decide_eq_true h4) rfl args) x h9⟩
    · cases h2
  · cases h
theorem am_getf {p : Program} {l : Launch} {e : Env} {R : Room} {s : State} {m : MethodId} {args : Array Value} {below : List Frame} {meth : Method} {c : Code} {H : Heap} {locs : List Loc} {cells slots : Nat} {Q : State → Prop} {cc : ByteArray} {pc : Nat} {la : Array Slot} {rest : List Value} {D : va_G} {cA : Nat → ClassId} {ad : Nat → Nat} {hp : am_H} (hx : p.tables.exec = Jvm.exec) (hb : c.code = cc) {own : String} {idx j k kd n : Nat} {wl : List Nat} {q : List (Option Nat)} (hown : s.vm.findClass own = some m.cls) (hTW : am_TW s) (hK : va_K D vwCl (am_tys cA) s) (hP : va_P D vwCl (am_cw cA ad hp) H) (hok : am_fok own idx wl j kd = true) (hlt : kd < 100) (hat : am_at hp.1 k = some (kd, n, q)) {v : Value} (hv : am_fv ad hp.2.1 k kd q j = v) (hdg : decode cc pc = .ok (.getfield idx, 3))
    (kk : W p l e R s m args below meth c H locs cells slots Q (F0 m (pc + 3) la (v :: rest))) : W p l e R s m args below meth c H locs cells slots Q (F0 m pc la (.ref (ad k) :: rest)) := by
  obtain ⟨C, T, N, hc, hj, hl⟩ := am_fok_spec hTW args hok
  have he := am_cw_at (cA := cA) (ad := ad) hat
  rw [am_cell_lt hlt] at he
  have hfv : (am_fs ad hp.2.1 k kd q)[j]? = some v := by rw [am_fs_at (by rw [am_nf_eq hc]; exact hj), hv]
  rcases hl with ⟨ref, hl, hs⟩ | hl
  · exact va_get hx hb (am_hts hTW hc args) (fun _ h => h) hown hK hP k he hc j hj hl hs hfv hdg kk
  · exact va_getN hx hb (am_hts hTW hc args) (fun _ h => h) hown hK hP k he hc j hj hl (fun _ h => h) hfv hdg kk
theorem am_putf {p : Program} {l : Launch} {e : Env} {R : Room} {s : State} {m : MethodId} {args : Array Value} {below : List Frame} {meth : Method} {c : Code} {H : Heap} {locs : List Loc} {cells slots : Nat} {Q : State → Prop} {cc : ByteArray} {pc : Nat} {la : Array Slot} {rest : List Value} {D : va_G} {cA : Nat → ClassId} {ad : Nat → Nat} {hp : am_H} {B : Nat} {isI : Bool} (hx : p.tables.exec = Jvm.exec) (hb : c.code = cc) {own : String} {idx j k kd n f : Nat} {wl : List Nat} {q : List (Option Nat)} (hown : s.vm.findClass own = some m.cls) (hisI : isI = true → meth.name = "<init>") (hTW : am_TW s) (hK : va_K D vwCl (am_tys cA) s) (hP : va_P D vwCl (am_cw cA ad hp) H) (hD : va_D (fun a => B ≤ a) (am_cw cA ad hp)) (hS : va_S (fun a => B ≤ a) s.heap H locs) (hok : am_pok own isI idx wl j f kd = true) (hlt : kd < 100) (hat : am_at hp.1 k = some (kd, n, q)) {v : Value} (hv : ∀ ty : FieldType, am_fty f ty → narrow ty v = v ∧ fits ty v = true) (hdg : decode cc pc = .ok (.putfield idx, 3))
    (kk : ∀ (H1 : Heap) (locs1 : List Loc), va_P D vwCl ((am_cw cA ad hp).set k (ad k, .inr (kd, (am_fs ad hp.2.1 k kd q).set j v))) H1 → va_D (fun a => B ≤ a) ((am_cw cA ad hp).set k (ad k, .inr (kd, (am_fs ad hp.2.1 k kd q).set j v))) → va_S (fun a => B ≤ a) s.heap H1 locs1 → W p l e R s m args below meth c H1 locs1 cells slots Q (F0 m (pc + 3) la rest)) : W p l e R s m args below meth c H locs cells slots Q (F0 m pc la (v :: .ref (ad k) :: rest)) := by
  unfold am_pok at hok
  split at hok
  · rename_i C T N hc
    obtain ⟨h1, h2⟩ := (Bool.and_eq_true _ _).mp hok
    obtain ⟨h3, h4⟩ := (Bool.and_eq_true _ _).mp h2
    have hj : j < N := am_blt h1
    obtain ⟨ty0, hty, hnm, -⟩ := am_cls hc
    have he := am_cw_at (cA := cA) (ad := ad) hat
    rw [am_cell_lt hlt] at he
    have hpd := hty j hj
    have hvv : narrow (ty0 j) v = v ∧ fits (ty0 j) v = true := by
      apply hv
      split at h4
      · obtain ⟨h5, -⟩ := (Bool.and_eq_true _ _).mp h4
        rw [of_decide_eq_true h5] at hpd
        exact (Option.some.inj hpd).symm
      · obtain ⟨h5, -⟩ := (Bool.and_eq_true _ _).mp h4
        rw [of_decide_eq_true h5] at hpd
        exact (Option.some.inj hpd).symm
      · obtain ⟨h5, -⟩ := (Bool.and_eq_true _ _).mp h4
        unfold am_isRT at h5
        rw [hpd] at h5
        have h7 : (∃ C, ty0 j = .object C) ∨ ∃ t, ty0 j = .array t := by
          split at h5
          · rename_i h6
            exact Or.inl ⟨_, Option.some.inj h6⟩
          · rename_i h6
            exact Or.inr ⟨_, Option.some.inj h6⟩
          · cases h5
        unfold am_fty
        split
        · rename_i hn0 hn1
          exact absurd rfl hn0
        · rename_i hn0 hn1
          exact absurd rfl hn1
        · exact h7
    have hl : j < (am_fs ad hp.2.1 k kd q).length := by rw [am_fs_len, am_nf_eq hc]; exact hj
    split at h3
    · rename_i hfin
      obtain ⟨C', T', N', hc', -, hlk⟩ := am_fok_spec hTW args h3
      rw [hc] at hc'
      cases hc'
      rcases hlk with ⟨ref, hlk, hs⟩ | hlk
      · exact va_put hx hb (am_hts hTW hc args) (fun _ h => h) ty0 hty hnm hown hK hP hD hS k he hc j hj hlk hs hfin hpd hvv.1 hvv.2 hl hdg kk
      · exact va_putN hx hb (am_hts hTW hc args) (fun _ h => h) ty0 hty hnm hown hK hP hD hS k he hc j hj hlk (fun _ h => h) hfin hpd hvv.1 hvv.2 hl hdg kk
    · rename_i hfin
      obtain ⟨h5, h6⟩ := (Bool.and_eq_true _ _).mp h3
      obtain ⟨h7, h8⟩ := (Bool.and_eq_true _ _).mp h6
      split at h8
      · exact va_putF hx hb (am_hts hTW hc args) (fun _ h => h) ty0 hty hnm hown hK hP hD hS k he hc j hj (hTW.at (of_decide_eq_true h8) rfl args) (fun _ h => h) hfin (hisI h5) (of_decide_eq_true h7) hpd hvv.1 hvv.2 hl hdg kk
      · cases h8
  · cases hok
theorem am_Rel.wr {s : State} {D : va_G} {cA : Nat → ClassId} {B : Nat} {cd : List am_E} {nL mc ms n0 : Nat} {ad0 : Nat → Nat} {q : am_E} {is : List am_E} {ls : am_L} {st st2 : List Value} {hp h2 : am_H} {nc ns : Nat} {ad : Nat → Nat} {H H1 : Heap} {locs locs1 : List Loc} {la : Array Slot} (hr : am_Rel s D cA B cd nL mc ms n0 ad0 (q :: is, ls, st, hp, nc, ns) ad H locs la) (hl : h2.1.length = hp.1.length) (hP : va_P D vwCl (am_cw cA ad h2) H1) (hD : va_D (fun a => B ≤ a) (am_cw cA ad h2)) (hS : va_S (fun a => B ≤ a) s.heap H1 locs1) : am_Rel s D cA B cd nL mc ms n0 ad0 (is, ls, st2, h2, nc, ns) ad H1 locs1 la := ⟨⟨(List.suffix_cons _ _).trans hr.1.1, hr.1.2.1, hr.1.2.2.1, by show n0 ≤ h2.1.length; rw [hl]; exact hr.1.2.2.2.1, hr.1.2.2.2.2⟩, hP, hD, hS, hr.2.2.2.2⟩
theorem am_setS_len : ∀ (l : List am_S) (k : Nat) (z : am_S), (am_setS l k z).length = l.length
  | [], _, _ => rfl
  | _ :: _, 0, _ => rfl
  | _ :: l, k + 1, z => by simp [am_setS, am_setS_len l k z]
set_option maxHeartbeats 1000000 in
theorem am_s_getfield {p : Program} {l : Launch} {e : Env} {R : Room} {s : State} {m : MethodId} {args : Array Value} {below : List Frame} {meth : Method} {c : Code} {Qf : State → Prop} {D : va_G} {cA : Nat → ClassId} {B : Nat} {cd : List am_E} {nL mc ms n0 : Nat} {ad0 : Nat → Nat} {K : am_K} {I : am_I} {Tc : am_T} {Q : Option Value → am_H → Prop} {own : String} {bytes : ByteArray} {isI : Bool} {ret : Option FieldType} {Y : am_Y} (X : am_CX p R s m meth c D cA B cd nL mc ms ad0 K own bytes isI ret Y) {pc : Nat} {i : Nat} {rs : List Nat} {im : Int32} {wl : List Nat} {is : List am_E} {ls : am_L} {st : List Value} {hp : am_H} {nc ns : Nat} (h : am_step K I Tc cd mc ms Q (am_PW p l e R s m args below meth c Qf D cA B cd nL mc ms n0 ad0) ((pc, .getfield i, rs, im, wl) :: is, ls, st, hp, nc, ns)) : (am_PW p l e R s m args below meth c Qf D cA B cd nL mc ms n0 ad0) ((pc, .getfield i, rs, im, wl) :: is, ls, st, hp, nc, ns) := by
  intro ad H locs la hr
  obtain ⟨hx, hb, hml, hown, hisI, hTW, hK, hCU, hBs, hRc, hRf, hV⟩ := X
  have hok := hV _ _ hr.1.1
  obtain ⟨hd, hv⟩ := (Bool.and_eq_true _ _).mp hok
  obtain ⟨hdg, hpc⟩ := am_d_spec hd
  dsimp only [am_step] at h
  split at h
  · split at h
    · rename_i kd n q hat
      split at h
      · rename_i hm
        obtain ⟨hf, hf2⟩ := (Bool.and_eq_true _ _).mp (List.all_eq_true.mp hv kd (am_mem_in hm))
        obtain ⟨hlt, hR⟩ := (Bool.and_eq_true _ _).mp hf2
        split at h
        · have k := h ad H locs la hr.tl
          dsimp only at k
          rw [hpc] at k
          refine am_getf hx hb hown hTW hK hr.2.1 hf (am_blt hlt) hat ?_ hdg k
          unfold am_fv
          rw [show am_isR kd _ = false by simpa using hR]
          rfl
        · rename_i hne
          split at h
          · rename_i a hn
            have k := h ad H locs la hr.tl
            dsimp only at k
            rw [hpc] at k
            refine am_getf hx hb hown hTW hK hr.2.1 hf (am_blt hlt) hat ?_ hdg k
            unfold am_fv
            split at hR
            · exact absurd rfl hne
            · rw [hR]
              rw [am_nth_eq] at hn
              simp [hn, va_rf, am_v]
          · exact h.elim
      · exact h.elim
    · exact h.elim
  · exact h.elim
set_option maxHeartbeats 1000000 in
theorem am_s_putfield {p : Program} {l : Launch} {e : Env} {R : Room} {s : State} {m : MethodId} {args : Array Value} {below : List Frame} {meth : Method} {c : Code} {Qf : State → Prop} {D : va_G} {cA : Nat → ClassId} {B : Nat} {cd : List am_E} {nL mc ms n0 : Nat} {ad0 : Nat → Nat} {K : am_K} {I : am_I} {Tc : am_T} {Q : Option Value → am_H → Prop} {own : String} {bytes : ByteArray} {isI : Bool} {ret : Option FieldType} {Y : am_Y} (X : am_CX p R s m meth c D cA B cd nL mc ms ad0 K own bytes isI ret Y) {pc : Nat} {i : Nat} {rs : List Nat} {im : Int32} {wl : List Nat} {is : List am_E} {ls : am_L} {st : List Value} {hp : am_H} {nc ns : Nat} (h : am_step K I Tc cd mc ms Q (am_PW p l e R s m args below meth c Qf D cA B cd nL mc ms n0 ad0) ((pc, .putfield i, rs, im, wl) :: is, ls, st, hp, nc, ns)) : (am_PW p l e R s m args below meth c Qf D cA B cd nL mc ms n0 ad0) ((pc, .putfield i, rs, im, wl) :: is, ls, st, hp, nc, ns) := by
  intro ad H locs la hr
  obtain ⟨hx, hb, hml, hown, hisI, hTW, hK, hCU, hBs, hRc, hRf, hV⟩ := X
  have hok := hV _ _ hr.1.1
  obtain ⟨hd, hv⟩ := (Bool.and_eq_true _ _).mp hok
  obtain ⟨hdg, hpc⟩ := am_d_spec hd
  dsimp only [am_step] at h
  split at h
  · rename_i j f cs v k r
    split at h
    · rename_i kd n q hat
      split at h
      · rename_i hm
        obtain ⟨hf, hlt⟩ := (Bool.and_eq_true _ _).mp (List.all_eq_true.mp hv kd (am_mem_in hm))
        have hkl : k < hp.1.length := by
          rw [am_at_eq] at hat
          exact (List.getElem?_eq_some_iff.mp hat).1
        have hf0 := hf
        unfold am_pok at hf0
        split at hf0
        · rename_i C T N hc
          obtain ⟨-, h2⟩ := (Bool.and_eq_true _ _).mp hf0
          obtain ⟨-, h4⟩ := (Bool.and_eq_true _ _).mp h2
          split at h
          · rename_i x
            obtain ⟨-, hR⟩ := (Bool.and_eq_true _ _).mp h4
            refine am_putf hx hb hown hisI hTW hK hr.2.1 hr.2.2.1 hr.2.2.2.1 hf (am_blt hlt) hat (v := .int x) (fun ty hty => ?_) hdg (fun H1 locs1 hP hD hS => ?_)
            · cases hty
              exact ⟨rfl, rfl⟩
            · have e : (am_cw cA ad hp).set k (ad k, .inr (kd, (am_fs ad hp.2.1 k kd q).set j (.int x))) = am_cw cA ad (hp.1, am_up hp.2.1 k j x, hp.2.2) := am_cw_set hat (fun i => by
                  by_cases e : i = k
                  · rw [if_pos e, e, ← am_at_eq]; exact hat
                  · rw [if_neg e]) (fun i y hi => am_cell_v y (am_up_ne _ _ _ hi) rfl) (by rw [am_cell_lt (am_blt hlt), am_fs_set (by simpa using hR)])
              rw [e] at hP hD
              have k := h ad H1 locs1 la (hr.wr rfl hP hD hS)
              dsimp only at k
              rw [hpc] at k
              exact k
          · rename_i x
            obtain ⟨-, hR⟩ := (Bool.and_eq_true _ _).mp h4
            refine am_putf hx hb hown hisI hTW hK hr.2.1 hr.2.2.1 hr.2.2.2.1 hf (am_blt hlt) hat (v := .int x) (fun ty hty => ?_) hdg (fun H1 locs1 hP hD hS => ?_)
            · cases hty
              rcases h.1 with rfl | rfl
              · exact ⟨rfl, rfl⟩
              · exact ⟨rfl, rfl⟩
            · have e : (am_cw cA ad hp).set k (ad k, .inr (kd, (am_fs ad hp.2.1 k kd q).set j (.int x))) = am_cw cA ad (hp.1, am_up hp.2.1 k j x, hp.2.2) := am_cw_set hat (fun i => by
                  by_cases e : i = k
                  · rw [if_pos e, e, ← am_at_eq]; exact hat
                  · rw [if_neg e]) (fun i y hi => am_cell_v y (am_up_ne _ _ _ hi) rfl) (by rw [am_cell_lt (am_blt hlt), am_fs_set (by simpa using hR)])
              rw [e] at hP hD
              have k := h.2 ad H1 locs1 la (hr.wr rfl hP hD hS)
              dsimp only at k
              rw [hpc] at k
              exact k
          · rename_i a
            obtain ⟨-, hR⟩ := (Bool.and_eq_true _ _).mp h4
            split at h
            · rename_i hjl
              refine am_putf hx hb hown hisI hTW hK hr.2.1 hr.2.2.1 hr.2.2.2.1 hf (am_blt hlt) hat (v := .ref (ad a)) (fun ty hty => ?_) hdg (fun H1 locs1 hP hD hS => ?_)
              · rcases hty with ⟨C, rfl⟩ | ⟨t, rfl⟩
                · exact ⟨rfl, rfl⟩
                · exact ⟨rfl, rfl⟩
              · have e : (am_cw cA ad hp).set k (ad k, .inr (kd, (am_fs ad hp.2.1 k kd q).set j (.ref (ad a)))) = am_cw cA ad (am_setS hp.1 k (kd, n, am_setR q j (some a)), hp.2.1, hp.2.2) := am_cw_set hat (fun i => am_setS_at _ _ _ _ hkl) (fun i y hi => rfl) (by rw [am_cell_lt (am_blt hlt), am_fs_setR hR (am_blt hjl)])
                rw [e] at hP hD
                have k := h ad H1 locs1 la (hr.wr (am_setS_len _ _ _) hP hD hS)
                dsimp only at k
                rw [hpc] at k
                exact k
            · exact h.elim
          · exact h.elim
        · cases hf0
      · exact h.elim
    · exact h.elim
  · exact h.elim
end
section
/-! ===== arrays, constants, switches ===== -/
theorem am_cell_i {cA : Nat → ClassId} {ad : Nat → Nat} {v : am_V} {w : am_X} {k kd n : Nat} {q : List (Option Nat)} (h : kd = 100 ∨ kd = 101 ∨ kd = 102) : am_cell cA ad v w k (kd, n, q) = .inl (cA kd, n, .inl (v k)) := by
  rcases h with rfl | rfl | rfl <;> rfl
theorem am_cell_l {cA : Nat → ClassId} {ad : Nat → Nat} {v : am_V} {w : am_X} {k n : Nat} {q : List (Option Nat)} : am_cell cA ad v w k (103, n, q) = .inl (cA 103, n, .inr (.inl (w k))) := rfl
theorem am_cell_q {cA : Nat → ClassId} {ad : Nat → Nat} {v : am_V} {w : am_X} {k n : Nat} {q : List (Option Nat)} : am_cell cA ad v w k (104, n, q) = .inl (cA 104, n, .inr (.inr (.inr (.inr (fun j => (q.getD j none).map ad))))) := rfl
theorem am_setI {cA : Nat → ClassId} {ad : Nat → Nat} {hp : am_H} {k kd n j : Nat} {q : List (Option Nat)} {x : Int32} (hat : am_at hp.1 k = some (kd, n, q)) (h : kd = 100 ∨ kd = 101 ∨ kd = 102) : (am_cw cA ad hp).set k (ad k, .inl (cA kd, n, .inl (upd (hp.2.1 k) j x))) = am_cw cA ad (hp.1, am_up hp.2.1 k j x, hp.2.2) := am_cw_set hat (fun i => by
    by_cases e : i = k
    · rw [if_pos e, e, ← am_at_eq]; exact hat
    · rw [if_neg e]) (fun i y hi => am_cell_v y (am_up_ne _ _ _ hi) rfl) (by rw [am_cell_i h]; dsimp only; rw [am_up_same])
theorem am_setLo {cA : Nat → ClassId} {ad : Nat → Nat} {hp : am_H} {k n j : Nat} {q : List (Option Nat)} {x : Int64} (hat : am_at hp.1 k = some (103, n, q)) : (am_cw cA ad hp).set k (ad k, .inl (cA 103, n, .inr (.inl (vp_updL (hp.2.2 k) j x)))) = am_cw cA ad (hp.1, hp.2.1, am_upX hp.2.2 k j x) := am_cw_set hat (fun i => by
    by_cases e : i = k
    · rw [if_pos e, e, ← am_at_eq]; exact hat
    · rw [if_neg e]) (fun i y hi => am_cell_v y rfl (am_upX_ne _ _ _ hi)) (by rw [am_cell_l]; dsimp only; rw [am_upX_same])
theorem am_aald {p : Program} {l : Launch} {e : Env} {R : Room} {s : State} {m : MethodId} {args : Array Value} {below : List Frame} {meth : Method} {c : Code} {H : Heap} {locs : List Loc} {cells slots : Nat} {Q : State → Prop} {cc : ByteArray} {pc : Nat} {ls : Array Slot} {rest : List Value} {D : va_G} {cl : List vw_C} {a : Nat} {tys : List (ClassId × FieldType)} {ws : va_W} (hexec : p.tables.exec = Jvm.exec) (hb : c.code = cc) (hK : va_K D cl tys s) (hP : va_P D cl ws H) (q0 t0 : Nat) {cA : ClassId} {n : Nat} {f : Nat → Option Nat} (ha : ws[q0]? = some (a, .inl (cA, n, .inr (.inr (.inr (.inr f)))))) {ty : FieldType} (ht : tys[t0]? = some (cA, .array ty)) {i : Int32} (hin : vp_in i n) (hdg : decode cc pc = .ok (.aaload, 1))
    (kk : W p l e R s m args below meth c H locs cells slots Q (F0 m (pc + 1) ls (va_rf (f i.toNatClampNeg) :: rest))) : W p l e R s m args below meth c H locs cells slots Q (F0 m pc ls (.int i :: .ref a :: rest)) := by
  have hlt : i.toNatClampNeg < n := Nat.not_le.mp fun q => hin (Or.inr q)
  refine W.aald (v := va_rf (f i.toNatClampNeg)) (ty := .array ty) hexec hb (hP q0 _ ha) ((hK.2 t0 _ ht).1 n (fun j => va_rf (f j))) rfl (fun q => by cases q) (by show ¬ (i < 0 ∨ (arrV _ _ _).slots.size ≤ _); rw [arrV_size]; exact hin) (by show (arrV _ _ _).slots[_]? = _; rw [arrV_read _ _ hlt]) rfl rfl hdg kk
theorem am_tab_at {x : Int32} {f : Nat → Prop} : ∀ {ts : List Nat} {lo : Int32} {i t : Nat}, am_tab x f lo ts → ts[i]? = some t → x = lo + Int32.ofNat i → f t
  | [], _, _, _, _, h, _ => by simp at h
  | a :: ts, lo, 0, t, h, hi, hx => by
    cases hi
    exact h.1 (by rw [hx]; simp)
  | a :: ts, lo, i + 1, t, h, hi, hx => am_tab_at h.2 (by simpa using hi) (by rw [hx, Int32.ofNat_add, Int32.add_assoc, Int32.add_comm (Int32.ofNat i)]; rfl)
theorem am_tok_at {cd : List am_E} {pc : Nat} : ∀ {os : List Int} {ts : List Nat}, am_tok cd pc os ts = true → os.length = ts.length ∧ ∀ (i : Nat) (t : Nat), ts[i]? = some t → ∃ o, os[i]? = some o ∧ am_j cd pc o t = true
  | [], [], _ => ⟨rfl, fun i t h => by simp at h⟩
  | o :: os, t :: ts, h => by
    obtain ⟨h1, h2⟩ := (Bool.and_eq_true _ _).mp h
    obtain ⟨e, g⟩ := am_tok_at h2
    refine ⟨by simp [e], fun i t2 hi => ?_⟩
    cases i with
    | zero => cases hi; exact ⟨o, rfl, h1⟩
    | succ i => exact g i t2 (by simpa using hi)
  | [], _ :: _, h => by cases h
  | _ :: _, [], h => by cases h
theorem am_look_at {x : Int32} {f : Nat → Prop} {cd : List am_E} {pc d : Nat} {dflt : Int} (hd : am_j cd pc dflt d = true) : ∀ {ps : List (Int × Int)} {ts : List Nat}, am_lok cd pc ps ts = true → am_look x f d ts → ∃ (off : Int) (t : Nat), Op.lookupswitch.offset ps dflt x.toInt = off ∧ am_j cd pc off t = true ∧ f t
  | [], [], _, h => ⟨dflt, d, rfl, hd, h⟩
  | (k, o) :: ps, a :: t :: ts, hl, h => by
    obtain ⟨h1, h2⟩ := (Bool.and_eq_true _ _).mp hl
    obtain ⟨h3, h4⟩ := (Bool.and_eq_true _ _).mp h2
    have hk := of_decide_eq_true h1
    by_cases e : x = Int32.ofNat a
    · exact ⟨o, t, by rw [Op.lookupswitch.offset_cons, if_pos (by rw [e, hk])], h3, h.1 e⟩
    · obtain ⟨off, t2, g1, g2, g3⟩ := am_look_at hd h4 (h.2 e)
      exact ⟨off, t2, by rw [lv_osw e hk]; exact g1, g2, g3⟩
  | [], _ :: _, h, _ => by cases h
  | _ :: _, [], h, _ => by cases h
  | _ :: _, [_], h, _ => by cases h
set_option maxHeartbeats 1000000 in
theorem am_s_iaload {p : Program} {l : Launch} {e : Env} {R : Room} {s : State} {m : MethodId} {args : Array Value} {below : List Frame} {meth : Method} {c : Code} {Qf : State → Prop} {D : va_G} {cA : Nat → ClassId} {B : Nat} {cd : List am_E} {nL mc ms n0 : Nat} {ad0 : Nat → Nat} {K : am_K} {I : am_I} {Tc : am_T} {Q : Option Value → am_H → Prop} {own : String} {bytes : ByteArray} {isI : Bool} {ret : Option FieldType} {Y : am_Y} (X : am_CX p R s m meth c D cA B cd nL mc ms ad0 K own bytes isI ret Y) {pc : Nat} {rs : List Nat} {im : Int32} {wl : List Nat} {is : List am_E} {ls : am_L} {st : List Value} {hp : am_H} {nc ns : Nat} (h : am_step K I Tc cd mc ms Q (am_PW p l e R s m args below meth c Qf D cA B cd nL mc ms n0 ad0) ((pc, .iaload, rs, im, wl) :: is, ls, st, hp, nc, ns)) : (am_PW p l e R s m args below meth c Qf D cA B cd nL mc ms n0 ad0) ((pc, .iaload, rs, im, wl) :: is, ls, st, hp, nc, ns) := by
  intro ad H locs la hr
  obtain ⟨hx, hb, hml, hown, hisI, hTW, hK, hCU, hBs, hRc, hRf, hV⟩ := X
  have hok := hV _ _ hr.1.1
  obtain ⟨hdg, hpc⟩ := am_d_spec hok
  dsimp only [am_step] at h
  split at h
  · rename_i i k r
    split at h
    · rename_i n q hat
      have kk := h.2 ad H locs la hr.tl
      dsimp only at kk
      rw [hpc] at kk
      have he := am_cw_at (cA := cA) (ad := ad) hat
      exact va_iald hx hb hK hr.2.1 k 0 he rfl h.1 hdg kk
    · split at h
      · rename_i n f hk
        obtain ⟨h1, h2, h3⟩ := hCU.1 k n f hk
        have kk := h.2 ad H locs la hr.tl
        dsimp only at kk
        rw [hpc] at kk
        have e : ad k = ad0 k := hr.1.2.2.1 k (Or.inr h1)
        show W _ _ _ _ _ _ _ _ _ _ _ _ _ _ _ (F0 m pc la (.int i :: .ref (ad k) :: List.map (am_v ad) r))
        rw [e]
        exact va_sld hx hb h2 (Nat.lt_of_lt_of_le h3 hBs) (Nat.not_le.mpr h3) hr.2.2.2.1 h.1 hdg kk
      · exact h.elim
    · exact h.elim
  · exact h.elim
set_option maxHeartbeats 1000000 in
theorem am_s_baload {p : Program} {l : Launch} {e : Env} {R : Room} {s : State} {m : MethodId} {args : Array Value} {below : List Frame} {meth : Method} {c : Code} {Qf : State → Prop} {D : va_G} {cA : Nat → ClassId} {B : Nat} {cd : List am_E} {nL mc ms n0 : Nat} {ad0 : Nat → Nat} {K : am_K} {I : am_I} {Tc : am_T} {Q : Option Value → am_H → Prop} {own : String} {bytes : ByteArray} {isI : Bool} {ret : Option FieldType} {Y : am_Y} (X : am_CX p R s m meth c D cA B cd nL mc ms ad0 K own bytes isI ret Y) {pc : Nat} {rs : List Nat} {im : Int32} {wl : List Nat} {is : List am_E} {ls : am_L} {st : List Value} {hp : am_H} {nc ns : Nat} (h : am_step K I Tc cd mc ms Q (am_PW p l e R s m args below meth c Qf D cA B cd nL mc ms n0 ad0) ((pc, .baload, rs, im, wl) :: is, ls, st, hp, nc, ns)) : (am_PW p l e R s m args below meth c Qf D cA B cd nL mc ms n0 ad0) ((pc, .baload, rs, im, wl) :: is, ls, st, hp, nc, ns) := by
  intro ad H locs la hr
  obtain ⟨hx, hb, hml, hown, hisI, hTW, hK, hCU, hBs, hRc, hRf, hV⟩ := X
  have hok := hV _ _ hr.1.1
  obtain ⟨hdg, hpc⟩ := am_d_spec hok
  dsimp only [am_step] at h
  split at h
  · rename_i i k r
    split at h
    · rename_i n q hat
      have kk := h.2 ad H locs la hr.tl
      dsimp only at kk
      rw [hpc] at kk
      exact va_zald hx hb hK hr.2.1 k 1 (am_cw_at (cA := cA) (ad := ad) hat) rfl h.1 hdg kk
    · rename_i n q hat
      have kk := h.2 ad H locs la hr.tl
      dsimp only at kk
      rw [hpc] at kk
      exact va_bald hx hb hK hr.2.1 k 2 (am_cw_at (cA := cA) (ad := ad) hat) rfl h.1 hdg kk
    · exact h.elim
  · exact h.elim
set_option maxHeartbeats 1000000 in
theorem am_s_laload {p : Program} {l : Launch} {e : Env} {R : Room} {s : State} {m : MethodId} {args : Array Value} {below : List Frame} {meth : Method} {c : Code} {Qf : State → Prop} {D : va_G} {cA : Nat → ClassId} {B : Nat} {cd : List am_E} {nL mc ms n0 : Nat} {ad0 : Nat → Nat} {K : am_K} {I : am_I} {Tc : am_T} {Q : Option Value → am_H → Prop} {own : String} {bytes : ByteArray} {isI : Bool} {ret : Option FieldType} {Y : am_Y} (X : am_CX p R s m meth c D cA B cd nL mc ms ad0 K own bytes isI ret Y) {pc : Nat} {rs : List Nat} {im : Int32} {wl : List Nat} {is : List am_E} {ls : am_L} {st : List Value} {hp : am_H} {nc ns : Nat} (h : am_step K I Tc cd mc ms Q (am_PW p l e R s m args below meth c Qf D cA B cd nL mc ms n0 ad0) ((pc, .laload, rs, im, wl) :: is, ls, st, hp, nc, ns)) : (am_PW p l e R s m args below meth c Qf D cA B cd nL mc ms n0 ad0) ((pc, .laload, rs, im, wl) :: is, ls, st, hp, nc, ns) := by
  intro ad H locs la hr
  obtain ⟨hx, hb, hml, hown, hisI, hTW, hK, hCU, hBs, hRc, hRf, hV⟩ := X
  have hok := hV _ _ hr.1.1
  obtain ⟨hdg, hpc⟩ := am_d_spec hok
  dsimp only [am_step] at h
  split at h
  · rename_i i k r
    split at h
    · rename_i n q hat
      have kk := h.2 ad H locs la hr.tl
      dsimp only at kk
      rw [hpc] at kk
      exact va_lald hx hb hK hr.2.1 k 3 (am_cw_at (cA := cA) (ad := ad) hat) rfl h.1 hdg kk
    · exact h.elim
  · exact h.elim
set_option maxHeartbeats 1000000 in
theorem am_s_aaload {p : Program} {l : Launch} {e : Env} {R : Room} {s : State} {m : MethodId} {args : Array Value} {below : List Frame} {meth : Method} {c : Code} {Qf : State → Prop} {D : va_G} {cA : Nat → ClassId} {B : Nat} {cd : List am_E} {nL mc ms n0 : Nat} {ad0 : Nat → Nat} {K : am_K} {I : am_I} {Tc : am_T} {Q : Option Value → am_H → Prop} {own : String} {bytes : ByteArray} {isI : Bool} {ret : Option FieldType} {Y : am_Y} (X : am_CX p R s m meth c D cA B cd nL mc ms ad0 K own bytes isI ret Y) {pc : Nat} {rs : List Nat} {im : Int32} {wl : List Nat} {is : List am_E} {ls : am_L} {st : List Value} {hp : am_H} {nc ns : Nat} (h : am_step K I Tc cd mc ms Q (am_PW p l e R s m args below meth c Qf D cA B cd nL mc ms n0 ad0) ((pc, .aaload, rs, im, wl) :: is, ls, st, hp, nc, ns)) : (am_PW p l e R s m args below meth c Qf D cA B cd nL mc ms n0 ad0) ((pc, .aaload, rs, im, wl) :: is, ls, st, hp, nc, ns) := by
  intro ad H locs la hr
  obtain ⟨hx, hb, hml, hown, hisI, hTW, hK, hCU, hBs, hRc, hRf, hV⟩ := X
  have hok := hV _ _ hr.1.1
  obtain ⟨hdg, hpc⟩ := am_d_spec hok
  dsimp only [am_step] at h
  split at h
  · rename_i i k r
    split at h
    · rename_i n q hat
      obtain ⟨hin, h⟩ := h
      split at h
      · rename_i a hn
        have kk := h ad H locs la hr.tl
        dsimp only at kk
        rw [hpc] at kk
        refine am_aald hx hb hK hr.2.1 k 4 (am_cw_at (cA := cA) (ad := ad) hat) rfl hin hdg ?_
        rw [am_nth_eq] at hn
        rw [show va_rf ((fun j => (q.getD j none).map ad) i.toNatClampNeg) = .ref (ad a) by simp [hn, va_rf]]
        exact kk
      · exact h.elim
    · exact h.elim
  · exact h.elim
set_option maxHeartbeats 1000000 in
theorem am_s_iastore {p : Program} {l : Launch} {e : Env} {R : Room} {s : State} {m : MethodId} {args : Array Value} {below : List Frame} {meth : Method} {c : Code} {Qf : State → Prop} {D : va_G} {cA : Nat → ClassId} {B : Nat} {cd : List am_E} {nL mc ms n0 : Nat} {ad0 : Nat → Nat} {K : am_K} {I : am_I} {Tc : am_T} {Q : Option Value → am_H → Prop} {own : String} {bytes : ByteArray} {isI : Bool} {ret : Option FieldType} {Y : am_Y} (X : am_CX p R s m meth c D cA B cd nL mc ms ad0 K own bytes isI ret Y) {pc : Nat} {rs : List Nat} {im : Int32} {wl : List Nat} {is : List am_E} {ls : am_L} {st : List Value} {hp : am_H} {nc ns : Nat} (h : am_step K I Tc cd mc ms Q (am_PW p l e R s m args below meth c Qf D cA B cd nL mc ms n0 ad0) ((pc, .iastore, rs, im, wl) :: is, ls, st, hp, nc, ns)) : (am_PW p l e R s m args below meth c Qf D cA B cd nL mc ms n0 ad0) ((pc, .iastore, rs, im, wl) :: is, ls, st, hp, nc, ns) := by
  intro ad H locs la hr
  obtain ⟨hx, hb, hml, hown, hisI, hTW, hK, hCU, hBs, hRc, hRf, hV⟩ := X
  have hok := hV _ _ hr.1.1
  obtain ⟨hdg, hpc⟩ := am_d_spec hok
  dsimp only [am_step] at h
  split at h
  · rename_i x i k r
    split at h
    · rename_i n q hat
      refine va_iast hx hb hK hr.2.1 hr.2.2.1 hr.2.2.2.1 k 0 (am_cw_at (cA := cA) (ad := ad) hat) rfl h.1 hdg (fun H1 locs1 hP hD hS => ?_)
      rw [am_setI (cA := cA) (ad := ad) hat (Or.inl rfl)] at hP hD
      have kk := h.2 ad H1 locs1 la (hr.wr rfl hP hD hS)
      dsimp only at kk
      rw [hpc] at kk
      exact kk
    · exact h.elim
  · exact h.elim
set_option maxHeartbeats 1000000 in
theorem am_s_bastore {p : Program} {l : Launch} {e : Env} {R : Room} {s : State} {m : MethodId} {args : Array Value} {below : List Frame} {meth : Method} {c : Code} {Qf : State → Prop} {D : va_G} {cA : Nat → ClassId} {B : Nat} {cd : List am_E} {nL mc ms n0 : Nat} {ad0 : Nat → Nat} {K : am_K} {I : am_I} {Tc : am_T} {Q : Option Value → am_H → Prop} {own : String} {bytes : ByteArray} {isI : Bool} {ret : Option FieldType} {Y : am_Y} (X : am_CX p R s m meth c D cA B cd nL mc ms ad0 K own bytes isI ret Y) {pc : Nat} {rs : List Nat} {im : Int32} {wl : List Nat} {is : List am_E} {ls : am_L} {st : List Value} {hp : am_H} {nc ns : Nat} (h : am_step K I Tc cd mc ms Q (am_PW p l e R s m args below meth c Qf D cA B cd nL mc ms n0 ad0) ((pc, .bastore, rs, im, wl) :: is, ls, st, hp, nc, ns)) : (am_PW p l e R s m args below meth c Qf D cA B cd nL mc ms n0 ad0) ((pc, .bastore, rs, im, wl) :: is, ls, st, hp, nc, ns) := by
  intro ad H locs la hr
  obtain ⟨hx, hb, hml, hown, hisI, hTW, hK, hCU, hBs, hRc, hRf, hV⟩ := X
  have hok := hV _ _ hr.1.1
  obtain ⟨hdg, hpc⟩ := am_d_spec hok
  dsimp only [am_step] at h
  split at h
  · rename_i x i k r
    split at h
    · rename_i n q hat
      refine va_zast hx hb hK hr.2.1 hr.2.2.1 hr.2.2.2.1 k 1 (am_cw_at (cA := cA) (ad := ad) hat) rfl h.1 hdg (fun H1 locs1 hP hD hS => ?_)
      rw [am_setI (cA := cA) (ad := ad) hat (Or.inr (Or.inl rfl))] at hP hD
      have kk := h.2 ad H1 locs1 la (hr.wr rfl hP hD hS)
      dsimp only at kk
      rw [hpc] at kk
      exact kk
    · rename_i n q hat
      refine va_bast hx hb hK hr.2.1 hr.2.2.1 hr.2.2.2.1 k 2 (am_cw_at (cA := cA) (ad := ad) hat) rfl h.1 hdg (fun H1 locs1 hP hD hS => ?_)
      rw [am_setI (cA := cA) (ad := ad) hat (Or.inr (Or.inr rfl))] at hP hD
      have kk := h.2 ad H1 locs1 la (hr.wr rfl hP hD hS)
      dsimp only at kk
      rw [hpc] at kk
      exact kk
    · exact h.elim
  · exact h.elim
set_option maxHeartbeats 1000000 in
theorem am_s_lastore {p : Program} {l : Launch} {e : Env} {R : Room} {s : State} {m : MethodId} {args : Array Value} {below : List Frame} {meth : Method} {c : Code} {Qf : State → Prop} {D : va_G} {cA : Nat → ClassId} {B : Nat} {cd : List am_E} {nL mc ms n0 : Nat} {ad0 : Nat → Nat} {K : am_K} {I : am_I} {Tc : am_T} {Q : Option Value → am_H → Prop} {own : String} {bytes : ByteArray} {isI : Bool} {ret : Option FieldType} {Y : am_Y} (X : am_CX p R s m meth c D cA B cd nL mc ms ad0 K own bytes isI ret Y) {pc : Nat} {rs : List Nat} {im : Int32} {wl : List Nat} {is : List am_E} {ls : am_L} {st : List Value} {hp : am_H} {nc ns : Nat} (h : am_step K I Tc cd mc ms Q (am_PW p l e R s m args below meth c Qf D cA B cd nL mc ms n0 ad0) ((pc, .lastore, rs, im, wl) :: is, ls, st, hp, nc, ns)) : (am_PW p l e R s m args below meth c Qf D cA B cd nL mc ms n0 ad0) ((pc, .lastore, rs, im, wl) :: is, ls, st, hp, nc, ns) := by
  intro ad H locs la hr
  obtain ⟨hx, hb, hml, hown, hisI, hTW, hK, hCU, hBs, hRc, hRf, hV⟩ := X
  have hok := hV _ _ hr.1.1
  obtain ⟨hdg, hpc⟩ := am_d_spec hok
  dsimp only [am_step] at h
  split at h
  · rename_i x i k r
    split at h
    · rename_i n q hat
      refine va_last hx hb hK hr.2.1 hr.2.2.1 hr.2.2.2.1 k 3 (am_cw_at (cA := cA) (ad := ad) hat) rfl h.1 hdg (fun H1 locs1 hP hD hS => ?_)
      rw [am_setLo (cA := cA) (ad := ad) hat] at hP hD
      have kk := h.2 ad H1 locs1 la (hr.wr rfl hP hD hS)
      dsimp only at kk
      rw [hpc] at kk
      exact kk
    · exact h.elim
  · exact h.elim
set_option maxHeartbeats 1000000 in
theorem am_s_arraylength {p : Program} {l : Launch} {e : Env} {R : Room} {s : State} {m : MethodId} {args : Array Value} {below : List Frame} {meth : Method} {c : Code} {Qf : State → Prop} {D : va_G} {cA : Nat → ClassId} {B : Nat} {cd : List am_E} {nL mc ms n0 : Nat} {ad0 : Nat → Nat} {K : am_K} {I : am_I} {Tc : am_T} {Q : Option Value → am_H → Prop} {own : String} {bytes : ByteArray} {isI : Bool} {ret : Option FieldType} {Y : am_Y} (X : am_CX p R s m meth c D cA B cd nL mc ms ad0 K own bytes isI ret Y) {pc : Nat} {rs : List Nat} {im : Int32} {wl : List Nat} {is : List am_E} {ls : am_L} {st : List Value} {hp : am_H} {nc ns : Nat} (h : am_step K I Tc cd mc ms Q (am_PW p l e R s m args below meth c Qf D cA B cd nL mc ms n0 ad0) ((pc, .arraylength, rs, im, wl) :: is, ls, st, hp, nc, ns)) : (am_PW p l e R s m args below meth c Qf D cA B cd nL mc ms n0 ad0) ((pc, .arraylength, rs, im, wl) :: is, ls, st, hp, nc, ns) := by
  intro ad H locs la hr
  obtain ⟨hx, hb, hml, hown, hisI, hTW, hK, hCU, hBs, hRc, hRf, hV⟩ := X
  have hok := hV _ _ hr.1.1
  obtain ⟨hdg, hpc⟩ := am_d_spec hok
  dsimp only [am_step] at h
  split at h
  · rename_i k r
    split at h
    · rename_i n q hat
      have kk := h ad H locs la hr.tl
      dsimp only at kk
      rw [hpc] at kk
      exact va_alen hx hb hK hr.2.1 k 0 (am_cw_at (cA := cA) (ad := ad) hat) (ty := .int) rfl rfl hdg kk
    · rename_i n q hat
      have kk := h ad H locs la hr.tl
      dsimp only at kk
      rw [hpc] at kk
      exact va_alen hx hb hK hr.2.1 k 3 (am_cw_at (cA := cA) (ad := ad) hat) (ty := .long) rfl rfl hdg kk
    · split at h
      · rename_i n f hk
        obtain ⟨h1, h2, h3⟩ := hCU.1 k n f hk
        have kk := h ad H locs la hr.tl
        dsimp only at kk
        rw [hpc] at kk
        have e : ad k = ad0 k := hr.1.2.2.1 k (Or.inr h1)
        show W _ _ _ _ _ _ _ _ _ _ _ _ _ _ _ (F0 m pc la (.ref (ad k) :: List.map (am_v ad) r))
        rw [e]
        exact va_slen hx hb h2 (Nat.lt_of_lt_of_le h3 hBs) (Nat.not_le.mpr h3) hr.2.2.2.1 hdg kk
      · exact h.elim
    · exact h.elim
  · exact h.elim
set_option maxHeartbeats 1000000 in
theorem am_s_getstatic {p : Program} {l : Launch} {e : Env} {R : Room} {s : State} {m : MethodId} {args : Array Value} {below : List Frame} {meth : Method} {c : Code} {Qf : State → Prop} {D : va_G} {cA : Nat → ClassId} {B : Nat} {cd : List am_E} {nL mc ms n0 : Nat} {ad0 : Nat → Nat} {K : am_K} {I : am_I} {Tc : am_T} {Q : Option Value → am_H → Prop} {own : String} {bytes : ByteArray} {isI : Bool} {ret : Option FieldType} {Y : am_Y} (X : am_CX p R s m meth c D cA B cd nL mc ms ad0 K own bytes isI ret Y) {pc : Nat} {i : Nat} {rs : List Nat} {im : Int32} {wl : List Nat} {is : List am_E} {ls : am_L} {st : List Value} {hp : am_H} {nc ns : Nat} (h : am_step K I Tc cd mc ms Q (am_PW p l e R s m args below meth c Qf D cA B cd nL mc ms n0 ad0) ((pc, .getstatic i, rs, im, wl) :: is, ls, st, hp, nc, ns)) : (am_PW p l e R s m args below meth c Qf D cA B cd nL mc ms n0 ad0) ((pc, .getstatic i, rs, im, wl) :: is, ls, st, hp, nc, ns) := by
  intro ad H locs la hr
  obtain ⟨hx, hb, hml, hown, hisI, hTW, hK, hCU, hBs, hRc, hRf, hV⟩ := X
  have hok := hV _ _ hr.1.1
  obtain ⟨hd, hv⟩ := (Bool.and_eq_true _ _).mp hok
  obtain ⟨hdg, hpc⟩ := am_d_spec hd
  dsimp only [am_step] at h
  split at h
  · rename_i k
    split at hv
    · rename_i k2 wi he
      cases he
      obtain ⟨h1, h2⟩ := (Bool.and_eq_true _ _).mp hv
      have hk := of_decide_eq_true h1
      subst hk
      have kk := h ad H locs la hr.tl
      dsimp only at kk
      rw [hpc] at kk
      have e9 : ad 1001 = ad0 1001 := hr.1.2.2.1 1001 (Or.inr (by decide))
      have kk : W p l e R s m args below meth c H locs nc ns Qf (F0 m (pc + 3) la (.ref (ad 1001) :: List.map (am_v ad) st)) := kk
      rw [e9] at kk
      exact va_gets hx hb hCU.2.1 hr.2.2.2.1 hown (hTW.at (of_decide_eq_true h2) rfl args) (fun _ h => h) hdg kk
    · cases hv
  · exact h.elim
set_option maxHeartbeats 1000000 in
theorem am_s_ldc {p : Program} {l : Launch} {e : Env} {R : Room} {s : State} {m : MethodId} {args : Array Value} {below : List Frame} {meth : Method} {c : Code} {Qf : State → Prop} {D : va_G} {cA : Nat → ClassId} {B : Nat} {cd : List am_E} {nL mc ms n0 : Nat} {ad0 : Nat → Nat} {K : am_K} {I : am_I} {Tc : am_T} {Q : Option Value → am_H → Prop} {own : String} {bytes : ByteArray} {isI : Bool} {ret : Option FieldType} {Y : am_Y} (X : am_CX p R s m meth c D cA B cd nL mc ms ad0 K own bytes isI ret Y) {pc : Nat} {i : Nat} {rs : List Nat} {im : Int32} {wl : List Nat} {is : List am_E} {ls : am_L} {st : List Value} {hp : am_H} {nc ns : Nat} (h : am_step K I Tc cd mc ms Q (am_PW p l e R s m args below meth c Qf D cA B cd nL mc ms n0 ad0) ((pc, .ldc i, rs, im, wl) :: is, ls, st, hp, nc, ns)) : (am_PW p l e R s m args below meth c Qf D cA B cd nL mc ms n0 ad0) ((pc, .ldc i, rs, im, wl) :: is, ls, st, hp, nc, ns) := by
  intro ad H locs la hr
  obtain ⟨hx, hb, hml, hown, hisI, hTW, hK, hCU, hBs, hRc, hRf, hV⟩ := X
  have hok := hV _ _ hr.1.1
  obtain ⟨hd, hv⟩ := (Bool.and_eq_true _ _).mp hok
  obtain ⟨hdg, hpc⟩ := am_d_spec hd
  dsimp only [am_step] at h
  split at h
  · split at hv
    · have kk := h ad H locs la hr.tl
      dsimp only at kk
      rw [hpc] at kk
      exact lv_ldc hx hb hown (hTW.at (of_decide_eq_true hv) rfl args) hdg kk
    · rename_i he
      cases he
    · cases hv
  · rename_i k rs2
    split at hv
    · rename_i he
      cases he
    · rename_i k2 wi he
      cases he
      unfold am_sxok at hv
      split at hv
      · rename_i o j tx hw
        obtain ⟨h1, h2⟩ := (Bool.and_eq_true _ _).mp hv
        obtain ⟨rfl, rfl⟩ := of_decide_eq_true h1
        have hk := Nat.eq_of_beq_eq_true h2
        have kk := h ad H locs la hr.tl
        dsimp only at kk
        rw [hpc] at kk
        have e9 : ad k = ad0 k := hr.1.2.2.1 k (Or.inr (by omega))
        have kk : W p l e R s m args below meth c H locs nc ns Qf (F0 m (pc + 2) la (.ref (ad k) :: List.map (am_v ad) st)) := kk
        rw [e9] at kk
        have hZ := hCU.2.2 _ _ _ _ hw
        rw [show am_str wi = k from hk.symm] at hZ
        exact va_ldcS hx hb hown hZ hdg kk
      · cases hv
    · cases hv
set_option maxHeartbeats 1000000 in
theorem am_s_ldc_w {p : Program} {l : Launch} {e : Env} {R : Room} {s : State} {m : MethodId} {args : Array Value} {below : List Frame} {meth : Method} {c : Code} {Qf : State → Prop} {D : va_G} {cA : Nat → ClassId} {B : Nat} {cd : List am_E} {nL mc ms n0 : Nat} {ad0 : Nat → Nat} {K : am_K} {I : am_I} {Tc : am_T} {Q : Option Value → am_H → Prop} {own : String} {bytes : ByteArray} {isI : Bool} {ret : Option FieldType} {Y : am_Y} (X : am_CX p R s m meth c D cA B cd nL mc ms ad0 K own bytes isI ret Y) {pc : Nat} {i : Nat} {rs : List Nat} {im : Int32} {wl : List Nat} {is : List am_E} {ls : am_L} {st : List Value} {hp : am_H} {nc ns : Nat} (h : am_step K I Tc cd mc ms Q (am_PW p l e R s m args below meth c Qf D cA B cd nL mc ms n0 ad0) ((pc, .ldc_w i, rs, im, wl) :: is, ls, st, hp, nc, ns)) : (am_PW p l e R s m args below meth c Qf D cA B cd nL mc ms n0 ad0) ((pc, .ldc_w i, rs, im, wl) :: is, ls, st, hp, nc, ns) := by
  intro ad H locs la hr
  obtain ⟨hx, hb, hml, hown, hisI, hTW, hK, hCU, hBs, hRc, hRf, hV⟩ := X
  have hok := hV _ _ hr.1.1
  obtain ⟨hd, hv⟩ := (Bool.and_eq_true _ _).mp hok
  obtain ⟨hdg, hpc⟩ := am_d_spec hd
  split at hv
  · have kk := h ad H locs la hr.tl
    dsimp only at kk
    rw [hpc] at kk
    exact lv_ldcw hx hb hown (hTW.at (of_decide_eq_true hv) rfl args) hdg kk
  · cases hv
set_option maxHeartbeats 1000000 in
theorem am_s_ldc2_w {p : Program} {l : Launch} {e : Env} {R : Room} {s : State} {m : MethodId} {args : Array Value} {below : List Frame} {meth : Method} {c : Code} {Qf : State → Prop} {D : va_G} {cA : Nat → ClassId} {B : Nat} {cd : List am_E} {nL mc ms n0 : Nat} {ad0 : Nat → Nat} {K : am_K} {I : am_I} {Tc : am_T} {Q : Option Value → am_H → Prop} {own : String} {bytes : ByteArray} {isI : Bool} {ret : Option FieldType} {Y : am_Y} (X : am_CX p R s m meth c D cA B cd nL mc ms ad0 K own bytes isI ret Y) {pc : Nat} {i : Nat} {rs : List Nat} {im : Int32} {wl : List Nat} {is : List am_E} {ls : am_L} {st : List Value} {hp : am_H} {nc ns : Nat} (h : am_step K I Tc cd mc ms Q (am_PW p l e R s m args below meth c Qf D cA B cd nL mc ms n0 ad0) ((pc, .ldc2_w i, rs, im, wl) :: is, ls, st, hp, nc, ns)) : (am_PW p l e R s m args below meth c Qf D cA B cd nL mc ms n0 ad0) ((pc, .ldc2_w i, rs, im, wl) :: is, ls, st, hp, nc, ns) := by
  intro ad H locs la hr
  obtain ⟨hx, hb, hml, hown, hisI, hTW, hK, hCU, hBs, hRc, hRf, hV⟩ := X
  have hok := hV _ _ hr.1.1
  obtain ⟨hd, hv⟩ := (Bool.and_eq_true _ _).mp hok
  obtain ⟨hdg, hpc⟩ := am_d_spec hd
  split at hv
  · have kk := h ad H locs la hr.tl
    dsimp only at kk
    rw [hpc] at kk
    exact lv_ldc2 hx hb hown (hTW.at (of_decide_eq_true hv) rfl args) hdg kk
  · cases hv
set_option maxHeartbeats 1000000 in
theorem am_s_lookupswitch {p : Program} {l : Launch} {e : Env} {R : Room} {s : State} {m : MethodId} {args : Array Value} {below : List Frame} {meth : Method} {c : Code} {Qf : State → Prop} {D : va_G} {cA : Nat → ClassId} {B : Nat} {cd : List am_E} {nL mc ms n0 : Nat} {ad0 : Nat → Nat} {K : am_K} {I : am_I} {Tc : am_T} {Q : Option Value → am_H → Prop} {own : String} {bytes : ByteArray} {isI : Bool} {ret : Option FieldType} {Y : am_Y} (X : am_CX p R s m meth c D cA B cd nL mc ms ad0 K own bytes isI ret Y) {pc : Nat} {dflt : Int} {ps : Array (Int × Int)} {rs : List Nat} {im : Int32} {wl : List Nat} {is : List am_E} {ls : am_L} {st : List Value} {hp : am_H} {nc ns : Nat} (h : am_step K I Tc cd mc ms Q (am_PW p l e R s m args below meth c Qf D cA B cd nL mc ms n0 ad0) ((pc, .lookupswitch dflt ps, rs, im, wl) :: is, ls, st, hp, nc, ns)) : (am_PW p l e R s m args below meth c Qf D cA B cd nL mc ms n0 ad0) ((pc, .lookupswitch dflt ps, rs, im, wl) :: is, ls, st, hp, nc, ns) := by
  intro ad H locs la hr
  obtain ⟨hx, hb, hml, hown, hisI, hTW, hK, hCU, hBs, hRc, hRf, hV⟩ := X
  have hok := hV _ _ hr.1.1
  obtain ⟨hd, hv⟩ := (Bool.and_eq_true _ _).mp hok
  dsimp only [am_step] at h
  split at hd
  · rename_i i9 len hdc
    have hi9 := of_decide_eq_true hd
    subst hi9
    split at h
    · rename_i d ts x r
      obtain ⟨h1, h2⟩ := (Bool.and_eq_true _ _).mp hv
      obtain ⟨h3, h4⟩ := (Bool.and_eq_true _ _).mp h2
      obtain ⟨off, t, g1, g2, g3⟩ := am_look_at h1 h3 h
      have kk := g3 ad H locs la (hr.go (List.drop_suffix t cd))
      exact lv_lookup hx hb hdc h4 g1 (am_j_spec g2) kk
    · exact h.elim
  · cases hd
set_option maxHeartbeats 1000000 in
theorem am_s_tableswitch {p : Program} {l : Launch} {e : Env} {R : Room} {s : State} {m : MethodId} {args : Array Value} {below : List Frame} {meth : Method} {c : Code} {Qf : State → Prop} {D : va_G} {cA : Nat → ClassId} {B : Nat} {cd : List am_E} {nL mc ms n0 : Nat} {ad0 : Nat → Nat} {K : am_K} {I : am_I} {Tc : am_T} {Q : Option Value → am_H → Prop} {own : String} {bytes : ByteArray} {isI : Bool} {ret : Option FieldType} {Y : am_Y} (X : am_CX p R s m meth c D cA B cd nL mc ms ad0 K own bytes isI ret Y) {pc : Nat} {dflt lo hi : Int} {offs : Array Int} {rs : List Nat} {im : Int32} {wl : List Nat} {is : List am_E} {ls : am_L} {st : List Value} {hp : am_H} {nc ns : Nat} (h : am_step K I Tc cd mc ms Q (am_PW p l e R s m args below meth c Qf D cA B cd nL mc ms n0 ad0) ((pc, .tableswitch dflt lo hi offs, rs, im, wl) :: is, ls, st, hp, nc, ns)) : (am_PW p l e R s m args below meth c Qf D cA B cd nL mc ms n0 ad0) ((pc, .tableswitch dflt lo hi offs, rs, im, wl) :: is, ls, st, hp, nc, ns) := by
  intro ad H locs la hr
  obtain ⟨hx, hb, hml, hown, hisI, hTW, hK, hCU, hBs, hRc, hRf, hV⟩ := X
  have hok := hV _ _ hr.1.1
  obtain ⟨hd, hv⟩ := (Bool.and_eq_true _ _).mp hok
  dsimp only [am_step] at h
  split at hd
  · rename_i i9 len hdc
    have hi9 := of_decide_eq_true hd
    subst hi9
    split at h
    · rename_i d ts x r
      obtain ⟨h1, h2⟩ := (Bool.and_eq_true _ _).mp hv
      obtain ⟨h3, h4⟩ := (Bool.and_eq_true _ _).mp h2
      obtain ⟨hlo, hhi, hlo0, hhi0⟩ := of_decide_eq_true h4
      obtain ⟨hlen, hat⟩ := am_tok_at h3
      have hL : ts.length < 1001 := by omega
      have hsum : (im + Int32.ofNat ts.length).toInt = lo + (ts.length : Int) := by
        rw [Int32.toInt_add, hlo, Int32.toInt_ofNat_of_lt (by omega)]
        rw [Int.bmod_eq_of_le] <;> omega
      by_cases ho : x.toInt < lo ∨ hi < x.toInt
      · have kk := h.2 (by
          rcases ho with ho | ho
          · exact Or.inl (Int32.lt_iff_toInt_lt.mpr (by rw [hlo]; exact ho))
          · exact Or.inr (Int32.le_iff_toInt_le.mpr (by rw [hsum]; omega))) ad H locs la (hr.go (List.drop_suffix d cd))
        exact lv_tableOut hx hb hdc ho (am_j_spec h1) kk
      · have ho1 : ¬ x.toInt < lo := fun q => ho (Or.inl q)
        have ho2 : ¬ hi < x.toInt := fun q => ho (Or.inr q)
        have hidx : (x.toInt - lo).toNat < ts.length := by omega
        obtain ⟨t, ht⟩ : ∃ t, ts[(x.toInt - lo).toNat]? = some t := ⟨_, List.getElem?_eq_getElem hidx⟩
        obtain ⟨o, ho3, ho4⟩ := hat _ _ ht
        have hxe : x = im + Int32.ofNat (x.toInt - lo).toNat := by
          apply Int32.toInt_inj.mp
          rw [Int32.toInt_add, hlo, Int32.toInt_ofNat_of_lt (by omega), Int.bmod_eq_of_le] <;> omega
        have kk := am_tab_at h.1 ht hxe ad H locs la (hr.go (List.drop_suffix t cd))
        exact lv_tableIn hx hb hdc ho1 ho2 (by rw [← Array.getElem?_toList]; exact ho3) (am_j_spec ho4) kk
    · exact h.elim
  · cases hd
end
section
/-! ===== calls ===== -/
def am_rm (d mc ms : Nat) : Room := { frames := d + 8, cells := mc, slots := ms, locals := 60 * d + 400 }
def am_Pc (D : va_G) (cA : Nat → ClassId) (B : Nat) (K : am_K) (ad : Nat → Nat) (as : List Value) (hp : am_H) : Array Value → State → Prop := va_Pc (as.map (am_v ad)) (fun U => B ≤ U.heap.size ∧ am_TW U ∧ va_K D vwCl (am_tys cA) U ∧ am_CU K ad B U U.heap ∧ va_P D vwCl (am_cw cA ad hp) U.heap ∧ va_D (fun a => B ≤ a) (am_cw cA ad hp))
def am_Qc (D : va_G) (cA : Nat → ClassId) (B : Nat) (ad : Nat → Nat) (hp : am_H) (mc : Nat) (Q : Option Value → am_H → Prop) : Array Value → State → Outcome → State → Prop := fun _ st oc t => (∃ (o : Option Value) (h2 : am_H) (ad2 : Nat → Nat), oc = .returned (o.map (am_v ad2)) ∧ Q o h2 ∧ (mc = 0 → ad2 = ad) ∧ (∀ k, (k < hp.1.length ∨ 1000 ≤ k) → ad2 k = ad k) ∧ hp.1.length ≤ h2.1.length ∧ va_P D vwCl (am_cw cA ad2 h2) t.heap ∧ va_D (fun a => B ≤ a) (am_cw cA ad2 h2)) ∧ va_F (fun a => B ≤ a) st t
def am_Met (l : Launch) (Y : am_Y) (D : va_G) (cA : Nat → ClassId) (B : Nat) (K : am_K) (mid : Nat) (as : List Value) (hp : am_H) (mc ms : Nat) (Q : Option Value → am_H → Prop) (d : Nat) : Prop :=
  ∀ ad : Nat → Nat, Met l (Y mid).1 [.code (Y mid).1 (Y mid).2.1 (Y mid).2.2.1 (Y mid).2.2.2.1] (am_rm d mc ms) (am_Pc D cA B K ad as hp) (am_Qc D cA B ad hp mc Q) mc ms (fun a => B ≤ a)
/-- a method's row is right -/
def am_yok (Y : am_Y) (mid : Nat) : Bool := decide (lw_tbl[(Y mid).2.2.2.2.1]? = some (.code (Y mid).1 (Y mid).2.1 (Y mid).2.2.1 (Y mid).2.2.2.1)) && (decide (lw_tbl[(Y mid).2.2.2.2.2.1]? = some (.initialized (Y mid).1.cls)) && (decide ((Y mid).2.2.1 ≤ 41) && (decide ((Y mid).1.cls ≠ "java/lang/invoke/MethodHandle" ∧ (Y mid).1.cls ≠ "java/lang/invoke/VarHandle") && plainName (Y mid).1.cls)))
theorem am_CU.warm {K : am_K} {ad : Nat → Nat} {B : Nat} {s U : State} {H : Heap} (hW : s.WarmedH U.vm) (hU : U.heap = H) (hB : B ≤ s.heap.size) (hk : ∀ q : Nat, q < s.heap.size → ¬ B ≤ q → H[q]? = s.heap[q]?) (h : am_CU K ad B s s.heap) : am_CU K ad B U U.heap := by
  refine ⟨fun k n f hK => ?_, ?_, fun i o j tx hi => (h.2.2 i o j tx hi).warm hW⟩
  · obtain ⟨h1, h2, h3⟩ := h.1 k n f hK
    refine ⟨h1, (h2.kept ?_).moved hW.alike, h3⟩
    rw [hU]
    exact hk _ (Nat.lt_of_lt_of_le h3 hB) (Nat.not_le.mpr h3)
  · refine (h.2.1.kept (fun a h1 h2 => ?_)).moved hW.alike
    rw [hU]
    exact hk a h1 h2
theorem am_CU.same {K : am_K} {ad : Nat → Nat} {B : Nat} {s U : State} (hv : U.vm = s.vm) (hh : U.heap = s.heap) (hB : B ≤ s.heap.size) (h : am_CU K ad B s s.heap) : am_CU K ad B U U.heap := by
  refine am_CU.warm (by rw [hv]; exact State.WarmedH.refl s) rfl hB (fun q _ _ => by rw [hh]) h
theorem am_CU.ad {K : am_K} {ad ad2 : Nat → Nat} {B : Nat} {U : State} {H : Heap} (he : ∀ k, 1000 ≤ k → ad2 k = ad k) (h : am_CU K ad B U H) : am_CU K ad2 B U H := by
  refine ⟨fun k n f hK => ?_, ?_, fun i o j tx hi => ?_⟩
  · obtain ⟨h1, h2, h3⟩ := h.1 k n f hK
    rw [he k h1]
    exact ⟨h1, h2, h3⟩
  · rw [he 1001 (by decide)]
    exact h.2.1
  · rw [he (am_str i) (by unfold am_str; omega)]
    exact h.2.2 i o j tx hi
theorem am_Pc.blind {D : va_G} {cA : Nat → ClassId} {B : Nat} {K : am_K} {ad : Nat → Nat} {as : List Value} {hp : am_H} : FrameBlind (am_Pc D cA B K ad as hp) := by
  intro a U g mk h
  obtain ⟨h0, h1, h2, h3, h4, h5, h6⟩ := h
  exact ⟨h0, h1, am_TW.warm (s := U) (U := U.calling g mk a) (State.WarmedH.refl U) h2, va_K.moved (u := U) (U := U.calling g mk a) (Vm.Alike.refl U.vm) h3, am_CU.same (s := U) (U := U.calling g mk a) rfl rfl h1 h4, h5, h6⟩
theorem am_Pc.pre {D : va_G} {cA : Nat → ClassId} {B : Nat} {K : am_K} {ad : Nat → Nat} {as : List Value} {hp : am_H} {s : State} {H : Heap} {locs : List Loc} (hB : B ≤ s.heap.size) (hTW : am_TW s) (hK : va_K D vwCl (am_tys cA) s) (hC : am_CU K ad B s s.heap) (hP : va_P D vwCl (am_cw cA ad hp) H) (hD : va_D (fun a => B ≤ a) (am_cw cA ad hp)) (hS : va_S (fun a => B ≤ a) s.heap H locs) : PreS s H (am_Pc D cA B K ad as hp) (as.map (am_v ad)) := by
  refine ⟨am_Pc.blind, fun U hU hW => ⟨rfl, ?_, hTW.warm hW, va_K.moved hW.alike hK, hC.warm hW hU hB (fun q h1 h2 => hS.2.1 q h1 h2), by rw [hU]; exact hP, hD⟩⟩
  rw [hU]
  exact Nat.le_trans hB hS.1
theorem am_callX {p : Program} {l : Launch} {e : Env} {R : Room} {s : State} {m : MethodId} {args : Array Value} {below : List Frame} {meth : Method} {c : Code} {H : Heap} {locs : List Loc} {cells slots mc ms : Nat} {Q : State → Prop} {pc : Nat} {ls : Array Slot} {rest st0 : List Value} {A0 : Nat → Prop} {H0 : Heap} {Qa : State → Outcome → State → Prop} {free : Addr → Prop} (hr : va_Run p l e R s m args below meth c H locs cells slots mc ms (F0 m pc ls st0) rest Qa free) (hS : va_S A0 H0 H locs) (hf : ∀ q, free q → A0 q) (hQ : ∀ (st : State) (v : Option Value) (t : State), Qa st (.returned v) t → va_F A0 st t)
    (kk : ∀ (v : Option Value) (st t : State) (H1 : Heap) (locs1 : List Loc), t.heap = H1 → Qa st (.returned v) t → va_S A0 H0 H1 locs1 → W p l e R s m args below meth c H1 locs1 (cells + mc) (slots + ms) Q (F0 m (pc + 3) ls (v.toList ++ rest))) : W p l e R s m args below meth c H locs cells slots Q (F0 m pc ls st0) := by
  intro T hT X
  obtain ⟨v, st₀, t, T', L, h0, X', hL, e1, e2, hq, st⟩ := hr T hT X
  obtain ⟨hz, hk⟩ := hQ _ _ _ hq
  rw [h0] at hz hk
  obtain ⟨t2, a1, b1⟩ := kk v st₀ t T'.heap (locs ++ L) e1.symm hq
    ⟨Nat.le_trans hS.1 (by rw [e1]; exact hz), fun q h1 h2 => by rw [e1, hk q (Nat.lt_of_lt_of_le h1 hS.1) h2]; exact hS.2.1 q h1 h2, fun q hq => by
      rcases List.mem_append.mp hq with h | h
      · exact hS.2.2 q h
      · exact hf _ (hL q h)⟩ T' rfl X'
  exact ⟨t2, st t2 a1, b1⟩
theorem am_pop_eq : ∀ {n : Nat} {acc st as r : List Value}, am_pop n acc st = some (as, r) → ∃ bs : List Value, bs.length = n ∧ st = bs.reverse ++ r ∧ as = bs ++ acc
  | 0, acc, st, as, r, h => by
    have h2 : some (acc, st) = some (as, r) := h
    cases h2
    exact ⟨[], rfl, rfl, rfl⟩
  | n + 1, acc, [], as, r, h => by
    simp [am_pop] at h
  | n + 1, acc, v :: st, as, r, h => by
    obtain ⟨bs, h1, h2, h3⟩ := am_pop_eq (n := n) (acc := v :: acc) (st := st) h
    exact ⟨bs ++ [v], by simp [h1], by simp [h2], by simp [h3]⟩
theorem am_ws_eq (ad : Nat → Nat) : ∀ r : List Value, ((r.map (am_v ad)).map fun v => v.category).sum = am_ws r
  | [] => rfl
  | v :: r => by
    simp only [List.map_cons, List.sum_cons, am_v_cat, am_ws]
    rw [am_ws_eq ad r]
theorem am_rv_eq {ad ad2 : Nat → Nat} {n : Nat} (he : ∀ k, (k < n ∨ 1000 ≤ k) → ad2 k = ad k) {v : Value} (h : am_rv n v = true) : am_v ad2 v = am_v ad v := by
  cases v <;> try rfl
  rename_i k
  rcases (Bool.or_eq_true _ _).mp h with h | h
  · exact congrArg Value.ref (he k (Or.inl (Nat.le_of_ble_eq_true h)))
  · exact congrArg Value.ref (he k (Or.inr (Nat.le_of_ble_eq_true h)))
theorem am_rs_eq {ad ad2 : Nat → Nat} {n : Nat} (he : ∀ k, (k < n ∨ 1000 ≤ k) → ad2 k = ad k) : ∀ {r : List Value}, am_rs n r = true → r.map (am_v ad2) = r.map (am_v ad)
  | [], _ => rfl
  | v :: r, h => by
    obtain ⟨h1, h2⟩ := (Bool.and_eq_true _ _).mp h
    rw [List.map_cons, List.map_cons, am_rv_eq he h1, am_rs_eq he h2]
theorem am_rl_eq {n : Nat} : ∀ {l : am_L} {i : Nat} {v : Value}, am_rl n l = true → am_get l i = some v → am_rv n v = true
  | [], _, _, _, h => by simp [am_get] at h
  | none :: l, 0, v, _, h => by cases h
  | some w :: l, 0, v, h, hg => by
    cases hg
    exact ((Bool.and_eq_true _ _).mp h).1
  | none :: l, i + 1, v, h, hg => am_rl_eq (l := l) h hg
  | some w :: l, i + 1, v, h, hg => am_rl_eq (l := l) ((Bool.and_eq_true _ _).mp h).2 hg
theorem am_LV.ad {ad ad2 : Nat → Nat} {n : Nat} (he : ∀ k, (k < n ∨ 1000 ≤ k) → ad2 k = ad k) {ls : am_L} {la : Array Slot} {nL : Nat} (hl : am_rl n ls = true) (h : am_LV ad ls la nL) : am_LV ad2 ls la nL := ⟨h.1, h.2.1, fun i v hg => by rw [am_rv_eq he (am_rl_eq hl hg)]; exact h.get hg, h.2.2.2⟩
theorem am_push_eq (ad : Nat → Nat) (o : Option Value) (r : List Value) : (am_push o r).map (am_v ad) = (o.map (am_v ad)).toList ++ r.map (am_v ad) := by cases o <;> rfl
theorem am_yok_spec {Y : am_Y} {mid : Nat} (h : am_yok Y mid = true) : lw_tbl[(Y mid).2.2.2.2.1]? = some (.code (Y mid).1 (Y mid).2.1 (Y mid).2.2.1 (Y mid).2.2.2.1) ∧ lw_tbl[(Y mid).2.2.2.2.2.1]? = some (.initialized (Y mid).1.cls) ∧ (Y mid).2.2.1 ≤ 41 ∧ ((Y mid).1.cls ≠ "java/lang/invoke/MethodHandle" ∧ (Y mid).1.cls ≠ "java/lang/invoke/VarHandle") ∧ plainName (Y mid).1.cls = true := by
  obtain ⟨h1, h2⟩ := (Bool.and_eq_true _ _).mp h
  obtain ⟨h2, h3⟩ := (Bool.and_eq_true _ _).mp h2
  obtain ⟨h3, h4⟩ := (Bool.and_eq_true _ _).mp h3
  obtain ⟨h4, h5⟩ := (Bool.and_eq_true _ _).mp h4
  exact ⟨of_decide_eq_true h1, of_decide_eq_true h2, of_decide_eq_true h3, of_decide_eq_true h4, h5⟩
theorem am_prims : Jvm.Cond.instanceMethod Lib.objectInit ∈ lw_tbl ∧ Jvm.Cond.code Lib.objectInit ⟨#[0xb1]⟩ 1 none ∈ lw_tbl ∧ Jvm.Cond.initialized "java/lang/Math" ∈ lw_tbl ∧ Jvm.Cond.static Lib.Math.max.name ∈ lw_tbl ∧ Jvm.Cond.static Lib.Math.min.name ∈ lw_tbl ∧ Jvm.Cond.static Lib.Math.abs.name ∈ lw_tbl ∧ Jvm.Cond.code Lib.Math.max.name Lib.Math.max.code 2 (some .int) ∈ lw_tbl ∧ Jvm.Cond.code Lib.Math.min.name Lib.Math.min.code 2 (some .int) ∈ lw_tbl ∧ Jvm.Cond.code Lib.Math.abs.name Lib.Math.abs.code 1 (some .int) ∈ lw_tbl ∧ Jvm.Cond.native arraycopyName ∈ lw_tbl ∧ Jvm.Cond.static arraycopyName ∈ lw_tbl ∧ Jvm.Cond.initialized "java/lang/System" ∈ lw_tbl := by
  have h := am_primsOk_t
  unfold am_primsOk at h
  simpa only [Bool.and_eq_true, decide_eq_true_eq] using h
/-- the texts' indexOf: what it must do on the machine -/
def am_IOK (l : Launch) (B : Nat) (K : am_K) (I : am_I) : Prop := ∀ {p : Program} {e : Env} {R : Room} {s : State} {m : MethodId} {args : Array Value} {below : List Frame} {meth : Method} {c : Code} {H : Heap} {locs : List Loc} {cells slots : Nat} {Q : State → Prop} {cc : ByteArray} {pc : Nat} {la : Array Slot} {rest : List Value} {ad : Nat → Nat} {k : Nat} {x : Int32} {idx : Nat} {own : String} {f : Int32 → Int32}, p.tables.exec = Jvm.exec → c.code = cc → c.maxLocals = la.size → s.vm.findClass own = some m.cls → am_TW s → am_CU K ad B s s.heap → B ≤ s.heap.size → va_S (fun a => B ≤ a) s.heap H locs → 8 ≤ R.frames → 400 ≤ R.locals → cells ≤ R.cells → slots ≤ R.slots → (Jvm.Cond.methodLink own idx (am_primN 5)).before args s = true → (0 ≤ x ∧ x < 65536) → I k = some f → (rest.map fun v => v.category).sum ≤ 8 → decode cc pc = .ok (.invokevirtual idx, 3) → W p l e R s m args below meth c H locs cells slots Q (F0 m (pc + 3) la (.int (f x) :: rest)) → W p l e R s m args below meth c H locs cells slots Q (F0 m pc la (.int x :: .ref (ad k) :: rest))
theorem am_setC {cA : Nat → ClassId} {ad : Nat → Nat} {hp : am_H} {k k2 n1 sp dp n : Nat} {q : List (Option Nat)} (hat : am_at hp.1 k2 = some (100, n1, q)) : (am_cw cA ad hp).set k2 (ad k2, .inl (cA 100, n1, .inl (va_cpy (hp.2.1 k) (hp.2.1 k2) sp dp n))) = am_cw cA ad (hp.1, am_cpy hp.2.1 k k2 sp dp n, hp.2.2) := am_cw_set hat (fun i => by
    by_cases e : i = k2
    · rw [if_pos e, e, ← am_at_eq]; exact hat
    · rw [if_neg e]) (fun i y hi => am_cell_v y (by
    funext b
    dsimp only
    unfold am_cpy
    rw [am_bne hi]
    rfl) rfl) (by
    rw [am_cell_i (Or.inl rfl)]
    dsimp only
    rw [show am_cpy hp.2.1 k k2 sp dp n k2 = va_cpy (hp.2.1 k) (hp.2.1 k2) sp dp n by
      funext b
      unfold am_cpy va_cpy
      rw [am_beq]
      by_cases h1 : dp ≤ b
      · by_cases h2 : b < dp + n
        · rw [if_pos ⟨h1, h2⟩, show (true && (Nat.ble dp b && Nat.blt b (dp + n))) = true by rw [Nat.ble_eq_true_of_le h1, show Nat.blt b (dp + n) = true from Nat.ble_eq_true_of_le h2]; rfl]
        · rw [if_neg (fun q => h2 q.2), show (true && (Nat.ble dp b && Nat.blt b (dp + n))) = false by
            cases hh : Nat.blt b (dp + n) with
            | false => simp
            | true => exact absurd (Nat.le_of_ble_eq_true hh) h2]
      · rw [if_neg (fun q => h1 q.1), show (true && (Nat.ble dp b && Nat.blt b (dp + n))) = false by
          cases hh : Nat.ble dp b with
          | false => rfl
          | true => exact absurd (Nat.le_of_ble_eq_true hh) h1]])
/-- what every call asks but its link -/
theorem am_cw0 {Y : am_Y} {mid : Nat} (hy : am_yok Y mid = true) {R : Room} {s : State} (args : Array Value) (hTW : am_TW s) {d mc ms : Nat} (hR : d + 9 ≤ R.frames ∧ 60 * d + 460 ≤ R.locals) :
    ((am_rm d mc ms).cells = mc ∧ (am_rm d mc ms).slots = ms ∧ (am_rm d mc ms).frames + 1 ≤ R.frames ∧ 8 + ((Y mid).2.2.1 + 11) + (am_rm d mc ms).locals ≤ R.locals ∧ (∀ w ∈ [Jvm.Cond.code (Y mid).1 (Y mid).2.1 (Y mid).2.2.1 (Y mid).2.2.2.1], ∀ (a' : Array Value) (U : State), s.WarmedH U.vm → w.before a' U = true) ∧ Jvm.Cond.code (Y mid).1 (Y mid).2.1 (Y mid).2.2.1 (Y mid).2.2.2.1 ∈ [Jvm.Cond.code (Y mid).1 (Y mid).2.1 (Y mid).2.2.1 (Y mid).2.2.2.1]) ∧ (Jvm.Cond.code (Y mid).1 (Y mid).2.1 (Y mid).2.2.1 (Y mid).2.2.2.1).before args s = true ∧ (Jvm.Cond.initialized (Y mid).1.cls).before args s = true ∧ ((Y mid).1.cls ≠ "java/lang/invoke/MethodHandle" ∧ (Y mid).1.cls ≠ "java/lang/invoke/VarHandle") := by
  obtain ⟨h1, h2, h3, h4, -⟩ := am_yok_spec hy
  refine ⟨⟨rfl, rfl, ?_, ?_, ?_, List.mem_cons_self⟩, hTW.at h1 rfl args, hTW.at h2 rfl args, h4⟩
  · show d + 8 + 1 ≤ R.frames
    omega
  · show 8 + ((Y mid).2.2.1 + 11) + (60 * d + 400) ≤ R.locals
    omega
  · intro w hw a' U hW
    rw [List.mem_singleton.mp hw]
    exact (hTW.warm hW).at h1 rfl a'
theorem am_np_len {d : String} {n : Nat} (h : am_np d = some n) : ∀ sig, parseMethodDescriptor d = some sig → n = sig.parameters.length := by
  intro sig hs
  unfold am_np at h
  rw [hs] at h
  exact (Option.some.inj h).symm
/-- behind a call -/
theorem am_after {p : Program} {l : Launch} {e : Env} {R : Room} {s : State} {m : MethodId} {args : Array Value} {below : List Frame} {meth : Method} {c : Code} {Qf : State → Prop} {D : va_G} {cA : Nat → ClassId} {B : Nat} {cd : List am_E} {nL mc ms n0 : Nat} {ad0 : Nat → Nat} {q : am_E} {is : List am_E} {ls : am_L} {st r : List Value} {hp : am_H} {nc ns c2 s2 : Nat} {ad : Nat → Nat} {H : Heap} {locs : List Loc} {la : Array Slot} {pc : Nat} {st0 : List Value} {a : Array Value} (hr : am_Rel s D cA B cd nL mc ms n0 ad0 (q :: is, ls, st, hp, nc, ns) ad H locs la) (hpc : am_pcl is = pc + 3) (hc : nc + c2 ≤ mc ∧ ns + s2 ≤ ms) (hg : c2 = 0 ∨ (am_rl hp.1.length ls = true ∧ am_rs hp.1.length r = true)) {Q2 : Option Value → am_H → Prop} (hQ2 : ∀ (o : Option Value) (h2 : am_H), Q2 o h2 → am_PW p l e R s m args below meth c Qf D cA B cd nL mc ms n0 ad0 (is, ls, am_push o r, h2, nc + c2, ns + s2))
    (hv : va_Run p l e R s m args below meth c H locs nc ns c2 s2 (F0 m pc la st0) (r.map (am_v ad)) (am_Qc D cA B ad hp c2 Q2 a) (fun a => B ≤ a)) : W p l e R s m args below meth c H locs nc ns Qf (F0 m pc la st0) := by
  refine am_callX hv hr.2.2.2.1 (fun _ h => h) (fun st v t h => h.2) (fun v st9 t H1 locs1 ht hq hS => ?_)
  obtain ⟨⟨o, h2, ad2, ho, hQ, he0, he, hl, hP, hD⟩, -⟩ := hq
  cases ho
  rw [ht] at hP
  have hrest : r.map (am_v ad2) = r.map (am_v ad) := by
    rcases hg with h | h
    · rw [he0 h]
    · exact am_rs_eq he h.2
  have hLV : am_LV ad2 ls la nL := by
    rcases hg with h | h
    · rw [he0 h]; exact hr.2.2.2.2
    · exact am_LV.ad he h.1 hr.2.2.2.2
  have k := hQ2 o h2 hQ ad2 H1 locs1 la ⟨⟨(List.suffix_cons _ _).trans hr.1.1, fun h0 => ?_, fun k hk => ?_, Nat.le_trans hr.1.2.2.2.1 hl, hc.1, hc.2⟩, hP, hD, hS, hLV⟩
  · dsimp only at k
    rw [hpc, am_push_eq, hrest] at k
    exact k
  · rw [he0 (by have := hc.1; omega)]
    exact hr.1.2.1 h0
  · have hn : n0 ≤ hp.1.length := hr.1.2.2.2.1
    rw [he k (hk.elim (fun h => Or.inl (Nat.lt_of_lt_of_le h hn)) Or.inr)]
    exact hr.1.2.2.1 k hk
set_option maxHeartbeats 1000000 in
theorem am_s_invokestatic {p : Program} {l : Launch} {e : Env} {R : Room} {s : State} {m : MethodId} {args : Array Value} {below : List Frame} {meth : Method} {c : Code} {Qf : State → Prop} {D : va_G} {cA : Nat → ClassId} {B : Nat} {cd : List am_E} {nL mc ms n0 : Nat} {ad0 : Nat → Nat} {K : am_K} {I : am_I} {Tc : am_T} {Q : Option Value → am_H → Prop} {own : String} {bytes : ByteArray} {isI : Bool} {ret : Option FieldType} {Y : am_Y} (X : am_CX p R s m meth c D cA B cd nL mc ms ad0 K own bytes isI ret Y) {pc : Nat} {i : Nat} {dd : Nat} {rs : List Nat} {im : Int32} {wl : List Nat} {is : List am_E} {ls : am_L} {st : List Value} {hp : am_H} {nc ns : Nat} (hI : am_IOK l B K I) (hTc : ∀ (mid : Nat) (as : List Value) (hp : am_H) (c2 s2 : Nat) (Q2 : Option Value → am_H → Prop), mid < am_N → Tc mid as hp c2 s2 Q2 → am_Met l Y D cA B K mid as hp c2 s2 Q2 dd) (hRd : dd + 9 ≤ R.frames ∧ 60 * dd + 460 ≤ R.locals) (hY : ∀ mid, mid < am_N → am_yok Y mid = true) (h : am_step K I Tc cd mc ms Q (am_PW p l e R s m args below meth c Qf D cA B cd nL mc ms n0 ad0) ((pc, .invokestatic i, rs, im, wl) :: is, ls, st, hp, nc, ns)) : (am_PW p l e R s m args below meth c Qf D cA B cd nL mc ms n0 ad0) ((pc, .invokestatic i, rs, im, wl) :: is, ls, st, hp, nc, ns) := by
  intro ad H locs la hr
  obtain ⟨hx, hb, hml, hown, hisI, hTW, hK, hCU, hBs, hRc, hRf, hV⟩ := X
  have hok := hV _ _ hr.1.1
  obtain ⟨hd, hv⟩ := (Bool.and_eq_true _ _).mp hok
  obtain ⟨hdg, hpc⟩ := am_d_spec hd
  dsimp only [am_step] at h
  split at h
  · rename_i n mid
    split at h
    · rename_i as r hpop
      split at h
      · rename_i hw
        have hv : am_sok Y own i wl n mid = true := hv
        unfold am_sok at hv
        split at hv
        · rename_i wi
          obtain ⟨h1, h2⟩ := (Bool.and_eq_true _ _).mp hv
          obtain ⟨h2, h3⟩ := (Bool.and_eq_true _ _).mp h2
          obtain ⟨hnp, hmid⟩ := of_decide_eq_true h1
          have hst := of_decide_eq_true h2
          have hM := hTc mid as hp 0 0 _ hmid h ad
          obtain ⟨c0, c1, c3, c4⟩ := am_cw0 (hY mid hmid) (R := R) args hTW (mc := 0) (ms := 0) hRd
          obtain ⟨bs, e1, e2, e3⟩ := am_pop_eq hpop
          rw [List.append_nil] at e3
          subst e3
          have hpre := am_Pc.pre (K := K) (as := as) hBs hTW hK (hCU.ad (fun k hk => hr.1.2.2.1 k (Or.inr hk))) hr.2.1 hr.2.2.1 hr.2.2.2.1
          refine am_after (r := r) (c2 := 0) (s2 := 0) hr hpc hr.1.2.2.2.2 (Or.inl rfl) (Q2 := fun o h2 => am_PW p l e R s m args below meth c Qf D cA B cd nL mc ms n0 ad0 (is, ls, am_push o r, h2, nc, ns)) (fun o h2 hq => hq) (a := (as.map (am_v ad)).toArray) ?_
          have hfit : nc + 0 ≤ R.cells ∧ ns + 0 ≤ R.slots := ⟨Nat.le_trans hr.1.2.2.2.2.1 hRc.1, Nat.le_trans hr.1.2.2.2.2.2 hRc.2⟩
          have hstk : List.map (am_v ad) st = (as.map (am_v ad)).reverse ++ r.map (am_v ad) := by rw [e2, List.map_append, List.map_reverse]
          have hWm : 2 * (F0 m pc la (List.map (am_v ad) st)).monitorRoom + ((r.map (am_v ad)).map fun v => v.category).sum ≤ 8 := by
            have hw9 := Nat.le_of_ble_eq_true hw
            rw [am_ws_eq]
            show 2 * 0 + am_ws r ≤ 8
            omega
          rcases (Bool.or_eq_true _ _).mp h3 with h4 | h4
          · exact va_runS (Ts := []) ⟨hx, hb, hml, hown, fun _ h => by cases h⟩ hM ⟨⟨c0.1, c0.2.1, c0.2.2.1, c0.2.2.2.1, c0.2.2.2.2.1, c0.2.2.2.2.2, c1, c3, c4, am_np_len hnp, hTW.at (of_decide_eq_true h4) rfl args⟩, hTW.at hst rfl args⟩ hpre rfl (by rw [List.length_map]; exact e1) hr.2.2.2.2.1 hstk hWm hdg hfit
          · exact va_runSN (Ts := []) ⟨hx, hb, hml, hown, fun _ h => by cases h⟩ hM ⟨⟨c0, c1, c3, c4, am_np_len hnp, hTW.at (of_decide_eq_true h4) rfl args⟩, hTW.at hst rfl args, trivial⟩ hpre rfl (by rw [List.length_map]; exact e1) hr.2.2.2.2.1 hstk hWm hdg hfit
        · cases hv
      · exact h.elim
    · exact h.elim
  · rename_i pk
    have hv : (Nat.ble 1 pk && (Nat.ble pk 4 && am_pl own i pk wl)) = true := hv
    obtain ⟨h1, h2⟩ := (Bool.and_eq_true _ _).mp hv
    obtain ⟨h2, h3⟩ := (Bool.and_eq_true _ _).mp h2
    have p1 := Nat.le_of_ble_eq_true h1
    have p2 := Nat.le_of_ble_eq_true h2
    split at h
    · rename_i hw
      have hww := Nat.le_of_ble_eq_true hw
      unfold am_pl at h3
      split at h3
      · rename_i wi
        have hl := of_decide_eq_true h3
        have hcel : nc ≤ R.cells := Nat.le_trans hr.1.2.2.2.2.1 hRc.1
        have hslo : ns ≤ R.slots := Nat.le_trans hr.1.2.2.2.2.2 hRc.2
        have hmls : c.maxLocals = la.size := by rw [hml]; exact hr.2.2.2.2.1.symm
        have hpk : pk = 1 ∨ pk = 2 ∨ pk = 3 ∨ pk = 4 := by omega
        rcases hpk with rfl | rfl | rfl | rfl
        · simp only [am_prim] at h
          split at h
          · rename_i y x r
            have k := h ad H locs la hr.tl
            dsimp only at k
            rw [hpc] at k
            exact va_mmax hx hb hmls hown (hTW.at hl rfl args) (hTW _ am_prims.2.2.2.1 rfl args) (hTW _ am_prims.2.2.1 rfl args) (hTW _ am_prims.2.2.2.2.2.2.1 rfl args) (by omega) (by rw [am_ws_eq]; simp only [am_ws] at hww; omega) hcel hslo hdg k
          · exact h.elim
        · simp only [am_prim] at h
          split at h
          · rename_i y x r
            have k := h ad H locs la hr.tl
            dsimp only at k
            rw [hpc] at k
            exact va_mmin hx hb hmls hown (hTW.at hl rfl args) (hTW _ am_prims.2.2.2.2.1 rfl args) (hTW _ am_prims.2.2.1 rfl args) (hTW _ am_prims.2.2.2.2.2.2.2.1 rfl args) (by omega) (by rw [am_ws_eq]; simp only [am_ws] at hww; omega) hcel hslo hdg k
          · exact h.elim
        · simp only [am_prim] at h
          split at h
          · rename_i x r
            have k := h ad H locs la hr.tl
            dsimp only at k
            rw [hpc] at k
            exact va_mabs hx hb hmls hown (hTW.at hl rfl args) (hTW _ am_prims.2.2.2.2.2.1 rfl args) (hTW _ am_prims.2.2.1 rfl args) (hTW _ am_prims.2.2.2.2.2.2.2.2.1 rfl args) (by omega) (by rw [am_ws_eq]; simp only [am_ws] at hww; omega) hcel hslo hdg k
          · exact h.elim
        · simp only [am_prim] at h
          split at h
          · rename_i n dp k2 sp k r
            split at h
            · rename_i n0' q0 hat
              split at h
              · rename_i n1' q1 hat2
                obtain ⟨⟨a1, a2, a3, a4, a5⟩, h⟩ := h
                refine va_copyi hx hb hmls hown (hTW.at hl rfl args) (hTW _ am_prims.2.2.2.2.2.2.2.2.2.1 rfl args) (hTW _ am_prims.2.2.2.2.2.2.2.2.2.2.1 rfl args) (hTW _ am_prims.2.2.2.2.2.2.2.2.2.2.2 rfl args) hK hr.2.1 hr.2.2.1 hr.2.2.2.1 k k2 0 0 (ty := .int) (am_cw_at (cA := cA) (ad := ad) hat) (am_cw_at (cA := cA) (ad := ad) hat2) rfl rfl rfl a1 a2 a3 a4 a5 (fun _ _ => rfl) (by omega) (by rw [am_ws_eq]; simp only [am_ws] at hww; have : nativeFrameWords "java/lang/System" "arraycopy" 5 ≤ 100 := (by decide +kernel); omega) hdg (fun H1 locs1 hP hD hS => ?_)
                rw [am_setC hat2] at hP hD
                have k := h ad H1 locs1 la (hr.wr rfl hP hD hS)
                dsimp only at k
                rw [hpc] at k
                exact k
              · exact h.elim
            · exact h.elim
          · exact h.elim
      · cases h3
    · exact h.elim
  · exact h.elim
set_option maxHeartbeats 1000000 in
theorem am_s_invokespecial {p : Program} {l : Launch} {e : Env} {R : Room} {s : State} {m : MethodId} {args : Array Value} {below : List Frame} {meth : Method} {c : Code} {Qf : State → Prop} {D : va_G} {cA : Nat → ClassId} {B : Nat} {cd : List am_E} {nL mc ms n0 : Nat} {ad0 : Nat → Nat} {K : am_K} {I : am_I} {Tc : am_T} {Q : Option Value → am_H → Prop} {own : String} {bytes : ByteArray} {isI : Bool} {ret : Option FieldType} {Y : am_Y} (X : am_CX p R s m meth c D cA B cd nL mc ms ad0 K own bytes isI ret Y) {pc : Nat} {i : Nat} {dd : Nat} {rs : List Nat} {im : Int32} {wl : List Nat} {is : List am_E} {ls : am_L} {st : List Value} {hp : am_H} {nc ns : Nat} (hI : am_IOK l B K I) (hTc : ∀ (mid : Nat) (as : List Value) (hp : am_H) (c2 s2 : Nat) (Q2 : Option Value → am_H → Prop), mid < am_N → Tc mid as hp c2 s2 Q2 → am_Met l Y D cA B K mid as hp c2 s2 Q2 dd) (hRd : dd + 9 ≤ R.frames ∧ 60 * dd + 460 ≤ R.locals) (hY : ∀ mid, mid < am_N → am_yok Y mid = true) (h : am_step K I Tc cd mc ms Q (am_PW p l e R s m args below meth c Qf D cA B cd nL mc ms n0 ad0) ((pc, .invokespecial i, rs, im, wl) :: is, ls, st, hp, nc, ns)) : (am_PW p l e R s m args below meth c Qf D cA B cd nL mc ms n0 ad0) ((pc, .invokespecial i, rs, im, wl) :: is, ls, st, hp, nc, ns) := by
  intro ad H locs la hr
  obtain ⟨hx, hb, hml, hown, hisI, hTW, hK, hCU, hBs, hRc, hRf, hV⟩ := X
  have hok := hV _ _ hr.1.1
  obtain ⟨hd, hv⟩ := (Bool.and_eq_true _ _).mp hok
  obtain ⟨hdg, hpc⟩ := am_d_spec hd
  dsimp only [am_step] at h
  split at h
  · rename_i n mid c2 s2
    split at h
    · rename_i k as r hpop
      split at h
      · rename_i hw
        obtain ⟨hw, hw2⟩ := (Bool.and_eq_true _ _).mp hw
        obtain ⟨hw2, hw3⟩ := (Bool.and_eq_true _ _).mp hw2
        have hv : am_iok Y own i wl n mid = true := hv
        unfold am_iok at hv
        split at hv
        · rename_i wi
          obtain ⟨h1, h2⟩ := (Bool.and_eq_true _ _).mp hv
          obtain ⟨h2, h3⟩ := (Bool.and_eq_true _ _).mp h2
          obtain ⟨h3, h5⟩ := (Bool.and_eq_true _ _).mp h3
          obtain ⟨hnp, hmid⟩ := of_decide_eq_true h1
          obtain ⟨hini, hret0, hn1⟩ := of_decide_eq_true h2
          have hst := of_decide_eq_true h3
          obtain ⟨hcc, hT⟩ := h
          have hM := hTc mid (.ref k :: as) hp c2 s2 _ hmid hT ad
          obtain ⟨c0, c1, c3, c4⟩ := am_cw0 (hY mid hmid) (R := R) args hTW (mc := c2) (ms := s2) hRd
          obtain ⟨bs, e1, e2, e3⟩ := am_pop_eq hpop
          rw [List.append_nil] at e3
          subst e3
          have hpre := am_Pc.pre (K := K) (as := .ref k :: as) hBs hTW hK (hCU.ad (fun k hk => hr.1.2.2.1 k (Or.inr hk))) hr.2.1 hr.2.2.1 hr.2.2.2.1
          refine am_after (r := r) (c2 := c2) (s2 := s2) hr hpc hcc (Or.inr ⟨hw2, hw3⟩) (Q2 := fun o h2 => am_PW p l e R s m args below meth c Qf D cA B cd nL mc ms n0 ad0 (is, ls, am_push o r, h2, nc + c2, ns + s2)) (fun o h2 hq => hq) (a := (((Value.ref k :: as).map (am_v ad))).toArray) ?_
          have hfit : nc + c2 ≤ R.cells ∧ ns + s2 ≤ R.slots := ⟨Nat.le_trans hcc.1 hRc.1, Nat.le_trans hcc.2 hRc.2⟩
          have hstk : List.map (am_v ad) st = (as.map (am_v ad)).reverse ++ .ref (ad k) :: r.map (am_v ad) := by rw [e2]; simp [am_v]
          have hWm : 2 * (F0 m pc la (List.map (am_v ad) st)).monitorRoom + ((r.map (am_v ad)).map fun v => v.category).sum ≤ 8 := by
            have hw9 := Nat.le_of_ble_eq_true hw
            rw [am_ws_eq]
            show 2 * 0 + am_ws r ≤ 8
            omega
          have hlen : (as.map (am_v ad)).length = n - 1 := by
            rw [List.length_map]
            simp at e1
            omega
          rw [hret0] at c0 c1 hM
          rcases (Bool.or_eq_true _ _).mp h5 with h4 | h4
          · exact va_runI (Ts := []) ⟨hx, hb, hml, hown, fun _ h => by cases h⟩ hM ⟨⟨c0.1, c0.2.1, c0.2.2.1, c0.2.2.2.1, c0.2.2.2.2.1, c0.2.2.2.2.2, c1, c3, c4, am_np_len hnp, hTW.at (of_decide_eq_true h4) rfl args⟩, hini, hTW.at hst rfl args⟩ hpre rfl hlen hr.2.2.2.2.1 hstk hWm hdg hfit
          · exact va_runIN (Ts := []) ⟨hx, hb, hml, hown, fun _ h => by cases h⟩ hM ⟨⟨c0, c1, c3, c4, am_np_len hnp, hTW.at (of_decide_eq_true h4) rfl args⟩, hini, hTW.at hst rfl args⟩ hpre rfl hlen hr.2.2.2.2.1 hstk hWm hdg hfit
        · cases hv
      · exact h.elim
    · exact h.elim
  · rename_i pk
    have hv : (Nat.beq pk 0 && am_pl own i 0 wl) = true := hv
    obtain ⟨h1, h3⟩ := (Bool.and_eq_true _ _).mp hv
    have p1 := Nat.eq_of_beq_eq_true h1
    subst p1
    split at h
    · rename_i hw
      have hww := Nat.le_of_ble_eq_true hw
      unfold am_pl at h3
      split at h3
      · rename_i wi
        have hl := of_decide_eq_true h3
        simp only [am_prim] at h
        split at h
        · rename_i x r
          have k := h ad H locs la hr.tl
          dsimp only at k
          rw [hpc] at k
          refine W.objInit hx hb hown (hTW.at hl rfl args) (hTW _ am_prims.1 rfl args) (hTW _ am_prims.2.1 rfl args) rfl (by rw [hml]; exact hr.2.2.2.2.1) rfl hdg (by omega) (by rw [am_ws_eq]; simp only [am_ws] at hww; show 2 * 0 + _ + 12 ≤ _; omega) ?_
          exact W.eq (g2 := F0 m (pc + 3) la (r.map (am_v ad))) rfl k
        · exact h.elim
      · cases h3
    · exact h.elim
  · exact h.elim
theorem am_vok_at {Y : am_Y} {own : String} {idx wi sm dc n kd mid : Nat} : ∀ {cs ws : List Nat}, am_vok Y own idx wi sm dc n cs ws = true → am_pick kd cs = some mid → ∃ (C : String) (T : u_T) (N w : Nat), vwCl[kd]? = some (C, T, N) ∧ lw_tbl[(Y mid).2.2.2.2.2.2]? = some (.instanceMethod (Y mid).1) ∧ (am_np (Y mid).1.desc = some (n - 1) ∧ 1 ≤ n ∧ mid < am_N) ∧ ((lw_tbl[wi]? = some (.methodLink own idx (Y mid).1) ∧ lw_tbl[w]? = some (.selects C (Y mid).1 (Y mid).1)) ∨ ∃ x : MethodName, lw_tbl[wi]? = some (.methodLink own idx x) ∧ lw_tbl[w]? = some (.selects C x (Y mid).1) ∧ lw_tbl[sm]? = some (.sameMethod x.cls "TwoKings$Reader" x.name x.desc) ∧ lw_tbl[dc]? = some (.declares ⟨"TwoKings$Reader", x.name, x.desc⟩) ∧ am_np x.desc = some (n - 1))
  | [], _, _, h => by simp [am_pick] at h
  | [_], _, _, h => by simp [am_pick] at h
  | ci :: md :: cs, [], h, _ => by cases h
  | ci :: md :: cs, w :: ws, h, hp => by
    obtain ⟨h1, h2⟩ := (Bool.and_eq_true _ _).mp h
    unfold am_pick at hp
    split at hp
    · rename_i e
      have e2 := Nat.eq_of_beq_eq_true e
      cases hp
      subst e2
      split at h1
      · rename_i C T N hc
        obtain ⟨g1, g2⟩ := (Bool.and_eq_true _ _).mp h1
        obtain ⟨g2, g3⟩ := (Bool.and_eq_true _ _).mp g2
        refine ⟨C, T, N, w, hc, of_decide_eq_true g1, of_decide_eq_true g2, ?_⟩
        rcases (Bool.or_eq_true _ _).mp g3 with g4 | g4
        · obtain ⟨g5, g6⟩ := (Bool.and_eq_true _ _).mp g4
          exact Or.inl ⟨of_decide_eq_true g5, of_decide_eq_true g6⟩
        · split at g4
          · rename_i o i x hw
            obtain ⟨g5, g6⟩ := (Bool.and_eq_true _ _).mp g4
            obtain ⟨g6, g7⟩ := (Bool.and_eq_true _ _).mp g6
            obtain ⟨g7, g8⟩ := (Bool.and_eq_true _ _).mp g7
            obtain ⟨g8, g9⟩ := (Bool.and_eq_true _ _).mp g8
            obtain ⟨rfl, rfl⟩ := of_decide_eq_true g5
            exact Or.inr ⟨x, hw, of_decide_eq_true g6, of_decide_eq_true g7, of_decide_eq_true g8, of_decide_eq_true g9⟩
          · cases g4
      · cases h1
    · exact am_vok_at h2 hp
set_option maxHeartbeats 1000000 in
theorem am_s_invokevirtual {p : Program} {l : Launch} {e : Env} {R : Room} {s : State} {m : MethodId} {args : Array Value} {below : List Frame} {meth : Method} {c : Code} {Qf : State → Prop} {D : va_G} {cA : Nat → ClassId} {B : Nat} {cd : List am_E} {nL mc ms n0 : Nat} {ad0 : Nat → Nat} {K : am_K} {I : am_I} {Tc : am_T} {Q : Option Value → am_H → Prop} {own : String} {bytes : ByteArray} {isI : Bool} {ret : Option FieldType} {Y : am_Y} (X : am_CX p R s m meth c D cA B cd nL mc ms ad0 K own bytes isI ret Y) {pc : Nat} {i : Nat} {dd : Nat} {rs : List Nat} {im : Int32} {wl : List Nat} {is : List am_E} {ls : am_L} {st : List Value} {hp : am_H} {nc ns : Nat} (hI : am_IOK l B K I) (hTc : ∀ (mid : Nat) (as : List Value) (hp : am_H) (c2 s2 : Nat) (Q2 : Option Value → am_H → Prop), mid < am_N → Tc mid as hp c2 s2 Q2 → am_Met l Y D cA B K mid as hp c2 s2 Q2 dd) (hRd : dd + 9 ≤ R.frames ∧ 60 * dd + 460 ≤ R.locals) (hY : ∀ mid, mid < am_N → am_yok Y mid = true) (h : am_step K I Tc cd mc ms Q (am_PW p l e R s m args below meth c Qf D cA B cd nL mc ms n0 ad0) ((pc, .invokevirtual i, rs, im, wl) :: is, ls, st, hp, nc, ns)) : (am_PW p l e R s m args below meth c Qf D cA B cd nL mc ms n0 ad0) ((pc, .invokevirtual i, rs, im, wl) :: is, ls, st, hp, nc, ns) := by
  intro ad H locs la hr
  obtain ⟨hx, hb, hml, hown, hisI, hTW, hK, hCU, hBs, hRc, hRf, hV⟩ := X
  have hok := hV _ _ hr.1.1
  obtain ⟨hd, hv⟩ := (Bool.and_eq_true _ _).mp hok
  obtain ⟨hdg, hpc⟩ := am_d_spec hd
  dsimp only [am_step] at h
  split at h
  · rename_i n cs
    split at h
    · rename_i k as r hpop
      split at h
      · rename_i kd nn qq hat
        split at h
        · rename_i mid hpick
          split at h
          · rename_i hw
            have hv : am_vw Y own i n cs wl = true := hv
            unfold am_vw at hv
            split at hv
            · rename_i wi sm dc ws
              obtain ⟨C, T, N, w, hc, hst, ⟨hnp, hn1, hmid⟩, hlk⟩ := am_vok_at hv hpick
              have hM := hTc mid (.ref k :: as) hp 0 0 _ hmid h ad
              obtain ⟨c0, c1, c3, c4⟩ := am_cw0 (hY mid hmid) (R := R) args hTW (mc := 0) (ms := 0) hRd
              obtain ⟨bs, e1, e2, e3⟩ := am_pop_eq hpop
              rw [List.append_nil] at e3
              subst e3
              have hpre := am_Pc.pre (K := K) (as := .ref k :: as) hBs hTW hK (hCU.ad (fun k hk => hr.1.2.2.1 k (Or.inr hk))) hr.2.1 hr.2.2.1 hr.2.2.2.1
              refine am_after (r := r) (c2 := 0) (s2 := 0) hr hpc hr.1.2.2.2.2 (Or.inl rfl) (Q2 := fun o h2 => am_PW p l e R s m args below meth c Qf D cA B cd nL mc ms n0 ad0 (is, ls, am_push o r, h2, nc, ns)) (fun o h2 hq => hq) (a := (((Value.ref k :: as).map (am_v ad))).toArray) ?_
              have hfit : nc + 0 ≤ R.cells ∧ ns + 0 ≤ R.slots := ⟨Nat.le_trans hr.1.2.2.2.2.1 hRc.1, Nat.le_trans hr.1.2.2.2.2.2 hRc.2⟩
              have hstk : List.map (am_v ad) st = (as.map (am_v ad)).reverse ++ .ref (ad k) :: r.map (am_v ad) := by rw [e2]; simp [am_v]
              have hWm : 2 * (F0 m pc la (List.map (am_v ad) st)).monitorRoom + ((r.map (am_v ad)).map fun v => v.category).sum ≤ 8 := by
                have hw9 := Nat.le_of_ble_eq_true hw
                rw [am_ws_eq]
                show 2 * 0 + am_ws r ≤ 8
                omega
              have hlen : (as.map (am_v ad)).length = n - 1 := by
                rw [List.length_map]
                simp at e1
                omega
              have hkd : kd < 100 := by
                have hl := (List.getElem?_eq_some_iff.mp hc).1
                have : vwCl.length = 12 := rfl
                omega
              have he := am_cw_at (cA := cA) (ad := ad) hat
              rw [am_cell_lt hkd] at he
              have hrecv := va_recv hK hr.2.1 hc he
              have hpreV : PreV s H C (ad k) (am_Pc D cA B K ad (.ref k :: as) hp) (as.map (am_v ad)) := ⟨hpre.1, hrecv, hpre.2⟩
              rcases hlk with ⟨g1, g2⟩ | ⟨x, g1, g2, g3, g4, g5⟩
              · exact va_runV (Ts := []) ⟨hx, hb, hml, hown, fun _ h => by cases h⟩ hM ⟨⟨c0.1, c0.2.1, c0.2.2.1, c0.2.2.2.1, c0.2.2.2.2.1, c0.2.2.2.2.2, c1, c3, c4, am_np_len hnp, hTW.at g1 rfl args⟩, hTW.at hst rfl args, hTW.at g2 rfl args⟩ hpreV rfl hlen hr.2.2.2.2.1 hstk hWm hdg hfit
              · exact va_runU (Ts := []) (owner := "TwoKings$Reader") ⟨hx, hb, hml, hown, fun _ h => by cases h⟩ hM ⟨c0, c1, c3, by decide, am_np_len g5, hTW.at g1 rfl args, hTW.at g3 rfl args, va_Decl.abs (va_Nw.of rfl (hTW.at g4 rfl args)), hTW.at g2 rfl args, hTW.at hst rfl args⟩ hpreV rfl hlen hr.2.2.2.2.1 hstk hWm hdg hfit
            · cases hv
          · exact h.elim
        · exact h.elim
      · exact h.elim
    · exact h.elim
  · rename_i pk
    have hv : (Nat.beq pk 5 && am_pl own i 5 wl) = true := hv
    obtain ⟨h1, h3⟩ := (Bool.and_eq_true _ _).mp hv
    have p1 := Nat.eq_of_beq_eq_true h1
    subst p1
    split at h
    · rename_i hw
      have hww := Nat.le_of_ble_eq_true hw
      unfold am_pl at h3
      split at h3
      · rename_i wi
        have hl := of_decide_eq_true h3
        simp only [am_prim] at h
        split at h
        · rename_i x k r
          split at h
          · rename_i f hf
            obtain ⟨hxx, h⟩ := h
            have kk := h ad H locs la hr.tl
            dsimp only at kk
            rw [hpc] at kk
            exact hI hx hb (by rw [hml]; exact hr.2.2.2.2.1.symm) hown hTW (hCU.ad (fun k hk => hr.1.2.2.1 k (Or.inr hk))) hBs hr.2.2.2.1 hRf.1 hRf.2 (Nat.le_trans hr.1.2.2.2.2.1 hRc.1) (Nat.le_trans hr.1.2.2.2.2.2 hRc.2) (hTW.at hl rfl args) hxx hf (by rw [am_ws_eq]; simp only [am_ws] at hww; show _ ≤ 8; have : (Value.int x).category = 1 := rfl; have : (Value.ref k).category = 1 := rfl; omega) hdg kk
          · exact h.elim
        · exact h.elim
      · cases h3
    · exact h.elim
  · exact h.elim
end
section
/-! ===== new cells ===== -/
theorem am_refs_t : (List.range 12).all (fun ci => match vwCl[ci]? with
  | some (_, T, N) => (List.range N).all (fun j => !am_isR ci j || am_isRT (T j).2.2.1)
  | none => true) = true := by decide +kernel
theorem am_refs {ci : Nat} {C : String} {T : u_T} {N : Nat} (hc : vwCl[ci]? = some (C, T, N)) {j : Nat} (hj : j < N) (hR : am_isR ci j = true) : am_isRT (T j).2.2.1 = true := by
  have hl : ci < 12 := by
    have := (List.getElem?_eq_some_iff.mp hc).1
    have : vwCl.length = 12 := rfl
    omega
  have h := List.all_eq_true.mp am_refs_t ci (List.mem_range.mpr hl)
  rw [hc] at h
  have h2 := List.all_eq_true.mp h j (List.mem_range.mpr hj)
  rw [hR] at h2
  simpa using h2
theorem am_isR_int {ci : Nat} {C : String} {T : u_T} {N : Nat} (hc : vwCl[ci]? = some (C, T, N)) {j : Nat} (hR : am_isR ci j = false) : (T j).2.2.1 = "I" ∨ (T j).2.2.1 = "Z" := by
  unfold am_isR at hR
  rw [hc] at hR
  by_cases hI : (T j).2.2.1 = "I"
  · exact Or.inl hI
  · exact Or.inr (by simpa [hI] using hR)
theorem am_rq_eq {ad ad2 : Nat → Nat} {n : Nat} (he : ∀ k, (k < n ∨ 1000 ≤ k) → ad2 k = ad k) : ∀ {q : List (Option Nat)} {j : Nat}, am_rq n q = true → (q.getD j none).map ad2 = (q.getD j none).map ad
  | [], j, _ => by simp
  | none :: q, 0, h => rfl
  | some k :: q, 0, h => by
    obtain ⟨h1, h2⟩ := (Bool.and_eq_true _ _).mp h
    rcases (Bool.or_eq_true _ _).mp h1 with h3 | h3
    · exact congrArg some (he k (Or.inl (Nat.le_of_ble_eq_true h3)))
    · exact congrArg some (he k (Or.inr (Nat.le_of_ble_eq_true h3)))
  | none :: q, j + 1, h => by
    simp only [List.getD_cons_succ]
    exact am_rq_eq he (q := q) h
  | some k :: q, j + 1, h => by
    simp only [List.getD_cons_succ]
    exact am_rq_eq he ((Bool.and_eq_true _ _).mp h).2
theorem am_rh_at {n : Nat} : ∀ {l : List am_S} {i : Nat} {y : am_S}, am_rh n l = true → l[i]? = some y → am_rq n y.2.2 = true
  | [], _, _, _, h => by simp at h
  | a :: l, 0, y, h, hi => by
    cases hi
    exact ((Bool.and_eq_true _ _).mp h).1
  | a :: l, i + 1, y, h, hi => am_rh_at (l := l) ((Bool.and_eq_true _ _).mp h).2 (by simpa using hi)
theorem am_cell_ad {cA : Nat → ClassId} {ad ad2 : Nat → Nat} {v : am_V} {w : am_X} {n k : Nat} {y : am_S} (he : ∀ k, (k < n ∨ 1000 ≤ k) → ad2 k = ad k) (hy : am_rq n y.2.2 = true) : am_cell cA ad2 v w k y = am_cell cA ad v w k y := by
  have h1 : ∀ j : Nat, (y.2.2.getD j none).map ad2 = (y.2.2.getD j none).map ad := fun j => am_rq_eq he hy
  have h2 : ∀ ci : Nat, am_fs ad2 v k ci y.2.2 = am_fs ad v k ci y.2.2 := by
    intro ci
    unfold am_fs
    apply List.map_congr_left
    intro j _
    unfold am_fv
    rw [h1]
  unfold am_cell
  rw [h2]
  rw [show (fun j => (y.2.2.getD j none).map ad2) = (fun j => (y.2.2.getD j none).map ad) from funext h1]
/-- cells laid behind the others -/
theorem am_cw_app {cA : Nat → ClassId} {ad ad2 : Nat → Nat} {sh zs : List am_S} {v : am_V} {w : am_X} {es : va_W} (he : ∀ k, (k < sh.length ∨ 1000 ≤ k) → ad2 k = ad k) (hh : am_rh sh.length sh = true) (hes : (zs.mapIdx (fun i z => (ad2 (i + sh.length), am_cell cA ad2 v w (i + sh.length) z))) = es) : am_cw cA ad2 (sh ++ zs, v, w) = am_cw cA ad (sh, v, w) ++ es := by
  unfold am_cw
  dsimp only
  rw [List.mapIdx_append, hes]
  congr 1
  apply List.ext_getElem?
  intro i
  rw [List.getElem?_mapIdx, List.getElem?_mapIdx]
  cases h : sh[i]? with
  | none => rfl
  | some y =>
    have hi : i < sh.length := (List.getElem?_eq_some_iff.mp h).1
    show some (ad2 i, am_cell cA ad2 v w i y) = some (ad i, am_cell cA ad v w i y)
    rw [he i (Or.inl hi), am_cell_ad he (am_rh_at hh h)]
theorem am_nones_at : ∀ (n j : Nat), (am_nones n).getD j none = none
  | 0, j => by simp [am_nones]
  | n + 1, 0 => rfl
  | n + 1, j + 1 => by
    simp only [am_nones, List.getD_cons_succ]
    exact am_nones_at n j
/-- the relation behind new cells -/
theorem am_Rel.nw {s : State} {D : va_G} {cA : Nat → ClassId} {B : Nat} {cd : List am_E} {nL mc ms n0 : Nat} {ad0 : Nat → Nat} {q : am_E} {is : List am_E} {ls : am_L} {st st2 : List Value} {hp h2 : am_H} {nc ns c2 s2 : Nat} {ad ad2 : Nat → Nat} {H H1 : Heap} {locs : List Loc} {la : Array Slot} (hr : am_Rel s D cA B cd nL mc ms n0 ad0 (q :: is, ls, st, hp, nc, ns) ad H locs la) (he : ∀ k, (k < hp.1.length ∨ 1000 ≤ k) → ad2 k = ad k) (hl : am_rl hp.1.length ls = true) (hlen : hp.1.length ≤ h2.1.length) (hc : nc + c2 ≤ mc) (hs : ns + s2 ≤ ms) (h0 : 0 < c2) (hP : va_P D vwCl (am_cw cA ad2 h2) H1) (hD : va_D (fun a => B ≤ a) (am_cw cA ad2 h2)) (hS : va_S (fun a => B ≤ a) s.heap H1 locs) : am_Rel s D cA B cd nL mc ms n0 ad0 (is, ls, st2, h2, nc + c2, ns + s2) ad2 H1 locs la := by
  refine ⟨⟨(List.suffix_cons _ _).trans hr.1.1, fun z => absurd z (by omega), fun k hk => ?_, Nat.le_trans hr.1.2.2.2.1 hlen, hc, hs⟩, hP, hD, hS, am_LV.ad he hl hr.2.2.2.2⟩
  have hn : n0 ≤ hp.1.length := hr.1.2.2.2.1
  rw [he k (hk.elim (fun h => Or.inl (Nat.lt_of_lt_of_le h hn)) Or.inr)]
  exact hr.1.2.2.1 k hk
set_option maxHeartbeats 1000000 in
theorem am_s_new {p : Program} {l : Launch} {e : Env} {R : Room} {s : State} {m : MethodId} {args : Array Value} {below : List Frame} {meth : Method} {c : Code} {Qf : State → Prop} {D : va_G} {cA : Nat → ClassId} {B : Nat} {cd : List am_E} {nL mc ms n0 : Nat} {ad0 : Nat → Nat} {K : am_K} {I : am_I} {Tc : am_T} {Q : Option Value → am_H → Prop} {own : String} {bytes : ByteArray} {isI : Bool} {ret : Option FieldType} {Y : am_Y} (X : am_CX p R s m meth c D cA B cd nL mc ms ad0 K own bytes isI ret Y) {pc : Nat} {i : Nat} {rs : List Nat} {im : Int32} {wl : List Nat} {is : List am_E} {ls : am_L} {st : List Value} {hp : am_H} {nc ns : Nat} (h : am_step K I Tc cd mc ms Q (am_PW p l e R s m args below meth c Qf D cA B cd nL mc ms n0 ad0) ((pc, .new i, rs, im, wl) :: is, ls, st, hp, nc, ns)) : (am_PW p l e R s m args below meth c Qf D cA B cd nL mc ms n0 ad0) ((pc, .new i, rs, im, wl) :: is, ls, st, hp, nc, ns) := by
  intro ad H locs la hr
  obtain ⟨hx, hb, hml, hown, hisI, hTW, hK, hCU, hBs, hRc, hRf, hV⟩ := X
  have hok := hV _ _ hr.1.1
  obtain ⟨hd, hv⟩ := (Bool.and_eq_true _ _).mp hok
  obtain ⟨hdg, hpc⟩ := am_d_spec hd
  dsimp only [am_step] at h
  split at h
  · rename_i ci n
    split at h
    · rename_i hg
      obtain ⟨g1, hg⟩ := (Bool.and_eq_true _ _).mp hg
      obtain ⟨g2, hg⟩ := (Bool.and_eq_true _ _).mp hg
      obtain ⟨g3, g4⟩ := (Bool.and_eq_true _ _).mp hg
      obtain ⟨⟨hc1, hc2, hz⟩, h⟩ := h
      have g4 := am_blt g4
      split at hv
      · rename_i ci2 n2 wi wj wk he
        cases he
        split at hv
        · rename_i C T N hc
          obtain ⟨h1, hv⟩ := (Bool.and_eq_true _ _).mp hv
          obtain ⟨h2, hv⟩ := (Bool.and_eq_true _ _).mp hv
          obtain ⟨h3, h4⟩ := (Bool.and_eq_true _ _).mp hv
          obtain ⟨rfl, hci⟩ := of_decide_eq_true h1
          obtain ⟨ty0, hty, hnm, -⟩ := am_cls hc
          refine va_new (fs := am_fs ad hp.2.1 hp.1.length ci (am_nones n)) hx hb (am_hts hTW hc args) (fun _ h => h) ty0 hty hown (hTW.at (of_decide_eq_true h2) rfl args) (hTW.at (of_decide_eq_true h3) rfl args) (hTW.at (of_decide_eq_true h4) rfl args) hK hr.2.1 hr.2.2.1 hr.2.2.2.1 (fun q hq => Nat.le_trans hBs hq) hc (fun j hj => ?_) (Nat.le_trans hc1 hRc.1) (Nat.le_trans hc2 hRc.2) hdg (fun q H1 hP hD hS => ?_)
          · rw [vp_V, List.getD_eq_getElem?_getD, am_fs_at (by rw [am_nf_eq hc]; exact hj)]
            show _ = am_fv ad hp.2.1 hp.1.length ci (am_nones n) j
            have hp1 := hty j hj
            unfold am_fv
            cases hR : am_isR ci j with
            | true =>
              have h5 := am_refs hc hj hR
              unfold am_isRT at h5
              rw [hp1] at h5
              rw [am_nones_at]
              split at h5
              · rename_i h6
                rw [Option.some.inj h6]
                rfl
              · rename_i h6
                rw [Option.some.inj h6]
                rfl
              · cases h5
            | false =>
              show defaultValue (ty0 j) = .int (hp.2.1 hp.1.length j)
              rw [hz j]
              rcases am_isR_int hc hR with h6 | h6
              · rw [h6] at hp1
                rw [← Option.some.inj hp1]
                rfl
              · rw [h6] at hp1
                rw [← Option.some.inj hp1]
                rfl
          · have he : ∀ k, (k < hp.1.length ∨ 1000 ≤ k) → (fun k => if k = hp.1.length then q else ad k) k = ad k := by
              intro k hk
              have : k ≠ hp.1.length := by omega
              simp [this]
            have e : am_cw cA (fun k => if k = hp.1.length then q else ad k) (hp.1 ++ [(ci, 0, am_nones n)], hp.2.1, hp.2.2) = am_cw cA ad hp ++ [(q, .inr (ci, am_fs ad hp.2.1 hp.1.length ci (am_nones n)))] := by
              refine am_cw_app he g3 ?_
              simp only [List.mapIdx_cons, List.mapIdx_nil, Nat.zero_add]
              rw [am_cell_lt hci]
              have : am_fs (fun k => if k = hp.1.length then q else ad k) hp.2.1 hp.1.length ci (am_nones n) = am_fs ad hp.2.1 hp.1.length ci (am_nones n) := by
                unfold am_fs
                apply List.map_congr_left
                intro j _
                unfold am_fv
                rw [am_nones_at]
                rfl
              rw [this, if_pos trivial]
            rw [← e] at hP hD
            have k := h (fun k => if k = hp.1.length then q else ad k) H1 locs la (hr.nw he g1 (by simp) hc1 hc2 (by decide) hP hD hS)
            dsimp only at k
            rw [hpc, List.map_cons, am_rs_eq he g2, show am_v (fun k => if k = hp.1.length then q else ad k) (.ref hp.1.length) = .ref q by simp [am_v]] at k
            exact k
        · cases hv
      · cases hv
    · exact h.elim
  · exact h.elim
set_option maxHeartbeats 1000000 in
theorem am_s_newarray {p : Program} {l : Launch} {e : Env} {R : Room} {s : State} {m : MethodId} {args : Array Value} {below : List Frame} {meth : Method} {c : Code} {Qf : State → Prop} {D : va_G} {cA : Nat → ClassId} {B : Nat} {cd : List am_E} {nL mc ms n0 : Nat} {ad0 : Nat → Nat} {K : am_K} {I : am_I} {Tc : am_T} {Q : Option Value → am_H → Prop} {own : String} {bytes : ByteArray} {isI : Bool} {ret : Option FieldType} {Y : am_Y} (X : am_CX p R s m meth c D cA B cd nL mc ms ad0 K own bytes isI ret Y) {pc : Nat} {ty : ArrayType} {rs : List Nat} {im : Int32} {wl : List Nat} {is : List am_E} {ls : am_L} {st : List Value} {hp : am_H} {nc ns : Nat} (h : am_step K I Tc cd mc ms Q (am_PW p l e R s m args below meth c Qf D cA B cd nL mc ms n0 ad0) ((pc, .newarray ty, rs, im, wl) :: is, ls, st, hp, nc, ns)) : (am_PW p l e R s m args below meth c Qf D cA B cd nL mc ms n0 ad0) ((pc, .newarray ty, rs, im, wl) :: is, ls, st, hp, nc, ns) := by
  intro ad H locs la hr
  obtain ⟨hx, hb, hml, hown, hisI, hTW, hK, hCU, hBs, hRc, hRf, hV⟩ := X
  have hok := hV _ _ hr.1.1
  obtain ⟨hd, hv⟩ := (Bool.and_eq_true _ _).mp hok
  obtain ⟨hdg, hpc⟩ := am_d_spec hd
  dsimp only [am_step] at h
  split at h
  · rename_i kd n x r
    split at h
    · rename_i hg
      obtain ⟨g1, hg⟩ := (Bool.and_eq_true _ _).mp hg
      obtain ⟨g2, hg⟩ := (Bool.and_eq_true _ _).mp hg
      obtain ⟨g3, g4⟩ := (Bool.and_eq_true _ _).mp hg
      obtain ⟨⟨rfl, hc1, hc2, hz, hzX⟩, h⟩ := h
      have g4 := am_blt g4
      split at hv
      · rename_i kd2 n2 wi he
        cases he
        obtain ⟨h1, hv⟩ := (Bool.and_eq_true _ _).mp hv
        obtain ⟨h2, h3⟩ := (Bool.and_eq_true _ _).mp hv
        obtain ⟨hN, hneg, hbig⟩ := of_decide_eq_true h1
        have hkd := of_decide_eq_true h3
        have hcell : ∀ (t0 : Nat) (fty : FieldType) (a0 : vp_A), newarray.typeOf ty = fty → (am_tys cA)[t0]? = some (cA kd, fty) → (∀ c : ClassId, c = c → vp_cell c a0 = arrV c n (fun _ => defaultValue fty)) → refKind fty = false → n * componentBytes fty ≤ 536870912 → (∀ ad2 : Nat → Nat, am_cell cA ad2 hp.2.1 hp.2.2 hp.1.length (kd, n, []) = .inl (cA kd, a0)) → (∀ c2 : ClassId, va_RA s c2 fty → va_RA s (cA kd) fty → c2 = cA kd) → W p l e R s m args below meth c H locs nc ns Qf (F0 m pc la (.int x :: List.map (am_v ad) r)) := by
          intro t0 fty a0 hty ht ha hrk hbytes hac hinj
          refine va_newa hx hb (hTW.at (of_decide_eq_true h2) rfl args) hty hK hr.2.1 hr.2.2.1 hr.2.2.2.1 (fun q hq => Nat.le_trans hBs hq) (fun c => ha c rfl) hneg hN hbytes (Nat.le_trans hc1 hRc.1) (Nat.le_trans hc2 hRc.2) hdg (fun q c2 H1 hK2 hP hD hS => ?_)
          have hcc : c2 = cA kd := hinj c2 ((hK2.2 (am_tys cA).length (c2, fty) (by simp)).2) ((hK.2 t0 _ ht).2)
          subst hcc
          have he : ∀ k, (k < hp.1.length ∨ 1000 ≤ k) → (fun k => if k = hp.1.length then q else ad k) k = ad k := by
            intro k hk
            have : k ≠ hp.1.length := by omega
            simp [this]
          have e : am_cw cA (fun k => if k = hp.1.length then q else ad k) (hp.1 ++ [(kd, n, [])], hp.2.1, hp.2.2) = am_cw cA ad hp ++ [(q, .inl (cA kd, a0))] := by
            refine am_cw_app he g3 ?_
            simp only [List.mapIdx_cons, List.mapIdx_nil, Nat.zero_add]
            rw [hac, if_pos trivial]
          rw [← e] at hP hD
          have k := h (fun k => if k = hp.1.length then q else ad k) H1 locs la (hr.nw he g1 (by simp) hc1 hc2 (by decide) hP hD hS)
          dsimp only at k
          rw [hpc, List.map_cons, am_rs_eq he g2, show am_v (fun k => if k = hp.1.length then q else ad k) (.ref hp.1.length) = .ref q by simp [am_v]] at k
          exact k
        have hz2 : hp.2.1 hp.1.length = fun _ => 0 := funext hz
        have hz3 : hp.2.2 hp.1.length = fun _ => 0 := funext hzX
        have hb4 : ∀ b : Nat, b ≤ 8 → n * b ≤ 536870912 := fun b hb => Nat.le_trans (Nat.mul_le_mul hbig hb) (by decide)
        rcases hkd with ⟨rfl, rfl⟩ | ⟨rfl, rfl⟩ | ⟨rfl, rfl⟩ | ⟨rfl, rfl⟩
        · exact hcell 0 .int (n, .inl (hp.2.1 hp.1.length)) rfl rfl (fun c _ => by rw [vp_cell_i, hz2]; rfl) rfl (hb4 _ (by decide)) (fun _ => rfl) (fun c2 q1 q2 => Option.some.inj ((show s.vm.findClass _ = some c2 from q1).symm.trans (show s.vm.findClass _ = some (cA 100) from q2)))
        · exact hcell 1 .boolean (n, .inl (hp.2.1 hp.1.length)) rfl rfl (fun c _ => by rw [vp_cell_i, hz2]; rfl) rfl (hb4 _ (by decide)) (fun _ => rfl) (fun c2 q1 q2 => Option.some.inj ((show s.vm.findClass _ = some c2 from q1).symm.trans (show s.vm.findClass _ = some (cA 101) from q2)))
        · exact hcell 2 .byte (n, .inl (hp.2.1 hp.1.length)) rfl rfl (fun c _ => by rw [vp_cell_i, hz2]; rfl) rfl (hb4 _ (by decide)) (fun _ => rfl) (fun c2 q1 q2 => Option.some.inj ((show s.vm.findClass _ = some c2 from q1).symm.trans (show s.vm.findClass _ = some (cA 102) from q2)))
        · exact hcell 3 .long (n, .inr (.inl (hp.2.2 hp.1.length))) rfl rfl (fun c _ => by rw [vp_cell_l, hz3]; rfl) rfl (hb4 _ (by decide)) (fun _ => rfl) (fun c2 q1 q2 => Option.some.inj ((show s.vm.findClass _ = some c2 from q1).symm.trans (show s.vm.findClass _ = some (cA 103) from q2)))
      · cases hv
    · exact h.elim
  · exact h.elim
end
section
def va_AOA (ty : FieldType) (U : State) : Prop := (Jvm.Cond.arrayOver (.array ty)).before #[] U = true
theorem va_AOA.use {ty : FieldType} {A : Array Value} {U : State} (h : va_AOA ty U) : (Jvm.Cond.arrayOver (.array ty)).before A U = true := am_over_moved (Vm.Alike.refl U.vm) h
/-! ===== BEGIN new T[n][m]: the outer array a place, the inner ones among the pooled ===== -/
/-- f, but v at every address of l -/
def vr_up {α : Type} (f : Nat → α) (l : List Nat) (v : α) : Nat → α := fun a => if a ∈ l then v else f a
theorem vr_up_in {α : Type} {f : Nat → α} {l : List Nat} {v : α} {a : Nat} (h : a ∈ l) : vr_up f l v a = v := if_pos h
theorem vr_up_ne {α : Type} {f : Nat → α} {l : List Nat} {v : α} {a : Nat} (h : a ∉ l) : vr_up f l v a = f a := if_neg h
theorem vr_rows {L l : List Nat} {f : Nat → va_E} {e : va_E} (h : ∀ a, a ∈ l → a ∉ L) : va_pl L f ++ l.map (fun a => (a, e)) = va_pl (L ++ l) (vr_up f l e) := by
  unfold va_pl
  rw [List.map_append]
  congr 1
  · apply List.map_congr_left
    intro a ha
    rw [vr_up_ne (fun q => h a q ha)]
  · apply List.map_congr_left
    intro a ha
    rw [vr_up_in ha]
theorem vr_lay {X rows : va_W} {x : Nat × va_E} {pl : va_W} {D : va_G} {cl : List vw_C} {H : Heap} (hP : va_P D cl (((X ++ pl) ++ [x]) ++ rows) H) : va_P D cl ((X ++ [x]) ++ (pl ++ rows)) H := by
  rw [List.append_assoc (X ++ pl)] at hP
  have h := va_P.swap hP
  rw [← List.append_assoc X] at h
  have h2 := va_P.swap h
  rw [List.append_assoc (X ++ [x])] at h2
  exact h2
theorem vr_layD {X rows : va_W} {x : Nat × va_E} {pl : va_W} {A : Nat → Prop} (hD : va_D A (((X ++ pl) ++ [x]) ++ rows)) : va_D A ((X ++ [x]) ++ (pl ++ rows)) := by
  rw [List.append_assoc (X ++ pl)] at hD
  have h := va_D.swap hD
  rw [← List.append_assoc X] at h
  have h2 := va_D.swap h
  rw [List.append_assoc (X ++ [x])] at h2
  exact h2
theorem vr_outer (c : ClassId) (N h0 : Nat) : ∀ i : Nat, Jvm.Free.Multi.outerC c N h0 i = arrV c N (fun j => va_rf (if j < i then some (h0 + 1 + j) else none))
  | 0 => by
    show ({ cls := c, slots := Array.replicate N .null, vm := .none } : Cell) = _
    rw [arrV_new]
    refine congrArg (arrV c N) (funext fun j => ?_)
    simp [va_rf]
  | i + 1 => by
    show (Jvm.Free.Multi.outerC c N h0 i).setSlot i (.ref (h0 + 1 + i)) = _
    rw [vr_outer c N h0 i, arrV_store]
    refine congrArg (arrV c N) (funext fun j => ?_)
    by_cases e : j = i
    · subst e
      simp [updV, va_rf]
    · by_cases h : j < i
      · simp [updV, e, h, Nat.lt_succ_of_lt h]
      · simp [updV, e, h, show ¬ j < i + 1 by omega]
section VGM
variable {p : Program} {l : Launch} {e : Env} {R : Room} {s : State} {m : MethodId} {args : Array Value} {below : List Frame} {meth : Method} {c : Code} {H : Heap} {locs : List Loc} {cells slots : Nat} {Q : State → Prop}
variable {cc : ByteArray} {pc : Nat} {ls : Array Slot} {rest : List Value} {D : va_G} {cl : List vw_C} {A : Nat → Prop} {a : Nat} {tys : List (ClassId × FieldType)} {ws : va_W} {H0 : Heap}
theorem va_mna {X : va_W} {L : List Nat} {f : Nat → va_E} {cc : ByteArray} (hexec : p.tables.exec = Jvm.exec) (hb : c.code = cc) {own : String} {index : Nat} {ty : FieldType} {cy : ClassId} (hown : s.vm.findClass own = some m.cls) (hclink : (Cond.classLink own index ("[" ++ (FieldType.array ty).toString)).before args s = true) (hover : va_AOA ty s) (harr : (Cond.arrayClass ty).before args s = true) (hcy : s.vm.findClass (FieldType.array ty).toString = some cy)
    (hK : va_K D cl tys s) (hP : va_P D cl (X ++ va_pl L f) H) (hD : va_D A (X ++ va_pl L f)) (hS : va_S A H0 H locs) (hA : ∀ q, H0.size ≤ q → A q) {n k : Int32} {N' K' : Nat} {z : vp_A} (hn : ¬ n < 0) (hk : ¬ k < 0) (hN : n.toNatClampNeg = N') (hM : k.toNatClampNeg = K')
    (hb1 : N' * 4 ≤ 536870912) (hb2 : K' * componentBytes ty ≤ 536870912) (hb3 : K' ≤ 536870912) (hdf : fits ty (defaultValue ty) = true) (hdd : (defaultValue ty).isDefault = true) (hcells : cells + (1 + N') ≤ R.cells) (hslots : slots + (N' + N' * K') ≤ R.slots) (hz : ∀ c : ClassId, Jvm.Free.Multi.innerC c K' (defaultValue ty) = vp_cell c z) (hdg : decode cc pc = .ok (.multianewarray index 2, 4))
    (kk : ∀ (q : Nat) (r : Nat → Nat) (cA : ClassId) (H1 : Heap), (∀ i j : Nat, i < N' → j < N' → r i = r j → i = j) → (∀ i : Nat, i < N' → r i ∉ L) → va_K D cl (tys ++ [(cA, .array ty)]) s →
      va_P D cl ((X ++ [(q, .inl (cA, N', .inr (.inr (.inr (.inr (fun i => if i < N' then some (r i) else none))))))]) ++ va_pl (L ++ (List.range N').map r) (vr_up f ((List.range N').map r) (.inl (cy, z)))) H1 → va_D A ((X ++ [(q, .inl (cA, N', .inr (.inr (.inr (.inr (fun i => if i < N' then some (r i) else none))))))]) ++ va_pl (L ++ (List.range N').map r) (vr_up f ((List.range N').map r) (.inl (cy, z)))) → va_S A H0 H1 locs →
      W p l e R s m args below meth c H1 locs (cells + 1 + N') (slots + N' + N' * K') Q (F0 m (pc + 4) ls (.ref q :: rest))) : W p l e R s m args below meth c H locs cells slots Q (F0 m pc ls (.int k :: .int n :: rest)) := by
  subst hN
  subst hM
  intro T hT Xs
  obtain ⟨vm₁, cA, comp, -, fA, fC, hO, -, X', step⟩ := Xs.multianewarray2F hexec hown hclink (va_AOA.use hover) harr (g := F0 m pc ls (.int k :: .int n :: rest)) rfl (by rw [hb]; exact hdg) rfl hn hk hb1 hb2 hb3 hdf hdd hcells hslots
  have ec : some cy = some comp := hcy.symm.trans fC
  cases ec
  generalize hF : Jvm.Free.Multi.fill (T.setVm vm₁) cA cy n.toNatClampNeg k.toNatClampNeg (defaultValue ty) n.toNatClampNeg = F at X' step
  have hTh : (T.setVm vm₁).heap = H := hT
  obtain ⟨f1, f2, -, -⟩ := Jvm.Free.Multi.fill_facts (T.setVm vm₁) cA cy n.toNatClampNeg k.toNatClampNeg (defaultValue ty) n.toNatClampNeg
  rw [hF, hTh] at f1 f2
  have hold : ∀ x : Nat, x < H.size → F.heap[x]? = H[x]? := fun x hx => by
    have := Jvm.Free.Multi.fill_old (T.setVm vm₁) cA cy n.toNatClampNeg k.toNatClampNeg (defaultValue ty) (a := x) (by rw [hTh]; exact hx) n.toNatClampNeg
    rw [hF, hTh] at this
    exact this
  have hrow : ∀ j : Nat, j < n.toNatClampNeg → F.heap[H.size + 1 + j]? = some (vp_cell cy z) := fun j hj => by
    have := Jvm.Free.Multi.fill_inner (T.setVm vm₁) cA cy n.toNatClampNeg k.toNatClampNeg (defaultValue ty) n.toNatClampNeg j hj
    rw [hF, hTh, hz] at this
    exact this
  have hout : Jvm.Free.Multi.outerC cA n.toNatClampNeg H.size n.toNatClampNeg = vp_cell cA (n.toNatClampNeg, .inr (.inr (.inr (.inr (fun i => if i < n.toNatClampNeg then some (H.size + 1 + i) else none))))) := by
    rw [vp_cell_q]
    exact vr_outer cA n.toNatClampNeg H.size n.toNatClampNeg
  rw [hout] at f2
  have hlt : ∀ a, a ∈ L → a < H.size := fun a ha => by
    obtain ⟨k9, hk9⟩ := va_pl_get (X := X) (f := f) ha
    exact (hP k9 _ hk9).lt
  have hnl : ∀ i : Nat, i < n.toNatClampNeg → H.size + 1 + i ∉ L := fun i _ h => by
    have := hlt _ h
    omega
  have hnm : ∀ a, a ∈ (List.range n.toNatClampNeg).map (fun i => H.size + 1 + i) → a ∉ L := fun a ha h => by
    obtain ⟨i, -, rfl⟩ := List.mem_map.mp ha
    have := hlt _ h
    omega
  have hP0 : va_P D cl (X ++ va_pl L f) F.heap := hP.kept (fun k9 x hx => hold x.1 ((hP k9 x hx).lt))
  have hP1 : va_P D cl ((X ++ va_pl L f) ++ [(H.size, .inl (cA, n.toNatClampNeg, .inr (.inr (.inr (.inr (fun i => if i < n.toNatClampNeg then some (H.size + 1 + i) else none))))))]) F.heap := hP0.app (fun k9 x hx => by
    have h0 : k9 < 1 := (List.getElem?_eq_some_iff.mp hx).1
    rw [show k9 = 0 by omega] at hx
    cases hx
    exact f2)
  have hP2 : va_P D cl (((X ++ va_pl L f) ++ [(H.size, .inl (cA, n.toNatClampNeg, .inr (.inr (.inr (.inr (fun i => if i < n.toNatClampNeg then some (H.size + 1 + i) else none))))))]) ++ ((List.range n.toNatClampNeg).map (fun i => H.size + 1 + i)).map (fun a => (a, .inl (cy, z)))) F.heap := hP1.app (fun k9 x hx => by
    obtain ⟨a, ha, rfl⟩ := List.mem_map.mp (List.mem_of_getElem? hx)
    obtain ⟨i, hi, rfl⟩ := List.mem_map.mp ha
    exact hrow i (List.mem_range.mp hi))
  have hD2 : va_D A (((X ++ va_pl L f) ++ [(H.size, .inl (cA, n.toNatClampNeg, .inr (.inr (.inr (.inr (fun i => if i < n.toNatClampNeg then some (H.size + 1 + i) else none))))))]) ++ ((List.range n.toNatClampNeg).map (fun i => H.size + 1 + i)).map (fun a => (a, .inl (cy, z)))) := by
    have hD1 := hD.push (e := .inl (cA, n.toNatClampNeg, .inr (.inr (.inr (.inr (fun i => if i < n.toNatClampNeg then some (H.size + 1 + i) else none)))))) hP rfl (hA _ hS.1)
    generalize hW1 : (X ++ va_pl L f) ++ [(H.size, .inl (cA, n.toNatClampNeg, .inr (.inr (.inr (.inr (fun i => if i < n.toNatClampNeg then some (H.size + 1 + i) else none))))))] = W1 at hD1 hP1 ⊢
    have hle : ∀ (k9 : Nat) (x : Nat × va_E), W1[k9]? = some x → x.1 ≤ H.size := fun k9 x hx => by
      rw [← hW1] at hx
      by_cases hl : k9 < (X ++ va_pl L f).length
      · rw [List.getElem?_append_left hl] at hx
        exact Nat.le_of_lt ((hP k9 x hx).lt)
      · rw [List.getElem?_append_right (by omega)] at hx
        have h0 : k9 - (X ++ va_pl L f).length < 1 := (List.getElem?_eq_some_iff.mp hx).1
        rw [show k9 - (X ++ va_pl L f).length = 0 by omega] at hx
        cases hx
        exact Nat.le_refl _
    have hr : ∀ (k9 : Nat) (x : Nat × va_E), (((List.range n.toNatClampNeg).map (fun i => H.size + 1 + i)).map (fun a => ((a, .inl (cy, z)) : Nat × va_E)))[k9]? = some x → x.1 = H.size + 1 + k9 := fun k9 x hx => by
      rw [List.getElem?_map, List.getElem?_map] at hx
      by_cases h9 : k9 < n.toNatClampNeg
      · rw [List.getElem?_range h9] at hx
        cases hx
        rfl
      · have hn0 : (List.range n.toNatClampNeg)[k9]? = none := List.getElem?_eq_none (by rw [List.length_range]; omega)
        rw [hn0] at hx
        cases hx
    refine ⟨fun i j x y hi hj hxy => ?_, fun k9 x hx => ?_⟩
    · by_cases h1 : i < W1.length <;> by_cases h2 : j < W1.length
      · rw [List.getElem?_append_left h1] at hi
        rw [List.getElem?_append_left h2] at hj
        exact hD1.1 i j x y hi hj hxy
      · rw [List.getElem?_append_left h1] at hi
        rw [List.getElem?_append_right (by omega)] at hj
        have := hle _ _ hi
        have := hr _ _ hj
        omega
      · rw [List.getElem?_append_right (by omega)] at hi
        rw [List.getElem?_append_left h2] at hj
        have := hle _ _ hj
        have := hr _ _ hi
        omega
      · rw [List.getElem?_append_right (by omega)] at hi hj
        have := hr _ _ hi
        have := hr _ _ hj
        omega
    · by_cases h1 : k9 < W1.length
      · rw [List.getElem?_append_left h1] at hx
        exact hD1.2 k9 x hx
      · rw [List.getElem?_append_right (by omega)] at hx
        have := hr _ _ hx
        exact hA _ (by have := hS.1; omega)
  have hAr : ArrOfT s cA (.array ty) := fun N9 z9 => by
    obtain ⟨-, k9, hk9, cm9, hkk9⟩ := (hO 0 0 0).1
    exact ⟨(fun q hq => by cases hq), k9, hk9, cm9, hkk9⟩
  have hK2 : va_K D cl (tys ++ [(cA, .array ty)]) s := ⟨hK.1, fun k9 x hx => by
    by_cases hl : k9 < tys.length
    · rw [List.getElem?_append_left hl] at hx
      exact hK.2 k9 x hx
    · rw [List.getElem?_append_right (by omega)] at hx
      have h0 : k9 - tys.length < 1 := (List.getElem?_eq_some_iff.mp hx).1
      rw [show k9 - tys.length = 0 by omega] at hx
      cases hx
      exact ⟨hAr, fA⟩⟩
  obtain ⟨t, a1, b1⟩ := kk H.size (fun i => H.size + 1 + i) cA F.heap (fun i j _ _ h => by have h9 : H.size + 1 + i = H.size + 1 + j := h; omega) hnl hK2 (by rw [← vr_rows hnm]; exact vr_lay hP2) (by rw [← vr_rows hnm]; exact vr_layD hD2) ⟨by rw [f1]; have := hS.1; omega, fun x h1 h2 => (hold x (Nat.lt_of_lt_of_le h1 hS.1)).trans (hS.2.1 x h1 h2), hS.2.2⟩ F rfl X'
  refine ⟨t, step t ?_, b1⟩
  have e : T.heap.size = H.size := by rw [hT]
  rw [e]
  exact a1
end VGM
/-! ===== END ===== -/
end
section
/-! ===== rows of ints ===== -/
theorem am_rows_at : ∀ (n b j : Nat), (am_rows b n).getD j none = if j < n then some (b + j) else none
  | 0, b, j => by simp [am_rows]
  | n + 1, b, 0 => by simp [am_rows]
  | n + 1, b, j + 1 => by
    simp only [am_rows, List.getD_cons_succ, am_rows_at n (b + 1) j]
    by_cases h : j < n
    · rw [if_pos h, if_pos (by omega)]
      congr 1
      omega
    · rw [if_neg h, if_neg (by omega)]
theorem am_reps_eq : ∀ (n : Nat) (z : am_S), am_reps n z = List.replicate n z
  | 0, _ => rfl
  | n + 1, z => by rw [am_reps, am_reps_eq n z]; rfl
theorem am_reps_len (n : Nat) (z : am_S) : (am_reps n z).length = n := by rw [am_reps_eq]; simp
set_option maxHeartbeats 1000000 in
theorem am_s_multianewarray {p : Program} {l : Launch} {e : Env} {R : Room} {s : State} {m : MethodId} {args : Array Value} {below : List Frame} {meth : Method} {c : Code} {Qf : State → Prop} {D : va_G} {cA : Nat → ClassId} {B : Nat} {cd : List am_E} {nL mc ms n0 : Nat} {ad0 : Nat → Nat} {K : am_K} {I : am_I} {Tc : am_T} {Q : Option Value → am_H → Prop} {own : String} {bytes : ByteArray} {isI : Bool} {ret : Option FieldType} {Y : am_Y} (X : am_CX p R s m meth c D cA B cd nL mc ms ad0 K own bytes isI ret Y) {pc : Nat} {i dims : Nat} {rs : List Nat} {im : Int32} {wl : List Nat} {is : List am_E} {ls : am_L} {st : List Value} {hp : am_H} {nc ns : Nat} (h : am_step K I Tc cd mc ms Q (am_PW p l e R s m args below meth c Qf D cA B cd nL mc ms n0 ad0) ((pc, .multianewarray i dims, rs, im, wl) :: is, ls, st, hp, nc, ns)) : (am_PW p l e R s m args below meth c Qf D cA B cd nL mc ms n0 ad0) ((pc, .multianewarray i dims, rs, im, wl) :: is, ls, st, hp, nc, ns) := by
  intro ad H locs la hr
  obtain ⟨hx, hb, hml, hown, hisI, hTW, hK, hCU, hBs, hRc, hRf, hV⟩ := X
  have hok := hV _ _ hr.1.1
  obtain ⟨hd, hv⟩ := (Bool.and_eq_true _ _).mp hok
  obtain ⟨hdg, hpc⟩ := am_d_spec hd
  dsimp only [am_step] at h
  split at h
  · rename_i n n2 y x r
    split at h
    · rename_i hg
      obtain ⟨g1, hg⟩ := (Bool.and_eq_true _ _).mp hg
      obtain ⟨g2, hg⟩ := (Bool.and_eq_true _ _).mp hg
      obtain ⟨g3, g4⟩ := (Bool.and_eq_true _ _).mp hg
      obtain ⟨⟨hx1, hy1, hc1, hc2, hz⟩, h⟩ := h
      have g4 := am_blt g4
      split at hv
      · rename_i n9 n8 wi wj wk he
        cases he
        obtain ⟨h1, hv⟩ := (Bool.and_eq_true _ _).mp hv
        obtain ⟨h2, hv⟩ := (Bool.and_eq_true _ _).mp hv
        obtain ⟨h3, h4⟩ := (Bool.and_eq_true _ _).mp hv
        obtain ⟨hN, hneg, hn2, hbig, hdm⟩ := of_decide_eq_true h1
        subst hdm
        have hn3 := hn2.symm
        subst hn3
        subst hx1
        subst hy1
        have hov : va_AOA .int s := hTW.at (of_decide_eq_true h3) rfl #[]
        have hcl : (Jvm.Cond.classLink own i ("[" ++ (FieldType.array .int).toString)).before args s = true := hTW.at (of_decide_eq_true h2) rfl args
        have hcy : s.vm.findClass (FieldType.array .int).toString = some (cA 100) := (hK.2 0 (cA 100, .int) rfl).2
        have hb4 : ∀ b : Nat, b ≤ 8 → n * b ≤ 536870912 := fun b hb => Nat.le_trans (Nat.mul_le_mul hbig hb) (by decide)
        refine va_mna (X := am_cw cA ad hp) (L := []) (f := fun _ => .inr (0, [])) (z := (n, .inl (fun _ => 0))) hx hb hown hcl hov (hTW.at (of_decide_eq_true h4) rfl args) hcy hK (by simpa [va_pl] using hr.2.1) (by simpa [va_pl] using hr.2.2.1) hr.2.2.2.1 (fun q hq => Nat.le_trans hBs hq) hneg hneg hN hN (hb4 _ (by decide)) (hb4 _ (by decide)) (Nat.le_trans hbig (by decide)) rfl rfl (Nat.le_trans hc1 hRc.1) (Nat.le_trans hc2 hRc.2) (fun c => ?_) hdg (fun q rr c2 H1 hinj hnl hK2 hP hD hS => ?_)
        · rw [vp_cell_i]
          show ({ cls := c, slots := Array.replicate n (.int 0), vm := .none } : Cell) = _
          rw [arrV_new]
        · have hcc : c2 = cA 104 := by
            have q1 := (hK2.2 (am_tys cA).length (c2, .array .int) (by simp)).2
            have q2 := (hK.2 4 (cA 104, .array .int) rfl).2
            exact Option.some.inj ((show s.vm.findClass ("[" ++ (FieldType.array .int).toString) = some c2 from q1).symm.trans (show s.vm.findClass ("[" ++ (FieldType.array .int).toString) = some (cA 104) from q2))
          subst hcc
          have he : ∀ k, (k < hp.1.length ∨ 1000 ≤ k) → (fun k => if k = hp.1.length then q else if hp.1.length < k ∧ k ≤ hp.1.length + n then rr (k - hp.1.length - 1) else ad k) k = ad k := by
            intro k hk
            have a1 : k ≠ hp.1.length := by omega
            have a2 : ¬ (hp.1.length < k ∧ k ≤ hp.1.length + n) := by omega
            simp [a1, a2]
          generalize had2 : (fun k => if k = hp.1.length then q else if hp.1.length < k ∧ k ≤ hp.1.length + n then rr (k - hp.1.length - 1) else ad k) = ad2 at he
          have b1 : ad2 hp.1.length = q := by rw [← had2]; simp
          have b2 : ∀ j, j < n → ad2 (hp.1.length + 1 + j) = rr j := by
            intro j hj
            rw [← had2]
            have a1 : ¬ hp.1.length + 1 + j = hp.1.length := by omega
            have a2 : hp.1.length < hp.1.length + 1 + j ∧ hp.1.length + 1 + j ≤ hp.1.length + n := by omega
            have a3 : hp.1.length + 1 + j - hp.1.length - 1 = j := by omega
            simp only [a1, a2, a3, if_false, and_self, if_true]
          have e : am_cw cA ad2 (hp.1 ++ ((104, n, am_rows (hp.1.length + 1) n) :: am_reps n (100, n, [])), hp.2.1, hp.2.2) = am_cw cA ad hp ++ ([(q, .inl (cA 104, n, .inr (.inr (.inr (.inr (fun i => if i < n then some (rr i) else none))))))] ++ va_pl ([] ++ (List.range n).map rr) (vr_up (fun _ => .inr (0, [])) ((List.range n).map rr) (.inl (cA 100, (n, .inl (fun _ => 0)))))) := by
            refine am_cw_app he g3 ?_
            rw [List.mapIdx_cons, Nat.zero_add, b1, List.singleton_append]
            congr 1
            · rw [am_cell_q]
              congr 4
              rw [show (fun j => ((am_rows (hp.1.length + 1) n).getD j none).map ad2) = (fun i => if i < n then some (rr i) else none) from funext (fun j => by
                rw [am_rows_at]
                by_cases hj : j < n
                · rw [if_pos hj, if_pos hj, Option.map_some, b2 j hj]
                · rw [if_neg hj, if_neg hj]; rfl)]
            · apply List.ext_getElem?
              intro j
              rw [List.getElem?_mapIdx, am_reps_eq, List.nil_append]
              simp only [va_pl, List.map_map, List.getElem?_map, List.getElem?_replicate]
              by_cases hj : j < n
              · rw [if_pos hj, List.getElem?_range hj]
                show some _ = some _
                congr 1
                have c1 : j + 1 + hp.1.length = hp.1.length + 1 + j := by omega
                rw [c1, b2 j hj]
                dsimp only
                rw [am_cell_i (Or.inl rfl)]
                have c2 : hp.2.1 (hp.1.length + 1 + j) = fun _ => 0 := funext (fun i => by
                  have := hz (j + 1) i (by omega)
                  rw [show hp.1.length + (j + 1) = hp.1.length + 1 + j by omega] at this
                  exact this)
                rw [c2]
                show _ = (rr j, vr_up _ _ _ (rr j))
                rw [vr_up_in (List.mem_map.mpr ⟨j, List.mem_range.mpr hj, rfl⟩)]
              · rw [if_neg hj, List.getElem?_eq_none (by rw [List.length_range]; omega)]
                rfl
          rw [List.append_assoc, ← e] at hP hD
          have k := h ad2 H1 locs la (hr.nw he g1 (by simp) hc1 hc2 (by omega) hP hD hS)
          dsimp only at k
          rw [hpc, List.map_cons, am_rs_eq he g2, show am_v ad2 (.ref hp.1.length) = .ref q by simp [am_v, b1]] at k
          rw [Nat.add_assoc, Nat.add_assoc]
          exact k
      · cases hv
    · exact h.elim
  · exact h.elim
end
section
/-! ===== the machine does what the small machine does ===== -/
def am_RT (ret : Option FieldType) (ins : Instr) (o : Option Value) (st : List Value) : Prop := (∃ x : Int32, ins = .ireturn ∧ o = some (.int x) ∧ st = [.int x] ∧ (ret = some .int ∨ (ret = some .boolean ∧ (x = 0 ∨ x = 1)))) ∨ (∃ x : Int64, ins = .lreturn ∧ o = some (.long x) ∧ st = [.long x] ∧ ret = some .long) ∨ (∃ (k : Nat) (C : String), ins = .areturn ∧ o = some (.ref k) ∧ st = [.ref k] ∧ ret = some (.object C)) ∨ (ins = .return_ ∧ o = none ∧ st = [] ∧ ret = none)
set_option maxHeartbeats 4000000 in
theorem am_snd {p : Program} {l : Launch} {e : Env} {R : Room} {s : State} {m : MethodId} {args : Array Value} {below : List Frame} {meth : Method} {c : Code} {Qf : State → Prop} {D : va_G} {cA : Nat → ClassId} {B : Nat} {cd : List am_E} {nL mc ms n0 : Nat} {ad0 : Nat → Nat} {K : am_K} {I : am_I} {Tc : am_T} {Q : Option Value → am_H → Prop} {own : String} {bytes : ByteArray} {isI : Bool} {ret : Option FieldType} {Y : am_Y} {dd : Nat} (X : am_CX p R s m meth c D cA B cd nL mc ms ad0 K own bytes isI ret Y) (hI : am_IOK l B K I) (hTc : ∀ (mid : Nat) (as : List Value) (hp : am_H) (c2 s2 : Nat) (Q2 : Option Value → am_H → Prop), mid < am_N → Tc mid as hp c2 s2 Q2 → am_Met l Y D cA B K mid as hp c2 s2 Q2 dd) (hRd : dd + 9 ≤ R.frames ∧ 60 * dd + 460 ≤ R.locals) (hY : ∀ mid, mid < am_N → am_yok Y mid = true)
    (hret : ∀ {pc : Nat} {ins : Instr} {rs : List Nat} {im : Int32} {wl : List Nat} {is : List am_E} {ls : am_L} {st : List Value} {hp : am_H} {nc ns : Nat} {ad : Nat → Nat} {H : Heap} {locs : List Loc} {la : Array Slot}, am_Rel s D cA B cd nL mc ms n0 ad0 ((pc, ins, rs, im, wl) :: is, ls, st, hp, nc, ns) ad H locs la → decode bytes pc = .ok (ins, 1) → ∀ o : Option Value, Q o hp → am_RT ret ins o st → W p l e R s m args below meth c H locs nc ns Qf (F0 m pc la (st.map (am_v ad)))) :
    ∀ q : am_C, am_step K I Tc cd mc ms Q (am_PW p l e R s m args below meth c Qf D cA B cd nL mc ms n0 ad0) q → am_PW p l e R s m args below meth c Qf D cA B cd nL mc ms n0 ad0 q := by
  intro q h
  obtain ⟨is, ls, st, hp, nc, ns⟩ := q
  cases is with
  | nil => exact False.elim h
  | cons q is =>
  obtain ⟨pc, ins, rs, im, wl⟩ := q
  cases ins with
  | iconst _ => exact am_s_iconst X h
  | bipush _ => exact am_s_bipush X h
  | sipush _ => exact am_s_sipush X h
  | lconst _ => exact am_s_lconst X h
  | iload_n _ => exact am_s_iload_n X h
  | iload _ => exact am_s_iload X h
  | aload_n _ => exact am_s_aload_n X h
  | aload _ => exact am_s_aload X h
  | lload_n _ => exact am_s_lload_n X h
  | lload _ => exact am_s_lload X h
  | istore_n _ => exact am_s_istore_n X h
  | istore _ => exact am_s_istore X h
  | astore_n _ => exact am_s_astore_n X h
  | astore _ => exact am_s_astore X h
  | lstore_n _ => exact am_s_lstore_n X h
  | lstore _ => exact am_s_lstore X h
  | iinc _ _ => exact am_s_iinc X h
  | iadd => exact am_s_iadd X h
  | isub => exact am_s_isub X h
  | imul => exact am_s_imul X h
  | iand => exact am_s_iand X h
  | ior => exact am_s_ior X h
  | ixor => exact am_s_ixor X h
  | ishl => exact am_s_ishl X h
  | ishr => exact am_s_ishr X h
  | iushr => exact am_s_iushr X h
  | ineg => exact am_s_ineg X h
  | i2b => exact am_s_i2b X h
  | i2c => exact am_s_i2c X h
  | i2l => exact am_s_i2l X h
  | ladd => exact am_s_ladd X h
  | lcmp => exact am_s_lcmp X h
  | pop => exact am_s_pop X h
  | dup2 => exact am_s_dup2 X h
  | dup => exact am_s_dup X h
  | idiv => exact am_s_idiv X h
  | irem => exact am_s_irem X h
  | goto _ => exact am_s_goto X h
  | if_icmp _ _ => exact am_s_if_icmp X h
  | ifCond _ _ => exact am_s_ifCond X h
  | getfield _ => exact am_s_getfield X h
  | putfield _ => exact am_s_putfield X h
  | iaload => exact am_s_iaload X h
  | baload => exact am_s_baload X h
  | laload => exact am_s_laload X h
  | aaload => exact am_s_aaload X h
  | iastore => exact am_s_iastore X h
  | bastore => exact am_s_bastore X h
  | lastore => exact am_s_lastore X h
  | arraylength => exact am_s_arraylength X h
  | getstatic _ => exact am_s_getstatic X h
  | ldc _ => exact am_s_ldc X h
  | ldc_w _ => exact am_s_ldc_w X h
  | ldc2_w _ => exact am_s_ldc2_w X h
  | lookupswitch _ _ => exact am_s_lookupswitch X h
  | tableswitch _ _ _ _ => exact am_s_tableswitch X h
  | invokestatic _ => exact am_s_invokestatic X hI hTc hRd hY h
  | invokespecial _ => exact am_s_invokespecial X hI hTc hRd hY h
  | invokevirtual _ => exact am_s_invokevirtual X hI hTc hRd hY h
  | new _ => exact am_s_new X h
  | newarray _ => exact am_s_newarray X h
  | multianewarray _ _ => exact am_s_multianewarray X h
  | ireturn =>
    intro ad H locs la hr
    have hok := X.2.2.2.2.2.2.2.2.2.2.2 _ _ hr.1.1
    obtain ⟨hd, hv⟩ := (Bool.and_eq_true _ _).mp hok
    have hdg : decode bytes pc = .ok (.ireturn, 1) := of_decide_eq_true hd
    dsimp only [am_step] at h
    split at h
    · rename_i x
      have hv : decide (ret = some .int) = true := hv
      exact hret hr hdg _ h (Or.inl ⟨x, rfl, rfl, rfl, Or.inl (of_decide_eq_true hv)⟩)
    · rename_i x
      have hv : decide (ret = some .boolean) = true := hv
      exact hret hr hdg _ h.2 (Or.inl ⟨x, rfl, rfl, rfl, Or.inr ⟨of_decide_eq_true hv, h.1⟩⟩)
    · exact h.elim
  | lreturn =>
    intro ad H locs la hr
    have hok := X.2.2.2.2.2.2.2.2.2.2.2 _ _ hr.1.1
    obtain ⟨hd, hv⟩ := (Bool.and_eq_true _ _).mp hok
    have hdg : decode bytes pc = .ok (.lreturn, 1) := of_decide_eq_true hd
    dsimp only [am_step] at h
    split at h
    · rename_i x
      exact hret hr hdg _ h (Or.inr (Or.inl ⟨x, rfl, rfl, rfl, of_decide_eq_true hv⟩))
    · exact h.elim
  | areturn =>
    intro ad H locs la hr
    have hok := X.2.2.2.2.2.2.2.2.2.2.2 _ _ hr.1.1
    obtain ⟨hd, hv⟩ := (Bool.and_eq_true _ _).mp hok
    have hdg : decode bytes pc = .ok (.areturn, 1) := of_decide_eq_true hd
    dsimp only [am_step] at h
    split at h
    · rename_i x
      split at hv
      · exact hret hr hdg _ h (Or.inr (Or.inr (Or.inl ⟨x, _, rfl, rfl, rfl, rfl⟩)))
      · cases hv
    · exact h.elim
  | return_ =>
    intro ad H locs la hr
    have hok := X.2.2.2.2.2.2.2.2.2.2.2 _ _ hr.1.1
    obtain ⟨hd, hv⟩ := (Bool.and_eq_true _ _).mp hok
    have hdg : decode bytes pc = .ok (.return_, 1) := of_decide_eq_true hd
    dsimp only [am_step] at h
    split at h
    · exact hret hr hdg _ h (Or.inr (Or.inr (Or.inr ⟨rfl, rfl, rfl, of_decide_eq_true hv⟩)))
    · exact h.elim
  | _ => exact False.elim h
theorem am_ent_len : ∀ (n : Nat) (as : List Value), (am_ent n as).length = n
  | 0, _ => rfl
  | n + 1, [] => by simp [am_ent, am_ent_len n []]
  | n + 1, v :: vs => by
    unfold am_ent
    split
    · cases n with
      | zero => rfl
      | succ k => simp [am_ent_len k vs]
    · simp [am_ent_len n vs]
theorem am_isL_t {v : Value} (h : am_isL (some v) = true) : v.category = 2 := by cases v <;> simp [am_isL, Value.category] at h ⊢
theorem am_isL_f {v : Value} (h : am_isL (some v) = false) : v.category = 1 := by cases v <;> simp [am_isL, Value.category] at h ⊢
theorem am_ent_at {ad : Nat → Nat} : ∀ (n : Nat) (as : List Value) (b i : Nat) (v : Value), am_get (am_ent n as) i = some v → (b + i, am_v ad v) ∈ lv_args b (as.map (am_v ad))
  | 0, as, b, i, v, h => by simp [am_ent, am_get] at h
  | n + 1, [], b, i, v, h => by
    exfalso
    cases i with
    | zero => cases h
    | succ i =>
      have : ∀ (m j : Nat), am_get (am_ent m []) j = none := by
        intro m
        induction m with
        | zero => intro j; rfl
        | succ m ih => intro j; cases j with
          | zero => rfl
          | succ j => exact ih j
      rw [show am_get (am_ent (n + 1) []) (i + 1) = am_get (am_ent n []) i from rfl, this] at h
      cases h
  | n + 1, w :: vs, b, i, v, h => by
    unfold am_ent at h
    split at h
    · rename_i hL
      have hc : (am_v ad w).category = 2 := by rw [am_v_cat]; exact am_isL_t hL
      rw [List.map_cons]
      unfold lv_args
      simp only [hc, if_true]
      cases i with
      | zero =>
        cases h
        exact List.mem_cons_self
      | succ i => cases n with
        | zero => cases i <;> cases h
        | succ k => cases i with
          | zero => cases h
          | succ i =>
            have := am_ent_at (ad := ad) k vs (b + 2) i v h
            rw [show b + 2 + i = b + (i + 1 + 1) by omega] at this
            exact List.mem_cons_of_mem _ this
    · rename_i hL
      have hc : ¬ (am_v ad w).category = 2 := by rw [am_v_cat, am_isL_f hL]; decide
      rw [List.map_cons]
      unfold lv_args
      simp only [hc, if_false]
      cases i with
      | zero =>
        cases h
        exact List.mem_cons_self
      | succ i =>
        have := am_ent_at (ad := ad) n vs (b + 1) i v h
        rw [show b + 1 + i = b + (i + 1) by omega] at this
        exact List.mem_cons_of_mem _ this
theorem am_sl_len (ad : Nat → Nat) : ∀ as : List Value, (lg_sl (as.map (am_v ad))).length = am_ws as
  | [] => rfl
  | v :: vs => by
    have := am_sl_len ad vs
    cases v <;> simp [lg_sl, am_v, am_ws, Value.category] at this ⊢ <;> omega
end
section
/-- a method's list is right -/
def am_mok (Y : am_Y) (M : am_M) (mid : Nat) : Bool := am_chk Y (Y mid).1.cls (Y mid).2.1 (decide ((Y mid).1.name = "<init>")) (Y mid).2.2.2.1 (M mid).1 (M mid).1 && (Nat.beq (am_pcl (M mid).1) 0 && Nat.beq (M mid).2 (Y mid).2.2.1)
set_option maxHeartbeats 4000000 in
/-- THE MACHINE DOES WHAT THE SMALL MACHINE DOES: a run of it is a contract -/
theorem am_run_snd {l : Launch} {K : am_K} {I : am_I} {M : am_M} {Y : am_Y} {D : va_G} {cA : Nat → ClassId} {B : Nat} (hI : am_IOK l B K I) (hY : ∀ mid, mid < am_N → am_yok Y mid = true) (hM : ∀ mid, mid < am_N → am_mok Y M mid = true) : ∀ (d mid : Nat) (as : List Value) (hp : am_H) (mc ms : Nat) (Q : Option Value → am_H → Prop), mid < am_N → am_run K I M d mid as hp mc ms Q → am_Met l Y D cA B K mid as hp mc ms Q d
  | 0, mid, as, hp, mc, ms, Q, hm, h => False.elim h
  | d + 1, mid, as, hp, mc, ms, Q, hm, h => by
    intro ad0
    obtain ⟨hsz, h⟩ := h
    have hsz := Nat.le_of_ble_eq_true hsz
    obtain ⟨y1, y2, y3, y4, y5⟩ := am_yok_spec (hY mid hm)
    obtain ⟨m1, m2⟩ := (Bool.and_eq_true _ _).mp (hM mid hm)
    obtain ⟨m2, m3⟩ := (Bool.and_eq_true _ _).mp m2
    have m2 := Nat.eq_of_beq_eq_true m2
    have m3 := Nat.eq_of_beq_eq_true m3
    refine Met.ofW (cc := (Y mid).2.1) (maxL := (Y mid).2.2.1) (ret := (Y mid).2.2.2.1) y5 rfl ?_
    intro p e s m args below meth c s₁ Bd hml hv
    obtain ⟨rfl, hBs, hTW, hK, hCU, hP, hD⟩ := hv
    have hx := Bd.exec
    have hb := Bd.bytes
    have hrt := Bd.returns
    have hlocks := Bd.notSynchronized
    have hown : s.vm.findClass (Y mid).1.cls = some m.cls := findClass_of_methodNamed Bd.named
    have hX : am_CX p (am_rm (d + 1) mc ms) s m meth c D cA B (M mid).1 (Y mid).2.2.1 mc ms ad0 K (Y mid).1.cls (Y mid).2.1 (decide ((Y mid).1.name = "<init>")) (Y mid).2.2.2.1 Y := by
      refine ⟨hx, hb, hml, hown, fun hi => ?_, hTW, hK, hCU, hBs, ⟨Nat.le_refl _, Nat.le_refl _⟩, ⟨?_, ?_⟩, fun q is hq => am_chk_suf _ m1 q is hq⟩
      · rw [(name_of_methodNamed Bd.named Bd.method).1]
        exact of_decide_eq_true hi
      · show 8 ≤ d + 1 + 8
        omega
      · show 400 ≤ 60 * (d + 1) + 400
        omega
    have key := h _ (am_snd (p := p) (l := l) (e := e) (R := am_rm (d + 1) mc ms) (s := s) (m := m) (args := (as.map (am_v ad0)).toArray) (below := below) (meth := meth) (c := c) (Qf := MQ below (am_Qc D cA B ad0 hp mc Q) (as.map (am_v ad0)).toArray s mc ms (fun a => B ≤ a)) (n0 := hp.1.length) (dd := d) hX hI (fun mid2 as2 hp2 c2 s2 Q2 hm2 hr2 => am_run_snd hI hY hM d mid2 as2 hp2 c2 s2 Q2 hm2 hr2) ⟨by show d + 9 ≤ d + 1 + 8; omega, by show 60 * d + 460 ≤ 60 * (d + 1) + 400; omega⟩ hY ?_)
    · have hl := lv_entry (as.map (am_v ad0)) (n := (Y mid).2.2.1) (by rw [am_sl_len]; rw [← m3]; exact hsz)
      rw [lg_entry_eq]
      generalize (lg_sl (as.map (am_v ad0)) ++ List.replicate ((Y mid).2.2.1 - (lg_sl (as.map (am_v ad0))).length) Slot.unset).toArray = la at hl ⊢
      have k := key ad0 s.heap [] la ⟨⟨List.suffix_refl _, fun _ => rfl, fun _ _ => rfl, Nat.le_refl _, Nat.zero_le _, Nat.zero_le _⟩, hP, hD, va_S.rf, hl.1, hl.2.1, fun i v hg => ?_, ?_⟩
      · dsimp only at k
        rw [m2] at k
        exact k
      · have := am_ent_at (ad := ad0) (M mid).2 as 0 i v hg
        rw [Nat.zero_add] at this
        exact hl.2.2 _ this
      · show (am_ent (M mid).2 as).length = _
        rw [am_ent_len, m3]
    · intro pc ins rs im wl is ls st hp2 nc ns ad H locs la hr hdg o hQ hRT
      refine W.widen hr.1.2.2.2.2.1 hr.1.2.2.2.2.2 ?_
      have hend : ∀ t : State, t.heap = H → s.WarmedH t.vm → am_Qc D cA B ad0 hp mc Q (as.map (am_v ad0)).toArray s (.returned (o.map (am_v ad))) t := fun t ht _ => ⟨⟨o, hp2, ad, rfl, hQ, hr.1.2.1, hr.1.2.2.1, hr.1.2.2.2.1, by rw [ht]; exact hr.2.1, hr.2.2.1⟩, hr.2.2.2.1.F ht⟩
      rcases hRT with ⟨x, rfl, rfl, rfl, hret⟩ | ⟨x, rfl, rfl, rfl, hret⟩ | ⟨k, C, rfl, rfl, rfl, hret⟩ | ⟨rfl, rfl, rfl, hret⟩
      · rcases hret with hret | ⟨hret, hx01⟩
        · exact W.iret (v := x) hx hb (hrt.trans hret) hend hr.2.2.2.1.2.2 hdg
        · exact W.zret (v := x) (ty := .boolean) hx hb (hrt.trans hret) (by rcases hx01 with rfl | rfl <;> rfl) hend hr.2.2.2.1.2.2 hdg
      · exact W.lret (v := x) hx hb (hrt.trans hret) hend hr.2.2.2.1.2.2 hdg
      · exact W.aret (v := .ref (ad k)) hx hb (hrt.trans hret) (Or.inl ⟨C, rfl⟩) (Or.inr ⟨_, rfl⟩) hend hr.2.2.2.1.2.2 hdg
      · exact W.vret hx hb (hrt.trans hret) hend hr.2.2.2.1.2.2 hdg
end
